/-! TEMPER, NOW, SOLD, WHOSE. -/
set_option maxRecDepth 20000 in
theorem bt_mask : ∀ k, k < 64 → ∀ m, m < 6 → ∀ o, o < 6 → (bt (nI k &&& ((1 : Int32) <<< (nI m &&& 31) - 1)) o ↔ (bt (nI k) o ∧ o < m)) := by decide +kernel
set_option maxRecDepth 20000 in
theorem mask_nI : ∀ k, k < 64 → ∀ m, m < 6 → nI k &&& ((1 : Int32) <<< (nI m &&& 31) - 1) = nI (k % 2 ^ m) := by decide +kernel
theorem sm_zero {f : Nat → Int32} : ∀ {n : Nat}, (∀ k, k < n → f k = 0) → sm f n = 0
  | 0, _ => rfl
  | n + 1, h => by rw [sm, sm_zero (fun k hk => h k (by omega)), h n (by omega)]; rfl
theorem sm_cut {f : Nat → Int32} {m n : Nat} (hm : m ≤ n) (h : ∀ k, m ≤ k → k < n → f k = 0) : sm f n = sm f m := by
  induction n with
  | zero => have : m = 0 := by omega
            subst this; rfl
  | succ n ih =>
    by_cases e : m = n + 1
    · subst e; rfl
    · rw [sm, ih (by omega) (fun k h1 h2 => h k h1 (by omega)), h n (by omega) (by omega), Int32.add_zero]
/-- BESIDE of all twos of a shift: those below each man -/
def tmp (N : Nat) (ne : Nat → Nat → Int32) (s : Int32) : Int32 := sm (fun m => if bt s m then sm (fun o => if bt s o then ne m o else 0) m else 0) N
theorem tmp_cong {N : Nat} {ne ne' : Nat → Nat → Int32} {s : Int32} (h1 : ∀ a, a < N → ∀ b, b < N → ne' a b = ne a b) : tmp N ne' s = tmp N ne s :=
  sm_cong (fun m hm => by
    have : sm (fun o => if bt s o then ne' m o else 0) m = sm (fun o => if bt s o then ne m o else 0) m := sm_cong (fun o ho => by rw [h1 m hm o (by omega)])
    rw [this])
theorem x_temper {N k : Nat} {σ : St} {post : Int32 → St → Prop} (hx : σ.1 21 0 = nI N) (hN : N ≤ 6) (hT : PT N σ) (hk : k < 2 ^ N) (h : post (tmp N (xne σ) (nI k)) σ) : ∃ n, f_X11_temper_L18 (nI k) post n 0 0 σ := by
  have hp := pw6 hN
  refine floop (P := fun n j => f_X11_temper_L18 (nI k) post n (sm (fun m => if bt (nI k) m then sm (fun o => if bt (nI k) o then xne σ m o else 0) m else 0) j) (nI j) σ) N (fun n => ?_) (fun n j hj ih => ?_)
  · rw [f_X11_temper_L18]
    exact br_t (le_t hx rfl (by omega) (by omega)) h
  · rw [f_X11_temper_L18]
    refine br_f (le_f hx rfl (by omega) (by omega)) ?_
    rw [nI_1]
    rw [sm] at ih
    refine ⟨fun c => ?_, fun c => ?_⟩
    · rw [if_neg c] at ih; exact ih
    · rw [if_pos c] at ih
      have hlt : k % 2 ^ j < 2 ^ N := Nat.lt_of_lt_of_le (Nat.mod_lt _ (Nat.pow_pos (by omega))) (Nat.pow_le_pow_right (by omega) (by omega))
      rw [mask_nI k (by omega) j (by omega), f_X0_pullOf, nI_clamp (by omega), nI_clamp (by omega), hT j hj _ hlt]
      have e : pl N (σ.1 (25 + j)) (nI (k % 2 ^ j)) = sm (fun o => if bt (nI k) o then xne σ j o else 0) j := by
        unfold pl
        rw [← mask_nI k (by omega) j (by omega), sm_cut (m := j) (by omega) (fun o h1 h2 => ?_)]
        · refine sm_cong (fun o ho => ?_)
          have := bt_mask k (by omega) j (by omega) o (by omega)
          by_cases q : bt (nI k) o
          · rw [if_pos (this.mpr ⟨q, ho⟩), if_pos q]
          · rw [if_neg (fun w => q (this.mp w).1), if_neg q]
        · have := bt_mask k (by omega) j (by omega) o (by omega)
          rw [if_neg (fun w => by have := (this.mp w).2; omega)]
      rw [e]
      exact ⟨pk_in j 6 (by omega), pk_in (k % 2 ^ j) 64 (by omega), ih⟩
theorem m_temper {N : Nat} {s : Int32} {τ : St} {post : Int32 → St → Prop} (hx : τ.1 2 0 = nI N) (hN : N ≤ 6) (h : post (tmp N (mne τ) s) τ) : ∃ n, f_X12_temper_L15 s post n 0 0 τ := by
  refine floop (P := fun n j => f_X12_temper_L15 s post n (sm (fun m => if bt s m then sm (fun o => if bt s o then mne τ m o else 0) m else 0) j) (nI j) τ) N (fun n => ?_) (fun n j hj ih => ?_)
  · rw [f_X12_temper_L15]
    exact br_t (le_t hx rfl (by omega) (by omega)) h
  · rw [f_X12_temper_L15]
    refine br_f (le_f hx rfl (by omega) (by omega)) ?_
    rw [sm] at ih
    generalize hA : sm (fun m => if bt s m then sm (fun o => if bt s o then mne τ m o else 0) m else 0) j = A at ih ⊢
    refine Exists.imp (fun n hn => ?_) (floop (P := fun n' i => f_X12_temper_L28 s (fun x10 x11 σ9 => f_X12_temper_L15 s post n x10 (x11 + 1) σ9) post n' (A + (if bt s j then sm (fun o => if bt s o then mne τ j o else 0) i else 0)) (nI j) (nI i) τ) j (fun n' => ?_) (fun n' i hi ih2 => ?_))
    · have e : (if bt s j then sm (fun o => if bt s o then mne τ j o else 0) 0 else 0) = 0 := by split <;> rfl
      rw [e, Int32.add_zero] at hn
      exact hn
    · rw [f_X12_temper_L28]
      refine br_t (nI_le (Nat.le_refl _) (by omega)) ?_
      rw [nI_1]
      exact ih
    · rw [f_X12_temper_L28]
      refine br_f (nI_ge hi (by omega)) ?_
      rw [nI_1]
      refine ⟨fun c => ?_, fun c => ?_⟩
      · rw [if_neg c] at ih2 ⊢
        rw [Int32.add_zero] at ih2 ⊢
        rw [Int32.add_zero]; exact ih2
      · rw [if_pos c] at ih2 ⊢
        rw [sm, ← Int32.add_assoc] at ih2
        refine ⟨fun c2 => ?_, fun c2 => ?_⟩
        · rw [if_neg c2] at ih2; exact ih2
        · rw [if_pos c2] at ih2
          rw [show (6 : Int32) * nI j + nI i = nI (6 * j + i) by rw [nl 6, pk_mul, nI_add], nI_clamp (by omega)]
          exact ⟨pk_in (6 * j + i) 72 (by omega), ih2⟩
theorem sim_temper (a : Int32) : Sm (f_X11_temper a) (f_X12_temper a) := by
  intro σ τ h
  obtain ⟨N, hc, hn, -⟩ := id h
  obtain ⟨c1, c2, c3, c4, c5, c6, c7, c8, c9, c10, c11, c12⟩ := id hc
  rw [f_X11_temper]
  refine x_isShift c2 c1 (fun q => ⟨fun _ => ?_, fun q => absurd q (by decide)⟩) (fun q => ⟨fun q => absurd rfl q, fun _ => ?_⟩)
  · obtain ⟨k, hk, rfl, hb⟩ := id q
    refine x_temper c2 c1 c11 hk ?_
    rw [f_X12_temper]
    refine m_isShift c3 c1 (fun w => ⟨fun _ => ?_, fun q => absurd q (by decide)⟩) (fun w => absurd (by rw [c4]; exact q) w)
    exact m_temper c3 c1 ⟨(tmp_cong hc.ne).symm, h⟩
  · rw [f_X12_temper]
    refine m_isShift c3 c1 (fun w => absurd (by rw [c4] at w; exact w) q) (fun _ => ⟨fun q => absurd rfl q, fun _ => ⟨rfl, h⟩⟩)
/-! NOW -/
theorem x_sumOf {N r n : Nat} {σ : St} {post : Int32 → St → Prop} (hx : σ.1 21 0 = nI N) (hN : N ≤ 6) (hn : 6 ≤ n ∧ n < 2 ^ 31) (h : post (sm (σ.1 r) N) σ) : f_X11_sumOf r n σ post := by
  rw [f_X11_sumOf]
  refine floop (P := fun i j => f_X11_sumOf_L4 r n post i (sm (σ.1 r) j) (nI j) σ) N (fun i => ?_) (fun i j hj ih => ?_)
  · rw [f_X11_sumOf_L4]
    exact br_t (le_t hx rfl (by omega) (by omega)) h
  · rw [f_X11_sumOf_L4]
    refine br_f (le_f hx rfl (by omega) (by omega)) ⟨pk_in j n (by omega), ?_⟩
    rw [nI_clamp (by omega), nI_1]
    exact ih
/-- the greatest of the halves, and one; 0 of nobody -/
def mh (x : Nat → Int32) : Nat → Int32
  | 0 => 0
  | n + 1 => if mh x n < x n / 2 + 1 then x n / 2 + 1 else mh x n
theorem x_pay {N : Nat} {σ : St} {post : Int32 → St → Prop} (hx : σ.1 21 0 = nI N) (hN : N ≤ 6) (h : post (mh (σ.1 40) N) σ) : f_X11_payForAll σ post := by
  rw [f_X11_payForAll]
  refine floop (P := fun i j => f_X11_payForAll_L4 post i (mh (σ.1 40) j) (nI j) σ) N (fun i => ?_) (fun i j hj ih => ?_)
  · rw [f_X11_payForAll_L4]
    exact br_t (le_t hx rfl (by omega) (by omega)) h
  · rw [f_X11_payForAll_L4]
    refine br_f (le_f hx rfl (by omega) (by omega)) ⟨pk_in j 6 (by omega), ?_⟩
    rw [nI_clamp (by omega), nI_1]
    rintro _ rfl
    exact ih
theorem mh_nI {N : Nat} {x : Nat → Int32} (h : ∀ m, m < N → rg 0 999 (x m)) : ∀ j, j ≤ N → ∃ k, k ≤ 500 ∧ mh x j = nI k := by
  intro j
  induction j with
  | zero => intro _; exact ⟨0, by omega, rfl⟩
  | succ j ih =>
    intro hj
    obtain ⟨k, hk, e⟩ := ih (by omega)
    obtain ⟨q, hq, eq⟩ := rg_nI (b := 999) (h j (by omega)) (by omega)
    rw [mh, e, eq, half_nI (by omega), nI_1]
    split
    · exact ⟨q / 2 + 1, by omega, rfl⟩
    · exact ⟨k, hk, rfl⟩
theorem m_now {N : Nat} {a : Int32} {τ : St} {k86 : Int32 → Int32 → Int32 → St → Prop} {post : Int32 → St → Prop} (hx : τ.1 2 0 = nI N) (hN : N ≤ 6) (hs : ∀ m, m < N → rg 0 999 (τ.1 8 m)) (h : k86 (sm (τ.1 8) N) (sm (fun m => τ.1 8 (6 + m)) N) (mh (τ.1 8) N - 1) τ) : ∃ n, f_X12_now_L10 a k86 post n 0 0 (-1) 0 τ := by
  refine Exists.imp (fun n hn => ?_) (floop (P := fun i j => f_X12_now_L10 a k86 post i (sm (τ.1 8) j) (sm (fun m => τ.1 8 (6 + m)) j) (mh (τ.1 8) j - 1) (nI j) τ) N (fun i => ?_) (fun i j hj ih => ?_))
  · exact hn
  · rw [f_X12_now_L10]
    exact br_t (le_t hx rfl (by omega) (by omega)) h
  · rw [f_X12_now_L10]
    refine br_f (le_f hx rfl (by omega) (by omega)) ?_
    rw [Int32.zero_add, show (6 : Int32) + nI j = nI (6 + j) by rw [nl 6, nI_add], nI_clamp (by omega), nI_clamp (by omega), nI_1]
    refine ⟨pk_in j 465 (by omega), pk_in (6 + j) 465 (by omega), pk_in j 465 (by omega), ?_⟩
    obtain ⟨k, hk, e⟩ := mh_nI hs j (by omega)
    obtain ⟨q, hq, eq⟩ := rg_nI (b := 999) (hs j hj) (by omega)
    have hm1 : (nI k - 1).toInt = (k : Int) - 1 := by
      have := pk_sub_toInt (a := k) (b := 1) (by omega) (by omega)
      exact this
    have hc : (τ.1 8 j / 2 ≤ mh (τ.1 8) j - 1) ↔ ¬ mh (τ.1 8) j < τ.1 8 j / 2 + 1 := by
      rw [e, eq, half_nI (by omega), nI_1, Int32.le_iff_toInt_le, hm1, nI_toInt (by omega), nI_ltI (by omega) (by omega)]
      omega
    rw [mh] at ih
    refine ⟨fun c => ?_, fun c => ⟨pk_in j 465 (by omega), ?_⟩⟩
    · rw [if_neg (hc.mp c)] at ih
      exact ih
    · rw [if_pos (Decidable.byContradiction fun w => c (hc.mpr w))] at ih
      have : τ.1 8 j / 2 + 1 - 1 = τ.1 8 j / 2 := by rw [eq, half_nI (by omega), nI_1, nI_pred]
      rw [this] at ih
      exact ih
theorem sim_now (a : Int32) : Sm (f_X11_now a) (f_X12_now a) := by
  intro σ τ h
  obtain ⟨N, hc, hn, -⟩ := id h
  obtain ⟨c1, c2, c3, c4, c5, c6, c7, c8, c9, c10, c11, c12⟩ := id hc
  obtain ⟨n1, n2, n3, n4, n5⟩ := id hn
  have hs : ∀ m, m < N → rg 0 999 (τ.1 8 m) := fun m hm => by rw [(n1 m hm).1]; exact (n1 m hm).2.1
  have hmh : ∀ j, j ≤ N → mh (τ.1 8) j = mh (σ.1 40) j := by
    intro j
    induction j with
    | zero => intro _; rfl
    | succ j ih => intro hj; rw [mh, mh, ih (by omega), (n1 j (by omega)).1]
  obtain ⟨q, hq, eq⟩ := mh_nI hs N (Nat.le_refl N)
  have key : ∀ r : Int32, (a = 0 → r = τ.1 8 13) → (a = 1 → r = τ.1 8 12) → (a = 2 → r = sm (τ.1 8) N) → (a = 3 → r = sm (fun m => τ.1 8 (6 + m)) N) → (a = 4 → r = mh (τ.1 8) N) → (¬ a = 0 → ¬ a = 1 → ¬ a = 2 → ¬ a = 3 → ¬ a = 4 → r = -1) → f_X12_now a τ (fun r' τ' => r = r' ∧ Rl σ τ') := by
    intro r q0 q1 q2 q3 q4 q5
    rw [f_X12_now]
    refine m_now c3 c1 hs ⟨fun q => ⟨q0 q, h⟩, fun q => ⟨q1 q, h⟩, fun q => ⟨q2 q, h⟩, fun q => ⟨q3 q, h⟩, fun q => ⟨?_, h⟩, fun a b c d e => ⟨q5 a b c d e, h⟩⟩
    rw [q4 q, Int32.sub_add_cancel]
  rw [f_X11_now]
  refine ⟨fun q => ?_, fun q => ?_, fun q => x_sumOf c2 c1 (by decide) ?_, fun q => x_sumOf c2 c1 (by decide) ?_, fun q => x_pay c2 c1 ?_, fun q0 q1 q2 q3 q4 => ?_⟩
  · subst q; exact key _ (fun _ => n3.symm) (fun q => absurd q (by decide)) (fun q => absurd q (by decide)) (fun q => absurd q (by decide)) (fun q => absurd q (by decide)) (fun q => absurd rfl q)
  · subst q; exact key _ (fun q => absurd q (by decide)) (fun _ => n2.symm) (fun q => absurd q (by decide)) (fun q => absurd q (by decide)) (fun q => absurd q (by decide)) (fun _ q => absurd rfl q)
  · subst q; exact key _ (fun q => absurd q (by decide)) (fun q => absurd q (by decide)) (fun _ => sm_cong (fun m hm => (n1 m hm).1.symm)) (fun q => absurd q (by decide)) (fun q => absurd q (by decide)) (fun _ _ q => absurd rfl q)
  · subst q; exact key _ (fun q => absurd q (by decide)) (fun q => absurd q (by decide)) (fun q => absurd q (by decide)) (fun _ => sm_cong (fun m hm => (n1 m hm).2.2.1.symm)) (fun q => absurd q (by decide)) (fun _ _ _ q => absurd rfl q)
  · subst q; exact key _ (fun q => absurd q (by decide)) (fun q => absurd q (by decide)) (fun q => absurd q (by decide)) (fun q => absurd q (by decide)) (fun _ => (hmh N (Nat.le_refl N)).symm) (fun _ _ _ _ q => absurd rfl q)
  · exact key _ (fun q => absurd q q0) (fun q => absurd q q1) (fun q => absurd q q2) (fun q => absurd q q3) (fun q => absurd q q4) (fun _ _ _ _ _ => rfl)
