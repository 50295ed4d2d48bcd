/-! What may be UNDONE: one page more. -/
def kk (K : Nat) : Nat := if K = 10 then 9 else K
def ks' (K : Nat) : Nat := if K = 10 then 1 else 0
/-- X's past behind one page more -/
def XPg (K : Nat) (σ : St) (p' : Nat → Int32) : Prop := (∀ q, q < kk K → ∀ i, i < 14 → p' (14 * q + i) = σ.1 42 (14 * (q + ks' K) + i)) ∧ (∀ i, i < 6 → p' (14 * kk K + i) = σ.1 40 i) ∧ (∀ i, i < 6 → p' (14 * kk K + (6 + i)) = σ.1 41 i) ∧ p' (14 * kk K + 12) = σ.1 39 2 ∧ p' (14 * kk K + 13) = σ.1 39 3
/-- M's row behind one page more -/
def MPg (K : Nat) (τ : St) (g' : Nat → Int32) : Prop := (∀ i, i < 14 → g' i = τ.1 8 i) ∧ g' 14 = nI (kk K + 1) ∧ (∀ q, q < kk K → ∀ i, i < 14 → g' (15 + 14 * q + i) = τ.1 8 (15 + 14 * (q + ks' K) + i)) ∧ (∀ i, i < 14 → g' (15 + 14 * kk K + i) = τ.1 8 i) ∧ (∀ i, 155 ≤ i → g' i = τ.1 8 i)
theorem kk_le {K : Nat} (h : K ≤ 10) : kk K ≤ 9 := by unfold kk; split <;> omega
theorem kk_ks {K : Nat} (h : K ≤ 10) : kk K + ks' K = K := by unfold kk ks'; split <;> omega
theorem cpy_neg : ¬ (0 : Int32) < 0 ∧ ¬ (6 : Int32) < 0 ∧ (0 : Int32).toNatClampNeg = 0 ∧ (6 : Int32).toNatClampNeg = 6 := by decide
theorem x_rem37 {K : Nat} {σ : St} {post : St → Prop} (hK : K ≤ 9) (hk : σ.1 39 4 = nI K)
    (h : ∀ p', (∀ i, i < 14 * K → p' i = σ.1 42 i) → (∀ i, i < 6 → p' (14 * K + i) = σ.1 40 i) → (∀ i, i < 6 → p' (14 * K + (6 + i)) = σ.1 41 i) → p' (14 * K + 12) = σ.1 39 2 → p' (14 * K + 13) = σ.1 39 3 → post (st_up (st_row σ 42 p') 39 4 (nI (K + 1)))) : f_X4_remembers_J37 post σ := by
  obtain ⟨z1, z2, z3, z4⟩ := cpy_neg
  have e14 : nI K * 14 = nI (14 * K) := by rw [nl 14, pk_mul, Nat.mul_comm]
  have e6 : nI (14 * K) + 6 = nI (14 * K + 6) := by rw [nl 6, nI_add]
  have e12 : nI (14 * K) + 14 - 2 = nI (14 * K + 12) := by rw [nl 14, nI_add, nl 2, pk_sub (by omega), show 14 * K + 14 - 2 = 14 * K + 12 by omega]
  have e13 : nI (14 * K) + 14 - 1 = nI (14 * K + 13) := by rw [nl 14, nI_add, nl 1, pk_sub (by omega), show 14 * K + 14 - 1 = 14 * K + 13 by omega]
  rw [f_X4_remembers_J37, hk, e14, e6, e12, e13, z3, z4, nI_clamp (n := 14 * K) (by omega), nI_clamp (n := 14 * K + 6) (by omega), nI_clamp (n := 14 * K + 12) (by omega), nI_clamp (n := 14 * K + 13) (by omega)]
  refine ⟨⟨z1, nI_pos (by omega), z2, by omega, by omega⟩, ?_⟩
  rintro _ rfl
  refine ⟨⟨z1, nI_pos (by omega), z2, by omega, by omega⟩, ?_⟩
  rintro _ rfl
  refine ⟨pk_in (14 * K + 12) 140 (by omega), ?_⟩
  rintro _ rfl
  refine ⟨pk_in (14 * K + 13) 140 (by omega), ?_⟩
  rintro _ rfl
  rw [st_row_row, st_up_row, st_up_row]
  have e39 : ∀ (p : Nat → Int32), (st_row σ 42 p).1 39 = σ.1 39 := fun p => rfl
  have e40 : ∀ (p : Nat → Int32), (st_row σ 42 p).1 41 = σ.1 41 := fun p => rfl
  simp only [e39, e40, st_row_self, hk, nI_1]
  refine h _ (fun i hi => ?_) (fun i hi => ?_) (fun i hi => ?_) ?_ ?_
  · rw [upd, if_neg (by omega), upd, if_neg (by omega), pk_cpy_out (by omega), pk_cpy_out (by omega)]
  · rw [upd, if_neg (by omega), upd, if_neg (by omega), pk_cpy_out (by omega), pk_cpy_in (by omega) (by omega)]
    exact congrArg (σ.1 40) (by omega)
  · rw [upd, if_neg (by omega), upd, if_neg (by omega), pk_cpy_in (by omega) (by omega)]
    exact congrArg (σ.1 41) (by omega)
  · rw [upd, if_neg (by omega), upd, if_pos rfl]
  · rw [upd, if_pos rfl]
theorem st_39_42 (σ : St) (s p : Nat → Int32) (x y : Int32) : st_up (st_row (st_up (st_row σ 42 s) 39 4 x) 42 p) 39 4 y = st_up (st_row σ 42 p) 39 4 y := by
  refine Prod.ext (funext fun c => ?_) rfl
  by_cases e : c = 39
  · subst e
    show upd (upd (σ.1 39) 4 x) 4 y = upd (σ.1 39) 4 y
    funext i
    unfold upd
    by_cases h : i = 4 <;> simp [h]
  · rw [st_up_ne _ e, st_up_ne _ e]
    by_cases e2 : c = 42
    · subst e2; rw [st_row_self, st_row_self]
    · rw [st_row_ne _ _ e2, st_row_ne _ _ e2, st_up_ne _ e, st_row_ne _ _ e2]
theorem x_remembers {K : Nat} {σ : St} {post : St → Prop} (hK : K ≤ 10) (hk : σ.1 39 4 = nI K) (h : ∀ p', XPg K σ p' → post (st_up (st_row σ 42 p') 39 4 (nI (kk K + 1)))) : f_X4_remembers σ post := by
  rw [f_X4_remembers, hk]
  refine ⟨fun q => ?_, fun q => ?_⟩
  · have hlt : K < 10 := (nI_ltI (b := 10) (by omega) (by omega)).mp q
    have ek : kk K = K := by unfold kk; rw [if_neg (by omega)]
    have es : ks' K = 0 := by unfold ks'; rw [if_neg (by omega)]
    refine x_rem37 (K := K) (by omega) hk (fun p' h1 h2 h3 h4 h5 => ?_)
    have := h p' ⟨fun q hq i hi => ?_, ?_, ?_, ?_, ?_⟩
    · rw [ek] at this; exact this
    · rw [es, h1 _ (by omega)]; rfl
    · rw [ek]; exact h2
    · rw [ek]; exact h3
    · rw [ek]; exact h4
    · rw [ek]; exact h5
  · have hge : K = 10 := by
      have : ¬ K < 10 := fun w => q ((nI_ltI (b := 10) (a := K) (by omega) (by omega)).mpr w)
      omega
    subst hge
    refine ⟨by decide, ?_⟩
    have e126 : ((140 - 14) : Int32).toNatClampNeg = 126 := by decide
    rw [e126]
    try rintro _ rfl
    refine x_rem37 (K := 9) (by omega) (st_up_at _ _ _ _) (fun p' h1 h2 h3 h4 h5 => ?_)
    rw [st_39_42]
    refine h p' ⟨fun q hq i hi => ?_, h2, h3, h4, h5⟩
    have hq : q < 9 := hq
    rw [h1 _ (by omega)]
    show va_cpy (σ.1 42) (σ.1 42) 14 0 126 (14 * q + i) = _
    rw [pk_cpy_in (by omega) (by omega)]
    exact congrArg (σ.1 42) (show 14 + (14 * q + i - 0) = 14 * (q + 1) + i by omega)
theorem m_know57 {K : Nat} {τ : St} {k95 post : St → Prop} (hK : K ≤ 9) (hk : τ.1 8 14 = nI K) (h : k95 (st_row τ 8 (wr (τ.1 8) (τ.1 8) (15 + 14 * K) 14))) : ∃ n, f_X12_know_L57 k95 post n 0 τ := by
  refine Exists.imp (fun n hn => ?_) (floop (P := fun n j => f_X12_know_L57 k95 post n (nI j) (st_row τ 8 (wr (τ.1 8) (τ.1 8) (15 + 14 * K) j))) 14 (fun n => ?_) (fun n j hj ih => ?_))
  · rw [wr_0, st_row_id] at hn
    exact hn
  · rw [f_X12_know_L57]
    exact br_t (le_t (nl 14) rfl (by omega) (by omega)) h
  · rw [f_X12_know_L57]
    refine br_f (le_f (nl 14) rfl (by omega) (by omega)) ?_
    have e : 15 + 14 * nI K + nI j = nI (15 + 14 * K + j) := by rw [nl 15, nl 14, pk_mul, nI_add, nI_add]
    rw [st_row_self, wr_out (i := 14) (by omega), hk, e, nI_clamp (by omega), nI_clamp (by omega), wr_out (i := j) (by omega), st_up_row, wr_succ, nI_1]
    exact ⟨pk_in j 465 (by omega), pk_in (15 + 14 * K + j) 465 (by omega), ih⟩
theorem m_know {K : Nat} {τ : St} {post : St → Prop} (hK : K ≤ 10) (hk : τ.1 8 14 = nI K) (h : ∀ g', MPg K τ g' → post (st_row τ 8 g')) : f_X12_know τ post := by
  rw [f_X12_know, hk]
  refine ⟨fun q => ?_, fun q => ?_⟩
  · have hne : K ≠ 10 := fun e => q (by rw [e]; rfl)
    have ek : kk K = K := by unfold kk; rw [if_neg hne]
    have es : ks' K = 0 := by unfold ks'; rw [if_neg hne]
    refine m_know57 (K := K) (by omega) hk ?_
    rw [st_row_self, wr_out (i := 14) (by omega), hk, nI_1, st_up_row]
    refine h _ ⟨fun i hi => ?_, ?_, fun q hq i hi => ?_, fun i hi => ?_, fun i hi => ?_⟩
    · rw [upd, if_neg (by omega), wr_out (by omega)]
    · rw [upd, if_pos rfl, ek]
    · rw [ek] at hq
      rw [es, upd, if_neg (by omega), wr_out (by omega)]; rfl
    · rw [ek, upd, if_neg (by omega), wr_in hi]
    · rw [upd, if_neg (by omega), wr_out (by omega)]
  · have he : K = 10 := (nI_eq (b := 10) (by omega) (by omega)).mp q
    subst he
    refine Exists.imp (fun n hn => ?_) (floop (P := fun n j => f_X12_know_L14 (fun σ10 => ∃ n12 : Nat, f_X12_know_L57 (fun σ11 => post (st_up σ11 8 14 ((σ11.1 8 14) + 1))) post n12 0 (st_up σ10 8 14 ((σ10.1 8 14) - 1))) post n (nI j) (st_row τ 8 (wr (fun i => τ.1 8 (29 + i)) (τ.1 8) 15 j))) 126 (fun n => ?_) (fun n j hj ih => ?_))
    · rw [wr_0, st_row_id] at hn
      exact hn
    · rw [f_X12_know_L14]
      refine br_t (le_t (nl 126) rfl (by omega) (by omega)) ?_
      rw [st_row_self, wr_out (i := 14) (by omega), hk, st_up_row]
      have e9 : nI 10 - 1 = nI 9 := nI_pred 9
      rw [e9]
      refine m_know57 (K := 9) (by omega) (by rw [st_row_self, upd, if_pos rfl]) ?_
      rw [st_row_row, st_row_self, st_row_self, wr_out (i := 14) (by omega), upd, if_pos rfl, nI_1, st_up_row]
      refine h _ ⟨fun i hi => ?_, ?_, fun q hq i hi => ?_, fun i hi => ?_, fun i hi => ?_⟩
      · rw [upd, if_neg (by omega), wr_out (by omega), upd, if_neg (by omega), wr_out (by omega)]
      · rw [upd, if_pos rfl]; rfl
      · have hq : q < 9 := hq
        rw [upd, if_neg (by omega), wr_out (by omega), upd, if_neg (by omega), show 15 + 14 * q + i = 15 + (14 * q + i) by omega, wr_in (by omega)]
        exact congrArg (τ.1 8) (show 29 + (14 * q + i) = 15 + 14 * (q + 1) + i by omega)
      · show upd _ 14 _ (15 + 14 * 9 + i) = _
        rw [upd, if_neg (by omega), wr_in hi, upd, if_neg (by omega), wr_out (by omega)]
      · rw [upd, if_neg (by omega), wr_out (by omega), upd, if_neg (by omega), wr_out (by omega)]
    · rw [f_X12_know_L14]
      refine br_f (le_f (nl 126) rfl (by omega) (by omega)) ?_
      have ea : 29 + nI j = nI (29 + j) := by rw [nl 29, nI_add]
      have eb : 15 + nI j = nI (15 + j) := by rw [nl 15, nI_add]
      rw [ea, eb, nI_clamp (by omega), nI_clamp (by omega), st_row_self, wr_out (i := 29 + j) (by omega), st_up_row]
      have ec : upd (wr (fun i => τ.1 8 (29 + i)) (τ.1 8) 15 j) (15 + j) (τ.1 8 (29 + j)) = wr (fun i => τ.1 8 (29 + i)) (τ.1 8) 15 (j + 1) := wr_succ (fun i => τ.1 8 (29 + i)) (τ.1 8) 15 j
      rw [ec, nI_1]
      exact ⟨pk_in (29 + j) 465 (by omega), pk_in (15 + j) 465 (by omega), ih⟩
/-- a page more on both sides: NOW is still the same on both -/
theorem NR_know {N K : Nat} {σ τ : St} {p' g' : Nat → Int32} (hN : N ≤ 6) (hK : K ≤ 10) (hk1 : σ.1 39 4 = nI K) (hx : XPg K σ p') (hm : MPg K τ g') (h : RN N σ τ) : NR N (σ.1 40) (σ.1 41) p' (σ.1 39 2) (σ.1 39 3) (nI (kk K + 1)) g' := by
  obtain ⟨h1, h2, h3, h4, K2, k1, k2, k3, k4⟩ := h
  have : K2 = K := by rw [hk1, nI_eq (by omega) (by omega)] at k2; exact k2.symm
  subst this
  obtain ⟨x1, x2, x3, x4, x5⟩ := hx
  obtain ⟨m1, m2, m3, m4, m5⟩ := hm
  have hkk := kk_le hK
  refine ⟨fun m hm => ?_, ?_, ?_, h4, kk K2 + 1, by omega, rfl, m2, fun q hq => ?_⟩
  · rw [m1 m (by omega), m1 (6 + m) (by omega)]; exact h1 m hm
  · rw [m1 12 (by omega)]; exact h2
  · rw [m1 13 (by omega)]; exact h3
  · by_cases e : q = kk K2
    · subst e
      refine ⟨fun m hm => ?_, ?_, ?_, ?_⟩
      · show g' (15 + 14 * kk K2 + m) = p' (14 * kk K2 + m) ∧ rg 0 999 (p' (14 * kk K2 + m)) ∧ g' (15 + 14 * kk K2 + (6 + m)) = p' (14 * kk K2 + (6 + m)) ∧ rg 0 499 (p' (14 * kk K2 + (6 + m)))
        rw [m4 m (by omega), m4 (6 + m) (by omega), x2 m (by omega), x3 m (by omega)]
        exact h1 m hm
      · show g' (15 + 14 * kk K2 + 12) = p' (14 * kk K2 + 12)
        rw [m4 12 (by omega), x4]; exact h2
      · show g' (15 + 14 * kk K2 + 13) = p' (14 * kk K2 + 13)
        rw [m4 13 (by omega), x5]; exact h3
      · show rg 0 300 (p' (14 * kk K2 + 13))
        rw [x5]; exact h4
    · have hq2 : q < kk K2 := by omega
      have hs := kk_ks hK
      obtain ⟨g1, g2, g3, g4⟩ := k4 (q + ks' K2) (by omega)
      refine ⟨fun m hm => ?_, ?_, ?_, ?_⟩
      · show g' (15 + 14 * q + m) = p' (14 * q + m) ∧ rg 0 999 (p' (14 * q + m)) ∧ g' (15 + 14 * q + (6 + m)) = p' (14 * q + (6 + m)) ∧ rg 0 499 (p' (14 * q + (6 + m)))
        rw [m3 q hq2 m (by omega), m3 q hq2 (6 + m) (by omega), x1 q hq2 m (by omega), x1 q hq2 (6 + m) (by omega)]
        exact g1 m hm
      · show g' (15 + 14 * q + 12) = p' (14 * q + 12)
        rw [m3 q hq2 12 (by omega), x1 q hq2 12 (by omega)]; exact g2
      · show g' (15 + 14 * q + 13) = p' (14 * q + 13)
        rw [m3 q hq2 13 (by omega), x1 q hq2 13 (by omega)]; exact g3
      · show rg 0 300 (p' (14 * q + 13))
        rw [x1 q hq2 13 (by omega)]; exact g4
theorem RI_know {N : Nat} {σ σ' τ τ' : St} (h52 : σ'.1 52 = σ.1 52) (h44 : σ'.1 44 = σ.1 44) (h45 : σ'.1 45 = σ.1 45) (h46 : σ'.1 46 = σ.1 46) (h47 : σ'.1 47 = σ.1 47) (h48 : σ'.1 48 = σ.1 48) (h49 : σ'.1 49 = σ.1 49) (h50 : σ'.1 50 = σ.1 50) (h51 : σ'.1 51 = σ.1 51) (h9 : τ'.1 9 = τ.1 9) (h8 : ∀ i, 155 ≤ i → τ'.1 8 i = τ.1 8 i) (h : RI N σ τ) : RI N σ' τ' := by
  have e1 : (fun i => τ'.1 8 (155 + i)) = fun i => τ.1 8 (155 + i) := funext fun i => h8 _ (by omega)
  have e2 : (fun i => τ'.1 8 (310 + i)) = fun i => τ.1 8 (310 + i) := funext fun i => h8 _ (by omega)
  unfold RI
  rw [h52, h44, h45, h46, h47, h48, h49, h50, h51, h9, e1, e2]
  exact h
