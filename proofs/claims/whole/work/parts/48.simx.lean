/-! PIT: what the crew measures. -/
theorem or_same : ∀ k, k < 64 → ∀ a, a < 6 → bt (nI k) a → k ||| (1 <<< a) = k := by decide +kernel
theorem x_pull {N a k : Nat} {σ : St} {k65 : Int32 → Int32 → St → Prop} {post : St → Prop} (hN : N ≤ 6) (ha : a < 6) (hx : σ.1 21 0 = nI N) (h : k65 (nI k) (pl N (σ.1 (25 + a)) (nI k)) σ) : ∃ n, f_X0_measures_L24 (nI a) k65 post n (nI k) 0 0 σ := by
  refine floop (P := fun n j => f_X0_measures_L24 (nI a) k65 post n (nI k) (sm (fun o => if bt (nI k) o then σ.1 (25 + a) o else 0) j) (nI j) σ) N (fun n => ?_) (fun n j hj ih => ?_)
  · rw [f_X0_measures_L24]
    exact br_t (le_t hx rfl (Nat.le_refl _) (by omega)) h
  · rw [f_X0_measures_L24]
    refine br_f (le_f hx rfl hj (by omega)) ?_
    rw [nI_1, nI_clamp (n := a) (by omega), nI_clamp (n := j) (by omega)]
    rw [sm] at ih
    refine ⟨fun w => ?_, fun w => ⟨pk_in a 6 ha, pk_in j 6 (by omega), ?_⟩⟩
    · rw [if_neg w] at ih; exact ih
    · rintro _ rfl
      rw [if_pos w] at ih; exact ih
/-- k sets of men measured for man a -/
def MZ (N a k : Nat) (σ σ' : St) : Prop := σ'.2 = σ.2 ∧ (∀ c, c ≠ 32 + a → c ≠ 38 → σ'.1 c = σ.1 c) ∧ (∀ i, i ≠ a → σ'.1 38 i = σ.1 38 i) ∧ (∀ j, j < k → σ'.1 (32 + a) j = pl N (σ.1 (25 + a)) (nI j)) ∧ rg 0 54 (σ'.1 38 a) ∧ ∀ j, j < k → bt (nI j) a → ¬ σ.1 21 1 < bc (nI j) → (pl N (σ.1 (25 + a)) (nI j)).toInt ≤ (σ'.1 38 a).toInt
theorem x_measures {N a : Nat} {σ : St} {post : St → Prop} (hN : N ≤ 6) (ha : a < 6) (hx : σ.1 21 0 = nI N) (h9 : ∀ b, b < N → rg (-9) 9 (σ.1 (25 + a) b)) (h : ∀ σ', MZ N a (2 ^ N) σ σ' → post σ') : f_X0_measures (nI a) σ post := by
  rw [f_X0_measures, nI_clamp (by omega)]
  refine ⟨pk_in a 6 ha, ?_⟩
  have hp := pw6 hN
  refine (floop (P := fun n k => ∀ σ', MZ N a k σ σ' → f_X0_measures_L9 (nI a) post n (nI k) σ') (2 ^ N) (fun n σ' hz => ?_) (fun n k hk ih σ' hz => ?_)).imp (fun n hn => hn _ ⟨rfl, fun c _ c2 => st_up_ne _ c2, fun i hi => st_up_nat _ hi, fun j hj => absurd hj (by omega), by rw [st_up_at]; exact ⟨by decide, by decide⟩, fun j hj => absurd hj (by omega)⟩)
  · rw [f_X0_measures_L9, hz.2.1 21 (by omega) (by omega), hx, shl_N N hN]
    exact br_t (le_t rfl rfl (Nat.le_refl _) (by omega)) (h σ' hz)
  · obtain ⟨z1, z2, z3, z4, z5, z6⟩ := id hz
    have hx' : σ'.1 21 0 = nI N := by rw [z2 21 (by omega) (by omega)]; exact hx
    rw [f_X0_measures_L9, hx', shl_N N hN]
    refine br_f (le_f rfl rfl hk (by omega)) (x_pull hN ha hx' ⟨pk_in a 6 ha, pk_in k 64 (by omega), ?_⟩)
    rw [nI_clamp (n := a) (by omega), nI_clamp (n := k) (by omega), z2 (25 + a) (by omega) (by omega), (or_bit k (by omega) a ha).1, nI_1]
    have hpl := pl_rg (s := nI k) hN h9
    generalize hP : pl N (σ.1 (25 + a)) (nI k) = P at hpl
    have hrow : ∀ j, j < k + 1 → (st_up σ' (32 + a) k P).1 (32 + a) j = pl N (σ.1 (25 + a)) (nI j) := fun j hj => by
      by_cases e : j = k
      · rw [e, st_up_at, hP]
      · rw [st_up_nat _ e]; exact z4 j (by omega)
    have h38 : (st_up σ' (32 + a) k P).1 38 = σ'.1 38 := st_up_ne _ (by omega)
    refine x_isShift (by rw [st_up_ne _ (by omega)]; exact hx') hN (fun q => ⟨fun w => absurd w (by decide), fun _ => ⟨pk_in a 6 ha, pk_in a 6 ha, ?_⟩⟩) (fun q => ⟨fun _ => ?_, fun w => absurd rfl w⟩)
    · rw [h38]
      have hmx : rg 0 54 (if σ'.1 38 a < P then P else σ'.1 38 a) ∧ (σ'.1 38 a).toInt ≤ (if σ'.1 38 a < P then P else σ'.1 38 a).toInt ∧ P.toInt ≤ (if σ'.1 38 a < P then P else σ'.1 38 a).toInt := by
        have a1 := z5.1
        have a2 := z5.2
        have a3 := hpl.2
        by_cases c : σ'.1 38 a < P
        · rw [if_pos c]
          rw [Int32.lt_iff_toInt_lt] at c
          exact ⟨⟨by omega, by omega⟩, by omega, by omega⟩
        · rw [if_neg c]
          rw [Int32.lt_iff_toInt_lt] at c
          exact ⟨⟨by omega, by omega⟩, by omega, by omega⟩
      generalize (if σ'.1 38 a < P then P else σ'.1 38 a) = M at hmx
      refine ih _ ⟨z1, fun c c1 c2 => ?_, fun i hi => ?_, fun j hj => ?_, ?_, fun j hj hb hc => ?_⟩
      · rw [st_up_ne _ c2, st_up_ne _ c1]; exact z2 c c1 c2
      · rw [st_up_nat _ hi, h38]; exact z3 i hi
      · rw [st_up_ne _ (by omega)]; exact hrow j hj
      · rw [st_up_at]; exact hmx.1
      · rw [st_up_at]
        by_cases e : j = k
        · rw [e, hP]; exact hmx.2.2
        · have := z6 j (by omega) hb hc
          have := hmx.2.1
          omega
    · refine ih _ ⟨z1, fun c c1 c2 => ?_, fun i hi => ?_, hrow, ?_, fun j hj hb hc => ?_⟩
      · rw [st_up_ne _ c1]; exact z2 c c1 c2
      · rw [h38]; exact z3 i hi
      · rw [h38]; exact z5
      · rw [h38]
        by_cases e : j = k
        · exfalso
          subst e
          rw [or_same j (by omega) a ha hb] at q
          refine q ⟨j, hk, rfl, ?_⟩
          rw [st_up_ne _ (by omega), z2 21 (by omega) (by omega)]
          exact hc
        · exact z6 j (by omega) hb hc
