/-! BELOW: a fraction in least terms. -/
theorem gcd_step (a b : Nat) : Nat.gcd b (a % b) = Nat.gcd a b := by
  rw [Nat.gcd_comm b (a % b), ← Nat.gcd_rec, Nat.gcd_comm]
theorem half_mod {b r : Nat} (h0 : 0 < r) (h : r < b) : 2 * (b % r) < b := by
  have h1 := Nat.mod_lt b h0
  have h2 := Nat.div_add_mod b r
  have h3 : 1 ≤ b / r := Nat.div_pos (by omega) h0
  have h4 : r * 1 ≤ r * (b / r) := Nat.mul_le_mul_left r h3
  omega
theorem x_common {a0 a1 : Int32} {σ : St} {post : Int32 → St → Prop} : ∀ (k a b i : Nat), b < 2 ^ k → i + 2 * k ≤ 62 → a < 2 ^ 31 → b < 2 ^ 31 → post (nI (Nat.gcd a b)) σ → ∃ n, f_X11_commonOf_L7 a0 a1 post n (nI a) (nI b) (nI i) σ := by
  have zero : ∀ (a i : Nat), i < 64 → post (nI (Nat.gcd a 0)) σ → f_X11_commonOf_L7 a0 a1 post 1 (nI a) (nI 0) (nI i) σ := by
    intro a i hi h
    rw [Nat.gcd_zero_right] at h
    rw [f_X11_commonOf_L7]
    exact br_f (nI_ge (b := 64) hi (by omega)) ⟨fun _ => h, fun w => absurd rfl w⟩
  have one : ∀ (a b i n : Nat), 0 < b → i < 64 → a < 2 ^ 31 → b < 2 ^ 31 → f_X11_commonOf_L7 a0 a1 post n (nI b) (nI (a % b)) (nI (i + 1)) σ → f_X11_commonOf_L7 a0 a1 post (n + 1) (nI a) (nI b) (nI i) σ := by
    intro a b i n hb hi ha hb2 h
    rw [f_X11_commonOf_L7]
    have hne : ¬ nI b = 0 := nI_ne0 hb hb2
    refine br_f (nI_ge (b := 64) hi (by omega)) ⟨fun w => absurd w hne, fun _ => ⟨hne, ?_⟩⟩
    rw [pk_rem ha hb hb2, nI_1]
    exact h
  intro k
  induction k with
  | zero =>
    intro a b i hb hi ha hb2 h
    have : b = 0 := by have : b < 1 := hb; omega
    subst this
    exact ⟨1, zero a i (by omega) h⟩
  | succ k ih =>
    intro a b i hb hi ha hb2 h
    by_cases e : b = 0
    · subst e; exact ⟨1, zero a i (by omega) h⟩
    · have hr := Nat.mod_lt a (show 0 < b by omega)
      rw [← gcd_step] at h
      by_cases e2 : a % b = 0
      · refine ⟨2, one a b i 1 (by omega) (by omega) ha hb2 ?_⟩
        rw [e2] at h ⊢
        exact zero b (i + 1) (by omega) h
      · have h2 := half_mod (show 0 < a % b by omega) hr
        rw [← gcd_step] at h
        have hp : 2 ^ (k + 1) = 2 * 2 ^ k := by rw [Nat.pow_succ]; omega
        obtain ⟨n, hn⟩ := ih (a % b) (b % (a % b)) (i + 2) (by omega) (by omega) (by omega) (by omega) h
        exact ⟨n + 2, one a b i (n + 1) (by omega) (by omega) ha hb2 (one b (a % b) (i + 1) n (by omega) (by omega) hb2 (by omega) hn)⟩
theorem m_common {a1 a2 a3 u l : Int32} {τ : St} {k132 : Int32 → Int32 → Int32 → St → Prop} {post : Int32 → St → Prop} : ∀ (k a b : Nat), b < 2 ^ k → a < 2 ^ 31 → b < 2 ^ 31 → k132 u l (nI (Nat.gcd a b)) τ → ∃ n, f_X12_below_L109 a1 a2 a3 k132 post n u l (nI a) (nI b) τ := by
  have zero : ∀ (a : Nat), k132 u l (nI (Nat.gcd a 0)) τ → f_X12_below_L109 a1 a2 a3 k132 post 1 u l (nI a) (nI 0) τ := by
    intro a h
    rw [Nat.gcd_zero_right] at h
    rw [f_X12_below_L109]
    exact ⟨fun _ => h, fun w => absurd rfl w⟩
  have one : ∀ (a b n : Nat), 0 < b → a < 2 ^ 31 → b < 2 ^ 31 → f_X12_below_L109 a1 a2 a3 k132 post n u l (nI b) (nI (a % b)) τ → f_X12_below_L109 a1 a2 a3 k132 post (n + 1) u l (nI a) (nI b) τ := by
    intro a b n hb ha hb2 h
    rw [f_X12_below_L109]
    have hne : ¬ nI b = 0 := nI_ne0 hb hb2
    refine ⟨fun w => absurd w hne, fun _ => ⟨hne, ?_⟩⟩
    rw [pk_rem ha hb hb2]
    exact h
  intro k
  induction k with
  | zero =>
    intro a b hb ha hb2 h
    have : b = 0 := by have : b < 1 := hb; omega
    subst this
    exact ⟨1, zero a h⟩
  | succ k ih =>
    intro a b hb ha hb2 h
    by_cases e : b = 0
    · subst e; exact ⟨1, zero a h⟩
    · have hr := Nat.mod_lt a (show 0 < b by omega)
      rw [← gcd_step] at h
      by_cases e2 : a % b = 0
      · refine ⟨2, one a b 1 (by omega) ha hb2 ?_⟩
        rw [e2] at h ⊢
        exact zero b h
      · have h2 := half_mod (show 0 < a % b by omega) hr
        rw [← gcd_step] at h
        have hp : 2 ^ (k + 1) = 2 * 2 ^ k := by rw [Nat.pow_succ]; omega
        obtain ⟨n, hn⟩ := ih (a % b) (b % (a % b)) (by omega) (by omega) (by omega) h
        exact ⟨n + 2, one a b (n + 1) (by omega) ha hb2 (one b (a % b) n (by omega) hb2 (by omega) hn)⟩
theorem sm_nI {N : Nat} {x : Nat → Int32} (hN : N ≤ 6) (h : ∀ m, m < N → rg 0 999 (x m)) : ∃ S, S ≤ 5994 ∧ sm x N = nI S := by
  have : ∀ j, j ≤ N → ∃ S, S ≤ 999 * j ∧ sm x j = nI S := by
    intro j
    induction j with
    | zero => intro _; exact ⟨0, by omega, rfl⟩
    | succ j ih =>
      intro hj
      obtain ⟨S, hS, e⟩ := ih (by omega)
      obtain ⟨q, hq, eq⟩ := rg_nI (b := 999) (h j (by omega)) (by omega)
      exact ⟨S + q, by omega, by rw [sm, e, eq, nI_add]⟩
  obtain ⟨S, hS, e⟩ := this N (Nat.le_refl N)
  exact ⟨S, by omega, e⟩
theorem pw_up {S x : Nat} (hS : S ≤ 5994) (hx : x ≤ 10) : ∀ j, j ≤ 4 → S * (10 - x) ^ j ≤ 59940000 ∧ 1 ≤ 10 ^ j ∧ 10 ^ j ≤ 10000 := by
  intro j hj
  have h1 : (10 - x) ^ j ≤ 10 ^ j := Nat.pow_le_pow_left (by omega) j
  have h2 : 10 ^ j ≤ 10 ^ 4 := Nat.pow_le_pow_right (by omega) hj
  have h3 : 0 < 10 ^ j := Nat.pow_pos (by omega)
  have h4 : S * (10 - x) ^ j ≤ 5994 * 10000 := Nat.mul_le_mul hS (by omega)
  omega
theorem step_up {S x j : Nat} (hx : x ≤ 10) : nI (S * (10 - x) ^ j) * (10 - nI x) = nI (S * (10 - x) ^ (j + 1)) := by
  rw [nl 10, pk_sub hx, pk_mul, Nat.pow_succ, Nat.mul_assoc]
theorem step_dn {j : Nat} : nI (10 ^ j) * 10 = nI (10 ^ (j + 1)) := by
  rw [nl 10, pk_mul, Nat.pow_succ]
theorem m_belowS {N x w S U L : Nat} {c : Int32} {τ : St} {post : Int32 → St → Prop} (c1 : N ≤ 6) (c3 : τ.1 2 0 = nI N) (hx : x ≤ 10) (hw : w ≤ 4) (hS : S ≤ 5994) (eM : sm (τ.1 8) N = nI S) (hU : S * (10 - x) ^ w = U) (hL : 10 ^ w = L) (hUL : U ≤ 59940000 ∧ 1 ≤ L ∧ L ≤ 10000) (hGne : ¬ nI (Nat.gcd U L) = 0)
    (last : post (if c = 0 then nI U / nI (Nat.gcd U L) else nI L / nI (Nat.gcd U L)) τ) : ∃ n30 : Nat, f_X12_below_L39 (nI x) (nI w) c (fun x13 x14 σ12 => ∃ n29 : Nat, f_X12_below_L73 (nI x) (nI w) c (fun x17 x18 σ16 => ∃ n28 : Nat, f_X12_below_L109 (nI x) (nI w) c (fun x22 x23 x24 σ21 => (¬ c = 0 → (¬ x24 = 0 ∧ (post (x23 / x24) σ21))) ∧ (c = 0 → (¬ x24 = 0 ∧ (post (x22 / x24) σ21)))) post n28 x17 x18 x17 x18 σ16) post n29 x13 x14 0 σ12) post n30 0 1 0 τ := by
  refine floop (P := fun n j => f_X12_below_L39 (nI x) (nI w) c (fun x13 x14 σ12 => ∃ n29 : Nat, f_X12_below_L73 (nI x) (nI w) c (fun x17 x18 σ16 => ∃ n28 : Nat, f_X12_below_L109 (nI x) (nI w) c (fun x22 x23 x24 σ21 => (¬ c = 0 → (¬ x24 = 0 ∧ (post (x23 / x24) σ21))) ∧ (c = 0 → (¬ x24 = 0 ∧ (post (x22 / x24) σ21)))) post n28 x17 x18 x17 x18 σ16) post n29 x13 x14 0 σ12) post n (sm (τ.1 8) j) 1 (nI j) τ) N (fun n => ?_) (fun n j hj ih => ?_)
  · rw [f_X12_below_L39]
    refine br_t (le_t c3 rfl (by omega) (by omega)) ?_
    rw [eM]
    refine Exists.imp (fun n hn => ?_) (floop (P := fun n j => f_X12_below_L73 (nI x) (nI w) c (fun x17 x18 σ16 => ∃ n28 : Nat, f_X12_below_L109 (nI x) (nI w) c (fun x22 x23 x24 σ21 => (¬ c = 0 → (¬ x24 = 0 ∧ (post (x23 / x24) σ21))) ∧ (c = 0 → (¬ x24 = 0 ∧ (post (x22 / x24) σ21)))) post n28 x17 x18 x17 x18 σ16) post n (nI (S * (10 - x) ^ j)) (nI (10 ^ j)) (nI j) τ) w (fun n => ?_) (fun n j hj ih => ?_))
    · rw [Nat.pow_zero, Nat.mul_one] at hn
      exact hn
    · rw [f_X12_below_L73]
      refine br_t (nI_le (Nat.le_refl _) (by omega)) ?_
      rw [hU, hL]
      refine m_common 14 U L (by omega) (by omega) (by omega) ⟨fun e => ⟨hGne, ?_⟩, fun e => ⟨hGne, ?_⟩⟩
      · rw [if_neg e] at last; exact last
      · rw [if_pos e] at last; exact last
    · rw [f_X12_below_L73]
      refine br_f (nI_ge hj (by omega)) ?_
      rw [step_up hx, step_dn, nI_1]
      exact ih
  · rw [f_X12_below_L39]
    refine br_f (le_f c3 rfl (by omega) (by omega)) ?_
    rw [Int32.zero_add, nI_clamp (by omega), nI_1]
    exact ⟨pk_in j 465 (by omega), ih⟩
theorem x_belowS {x w S U L : Nat} {c : Int32} {σ : St} {post : Int32 → St → Prop} (hx : x ≤ 10) (hw : w ≤ 4) (hU : S * (10 - x) ^ w = U) (hL : 10 ^ w = L) (hUL : U ≤ 59940000 ∧ 1 ≤ L ∧ L ≤ 10000) (hGne : ¬ nI (Nat.gcd U L) = 0) (hmx : (if 1 < nI (Nat.gcd U L) then nI (Nat.gcd U L) else 1) = nI (Nat.gcd U L))
    (last : post (if c = 0 then nI U / nI (Nat.gcd U L) else nI L / nI (Nat.gcd U L)) σ) : ∃ n18 : Nat, f_X11_below_L49 (nI x) (nI w) c (fun x11 x12 σ10 => f_X11_commonOf x11 x12 σ10 (fun x14 σ13 => (¬ c = 0 → (¬ (if 1 < x14 then x14 else 1) = 0 ∧ (post (x12 / (if 1 < x14 then x14 else 1)) σ13))) ∧ (c = 0 → (¬ (if 1 < x14 then x14 else 1) = 0 ∧ (post (x11 / (if 1 < x14 then x14 else 1)) σ13))))) post n18 (nI S) 1 0 σ := by
  refine Exists.imp (fun n hn => ?_) (floop (P := fun n j => f_X11_below_L49 (nI x) (nI w) c (fun x11 x12 σ10 => f_X11_commonOf x11 x12 σ10 (fun x14 σ13 => (¬ c = 0 → (¬ (if 1 < x14 then x14 else 1) = 0 ∧ (post (x12 / (if 1 < x14 then x14 else 1)) σ13))) ∧ (c = 0 → (¬ (if 1 < x14 then x14 else 1) = 0 ∧ (post (x11 / (if 1 < x14 then x14 else 1)) σ13))))) post n (nI (S * (10 - x) ^ j)) (nI (10 ^ j)) (nI j) σ) w (fun n => ?_) (fun n j hj ih => ?_))
  · rw [Nat.pow_zero, Nat.mul_one] at hn
    exact hn
  · rw [f_X11_below_L49]
    refine br_t (nI_le (Nat.le_refl _) (by omega)) ?_
    rw [hU, hL, f_X11_commonOf]
    refine x_common 14 U L 0 (by omega) (by omega) (by omega) (by omega) ?_
    rw [hmx]
    refine ⟨fun e => ⟨hGne, ?_⟩, fun e => ⟨hGne, ?_⟩⟩
    · rw [if_neg e] at last; exact last
    · rw [if_pos e] at last; exact last
  · rw [f_X11_below_L49]
    refine br_f (nI_ge hj (by omega)) ?_
    rw [step_up hx, step_dn, nI_1]
    exact ih
theorem sim_below (a b c : Int32) : Sm (f_X11_below a b c) (f_X12_below a b c) := by
  intro σ τ h
  obtain ⟨N, hc, hn, -⟩ := id h
  obtain ⟨c1, c2, c3, -⟩ := id hc
  obtain ⟨n1, -⟩ := id hn
  have bad : (¬ ((∃ k, k ≤ 10 ∧ a = nI k) ∧ (∃ k, k ≤ 4 ∧ b = nI k) ∧ ∃ k, k ≤ 1 ∧ c = nI k)) → f_X12_below a b c τ (fun r' τ' => -1 = r' ∧ Rl σ τ') := by
    intro q
    rw [f_X12_below]
    refine m_in0 (n := 10) rfl (by decide) (fun k hk e => ⟨fun w => absurd w (by decide), fun _ => ?_⟩) (fun _ => ⟨fun _ => ⟨rfl, h⟩, fun w => absurd rfl w⟩)
    refine m_in0 (n := 4) rfl (by decide) (fun k' hk' e' => ⟨fun w => absurd w (by decide), fun _ => ?_⟩) (fun _ => ⟨fun _ => ⟨rfl, h⟩, fun w => absurd rfl w⟩)
    exact m_in0 (n := 1) rfl (by decide) (fun k2 hk2 e2 => absurd ⟨⟨k, hk, e⟩, ⟨k', hk', e'⟩, k2, hk2, e2⟩ q) (fun _ => ⟨fun w => absurd rfl w, fun _ => ⟨rfl, h⟩⟩)
  rw [f_X11_below]
  refine ⟨fun q => bad ?_, fun q => ⟨fun q1 => bad ?_, fun q1 => ⟨fun q2 => bad ?_, fun q2 => ⟨fun q3 => bad ?_, fun q3 => ⟨fun q4 => bad ?_, fun q4 => ⟨fun q5 => ?_, fun q5 => bad ?_⟩⟩⟩⟩⟩⟩
  · rintro ⟨⟨k, hk, rfl⟩, -⟩; exact nI_pos (by omega) q
  · rintro ⟨⟨k, hk, rfl⟩, -⟩; exact nI_nlt (a := 10) hk (by omega) q1
  · rintro ⟨-, ⟨k, hk, rfl⟩, -⟩; exact nI_pos (by omega) q2
  · rintro ⟨-, ⟨k, hk, rfl⟩, -⟩; exact nI_nlt (a := 4) hk (by omega) q3
  · rintro ⟨-, -, k, hk, rfl⟩; exact nI_pos (by omega) q4
  · have i1 := (in_iff (b := a) 10 (by decide)).mp ⟨k2_le q, k2_le q1⟩
    have i2 := (in_iff (b := b) 4 (by decide)).mp ⟨k2_le q2, k2_le q3⟩
    have i3 := in01 q4 q5
    obtain ⟨x, hx, rfl⟩ := id i1
    obtain ⟨w, hw, rfl⟩ := id i2
    obtain ⟨S, hS, eS⟩ := sm_nI c1 (fun m hm => (n1 m hm).2.1)
    have eM : sm (τ.1 8) N = nI S := by rw [← eS]; exact sm_cong (fun m hm => (n1 m hm).1)
    have hb := pw_up hS hx
    generalize hU : S * (10 - x) ^ w = U
    generalize hL : 10 ^ w = L
    have hUL : U ≤ 59940000 ∧ 1 ≤ L ∧ L ≤ 10000 := by rw [← hU, ← hL]; exact hb w hw
    have hG : 0 < Nat.gcd U L := Nat.gcd_pos_of_pos_right U (by omega)
    have hG2 : Nat.gcd U L ≤ L := Nat.le_of_dvd (by omega) (Nat.gcd_dvd_right U L)
    have hGne : ¬ nI (Nat.gcd U L) = 0 := nI_ne0 hG (by omega)
    have hmx : (if 1 < nI (Nat.gcd U L) then nI (Nat.gcd U L) else 1) = nI (Nat.gcd U L) := by
      by_cases e : 1 < Nat.gcd U L
      · exact if_pos (nI_lt (a := 1) e (by omega))
      · have : Nat.gcd U L = 1 := by omega
        rw [this]; rfl
    have go : f_X12_below (nI x) (nI w) c τ (fun r' τ' => (if c = 0 then nI U / nI (Nat.gcd U L) else nI L / nI (Nat.gcd U L)) = r' ∧ Rl σ τ') := by
      rw [f_X12_below]
      refine m_in0 (n := 10) rfl (by decide) (fun _ _ _ => ⟨fun w => absurd w (by decide), fun _ => ?_⟩) (fun w => absurd i1 w)
      refine m_in0 (n := 4) rfl (by decide) (fun _ _ _ => ⟨fun w => absurd w (by decide), fun _ => ?_⟩) (fun w => absurd i2 w)
      refine m_in0 (n := 1) rfl (by decide) (fun _ _ _ => ⟨fun _ => ?_, fun w => absurd w (by decide)⟩) (fun w => absurd i3 w)
      exact m_belowS (post := fun r' τ' => (if c = 0 then nI U / nI (Nat.gcd U L) else nI L / nI (Nat.gcd U L)) = r' ∧ Rl σ τ') c1 c3 hx hw hS eM hU hL hUL hGne ⟨rfl, h⟩
    refine x_sumOf c2 c1 (by decide) ?_
    rw [eS]
    exact x_belowS (post := fun r σ' => f_X12_below (nI x) (nI w) c τ (fun r' τ' => r = r' ∧ Rl σ' τ')) hx hw hU hL hUL hGne hmx go
  · rintro ⟨-, -, k, hk, rfl⟩; exact q5 (nI_le (b := 1) hk (by decide))
