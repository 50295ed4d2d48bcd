/-! PIT: what an item does when all is well. -/
def AX (code s a b : Nat) (x y : Int32) (σ : St) : St := if code = 0 then st_up (st_up σ 1 7 1) 3 1 y else if code = 1 then st_up (st_up σ 1 8 1) 3 2 y else if code = 2 then st_up (st_up (st_up σ 4 s x) 5 s y) 3 0 (nI (s + 1)) else st_up (st_up σ (7 + a) b y) (7 + b) a y
def AM (code s a b : Nat) (x y : Int32) (τ : St) : St := if code = 0 then st_up (st_up τ 6 1 y) 0 14 1 else if code = 1 then st_up (st_up τ 7 1 y) 0 15 1 else if code = 2 then st_up (st_up (st_up τ 4 s x) 3 (6 + s) y) 2 1 (nI (s + 1)) else st_up (st_up τ 5 (36 + (6 * a + b)) y) 5 (36 + (6 * b + a)) y
def GI (t : Nat → Nat) (n s : Nat) (c7 c8 : Int32) (p q code a b : Nat) (x y : Int32) : Prop := tK t n p = 1 ∧ (
    (tV t n p = 99 ∧ c7 = 0 ∧ isN t n (te t n p) 1 6 ∧ q = te t n (te t n p) ∧ code = 0 ∧ y = nI (tV t n (te t n p))) ∨
    (tV t n p = 115 ∧ c8 = 0 ∧ isN t n (te t n p) 0 50 ∧ q = te t n (te t n p) ∧ code = 1 ∧ y = nI (tV t n (te t n p))) ∨
    (tV t n p = 109 ∧ s < 6 ∧ isN t n (te t n p) 0 99 ∧ isN t n (te t n (te t n p)) 0 9 ∧ q = te t n (te t n (te t n p)) ∧ code = 2 ∧ x = nI (tV t n (te t n p)) ∧ y = nI (tV t n (te t n (te t n p)))) ∨
    ((tV t n p = 101 ∨ tV t n p = 114) ∧ isN t n (te t n p) 0 (nI s - 1) ∧ isN t n (te t n (te t n p)) 0 (nI s - 1) ∧ tV t n (te t n p) ≠ tV t n (te t n (te t n p)) ∧ isN t n (te t n (te t n (te t n p))) 0 9 ∧ q = te t n (te t n (te t n (te t n p))) ∧ code = 3 ∧ a = tV t n (te t n p) ∧ b = tV t n (te t n (te t n p)) ∧ y = if tV t n p = 101 then - nI (tV t n (te t n (te t n (te t n p)))) else nI (tV t n (te t n (te t n (te t n p))))))
theorem XU.upc {σ σ' : St} {c i : Nat} {x : Int32} (hc : c ≠ 1) (h : XU σ σ') : XU (st_up σ c i x) (st_up σ' c i x) := by
  refine ⟨h.1, fun d hd => ?_, fun j hj => ?_⟩
  · by_cases e : d = c
    · subst e
      rw [st_up, st_up, st_row_self, st_row_self, h.2.1 d hd]
    · rw [st_up_ne _ e, st_up_ne _ e]; exact h.2.1 d hd
  · rw [st_up_ne _ (Ne.symm hc), st_up_ne _ (Ne.symm hc)]; exact h.2.2 j hj
theorem MU.upc {σ σ' : St} {c i : Nat} {x : Int32} (hc : c ≠ 0) (h : MU σ σ') : MU (st_up σ c i x) (st_up σ' c i x) := by
  refine ⟨h.1, fun d hd => ?_, fun j hj => ?_⟩
  · by_cases e : d = c
    · subst e
      rw [st_up, st_up, st_row_self, st_row_self, h.2.1 d hd]
    · rw [st_up_ne _ e, st_up_ne _ e]; exact h.2.1 d hd
  · rw [st_up_ne _ (Ne.symm hc), st_up_ne _ (Ne.symm hc)]; exact h.2.2 j hj
theorem MU.up0 {σ σ' : St} {i : Nat} {x : Int32} (hc : 13 < i) (h : MU σ σ') : MU (st_up σ 0 i x) (st_up σ' 0 i x) := by
  refine ⟨h.1, fun d hd => ?_, fun j hj => ?_⟩
  · rw [st_up_ne _ hd, st_up_ne _ hd]; exact h.2.1 d hd
  · by_cases e : j = i
    · subst e; rw [st_up_at, st_up_at]
    · rw [st_up_nat _ e, st_up_nat _ e]; exact h.2.2 j hj
/-- an item of X -/
theorem x_item {t : Nat → Nat} {n p s : Nat} {σ : St} {post : St → Prop} (ht : TX t n σ) (hp : p ≤ n) (hs : s ≤ 6) (h0 : σ.1 3 0 = nI s) (hk : XK t n p σ) (hK : tK t n p ≠ 0) (h6 : σ.1 1 6 = 0) (h7 : σ.1 1 7 = 0 ∨ σ.1 1 7 = 1) (h8 : σ.1 1 8 = 0 ∨ σ.1 1 8 = 1)
    (hF : ∀ σ' f, XF σ σ' → σ'.1 1 6 = 1 → σ'.1 1 2 = nI f → Bad t n s (σ.1 1 7) (σ.1 1 8) p f → post σ')
    (hG : ∀ q code a b x y, GI t n s (σ.1 1 7) (σ.1 1 8) p q code a b x y → ∀ σ', XU (AX code s a b x y σ) σ' → σ'.1 1 6 = 0 → σ'.1 1 3 = nI q → post σ') : f_X10_readsItem σ post := by
  obtain ⟨k1, k2, k3, k4, k5, k6, k7⟩ := hk
  have bad0 : ∀ z : Int32, z ≠ 99 → z ≠ 101 → z ≠ 109 → z ≠ 114 → z ≠ 115 → Bad t n s (σ.1 1 7) (σ.1 1 8) p (ts t n p) → f_X10_readsItem_J16 post z σ := by
    intro z z1 z2 z3 z4 z5 hb
    rw [f_X10_readsItem_J16]
    refine ⟨fun e => absurd e z1, fun e => absurd e z2, fun e => absurd e z3, fun e => absurd e z4, fun e => absurd e z5, fun _ _ _ _ _ => ?_⟩
    exact hF _ _ (XF.up1 (by omega)) (st_up_at _ _ _ _) (by rw [st_up_nat _ (by omega)]; exact k1) hb
  rw [f_X10_readsItem]
  have hK4 := tK_le t n p
  refine ⟨fun w => ?_, fun w => ?_⟩
  · have : tK t n p ≠ 1 := fun e => w (k4 e).1
    exact bad0 0 (by decide) (by decide) (by decide) (by decide) (by decide) (Or.inl ⟨this, rfl⟩)
  · by_cases c1 : tK t n p = 1
    · have hV := tV_1 c1
      have h3 := k2 (by omega)
      rw [(k4 c1).2]
      by_cases v99 : tV t n p = 99
      · rw [v99, f_X10_readsItem_J16]
        refine ⟨fun _ => ⟨h7, ?_⟩, fun e => absurd e (by decide), fun e => absurd e (by decide), fun e => absurd e (by decide), fun e => absurd e (by decide), fun e => absurd rfl e⟩
        refine x_cage ht hp k1 h3 h7 (fun σ' f hx g6 g2 hb => hF σ' f hx g6 g2 (Or.inr ⟨c1, Or.inr (Or.inl ⟨v99, hb⟩)⟩)) (fun e hN σ' hu u6 u3 => ?_)
        refine hG (te t n (te t n p)) 0 0 0 0 (nI (tV t n (te t n p))) ⟨c1, Or.inl ⟨v99, e, hN, rfl, rfl, rfl⟩⟩ _ ?_ u6 u3
        exact hu.upc (by decide)
      by_cases v115 : tV t n p = 115
      · rw [v115, f_X10_readsItem_J16]
        refine ⟨fun e => absurd e (by decide), fun e => absurd e (by decide), fun e => absurd e (by decide), fun e => absurd e (by decide), fun _ => ⟨h8, ?_⟩, fun _ _ _ _ e => absurd rfl e⟩
        refine x_shale ht hp k1 h3 h8 (fun σ' f hx g6 g2 hb => hF σ' f hx g6 g2 (Or.inr ⟨c1, Or.inr (Or.inr (Or.inl ⟨v115, hb⟩))⟩)) (fun e hN σ' hu u6 u3 => ?_)
        refine hG (te t n (te t n p)) 1 0 0 0 (nI (tV t n (te t n p))) ⟨c1, Or.inr (Or.inl ⟨v115, e, hN, rfl, rfl, rfl⟩)⟩ _ ?_ u6 u3
        exact hu.upc (by decide)
      by_cases v109 : tV t n p = 109
      · rw [v109, f_X10_readsItem_J16]
        refine ⟨fun e => absurd e (by decide), fun e => absurd e (by decide), fun _ => ?_, fun e => absurd e (by decide), fun e => absurd e (by decide), fun _ _ e => absurd rfl e⟩
        refine x_man ht hp hs h0 k1 h3 (fun σ' f hx g6 g2 hb => hF σ' f hx g6 g2 (Or.inr ⟨c1, Or.inr (Or.inr (Or.inr (Or.inl ⟨v109, hb⟩)))⟩)) (fun e hN hN2 σ' hu u6 u3 => ?_)
        refine hG (te t n (te t n (te t n p))) 2 0 0 (nI (tV t n (te t n p))) (nI (tV t n (te t n (te t n p)))) ⟨c1, Or.inr (Or.inr (Or.inl ⟨v109, e, hN, hN2, rfl, rfl, rfl, rfl⟩))⟩ _ ?_ u6 u3
        exact ((hu.upc (by decide)).upc (by decide)).upc (by decide)
      by_cases v101 : tV t n p = 101
      · rw [v101, f_X10_readsItem_J16]
        refine ⟨fun e => absurd e (by decide), fun _ => ?_, fun e => absurd e (by decide), fun e => absurd e (by decide), fun e => absurd e (by decide), fun _ e => absurd rfl e⟩
        refine x_two ht hp hs h0 h6 h3 (fun σ' f hx g6 g2 hb => hF σ' f hx g6 g2 (Or.inr ⟨c1, Or.inr (Or.inr (Or.inr (Or.inr ⟨Or.inl v101, hb⟩)))⟩)) (fun n1 n2 hne n3 σ' hu u6 u3 => ?_)
        refine hG (te t n (te t n (te t n (te t n p)))) 3 (tV t n (te t n p)) (tV t n (te t n (te t n p))) 0 (- nI (tV t n (te t n (te t n (te t n p))))) ⟨c1, Or.inr (Or.inr (Or.inr ⟨Or.inl v101, n1, n2, hne, n3, rfl, rfl, rfl, rfl, by rw [if_pos v101]⟩))⟩ _ ?_ ?_ ?_
        · rw [show (-1 : Int32) * nI (tV t n (te t n (te t n (te t n p)))) = - nI (tV t n (te t n (te t n (te t n p)))) by rw [Int32.neg_mul, Int32.one_mul]]
          exact (hu.upc (by omega)).upc (by omega)
        · rw [st_up_ne _ (by omega), st_up_ne _ (by omega)]; exact u6
        · rw [st_up_ne _ (by omega), st_up_ne _ (by omega)]; exact u3
      by_cases v114 : tV t n p = 114
      · rw [v114, f_X10_readsItem_J16]
        refine ⟨fun e => absurd e (by decide), fun e => absurd e (by decide), fun e => absurd e (by decide), fun _ => ?_, fun e => absurd e (by decide), fun _ _ _ e => absurd rfl e⟩
        refine x_two ht hp hs h0 h6 h3 (fun σ' f hx g6 g2 hb => hF σ' f hx g6 g2 (Or.inr ⟨c1, Or.inr (Or.inr (Or.inr (Or.inr ⟨Or.inr v114, hb⟩)))⟩)) (fun n1 n2 hne n3 σ' hu u6 u3 => ?_)
        refine hG (te t n (te t n (te t n (te t n p)))) 3 (tV t n (te t n p)) (tV t n (te t n (te t n p))) 0 (nI (tV t n (te t n (te t n (te t n p))))) ⟨c1, Or.inr (Or.inr (Or.inr ⟨Or.inr v114, n1, n2, hne, n3, rfl, rfl, rfl, rfl, by rw [if_neg v101]⟩))⟩ _ ?_ ?_ ?_
        · rw [show (1 : Int32) * nI (tV t n (te t n (te t n (te t n p)))) = nI (tV t n (te t n (te t n (te t n p)))) from Int32.one_mul _]
          exact (hu.upc (by omega)).upc (by omega)
        · rw [st_up_ne _ (by omega), st_up_ne _ (by omega)]; exact u6
        · rw [st_up_ne _ (by omega), st_up_ne _ (by omega)]; exact u3
      · have nq : ∀ z : Nat, z < 2 ^ 31 → tV t n p ≠ z → nI (tV t n p) ≠ nI z := fun z hz h e => h (nI_ij (by omega) hz e)
        exact bad0 _ (nq 99 (by omega) v99) (nq 101 (by omega) v101) (nq 109 (by omega) v109) (nq 114 (by omega) v114) (nq 115 (by omega) v115) (Or.inr ⟨c1, Or.inl ⟨v99, v101, v109, v114, v115, rfl⟩⟩)
    · have : tK t n p = 2 ∨ tK t n p = 3 ∨ tK t n p = 4 := by omega
      rcases this with e | e | e
      · rw [(k5 e).1] at w; exact absurd w (by decide)
      · rw [k6 e] at w; exact absurd w (by decide)
      · rcases k7 e with g | g
        · rw [g] at w; exact absurd w (by decide)
        · rw [g.2]
          exact bad0 0 (by decide) (by decide) (by decide) (by decide) (by decide) (Or.inl ⟨c1, rfl⟩)
