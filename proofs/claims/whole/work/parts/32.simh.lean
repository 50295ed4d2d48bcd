/-! LAW of growing: FIT, NEXT. -/
def lwE (a x : Int32) : Int32 := (x + (((a / 10) * x) / 10)) + (a - a / 10 * 10)
def gw (k x : Nat) : Nat := x + (k / 10 * x) / 10 + k % 10
theorem lw_gw {k x : Nat} (hk : k < 100) (hx : x < 100) : lwE (nI k) (nI x) = nI (gw k x) := by
  have h1 : k / 10 ≤ 9 := by omega
  have h2 : k / 10 * x ≤ 9 * 99 := Nat.mul_le_mul h1 (by omega)
  unfold lwE gw
  rw [nl 10, pk_div (by omega) (by omega) (by omega), pk_mul, pk_div (by omega) (by omega) (by omega), nI_add, pk_mul, pk_sub (by omega), nI_add]
  congr 1
  have := Nat.div_add_mod k 10
  omega
theorem gw_le {k x : Nat} (hk : k < 100) (hx : x < 100) : gw k x < 300 := by
  have h1 : k / 10 ≤ 9 := by omega
  have h2 : k / 10 * x ≤ 9 * 99 := Nat.mul_le_mul h1 (by omega)
  unfold gw
  omega
def fitE (t : Nat) (tx ty : Nat → Int32) (k : Nat) : Bool := allB (fun j => decide (lwE (nI k) (tx j) = ty j)) t
def ctB (p : Nat → Bool) : Nat → Nat
  | 0 => 0
  | n + 1 => ctB p n + (if p n = true then 1 else 0)
theorem ctB_le (p : Nat → Bool) : ∀ n, ctB p n ≤ n
  | 0 => Nat.le_refl 0
  | n + 1 => by have := ctB_le p n; rw [ctB]; split <;> omega
theorem ctB_mono (p : Nat → Bool) {m : Nat} : ∀ {n}, m ≤ n → ctB p m ≤ ctB p n
  | 0, h => by have : m = 0 := by omega
               subst this; exact Nat.le_refl _
  | n + 1, h => by
    by_cases e : m = n + 1
    · subst e; exact Nat.le_refl _
    · have := ctB_mono p (m := m) (n := n) (by omega)
      rw [ctB]; omega
theorem ctB_lt {p : Nat → Bool} {m n : Nat} (h : m < n) (hp : p m = true) : ctB p m < ctB p n := by
  have h1 : ctB p (m + 1) = ctB p m + 1 := by rw [ctB, if_pos hp]
  have h2 := ctB_mono p (m := m + 1) (n := n) h
  omega
theorem ctB_cong {p q : Nat → Bool} : ∀ {n}, (∀ k, k < n → p k = q k) → ctB p n = ctB q n
  | 0, _ => rfl
  | n + 1, h => by rw [ctB, ctB, ctB_cong (fun k hk => h k (by omega)), h n (by omega)]
/-- a law that fits and tells another y of x than all ahead of it -/
def pnew (F : Nat → Bool) (x k : Nat) : Bool := F k && allB (fun o => !(F o && decide (gw o x = gw k x))) k
/-- X: the laws that fit, in a row -/
def Gath (F : Nat → Bool) (k : Nat) (s : Nat → Int32) : Prop := ∀ o, o < k → F o = true → s (ctB F o) = nI o
theorem x_gather {t : Nat} {σ : St} {post : Int32 → St → Prop} (ht : t ≤ 6) (htx : σ.1 0 17 = nI t) (h : ∀ s, Gath (fitE t (σ.1 74) (σ.1 75)) 100 s → post (nI (ctB (fitE t (σ.1 74) (σ.1 75)) 100)) (st_row σ 76 s)) : f_X11_gathersFitting σ post := by
  rw [f_X11_gathersFitting]
  generalize hF : fitE t (σ.1 74) (σ.1 75) = F at h
  refine Exists.imp (fun n hn => ?_) (floop (P := fun n k => ∀ s, Gath F k s → f_X11_gathersFitting_L4 post n (nI (ctB F k)) (nI k) (st_row σ 76 s)) 100 (fun n => ?_) (fun n k hk ih => ?_))
  · have := hn (σ.1 76) (fun o ho => absurd ho (by omega))
    rw [st_row_id] at this
    exact this
  · intro s hs
    rw [f_X11_gathersFitting_L4]
    exact br_t (le_t (nl 100) rfl (by omega) (by omega)) (h s hs)
  · intro s hs
    rw [f_X11_gathersFitting_L4]
    refine br_f (le_f (nl 100) rfl (by omega) (by omega)) ?_
    have hcl := ctB_le F k
    refine floop (P := fun n' j => f_X11_gathersFitting_L15 (fun x10 x11 x12 σ9 => (x12 = 0 → ((f_X11_gathersFitting_L4 post n) x10 (x11 + 1) σ9)) ∧ (¬ x12 = 0 → (vp_in x10 100 ∧ ((f_X11_gathersFitting_L4 post n) (x10 + 1) (x11 + 1) (st_up σ9 76 x10.toNatClampNeg x11))))) post n' (nI (ctB F k)) (nI k) (if allB (fun j => decide (lwE (nI k) (σ.1 74 j) = σ.1 75 j)) j = true then 1 else 0) (nI j) (st_row σ 76 s)) t (fun n' => ?_) (fun n' j hj ih2 => ?_)
    · rw [f_X11_gathersFitting_L15]
      refine br_t (le_t htx rfl (by omega) (by omega)) ?_
      have e : allB (fun j => decide (lwE (nI k) (σ.1 74 j) = σ.1 75 j)) t = F k := by rw [← hF]; rfl
      rw [e, nI_1, nI_clamp (by omega), nI_1, st_up_row]
      have hc : ctB F (k + 1) = ctB F k + (if F k = true then 1 else 0) := rfl
      by_cases q : F k = true
      · rw [if_pos q]
        refine ⟨fun w => absurd w (by decide), fun _ => ⟨pk_in (ctB F k) 100 (by omega), ?_⟩⟩
        have := ih (upd s (ctB F k) (nI k)) (fun o ho hp => ?_)
        · rw [hc, if_pos q] at this; exact this
        · unfold upd
          by_cases eo : o = k
          · subst eo; rw [if_pos rfl]
          · rw [if_neg (by have := ctB_lt (p := F) (m := o) (n := k) (by omega) hp; omega)]
            exact hs o (by omega) hp
      · rw [if_neg q]
        refine ⟨fun _ => ?_, fun w => absurd rfl w⟩
        have := ih s (fun o ho hp => ?_)
        · rw [hc, if_neg q] at this; exact this
        · by_cases eo : o = k
          · subst eo; exact absurd hp q
          · exact hs o (by omega) hp
    · rw [f_X11_gathersFitting_L15]
      refine br_f (le_f htx rfl (by omega) (by omega)) ?_
      rw [nI_1]
      rw [allB] at ih2
      by_cases q : allB (fun j => decide (lwE (nI k) (σ.1 74 j) = σ.1 75 j)) j = true
      · rw [if_pos q]
        rw [q, Bool.true_and] at ih2
        refine ⟨fun w => absurd w (by decide), fun _ => ⟨pk_in j 6 (by omega), ?_⟩⟩
        rw [nI_clamp (by omega), f_X11_lawOf]
        refine ⟨pk_in j 6 (by omega), fun w => ?_, fun w => ?_⟩
        · have e : decide (lwE (nI k) (σ.1 74 j) = σ.1 75 j) = false := decide_eq_false w
          rw [e] at ih2; exact ih2
        · have e : decide (lwE (nI k) (σ.1 74 j) = σ.1 75 j) = true := decide_eq_true w
          rw [e] at ih2; exact ih2
      · rw [if_neg q]
        have q2 : allB (fun j => decide (lwE (nI k) (σ.1 74 j) = σ.1 75 j)) j = false := by
          cases hq : allB (fun j => decide (lwE (nI k) (σ.1 74 j) = σ.1 75 j)) j
          · rfl
          · exact absurd hq q
        rw [q2, Bool.false_and] at ih2
        exact ⟨fun _ => ih2, fun w => absurd rfl w⟩
theorem m_isFit {t k : Nat} {τ : St} {post : Int32 → St → Prop} (ht : t ≤ 6) (htx : τ.1 0 27 = nI t) (h : post (if fitE t (τ.1 16) (τ.1 17) k = true then 1 else 0) τ) : f_X12_isFit (nI k) τ post := by
  rw [f_X12_isFit]
  refine floop (P := fun n j => f_X12_isFit_L4 (nI k) post n (if allB (fun j => decide (lwE (nI k) (τ.1 16 j) = τ.1 17 j)) j = true then 1 else 0) (nI j) τ) t (fun n => ?_) (fun n j hj ih2 => ?_)
  · rw [f_X12_isFit_L4]
    refine br_t (le_t htx rfl (by omega) (by omega)) ⟨?_, h⟩
    split
    · exact Or.inr rfl
    · exact Or.inl rfl
  · rw [f_X12_isFit_L4]
    refine br_f (le_f htx rfl (by omega) (by omega)) ?_
    rw [nI_1]
    rw [allB] at ih2
    by_cases q : allB (fun j => decide (lwE (nI k) (τ.1 16 j) = τ.1 17 j)) j = true
    · rw [if_pos q]
      rw [q, Bool.true_and] at ih2
      refine ⟨fun w => absurd w (by decide), fun _ => ⟨pk_in j 6 (by omega), ?_⟩⟩
      rw [nI_clamp (by omega), f_X12_grown]
      refine ⟨pk_in j 6 (by omega), fun w => ?_, fun w => ?_⟩
      · have e : decide (lwE (nI k) (τ.1 16 j) = τ.1 17 j) = false := decide_eq_false w
        rw [e] at ih2; exact ih2
      · have e : decide (lwE (nI k) (τ.1 16 j) = τ.1 17 j) = true := decide_eq_true w
        rw [e] at ih2; exact ih2
    · rw [if_neg q]
      have q2 : allB (fun j => decide (lwE (nI k) (τ.1 16 j) = τ.1 17 j)) j = false := by
        cases hq : allB (fun j => decide (lwE (nI k) (τ.1 16 j) = τ.1 17 j)) j
        · rfl
        · exact absurd hq q
      rw [q2, Bool.false_and] at ih2
      exact ⟨fun _ => ih2, fun w => absurd rfl w⟩
theorem m_unlike {t x : Nat} {τ : St} {post : Int32 → St → Prop} (ht : t ≤ 6) (hx : x < 100) (htx : τ.1 0 27 = nI t) (h : post (nI (ctB (pnew (fitE t (τ.1 16) (τ.1 17)) x) 100)) τ) : f_X12_unlike (nI x) τ post := by
  rw [f_X12_unlike]
  generalize hF : fitE t (τ.1 16) (τ.1 17) = F at h
  refine floop (P := fun n k => f_X12_unlike_L4 (nI x) post n (nI (ctB (pnew F x) k)) (nI k) τ) 100 (fun n => ?_) (fun n k hk ih => ?_)
  · rw [f_X12_unlike_L4]
    exact br_t (le_t (nl 100) rfl (by omega) (by omega)) h
  · rw [f_X12_unlike_L4]
    refine br_f (le_f (nl 100) rfl (by omega) (by omega)) (m_isFit ht htx ?_)
    rw [hF]
    have hcl := ctB_le (pnew F x) k
    have fin : ∀ b : Bool, b = pnew F x k → f_X12_unlike_J67_4 (nI x) (f_X12_unlike_L4 (nI x) post n) post (nI (ctB (pnew F x) k)) (nI k) (if b = true then 1 else 0) τ := by
      intro b hb
      rw [f_X12_unlike_J67_4, nI_1, nI_1, Int32.add_zero]
      have hc : ctB (pnew F x) (k + 1) = ctB (pnew F x) k + (if pnew F x k = true then 1 else 0) := rfl
      rw [hc, ← hb] at ih
      by_cases q : b = true
      · rw [if_pos q] at ih ⊢
        exact ⟨fun w => absurd w (by decide), fun _ => ih⟩
      · rw [if_neg q] at ih ⊢
        exact ⟨fun _ => ih, fun w => absurd rfl w⟩
    generalize hA : nI (ctB (pnew F x) k) = A at fin ⊢
    refine Exists.imp (fun n' hn' => ?_) (floop (P := fun n' o => f_X12_unlike_L20 (nI x) (fun x15 x16 x17 σ14 => f_X12_unlike_J67_4 (nI x) (f_X12_unlike_L4 (nI x) post n) post x15 x16 x17 σ14) post n' A (nI k) (if (F k && allB (fun o => !(F o && decide (gw o x = gw k x))) o) = true then 1 else 0) (nI o) τ) k (fun n' => ?_) (fun n' o ho ih2 => ?_))
    · rw [allB, Bool.and_true] at hn'
      exact hn'
    · rw [f_X12_unlike_L20]
      exact br_t (nI_le (Nat.le_refl _) (by omega)) (fin _ rfl)
    · rw [f_X12_unlike_L20]
      refine br_f (nI_ge ho (by omega)) ?_
      by_cases q : (F k && allB (fun o => !(F o && decide (gw o x = gw k x))) o) = true
      · rw [if_pos q]
        refine ⟨fun w => absurd w (by decide), fun _ => m_isFit ht htx ?_⟩
        rw [hF, nI_1]
        rw [allB, ← Bool.and_assoc, q, Bool.true_and] at ih2
        by_cases q2 : F o = true
        · rw [if_pos q2]
          refine ⟨fun w => absurd w (by decide), fun _ => ?_⟩
          rw [f_X12_grown, f_X12_grown]
          have e1 : nI x + nI o / 10 * nI x / 10 + (nI o - nI o / 10 * 10) = nI (gw o x) := lw_gw (by omega) hx
          have e2 : nI x + nI k / 10 * nI x / 10 + (nI k - nI k / 10 * 10) = nI (gw k x) := lw_gw hk hx
          rw [e1, e2, nI_eq (by have := gw_le (k := o) (by omega) hx; omega) (by have := gw_le hk hx; omega)]
          rw [q2, Bool.true_and] at ih2
          refine ⟨fun w => ?_, fun w => ?_⟩
          · rw [decide_eq_true w] at ih2; exact ih2
          · rw [decide_eq_false w] at ih2; exact ih2
        · rw [if_neg q2]
          have q3 : F o = false := by cases hq : F o; rfl; exact absurd hq q2
          rw [q3, Bool.false_and] at ih2
          exact ⟨fun _ => ih2, fun w => absurd rfl w⟩
      · rw [if_neg q]
        refine ⟨fun _ => ?_, fun w => absurd rfl w⟩
        have q3 : (F k && allB (fun o => !(F o && decide (gw o x = gw k x))) o) = false := by
          cases hq : (F k && allB (fun o => !(F o && decide (gw o x = gw k x))) o)
          · rfl
          · exact absurd hq q
        refine fin false ?_
        symm
        unfold pnew
        cases hk2 : F k with
        | false => rfl
        | true =>
          rw [hk2, Bool.true_and] at q3
          rw [Bool.true_and]
          have mono : ∀ n', o ≤ n' → allB (fun o => !(F o && decide (gw o x = gw k x))) n' = false := by
            intro n'
            induction n' with
            | zero => intro h; have : o = 0 := by omega
                      subst this; exact q3
            | succ n' ihn =>
              intro h
              by_cases e : o = n' + 1
              · subst e; exact q3
              · rw [allB, ihn (by omega)]; rfl
          exact mono k (by omega)
/-- the first of the most telling -/
def nx (F : Nat → Bool) (n : Nat) : Int32 × Int32 := bs (fun x => nI (ctB (pnew F x) 100)) n
theorem m_next {t : Nat} {a : Int32} {τ : St} {post : Int32 → St → Prop} (ht : t ≤ 6) (htx : τ.1 0 27 = nI t) (h : post (nx (fitE t (τ.1 16) (τ.1 17)) 100).1 τ) : ∃ n, f_X12_fit_L84 a post n 0 0 0 τ := by
  generalize hF : fitE t (τ.1 16) (τ.1 17) = F at h
  refine floop (P := fun n j => f_X12_fit_L84 a post n (nx F j).1 (nx F j).2 (nI j) τ) 100 (fun n => ?_) (fun n j hj ih => ?_)
  · rw [f_X12_fit_L84]
    exact br_t (le_t (nl 100) rfl (by omega) (by omega)) h
  · rw [f_X12_fit_L84]
    refine br_f (le_f (nl 100) rfl (by omega) (by omega)) (m_unlike ht hj htx ?_)
    rw [hF, nI_1]
    have e : nx F (j + 1) = if (nx F j).2 < nI (ctB (pnew F j) 100) then (nI j, nI (ctB (pnew F j) 100)) else nx F j := rfl
    rw [e] at ih
    refine ⟨fun q => ?_, fun q => ?_⟩
    · rw [if_neg (k2_nlt q)] at ih; exact ih
    · rw [if_pos (k2_lt q)] at ih; exact ih
/-- the stamps behind the laws ahead of k, in the round of x -/
def Stmp (F : Nat → Bool) (x k : Nat) (s : Nat → Int32) : Prop := ∀ y, y < 300 → ∃ j, j ≤ x + 1 ∧ s y = nI j ∧ (j = x + 1 ↔ ∃ o, o < k ∧ F o = true ∧ gw o x = y)
theorem x_round {x : Nat} {F : Nat → Bool} {σ : St} {s76 : Nat → Int32} {v2 v3 : Int32} {k82 : Int32 → Int32 → Int32 → Int32 → St → Prop} {post : Int32 → St → Prop} (hx : x < 100) (hg : Gath F 100 s76) (h76 : σ.1 76 = s76)
    (h : ∀ s, Stmp F x 100 s → k82 v2 v3 (nI x) (nI (ctB (pnew F x) 100)) (st_row σ 77 s)) : ∀ s, Stmp F x 0 s → ∃ n, f_X11_mostTelling_L28 (nI (ctB F 100)) k82 post n v2 v3 (nI x) 0 0 (st_row σ 77 s) := by
  have hc100 := ctB_le F 100
  have main : ∀ d k, k + d = 100 → ∀ s, Stmp F x k s → ∃ n, f_X11_mostTelling_L28 (nI (ctB F 100)) k82 post n v2 v3 (nI x) (nI (ctB (pnew F x) k)) (nI (ctB F k)) (st_row σ 77 s) := by
    intro d
    induction d with
    | zero =>
      intro k hk s hs
      have : k = 100 := by omega
      subst this
      refine ⟨1, ?_⟩
      rw [f_X11_mostTelling_L28]
      exact br_t (nI_le (Nat.le_refl _) (by omega)) (h s hs)
    | succ d ih =>
      intro k hk s hs
      have hcp := ctB_le (pnew F x) k
      have hcp2 : ctB (pnew F x) (k + 1) = ctB (pnew F x) k + (if pnew F x k = true then 1 else 0) := rfl
      have hcF : ctB F (k + 1) = ctB F k + (if F k = true then 1 else 0) := rfl
      by_cases q : F k = true
      · have hlt := ctB_lt (p := F) (m := k) (n := 100) (by omega) q
        have hy := gw_le (k := k) (x := x) (by omega) hx
        rw [if_pos q] at hcF
        -- the stamp of its y
        obtain ⟨j, hj, ej, hjs⟩ := hs (gw k x) hy
        have hst : (s (gw k x) = nI (x + 1)) ↔ pnew F x k = false := by
          rw [ej, nI_eq (by omega) (by omega), hjs]
          unfold pnew
          rw [q, Bool.true_and]
          constructor
          · rintro ⟨o, ho, hFo, e⟩
            refine allB_false (j := o) ?_ ho
            rw [hFo, decide_eq_true e]; rfl
          · intro hf
            have : ∀ n, allB (fun o => !(F o && decide (gw o x = gw k x))) n = false → ∃ o, o < n ∧ F o = true ∧ gw o x = gw k x := by
              intro n
              induction n with
              | zero => intro w; cases w
              | succ n ihn =>
                intro w
                rw [allB] at w
                by_cases e1 : allB (fun o => !(F o && decide (gw o x = gw k x))) n = true
                · rw [e1, Bool.true_and] at w
                  cases hFn : F n with
                  | false => rw [hFn] at w; cases w
                  | true =>
                    rw [hFn, Bool.true_and] at w
                    by_cases e2 : gw n x = gw k x
                    · exact ⟨n, by omega, hFn, e2⟩
                    · rw [decide_eq_false e2] at w; cases w
                · have e1 : allB (fun o => !(F o && decide (gw o x = gw k x))) n = false := by
                    cases hq : allB (fun o => !(F o && decide (gw o x = gw k x))) n
                    · rfl
                    · exact absurd hq e1
                  obtain ⟨o, ho, w1⟩ := ihn e1
                  exact ⟨o, by omega, w1⟩
            exact this k hf
        have hst2 : Stmp F x (k + 1) (upd s (gw k x) (nI (x + 1))) := by
          intro y hy2
          unfold upd
          by_cases e : y = gw k x
          · rw [if_pos e]
            exact ⟨x + 1, by omega, rfl, fun _ => ⟨k, by omega, q, e.symm⟩, fun _ => rfl⟩
          · rw [if_neg e]
            obtain ⟨j, hj, ej, hjs⟩ := hs y hy2
            refine ⟨j, hj, ej, hjs.trans ⟨fun ⟨o, ho, w⟩ => ⟨o, by omega, w⟩, fun ⟨o, ho, w1, w2⟩ => ⟨o, ?_, w1, w2⟩⟩⟩
            by_cases e2 : o = k
            · subst e2; exact absurd w2.symm e
            · omega
        have hst3 : s (gw k x) = nI (x + 1) → Stmp F x (k + 1) s := by
          intro w
          have : upd s (gw k x) (nI (x + 1)) = s := by
            funext y; unfold upd; by_cases e : y = gw k x
            · rw [if_pos e, e, w]
            · rw [if_neg e]
          rw [this] at hst2; exact hst2
        have next : ∃ n, f_X11_mostTelling_L28 (nI (ctB F 100)) k82 post n v2 v3 (nI x) (nI (ctB (pnew F x) (k + 1))) (nI (ctB F (k + 1))) (st_row σ 77 (if s (gw k x) = nI (x + 1) then s else upd s (gw k x) (nI (x + 1)))) := by
          refine ih (k + 1) (by omega) _ ?_
          split
          · next w => exact hst3 w
          · exact hst2
        obtain ⟨n, hn⟩ := next
        refine ⟨n + 1, ?_⟩
        rw [f_X11_mostTelling_L28]
        refine br_f (nI_ge hlt (by omega)) ⟨pk_in (ctB F k) 100 (by omega), ?_⟩
        have e76 : (st_row σ 77 s).1 76 (ctB F k) = nI k := by
          rw [st_row_ne _ _ (by decide), h76]; exact hg k (by omega) q
        rw [nI_clamp (by omega), e76, f_X11_lawOf]
        have e1 : nI x + nI k / 10 * nI x / 10 + (nI k - nI k / 10 * 10) = nI (gw k x) := lw_gw (by omega) hx
        rw [e1, nI_clamp (by omega), st_row_self, nI_1, nI_1, nI_1, st_up_row]
        refine ⟨pk_in (gw k x) 300 hy, fun w => ?_, fun w => ⟨pk_in (gw k x) 300 hy, ?_⟩⟩
        · rw [if_pos w, hcF, hcp2, if_neg (by rw [hst.mp w]; decide)] at hn
          exact hn
        · have hp1 : pnew F x k = true := by
            cases hq : pnew F x k
            · exact absurd (hst.mpr hq) w
            · rfl
          rw [if_neg w, hcF, hcp2, if_pos hp1] at hn
          exact hn
      · have hp0 : ¬ pnew F x k = true := by
          unfold pnew
          have : F k = false := by cases hq : F k; rfl; exact absurd hq q
          rw [this]; simp
        rw [if_neg q] at hcF
        rw [if_neg hp0] at hcp2
        obtain ⟨n, hn⟩ := ih (k + 1) (by omega) s (fun y hy => by
          obtain ⟨j, hj, ej, hjs⟩ := hs y hy
          refine ⟨j, hj, ej, hjs.trans ⟨fun ⟨o, ho, w⟩ => ⟨o, by omega, w⟩, fun ⟨o, ho, w1, w2⟩ => ⟨o, ?_, w1, w2⟩⟩⟩
          by_cases e2 : o = k
          · subst e2; exact absurd w1 q
          · omega)
        rw [hcF, hcp2] at hn
        exact ⟨n, hn⟩
  intro s hs
  exact main 100 0 (by omega) s hs
theorem x_fill {r n : Nat} {v : Int32} {σ : St} {post : St → Prop} (hn : n < 2 ^ 31) (h : post (st_row σ r (fl' (fun _ => v) (σ.1 r) n))) : f_J7_fill_53178 r n v σ post := by
  rw [f_J7_fill_53178]
  refine Exists.imp (fun i hi => ?_) (floop (P := fun i j => f_J7_fill_53178_L5 r n v post i (nI j) (Int32.ofNat n) (st_row σ r (fl' (fun _ => v) (σ.1 r) j))) n (fun i => ?_) (fun i j hj ih => ?_))
  · rw [fl_0, st_row_id] at hi
    exact hi
  · rw [f_J7_fill_53178_L5]
    exact br_t (nI_le (Nat.le_refl _) hn) h
  · rw [f_J7_fill_53178_L5]
    refine br_f (nI_ge hj hn) ⟨pk_in j n hj, ?_⟩
    rw [nI_clamp (by omega), st_up_row, nI_1]
    have ec : upd (fl' (fun _ => v) (σ.1 r) j) j v = fl' (fun _ => v) (σ.1 r) (j + 1) := fl_succ (fun _ => v) _ j
    rw [ec]
    exact ih
theorem x_most {F : Nat → Bool} {σ : St} {post : Int32 → St → Prop} (hg : Gath F 100 (σ.1 76)) (h : ∀ s, post (nx F 100).1 (st_row σ 77 s)) : f_X11_mostTelling (nI (ctB F 100)) σ post := by
  rw [f_X11_mostTelling]
  refine x_fill (by decide) ?_
  refine Exists.imp (fun n hn => ?_) (floop (P := fun n x => ∀ s, (∀ y, y < 300 → ∃ j, j ≤ x ∧ s y = nI j) → f_X11_mostTelling_L15 (nI (ctB F 100)) post n (nx F x).2 (nx F x).1 (nI x) (st_row σ 77 s)) 100 (fun n => ?_) (fun n x hx ih => ?_))
  · exact hn _ (fun y hy => ⟨0, by omega, by rw [fl_lt hy]; rfl⟩)
  · intro s _
    rw [f_X11_mostTelling_L15]
    exact br_t (nI_lt (a := 99) (by omega) (by omega)) (h s)
  · intro s hs
    rw [f_X11_mostTelling_L15]
    refine br_f (nI_nlt (a := 99) (by omega) (by omega)) ?_
    refine x_round hx hg rfl (fun s' hs' => ?_) s (fun y hy => ?_)
    · have e : nx F (x + 1) = if (nx F x).2 < nI (ctB (pnew F x) 100) then (nI x, nI (ctB (pnew F x) 100)) else nx F x := rfl
      have := ih s' (fun y hy => by obtain ⟨j, hj, ej, -⟩ := hs' y hy; exact ⟨j, hj, ej⟩)
      rw [e] at this
      rw [nI_1]
      refine ⟨fun q => ?_, fun q => ?_⟩
      · rw [if_neg (k2_nlt q)] at this; exact this
      · rw [if_pos (k2_lt q)] at this; exact this
    · obtain ⟨j, hj, ej⟩ := hs y hy
      exact ⟨j, by omega, ej, fun w => absurd w (by omega), fun ⟨o, ho, _⟩ => absurd ho (by omega)⟩
/-- M: from the last law to the first: how many, the first -/
def su (F : Nat → Bool) : Nat → Nat × Int32
  | 0 => (0, -9)
  | j + 1 => if F (99 - j) = true then ((su F j).1 + 1, nI (99 - j)) else su F j
theorem su_ct (F : Nat → Bool) : ∀ j, j ≤ 100 → (su F j).1 + ctB F (100 - j) = ctB F 100 := by
  intro j
  induction j with
  | zero => intro _; simp [su]
  | succ j ih =>
    intro hj
    have := ih (by omega)
    have e : 100 - j = (99 - j) + 1 := by omega
    rw [e, ctB] at this
    rw [su, show 100 - (j + 1) = 99 - j by omega]
    split
    · next q => rw [if_pos q] at this; show (su F j).1 + 1 + _ = _; omega
    · next q => rw [if_neg q] at this; omega
theorem su_first (F : Nat → Bool) : ∀ j, j ≤ 100 → ((su F j).1 = 0 ∧ (su F j).2 = -9) ∨ (0 < (su F j).1 ∧ ∃ l, 100 - j ≤ l ∧ l < 100 ∧ F l = true ∧ (∀ o, 100 - j ≤ o → o < l → ¬ F o = true) ∧ (su F j).2 = nI l) := by
  intro j
  induction j with
  | zero => intro _; exact Or.inl ⟨rfl, rfl⟩
  | succ j ih =>
    intro hj
    rw [su]
    split
    · next q => exact Or.inr ⟨by show 0 < (su F j).1 + 1; omega, 99 - j, by omega, by omega, q, fun o h1 h2 => absurd h2 (by omega), rfl⟩
    · next q =>
      rcases ih (by omega) with w | ⟨w1, l, w2, w3, w4, w5, w6⟩
      · exact Or.inl w
      · refine Or.inr ⟨w1, l, by omega, w3, w4, fun o h1 h2 => ?_, w6⟩
        by_cases e : o = 99 - j
        · subst e; exact q
        · exact w5 o (by omega) h2
theorem m_fitL {t : Nat} {a : Int32} {τ : St} {k46 : Int32 → Int32 → St → Prop} {post : Int32 → St → Prop} (ht : t ≤ 6) (htx : τ.1 0 27 = nI t) (h : k46 (nI (su (fitE t (τ.1 16) (τ.1 17)) 100).1) (su (fitE t (τ.1 16) (τ.1 17)) 100).2 τ) : ∃ n, f_X12_fit_L20 a k46 post n 0 (-9) 99 τ := by
  generalize hF : fitE t (τ.1 16) (τ.1 17) = F at h
  have main : ∀ d j, j + d = 100 → ∃ n, f_X12_fit_L20 a k46 post n (nI (su F j).1) (su F j).2 (nI (100 - j) - 1) τ := by
    intro d
    induction d with
    | zero =>
      intro j hj
      have : j = 100 := by omega
      subst this
      refine ⟨1, ?_⟩
      rw [f_X12_fit_L20]
      exact br_t (by decide) h
    | succ d ih =>
      intro j hj
      obtain ⟨n, hn⟩ := ih (j + 1) (by omega)
      refine ⟨n + 1, ?_⟩
      have e : nI (100 - j) - 1 = nI (99 - j) := by rw [show 100 - j = (99 - j) + 1 by omega, nI_pred]
      rw [f_X12_fit_L20, e]
      refine br_f (nI_pos (by omega)) (m_isFit ht htx ?_)
      rw [hF]
      have e2 : nI (99 - j) + -1 = nI (100 - (j + 1)) - 1 := by
        rw [show 100 - (j + 1) = 99 - j by omega]
        exact (Int32.sub_eq_add_neg _ _).symm
      rw [e2, nI_1]
      rw [su] at hn
      by_cases q : F (99 - j) = true
      · rw [if_pos q] at hn ⊢
        exact ⟨fun w => absurd w (by decide), fun _ => hn⟩
      · rw [if_neg q] at hn ⊢
        exact ⟨fun _ => hn, fun w => absurd rfl w⟩
  have := main 100 0 (by omega)
  exact this
