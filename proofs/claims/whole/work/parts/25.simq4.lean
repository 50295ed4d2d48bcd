/-! SOLD, WHOSE, THE TRACE. -/
def hs' (N : Nat) (hp : Nat → Int32) (k : Nat) : Int32 := sm (fun m => if bt (nI k) m then hp m else 0) N
def sb (lim : Int32) (f : Nat → Int32) (n : Nat) : Int32 × Int32 := fo (fun k b => if ¬ lim < f k ∧ b.2 < f k then (nI k, f k) else b) n (0, 0)
theorem sb_succ (lim : Int32) (f : Nat → Int32) (n : Nat) : sb lim f (n + 1) = if ¬ lim < f n ∧ (sb lim f n).2 < f n then (nI n, f n) else sb lim f n := rfl
theorem sb_cong {lim : Int32} {f g : Nat → Int32} {n : Nat} (h : ∀ k, k < n → f k = g k) : sb lim f n = sb lim g n := fo_cong (fun k hk b => by rw [h k hk])
theorem hs_0 {N : Nat} (hN : N ≤ 6) (hp : Nat → Int32) : hs' N hp 0 = 0 := sm_zero (fun m hm => by rw [if_neg (bt_00 m (by omega))])
theorem x_heapOf {N k : Nat} {σ : St} {post : Int32 → St → Prop} (hx : σ.1 21 0 = nI N) (hN : N ≤ 6) (h : post (hs' N (σ.1 41) k) σ) : f_X11_heapOf (nI k) σ post := by
  rw [f_X11_heapOf]
  refine floop (P := fun i j => f_X11_heapOf_L4 (nI k) post i (sm (fun m => if bt (nI k) m then σ.1 41 m else 0) j) (nI j) σ) N (fun i => ?_) (fun i j hj ih => ?_)
  · rw [f_X11_heapOf_L4]
    exact br_t (le_t hx rfl (by omega) (by omega)) h
  · rw [f_X11_heapOf_L4]
    refine br_f (le_f hx rfl (by omega) (by omega)) ?_
    rw [nI_clamp (by omega), nI_1]
    rw [sm] at ih
    exact ⟨fun c => by rw [if_neg c] at ih; exact ih, fun c => ⟨pk_in j 6 (by omega), by rw [if_pos c] at ih; exact ih⟩⟩
theorem x_sold {N : Nat} {a b : Int32} {σ : St} {k77 : Int32 → Int32 → St → Prop} {post : Int32 → St → Prop} (hx : σ.1 21 0 = nI N) (hN : N ≤ 6) (h : k77 (sb a (hs' N (σ.1 41)) (2 ^ N)).2 (sb a (hs' N (σ.1 41)) (2 ^ N)).1 σ) : ∃ n, f_X11_sold_L30 a b k77 post n 0 0 1 σ := by
  have hp := pw6 hN
  generalize hF : hs' N (σ.1 41) = F at h
  refine Exists.imp (fun n hn => ?_) (floopF (P := fun n j => f_X11_sold_L30 a b k77 post n (sb a F j).2 (sb a F j).1 (nI j) σ) (2 ^ N) 1 (Nat.pow_pos (by omega)) (fun n => ?_) (fun n j hj0 hj ih => ?_))
  · have e : sb a F 1 = (0, 0) := by
      rw [sb_succ, ← hF, hs_0 hN]
      rw [if_neg (fun q => absurd (show (0 : Int32) < 0 from q.2) (by decide))]; rfl
    rw [e] at hn
    exact hn
  · rw [f_X11_sold_L30, hx, shl_N N hN]
    exact br_t (nI_le (Nat.le_refl _) (by omega)) h
  · rw [f_X11_sold_L30, hx, shl_N N hN]
    refine br_f (nI_ge hj (by omega)) (x_heapOf hx hN ?_)
    rw [hF, nI_1]
    rw [sb_succ] at ih
    refine ⟨fun c => ?_, fun c => ⟨fun c2 => ?_, fun c2 => ?_⟩⟩
    · rw [if_neg (fun q => q.1 c)] at ih; exact ih
    · rw [if_neg (fun q => k2_nlt c2 q.2)] at ih; exact ih
    · rw [if_pos ⟨c, k2_lt c2⟩] at ih; exact ih
theorem m_sold {N : Nat} {a b : Int32} {τ : St} {k122 : Int32 → Int32 → St → Prop} {post : Int32 → St → Prop} (hx : τ.1 2 0 = nI N) (hN : N ≤ 6) (h : k122 (sb a (hs' N (fun m => τ.1 8 (6 + m))) (2 ^ N)).1 (sb a (hs' N (fun m => τ.1 8 (6 + m))) (2 ^ N)).2 τ) : ∃ n, f_X12_sold_L30 a b k122 post n 0 0 0 τ := by
  have hp := pw6 hN
  generalize hF : hs' N (fun m => τ.1 8 (6 + m)) = F at h
  refine floop (P := fun n j => f_X12_sold_L30 a b k122 post n (sb a F j).1 (sb a F j).2 (nI j) τ) (2 ^ N) (fun n => ?_) (fun n j hj ih => ?_)
  · rw [f_X12_sold_L30, hx, shl_N N hN]
    exact br_t (nI_le (Nat.le_refl _) (by omega)) h
  · rw [f_X12_sold_L30, hx, shl_N N hN]
    refine br_f (nI_ge hj (by omega)) ?_
    refine floop (P := fun n' i => f_X12_sold_L49 a b (fun x12 x13 x14 x15 σ11 => (a < x15 → ((f_X12_sold_L30 a b k122 post n) x12 x13 (x14 + 1) σ11)) ∧ (¬ a < x15 → ((x15 ≤ x13 → ((f_X12_sold_L30 a b k122 post n) x12 x13 (x14 + 1) σ11)) ∧ (¬ x15 ≤ x13 → ((f_X12_sold_L30 a b k122 post n) x14 x15 (x14 + 1) σ11))))) post n' (sb a F j).1 (sb a F j).2 (nI j) (sm (fun m => if bt (nI j) m then τ.1 8 (6 + m) else 0) i) (nI i) τ) N (fun n' => ?_) (fun n' i hi ih2 => ?_)
    · rw [f_X12_sold_L49]
      refine br_t (le_t hx rfl (by omega) (by omega)) ?_
      have e : sm (fun m => if bt (nI j) m then τ.1 8 (6 + m) else 0) N = F j := by rw [← hF]; rfl
      rw [e, nI_1]
      rw [sb_succ] at ih
      refine ⟨fun c => ?_, fun c => ⟨fun c2 => ?_, fun c2 => ?_⟩⟩
      · rw [if_neg (fun q => q.1 c)] at ih; exact ih
      · rw [if_neg (fun q => k2_nlt c2 q.2)] at ih; exact ih
      · rw [if_pos ⟨c, k2_lt c2⟩] at ih; exact ih
    · rw [f_X12_sold_L49]
      refine br_f (le_f hx rfl (by omega) (by omega)) ?_
      rw [show (6 : Int32) + nI i = nI (6 + i) by rw [nl 6, nI_add], nI_clamp (by omega), nI_1]
      rw [sm] at ih2
      exact ⟨fun c => by rw [if_neg c] at ih2; exact ih2, fun c => ⟨pk_in (6 + i) 465 (by omega), by rw [if_pos c] at ih2; exact ih2⟩⟩
theorem sim_sold (a b : Int32) : Sm (f_X11_sold a b) (f_X12_sold a b) := by
  intro σ τ h
  obtain ⟨N, hc, hn, -⟩ := id h
  obtain ⟨c1, c2, c3, -⟩ := id hc
  obtain ⟨n1, -⟩ := id hn
  have bad : (¬ ((∃ k, k ≤ 999 ∧ a = nI k) ∧ (∃ k, k ≤ 1 ∧ b = nI k))) → f_X12_sold a b τ (fun r' τ' => -1 = r' ∧ Rl σ τ') := by
    intro q
    rw [f_X12_sold]
    refine m_in0 (n := 999) rfl (by decide) (fun k hk e => ⟨fun w => absurd w (by decide), fun _ => ?_⟩) (fun _ => ⟨fun _ => ⟨rfl, h⟩, fun w => absurd rfl w⟩)
    exact m_in0 (n := 1) rfl (by decide) (fun k' hk' e' => absurd ⟨⟨k, hk, e⟩, k', hk', e'⟩ q) (fun _ => ⟨fun w => absurd rfl w, fun _ => ⟨rfl, h⟩⟩)
  rw [f_X11_sold]
  refine ⟨fun q => bad ?_, fun q => ⟨fun q1 => bad ?_, fun q1 => ⟨fun q2 => bad ?_, fun q2 => ⟨fun q3 => ?_, fun q3 => bad ?_⟩⟩⟩⟩
  · rintro ⟨⟨k, hk, rfl⟩, -⟩; exact nI_pos (by omega) q
  · rintro ⟨⟨k, hk, rfl⟩, -⟩; exact nI_nlt (a := 999) hk (by omega) q1
  · rintro ⟨-, k, hk, rfl⟩; exact nI_pos (by omega) q2
  · have e : sb a (hs' N (fun m => τ.1 8 (6 + m))) (2 ^ N) = sb a (hs' N (σ.1 41)) (2 ^ N) := sb_cong (fun k _ => sm_cong (fun m hm => by simp only [(n1 m hm).2.2.1]))
    have go : f_X12_sold a b τ (fun r' τ' => (if b = 0 then (sb a (hs' N (σ.1 41)) (2 ^ N)).2 else (sb a (hs' N (σ.1 41)) (2 ^ N)).1) = r' ∧ Rl σ τ') := by
      rw [f_X12_sold]
      have i1 := (in_iff (b := a) 999 (by decide)).mp ⟨k2_le q, k2_le q1⟩
      refine m_in0 (n := 999) rfl (by decide) (fun _ _ _ => ⟨fun w => absurd w (by decide), fun _ => ?_⟩) (fun w => absurd i1 w)
      refine m_in0 (n := 1) rfl (by decide) (fun _ _ _ => ⟨fun _ => ?_, fun w => absurd w (by decide)⟩) (fun w => absurd (in01 q2 q3) w)
      refine m_sold c3 c1 ⟨fun w => ⟨?_, h⟩, fun w => ⟨?_, h⟩⟩
      · rw [if_neg w, e]
      · rw [if_pos w, e]
    refine x_sold c2 c1 ⟨fun w => ?_, fun w => ?_⟩
    · rw [if_neg w] at go; exact go
    · rw [if_pos w] at go; exact go
  · rintro ⟨-, k, hk, rfl⟩; exact q3 (nI_le (b := 1) hk (by decide))
/-! WHOSE -/
def allB (p : Nat → Bool) : Nat → Bool
  | 0 => true
  | n + 1 => allB p n && p n
theorem allB_false {p : Nat → Bool} {j : Nat} (h : p j = false) : ∀ {n : Nat}, j < n → allB p n = false
  | 0, hj => absurd hj (by omega)
  | n + 1, hj => by
    rw [allB]
    by_cases e : j = n
    · subst e; rw [h]; simp
    · rw [allB_false h (by omega)]; rfl
theorem allB_cong {p q : Nat → Bool} : ∀ {n : Nat}, (∀ k, k < n → p k = q k) → allB p n = allB q n
  | 0, _ => rfl
  | n + 1, h => by rw [allB, allB, allB_cong (fun k hk => h k (by omega)), h n (by omega)]
/-- does LIT j say that it may be man m -/
def lt1 (N : Nat) (ne : Nat → Int32) (x : Int32) (m : Nat) (ls ll : Nat → Int32) (j : Nat) : Bool := decide (bt (ls j) m) && decide (ah N ne (ls j) x / 2 = ll j)
def wf (p : Nat → Bool) : Nat → Int32
  | 0 => 0
  | m + 1 => wf p m ||| (if p m = true then (1 : Int32) <<< (nI m &&& 31) else 0)
theorem wf_cong {p q : Nat → Bool} : ∀ {n : Nat}, (∀ k, k < n → p k = q k) → wf p n = wf q n
  | 0, _ => rfl
  | n + 1, h => by rw [wf, wf, wf_cong (fun k hk => h k (by omega)), h n (by omega)]
theorem x_isLit {N m l : Nat} {σ : St} {post : Int32 → St → Prop} (hN : N ≤ 6) (hT : PT N σ) (hm : m < N) (hl : l ≤ 6) (hlx : σ.1 0 16 = nI l) (hk : ∀ j, j < l → ∃ k, k < 2 ^ N ∧ σ.1 72 j = nI k)
    (h : post (if allB (lt1 N (xne σ m) (σ.1 40 m) m (σ.1 72) (σ.1 73)) l = true then 1 else 0) σ) : f_X11_isLitBy (nI m) σ post := by
  rw [f_X11_isLitBy]
  generalize hp : lt1 N (xne σ m) (σ.1 40 m) m (σ.1 72) (σ.1 73) = p at h
  refine Exists.imp (fun n hn => hn rfl) (floop (P := fun n j => allB p j = true → f_X11_isLitBy_L2 (nI m) post n (nI j) σ) l (fun n => ?_) (fun n j hj ih => ?_))
  · intro q
    rw [q] at h
    rw [f_X11_isLitBy_L2]
    exact br_t (le_t hlx rfl (by omega) (by omega)) h
  · intro q
    rw [f_X11_isLitBy_L2]
    refine br_f (le_f hlx rfl (by omega) (by omega)) ⟨pk_in j 6 (by omega), ?_⟩
    rw [nI_clamp (by omega)]
    have no : p j = false → post 0 σ := fun w => by rw [allB_false w hj] at h; exact h
    refine ⟨fun c => ?_, fun c => ?_⟩
    · rw [f_X11_isLitBy_J29_2]
      exact ⟨fun _ => no (by rw [← hp]; unfold lt1; rw [decide_eq_false c]; rfl), fun w => absurd rfl w⟩
    · rw [f_X11_isLitBy_J29_2]
      refine ⟨fun w => absurd w (by decide), fun _ => ⟨pk_in m 6 (by omega), pk_in j 6 (by omega), ?_⟩⟩
      obtain ⟨k, hk1, ek⟩ := hk j hj
      rw [nI_clamp (by omega), nI_clamp (by omega), f_X0_cutOf, ek]
      refine x_ahead hN hT hm hk1 ⟨pk_in j 6 (by omega), ?_⟩
      rw [← ek, nI_1]
      refine ⟨fun w => ih ?_, fun w => no ?_⟩
      · rw [allB, q, ← hp]
        unfold lt1
        rw [decide_eq_true c, decide_eq_true w]; rfl
      · rw [← hp]
        unfold lt1
        rw [decide_eq_false w, Bool.and_false]
theorem x_whose {N l : Nat} {σ : St} {post : Int32 → St → Prop} (hx : σ.1 21 0 = nI N) (hN : N ≤ 6) (hT : PT N σ) (hl : l ≤ 6) (hlx : σ.1 0 16 = nI l) (hk : ∀ j, j < l → ∃ k, k < 2 ^ N ∧ σ.1 72 j = nI k)
    (h : post (wf (fun m => allB (lt1 N (xne σ m) (σ.1 40 m) m (σ.1 72) (σ.1 73)) l) N) σ) : f_X11_whose σ post := by
  rw [f_X11_whose]
  refine floop (P := fun n j => f_X11_whose_L4 post n (wf (fun m => allB (lt1 N (xne σ m) (σ.1 40 m) m (σ.1 72) (σ.1 73)) l) j) (nI j) σ) N (fun n => ?_) (fun n j hj ih => ?_)
  · rw [f_X11_whose_L4]
    exact br_t (le_t hx rfl (by omega) (by omega)) h
  · rw [f_X11_whose_L4]
    refine br_f (le_f hx rfl (by omega) (by omega)) (x_isLit hN hT hj hl hlx hk ?_)
    rw [nI_1]
    rw [wf] at ih
    split
    · next q =>
      rw [if_pos q] at ih
      exact ⟨fun w => absurd w (by decide), fun _ => ih⟩
    · next q =>
      rw [if_neg q] at ih
      exact ⟨fun _ => ih, fun w => absurd rfl w⟩
theorem m_whose {N l : Nat} {τ : St} {x : Nat → Int32} {post : Int32 → St → Prop} (hx : τ.1 2 0 = nI N) (hN : N ≤ 6) (hz : ∀ m, m < N → τ.1 5 (6 * m + m) = 0) (hl : l ≤ 6) (hlx : τ.1 0 24 = nI l) (ht : ∀ m, m < N → τ.1 10 m = x m)
    (h : post (wf (fun m => allB (lt1 N (mne τ m) (x m) m (τ.1 14) (τ.1 15)) l) N) τ) : ∃ n, f_X12_whose_L8 post n 0 0 τ := by
  refine floop (P := fun n j => f_X12_whose_L8 post n (wf (fun m => allB (lt1 N (mne τ m) (x m) m (τ.1 14) (τ.1 15)) l) j) (nI j) τ) N (fun n => ?_) (fun n j hj ih => ?_)
  · rw [f_X12_whose_L8]
    exact br_t (le_t hx rfl (by omega) (by omega)) h
  · rw [f_X12_whose_L8]
    refine br_f (le_f hx rfl (by omega) (by omega)) ?_
    generalize hA : wf (fun m => allB (lt1 N (mne τ m) (x m) m (τ.1 14) (τ.1 15)) l) j = A
    rw [wf, hA] at ih
    generalize hp : lt1 N (mne τ j) (x j) j (τ.1 14) (τ.1 15) = p at ih
    refine floop (P := fun n' i => f_X12_whose_L23 (fun x14 x15 x16 σ13 => (x16 = 0 → ((f_X12_whose_L8 post n) (x14 ||| 0) (x15 + 1) σ13)) ∧ (¬ x16 = 0 → ((f_X12_whose_L8 post n) (x14 ||| (1 <<< (x15 &&& 31))) (x15 + 1) σ13))) post n' A (nI j) (if allB p i = true then 1 else 0) (nI i) τ) l (fun n' => ?_) (fun n' i hi ih2 => ?_)
    · rw [f_X12_whose_L23]
      refine br_t (le_t hlx rfl (by omega) (by omega)) ?_
      rw [nI_1]
      by_cases q : allB p l = true
      · rw [if_pos q] at ih ⊢
        exact ⟨fun w => absurd w (by decide), fun _ => ih⟩
      · rw [if_neg q] at ih ⊢
        exact ⟨fun _ => ih, fun w => absurd rfl w⟩
    · rw [f_X12_whose_L23]
      refine br_f (le_f hlx rfl (by omega) (by omega)) ?_
      rw [nI_1]
      rw [allB] at ih2
      by_cases q : allB p i = true
      · rw [if_pos q]
        rw [q, Bool.true_and] at ih2
        refine ⟨fun w => absurd w (by decide), fun _ => ⟨pk_in i 6 (by omega), ?_⟩⟩
        rw [nI_clamp (by omega)]
        refine ⟨fun c => ?_, fun c => ⟨pk_in i 6 (by omega), ?_⟩⟩
        · have : p i = false := by rw [← hp]; unfold lt1; rw [decide_eq_false c]; rfl
          rw [this] at ih2
          exact ih2
        · refine m_begins (b := 0) hx hN (by omega) (by omega) (by omega) (hz j hj) ⟨pk_in i 6 (by omega), ?_⟩
          rw [Nat.zero_add, ht j hj]
          refine ⟨fun w => ?_, fun w => ?_⟩
          · have : p i = false := by rw [← hp]; unfold lt1; rw [decide_eq_false w, Bool.and_false]
            rw [this] at ih2
            exact ih2
          · have : p i = true := by rw [← hp]; unfold lt1; rw [decide_eq_true c, decide_eq_true w]; rfl
            rw [this] at ih2
            exact ih2
      · rw [if_neg q]
        have q2 : allB p i = false := by cases hq : allB p i; rfl; exact absurd hq q
        rw [q2, Bool.false_and] at ih2
        exact ⟨fun _ => ih2, fun w => absurd rfl w⟩
theorem sim_whose : Sm f_X11_whose f_X12_whose := by
  intro σ τ h
  obtain ⟨N, hc, hn, -, hl, -⟩ := id h
  obtain ⟨c1, c2, c3, c4, c5, c6, c7, c8, c9, c10, c11, c12⟩ := id hc
  obtain ⟨n1, -⟩ := id hn
  obtain ⟨l, l1, l2, l3, l4⟩ := hl
  refine x_whose c2 c1 c11 l1 l2 (fun j hj => (l4 j hj).2.2) ?_
  rw [f_X12_whose]
  refine m_take (m_whose (N := N) (l := l) (x := τ.1 8) c3 c1 hc.z l1 l3 (fun m hm => ?_) ⟨?_, Rl_A XA.rf (MA.row rfl) h⟩)
  · rw [st_row_self, fl_lt (by omega)]
  · refine wf_cong (fun m hm => allB_cong (fun j hj => ?_))
    show lt1 N (xne σ m) (σ.1 40 m) m (σ.1 72) (σ.1 73) j = lt1 N (mne τ m) (τ.1 8 m) m (τ.1 14) (τ.1 15) j
    have hp : pl N (mne τ m) (σ.1 72 j) = pl N (xne σ m) (σ.1 72 j) := sm_cong (fun o ho => by rw [hc.ne m hm o ho])
    unfold lt1
    rw [(l4 j hj).1, (l4 j hj).2.1, (n1 m hm).1]
    simp only [ah, hp]
    rfl
/-! THE TRACE -/
def SmL (fx fm : St → (Int64 → St → Prop) → Prop) : Prop := ∀ σ τ, Rl σ τ → fx σ (fun r σ' => fm τ (fun r' τ' => r = r' ∧ Rl σ' τ'))
theorem sim_trace : SmL f_X11_trace f_X12_trace := by
  intro σ τ h
  obtain ⟨N, -, -, -, -, -, -, htr, -⟩ := id h
  rw [f_X11_trace]
  refine ⟨7, ?_⟩
  have i0 : ¬ (6 : Int32) ≤ 0 := by decide
  have i1 : ¬ (6 : Int32) ≤ 0 + 1 := by decide
  have i2 : ¬ (6 : Int32) ≤ 0 + 1 + 1 := by decide
  have i3 : ¬ (6 : Int32) ≤ 0 + 1 + 1 + 1 := by decide
  have i4 : ¬ (6 : Int32) ≤ 0 + 1 + 1 + 1 + 1 := by decide
  have i5 : ¬ (6 : Int32) ≤ 0 + 1 + 1 + 1 + 1 + 1 := by decide
  have i6 : (6 : Int32) ≤ 0 + 1 + 1 + 1 + 1 + 1 + 1 := by decide
  rw [f_X11_trace_L4]
  refine br_f i0 ⟨pk_in 0 6 (by omega), fun _ => ?_, fun w => absurd w (by decide), fun w => absurd w (by decide), fun w => absurd w (by decide), fun w => absurd w (by decide), fun w => absurd w (by decide)⟩
  rw [f_X11_trace_L4]
  refine br_f i1 ⟨pk_in 1 6 (by omega), fun w => absurd w (by decide), fun _ => ?_, fun w => absurd w (by decide), fun w => absurd w (by decide), fun w => absurd w (by decide), fun w => absurd w (by decide)⟩
  rw [f_X11_trace_L4]
  refine br_f i2 ⟨pk_in 2 6 (by omega), fun w => absurd w (by decide), fun w => absurd w (by decide), fun _ => ?_, fun w => absurd w (by decide), fun w => absurd w (by decide), fun w => absurd w (by decide)⟩
  rw [f_X11_trace_L4]
  refine br_f i3 ⟨pk_in 3 6 (by omega), fun w => absurd w (by decide), fun w => absurd w (by decide), fun w => absurd w (by decide), fun _ => ?_, fun w => absurd w (by decide), fun w => absurd w (by decide)⟩
  rw [f_X11_trace_L4]
  refine br_f i4 ⟨pk_in 4 6 (by omega), fun w => absurd w (by decide), fun w => absurd w (by decide), fun w => absurd w (by decide), fun w => absurd w (by decide), fun _ => ?_, fun w => absurd w (by decide)⟩
  rw [f_X11_trace_L4]
  refine br_f i5 ⟨pk_in 5 6 (by omega), fun w => absurd w (by decide), fun w => absurd w (by decide), fun w => absurd w (by decide), fun w => absurd w (by decide), fun w => absurd w (by decide), fun _ => ?_⟩
  rw [f_X11_trace_L4]
  refine br_t i6 ?_
  rw [f_X12_trace, htr, Int64.zero_add]
  exact ⟨rfl, h⟩
