/-! BEST, LEAN, STILL, TEMPER, NOW, SOLD. -/
theorem bt_00 : ∀ m, m < 6 → ¬ bt (nI 0) m := by decide
theorem brs_0 {N : Nat} (hN : N ≤ 6) (ne : Nat → Nat → Int32) (sh : Int32) (x : Nat → Int32) : brs N ne sh (nI 0) x = 0 := by
  have : ∀ n, n ≤ N → sm (fun m => co N (ne m) sh (nI 0) m (x m)) n = 0 := by
    intro n
    induction n with
    | zero => intro _; rfl
    | succ n ih =>
      intro hn
      rw [sm, ih (by omega)]
      unfold co
      rw [if_neg (bt_00 n (by omega))]
      rfl
  exact this N (Nat.le_refl N)
/-- which number brings most, and how much -/
def bs (f : Nat → Int32) (n : Nat) : Int32 × Int32 := fo (fun k b => if b.2 < f k then (nI k, f k) else b) n (0, 0)
theorem bs_cong {f g : Nat → Int32} {n : Nat} (h : ∀ k, k < n → f k = g k) : bs f n = bs g n := fo_cong (fun k hk b => by rw [h k hk])
theorem bs_succ (f : Nat → Int32) (n : Nat) : bs f (n + 1) = if (bs f n).2 < f n then (nI n, f n) else bs f n := rfl
/-- the yields of all shifts -/
def ys (N : Nat) (ne : Nat → Nat → Int32) (sh cg : Int32) (x : Nat → Int32) (k : Nat) : Int32 := if cg < bc (nI k) then 0 else brs N ne sh (nI k) x
theorem isS_nI {N k : Nat} {cg : Int32} (hN : N ≤ 6) (hk : k < 2 ^ N) : isS N cg (nI k) ↔ ¬ cg < bc (nI k) := by
  have hp := pw6 hN
  constructor
  · rintro ⟨j, hj, e, q⟩
    rw [nI_eq (by omega) (by omega)] at e
    subst e; exact q
  · intro q; exact ⟨k, hk, rfl, q⟩
theorem x_best {N : Nat} {a : Int32} {σ : St} {k84 : Int32 → Int32 → St → Prop} {post : Int32 → St → Prop} (hx : σ.1 21 0 = nI N) (hN : N ≤ 6) (hT : PT N σ) (h : k84 (bs (ys N (xne σ) (σ.1 21 2) (σ.1 21 1) (σ.1 40)) (2 ^ N)).1 (bs (ys N (xne σ) (σ.1 21 2) (σ.1 21 1) (σ.1 40)) (2 ^ N)).2 σ) : ∃ n, f_X11_best_L18 a k84 post n 0 0 1 σ := by
  have hp := pw6 hN
  generalize hF : ys N (xne σ) (σ.1 21 2) (σ.1 21 1) (σ.1 40) = F at h
  have h0 : F 0 = 0 := by rw [← hF]; unfold ys; split; rfl; exact brs_0 hN _ _ _
  refine Exists.imp (fun n hn => ?_) (floopF (P := fun n j => f_X11_best_L18 a k84 post n (bs F j).1 (bs F j).2 (nI j) σ) (2 ^ N) 1 (Nat.pow_pos (by omega)) (fun n => ?_) (fun n j hj0 hj ih => ?_))
  · have e : bs F 1 = (0, 0) := by rw [bs_succ, h0]; rfl
    rw [e] at hn
    exact hn
  · rw [f_X11_best_L18, hx, shl_N N hN]
    exact br_t (nI_le (Nat.le_refl _) (by omega)) h
  · rw [f_X11_best_L18, hx, shl_N N hN]
    refine br_f (nI_ge hj (by omega)) ?_
    have step : f_X11_best_J64_18 a (f_X11_best_L18 a k84 post n) k84 post (bs F j).1 (bs F j).2 (nI j) (F j) σ := by
      rw [f_X11_best_J64_18, nI_1]
      rw [bs_succ] at ih
      refine ⟨fun q => ?_, fun q => ?_⟩
      · rw [if_neg (k2_nlt q)] at ih; exact ih
      · rw [if_pos (k2_lt q)] at ih; exact ih
    refine x_isShift hx hN (fun q => ⟨fun q => absurd q (by decide), fun _ => ?_⟩) (fun q => ⟨fun _ => ?_, fun q => absurd rfl q⟩)
    · have q2 := (isS_nI hN hj).mp q
      have e : F j = brs N (xne σ) (σ.1 21 2) (nI j) (σ.1 40) := by rw [← hF]; unfold ys; rw [if_neg q2]
      refine x_brings hx hN hT hj (by decide) (by decide) ?_
      rw [← e]; exact step
    · have q2 : σ.1 21 1 < bc (nI j) := Decidable.byContradiction fun w => q ((isS_nI hN hj).mpr w)
      have e : F j = 0 := by rw [← hF]; unfold ys; rw [if_pos q2]
      rw [← e]; exact step
theorem m_best {N : Nat} {a : Int32} {τ : St} {k70 : Int32 → Int32 → St → Prop} {post : Int32 → St → Prop} (hx : τ.1 2 0 = nI N) (hN : N ≤ 6) (hz : ∀ m, m < N → τ.1 5 (6 * m + m) = 0) (h : ∀ g, k70 (bs (ys N (mne τ) (τ.1 7 0) (τ.1 6 0) (τ.1 8)) (2 ^ N)).1 (bs (ys N (mne τ) (τ.1 7 0) (τ.1 6 0) (τ.1 8)) (2 ^ N)).2 (st_row τ 10 g)) : ∃ n, f_X12_best_L18 a k70 post n 0 0 0 τ := by
  have hp := pw6 hN
  generalize hF : ys N (mne τ) (τ.1 7 0) (τ.1 6 0) (τ.1 8) = F at h
  refine Exists.imp (fun n hn => ?_) (floop (P := fun n j => ∀ g, f_X12_best_L18 a k70 post n (bs F j).1 (bs F j).2 (nI j) (st_row τ 10 g)) (2 ^ N) (fun n => ?_) (fun n j hj ih => ?_))
  · have := hn (τ.1 10)
    rw [st_row_id] at this
    exact this
  · intro g
    rw [f_X12_best_L18, st_row_ne (c' := 2) _ _ (by decide), hx, shl_N N hN]
    exact br_t (nI_le (Nat.le_refl _) (by omega)) (h g)
  · intro g
    rw [f_X12_best_L18, st_row_ne (c' := 2) _ _ (by decide), hx, shl_N N hN]
    refine br_f (nI_ge hj (by omega)) ?_
    have step : ∀ g, f_X12_best_J50_18 a (f_X12_best_L18 a k70 post n) k70 post (bs F j).1 (bs F j).2 (nI j) (F j) (st_row τ 10 g) := by
      intro g
      have ih := ih g
      rw [f_X12_best_J50_18, nI_1]
      rw [bs_succ] at ih
      refine ⟨fun q => ?_, fun q => ?_⟩
      · rw [if_neg (k2_nlt q)] at ih; exact ih
      · rw [if_pos (k2_lt q)] at ih; exact ih
    refine m_isShift (N := N) hx hN (fun q => ⟨fun q => absurd q (by decide), fun _ => ?_⟩) (fun q => ⟨fun _ => ?_, fun q => absurd rfl q⟩)
    · have q2 : ¬ τ.1 6 0 < bc (nI j) := (isS_nI hN hj).mp q
      have e : F j = brs N (mne τ) (τ.1 7 0) (nI j) (τ.1 8) := by rw [← hF]; unfold ys; rw [if_neg q2]
      refine m_yield (N := N) hx hN hz q (fun g' => ?_)
      rw [st_row_row]
      have e2 := step g'
      rw [e] at e2
      exact e2
    · have q2 : τ.1 6 0 < bc (nI j) := Decidable.byContradiction fun w => q ((isS_nI hN hj).mpr w)
      have e : F j = 0 := by rw [← hF]; unfold ys; rw [if_pos q2]
      rw [← e]; exact step g
theorem ys_eq {N : Nat} {σ τ : St} (h : RC N σ τ) (hn : RN N σ τ) (k : Nat) : ys N (mne τ) (τ.1 7 0) (τ.1 6 0) (τ.1 8) k = ys N (xne σ) (σ.1 21 2) (σ.1 21 1) (σ.1 40) k := by
  unfold ys
  rw [h.2.2.2.1, brs_eq h (fun m hm => (hn.1 m hm).1)]
theorem in01 {a : Int32} (h0 : ¬ a < 0) (h1 : a ≤ 1) : ∃ k, k ≤ 1 ∧ a = nI k := (in_iff 1 (by decide)).mp ⟨k2_le h0, h1⟩
theorem sim_best (a : Int32) : Sm (f_X11_best a) (f_X12_best a) := by
  intro σ τ h
  obtain ⟨N, hc, hn, -⟩ := id h
  obtain ⟨c1, c2, c3, c4, c5, c6, c7, c8, c9, c10, c11, c12⟩ := id hc
  have bad : (¬ ∃ k, k ≤ 1 ∧ a = nI k) → f_X12_best a τ (fun r' τ' => -1 = r' ∧ Rl σ τ') := by
    intro q
    rw [f_X12_best]
    exact m_in0 (n := 1) rfl (by decide) (fun k hk e => absurd ⟨k, hk, e⟩ q) (fun _ => ⟨fun w => absurd rfl w, fun _ => ⟨rfl, h⟩⟩)
  rw [f_X11_best]
  refine ⟨fun q => bad ?_, fun q => ⟨fun q1 => ?_, fun q1 => bad ?_⟩⟩
  · rintro ⟨k, hk, rfl⟩; exact nI_pos (by omega) q
  · refine x_best c2 c1 c11 ?_
    have e := bs_cong (fun k (_ : k < 2 ^ N) => ys_eq hc hn k)
    have go : f_X12_best a τ (fun r' τ' => (if a = 0 then (bs (ys N (xne σ) (σ.1 21 2) (σ.1 21 1) (σ.1 40)) (2 ^ N)).1 else (bs (ys N (xne σ) (σ.1 21 2) (σ.1 21 1) (σ.1 40)) (2 ^ N)).2) = r' ∧ Rl σ τ') := by
      rw [f_X12_best]
      refine m_in0 (n := 1) rfl (by decide) (fun _ _ _ => ⟨fun _ => ?_, fun w => absurd w (by decide)⟩) (fun w => absurd (in01 q q1) w)
      refine m_best c3 c1 hc.z (fun g => ⟨fun w => ⟨?_, Rl_A XA.rf (MA.row rfl) h⟩, fun w => ⟨?_, Rl_A XA.rf (MA.row rfl) h⟩⟩)
      · rw [if_neg w, e]
      · rw [if_pos w, e]
    refine ⟨fun w => ?_, fun w => ?_⟩
    · rw [if_neg w] at go; exact go
    · rw [if_pos w] at go; exact go
  · rintro ⟨k, hk, rfl⟩; exact q1 (nI_le (b := 1) hk (by decide))
/-! weeks again and again -/
def itr (N : Nat) (ne : Nat → Nat → Int32) (gr : Nat → Int32) (s : Int32) (x : Nat → Int32) : Nat → Nat → Int32
  | 0 => x
  | j + 1 => lrow N ne gr s (itr N ne gr s x j)
theorem itr_rg {N : Nat} {ne : Nat → Nat → Int32} {gr x : Nat → Int32} {s : Int32} (h : ∀ m, m < N → rg 0 999 (x m)) : ∀ j m, m < N → rg 0 999 (itr N ne gr s x j m)
  | 0, m, hm => h m hm
  | j + 1, m, _ => li_rg _ _ _ _ _ _
theorem itr_cong {N : Nat} {ne ne' : Nat → Nat → Int32} {gr gr' x x' : Nat → Int32} {s : Int32} (h1 : ∀ a, a < N → ∀ b, b < N → ne' a b = ne a b) (h2 : ∀ m, m < N → gr' m = gr m) (h3 : ∀ m, m < N → x' m = x m) : ∀ j m, m < N → itr N ne' gr' s x' j m = itr N ne gr s x j m
  | 0, m, hm => h3 m hm
  | j + 1, m, hm => lrow_cong h1 h2 (itr_cong h1 h2 h3 j) m hm
theorem x_week1 {N k : Nat} {σ : St} {g x : Nat → Int32} {post : St → Prop} (hx : σ.1 21 0 = nI N) (hN : N ≤ 6) (hT : PT N σ) (hk : k < 2 ^ N) (hg : ∀ m, m < N → rg 0 9 (σ.1 23 m)) (hs : ∀ m, m < N → rg 0 999 (x m)) (he : ∀ m, m < N → g m = x m)
    (h : ∀ g', (∀ m, m < N → g' m = lrow N (xne σ) (σ.1 23) (nI k) x m) → post (st_row σ 71 g')) : f_X0_lives 71 6 71 6 (nI k) (st_row σ 71 g) post := by
  refine x_lives (N := N) hx hN (PT_row hN hT (by omega)) hk (by decide) (by decide) (by decide) (fun m hm => by rw [st_row_self, he m hm]; exact hs m hm) hg ?_
  rw [st_row_row]
  refine h _ (fun m hm => ?_)
  rw [fl_lt hm]
  exact lrow_cong (fun a ha b _ => by rw [st_row_ne _ _ (by omega)]) (fun _ _ => rfl) (fun m hm => by rw [st_row_self, he m hm]) m hm
theorem x_brings1 {N k : Nat} {σ : St} {g x : Nat → Int32} {post : Int32 → St → Prop} (hx : σ.1 21 0 = nI N) (hN : N ≤ 6) (hT : PT N σ) (hk : k < 2 ^ N) (he : ∀ m, m < N → g m = x m)
    (h : post (brs N (xne σ) (σ.1 21 2) (nI k) x) (st_row σ 71 g)) : f_X0_brings 71 6 (nI k) (st_row σ 71 g) post := by
  refine x_brings (N := N) hx hN (PT_row hN hT (by omega)) hk (by decide) (by decide) ?_
  have e : brs N (fun m => (st_row σ 71 g).1 (25 + m)) ((st_row σ 71 g).1 21 2) (nI k) ((st_row σ 71 g).1 71) = brs N (xne σ) (σ.1 21 2) (nI k) x := brs_cong (fun a ha b _ => by rw [st_row_ne _ _ (by omega)]) (fun m hm => by rw [st_row_self, he m hm])
  rw [e]
  exact h
theorem m_week1 {N k : Nat} {τ : St} {g x : Nat → Int32} {post : Int32 → St → Prop} (hx : τ.1 2 0 = nI N) (hN : N ≤ 6) (hz : ∀ m, m < N → τ.1 5 (6 * m + m) = 0) (he : ∀ m, m < N → g m = x m)
    (h : ∀ g', (∀ m, m < N → g' m = lrow N (mne τ) (τ.1 3) (nI k) x m) → post (brs N (mne τ) (τ.1 7 0) (nI k) x) (st_row τ 10 g')) : f_X12_pass 10 24 0 0 (nI k) (st_row τ 10 g) post := by
  refine m_pass (N := N) (a := 0) (b := 0) hx hN hz (by decide) (by decide) (by decide) (by decide) (Or.inl rfl) (fun g' h1 _ => ?_)
  rw [st_row_row]
  have e : brs N (mne (st_row τ 10 g)) ((st_row τ 10 g).1 7 0) (nI k) (fun m => (st_row τ 10 g).1 10 (0 + m)) = brs N (mne τ) (τ.1 7 0) (nI k) x := brs_cong (fun a _ b _ => rfl) (fun m hm => by rw [st_row_self, Nat.zero_add, he m hm])
  rw [e]
  refine h g' (fun m hm => ?_)
  have := h1 m hm
  rw [Nat.zero_add] at this
  rw [this]
  exact lrow_cong (fun a _ b _ => rfl) (fun _ _ => rfl) (fun m hm => by rw [st_row_self, Nat.zero_add, he m hm]) m hm
theorem x_lean {N k : Nat} {v : Int32} {σ : St} {x : Nat → Int32} {post : Int32 → St → Prop} (hx : σ.1 21 0 = nI N) (hN : N ≤ 6) (hT : PT N σ) (hk : k < 2 ^ N) (hg : ∀ m, m < N → rg 0 9 (σ.1 23 m)) (hs : ∀ m, m < N → rg 0 999 (x m))
    (h1 : ∀ j, j < 60 → (∀ i, i < j → ¬ brs N (xne σ) (σ.1 21 2) (nI k) (itr N (xne σ) (σ.1 23) (nI k) x i) < v) → brs N (xne σ) (σ.1 21 2) (nI k) (itr N (xne σ) (σ.1 23) (nI k) x j) < v → ∀ g, post (nI (j + 1)) (st_row σ 71 g))
    (h2 : (∀ i, i < 60 → ¬ brs N (xne σ) (σ.1 21 2) (nI k) (itr N (xne σ) (σ.1 23) (nI k) x i) < v) → ∀ g, post (-9) (st_row σ 71 g)) : ∀ g, (∀ m, m < N → g m = x m) → ∃ n, f_X11_lean_L45 (nI k) v post n 1 (st_row σ 71 g) := by
  intro g hg0
  refine Exists.imp (fun n hn => ?_) (floop (P := fun n j => ∀ g, (∀ m, m < N → g m = itr N (xne σ) (σ.1 23) (nI k) x j m) → (∀ i, i < j → ¬ brs N (xne σ) (σ.1 21 2) (nI k) (itr N (xne σ) (σ.1 23) (nI k) x i) < v) → f_X11_lean_L45 (nI k) v post n (nI (j + 1)) (st_row σ 71 g)) 60 (fun n => ?_) (fun n j hj ih => ?_))
  · exact hn g hg0 (fun i hi => absurd hi (by omega))
  · intro g _ hq
    rw [f_X11_lean_L45]
    exact br_t (nI_lt (a := 60) (by omega) (by omega)) (h2 hq g)
  · intro g he hq
    rw [f_X11_lean_L45]
    refine br_f (nI_nlt (a := 60) (by omega) (by omega)) ?_
    refine x_brings1 hx hN hT hk he ⟨fun q => ?_, fun q => h1 j hj hq (k2_lt q) g⟩
    refine x_week1 hx hN hT hk hg (itr_rg hs j) he (fun g' hg' => ?_)
    rw [nI_1]
    refine ih g' hg' (fun i hi => ?_)
    by_cases e : i = j
    · subst e; exact k2_nlt q
    · exact hq i (by omega)
theorem m_lean {N k : Nat} {v : Int32} {τ : St} {x : Nat → Int32} {post : Int32 → St → Prop} (hx : τ.1 2 0 = nI N) (hN : N ≤ 6) (hz : ∀ m, m < N → τ.1 5 (6 * m + m) = 0)
    (h1 : ∀ j, j < 60 → (∀ i, i < j → ¬ brs N (mne τ) (τ.1 7 0) (nI k) (itr N (mne τ) (τ.1 3) (nI k) x i) < v) → brs N (mne τ) (τ.1 7 0) (nI k) (itr N (mne τ) (τ.1 3) (nI k) x j) < v → ∀ g, post (nI (j + 1)) (st_row τ 10 g))
    (h2 : (∀ i, i < 60 → ¬ brs N (mne τ) (τ.1 7 0) (nI k) (itr N (mne τ) (τ.1 3) (nI k) x i) < v) → ∀ g, post (-9) (st_row τ 10 g)) : ∀ g, (∀ m, m < N → g m = x m) → ∃ n, f_X12_lean_L27 (nI k) v post n 1 (st_row τ 10 g) := by
  intro g hg0
  refine Exists.imp (fun n hn => ?_) (floop (P := fun n j => ∀ g, (∀ m, m < N → g m = itr N (mne τ) (τ.1 3) (nI k) x j m) → (∀ i, i < j → ¬ brs N (mne τ) (τ.1 7 0) (nI k) (itr N (mne τ) (τ.1 3) (nI k) x i) < v) → f_X12_lean_L27 (nI k) v post n (nI (j + 1)) (st_row τ 10 g)) 60 (fun n => ?_) (fun n j hj ih => ?_))
  · exact hn g hg0 (fun i hi => absurd hi (by omega))
  · intro g _ hq
    rw [f_X12_lean_L27]
    exact br_t (nI_lt (a := 60) (by omega) (by omega)) (h2 hq g)
  · intro g he hq
    rw [f_X12_lean_L27]
    refine br_f (nI_nlt (a := 60) (by omega) (by omega)) ?_
    refine m_week1 hx hN hz he (fun g' hg' => ⟨fun q => ?_, fun q => h1 j hj hq (k2_lt q) g'⟩)
    rw [nI_1]
    refine ih g' hg' (fun i hi => ?_)
    by_cases e : i = j
    · subst e; exact k2_nlt q
    · exact hq i (by omega)
theorem cpy6 {f g : Nat → Int32} {m : Nat} (h : m < 6) : va_cpy f g 0 0 6 m = f m := by
  rw [pk_cpy_in (by omega) (by omega)]; simp
theorem sim_lean (a v : Int32) : Sm (f_X11_lean a v) (f_X12_lean a v) := by
  intro σ τ h
  obtain ⟨N, hc, hn, -⟩ := id h
  obtain ⟨c1, c2, c3, c4, c5, c6, c7, c8, c9, c10, c11, c12⟩ := id hc
  have bad : (¬ (isS N (σ.1 21 1) a ∧ 1 ≤ v ∧ v ≤ 999)) → f_X12_lean a v τ (fun r' τ' => -1 = r' ∧ Rl σ τ') := by
    intro q
    rw [f_X12_lean]
    refine m_isShift c3 c1 (fun w => ⟨fun q => absurd q (by decide), fun _ => ?_⟩) (fun w => ⟨fun _ => ⟨rfl, h⟩, fun q => absurd rfl q⟩)
    rw [m_in]
    by_cases e : 1 ≤ v ∧ v ≤ 999
    · rw [c4] at w
      exact absurd ⟨w, e⟩ q
    · rw [if_neg e]
      exact ⟨fun w => absurd rfl w, fun _ => ⟨rfl, h⟩⟩
  rw [f_X11_lean]
  refine x_isShift c2 c1 (fun q => ⟨fun q => absurd q (by decide), fun _ => ⟨fun q1 => bad (fun w => k2_nle q1 w.2.1), fun q1 => ⟨fun q2 => ?_, fun q2 => bad (fun w => q2 w.2.2)⟩⟩⟩) (fun q => ⟨fun _ => bad (fun w => q w.1), fun q => absurd rfl q⟩)
  obtain ⟨k, hk, rfl, hb⟩ := id q
  have hs : ∀ m, m < N → rg 0 999 (σ.1 40 m) := fun m hm => (hn.1 m hm).2.1
  have hit : ∀ i, brs N (mne τ) (τ.1 7 0) (nI k) (itr N (mne τ) (τ.1 3) (nI k) (τ.1 8) i) = brs N (xne σ) (σ.1 21 2) (nI k) (itr N (xne σ) (σ.1 23) (nI k) (σ.1 40) i) := fun i =>
    brs_eq hc (itr_cong hc.ne hc.gr (fun m hm => (hn.1 m hm).1) i) _
  have go : ∀ (r : Int32) (g : Nat → Int32), (∀ j, j < 60 → (∀ i, i < j → ¬ brs N (xne σ) (σ.1 21 2) (nI k) (itr N (xne σ) (σ.1 23) (nI k) (σ.1 40) i) < v) → brs N (xne σ) (σ.1 21 2) (nI k) (itr N (xne σ) (σ.1 23) (nI k) (σ.1 40) j) < v → r = nI (j + 1)) → ((∀ i, i < 60 → ¬ brs N (xne σ) (σ.1 21 2) (nI k) (itr N (xne σ) (σ.1 23) (nI k) (σ.1 40) i) < v) → r = -9) → f_X12_lean (nI k) v τ (fun r' τ' => r = r' ∧ Rl (st_row σ 71 g) τ') := by
    intro r g r1 r2
    rw [f_X12_lean]
    refine m_isShift c3 c1 (fun w => ⟨fun q => absurd q (by decide), fun _ => ?_⟩) (fun w => absurd (by rw [c4]; exact q) w)
    rw [m_in, if_pos ⟨k2_le q1, q2⟩]
    refine ⟨fun _ => ?_, fun w => absurd w (by decide)⟩
    refine m_take ?_
    refine m_lean c3 c1 hc.z (x := τ.1 8) (fun j hj w1 w2 g' => ⟨r1 j hj (fun i hi => ?_) ?_, Rl_A (XA.row rfl) (MA.row rfl) h⟩) (fun w g' => ⟨r2 (fun i hi => ?_), Rl_A (XA.row rfl) (MA.row rfl) h⟩) _ (fun m hm => fl_lt (by omega))
    · rw [← hit]; exact w1 i hi
    · rw [← hit]; exact w2
    · rw [← hit]; exact w i hi
  refine x_lean c2 c1 c11 hk (fun m hm => (c8 m hm).2) hs (x := σ.1 40) (fun j hj w1 w2 g => go _ g (fun j' hj' u1 u2 => ?_) (fun u => absurd w2 (u j hj))) (fun w g => go _ g (fun j hj _ u => absurd u (w j hj)) (fun _ => rfl)) _ (fun m hm => cpy6 (by omega))
  have : j = j' := by
    rcases Nat.lt_trichotomy j j' with e | e | e
    · exact absurd w2 (u1 j e)
    · exact e
    · exact absurd u2 (w1 j' e)
  rw [this]
theorem x_still {N k n' : Nat} {m : Int32} {σ : St} {x : Nat → Int32} {post : Int32 → St → Prop} (hx : σ.1 21 0 = nI N) (hN : N ≤ 6) (hT : PT N σ) (hk : k < 2 ^ N) (hn : n' ≤ 60) (hg : ∀ m, m < N → rg 0 9 (σ.1 23 m)) (hs : ∀ m, m < N → rg 0 999 (x m))
    (h1 : ∀ g, (∀ m, m < N → g m = itr N (xne σ) (σ.1 23) (nI k) x n' m) → vp_in m 6 ∧ post ((st_row σ 71 g).1 71 m.toNatClampNeg) (st_row σ 71 g)) : ∀ g, (∀ m, m < N → g m = x m) → ∃ n, f_X11_still_L55 (nI k) (nI n') m post n 0 (st_row σ 71 g) := by
  intro g hg0
  refine Exists.imp (fun n hn => ?_) (floop (P := fun n j => ∀ g, (∀ m, m < N → g m = itr N (xne σ) (σ.1 23) (nI k) x j m) → f_X11_still_L55 (nI k) (nI n') m post n (nI j) (st_row σ 71 g)) n' (fun n => ?_) (fun n j hj ih => ?_))
  · exact hn g hg0
  · intro g he
    rw [f_X11_still_L55]
    exact br_t (nI_le (Nat.le_refl _) (by omega)) (h1 g he)
  · intro g he
    rw [f_X11_still_L55]
    refine br_f (nI_ge hj (by omega)) ?_
    refine x_week1 hx hN hT hk hg (itr_rg hs j) he (fun g' hg' => ?_)
    rw [nI_1]
    exact ih g' hg'
theorem m_still {N k n' : Nat} {m : Int32} {τ : St} {x : Nat → Int32} {post : Int32 → St → Prop} (hx : τ.1 2 0 = nI N) (hN : N ≤ 6) (hz : ∀ m, m < N → τ.1 5 (6 * m + m) = 0) (hn : n' ≤ 60)
    (h1 : ∀ g, (∀ m, m < N → g m = itr N (mne τ) (τ.1 3) (nI k) x n' m) → vp_in m 24 ∧ post ((st_row τ 10 g).1 10 m.toNatClampNeg) (st_row τ 10 g)) : ∀ g, (∀ m, m < N → g m = x m) → ∃ n, f_X12_still_L35 (nI k) (nI n') m post n 0 (st_row τ 10 g) := by
  intro g hg0
  refine Exists.imp (fun n hn => ?_) (floop (P := fun n j => ∀ g, (∀ m, m < N → g m = itr N (mne τ) (τ.1 3) (nI k) x j m) → f_X12_still_L35 (nI k) (nI n') m post n (nI j) (st_row τ 10 g)) n' (fun n => ?_) (fun n j hj ih => ?_))
  · exact hn g hg0
  · intro g he
    rw [f_X12_still_L35]
    exact br_t (nI_le (Nat.le_refl _) (by omega)) (h1 g he)
  · intro g he
    rw [f_X12_still_L35]
    refine br_f (nI_ge hj (by omega)) ?_
    refine m_week1 hx hN hz he (fun g' hg' => ?_)
    rw [nI_1]
    exact ih g' hg'
theorem sim_still (a b m : Int32) : Sm (f_X11_still a b m) (f_X12_still a b m) := by
  intro σ τ h
  obtain ⟨N, hc, hn, -⟩ := id h
  obtain ⟨c1, c2, c3, c4, c5, c6, c7, c8, c9, c10, c11, c12⟩ := id hc
  have bad : (¬ (isS N (σ.1 21 1) a ∧ (∃ k, k ≤ 60 ∧ b = nI k) ∧ ∃ q, q < N ∧ m = nI q)) → f_X12_still a b m τ (fun r' τ' => -1 = r' ∧ Rl σ τ') := by
    intro q
    rw [f_X12_still]
    refine m_isShift c3 c1 (fun w => ⟨fun q => absurd q (by decide), fun _ => ?_⟩) (fun w => ⟨fun _ => ⟨rfl, h⟩, fun q => absurd rfl q⟩)
    refine m_in0 (n := 60) rfl (by decide) (fun k hk e => ⟨fun w => absurd w (by decide), fun _ => ?_⟩) (fun _ => ⟨fun _ => ⟨rfl, h⟩, fun w => absurd rfl w⟩)
    rw [m_isMan c3 c1]
    rw [c4] at w
    exact ⟨fun w2 => absurd ⟨w, ⟨k, hk, e⟩, w2⟩ q, fun _ => ⟨fun w => absurd rfl w, fun _ => ⟨rfl, h⟩⟩⟩
  rw [f_X11_still]
  refine x_isShift c2 c1 (fun q => ⟨fun q => absurd q (by decide), fun _ => ⟨fun q1 => bad ?_, fun q1 => ⟨fun q2 => bad ?_, fun q2 => ?_⟩⟩⟩) (fun q => ⟨fun _ => bad (fun w => q w.1), fun q => absurd rfl q⟩)
  · rintro ⟨-, ⟨k, hk, rfl⟩, -⟩; exact nI_pos (by omega) q1
  · rintro ⟨-, ⟨k, hk, rfl⟩, -⟩; exact nI_nlt (a := 60) hk (by omega) q2
  rw [x_isMan c2 c1]
  refine ⟨fun qm => ⟨fun _ => ?_, fun w => absurd w (by decide)⟩, fun qm => ⟨fun w => absurd rfl w, fun _ => bad (fun w => qm w.2.2)⟩⟩
  obtain ⟨n', hn', rfl⟩ := (in_iff (b := b) 60 (by decide)).mp ⟨k2_le q1, k2_le q2⟩
  obtain ⟨o, ho, rfl⟩ := qm
  obtain ⟨k, hk, rfl, hb⟩ := id q
  have hs : ∀ m, m < N → rg 0 999 (σ.1 40 m) := fun m hm => (hn.1 m hm).2.1
  refine x_still c2 c1 c11 hk hn' (fun m hm => (c8 m hm).2) hs (x := σ.1 40) (fun g he => ⟨pk_in o 6 (by omega), ?_⟩) _ (fun m hm => cpy6 (by omega))
  rw [st_row_self, nI_clamp (by omega), he o ho]
  rw [f_X12_still]
  refine m_isShift c3 c1 (fun w => ⟨fun q => absurd q (by decide), fun _ => ?_⟩) (fun w => absurd (by rw [c4]; exact q) w)
  refine m_in0 (n := 60) rfl (by decide) (fun _ _ _ => ⟨fun w => absurd w (by decide), fun _ => ?_⟩) (fun w => absurd ⟨n', hn', rfl⟩ w)
  rw [m_isMan c3 c1]
  refine ⟨fun _ => ⟨fun _ => m_take ?_, fun w => absurd w (by decide)⟩, fun w => absurd ⟨o, ho, rfl⟩ w⟩
  refine m_still c3 c1 hc.z hn' (x := τ.1 8) (fun g' he' => ⟨pk_in o 24 (by omega), ?_, Rl_A (XA.row rfl) (MA.row rfl) h⟩) _ (fun m hm => fl_lt (by omega))
  rw [st_row_self, nI_clamp (by omega), he' o ho]
  exact (itr_cong hc.ne hc.gr (fun m hm => (hn.1 m hm).1) n' o ho).symm
