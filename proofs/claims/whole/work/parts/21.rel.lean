/-! What ties the two stores together. -/
/-- a loop over 0 .. n - 1 that carries b -/
def fo {β : Type} (f : Nat → β → β) : Nat → β → β
  | 0, b => b
  | k + 1, b => f k (fo f k b)
theorem fo_cong {β : Type} {f g : Nat → β → β} : ∀ {n : Nat} {b : β}, (∀ k, k < n → ∀ b, f k b = g k b) → fo f n b = fo g n b
  | 0, _, _ => rfl
  | n + 1, b, h => by rw [fo, fo, fo_cong (fun k hk => h k (by omega)), h n (by omega)]
def hold (N : Nat) (v : Int32) (x0 x : Nat → Int32) : Prop := ∀ m, m < N → x0 m < v ∨ ¬ x m < v
def holdB (N : Nat) (v : Int32) (x0 x : Nat → Int32) : Bool := (List.range N).all (fun m => decide (x0 m < v) || !decide (x m < v))
theorem holdB_iff {N : Nat} {v : Int32} {x0 x : Nat → Int32} : holdB N v x0 x = true ↔ hold N v x0 x := by
  unfold holdB hold
  rw [List.all_eq_true]
  constructor
  · intro h m hm
    have := h m (List.mem_range.mpr hm)
    simpa using this
  · intro h m hm
    have := h m (List.mem_range.mp hm)
    simpa using this
/-- PLAN: all rows of n more shifts from the sorrows x on, first by numbers; the best so far: how much, by which -/
def dfs (N : Nat) (ne : Nat → Nat → Int32) (gr : Nat → Int32) (sh cg v : Int32) (x0 : Nat → Int32) : Nat → (Nat → Int32) → Int32 → List Int32 → Int32 × List Int32 → Int32 × List Int32
  | 0, _, acc, way, b => if b.1 < acc then (acc, way) else b
  | n + 1, x, acc, way, b => fo (fun k b => if decide (cg < bc (nI k)) = false ∧ holdB N v x0 (lrow N ne gr (nI k) x) = true then dfs N ne gr sh cg v x0 n (lrow N ne gr (nI k) x) (acc + brs N ne sh (nI k) x) (way ++ [nI k]) b else b) (2 ^ N) b
def PlanOK (N : Nat) (ne : Nat → Nat → Int32) (gr : Nat → Int32) (sh cg v : Int32) (x0 : Nat → Int32) (w : Nat) (most : Int32) (way : Nat → Int32) : Prop :=
  most = (dfs N ne gr sh cg v x0 w x0 0 [] (-1, [])).1 ∧ ∀ i, i < w → way i = (dfs N ne gr sh cg v x0 w x0 0 [] (-1, [])).2.getD i 0
abbrev xne (σ : St) : Nat → Nat → Int32 := fun m => σ.1 (25 + m)
/-- the greatest pull on a man in a shift of his -/
def PM (N : Nat) (σ : St) : Prop := ∀ m, m < N → rg 0 54 (σ.1 38 m) ∧ ∀ k, k < 2 ^ N → bt (nI k) m → ¬ σ.1 21 1 < bc (nI k) → (pl N (σ.1 (25 + m)) (nI k)).toInt ≤ (σ.1 38 m).toInt
def RC (N : Nat) (σ τ : St) : Prop :=
  N ≤ 6 ∧ σ.1 21 0 = nI N ∧ τ.1 2 0 = nI N ∧ τ.1 6 0 = σ.1 21 1 ∧ τ.1 7 0 = σ.1 21 2 ∧ rg 1 6 (σ.1 21 1) ∧ rg 0 50 (σ.1 21 2) ∧
  (∀ m, m < N → τ.1 3 m = σ.1 23 m ∧ rg 0 9 (σ.1 23 m)) ∧ (∀ a, a < N → ∀ b, b < N → τ.1 5 (6 * a + b) = σ.1 (25 + a) b ∧ rg (-9) 9 (σ.1 (25 + a) b)) ∧
  (∀ a, a < N → σ.1 (25 + a) a = 0) ∧ PT N σ ∧ PM N σ
def PG (N : Nat) (f g : Nat → Int32) : Prop := (∀ m, m < N → g m = f m ∧ rg 0 999 (f m) ∧ g (6 + m) = f (6 + m) ∧ rg 0 499 (f (6 + m))) ∧ g 12 = f 12 ∧ g 13 = f 13 ∧ rg 0 300 (f 13)
/-- NOW: X's rows of sorrows, HEAP, the past, its numbers; M's row -/
def NR (N : Nat) (a h p : Nat → Int32) (br wk kn : Int32) (g : Nat → Int32) : Prop :=
  (∀ m, m < N → g m = a m ∧ rg 0 999 (a m) ∧ g (6 + m) = h m ∧ rg 0 499 (h m)) ∧ g 12 = br ∧ g 13 = wk ∧ rg 0 300 wk ∧ ∃ K : Nat, K ≤ 10 ∧ kn = nI K ∧ g 14 = nI K ∧ ∀ q, q < K → PG N (fun i => p (14 * q + i)) (fun i => g (15 + 14 * q + i))
def RN (N : Nat) (σ τ : St) : Prop := NR N (σ.1 40) (σ.1 41) (σ.1 42) (σ.1 39 2) (σ.1 39 3) (σ.1 39 4) (τ.1 8)
def RI (N : Nat) (σ τ : St) : Prop :=
  (τ.1 9 0 = σ.1 52 0 ∧ (σ.1 52 0 = 0 ∨ (σ.1 52 0 = 1 ∧ NR N (σ.1 46) (σ.1 47) (σ.1 48) (σ.1 44 2) (σ.1 44 3) (σ.1 44 4) (fun i => τ.1 8 (155 + i))))) ∧
  (τ.1 9 1 = σ.1 52 1 ∧ (σ.1 52 1 = 0 ∨ (σ.1 52 1 = 1 ∧ NR N (σ.1 49) (σ.1 50) (σ.1 51) (σ.1 45 2) (σ.1 45 3) (σ.1 45 4) (fun i => τ.1 8 (310 + i)))))
def RLt (N : Nat) (σ τ : St) : Prop := ∃ l : Nat, l ≤ 6 ∧ σ.1 0 16 = nI l ∧ τ.1 0 24 = nI l ∧ ∀ j, j < l → τ.1 14 j = σ.1 72 j ∧ τ.1 15 j = σ.1 73 j ∧ ∃ k, k < 2 ^ N ∧ σ.1 72 j = nI k
def RT (σ τ : St) : Prop := ∃ t : Nat, t ≤ 6 ∧ σ.1 0 17 = nI t ∧ τ.1 0 27 = nI t ∧ ∀ j, j < t → τ.1 16 j = σ.1 74 j ∧ τ.1 17 j = σ.1 75 j ∧ rg 0 99 (σ.1 74 j)
def RX (σ τ : St) : Prop := ∃ n : Nat, n ≤ 150 ∧ σ.1 1 0 = nI n ∧ τ.1 0 2 = nI n ∧ ∀ j, j < n → ∃ c : Nat, c < 256 ∧ σ.1 2 j = nI c ∧ τ.1 1 j &&& 255 = nI c
def RTr (σ τ : St) : Prop := τ.2 0 = σ.2 65 + σ.2 66 + σ.2 67 + σ.2 68 + σ.2 69 + σ.2 70
def RP (N : Nat) (σ : St) : Prop := σ.1 53 4 = 0 ∨ ∃ w v : Nat, 1 ≤ w ∧ w ≤ 3 ∧ v ≤ 99 ∧ σ.1 53 4 = nI w ∧ σ.1 53 5 = nI v ∧ PlanOK N (xne σ) (σ.1 23) (σ.1 21 2) (σ.1 21 1) (nI v) (σ.1 56) w (σ.1 53 0) (σ.1 54)
def Rl (σ τ : St) : Prop := ∃ N : Nat, RC N σ τ ∧ RN N σ τ ∧ RI N σ τ ∧ RLt N σ τ ∧ RT σ τ ∧ RX σ τ ∧ RTr σ τ ∧ RP N σ
/-- cells of X that the relation reads -/
def xr (c : Nat) : Bool := !(c == 22 || c == 71 || c == 76 || c == 77 || (decide (3 ≤ c) && decide (c ≤ 20)) || (decide (57 ≤ c) && decide (c ≤ 63)))
def XA (σ σ' : St) : Prop := σ'.2 = σ.2 ∧ ∀ c, xr c = true → σ'.1 c = σ.1 c
def mr (c : Nat) : Bool := !(c == 10 || c == 11 || c == 12 || c == 13)
def MA (τ τ' : St) : Prop := τ'.2 = τ.2 ∧ ∀ c, mr c = true → τ'.1 c = τ.1 c
theorem XA.rf {σ : St} : XA σ σ := ⟨rfl, fun _ _ => rfl⟩
theorem MA.rf {τ : St} : MA τ τ := ⟨rfl, fun _ _ => rfl⟩
theorem XA.tr {a b c : St} (h1 : XA a b) (h2 : XA b c) : XA a c := ⟨h2.1.trans h1.1, fun q hq => (h2.2 q hq).trans (h1.2 q hq)⟩
theorem MA.tr {a b c : St} (h1 : MA a b) (h2 : MA b c) : MA a c := ⟨h2.1.trans h1.1, fun q hq => (h2.2 q hq).trans (h1.2 q hq)⟩
theorem XA.row {σ : St} {c : Nat} {g : Nat → Int32} (h : xr c = false) : XA σ (st_row σ c g) := ⟨rfl, fun q hq => st_row_ne _ _ (fun e => by rw [e, h] at hq; cases hq)⟩
theorem MA.row {τ : St} {c : Nat} {g : Nat → Int32} (h : mr c = false) : MA τ (st_row τ c g) := ⟨rfl, fun q hq => st_row_ne _ _ (fun e => by rw [e, h] at hq; cases hq)⟩
theorem xr_25 {a : Nat} (h : a < 14) : xr (25 + a) = true := by
  match a, h with
  | 0, _ => rfl
  | 1, _ => rfl
  | 2, _ => rfl
  | 3, _ => rfl
  | 4, _ => rfl
  | 5, _ => rfl
  | 6, _ => rfl
  | 7, _ => rfl
  | 8, _ => rfl
  | 9, _ => rfl
  | 10, _ => rfl
  | 11, _ => rfl
  | 12, _ => rfl
  | 13, _ => rfl
theorem xne_XA {σ σ' : St} (h : XA σ σ') {a : Nat} (ha : a < 6) : σ'.1 (25 + a) = σ.1 (25 + a) := h.2 _ (xr_25 (by omega))
theorem PT_XA {N : Nat} {σ σ' : St} (hN : N ≤ 6) (h : XA σ σ') (hT : PT N σ) : PT N σ' := fun m hm k hk => by
  rw [xne_XA h (by omega), show 32 + m = 25 + (7 + m) by omega, h.2 _ (xr_25 (by omega)), show 25 + (7 + m) = 32 + m by omega]
  exact hT m hm k hk
theorem PM_XA {N : Nat} {σ σ' : St} (hN : N ≤ 6) (h : XA σ σ') (hT : PM N σ) : PM N σ' := fun m hm => by
  rw [xne_XA h (by omega), h.2 38 rfl, h.2 21 rfl]
  exact hT m hm
theorem lrow_cong {N : Nat} {ne ne' : Nat → Nat → Int32} {gr gr' x x' : Nat → Int32} {s : Int32} (h1 : ∀ a, a < N → ∀ b, b < N → ne' a b = ne a b) (h2 : ∀ m, m < N → gr' m = gr m) (h3 : ∀ m, m < N → x' m = x m) : ∀ m, m < N → lrow N ne' gr' s x' m = lrow N ne gr s x m := by
  intro m hm
  have hp : pl N (ne' m) s = pl N (ne m) s := sm_cong (fun o ho => by rw [h1 m hm o ho])
  simp only [lrow, li, ah, hp, h2 m hm, h3 m hm]
theorem brs_cong {N : Nat} {ne ne' : Nat → Nat → Int32} {x x' : Nat → Int32} {sh s : Int32} (h1 : ∀ a, a < N → ∀ b, b < N → ne' a b = ne a b) (h3 : ∀ m, m < N → x' m = x m) : brs N ne' sh s x' = brs N ne sh s x := by
  refine sm_cong (fun m hm => ?_)
  have hp : pl N (ne' m) s = pl N (ne m) s := sm_cong (fun o ho => by rw [h1 m hm o ho])
  simp only [co, ah, hp, h3 m hm]
theorem holdB_cong {N : Nat} {v : Int32} {a a' b b' : Nat → Int32} (h1 : ∀ m, m < N → a' m = a m) (h2 : ∀ m, m < N → b' m = b m) : holdB N v a' b' = holdB N v a b := by
  unfold holdB
  rw [Bool.eq_iff_iff, List.all_eq_true, List.all_eq_true]
  constructor <;> intro h m hm <;> have := h m hm <;> have hm := List.mem_range.mp hm
  · rwa [h1 m hm, h2 m hm] at this
  · rwa [h1 m hm, h2 m hm]
theorem dfs_cong {N : Nat} {ne ne' : Nat → Nat → Int32} {gr gr' x0 x0' : Nat → Int32} {sh cg v : Int32} (h1 : ∀ a, a < N → ∀ b, b < N → ne' a b = ne a b) (h2 : ∀ m, m < N → gr' m = gr m) (h3 : ∀ m, m < N → x0' m = x0 m) : ∀ (n : Nat) (x x' : Nat → Int32) (acc : Int32) (way : List Int32) (b : Int32 × List Int32), (∀ m, m < N → x' m = x m) → dfs N ne' gr' sh cg v x0' n x' acc way b = dfs N ne gr sh cg v x0 n x acc way b
  | 0, _, _, _, _, _, _ => rfl
  | n + 1, x, x', acc, way, b, hx => by
    rw [dfs, dfs]
    refine fo_cong (fun k _ b => ?_)
    rw [holdB_cong h3 (lrow_cong h1 h2 hx), brs_cong h1 hx, dfs_cong h1 h2 h3 n _ _ _ _ _ (lrow_cong h1 h2 hx)]
theorem RP_XA {N : Nat} {σ σ' : St} (hN : N ≤ 6) (h : XA σ σ') (hp : RP N σ) : RP N σ' := by
  unfold RP at hp ⊢
  rw [h.2 53 rfl, h.2 23 rfl, h.2 21 rfl, h.2 56 rfl, h.2 54 rfl]
  rcases hp with hp | ⟨w, v, h1, h2, h3, h4, h5, h6, h7⟩
  · exact Or.inl hp
  · have hc : dfs N (xne σ') (σ.1 23) (σ.1 21 2) (σ.1 21 1) (nI v) (σ.1 56) w (σ.1 56) 0 [] (-1, []) = dfs N (xne σ) (σ.1 23) (σ.1 21 2) (σ.1 21 1) (nI v) (σ.1 56) w (σ.1 56) 0 [] (-1, []) := dfs_cong (fun a ha b _ => by rw [xne, xne_XA h (by omega)]) (fun _ _ => rfl) (fun _ _ => rfl) _ _ _ _ _ _ (fun _ _ => rfl)
    refine Or.inr ⟨w, v, h1, h2, h3, h4, h5, ?_, ?_⟩
    · rw [hc]; exact h6
    · rw [hc]; exact h7
/-- the relation reads nothing of the cells for trying things out -/
theorem Rl_A {σ σ' τ τ' : St} (hx : XA σ σ') (hm : MA τ τ') (h : Rl σ τ) : Rl σ' τ' := by
  obtain ⟨N, ⟨c1, c2, c3, c4, c5, c6, c7, c8, c9, c10, c11, c12⟩, hn, hi, hl, ht, htx, htr, hp⟩ := h
  refine ⟨N, ⟨c1, ?_, ?_, ?_, ?_, ?_, ?_, ?_, ?_, ?_, PT_XA c1 hx c11, PM_XA c1 hx c12⟩, ?_, ?_, ?_, ?_, ?_, ?_, RP_XA c1 hx hp⟩
  · rw [hx.2 21 rfl]; exact c2
  · rw [hm.2 2 rfl]; exact c3
  · rw [hm.2 6 rfl, hx.2 21 rfl]; exact c4
  · rw [hm.2 7 rfl, hx.2 21 rfl]; exact c5
  · rw [hx.2 21 rfl]; exact c6
  · rw [hx.2 21 rfl]; exact c7
  · rw [hm.2 3 rfl, hx.2 23 rfl]; exact c8
  · intro a ha b hb
    rw [hm.2 5 rfl, xne_XA hx (by omega)]; exact c9 a ha b hb
  · intro a ha
    rw [xne_XA hx (by omega)]; exact c10 a ha
  · unfold RN
    rw [hx.2 40 rfl, hx.2 41 rfl, hx.2 42 rfl, hx.2 39 rfl, hm.2 8 rfl]; exact hn
  · unfold RI
    rw [hm.2 9 rfl, hx.2 52 rfl, hx.2 46 rfl, hx.2 47 rfl, hx.2 48 rfl, hx.2 44 rfl, hx.2 49 rfl, hx.2 50 rfl, hx.2 51 rfl, hx.2 45 rfl, hm.2 8 rfl]; exact hi
  · unfold RLt
    rw [hx.2 0 rfl, hm.2 0 rfl, hm.2 14 rfl, hm.2 15 rfl, hx.2 72 rfl, hx.2 73 rfl]; exact hl
  · unfold RT
    rw [hx.2 0 rfl, hm.2 0 rfl, hm.2 16 rfl, hm.2 17 rfl, hx.2 74 rfl, hx.2 75 rfl]; exact ht
  · unfold RX
    rw [hx.2 1 rfl, hx.2 2 rfl, hm.2 0 rfl, hm.2 1 rfl]; exact htx
  · unfold RTr
    rw [hx.1, hm.1]; exact htr
