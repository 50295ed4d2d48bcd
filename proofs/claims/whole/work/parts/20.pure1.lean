/-! What the methods do, in plain words: small things first. -/
theorem nl (n : Nat) : (OfNat.ofNat n : Int32) = nI n := rfl
theorem floop {P : Nat → Nat → Prop} (e : Nat) (hx : ∀ n, P (n + 1) e) (hs : ∀ n i, i < e → P n (i + 1) → P (n + 1) i) : ∃ n, P n 0 := by
  have h : ∀ k, k ≤ e → P (k + 1) (e - k) := by
    intro k
    induction k with
    | zero => intro _; exact hx 0
    | succ k ih =>
      intro hk
      refine hs (k + 1) (e - (k + 1)) (by omega) ?_
      rw [show e - (k + 1) + 1 = e - k by omega]
      exact ih (by omega)
  have := h e (Nat.le_refl e)
  rw [Nat.sub_self] at this
  exact ⟨e + 1, this⟩
/-- the same from i0 on -/
theorem floopF {P : Nat → Nat → Prop} (e i0 : Nat) (h0 : i0 ≤ e) (hx : ∀ n, P (n + 1) e) (hs : ∀ n i, i0 ≤ i → i < e → P n (i + 1) → P (n + 1) i) : ∃ n, P n i0 := by
  obtain ⟨n, hn⟩ := floop (P := fun n i => P n (i0 + i)) (e - i0) (fun n => by show P (n + 1) (i0 + (e - i0)); rw [show i0 + (e - i0) = e by omega]; exact hx n) (fun n i hi h => hs n (i0 + i) (by omega) (by omega) h)
  exact ⟨n, hn⟩
theorem br_ite {α : Type} {c : Prop} [Decidable c] {a b : α} (P : α → Prop) (h : P (if c then a else b)) : (c → P a) ∧ (¬ c → P b) := ⟨fun q => by rw [if_pos q] at h; exact h, fun q => by rw [if_neg q] at h; exact h⟩
theorem br_iten {α : Type} {c : Prop} [Decidable c] {a b : α} (P : α → Prop) (h : P (if c then a else b)) : (¬ c → P b) ∧ (c → P a) := ⟨(br_ite P h).2, (br_ite P h).1⟩
def sm (f : Nat → Int32) : Nat → Int32
  | 0 => 0
  | n + 1 => sm f n + f n
theorem sm_cong {f g : Nat → Int32} : ∀ {n : Nat}, (∀ k, k < n → f k = g k) → sm f n = sm g n
  | 0, _ => rfl
  | n + 1, h => by rw [sm, sm, sm_cong (fun k hk => h k (by omega)), h n (by omega)]
abbrev bt (s : Int32) (m : Nat) : Prop := ((s >>> (nI m &&& 31)) &&& 1) = 1
def hd' (v : Int32) : Int32 := if 0 ≤ v then (if v ≤ 999 then v else 999) else 0
theorem hd_br {v : Int32} (P : Int32 → Prop) (h : P (hd' v)) : (0 ≤ v → ((v ≤ 999 → P v) ∧ (¬ v ≤ 999 → P 999))) ∧ (¬ 0 ≤ v → P 0) := by
  unfold hd' at h
  refine ⟨fun c => ?_, fun c => ?_⟩
  · rw [if_pos c] at h
    exact br_ite P h
  · rw [if_neg c] at h
    exact h
/-- BESIDE of a man (his row) and those of a shift -/
def pl (N : Nat) (ne : Nat → Int32) (s : Int32) : Int32 := sm (fun o => if bt s o then ne o else 0) N
def ah (N : Nat) (ne : Nat → Int32) (s x : Int32) : Int32 := hd' (x + pl N ne s)
def shl' (sh v : Int32) : Int32 := if sh ≤ v then v else 0
theorem nI_lt31 {n : Nat} (h : n ≤ 1000000) : n < 2 ^ 31 := by omega
theorem le_f {x y : Int32} {a b : Nat} (hx : x = nI a) (hy : y = nI b) (h : b < a) (ha : a < 2 ^ 31) : ¬ x ≤ y := by
  subst hx; subst hy; exact nI_ge h ha
theorem le_t {x y : Int32} {a b : Nat} (hx : x = nI a) (hy : y = nI b) (h : a ≤ b) (hb : b < 2 ^ 31) : x ≤ y := by
  subst hx; subst hy; exact nI_le h hb
theorem and1 (x : Int32) : x &&& 1 = 0 ∨ x &&& 1 = 1 := by
  have h := pk_and x 1 (m := 1) (by decide)
  rw [h]
  have : x.toBitVec.toNat % 2 ^ 1 < 2 := Nat.mod_lt _ (by decide)
  generalize x.toBitVec.toNat % 2 ^ 1 = k at this
  match k, this with
  | 0, _ => exact Or.inl rfl
  | 1, _ => exact Or.inr rfl
theorem bt0 {s : Int32} {m : Nat} : ¬ bt s m ↔ ((s >>> (nI m &&& 31)) &&& 1) = 0 := by
  rcases and1 (s >>> (nI m &&& 31)) with h | h <;> simp [bt, h]
/-! M: the small ones -/
theorem m_in {a b c : Int32} {τ : St} {post : Int32 → St → Prop} : f_X12_in a b c τ post ↔ post (if b ≤ a ∧ a ≤ c then 1 else 0) τ := by
  rw [f_X12_in]
  by_cases c1 : a < b
  · have : ¬ b ≤ a := k2_nle c1
    simp [c1, this]
  · have h1 : b ≤ a := k2_le c1
    by_cases c2 : c < a
    · have : ¬ a ≤ c := k2_nle c2
      simp [c1, c2, this]
    · have h2 : a ≤ c := k2_le c2
      simp [c1, c2, h1, h2]
theorem m_held {a : Int32} {τ : St} {post : Int32 → St → Prop} : f_X12_held a τ post ↔ post (hd' a) τ := by
  rw [f_X12_held]
  by_cases c1 : 0 ≤ a <;> by_cases c2 : a ≤ 999 <;> simp [hd', c1, c2]
theorem m_brings {a : Int32} {τ : St} {post : Int32 → St → Prop} : f_X12_brings a τ post ↔ post (shl' (τ.1 7 0) a) τ := by
  rw [f_X12_brings]
  by_cases c1 : τ.1 7 0 ≤ a <;> simp [shl', c1]
/-- a man's number -/
theorem man_iff {N : Nat} {a x : Int32} (hx : x = nI N) (hN : N ≤ 6) : (0 ≤ a ∧ a ≤ x - 1) ↔ ∃ m, m < N ∧ a = nI m := by
  subst hx
  constructor
  · rintro ⟨h1, h2⟩
    obtain ⟨j, hj, rfl⟩ := nI_of (k2_nlt h1)
    refine ⟨j, ?_, rfl⟩
    cases N with
    | zero =>
      exfalso
      have : nI j ≤ -1 := h2
      rw [Int32.le_iff_toInt_le, nI_toInt hj] at this
      have e : (-1 : Int32).toInt = -1 := by decide
      omega
    | succ n =>
      rw [nI_pred, nI_leI hj (by omega)] at h2
      omega
  · rintro ⟨m, hm, rfl⟩
    refine ⟨nI_pos' (by omega), ?_⟩
    cases N with
    | zero => omega
    | succ n => rw [nI_pred, nI_leI (by omega) (by omega)]; omega
theorem m_isMan {N : Nat} {a : Int32} {τ : St} {post : Int32 → St → Prop} (hx : τ.1 2 0 = nI N) (hN : N ≤ 6) : f_X12_isMan a τ post ↔ ((∃ m, m < N ∧ a = nI m) → post 1 τ) ∧ (¬ (∃ m, m < N ∧ a = nI m) → post 0 τ) := by
  rw [f_X12_isMan, m_in, ← man_iff hx hN]
  by_cases c : 0 ≤ a ∧ a ≤ τ.1 2 0 - 1
  · rw [if_pos c]; simp [c]
  · rw [if_neg c]; simp [c]
theorem x_isMan {N : Nat} {a : Int32} {σ : St} {post : Int32 → St → Prop} (hx : σ.1 21 0 = nI N) (hN : N ≤ 6) : f_X0_isMan a σ post ↔ ((∃ m, m < N ∧ a = nI m) → post 1 σ) ∧ (¬ (∃ m, m < N ∧ a = nI m) → post 0 σ) := by
  rw [f_X0_isMan, hx]
  by_cases c1 : a < 0
  · have hn : ¬ ∃ m, m < N ∧ a = nI m := by
      rintro ⟨m, hm, rfl⟩
      exact nI_pos (by omega) c1
    simp [c1, hn]
  · obtain ⟨j, hj, rfl⟩ := nI_of c1
    have e : (∃ m, m < N ∧ nI j = nI m) ↔ j < N := by
      constructor
      · rintro ⟨m, hm, e⟩
        rw [nI_eq hj (by omega)] at e
        omega
      · intro h; exact ⟨j, h, rfl⟩
    rw [e, nI_leI (by omega) hj]
    by_cases c2 : j < N
    · simp [c1, c2, Nat.not_le.mpr c2]
    · simp [c1, c2, Nat.not_lt.mp c2]
/-! the shifts: sixty-four numbers, looked through -/
def bc (a : Int32) : Int32 := sm (fun k => (a >>> (nI k &&& 31)) &&& 1) 6
theorem m_manyOf {a : Int32} {τ : St} {post : Int32 → St → Prop} (h : post (bc a) τ) : f_X12_manyOf a τ post := by
  rw [f_X12_manyOf]
  refine floop (P := fun n i => f_X12_manyOf_L4 a post n (sm (fun k => (a >>> (nI k &&& 31)) &&& 1) i) (nI i) τ) 6 (fun n => ?_) (fun n i hi ih => ?_)
  · rw [f_X12_manyOf_L4]
    exact br_t (le_t (nl 6) rfl (by omega) (by omega)) h
  · rw [f_X12_manyOf_L4]
    refine br_f (le_f (nl 6) rfl (by omega) (by omega)) ?_
    rw [nI_1]
    exact ih
theorem shl_N : ∀ N : Nat, N ≤ 6 → (1 : Int32) <<< (nI N &&& 31) = nI (2 ^ N) := by
  intro N h
  match N, h with
  | 0, _ => decide
  | 1, _ => decide
  | 2, _ => decide
  | 3, _ => decide
  | 4, _ => decide
  | 5, _ => decide
  | 6, _ => decide
  | n + 7, h => omega
theorem pw6 {N : Nat} (h : N ≤ 6) : 2 ^ N ≤ 64 := by
  calc 2 ^ N ≤ 2 ^ 6 := Nat.pow_le_pow_right (by omega) h
    _ = 64 := rfl
/-- a shift's number: of those there are, of as many as the cage holds at most -/
def isS (N : Nat) (cg a : Int32) : Prop := ∃ k, k < 2 ^ N ∧ a = nI k ∧ ¬ cg < bc (nI k)
theorem m_isShift {N : Nat} {a : Int32} {τ : St} {post : Int32 → St → Prop} (hx : τ.1 2 0 = nI N) (hN : N ≤ 6) (h1 : isS N (τ.1 6 0) a → post 1 τ) (h0 : ¬ isS N (τ.1 6 0) a → post 0 τ) : f_X12_isShift a τ post := by
  rw [f_X12_isShift, m_in, hx, shl_N N hN]
  have hp := pw6 hN
  have hp2 : 0 < 2 ^ N := Nat.pow_pos (by omega)
  by_cases c : 0 ≤ a ∧ a ≤ nI (2 ^ N) - 1
  · rw [if_pos c]
    refine ⟨fun q => absurd q (by decide), fun _ => ?_⟩
    obtain ⟨j, hj, rfl⟩ := nI_of (k2_nlt c.1)
    have hj2 : j < 2 ^ N := by
      have := c.2
      obtain ⟨q, hq⟩ : ∃ q, 2 ^ N = q + 1 := ⟨2 ^ N - 1, by omega⟩
      rw [hq, nI_pred, nI_leI hj (by omega)] at this
      omega
    refine m_manyOf ⟨fun q => h0 ?_, fun q => h1 ⟨j, hj2, rfl, q⟩⟩
    rintro ⟨k, hk, e, q2⟩
    rw [nI_eq hj (by omega)] at e
    subst e
    exact q2 q
  · rw [if_neg c]
    refine ⟨fun _ => h0 ?_, fun q => absurd rfl q⟩
    rintro ⟨k, hk, rfl, -⟩
    refine c ⟨nI_pos' (by omega), ?_⟩
    obtain ⟨q, hq⟩ : ∃ q, 2 ^ N = q + 1 := ⟨2 ^ N - 1, by omega⟩
    rw [hq, nI_pred, nI_leI (by omega) (by omega)]
    omega
def bj1 (a : Int32) : Int32 := a - (((a.toUInt32 >>> ((1 : Int32).toUInt32 &&& Int32.toUInt32 31)).toInt32) &&& 1431655765)
def bj2 (y : Int32) : Int32 := (y &&& 858993459) + (((y.toUInt32 >>> ((2 : Int32).toUInt32 &&& Int32.toUInt32 31)).toInt32) &&& 858993459)
def bj3 (y : Int32) : Int32 := (y + ((y.toUInt32 >>> ((4 : Int32).toUInt32 &&& Int32.toUInt32 31)).toInt32)) &&& 252645135
def bj4 (y : Int32) : Int32 := y + ((y.toUInt32 >>> ((8 : Int32).toUInt32 &&& Int32.toUInt32 31)).toInt32)
def bj5 (y : Int32) : Int32 := y + ((y.toUInt32 >>> ((16 : Int32).toUInt32 &&& Int32.toUInt32 31)).toInt32)
theorem bj_ok : ∀ k, k < 64 → bj5 (bj4 (bj3 (bj2 (bj1 (nI k))))) &&& 63 = bc (nI k) := by decide +kernel
theorem x_bit {k : Nat} (hk : k < 64) {σ : St} {post : Int32 → St → Prop} (h : post (bc (nI k)) σ) : f_J6_bitCount_0f7a4 (nI k) σ post := by
  rw [f_J6_bitCount_0f7a4]
  rintro _ rfl _ rfl _ rfl _ rfl _ rfl
  have := bj_ok k hk
  rw [← this] at h
  exact h
theorem x_isShift {N : Nat} {a : Int32} {σ : St} {post : Int32 → St → Prop} (hx : σ.1 21 0 = nI N) (hN : N ≤ 6) (h1 : isS N (σ.1 21 1) a → post 1 σ) (h0 : ¬ isS N (σ.1 21 1) a → post 0 σ) : f_X0_isShift a σ post := by
  rw [f_X0_isShift, hx, shl_N N hN]
  have hp := pw6 hN
  refine ⟨fun c => h0 ?_, fun c => ?_⟩
  · rintro ⟨k, hk, rfl, -⟩
    exact nI_pos (by omega) c
  · obtain ⟨j, hj, rfl⟩ := nI_of c
    refine ⟨fun c2 => h0 ?_, fun c2 => ?_⟩
    · rintro ⟨k, hk, e, -⟩
      rw [nI_leI (by omega) hj] at c2
      rw [nI_eq hj (by omega)] at e
      omega
    · rw [nI_leI (by omega) hj] at c2
      refine x_bit (by omega) ⟨fun q => h0 ?_, fun q => h1 ⟨j, by omega, rfl, q⟩⟩
      rintro ⟨k, hk, e, q2⟩
      rw [nI_eq hj (by omega)] at e
      subst e
      exact q2 q
/-! what a week does to one man -/
/-- coins of a man of sorrow x in shift s -/
def co (N : Nat) (ne : Nat → Int32) (sh s : Int32) (m : Nat) (x : Int32) : Int32 := if bt s m then shl' sh (ah N ne s x / 2) else 0
/-- his sorrow behind the week -/
def li (N : Nat) (ne : Nat → Int32) (g s : Int32) (m : Nat) (x : Int32) : Int32 := if bt s m then ah N ne s x - ah N ne s x / 2 else hd' (x + g)
def brs (N : Nat) (ne : Nat → Nat → Int32) (sh s : Int32) (row : Nat → Int32) : Int32 := sm (fun m => co N (ne m) sh s m (row m)) N
/-- the table of X holds what BESIDE says -/
def PT (N : Nat) (σ : St) : Prop := ∀ m, m < N → ∀ k, k < 2 ^ N → σ.1 (32 + m) k = pl N (σ.1 (25 + m)) (nI k)
theorem x_ahead {N m k : Nat} {x : Int32} {σ : St} {post : Int32 → St → Prop} (hN : N ≤ 6) (hT : PT N σ) (hm : m < N) (hk : k < 2 ^ N) (h : post (ah N (σ.1 (25 + m)) (nI k) x) σ) : f_X0_aheadOfCut x (nI m) (nI k) σ post := by
  have hp := pw6 hN
  rw [f_X0_aheadOfCut]
  refine ⟨pk_in m 6 (by omega), pk_in k 64 (by omega), ?_⟩
  rw [nI_clamp (by omega), nI_clamp (by omega), hT m hm k hk]
  rintro _ rfl
  exact hd_br (P := fun r => post r σ) h
theorem x_coins {N m k : Nat} {x : Int32} {σ : St} {post : Int32 → St → Prop} (hN : N ≤ 6) (hT : PT N σ) (hm : m < N) (hk : k < 2 ^ N) (h : post (co N (σ.1 (25 + m)) (σ.1 21 2) (nI k) m x) σ) : f_X0_coinsOf x (nI m) (nI k) σ post := by
  rw [f_X0_coinsOf]
  unfold co at h
  refine ⟨fun c => ?_, fun c => ?_⟩
  · rw [if_pos (by rcases and1 (nI k >>> (nI m &&& 31)) with q | q; exact absurd q c; exact q)] at h
    refine x_ahead hN hT hm hk ?_
    exact br_ite (P := fun r => post r σ) h
  · rw [if_neg (bt0.mpr c)] at h
    exact h
theorem x_brings {N k r n : Nat} {σ : St} {post : Int32 → St → Prop} (hx : σ.1 21 0 = nI N) (hN : N ≤ 6) (hT : PT N σ) (hk : k < 2 ^ N) (hn : 6 ≤ n) (hn2 : n < 2 ^ 31) (h : post (brs N (fun m => σ.1 (25 + m)) (σ.1 21 2) (nI k) (σ.1 r)) σ) : f_X0_brings r n (nI k) σ post := by
  rw [f_X0_brings]
  refine floop (P := fun i j => f_X0_brings_L5 r n (nI k) post i (sm (fun m => co N (σ.1 (25 + m)) (σ.1 21 2) (nI k) m (σ.1 r m)) j) (nI j) σ) N (fun i => ?_) (fun i j hj ih => ?_)
  · rw [f_X0_brings_L5]
    exact br_t (le_t hx rfl (by omega) (by omega)) h
  · rw [f_X0_brings_L5]
    refine br_f (le_f hx rfl (by omega) (by omega)) ⟨pk_in j n (by omega), ?_⟩
    rw [nI_clamp (by omega)]
    refine x_coins hN hT hj hk ?_
    rw [nI_1]
    exact ih
/-! rows written place by place -/
theorem st_row_row (σ : St) (c : Nat) (g h : Nat → Int32) : st_row (st_row σ c g) c h = st_row σ c h := by
  unfold st_row
  refine Prod.ext (funext fun c' => ?_) rfl
  by_cases e : c' = c <;> simp [e]
theorem st_row_id (σ : St) (c : Nat) : st_row σ c (σ.1 c) = σ := by
  unfold st_row
  refine Prod.ext (funext fun c' => ?_) rfl
  by_cases e : c' = c <;> simp [e]
theorem st_up_row (σ : St) (c i : Nat) (g : Nat → Int32) (x : Int32) : st_up (st_row σ c g) c i x = st_row σ c (upd g i x) := by
  rw [st_up, st_row_self, st_row_row]
def fl' (F G : Nat → Int32) (j : Nat) : Nat → Int32 := fun i => if i < j then F i else G i
theorem fl_0 (F G : Nat → Int32) : fl' F G 0 = G := funext fun i => by simp [fl']
theorem fl_lt {F G : Nat → Int32} {j i : Nat} (h : i < j) : fl' F G j i = F i := if_pos h
theorem fl_ge {F G : Nat → Int32} {j i : Nat} (h : ¬ i < j) : fl' F G j i = G i := if_neg h
theorem fl_succ (F G : Nat → Int32) (j : Nat) : upd (fl' F G j) j (F j) = fl' F G (j + 1) := funext fun i => by
  unfold upd fl'
  by_cases e : i = j
  · subst e; simp
  · by_cases h : i < j
    · simp [e, h, show i < j + 1 by omega]
    · simp [e, h, show ¬ i < j + 1 by omega]
theorem fb_rng (x : Int32) : -2147483648 ≤ x.toInt ∧ x.toInt < 2147483648 := by
  have h1 := Int32.le_toInt x
  have h2 := Int32.toInt_lt x
  omega
theorem fb_bmod {z : Int} (h1 : -2147483648 ≤ z) (h2 : z < 2147483648) : z.bmod (2 ^ 32) = z := by
  rw [Int.bmod_eq_of_le (by omega) (by omega)]
theorem fb_addI {x y : Int32} (h1 : -2147483648 ≤ x.toInt + y.toInt) (h2 : x.toInt + y.toInt < 2147483648) : (x + y).toInt = x.toInt + y.toInt := by
  rw [Int32.toInt_add, fb_bmod h1 h2]
theorem fb_subI {x y : Int32} (h1 : -2147483648 ≤ x.toInt - y.toInt) (h2 : x.toInt - y.toInt < 2147483648) : (x - y).toInt = x.toInt - y.toInt := by
  rw [Int32.toInt_sub, fb_bmod h1 h2]
theorem fb_mulI {x y : Int32} (h1 : -2147483648 ≤ x.toInt * y.toInt) (h2 : x.toInt * y.toInt < 2147483648) : (x * y).toInt = x.toInt * y.toInt := by
  rw [Int32.toInt_mul, fb_bmod h1 h2]
abbrev rg (a b : Int) (x : Int32) : Prop := a ≤ x.toInt ∧ x.toInt ≤ b
theorem rg_nI {x : Int32} {b : Nat} (h : rg 0 b x) (hb : b < 2 ^ 31) : ∃ k, k ≤ b ∧ x = nI k := by
  obtain ⟨h1, h2⟩ := h
  refine ⟨x.toInt.toNat, by omega, ?_⟩
  apply Int32.toInt_inj.mp
  rw [nI_toInt (by omega)]
  omega
theorem nI_rg {k : Nat} {b : Int} (h : (k : Int) ≤ b) (hk : k < 2 ^ 31) : rg 0 b (nI k) := by
  rw [rg, nI_toInt hk]
  omega
theorem hd_rg (v : Int32) : rg 0 999 (hd' v) := by
  unfold hd'
  split
  · next h =>
    rw [Int32.le_iff_toInt_le] at h
    have e0 : (0 : Int32).toInt = 0 := rfl
    have e9 : (999 : Int32).toInt = 999 := by decide
    split
    · next h2 =>
      rw [Int32.le_iff_toInt_le] at h2
      exact ⟨by omega, by omega⟩
    · exact ⟨by omega, by omega⟩
  · exact ⟨by decide, by decide⟩
theorem half_nI {k : Nat} (h : k < 2 ^ 31) : nI k / 2 = nI (k / 2) := pk_div (d := 2) h (by omega) (by omega)
theorem ah_nI (N : Nat) (ne : Nat → Int32) (s x : Int32) : ∃ k, k ≤ 999 ∧ ah N ne s x = nI k := rg_nI (b := 999) (hd_rg _) (by omega)
theorem li_rg (N : Nat) (ne : Nat → Int32) (g s : Int32) (m : Nat) (x : Int32) : rg 0 999 (li N ne g s m x) := by
  unfold li
  split
  · obtain ⟨k, hk, e⟩ := ah_nI N ne s x
    rw [e, half_nI (by omega), pk_sub (by omega)]
    exact nI_rg (by omega) (by omega)
  · exact hd_rg _
theorem co_rg (N : Nat) (ne : Nat → Int32) (sh s : Int32) (m : Nat) (x : Int32) : rg 0 499 (co N ne sh s m x) := by
  unfold co
  split
  · obtain ⟨k, hk, e⟩ := ah_nI N ne s x
    rw [e, half_nI (by omega)]
    unfold shl'
    split
    · exact nI_rg (by omega) (by omega)
    · exact ⟨by decide, by decide⟩
  · exact ⟨by decide, by decide⟩
theorem min_hd {v : Int32} (h : 0 ≤ v.toInt) : (if v < 999 then v else 999) = hd' v := by
  have h0 : (0 : Int32) ≤ v := by rw [Int32.le_iff_toInt_le]; exact h
  unfold hd'
  rw [if_pos h0]
  by_cases c : v < 999
  · rw [if_pos c, if_pos (by rw [Int32.le_iff_toInt_le]; rw [Int32.lt_iff_toInt_lt] at c; omega)]
  · rw [if_neg c]
    by_cases c2 : v ≤ 999
    · rw [if_pos c2]
      apply Int32.toInt_inj.mp
      rw [Int32.lt_iff_toInt_lt] at c
      rw [Int32.le_iff_toInt_le] at c2
      omega
    · rw [if_neg c2]
theorem add_rg {x y : Int32} {a b c d : Int} (hx : rg a b x) (hy : rg c d y) (h1 : -2147483648 ≤ a + c) (h2 : b + d < 2147483648) : rg (a + c) (b + d) (x + y) := by
  obtain ⟨x1, x2⟩ := hx
  obtain ⟨y1, y2⟩ := hy
  have := fb_addI (x := x) (y := y) (by omega) (by omega)
  rw [rg, this]
  omega
theorem PT_row {N : Nat} {σ : St} {c : Nat} {g : Nat → Int32} (hN : N ≤ 6) (h : PT N σ) (hc : 38 ≤ c ∨ c < 25) : PT N (st_row σ c g) := by
  intro m hm k hk
  rw [st_row_ne _ _ (by omega), st_row_ne _ _ (by omega)]
  exact h m hm k hk
/-- a week for a row of sorrows, from row r1 to row r2 (they may be one) -/
def lrow (N : Nat) (ne : Nat → Nat → Int32) (gr : Nat → Int32) (s : Int32) (x : Nat → Int32) : Nat → Int32 := fun m => li N (ne m) (gr m) s m (x m)
theorem x_lives {N k r1 r2 n1 n2 : Nat} {σ : St} {post : St → Prop} (hx : σ.1 21 0 = nI N) (hN : N ≤ 6) (hT : PT N σ) (hk : k < 2 ^ N) (hn1 : 6 ≤ n1 ∧ n1 < 2 ^ 31) (hn2 : 6 ≤ n2 ∧ n2 < 2 ^ 31) (hr2 : 38 < r2) (hs : ∀ m, m < N → rg 0 999 (σ.1 r1 m)) (hg : ∀ m, m < N → rg 0 9 (σ.1 23 m))
    (h : post (st_row σ r2 (fl' (lrow N (fun m => σ.1 (25 + m)) (σ.1 23) (nI k) (σ.1 r1)) (σ.1 r2) N))) : f_X0_lives r1 n1 r2 n2 (nI k) σ post := by
  rw [f_X0_lives]
  refine Exists.imp (fun n hn => ?_) (floop (P := fun i j => f_X0_lives_L3 r1 n1 r2 n2 (nI k) post i (nI j) (st_row σ r2 (fl' (lrow N (fun m => σ.1 (25 + m)) (σ.1 23) (nI k) (σ.1 r1)) (σ.1 r2) j))) N (fun i => ?_) (fun i j hj ih => ?_))
  · rw [fl_0, st_row_id] at hn
    exact hn
  · rw [f_X0_lives_L3]
    refine br_t (le_t (by rw [st_row_ne _ _ (by omega)]; exact hx) rfl (by omega) (by omega)) h
  · rw [f_X0_lives_L3]
    refine br_f (le_f (by rw [st_row_ne _ _ (by omega)]; exact hx) rfl (by omega) (by omega)) ?_
    have e1 : (st_row σ r2 (fl' (lrow N (fun m => σ.1 (25 + m)) (σ.1 23) (nI k) (σ.1 r1)) (σ.1 r2) j)).1 r1 j = σ.1 r1 j := by
      by_cases e : r1 = r2
      · subst e; rw [st_row_self, fl_ge (by omega)]
      · rw [st_row_ne _ _ e]
    refine ⟨fun c => ⟨pk_in j n1 (by omega), pk_in j 6 (by omega), pk_in j n2 (by omega), ?_⟩, fun c => ⟨pk_in j n1 (by omega), ?_⟩⟩
    · rw [nI_clamp (by omega), e1, st_row_ne (c' := 23) _ _ (by omega), st_up_row, nI_1]
      have hv := add_rg (hs j hj) (hg j hj) (by omega) (by omega)
      rw [min_hd (by have := hv.1; omega)]
      have hF : lrow N (fun m => σ.1 (25 + m)) (σ.1 23) (nI k) (σ.1 r1) j = hd' (σ.1 r1 j + σ.1 23 j) := by
        simp only [lrow, li]
        rw [if_neg c]
      rw [← hF, fl_succ]
      exact ih
    · rw [nI_clamp (by omega), e1]
      refine x_ahead hN (PT_row hN hT (by omega)) hj hk ⟨pk_in j n2 (by omega), ?_⟩
      rw [st_row_ne (c' := 25 + j) _ _ (by omega), st_up_row, nI_1]
      have hF : lrow N (fun m => σ.1 (25 + m)) (σ.1 23) (nI k) (σ.1 r1) j = ah N (σ.1 (25 + j)) (nI k) (σ.1 r1 j) - ah N (σ.1 (25 + j)) (nI k) (σ.1 r1 j) / 2 := by
        simp only [lrow, li]
        rw [if_pos c]
      rw [← hF, fl_succ]
      exact ih
/-! M: a week, for one man and for all -/
theorem sm_add (f : Nat → Int32) (x : Int32) : ∀ n, x + sm f n = x + sm f n := fun _ => rfl
/-- an index in numbers: b + m -/
theorem m_begins {N m b r n : Nat} {s : Int32} {τ : St} {post : Int32 → St → Prop} (hx : τ.1 2 0 = nI N) (hN : N ≤ 6) (hm : m < 6) (hb : b + m < n) (hn : n < 2 ^ 31) (hz : τ.1 5 (6 * m + m) = 0) (h : post (ah N (fun o => τ.1 5 (6 * m + o)) s (τ.1 r (b + m))) τ) : f_X12_begins r n (nI b) s (nI m) τ post := by
  rw [f_X12_begins, nI_add]
  refine ⟨pk_in (b + m) n hb, ?_⟩
  rw [nI_clamp (by omega)]
  refine Exists.imp (fun i hi => ?_) (floop (P := fun i j => f_X12_begins_L11 r n (nI b) s (nI m) (fun x7 σ6 => f_X12_held x7 σ6 (fun x9 σ8 => post x9 σ8)) post i (τ.1 r (b + m) + sm (fun o => if bt s o then τ.1 5 (6 * m + o) else 0) j) (nI j) τ) N (fun i => ?_) (fun i j hj ih => ?_))
  · rw [sm, Int32.add_zero] at hi
    exact hi
  · rw [f_X12_begins_L11]
    exact br_t (le_t hx rfl (by omega) (by omega)) (m_held.mpr h)
  · rw [f_X12_begins_L11]
    refine br_f (le_f hx rfl (by omega) (by omega)) ?_
    rw [sm, ← Int32.add_assoc] at ih
    rw [nI_1]
    refine ⟨fun c => ?_, fun c => ⟨fun c2 => ?_, fun c2 => ?_⟩⟩
    · rw [nI_eq (by omega) (by omega)] at c
      subst c
      have : (if bt s j then τ.1 5 (6 * j + j) else 0) = 0 := by rw [hz]; split <;> rfl
      rw [this] at ih
      exact ih
    · rw [if_neg c2] at ih
      exact ih
    · have e : (6 : Int32) * nI m + nI j = nI (6 * m + j) := by rw [nl 6, pk_mul, nI_add]
      rw [e, nI_clamp (by omega)]
      rw [if_pos c2] at ih
      exact ⟨pk_in (6 * m + j) 72 (by omega), ih⟩
theorem m_take {τ : St} {post : St → Prop} (h : post (st_row τ 10 (fl' (τ.1 8) (τ.1 10) 6))) : f_X12_take τ post := by
  rw [f_X12_take]
  refine Exists.imp (fun i hi => ?_) (floop (P := fun i j => f_X12_take_L2 post i (nI j) (st_row τ 10 (fl' (τ.1 8) (τ.1 10) j))) 6 (fun i => ?_) (fun i j hj ih => ?_))
  · rw [fl_0, st_row_id] at hi
    exact hi
  · rw [f_X12_take_L2]
    exact br_t (le_t (nl 6) rfl (by omega) (by omega)) h
  · rw [f_X12_take_L2]
    refine br_f (le_f (nl 6) rfl (by omega) (by omega)) ?_
    rw [Int32.zero_add, nI_clamp (by omega), st_row_ne (c' := 8) _ _ (by decide), st_up_row, fl_succ, nI_1]
    exact ⟨pk_in j 465 (by omega), pk_in j 24 (by omega), ih⟩
/-- the crew of M, in X's words: rows of BESIDE -/
abbrev mne (τ : St) : Nat → Nat → Int32 := fun m o => τ.1 5 (6 * m + o)
/-- G, but F from place b on, j places -/
def wr (F G : Nat → Int32) (b j : Nat) : Nat → Int32 := fun i => if b ≤ i ∧ i < b + j then F (i - b) else G i
theorem wr_0 (F G : Nat → Int32) (b : Nat) : wr F G b 0 = G := funext fun i => by
  unfold wr; rw [if_neg (by omega)]
theorem wr_in {F G : Nat → Int32} {b j i : Nat} (h : i < j) : wr F G b j (b + i) = F i := by
  unfold wr; rw [if_pos (by omega), show b + i - b = i by omega]
theorem wr_out {F G : Nat → Int32} {b j i : Nat} (h : i < b ∨ b + j ≤ i) : wr F G b j i = G i := by
  unfold wr; rw [if_neg (by omega)]
theorem wr_succ (F G : Nat → Int32) (b j : Nat) : upd (wr F G b j) (b + j) (F j) = wr F G b (j + 1) := funext fun i => by
  unfold upd wr
  by_cases e : i = b + j
  · subst e; rw [if_pos rfl, if_pos (by omega), show b + j - b = j by omega]
  · rw [if_neg e]
    by_cases h : b ≤ i ∧ i < b + j
    · rw [if_pos h, if_pos (by omega)]
    · rw [if_neg h, if_neg (by omega)]
theorem ad6 (b j : Nat) : (nI b + 6) + nI j = nI (b + 6 + j) := by rw [nl 6, nI_add, nI_add]
theorem m_pass {N r n a b : Nat} {s : Int32} {τ : St} {post : Int32 → St → Prop} (hx : τ.1 2 0 = nI N) (hN : N ≤ 6) (hz : ∀ m, m < N → τ.1 5 (6 * m + m) = 0) (hr : 9 < r) (ha : a + 6 ≤ n) (hb : b + 12 ≤ n) (hn : n < 1000) (hab : a = b ∨ a + 6 = b) 
    (h : ∀ g : Nat → Int32, (∀ m, m < N → g (b + m) = lrow N (mne τ) (τ.1 3) s (fun m => τ.1 r (a + m)) m) → (∀ i, (i < b ∨ b + 12 ≤ i) → g i = τ.1 r i) → post (brs N (mne τ) (τ.1 7 0) s (fun m => τ.1 r (a + m))) (st_row τ r g)) : f_X12_pass r n (nI a) (nI b) s τ post := by
  rw [f_X12_pass]
  generalize hF : lrow N (mne τ) (τ.1 3) s (fun m => τ.1 r (a + m)) = F at h
  refine Exists.imp (fun i hi => ?_) (floop (P := fun i j => f_X12_pass_L6 r n (nI a) (nI b) s (fun x14 σ13 => ∃ n18 : Nat, f_X12_pass_L107 r n (nI a) (nI b) s post n18 x14 0 σ13) post i (sm (fun m => co N (mne τ m) (τ.1 7 0) s m (τ.1 r (a + m))) j) (nI j) (st_row τ r (wr F (τ.1 r) (b + 6) j))) N (fun i => ?_) (fun i j hj ih => ?_))
  · rw [wr_0, st_row_id] at hi
    exact hi
  · rw [f_X12_pass_L6]
    refine br_t (le_t (by rw [st_row_ne _ _ (by omega)]; exact hx) rfl (by omega) (by omega)) ?_
    refine Exists.imp (fun i hi => ?_) (floop (P := fun i j => f_X12_pass_L107 r n (nI a) (nI b) s post i (sm (fun m => co N (mne τ m) (τ.1 7 0) s m (τ.1 r (a + m))) N) (nI j) (st_row τ r (wr F (wr F (τ.1 r) (b + 6) N) b j))) N (fun i => ?_) (fun i j hj ih => ?_))
    · rw [wr_0] at hi
      exact hi
    · rw [f_X12_pass_L107]
      refine br_t (le_t (by rw [st_row_ne _ _ (by omega)]; exact hx) rfl (by omega) (by omega)) (h _ (fun m hm => wr_in hm) (fun i hi => ?_))
      rw [wr_out (by omega), wr_out (by omega)]
    · rw [f_X12_pass_L107]
      refine br_f (le_f (by rw [st_row_ne _ _ (by omega)]; exact hx) rfl (by omega) (by omega)) ?_
      rw [ad6, nI_add, nI_clamp (by omega), nI_clamp (by omega), st_up_row, st_row_self, wr_out (i := b + 6 + j) (by omega), wr_in hj, wr_succ, nI_1]
      exact ⟨pk_in (b + 6 + j) n (by omega), pk_in (b + j) n (by omega), ih⟩
  · rw [f_X12_pass_L6]
    refine br_f (le_f (by rw [st_row_ne _ _ (by omega)]; exact hx) rfl (by omega) (by omega)) ?_
    have e1 : (st_row τ r (wr F (τ.1 r) (b + 6) j)).1 r (a + j) = τ.1 r (a + j) := by
      rw [st_row_self, wr_out (by omega)]
    refine ⟨fun c => ?_, fun c => ?_⟩
    · rw [nI_add, nI_clamp (by omega), nI_clamp (by omega), e1, st_row_ne (c' := 3) _ _ (by omega), ad6, nI_clamp (by omega)]
      refine ⟨pk_in (a + j) n (by omega), pk_in j 12 (by omega), m_held.mpr ⟨pk_in (b + 6 + j) n (by omega), ?_⟩⟩
      have hFj : F j = hd' (τ.1 r (a + j) + τ.1 3 j) := by
        rw [← hF]; simp only [lrow, li]; rw [if_neg c]
      rw [sm] at ih
      have hc : co N (mne τ j) (τ.1 7 0) s j (τ.1 r (a + j)) = 0 := by unfold co; rw [if_neg c]
      rw [hc, Int32.add_zero] at ih
      rw [st_up_row, ← hFj, wr_succ, nI_1]
      exact ih
    · refine m_begins (by rw [st_row_ne _ _ (by omega)]; exact hx) hN (by omega) (by omega) (by omega) (by rw [st_row_ne _ _ (by omega)]; exact hz j hj) ?_
      rw [e1, st_row_ne (c' := 5) _ _ (by omega)]
      refine m_brings.mpr ?_
      rw [st_row_ne (c' := 7) _ _ (by omega), ad6, nI_clamp (by omega), st_up_row, nI_1]
      refine ⟨pk_in (b + 6 + j) n (by omega), ?_⟩
      have hFj : F j = ah N (mne τ j) s (τ.1 r (a + j)) - ah N (mne τ j) s (τ.1 r (a + j)) / 2 := by
        rw [← hF]; simp only [lrow, li]; rw [if_pos c]
      rw [sm] at ih
      have hc : co N (mne τ j) (τ.1 7 0) s j (τ.1 r (a + j)) = shl' (τ.1 7 0) (ah N (mne τ j) s (τ.1 r (a + j)) / 2) := by unfold co; rw [if_pos c]
      rw [hc] at ih
      rw [← hFj, wr_succ]
      exact ih
