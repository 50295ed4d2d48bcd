/-! MATES: rows of digits, 0 alone, d + 1 with man d. -/
theorem allB_iff {p : Nat → Bool} : ∀ {n : Nat}, allB p n = true ↔ ∀ k, k < n → p k = true
  | 0 => ⟨fun _ k hk => absurd hk (by omega), fun _ => rfl⟩
  | n + 1 => by
    rw [allB, Bool.and_eq_true, allB_iff]
    constructor
    · rintro ⟨h1, h2⟩ k hk
      by_cases e : k = n
      · rw [e]; exact h2
      · exact h1 k (by omega)
    · intro h
      exact ⟨fun k hk => h k (by omega), h n (by omega)⟩
theorem fo_add {β : Type} {f : Nat → β → β} {A : Nat} {b : β} : ∀ {M : Nat}, fo f (A + M) b = fo (fun k => f (A + k)) M (fo f A b)
  | 0 => rfl
  | M + 1 => by rw [← Nat.add_assoc, fo, fo, fo_add]
theorem fo_mul {β : Type} {f : Nat → β → β} {M : Nat} {b : β} : ∀ {q : Nat}, fo f (q * M) b = fo (fun e b => fo (fun k => f (e * M + k)) M b) q b
  | 0 => by rw [Nat.zero_mul]; rfl
  | q + 1 => by rw [Nat.succ_mul, fo_add, fo, fo_mul]
theorem fo_id {β : Type} {f : Nat → β → β} {b : β} : ∀ {n : Nat}, (∀ k, k < n → ∀ b, f k b = b) → fo f n b = b
  | 0, _ => rfl
  | n + 1, h => by rw [fo, fo_id (fun k hk => h k (by omega)), h n (by omega)]
theorem fo_one {β : Type} {f : Nat → β → β} {b : β} {e : Nat} : ∀ {n : Nat}, e < n → (∀ k, k < n → k ≠ e → ∀ b, f k b = b) → fo f n b = f e b
  | 0, h, _ => absurd h (by omega)
  | n + 1, h, h2 => by
    rw [fo]
    by_cases q : e = n
    · subst q; rw [fo_id (fun k hk => h2 k (by omega) (by omega))]
    · rw [h2 n (by omega) (fun w => q w.symm), fo_one (by omega) (fun k hk => h2 k (by omega))]
theorem fo_shift {β : Type} {f : Nat → β → β} {b : β} : ∀ {n : Nat}, fo f (n + 1) b = fo (fun k => f (k + 1)) n (f 0 b)
  | 0 => rfl
  | n + 1 => by rw [fo, fo_shift, fo]
abbrev okm (N : Nat) (u : Nat → Nat) (m : Nat) : Prop := u m = 0 ∨ (u m - 1 < N ∧ u m - 1 ≠ m ∧ u (u m - 1) = m + 1)
def okr (N : Nat) (u : Nat → Nat) : Bool := allB (fun m => decide (okm N u m)) N
theorem okr_iff {N : Nat} {u : Nat → Nat} : okr N u = true ↔ ∀ m, m < N → okm N u m := by
  rw [okr, allB_iff]
  constructor <;> intro h m hm <;> have := h m hm
  · exact of_decide_eq_true this
  · exact decide_eq_true this
def acw (ne : Nat → Nat → Int32) (u : Nat → Nat) : Nat → Int32
  | 0 => 0
  | m + 1 => acw ne u m + (if m + 1 < u m then ne m (u m - 1) else 0)
theorem acw_cong {ne : Nat → Nat → Int32} {u w : Nat → Nat} : ∀ {n : Nat}, (∀ k, k < n → u k = w k) → acw ne u n = acw ne w n
  | 0, _ => rfl
  | n + 1, h => by rw [acw, acw, acw_cong (fun k hk => h k (by omega)), h n (by omega)]
def dg (N c m : Nat) : Nat := if m < N then c / 7 ^ (N - 1 - m) % 7 else 0
def mstep (N : Nat) (ne : Nat → Nat → Int32) (c : Nat) (b : Int32 × (Nat → Nat)) : Int32 × (Nat → Nat) := if okr N (dg N c) = true ∧ b.1 < acw ne (dg N c) N then (acw ne (dg N c) N, dg N c) else b
def up2 (g : Nat → Nat) (a v : Nat) : Nat → Nat := fun i => if i = a then v + 1 else if i = v then a + 1 else g i
def mt (N : Nat) (ne : Nat → Nat → Int32) : Nat → Nat → (Nat → Nat) → Int32 → Int32 × (Nat → Nat) → Int32 × (Nat → Nat)
  | 0, _, g, acc, b => if b.1 < acc then (acc, g) else b
  | n + 1, a, g, acc, b => if g a = 0 then fo (fun v b => if a < v ∧ v < N ∧ g v = 0 then mt N ne n (a + 1) (up2 g a v) (acc + ne a v) b else b) 6 (mt N ne n (a + 1) g acc b) else mt N ne n (a + 1) g acc b
def MI (N a P : Nat) (g : Nat → Nat) : Prop := (∀ m, m < a → g m = P / 7 ^ (a - 1 - m) % 7) ∧ (∀ m, g m ≠ 0 → g m - 1 < N ∧ g m - 1 ≠ m ∧ g (g m - 1) = m + 1) ∧ (∀ m, a ≤ m → g m ≠ 0 → g m - 1 < a)
theorem dg_block {N n a Q k m : Nat} (h : a + n = N) (hk : k < 7 ^ n) (hm : m < a) : dg N (Q * 7 ^ n + k) m = Q / 7 ^ (a - 1 - m) % 7 := by
  rw [dg, if_pos (by omega), show N - 1 - m = n + (a - 1 - m) by omega, Nat.pow_add, ← Nat.div_div_eq_div_mul, Nat.mul_comm Q, Nat.mul_add_div (Nat.lt_of_le_of_lt (Nat.zero_le _) hk), Nat.div_eq_of_lt hk, Nat.add_zero]
theorem pre_lt {a P e m : Nat} (he : e < 7) (hm : m < a) : (7 * P + e) / 7 ^ (a + 1 - 1 - m) % 7 = P / 7 ^ (a - 1 - m) % 7 := by
  rw [show a + 1 - 1 - m = 1 + (a - 1 - m) by omega, Nat.pow_add, ← Nat.div_div_eq_div_mul, Nat.pow_one, show (7 * P + e) / 7 = P by omega]
theorem pre_at {a P e : Nat} (he : e < 7) : (7 * P + e) / 7 ^ (a + 1 - 1 - a) % 7 = e := by
  rw [show a + 1 - 1 - a = 0 by omega, Nat.pow_zero, Nat.div_one]; omega
theorem okr_choice {N a : Nat} {g u : Nat → Nat} (ha : a < N) (h2 : ∀ m, g m ≠ 0 → g m - 1 < N ∧ g m - 1 ≠ m ∧ g (g m - 1) = m + 1) (h3 : ∀ m, a ≤ m → g m ≠ 0 → g m - 1 < a) (hu : ∀ m, m < a → u m = g m) (ho : okr N u = true) :
    (g a ≠ 0 ∧ u a = g a) ∨ (g a = 0 ∧ (u a = 0 ∨ (a < u a - 1 ∧ u a - 1 < N ∧ g (u a - 1) = 0))) := by
  rw [okr_iff] at ho
  by_cases z : g a = 0
  · refine Or.inr ⟨z, ?_⟩
    rcases ho a ha with w | ⟨w1, w2, w3⟩
    · exact Or.inl w
    · by_cases z2 : u a = 0
      · exact Or.inl z2
      refine Or.inr ?_
      have q1 : a < u a - 1 := by
        refine Nat.lt_of_not_le fun q => ?_
        have q : u a - 1 < a := by omega
        have e := hu _ q
        rw [w3] at e
        have := (h2 (u a - 1) (by omega)).2.2
        rw [← e, Nat.add_sub_cancel, z] at this
        omega
      refine ⟨q1, w1, ?_⟩
      refine Classical.byContradiction fun q => ?_
      have t1 := h3 _ (by omega) q
      have t2 := h2 _ q
      have e := hu _ t1
      rw [t2.2.2] at e
      rcases ho _ (show g (u a - 1) - 1 < N by omega) with w | ⟨-, -, w⟩
      · omega
      · rw [e, Nat.add_sub_cancel, w3] at w
        omega
  · refine Or.inl ⟨z, ?_⟩
    have t1 := h3 a (Nat.le_refl _) z
    have t2 := h2 a z
    have e := hu _ t1
    rw [t2.2.2] at e
    rcases ho _ (show g a - 1 < N by omega) with w | ⟨-, -, w⟩
    · omega
    · rw [e, Nat.add_sub_cancel] at w
      omega
theorem MI_same {N a P e : Nat} {g : Nat → Nat} (he : e < 7) (h : MI N a P g) (hg : g a = e) : MI N (a + 1) (7 * P + e) g := by
  refine ⟨fun m hm => ?_, h.2.1, fun m hm q => by have := h.2.2 m (by omega) q; omega⟩
  by_cases w : m = a
  · subst w; rw [pre_at he, hg]
  · rw [pre_lt he (by omega)]; exact h.1 m (by omega)
theorem MI_pair {N a P v : Nat} {g : Nat → Nat} (hN : N ≤ 6) (h : MI N a P g) (ha : g a = 0) (hv : g v = 0) (h1 : a < v) (h2 : v < N) : MI N (a + 1) (7 * P + (v + 1)) (up2 g a v) := by
  obtain ⟨i1, i2, i3⟩ := h
  refine ⟨fun m hm => ?_, fun m q => ?_, fun m hm q => ?_⟩
  · by_cases w : m = a
    · subst w; rw [pre_at (by omega)]; simp [up2]
    · rw [pre_lt (by omega) (by omega), ← i1 m (by omega)]
      have : m ≠ v := by omega
      simp [up2, w, this]
  · by_cases w : m = a
    · subst w
      have : v ≠ m := by omega
      simp [up2, this]; omega
    · by_cases w2 : m = v
      · subst w2
        have : a ≠ m := by omega
        simp [up2, w, this]; omega
      · have e : up2 g a v m = g m := by simp [up2, w, w2]
        rw [e] at q ⊢
        obtain ⟨t1, t2, t3⟩ := i2 m q
        have n1 : g m - 1 ≠ a := fun z => by rw [z, ha] at t3; omega
        have n2 : g m - 1 ≠ v := fun z => by rw [z, hv] at t3; omega
        refine ⟨t1, t2, ?_⟩
        simp [up2, n1, n2, t3]
  · have w : m ≠ a := by omega
    by_cases w2 : m = v
    · subst w2; simp [up2, w]
    · have e : up2 g a v m = g m := by simp [up2, w, w2]
      rw [e] at q ⊢
      have := i3 m (by omega) q
      omega
theorem mt_fold {N : Nat} {ne : Nat → Nat → Int32} (hN : N ≤ 6) : ∀ (n a P : Nat) (g : Nat → Nat) (b : Int32 × (Nat → Nat)), a + n = N → MI N a P g → fo (fun k b => mstep N ne (P * 7 ^ n + k) b) (7 ^ n) b = mt N ne n a g (acw ne g a) b := by
  intro n
  induction n with
  | zero =>
    intro a P g b hn h
    obtain ⟨i1, i2, i3⟩ := h
    have e : dg N (P * 7 ^ 0 + 0) = g := funext fun m => by
      rw [dg]
      by_cases w : m < N
      · rw [if_pos w, i1 m (by omega), show N = a by omega, Nat.pow_zero, Nat.mul_one, Nat.add_zero]
      · rw [if_neg w]
        refine Classical.byContradiction fun q => ?_
        have t := i2 m (fun z => q z.symm)
        have := (i2 (g m - 1) (by omega)).1
        rw [t.2.2] at this
        omega
    have ok : okr N g = true := okr_iff.mpr fun m _ => by
      by_cases z : g m = 0
      · exact Or.inl z
      · exact Or.inr (i2 m z)
    show mstep N ne (P * 7 ^ 0 + 0) b = _
    rw [mstep, e, mt, show a = N by omega, ok]
    simp
  | succ n ih =>
    intro a P g b hn h
    rw [Nat.pow_succ, Nat.mul_comm (7 ^ n) 7, fo_mul]
    have hblk : ∀ e b, fo (fun k => (fun k b => mstep N ne (P * (7 * 7 ^ n) + k) b) (e * 7 ^ n + k)) (7 ^ n) b = fo (fun k b => mstep N ne ((7 * P + e) * 7 ^ n + k) b) (7 ^ n) b := by
      intro e b
      refine fo_cong (fun k _ b => ?_)
      show mstep N ne (P * (7 * 7 ^ n) + (e * 7 ^ n + k)) b = _
      congr 1
      rw [Nat.add_mul, Nat.mul_left_comm, ← Nat.mul_assoc, ← Nat.add_assoc]
    rw [fo_cong (fun e _ b => hblk e b)]
    have dead : ∀ e, e < 7 → ¬ ((g a ≠ 0 ∧ e = g a) ∨ (g a = 0 ∧ (e = 0 ∨ (a < e - 1 ∧ e - 1 < N ∧ g (e - 1) = 0)))) → ∀ b, fo (fun k b => mstep N ne ((7 * P + e) * 7 ^ n + k) b) (7 ^ n) b = b := by
      intro e he q b
      refine fo_id (fun k hk b => ?_)
      rw [mstep, if_neg]
      rintro ⟨ho, -⟩
      have ua : dg N ((7 * P + e) * 7 ^ n + k) a = e := by
        rw [dg_block (a := a + 1) (by omega) hk (by omega), pre_at he]
      have := okr_choice (by omega) h.2.1 h.2.2 (fun m hm => by rw [dg_block (a := a + 1) (by omega) hk (by omega), pre_lt he hm, ← h.1 m hm]) ho
      rw [ua] at this
      exact q this
    rw [mt]
    by_cases z : g a = 0
    · rw [if_pos z, show (7 : Nat) = 6 + 1 from rfl, fo_shift, ih (a + 1) (7 * P + 0) g b (by omega) (MI_same (by omega) h z)]
      have e1 : acw ne g (a + 1) = acw ne g a := by rw [acw, z, if_neg (by omega), Int32.add_zero]
      rw [e1]
      refine fo_cong (fun v hv b => ?_)
      by_cases w : a < v ∧ v < N ∧ g v = 0
      · rw [if_pos w, ih (a + 1) (7 * P + (v + 1)) (up2 g a v) b (by omega) (MI_pair hN h z w.2.2 w.1 w.2.1)]
        have e2 : acw ne (up2 g a v) (a + 1) = acw ne g a + ne a v := by
          have : up2 g a v a = v + 1 := by simp [up2]
          rw [acw, this, if_pos (by omega), Nat.add_sub_cancel, acw_cong (fun k hk => ?_)]
          have n1 : k ≠ a := by omega
          have n2 : k ≠ v := by omega
          simp [up2, n1, n2]
        rw [e2]
      · rw [if_neg w, dead (v + 1) (by omega)]
        rw [Nat.add_sub_cancel]
        rintro (q | ⟨-, q | q⟩)
        · exact q.1 z
        · omega
        · exact w q
    · rw [if_neg z]
      have t := h.2.1 a z
      rw [fo_one (e := g a) (by omega) (fun k hk q b => dead k hk (by
        rintro (w | w)
        · exact q w.2
        · exact z w.1) b), ih (a + 1) (7 * P + g a) g b (by omega) (MI_same (by omega) h rfl)]
      have e1 : acw ne g (a + 1) = acw ne g a := by
        have := h.2.2 a (Nat.le_refl _) z
        rw [acw, if_neg (by omega), Int32.add_zero]
      rw [e1]
