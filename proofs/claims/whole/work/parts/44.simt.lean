/-! PIT: the text's signs and tokens. -/
/-- the end of a run of q from p on -/
def rn (q : Nat → Bool) : Nat → Nat → Nat
  | 0, p => p
  | f + 1, p => if q p = true then rn q f (p + 1) else p
theorem rn_spec {q : Nat → Bool} {n : Nat} (hq : ∀ j, q j = true → j < n) : ∀ (f p : Nat), p ≤ n → n - p < f → q (rn q f p) = false ∧ p ≤ rn q f p ∧ rn q f p ≤ n ∧ ∀ j, p ≤ j → j < rn q f p → q j = true := by
  intro f
  induction f with
  | zero => intro p _ h; omega
  | succ f ih =>
    intro p hp h
    rw [rn]
    by_cases c : q p = true
    · rw [if_pos c]
      have hpn := hq p c
      obtain ⟨h1, h2, h3, h4⟩ := ih (p + 1) (by omega) (by omega)
      refine ⟨h1, by omega, h3, fun j hj1 hj2 => ?_⟩
      by_cases e : j = p
      · rw [e]; exact c
      · exact h4 j (by omega) hj2
    · rw [if_neg c]
      exact ⟨by simpa using c, Nat.le_refl _, hp, fun j h1 h2 => absurd h2 (by omega)⟩
/-- the kind of the sign at j: 0 none, 1 a letter, 2 a digit, 3 the ';', 4 another -/
def kd (t : Nat → Nat) (n j : Nat) : Nat := if j < n then (if 97 ≤ t j ∧ t j ≤ 122 then 1 else if 48 ≤ t j ∧ t j ≤ 57 then 2 else if t j = 59 then 3 else 4) else 0
def spB (t : Nat → Nat) (n j : Nat) : Bool := decide (j < n) && decide (t j = 32)
def kdB (t : Nat → Nat) (n k j : Nat) : Bool := decide (j < n) && decide (kd t n j = k)
def ts (t : Nat → Nat) (n p : Nat) : Nat := rn (spB t n) 151 p
def te (t : Nat → Nat) (n p : Nat) : Nat := if kd t n (ts t n p) = 3 then ts t n p + 1 else if kd t n (ts t n p) = 1 ∨ kd t n (ts t n p) = 2 then rn (kdB t n (kd t n (ts t n p))) 151 (ts t n p) else ts t n p
/-- 0 the end, 1 one letter, 2 a number 0 .. 99, 3 the ';', 4 nothing that may be -/
def tK (t : Nat → Nat) (n p : Nat) : Nat :=
  if kd t n (ts t n p) = 1 then (if te t n p - ts t n p = 1 then 1 else 4)
  else if kd t n (ts t n p) = 2 then (if te t n p - ts t n p = 1 then 2 else if te t n p - ts t n p = 2 ∧ t (ts t n p) ≠ 48 then 2 else 4)
  else kd t n (ts t n p)
def tV (t : Nat → Nat) (n p : Nat) : Nat := if kd t n (ts t n p) = 1 then t (ts t n p) else if te t n p - ts t n p = 1 then t (ts t n p) - 48 else 10 * (t (ts t n p) - 48) + (t (ts t n p + 1) - 48)
theorem sp_lt {t : Nat → Nat} {n j : Nat} (h : spB t n j = true) : j < n := by
  rw [spB, Bool.and_eq_true] at h; exact of_decide_eq_true h.1
theorem kdB_lt {t : Nat → Nat} {n k j : Nat} (h : kdB t n k j = true) : j < n := by
  rw [kdB, Bool.and_eq_true] at h; exact of_decide_eq_true h.1
/-- the text lies in X -/
def TX (t : Nat → Nat) (n : Nat) (σ : St) : Prop := n ≤ 150 ∧ σ.1 1 0 = nI n ∧ ∀ j, j < n → t j < 256 ∧ σ.1 2 j = nI (t j)
/-- only the token's places changed -/
def XT (σ σ' : St) : Prop := σ'.2 = σ.2 ∧ (∀ c, c ≠ 1 → σ'.1 c = σ.1 c) ∧ ∀ i, i ≠ 2 → i ≠ 3 → i ≠ 4 → i ≠ 5 → σ'.1 1 i = σ.1 1 i
theorem XT.rf {σ : St} : XT σ σ := ⟨rfl, fun _ _ => rfl, fun _ _ _ _ _ => rfl⟩
theorem XT.tr {a b c : St} (h1 : XT a b) (h2 : XT b c) : XT a c := ⟨h2.1.trans h1.1, fun q hq => (h2.2.1 q hq).trans (h1.2.1 q hq), fun i i1 i2 i3 i4 => (h2.2.2 i i1 i2 i3 i4).trans (h1.2.2 i i1 i2 i3 i4)⟩
theorem XT.up {σ : St} {i : Nat} {x : Int32} (h : i = 2 ∨ i = 3 ∨ i = 4 ∨ i = 5) : XT σ (st_up σ 1 i x) := ⟨rfl, fun c hc => st_up_ne _ hc, fun j j1 j2 j3 j4 => st_up_nat _ (by omega)⟩
theorem TX.t {t : Nat → Nat} {n : Nat} {σ σ' : St} (h : TX t n σ) (hx : XT σ σ') : TX t n σ' := ⟨h.1, by rw [hx.2.2 0 (by omega) (by omega) (by omega) (by omega)]; exact h.2.1, fun j hj => by rw [hx.2.1 2 (by omega)]; exact h.2.2 j hj⟩
theorem x_signAt {t : Nat → Nat} {n j : Nat} {σ : St} {post : Int32 → St → Prop} (ht : TX t n σ) (hj : j < 2 ^ 31) (h : post (nI (kd t n j)) σ) : f_X10_signAt (nI j) σ post := by
  obtain ⟨t1, t2, t3⟩ := ht
  rw [f_X10_signAt, t2]
  refine ⟨fun q => ?_, fun q => ?_⟩
  · have hjn := (nI_ltI hj (by omega)).mp q
    obtain ⟨t4, t5⟩ := t3 j hjn
    rw [nI_clamp hj, t5]
    rw [kd, if_pos hjn] at h
    have hJ : ¬ (97 ≤ t j ∧ t j ≤ 122) → f_X10_signAt_J31 (nI j) post (nI (t j)) σ := by
      intro w
      rw [if_neg w] at h
      have hJ2 : ¬ (48 ≤ t j ∧ t j ≤ 57) → f_X10_signAt_J45 (nI j) post (nI (t j)) σ := by
        intro w
        rw [if_neg w] at h
        rw [f_X10_signAt_J45]
        refine ⟨fun z => ?_, fun z => ?_⟩
        · rw [if_neg (fun e => z (by rw [e]; rfl))] at h; exact h
        · rw [if_pos (nI_ij (b := 59) (by omega) (by omega) z)] at h; exact h
      rw [f_X10_signAt_J31]
      refine ⟨fun z => hJ2 ?_, fun z => ⟨fun z2 => hJ2 ?_, fun z2 => ?_⟩⟩
      · have := (nI_ltI (b := 48) (by omega) (by omega)).mp z; omega
      · have := (nI_ltI (a := 57) (by omega) (by omega)).mp z2; omega
      · have a1 : ¬ t j < 48 := fun e => z ((nI_ltI (b := 48) (by omega) (by omega)).mpr e)
        have a2 : ¬ 57 < t j := fun e => z2 ((nI_ltI (a := 57) (by omega) (by omega)).mpr e)
        rw [if_pos (by omega)] at h; exact h
    refine ⟨pk_in j 150 (by omega), fun z => hJ ?_, fun z => ⟨fun z2 => hJ ?_, fun z2 => ?_⟩⟩
    · have := (nI_ltI (b := 97) (by omega) (by omega)).mp z; omega
    · have := (nI_ltI (a := 122) (by omega) (by omega)).mp z2; omega
    · have a1 : ¬ t j < 97 := fun e => z ((nI_ltI (b := 97) (by omega) (by omega)).mpr e)
      have a2 : ¬ 122 < t j := fun e => z2 ((nI_ltI (a := 122) (by omega) (by omega)).mpr e)
      rw [if_pos (by omega)] at h; exact h
  · have hjn : ¬ j < n := fun w => q ((nI_ltI hj (by omega)).mpr w)
    rw [kd, if_neg hjn] at h
    exact h
theorem ts_spec {t : Nat → Nat} {n p : Nat} (hn : n ≤ 150) (hp : p ≤ n) : spB t n (ts t n p) = false ∧ p ≤ ts t n p ∧ ts t n p ≤ n ∧ ∀ j, p ≤ j → j < ts t n p → spB t n j = true := rn_spec (fun _ h => sp_lt h) 151 p hp (by omega)
theorem te_spec {t : Nat → Nat} {n p k : Nat} (hn : n ≤ 150) (hp : p ≤ n) (hk : kd t n (ts t n p) = k) (h12 : k = 1 ∨ k = 2) : kdB t n k (te t n p) = false ∧ ts t n p + 1 ≤ te t n p ∧ te t n p ≤ n ∧ ∀ j, ts t n p ≤ j → j < te t n p → kdB t n k j = true := by
  have hs := ts_spec (t := t) hn hp
  have e : te t n p = rn (kdB t n k) 151 (ts t n p) := by
    rw [te, hk, if_neg (by omega), if_pos h12]
  obtain ⟨h1, h2, h3, h4⟩ := rn_spec (q := kdB t n k) (fun _ h => kdB_lt h) 151 (ts t n p) hs.2.2.1 (by omega)
  rw [← e] at h1 h2 h3 h4
  refine ⟨h1, ?_, h3, h4⟩
  by_cases c : te t n p = ts t n p
  · rw [c, kdB, hk] at h1
    have : ts t n p < n := by
      refine Nat.lt_of_not_le fun w => ?_
      rw [kd, if_neg (by omega)] at hk
      omega
    simp [this] at h1
  · omega
/-- what X holds of a token -/
def XK (t : Nat → Nat) (n p : Nat) (σ : St) : Prop := σ.1 1 2 = nI (ts t n p) ∧ (tK t n p ≠ 4 → σ.1 1 3 = nI (te t n p)) ∧ (tK t n p = 0 → σ.1 1 4 = 0) ∧ (tK t n p = 1 → σ.1 1 4 = 1 ∧ σ.1 1 5 = nI (tV t n p)) ∧ (tK t n p = 2 → σ.1 1 4 = 2 ∧ σ.1 1 5 = nI (tV t n p)) ∧ (tK t n p = 3 → σ.1 1 4 = 3) ∧ (tK t n p = 4 → σ.1 1 4 = 4 ∨ (σ.1 1 4 = 1 ∧ σ.1 1 5 = 0))
