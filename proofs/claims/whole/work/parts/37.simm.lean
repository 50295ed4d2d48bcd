/-! PLAN: the ceiling of the last shift. -/
theorem or_bit : ∀ K, K < 64 → ∀ p, p < 6 → nI K ||| ((1 : Int32) <<< (nI p &&& 31)) = nI (K ||| (1 <<< p)) ∧ K ||| (1 <<< p) < 64 := by decide +kernel
theorem or_bt : ∀ K, K < 64 → ∀ p, p < 6 → ∀ m, m < 6 → (bt (nI (K ||| (1 <<< p))) m ↔ (bt (nI K) m ∨ m = p)) := by decide +kernel
def pk (f : Nat → Nat) : Nat → Nat × Nat
  | 0 => (0, 0)
  | n + 1 => if f n ≤ (pk f n).1 then pk f n else (f n, n)
theorem pk_max {f : Nat → Nat} {m : Nat} : ∀ {n : Nat}, m < n → f m ≤ (pk f n).1
  | 0, h => absurd h (by omega)
  | n + 1, h => by
    rw [pk]
    by_cases e : m = n
    · subst e; split
      · assumption
      · exact Nat.le_refl _
    · have := pk_max (f := f) (m := m) (n := n) (by omega)
      split
      · exact this
      · show f m ≤ f n; omega
theorem pk_i6 {f : Nat → Nat} {n : Nat} : n ≤ 6 → (pk f n).2 < 6 := by
  induction n with
  | zero => intro _; exact (show 0 < 6 by omega)
  | succ n ih =>
    intro h
    rw [pk]
    split
    · exact ih (by omega)
    · show n < 6; omega
theorem pk_bd {f : Nat → Nat} {B : Nat} (hf : ∀ m, f m ≤ B) : ∀ n, (pk f n).1 ≤ B
  | 0 => Nat.zero_le _
  | n + 1 => by rw [pk]; split; exact pk_bd hf n; exact hf n
def sN (f : Nat → Nat) : Nat → Nat
  | 0 => 0
  | n + 1 => sN f n + f n
theorem sN_le {f g : Nat → Nat} : ∀ {n : Nat}, (∀ m, m < n → f m ≤ g m) → sN f n ≤ sN g n
  | 0, _ => Nat.le_refl _
  | n + 1, h => Nat.add_le_add (sN_le (fun m hm => h m (by omega))) (h n (by omega))
theorem sN_0 {f : Nat → Nat} : ∀ {n : Nat}, (∀ m, m < n → f m = 0) → sN f n = 0
  | 0, _ => rfl
  | n + 1, h => by rw [sN, sN_0 (fun m hm => h m (by omega)), h n (by omega)]
def fre (c : Nat → Nat) (K : Nat) : Nat → Nat := fun m => if bt (nI K) m then 0 else c m
def gr (c : Nat → Nat) (N : Nat) : Nat → Nat → Nat
  | 0, _ => 0
  | r + 1, K => (pk (fre c K) N).1 + gr c N r (K ||| (1 <<< (pk (fre c K) N).2))
theorem gr_bd {c : Nat → Nat} {N B : Nat} (hc : ∀ m, c m ≤ B) : ∀ r K, gr c N r K ≤ B * r
  | 0, _ => Nat.zero_le _
  | r + 1, K => by
    rw [gr, Nat.mul_succ, Nat.add_comm]
    refine Nat.add_le_add (gr_bd hc r _) (pk_bd (fun m => ?_) N)
    rw [fre]; split
    · exact Nat.zero_le _
    · exact hc m
def wo (S : Nat → Bool) (q : Nat) : Nat → Bool := fun m => if m = q then false else S m
theorem ctB_wo {S : Nat → Bool} {q : Nat} (hq : S q = true) : ∀ {n : Nat}, ctB S n = ctB (wo S q) n + (if q < n then 1 else 0)
  | 0 => rfl
  | n + 1 => by
    rw [ctB, ctB, ctB_wo hq]
    by_cases e : n = q
    · subst e
      simp [wo, hq]
    · have : (q < n + 1) ↔ q < n := by omega
      simp only [wo, if_neg e, this]
      omega
theorem sN_wo {S : Nat → Bool} {c : Nat → Nat} {q : Nat} (hq : S q = true) : ∀ {n : Nat}, sN (fun m => if S m = true then c m else 0) n = sN (fun m => if wo S q m = true then c m else 0) n + (if q < n then c q else 0)
  | 0 => rfl
  | n + 1 => by
    rw [sN, sN, sN_wo hq]
    by_cases e : n = q
    · subst e
      simp [wo, hq]
    · have : (q < n + 1) ↔ q < n := by omega
      simp only [wo, if_neg e, this]
      omega
theorem gr_ge {c : Nat → Nat} {N : Nat} (hN : N ≤ 6) : ∀ (r K : Nat) (S : Nat → Bool), K < 64 → (∀ m, m < N → S m = true → ¬ bt (nI K) m) → ctB S N ≤ r → sN (fun m => if S m = true then c m else 0) N ≤ gr c N r K := by
  intro r
  induction r with
  | zero =>
    intro K S hK hd hc
    rw [sN_0 (fun m hm => ?_)]
    · exact Nat.zero_le _
    · rw [if_neg]
      intro w
      have := ctB_lt hm w
      omega
  | succ r ih =>
    intro K S hK hd hc
    rw [gr]
    generalize hp : pk (fre c K) N = p
    have hp6 : p.2 < 6 := by rw [← hp]; exact pk_i6 hN
    have hmx : ∀ m, m < N → S m = true → c m ≤ p.1 := fun m hm hs => by
      have := pk_max (f := fre c K) hm
      rw [hp, fre, if_neg (hd m hm hs)] at this
      exact this
    by_cases w : ∃ q, q < N ∧ S q = true
    · obtain ⟨q, hq, hs, hpq⟩ : ∃ q, q < N ∧ S q = true ∧ (∀ m, m < N → wo S q m = true → m ≠ p.2) := by
        by_cases w2 : p.2 < N ∧ S p.2 = true
        · exact ⟨p.2, w2.1, w2.2, fun m hm h e => by rw [e] at h; simp [wo] at h⟩
        · obtain ⟨q, hq, hs⟩ := w
          refine ⟨q, hq, hs, fun m hm h e => w2 ⟨by omega, ?_⟩⟩
          rw [← e]
          unfold wo at h
          split at h
          · cases h
          · exact h
      have h1 := sN_wo (S := S) (c := c) hs (n := N)
      have h2 := ctB_wo hs (n := N)
      rw [if_pos hq] at h1 h2
      have h3 := ih (K ||| (1 <<< p.2)) (wo S q) (or_bit K hK p.2 hp6).2 (fun m hm h e => by
        rcases (or_bt K hK p.2 hp6 m (by omega)).mp e with e | e
        · have hsm : S m = true := by
            unfold wo at h
            split at h
            · cases h
            · exact h
          exact hd m hm hsm e
        · exact hpq m hm h e) (by omega)
      have h4 := hmx q hq hs
      omega
    · rw [sN_0 (fun m hm => if_neg (fun e => w ⟨m, hm, e⟩))]
      exact Nat.zero_le _
def cM (sh x pm : Int32) : Int32 := shl' sh ((if x + pm < 999 then x + pm else 999) / 2)
theorem x_atMost {m : Nat} {x : Int32} {σ : St} {post : Int32 → St → Prop} (hm : m < 6) (h : post (cM (σ.1 21 2) x (σ.1 38 m)) σ) : f_X0_coinsAtMost x (nI m) σ post := by
  rw [f_X0_coinsAtMost, nI_clamp (by omega)]
  refine ⟨pk_in m 6 hm, ?_⟩
  rintro _ rfl
  unfold cM shl' at h
  refine ⟨fun q => ?_, fun q => ?_⟩
  · rw [if_pos q] at h; exact h
  · rw [if_neg q] at h; exact h
theorem x_ceilR {N A K j r : Nat} {c : Nat → Nat} {σ : St} {k83 : Int32 → Int32 → Int32 → Int32 → Int32 → St → Prop} {post : Int32 → St → Prop} (hN : N ≤ 6) (hx : σ.1 21 0 = nI N) (hc : ∀ m, m < N → cM (σ.1 21 2) (σ.1 r m) (σ.1 38 m) = nI (c m)) (hb : ∀ m, c m ≤ 499) (h : k83 (nI A) (nI K) (nI j) (nI (pk (fre c K) N).1) (nI (pk (fre c K) N).2) σ) : ∃ n, f_X5_ceiling_L26 r 6 k83 post n (nI A) (nI K) (nI j) 0 0 0 σ := by
  have hfb : ∀ m, fre c K m ≤ 499 := fun m => by
    rw [fre]; split
    · exact Nat.zero_le _
    · exact hb m
  refine floop (P := fun n m => f_X5_ceiling_L26 r 6 k83 post n (nI A) (nI K) (nI j) (nI (pk (fre c K) m).1) (nI (pk (fre c K) m).2) (nI m) σ) N (fun n => ?_) (fun n m hm ih2 => ?_)
  · rw [f_X5_ceiling_L26]
    exact br_t (le_t hx rfl (Nat.le_refl _) (by omega)) h
  · rw [f_X5_ceiling_L26]
    refine br_f (le_f hx rfl hm (by omega)) ?_
    have hJ : f_X5_ceiling_J60_26 r 6 (f_X5_ceiling_L26 r 6 k83 post n) k83 post (nI A) (nI K) (nI j) (nI (pk (fre c K) m).1) (nI (pk (fre c K) m).2) (nI m) (nI (fre c K m)) σ := by
      rw [f_X5_ceiling_J60_26, nI_1]
      have hpb := pk_bd hfb m
      have hfm := hfb m
      rw [pk] at ih2
      refine ⟨fun q => ?_, fun q => ?_⟩
      · rw [if_pos ((nI_leI (by omega) (by omega)).mp q)] at ih2
        exact ih2
      · rw [if_neg (fun w => q ((nI_leI (by omega) (by omega)).mpr w))] at ih2
        exact ih2
    refine ⟨fun q => ⟨pk_in m 6 (by omega), ?_⟩, fun q => ?_⟩
    · rw [nI_clamp (by omega)]
      refine x_atMost (by omega) ?_
      rw [hc m hm]
      rw [fre, if_neg q] at hJ
      exact hJ
    · rw [fre, if_pos q] at hJ
      exact hJ
theorem x_ceil {N C r : Nat} {c : Nat → Nat} {σ : St} {post : Int32 → St → Prop} (hN : N ≤ 6) (hx : σ.1 21 0 = nI N) (hC : σ.1 21 1 = nI C) (hC6 : C ≤ 6) (hc : ∀ m, m < N → cM (σ.1 21 2) (σ.1 r m) (σ.1 38 m) = nI (c m)) (hb : ∀ m, c m ≤ 499) (h : post (nI (gr c N C 0)) σ) : f_X5_ceiling r 6 σ post := by
  rw [f_X5_ceiling]
  refine (floop (P := fun n j => ∀ K A, K < 64 → A + gr c N (C - j) K = gr c N C 0 → f_X5_ceiling_L8 r 6 post n (nI A) (nI K) (nI j) σ) C (fun n K A hK hA => ?_) (fun n j hj ih K A hK hA => ?_)).imp (fun n hn => hn 0 0 (by omega) (by rw [Nat.zero_add, Nat.sub_zero]))
  · rw [f_X5_ceiling_L8]
    refine br_t (le_t hC rfl (Nat.le_refl _) (by omega)) ?_
    rw [Nat.sub_self, gr, Nat.add_zero] at hA
    rw [hA]; exact h
  · rw [f_X5_ceiling_L8]
    refine br_f (le_f hC rfl hj (by omega)) ?_
    rw [show C - j = (C - (j + 1)) + 1 by omega, gr] at hA
    refine x_ceilR hN hx hc hb ?_
    have ho := or_bit K hK (pk (fre c K) N).2 (pk_i6 hN)
    rw [nI_add, ho.1, nI_1]
    exact ih _ _ ho.2 (by omega)
