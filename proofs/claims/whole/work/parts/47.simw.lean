/-! PIT: numbers. -/
theorem te_le {t : Nat → Nat} {n p : Nat} (hn : n ≤ 150) (hp : p ≤ n) : ts t n p ≤ te t n p ∧ te t n p ≤ n := by
  have hs := ts_spec (t := t) hn hp
  by_cases h12 : kd t n (ts t n p) = 1 ∨ kd t n (ts t n p) = 2
  · have := te_spec (t := t) hn hp rfl h12
    omega
  · by_cases h3 : kd t n (ts t n p) = 3
    · have e : te t n p = ts t n p + 1 := by rw [te, if_pos h3]
      have : ts t n p < n := Classical.byContradiction fun w => by rw [kd_0.mpr w] at h3; omega
      omega
    · have e : te t n p = ts t n p := by rw [te, if_neg h3, if_neg h12]
      omega
theorem tK_1 {t : Nat → Nat} {n p : Nat} (h : tK t n p = 1) : kd t n (ts t n p) = 1 := by
  rw [tK] at h
  by_cases c : kd t n (ts t n p) = 1
  · exact c
  · rw [if_neg c] at h
    split at h
    · split at h
      · omega
      · split at h <;> omega
    · exact h
theorem tK_2 {t : Nat → Nat} {n p : Nat} (h : tK t n p = 2) : kd t n (ts t n p) = 2 := by
  rw [tK] at h
  by_cases c : kd t n (ts t n p) = 1
  · rw [if_pos c] at h; split at h <;> omega
  · rw [if_neg c] at h
    by_cases c2 : kd t n (ts t n p) = 2
    · exact c2
    · rw [if_neg c2] at h; exact h
theorem tK_le (t : Nat → Nat) (n p : Nat) : tK t n p ≤ 4 := by
  rw [tK]; split
  · split <;> omega
  · split
    · split
      · omega
      · split <;> omega
    · exact kd_le _ _ _
theorem tV_1 {t : Nat → Nat} {n p : Nat} (h : tK t n p = 1) : 97 ≤ tV t n p ∧ tV t n p ≤ 122 := by
  have hk := tK_1 h
  rw [tV, if_pos hk]
  exact (kd_1 hk).2
theorem tV_2 {t : Nat → Nat} {n p : Nat} (hn : n ≤ 150) (hp : p ≤ n) (h : tK t n p = 2) : tV t n p ≤ 99 := by
  have hk := tK_2 h
  have hd := kd_2 hk
  obtain ⟨e1, e2, e3, e4⟩ := te_spec (t := t) hn hp hk (Or.inr rfl)
  rw [tV, if_neg (by omega)]
  split
  · omega
  · rename_i c
    have h2 : te t n p - ts t n p = 2 := by
      rw [tK, if_neg (by omega), if_pos hk, if_neg c] at h
      split at h
      · rename_i z; exact z.1
      · omega
    have := kd_2 (kdB_iff.mp (e4 (ts t n p + 1) (by omega) (by omega))).2
    omega
/-- only the token's places and the fault changed -/
def XU (σ σ' : St) : Prop := σ'.2 = σ.2 ∧ (∀ c, c ≠ 1 → σ'.1 c = σ.1 c) ∧ ∀ i, i < 2 ∨ 6 < i → σ'.1 1 i = σ.1 1 i
theorem XU.rf {σ : St} : XU σ σ := ⟨rfl, fun _ _ => rfl, fun _ _ => rfl⟩
theorem XU.tr {a b c : St} (h1 : XU a b) (h2 : XU b c) : XU a c := ⟨h2.1.trans h1.1, fun q hq => (h2.2.1 q hq).trans (h1.2.1 q hq), fun i hi => (h2.2.2 i hi).trans (h1.2.2 i hi)⟩
theorem XU.up {σ : St} {i : Nat} {x : Int32} (h : 2 ≤ i ∧ i ≤ 6) : XU σ (st_up σ 1 i x) := ⟨rfl, fun c hc => st_up_ne _ hc, fun j hj => st_up_nat _ (by omega)⟩
theorem XT.u {a b : St} (h : XT a b) : XU a b := ⟨h.1, h.2.1, fun i hi => h.2.2 i (by omega) (by omega) (by omega) (by omega)⟩
theorem TX.u {t : Nat → Nat} {n : Nat} {σ σ' : St} (h : TX t n σ) (hx : XU σ σ') : TX t n σ' := ⟨h.1, by rw [hx.2.2 0 (by omega)]; exact h.2.1, fun j hj => by rw [hx.2.1 2 (by omega)]; exact h.2.2 j hj⟩
/-- a number lo .. hi stands at p -/
def isN (t : Nat → Nat) (n p : Nat) (lo : Nat) (hi : Int32) : Prop := tK t n p = 2 ∧ lo ≤ tV t n p ∧ nI (tV t n p) ≤ hi
theorem x_num {t : Nat → Nat} {n p lo : Nat} {hi : Int32} {σ : St} {post : Int32 → St → Prop} (ht : TX t n σ) (hp : p ≤ n) (hlo : lo < 2 ^ 31) (h3 : σ.1 1 3 = nI p) (h6 : σ.1 1 6 = 0)
    (hg : isN t n p lo hi → ∀ σ', XU σ σ' → σ'.1 1 6 = 0 → σ'.1 1 3 = nI (te t n p) → σ'.1 1 2 = nI (ts t n p) → post (nI (tV t n p)) σ') (hb : ¬ isN t n p lo hi → ∀ σ', XU σ σ' → σ'.1 1 6 = 1 → σ'.1 1 2 = nI (ts t n p) → ∀ r, post r σ') : f_X10_readsNumber (nI lo) hi σ post := by
  rw [f_X10_readsNumber, h6]
  refine br_t rfl (x_tok ht hp h3 (fun σ2 hx hk => ?_))
  obtain ⟨k1, k2, k3, k4, k5, k6, k7⟩ := hk
  have hK := tK_le t n p
  have bad : ¬ isN t n p lo hi → post ((st_up σ2 1 6 1).1 1 5) (st_up σ2 1 6 1) := fun w => hb w _ (hx.u.tr (XU.up (by omega))) (st_up_at _ _ _ _) (by rw [st_up_nat _ (by omega)]; exact k1) _
  refine ⟨fun w => bad (fun z => w (k5 z.1).1), fun w => ?_⟩
  have hK2 : tK t n p = 2 := by
    refine Classical.byContradiction fun z => ?_
    have : tK t n p = 0 ∨ tK t n p = 1 ∨ tK t n p = 3 ∨ tK t n p = 4 := by omega
    rcases this with e | e | e | e
    · rw [k3 e] at w; exact absurd w (by decide)
    · rw [(k4 e).1] at w; exact absurd w (by decide)
    · rw [k6 e] at w; exact absurd w (by decide)
    · rcases k7 e with e | e
      · rw [e] at w; exact absurd w (by decide)
      · rw [e.1] at w; exact absurd w (by decide)
  have hV := tV_2 ht.1 hp hK2
  rw [(k5 hK2).2]
  refine ⟨fun w2 => ?_, fun w2 => ⟨fun w3 => ?_, fun w3 => ?_⟩⟩
  · refine bad (fun z => ?_)
    have := (nI_ltI (by omega) hlo).mp w2
    have := z.2.1
    omega
  · have hle : lo ≤ tV t n p := Nat.le_of_not_lt fun z => w2 ((nI_ltI (by omega) hlo).mpr z)
    have := hg ⟨hK2, hle, w3⟩ (st_up σ2 1 6 0) (hx.u.tr (XU.up (by omega))) (st_up_at _ _ _ _) (by rw [st_up_nat _ (by omega)]; exact k2 (by omega)) (by rw [st_up_nat _ (by omega)]; exact k1)
    rw [st_up_nat _ (by omega), (k5 hK2).2]
    exact this
  · exact bad (fun z => w3 z.2.2)
/-- only M's token and fault changed -/
def MU (τ τ' : St) : Prop := τ'.2 = τ.2 ∧ (∀ c, c ≠ 0 → τ'.1 c = τ.1 c) ∧ ∀ i, i < 9 ∨ 13 < i → τ'.1 0 i = τ.1 0 i
theorem MU.rf {τ : St} : MU τ τ := ⟨rfl, fun _ _ => rfl, fun _ _ => rfl⟩
theorem MU.tr {a b c : St} (h1 : MU a b) (h2 : MU b c) : MU a c := ⟨h2.1.trans h1.1, fun q hq => (h2.2.1 q hq).trans (h1.2.1 q hq), fun i hi => (h2.2.2 i hi).trans (h1.2.2 i hi)⟩
theorem MU.up {τ : St} {i : Nat} {x : Int32} (h : 9 ≤ i ∧ i ≤ 13) : MU τ (st_up τ 0 i x) := ⟨rfl, fun c hc => st_up_ne _ hc, fun j hj => st_up_nat _ (by omega)⟩
theorem MT.u {a b : St} (h : MT a b) : MU a b := ⟨h.1, h.2.1, fun i hi => h.2.2 i (by omega) (by omega) (by omega) (by omega)⟩
theorem TM.u {t : Nat → Nat} {n : Nat} {τ τ' : St} (h : TM t n τ) (hx : MU τ τ') : TM t n τ' := ⟨h.1, by rw [hx.2.2 2 (by omega)]; exact h.2.1, fun j hj => by rw [hx.2.1 1 (by omega)]; exact h.2.2 j hj⟩
/-- M goes on over the token at p, which may be here -/
theorem m_due1 {t : Nat → Nat} {n p : Nat} {τ : St} {post : Int32 → St → Prop} (ht : TM t n τ) (hp : p ≤ n) (hk : MK t n p τ) (hK : tK t n p ≠ 4) (h13 : τ.1 0 13 = -9) (h : ∀ τ', MU τ τ' → τ'.1 0 13 = -9 → MK t n (te t n p) τ' → post (τ.1 0 12) τ') : f_X12_due 1 τ post := by
  rw [f_X12_due, h13]
  refine ⟨fun w => absurd rfl w, fun _ => ⟨fun w => absurd w (by decide), fun _ => ?_⟩⟩
  exact m_step ht (te_le ht.1 hp).2 (hk.2.1 hK) (fun τ' hx hk' => h τ' hx.u (by rw [hx.2.2 13 (by omega) (by omega) (by omega) (by omega)]; exact h13) hk')
theorem m_due0 {t : Nat → Nat} {n p : Nat} {τ : St} {post : Int32 → St → Prop} (hk : MK t n p τ) (h13 : τ.1 0 13 = -9) (h : ∀ τ', MU τ τ' → τ'.1 0 13 = nI (ts t n p) → ∀ r, post r τ') : f_X12_due 0 τ post := by
  rw [f_X12_due, h13]
  refine ⟨fun w => absurd rfl w, fun _ => ⟨fun _ => ?_, fun w => absurd rfl w⟩⟩
  exact h _ (MU.up (by omega)) (by rw [st_up_at]; exact hk.1) _
theorem m_dueF {a : Int32} {τ : St} {post : Int32 → St → Prop} (h13 : ¬ τ.1 0 13 = -9) (h : ∀ r, post r τ) : f_X12_due a τ post := by
  rw [f_X12_due]
  exact ⟨fun _ => h _, fun w => absurd w h13⟩
theorem MK.sort {t : Nat → Nat} {n p : Nat} {τ : St} (hk : MK t n p τ) : τ.1 0 11 = 1 ↔ tK t n p = 2 := by
  obtain ⟨k1, k2, k3, k4, k5, k6, k7⟩ := hk
  refine ⟨fun w => Classical.byContradiction fun z => ?_, fun w => (k5 w).1⟩
  have hK := tK_le t n p
  have : tK t n p = 0 ∨ tK t n p = 1 ∨ tK t n p = 3 ∨ tK t n p = 4 := by omega
  rcases this with e | e | e | e
  · rw [k3 e] at w; exact absurd w (by decide)
  · have := tV_1 e
    rw [k4 e] at w
    have := nI_ij (b := 1) (by omega) (by omega) w
    omega
  · rw [k6 e] at w; exact absurd w (by decide)
  · rw [k7 e] at w; exact absurd w (by decide)
theorem m_num {t : Nat → Nat} {n p lo : Nat} {hi : Int32} {τ : St} {post : Int32 → St → Prop} (ht : TM t n τ) (hp : p ≤ n) (hlo : lo < 2 ^ 31) (hk : MK t n p τ) (h13 : τ.1 0 13 = -9)
    (hg : isN t n p lo hi → ∀ τ', MU τ τ' → τ'.1 0 13 = -9 → MK t n (te t n p) τ' → post (nI (tV t n p)) τ') (hb : ¬ isN t n p lo hi → ∀ τ', MU τ τ' → τ'.1 0 13 = nI (ts t n p) → ∀ r, post r τ') : f_X12_number (nI lo) hi τ post := by
  rw [f_X12_number]
  refine ⟨fun w => m_due0 hk h13 (hb (fun z => w (hk.sort.mpr z.1))), fun w => ?_⟩
  have hK := hk.sort.mp w
  have hV := tV_2 ht.1 hp hK
  rw [m_in, (hk.2.2.2.2.1 hK).2]
  by_cases c : nI lo ≤ nI (tV t n p) ∧ nI (tV t n p) ≤ hi
  · rw [if_pos c]
    refine ⟨fun w => absurd w (by decide), fun _ => m_due1 ht hp hk (by omega) h13 (fun τ' hx h13' hk' => ?_)⟩
    rw [(hk.2.2.2.2.1 hK).2]
    exact hg ⟨hK, (nI_leI hlo (by omega)).mp c.1, c.2⟩ τ' hx h13' hk'
  · rw [if_neg c]
    exact ⟨fun _ => m_due0 hk h13 (hb (fun z => c ⟨(nI_leI hlo (by omega)).mpr z.2.1, z.2.2⟩)), fun w => absurd rfl w⟩
theorem m_numF {a b : Int32} {τ : St} {post : Int32 → St → Prop} (h13 : ¬ τ.1 0 13 = -9) (h : ∀ r, post r τ) : f_X12_number a b τ post := by
  rw [f_X12_number]
  refine ⟨fun _ => m_dueF h13 h, fun _ => ?_⟩
  rw [m_in]
  exact ⟨fun _ => m_dueF h13 h, fun _ => m_dueF h13 h⟩
