/-! PIT: M steps over a token. -/
def TM (t : Nat → Nat) (n : Nat) (τ : St) : Prop := n ≤ 150 ∧ τ.1 0 2 = nI n ∧ ∀ j, j < n → t j < 256 ∧ τ.1 1 j &&& 255 = nI (t j)
def MT (τ τ' : St) : Prop := τ'.2 = τ.2 ∧ (∀ c, c ≠ 0 → τ'.1 c = τ.1 c) ∧ ∀ i, i ≠ 9 → i ≠ 10 → i ≠ 11 → i ≠ 12 → τ'.1 0 i = τ.1 0 i
theorem MT.rf {τ : St} : MT τ τ := ⟨rfl, fun _ _ => rfl, fun _ _ _ _ _ => rfl⟩
theorem MT.tr {a b c : St} (h1 : MT a b) (h2 : MT b c) : MT a c := ⟨h2.1.trans h1.1, fun q hq => (h2.2.1 q hq).trans (h1.2.1 q hq), fun i i1 i2 i3 i4 => (h2.2.2 i i1 i2 i3 i4).trans (h1.2.2 i i1 i2 i3 i4)⟩
theorem MT.up {τ : St} {i : Nat} {x : Int32} (h : i = 9 ∨ i = 10 ∨ i = 11 ∨ i = 12) : MT τ (st_up τ 0 i x) := ⟨rfl, fun c hc => st_up_ne _ hc, fun j j1 j2 j3 j4 => st_up_nat _ (by omega)⟩
theorem TM.t {t : Nat → Nat} {n : Nat} {τ τ' : St} (h : TM t n τ) (hx : MT τ τ') : TM t n τ' := ⟨h.1, by rw [hx.2.2 2 (by omega) (by omega) (by omega) (by omega)]; exact h.2.1, fun j hj => by rw [hx.2.1 1 (by omega)]; exact h.2.2 j hj⟩
theorem m_here {t : Nat → Nat} {n j : Nat} {τ : St} {post : Int32 → St → Prop} (ht : TM t n τ) (hj : j ≤ 1000) (h9 : τ.1 0 9 = nI j) (h : post (if j < n then nI (t j) else -1) τ) : f_X12_here τ post := by
  obtain ⟨t1, t2, t3⟩ := ht
  rw [f_X12_here, t2, h9, nI_clamp (by omega)]
  refine ⟨fun q => ?_, fun q => ?_⟩
  · have : ¬ j < n := fun w => nI_ge w (by omega) q
    rw [if_neg this] at h; exact h
  · have hj : j < n := Nat.lt_of_not_le fun z => q (nI_le z (by omega))
    rw [if_pos hj] at h
    refine ⟨pk_in j 150 (by omega), ?_⟩
    rw [(t3 j hj).2]; exact h
theorem m_inN {c lo hi : Nat} {τ : St} {post : Int32 → St → Prop} (hc : c < 2 ^ 31) (hl : lo < 2 ^ 31) (hh : hi < 2 ^ 31) (h : post (if lo ≤ c ∧ c ≤ hi then 1 else 0) τ) : f_X12_in (nI c) (nI lo) (nI hi) τ post := by
  rw [m_in]
  have e : (nI lo ≤ nI c ∧ nI c ≤ nI hi) ↔ (lo ≤ c ∧ c ≤ hi) := by rw [nI_leI hl hc, nI_leI hc hh]
  by_cases q : lo ≤ c ∧ c ≤ hi
  · rw [if_pos (e.mpr q)]; rw [if_pos q] at h; exact h
  · rw [if_neg (fun w => q (e.mp w))]; rw [if_neg q] at h; exact h
/-- is the sign at j of lo .. hi -/
theorem m_is {t : Nat → Nat} {n j lo hi : Nat} {τ : St} {post : Int32 → St → Prop} (hn : n ≤ 150) (hT : ∀ j, j < n → t j < 256) (hl : lo < 2 ^ 31) (hh : hi < 2 ^ 31) (h : post (if j < n ∧ lo ≤ t j ∧ t j ≤ hi then 1 else 0) τ) : f_X12_in (if j < n then nI (t j) else -1) (nI lo) (nI hi) τ post := by
  by_cases q : j < n
  · rw [if_pos q]
    refine m_inN (by have := hT j q; omega) hl hh ?_
    simp only [q, true_and] at h
    exact h
  · rw [if_neg q, m_in]
    rw [if_neg (fun w => q w.1)] at h
    rw [if_neg]
    · exact h
    · rintro ⟨w, -⟩
      exact absurd (Int32.le_trans (nI_pos' hl) w) (by decide)
theorem m_J172 {again k188 : Int32 → St → Prop} {post : St → Prop} {v1 x : Int32} {τ : St} (h : again v1 (st_up (st_up τ 0 12 x) 0 9 ((st_up τ 0 12 x).1 0 9 + 1))) : f_X12_step_J172_126 again k188 post v1 x τ := by
  rw [f_X12_step_J172_126]
  rintro _ rfl
  exact h
def vl (t : Nat → Nat) (s : Nat) : Nat → Nat
  | 0 => 0
  | j + 1 => if vl t s j ≤ 99 then 10 * vl t s j + t (s + j) - 48 else vl t s j
theorem vl_bd {t : Nat → Nat} {s : Nat} : ∀ {L : Nat}, (∀ j, j < L → t (s + j) ≤ 57) → vl t s L ≤ 999
  | 0, _ => by rw [vl]; omega
  | L + 1, h => by
    have := vl_bd (t := t) (s := s) (L := L) (fun j hj => h j (by omega))
    have := h L (by omega)
    rw [vl]; split <;> omega
theorem vl_big {t : Nat → Nat} {s : Nat} (h0 : 49 ≤ t s) : ∀ {L : Nat}, 3 ≤ L → (∀ j, j < L → 48 ≤ t (s + j) ∧ t (s + j) ≤ 57) → 99 < vl t s L := by
  intro L hL
  induction L with
  | zero => omega
  | succ L ih =>
    intro h
    by_cases c : L = 2
    · subst c
      have a0 := h 0 (by omega)
      have a1 := h 1 (by omega)
      have a2 := h 2 (by omega)
      rw [Nat.add_zero] at a0
      have e1 : vl t s 1 = t s - 48 := by simp [vl]
      have e2 : vl t s 2 = 10 * (t s - 48) + t (s + 1) - 48 := by rw [vl, e1, if_pos (by omega)]
      rw [vl, e2, if_pos (by omega)]
      omega
    · have := ih (by omega) (fun j hj => h j (by omega))
      rw [vl, if_neg (by omega)]
      exact this
/-- what M holds of its token -/
def MK (t : Nat → Nat) (n p : Nat) (τ : St) : Prop := τ.1 0 10 = nI (ts t n p) ∧ (tK t n p ≠ 4 → τ.1 0 9 = nI (te t n p)) ∧ (tK t n p = 0 → τ.1 0 11 = 3) ∧ (tK t n p = 1 → τ.1 0 11 = nI (tV t n p)) ∧ (tK t n p = 2 → τ.1 0 11 = 1 ∧ τ.1 0 12 = nI (tV t n p)) ∧ (tK t n p = 3 → τ.1 0 11 = 2) ∧ (tK t n p = 4 → τ.1 0 11 = 4)
theorem m_step {t : Nat → Nat} {n p : Nat} {τ : St} {post : St → Prop} (ht : TM t n τ) (hp : p ≤ n) (h9 : τ.1 0 9 = nI p) (h : ∀ τ', MT τ τ' → MK t n p τ' → post τ') : f_X12_step τ post := by
  have hn := ht.1
  have hT : ∀ j, j < n → t j < 256 := fun j hj => (ht.2.2 j hj).1
  obtain ⟨s1, s2, s3, s4⟩ := ts_spec (t := t) hn hp
  rw [f_X12_step]
  refine (floop (P := fun i j => ∀ τ1, MT τ τ1 → τ1.1 0 9 = nI (p + j) → f_X12_step_L0 _ post i τ1) (ts t n p - p) (fun i τ1 hx h9 => ?_) (fun i j hj ih τ1 hx h9 => ?_)).imp (fun i hi => hi τ MT.rf h9)
  · rw [show p + (ts t n p - p) = ts t n p by omega] at h9
    rw [f_X12_step_L0]
    refine m_here (ht.t hx) (by omega) h9 ⟨fun _ => ?_, fun w => ?_⟩
    · rintro _ rfl
      rw [h9]
      have hx2 : MT τ (st_up (st_up τ1 0 10 (nI (ts t n p))) 0 12 0) := (hx.tr (MT.up (by omega))).tr (MT.up (by omega))
      have g9 : (st_up (st_up τ1 0 10 (nI (ts t n p))) 0 12 0).1 0 9 = nI (ts t n p) := by
        rw [st_up_nat _ (by omega), st_up_nat _ (by omega)]; exact h9
      have g10 : (st_up (st_up τ1 0 10 (nI (ts t n p))) 0 12 0).1 0 10 = nI (ts t n p) := by
        rw [st_up_nat _ (by omega), st_up_at]
      have g12 : (st_up (st_up τ1 0 10 (nI (ts t n p))) 0 12 0).1 0 12 = nI 0 := st_up_at _ _ _ _
      generalize st_up (st_up τ1 0 10 (nI (ts t n p))) 0 12 0 = τ2 at hx2 g9 g10 g12
      refine m_here (ht.t hx2) (by omega) g9 ⟨fun w0 => ?_, fun w0 => ?_⟩
      · have hsn : ts t n p < n := Classical.byContradiction fun z => by
          rw [if_neg z] at w0
          exact absurd w0 (by decide)
        refine m_is (lo := 97) (hi := 122) hn hT (by omega) (by omega) ⟨fun w1 => ?_, fun w1 => ?_⟩
        · have c1 : ¬ (97 ≤ t (ts t n p) ∧ t (ts t n p) ≤ 122) := fun z => by
            rw [if_pos ⟨hsn, z⟩] at w1; exact absurd w1 (by decide)
          refine m_is (lo := 48) (hi := 57) hn hT (by omega) (by omega) ⟨fun w2 => ?_, fun w2 => ?_⟩
          · have c2 : ¬ (48 ≤ t (ts t n p) ∧ t (ts t n p) ≤ 57) := fun z => by
              rw [if_pos ⟨hsn, z⟩] at w2; exact absurd w2 (by decide)
            have hk : kd t n (ts t n p) = if t (ts t n p) = 59 then 3 else 4 := by
              rw [kd, if_pos hsn, if_neg c1, if_neg c2]
            have hb := hT _ hsn
            refine ⟨fun w3 => ?_, fun w3 => ?_⟩
            · rintro _ rfl
              have c3 : ¬ t (ts t n p) = 59 := fun z => w3 (by rw [if_pos hsn, z]; rfl)
              rw [if_neg c3] at hk
              have hK : tK t n p = 4 := by rw [tK, if_neg (by omega), if_neg (by omega), hk]
              refine h _ ((hx2.tr (MT.up (by omega))).tr (MT.up (by omega))) ⟨?_, fun z => absurd hK z, fun z => by omega, fun z => by omega, fun z => by omega, fun z => by omega, fun _ => st_up_at _ _ _ _⟩
              rw [st_up_nat _ (by omega), st_up_nat _ (by omega)]; exact g10
            · rintro _ rfl
              have c3 : t (ts t n p) = 59 := by
                rw [if_pos hsn] at w3
                exact nI_ij (b := 59) (by omega) (by omega) w3
              rw [if_pos c3] at hk
              have hK : tK t n p = 3 := by rw [tK, if_neg (by omega), if_neg (by omega), hk]
              have hE : te t n p = ts t n p + 1 := by rw [te, if_pos hk]
              refine h _ ((hx2.tr (MT.up (by omega))).tr (MT.up (by omega))) ⟨?_, fun _ => ?_, fun z => by omega, fun z => by omega, fun z => by omega, fun _ => st_up_at _ _ _ _, fun z => by omega⟩
              · rw [st_up_nat _ (by omega), st_up_nat _ (by omega)]; exact g10
              · rw [st_up_nat _ (by omega), st_up_at, g9, hE, nI_1]
          · have c2 : 48 ≤ t (ts t n p) ∧ t (ts t n p) ≤ 57 := Classical.byContradiction fun z => w2 (if_neg (fun z2 => z z2.2))
            have hk : kd t n (ts t n p) = 2 := by rw [kd, if_pos hsn, if_neg c1, if_pos c2]
            obtain ⟨e1, e2, e3, e4⟩ := te_spec (t := t) hn hp hk (Or.inr rfl)
            have hdig : ∀ j, j < te t n p - ts t n p → 48 ≤ t (ts t n p + j) ∧ t (ts t n p + j) ≤ 57 := fun j hj => (kd_2 (kdB_iff.mp (e4 (ts t n p + j) (by omega) (by omega))).2).2
            rw [if_pos hsn]
            refine (floop (P := fun i j => ∀ τ3, MT τ τ3 → τ3.1 0 10 = nI (ts t n p) → τ3.1 0 9 = nI (ts t n p + j) → τ3.1 0 12 = nI (vl t (ts t n p) j) → f_X12_step_L126 _ post i (nI (t (ts t n p))) τ3) (te t n p - ts t n p) (fun i τ3 hx3 f10 f9 f12 => ?_) (fun i j hj ih2 τ3 hx3 f10 f9 f12 => ?_)).imp (fun i hi => hi τ2 hx2 g10 g9 g12)
            · rw [show ts t n p + (te t n p - ts t n p) = te t n p by omega] at f9
              rw [f_X12_step_L126]
              refine m_here (ht.t hx3) (by omega) f9 (m_is (lo := 48) (hi := 57) hn hT (by omega) (by omega) ⟨fun _ => ?_, fun w => ?_⟩)
              · have hvb := vl_bd (t := t) (s := ts t n p) (L := te t n p - ts t n p) (fun j hj => (hdig j hj).2)
                have m11 : ∀ x, MT τ (st_up τ3 0 11 x) := fun x => hx3.tr (MT.up (by omega))
                have k10 : ∀ x, (st_up τ3 0 11 x).1 0 10 = nI (ts t n p) := fun x => by rw [st_up_nat _ (by omega)]; exact f10
                have k9 : ∀ x, (st_up τ3 0 11 x).1 0 9 = nI (te t n p) := fun x => by rw [st_up_nat _ (by omega)]; exact f9
                have k12 : ∀ x, (st_up τ3 0 11 x).1 0 12 = nI (vl t (ts t n p) (te t n p - ts t n p)) := fun x => by rw [st_up_nat _ (by omega)]; exact f12
                have bad : tK t n p = 4 → post (st_up τ3 0 11 4) := fun hK => h _ (m11 _) ⟨k10 _, fun z => absurd hK z, fun z => by omega, fun z => by omega, fun z => by omega, fun z => by omega, fun _ => st_up_at _ _ _ _⟩
                have good : tK t n p = 2 → vl t (ts t n p) (te t n p - ts t n p) = tV t n p → post (st_up τ3 0 11 1) := fun hK hV => h _ (m11 _) ⟨k10 _, fun _ => k9 _, fun z => by omega, fun z => by omega, fun _ => ⟨st_up_at _ _ _ _, by rw [k12, hV]⟩, fun z => by omega, fun z => by omega⟩
                have v1 : te t n p - ts t n p = 1 → vl t (ts t n p) (te t n p - ts t n p) = t (ts t n p) - 48 := fun e => by
                  rw [e]; simp [vl]
                have v2 : te t n p - ts t n p = 2 → vl t (ts t n p) (te t n p - ts t n p) = 10 * (t (ts t n p) - 48) + (t (ts t n p + 1) - 48) := fun e => by
                  have a1 := hdig 1 (by omega)
                  have e1 : vl t (ts t n p) 1 = t (ts t n p) - 48 := by simp [vl]
                  rw [e, vl, e1, if_pos (by omega)]
                  omega
                have tKe : tK t n p = if te t n p - ts t n p = 1 then 2 else if te t n p - ts t n p = 2 ∧ t (ts t n p) ≠ 48 then 2 else 4 := by
                  rw [tK, if_neg (by omega), if_pos hk]
                have tVe : tV t n p = if te t n p - ts t n p = 1 then t (ts t n p) - 48 else 10 * (t (ts t n p) - 48) + (t (ts t n p + 1) - 48) := by
                  rw [tV, if_neg (by omega)]
                have d1 : te t n p - ts t n p = 2 → t (ts t n p + 1) ≤ 57 := fun e => (hdig 1 (by omega)).2
                have big : 3 ≤ te t n p - ts t n p → t (ts t n p) ≠ 48 → 99 < vl t (ts t n p) (te t n p - ts t n p) := fun e1 e2 => vl_big (by omega) e1 hdig
                rw [f12, f9, f10, pk_sub (by omega)]
                generalize vl t (ts t n p) (te t n p - ts t n p) = vv at *
                by_cases L1 : te t n p - ts t n p = 1
                · have hv := v1 L1
                  rw [if_pos L1] at tKe tVe
                  have hg := good tKe (by omega)
                  refine br_f (nI_nlt (a := 99) (b := vv) (by omega) (by omega)) ⟨fun _ => hg, fun _ => br_t (nI_le (b := 1) (by omega) (by omega)) hg⟩
                · rw [if_neg L1] at tKe tVe
                  by_cases L2 : te t n p - ts t n p = 2 ∧ t (ts t n p) ≠ 48
                  · rw [if_pos L2] at tKe
                    have hv := v2 L2.1
                    have hd1 := d1 L2.1
                    have hg := good tKe (by omega)
                    exact br_f (nI_nlt (a := 99) (b := vv) (by omega) (by omega)) ⟨fun _ => hg, fun w => absurd (nI_ij (b := 48) (by omega) (by omega) w) L2.2⟩
                  · rw [if_neg L2] at tKe
                    have hb := bad tKe
                    refine ⟨fun _ => hb, fun w => ⟨fun w2 => ?_, fun w2 => ⟨fun w3 => ?_, fun _ => hb⟩⟩⟩
                    · have c48 : t (ts t n p) ≠ 48 := fun z => w2 (by rw [z]; rfl)
                      have := big (by omega) c48
                      exact absurd ((nI_ltI (a := 99) (by omega) (by omega)).mpr this) w
                    · have := (nI_leI (b := 1) (by omega) (by omega)).mp w3
                      omega
              · have z : te t n p < n ∧ 48 ≤ t (te t n p) ∧ t (te t n p) ≤ 57 := Classical.byContradiction fun z => w (if_neg z)
                rw [kdB_iff.mpr ⟨z.1, by rw [kd, if_pos z.1, if_neg (by omega), if_pos z.2]⟩] at e1
                cases e1
            · have hd := hdig j hj
              rw [f_X12_step_L126]
              refine m_here (ht.t hx3) (by omega) f9 (m_is (lo := 48) (hi := 57) hn hT (by omega) (by omega) ⟨fun w => ?_, fun _ => ?_⟩)
              · rw [if_pos ⟨by omega, hd⟩] at w
                exact absurd w (by decide)
              · have hvb := vl_bd (t := t) (s := ts t n p) (L := j) (fun j' hj' => (hdig j' (by omega)).2)
                have up1 : ∀ x, (st_up (st_up τ3 0 12 x) 0 9 ((st_up τ3 0 12 x).1 0 9 + 1)).1 0 10 = nI (ts t n p) := fun x => by
                  rw [st_up_nat _ (by omega), st_up_nat _ (by omega)]; exact f10
                have up2 : ∀ x, (st_up (st_up τ3 0 12 x) 0 9 ((st_up τ3 0 12 x).1 0 9 + 1)).1 0 9 = nI (ts t n p + (j + 1)) := fun x => by
                  rw [st_up_at, st_up_nat _ (by omega), f9, nI_1]; rfl
                have up3 : ∀ x, (st_up (st_up τ3 0 12 x) 0 9 ((st_up τ3 0 12 x).1 0 9 + 1)).1 0 12 = x := fun x => by
                  rw [st_up_nat _ (by omega), st_up_at]
                rw [f12]
                refine ⟨fun w => m_here (ht.t hx3) (by omega) f9 (m_J172 (ih2 _ ((hx3.tr (MT.up (by omega))).tr (MT.up (by omega))) (up1 _) (up2 _) ?_)), fun w => m_J172 (ih2 _ ((hx3.tr (MT.up (by omega))).tr (MT.up (by omega))) (up1 _) (up2 _) ?_)⟩
                · have hle : vl t (ts t n p) j ≤ 99 := (nI_leI (b := 99) (by omega) (by omega)).mp w
                  rw [up3, if_pos (by omega), nl 10, pk_mul, nI_add, nl 48, pk_sub (by omega), vl, if_pos hle]
                · have hle : ¬ vl t (ts t n p) j ≤ 99 := fun z => w ((nI_leI (b := 99) (by omega) (by omega)).mpr z)
                  rw [up3, vl, if_neg hle]
        · have c1 : 97 ≤ t (ts t n p) ∧ t (ts t n p) ≤ 122 := Classical.byContradiction fun z => w1 (if_neg (fun z2 => z z2.2))
          have hk : kd t n (ts t n p) = 1 := by rw [kd, if_pos hsn, if_pos c1]
          obtain ⟨e1, e2, e3, e4⟩ := te_spec (t := t) hn hp hk (Or.inl rfl)
          rw [if_pos hsn]
          refine (floop (P := fun i j => ∀ τ3, MT τ τ3 → τ3.1 0 10 = nI (ts t n p) → τ3.1 0 9 = nI (ts t n p + j) → f_X12_step_L63 _ post i (nI (t (ts t n p))) τ3) (te t n p - ts t n p) (fun i τ3 hx3 f10 f9 => ?_) (fun i j hj ih2 τ3 hx3 f10 f9 => ?_)).imp (fun i hi => hi τ2 hx2 g10 g9)
          · rw [show ts t n p + (te t n p - ts t n p) = te t n p by omega] at f9
            rw [f_X12_step_L63]
            refine m_here (ht.t hx3) (by omega) f9 (m_is (lo := 97) (hi := 122) hn hT (by omega) (by omega) ⟨fun _ => ?_, fun w => ?_⟩)
            · rw [f9, f10, pk_sub (by omega)]
              have m11 : ∀ x, MT τ (st_up τ3 0 11 x) := fun x => hx3.tr (MT.up (by omega))
              have k10 : ∀ x, (st_up τ3 0 11 x).1 0 10 = nI (ts t n p) := fun x => by rw [st_up_nat _ (by omega)]; exact f10
              have k9 : ∀ x, (st_up τ3 0 11 x).1 0 9 = nI (te t n p) := fun x => by rw [st_up_nat _ (by omega)]; exact f9
              refine ⟨fun w => ?_, fun w => ?_⟩
              · have hl : te t n p - ts t n p ≠ 1 := fun e => w (by rw [e]; rfl)
                have hK : tK t n p = 4 := by rw [tK, if_pos hk, if_neg hl]
                exact h _ (m11 _) ⟨k10 _, fun z => absurd hK z, fun z => by omega, fun z => by omega, fun z => by omega, fun z => by omega, fun _ => st_up_at _ _ _ _⟩
              · have hl : te t n p - ts t n p = 1 := nI_ij (by omega) (by omega) w
                have hK : tK t n p = 1 := by rw [tK, if_pos hk, if_pos hl]
                exact h _ (m11 _) ⟨k10 _, fun _ => k9 _, fun z => by omega, fun _ => by rw [st_up_at, tV, if_pos hk], fun z => by omega, fun z => by omega, fun z => by omega⟩
            · have z : te t n p < n ∧ 97 ≤ t (te t n p) ∧ t (te t n p) ≤ 122 := Classical.byContradiction fun z => w (if_neg z)
              rw [kdB_iff.mpr ⟨z.1, by rw [kd, if_pos z.1, if_pos z.2]⟩] at e1
              cases e1
          · have hd := kd_1 (kdB_iff.mp (e4 (ts t n p + j) (by omega) (by omega))).2
            rw [f_X12_step_L63]
            refine m_here (ht.t hx3) (by omega) f9 (m_is (lo := 97) (hi := 122) hn hT (by omega) (by omega) ⟨fun w => ?_, fun _ => ih2 _ (hx3.tr (MT.up (by omega))) ?_ ?_⟩)
            · rw [if_pos hd] at w
              exact absurd w (by decide)
            · rw [st_up_nat _ (by omega)]; exact f10
            · rw [st_up_at, f9, nI_1]; rfl
      · have hsn : ¬ ts t n p < n := fun z => by
          rw [if_pos z] at w0
          exact w0 (nI_pos' (by have := hT _ z; omega))
        have hk : kd t n (ts t n p) = 0 := kd_0.mpr hsn
        have hK : tK t n p = 0 := by rw [tK, if_neg (by omega), if_neg (by omega), hk]
        have hE : te t n p = ts t n p := by rw [te, if_neg (by omega), if_neg (by omega)]
        refine h _ (hx2.tr (MT.up (by omega))) ⟨?_, fun _ => ?_, fun _ => st_up_at _ _ _ _, fun z => by omega, fun z => by omega, fun z => by omega, fun z => by omega⟩
        · rw [st_up_nat _ (by omega)]; exact g10
        · rw [st_up_nat _ (by omega), hE]; exact g9
    · by_cases z : ts t n p < n
      · rw [if_pos z] at w
        have := nI_ij (b := 32) (by have := hT _ z; omega) (by omega) w
        rw [spB_iff.mpr ⟨z, this⟩] at s1
        cases s1
      · rw [if_neg z] at w
        exact absurd w (by decide)
  · have hb := spB_iff.mp (s4 (p + j) (by omega) (by omega))
    rw [f_X12_step_L0]
    refine m_here (ht.t hx) (by omega) h9 ?_
    rw [if_pos hb.1, hb.2]
    refine ⟨fun w => absurd rfl w, fun _ => ih _ (hx.tr (MT.up (by omega))) ?_⟩
    rw [st_up_at, h9, nI_1]; rfl
