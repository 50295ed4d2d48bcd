/-! PIT: an item of the model. -/
theorem MF.rf {τ : St} : MF τ τ := ⟨rfl, fun _ _ => rfl, fun _ _ => rfl, rfl, fun _ _ => rfl, fun _ _ => rfl, rfl, rfl⟩
theorem MF.tr {a b c : St} (h1 : MF a b) (h2 : MF b c) : MF a c := by
  obtain ⟨a1, a2, a3, a4, a5, a6, a7, a8⟩ := h1
  obtain ⟨b1, b2, b3, b4, b5, b6, b7, b8⟩ := h2
  exact ⟨b1.trans a1, fun q hq => (b2 q hq).trans (a2 q hq), fun i hi => (b3 i hi).trans (a3 i hi), b4.trans a4, fun i hi => (b5 i hi).trans (a5 i hi), fun i hi => (b6 i hi).trans (a6 i hi), b7.trans a7, b8.trans a8⟩
theorem MF.up0 {τ : St} {i : Nat} {x : Int32} (h : 9 ≤ i ∧ i ≤ 15) : MF τ (st_up τ 0 i x) := ⟨rfl, fun c hc => st_up_ne _ (by omega), fun j hj => st_up_nat _ (by omega), rfl, fun _ _ => rfl, fun _ _ => rfl, rfl, rfl⟩
theorem MF.up2 {τ : St} {x : Int32} : MF τ (st_up τ 2 1 x) := ⟨rfl, fun c hc => st_up_ne _ (by omega), fun _ _ => rfl, rfl, fun _ _ => rfl, fun _ _ => rfl, rfl, rfl⟩
theorem MF.up3 {τ : St} {i : Nat} {x : Int32} (h : 6 ≤ i) : MF τ (st_up τ 3 i x) := ⟨rfl, fun c hc => st_up_ne _ (by omega), fun _ _ => rfl, rfl, fun j hj => st_up_nat _ (by omega), fun _ _ => rfl, rfl, rfl⟩
theorem MF.up4 {τ : St} {i : Nat} {x : Int32} : MF τ (st_up τ 4 i x) := ⟨rfl, fun c hc => st_up_ne _ (by omega), fun _ _ => rfl, rfl, fun _ _ => rfl, fun _ _ => rfl, rfl, rfl⟩
theorem MF.up5 {τ : St} {i : Nat} {x : Int32} (h : 36 ≤ i) : MF τ (st_up τ 5 i x) := ⟨rfl, fun c hc => st_up_ne _ (by omega), fun _ _ => rfl, rfl, fun _ _ => rfl, fun j hj => st_up_nat _ (by omega), rfl, rfl⟩
theorem MF.up6 {τ : St} {x : Int32} : MF τ (st_up τ 6 1 x) := ⟨rfl, fun c hc => st_up_ne _ (by omega), fun _ _ => rfl, rfl, fun _ _ => rfl, fun _ _ => rfl, rfl, rfl⟩
theorem MF.up7 {τ : St} {x : Int32} : MF τ (st_up τ 7 1 x) := ⟨rfl, fun c hc => st_up_ne _ (by omega), fun _ _ => rfl, rfl, fun _ _ => rfl, fun _ _ => rfl, rfl, rfl⟩
/-- what may be here: 1, or 0 -/
theorem m_may {a : Int32} {τ : St} {post : Int32 → St → Prop} (x : Int32) (h99 : a = 99 → x = if τ.1 0 14 = 0 then 1 else 0) (h101 : a = 101 → x = 1) (h109 : a = 109 → x = if 6 ≤ τ.1 2 1 then 0 else 1) (h114 : a = 114 → x = 1) (h115 : a = 115 → x = if τ.1 0 15 = 0 then 1 else 0) (h0 : a ≠ 99 → a ≠ 101 → a ≠ 109 → a ≠ 114 → a ≠ 115 → x = 0) (h : post x τ) : f_X12_mayBe a τ post := by
  rw [f_X12_mayBe]
  refine ⟨fun e => ⟨fun z => ?_, fun z => ?_⟩, fun e => ?_, fun e => ⟨fun z => ?_, fun z => ?_⟩, fun e => ?_, fun e => ⟨fun z => ?_, fun z => ?_⟩, fun e1 e2 e3 e4 e5 => ?_⟩
  · rw [h99 e, if_neg z] at h; exact h
  · rw [h99 e, if_pos z] at h; exact h
  · rw [h101 e] at h; exact h
  · rw [h109 e, if_pos z] at h; exact h
  · rw [h109 e, if_neg z] at h; exact h
  · rw [h114 e] at h; exact h
  · rw [h115 e, if_neg z] at h; exact h
  · rw [h115 e, if_pos z] at h; exact h
  · rw [h0 e1 e2 e3 e4 e5] at h; exact h
