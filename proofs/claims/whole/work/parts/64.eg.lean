/-! Constructors: worlds that grow. -/
def va_AOA (ty : FieldType) (U : State) : Prop := (Cond.arrayOver (.array ty)).before #[] U = true
theorem va_AOA.use {ty : FieldType} {A : Array Value} {U : State} (h : va_AOA ty U) : (Cond.arrayOver (.array ty)).before A U = true := h
theorem va_AOA.moved {ty : FieldType} {u U : State} (hvm : u.vm.Alike U.vm) (h : va_AOA ty u) : va_AOA ty U := (Cond.arrayOver_setVmC (args := #[]) (s := u) (vm' := U.vm) hvm (.array ty)).trans h
/-! ===== BEGIN new T[n][m]: the outer array a place, the inner ones among the pooled ===== -/
/-- f, but v at every address of l -/
def vr_up {α : Type} (f : Nat → α) (l : List Nat) (v : α) : Nat → α := fun a => if a ∈ l then v else f a
theorem vr_up_in {α : Type} {f : Nat → α} {l : List Nat} {v : α} {a : Nat} (h : a ∈ l) : vr_up f l v a = v := if_pos h
theorem vr_up_ne {α : Type} {f : Nat → α} {l : List Nat} {v : α} {a : Nat} (h : a ∉ l) : vr_up f l v a = f a := if_neg h
theorem vr_rows {L l : List Nat} {f : Nat → va_E} {e : va_E} (h : ∀ a, a ∈ l → a ∉ L) : va_pl L f ++ l.map (fun a => (a, e)) = va_pl (L ++ l) (vr_up f l e) := by
  unfold va_pl
  rw [List.map_append]
  congr 1
  · apply List.map_congr_left
    intro a ha
    rw [vr_up_ne (fun q => h a q ha)]
  · apply List.map_congr_left
    intro a ha
    rw [vr_up_in ha]
theorem vr_lay {X rows : va_W} {x : Nat × va_E} {pl : va_W} {D : va_G} {cl : List vw_C} {H : Heap} (hP : va_P D cl (((X ++ pl) ++ [x]) ++ rows) H) : va_P D cl ((X ++ [x]) ++ (pl ++ rows)) H := by
  rw [List.append_assoc (X ++ pl)] at hP
  have h := va_P.swap hP
  rw [← List.append_assoc X] at h
  have h2 := va_P.swap h
  rw [List.append_assoc (X ++ [x])] at h2
  exact h2
theorem vr_layD {X rows : va_W} {x : Nat × va_E} {pl : va_W} {A : Nat → Prop} (hD : va_D A (((X ++ pl) ++ [x]) ++ rows)) : va_D A ((X ++ [x]) ++ (pl ++ rows)) := by
  rw [List.append_assoc (X ++ pl)] at hD
  have h := va_D.swap hD
  rw [← List.append_assoc X] at h
  have h2 := va_D.swap h
  rw [List.append_assoc (X ++ [x])] at h2
  exact h2
theorem vr_outer (c : ClassId) (N h0 : Nat) : ∀ i : Nat, Jvm.Free.Multi.outerC c N h0 i = arrV c N (fun j => va_rf (if j < i then some (h0 + 1 + j) else none))
  | 0 => by
    show ({ cls := c, slots := Array.replicate N .null, vm := .none } : Cell) = _
    rw [arrV_new]
    refine congrArg (arrV c N) (funext fun j => ?_)
    simp [va_rf]
  | i + 1 => by
    show (Jvm.Free.Multi.outerC c N h0 i).setSlot i (.ref (h0 + 1 + i)) = _
    rw [vr_outer c N h0 i, arrV_store]
    refine congrArg (arrV c N) (funext fun j => ?_)
    by_cases e : j = i
    · subst e
      simp [updV, va_rf]
    · by_cases h : j < i
      · simp [updV, e, h, Nat.lt_succ_of_lt h]
      · simp [updV, e, h, show ¬ j < i + 1 by omega]
section VGM
variable {p : Program} {l : Launch} {e : Env} {R : Room} {s : State} {m : MethodId} {args : Array Value} {below : List Frame} {meth : Method} {c : Code} {H : Heap} {locs : List Loc} {cells slots : Nat} {Q : State → Prop}
variable {cc : ByteArray} {pc : Nat} {ls : Array Slot} {rest : List Value} {D : va_G} {cl : List vw_C} {A : Nat → Prop} {a : Nat} {tys : List (ClassId × FieldType)} {ws : va_W} {H0 : Heap}
theorem va_mna {X : va_W} {L : List Nat} {f : Nat → va_E} {cc : ByteArray} (hexec : p.tables.exec = Jvm.exec) (hb : c.code = cc) {own : String} {index : Nat} {ty : FieldType} {cy : ClassId} (hown : s.vm.findClass own = some m.cls) (hclink : (Cond.classLink own index ("[" ++ (FieldType.array ty).toString)).before args s = true) (hover : va_AOA ty s) (harr : (Cond.arrayClass ty).before args s = true) (hcy : s.vm.findClass (FieldType.array ty).toString = some cy)
    (hK : va_K D cl tys s) (hP : va_P D cl (X ++ va_pl L f) H) (hD : va_D A (X ++ va_pl L f)) (hS : va_S A H0 H locs) (hA : ∀ q, H0.size ≤ q → A q) {n k : Int32} {N' K' : Nat} {z : vp_A} (hn : ¬ n < 0) (hk : ¬ k < 0) (hN : n.toNatClampNeg = N') (hM : k.toNatClampNeg = K')
    (hb1 : N' * 4 ≤ 536870912) (hb2 : K' * componentBytes ty ≤ 536870912) (hb3 : K' ≤ 536870912) (hdf : fits ty (defaultValue ty) = true) (hdd : (defaultValue ty).isDefault = true) (hcells : cells + (1 + N') ≤ R.cells) (hslots : slots + (N' + N' * K') ≤ R.slots) (hz : ∀ c : ClassId, Jvm.Free.Multi.innerC c K' (defaultValue ty) = vp_cell c z) (hdg : decode cc pc = .ok (.multianewarray index 2, 4))
    (kk : ∀ (q : Nat) (r : Nat → Nat) (cA : ClassId) (H1 : Heap), (∀ i j : Nat, i < N' → j < N' → r i = r j → i = j) → (∀ i : Nat, i < N' → r i ∉ L) → va_K D cl (tys ++ [(cA, .array ty)]) s →
      va_P D cl ((X ++ [(q, .inl (cA, N', .inr (.inr (.inr (.inr (fun i => if i < N' then some (r i) else none))))))]) ++ va_pl (L ++ (List.range N').map r) (vr_up f ((List.range N').map r) (.inl (cy, z)))) H1 → va_D A ((X ++ [(q, .inl (cA, N', .inr (.inr (.inr (.inr (fun i => if i < N' then some (r i) else none))))))]) ++ va_pl (L ++ (List.range N').map r) (vr_up f ((List.range N').map r) (.inl (cy, z)))) → va_S A H0 H1 locs →
      W p l e R s m args below meth c H1 locs (cells + 1 + N') (slots + N' + N' * K') Q (F0 m (pc + 4) ls (.ref q :: rest))) : W p l e R s m args below meth c H locs cells slots Q (F0 m pc ls (.int k :: .int n :: rest)) := by
  subst hN
  subst hM
  intro T hT Xs
  obtain ⟨vm₁, cA, comp, -, fA, fC, hO, -, X', step⟩ := Xs.multianewarray2F hexec hown hclink (va_AOA.use hover) harr (g := F0 m pc ls (.int k :: .int n :: rest)) rfl (by rw [hb]; exact hdg) rfl hn hk hb1 hb2 hb3 hdf hdd hcells hslots
  have ec : some cy = some comp := hcy.symm.trans fC
  cases ec
  generalize hF : Jvm.Free.Multi.fill (T.setVm vm₁) cA cy n.toNatClampNeg k.toNatClampNeg (defaultValue ty) n.toNatClampNeg = F at X' step
  have hTh : (T.setVm vm₁).heap = H := hT
  obtain ⟨f1, f2, -, -⟩ := Jvm.Free.Multi.fill_facts (T.setVm vm₁) cA cy n.toNatClampNeg k.toNatClampNeg (defaultValue ty) n.toNatClampNeg
  rw [hF, hTh] at f1 f2
  have hold : ∀ x : Nat, x < H.size → F.heap[x]? = H[x]? := fun x hx => by
    have := Jvm.Free.Multi.fill_old (T.setVm vm₁) cA cy n.toNatClampNeg k.toNatClampNeg (defaultValue ty) (a := x) (by rw [hTh]; exact hx) n.toNatClampNeg
    rw [hF, hTh] at this
    exact this
  have hrow : ∀ j : Nat, j < n.toNatClampNeg → F.heap[H.size + 1 + j]? = some (vp_cell cy z) := fun j hj => by
    have := Jvm.Free.Multi.fill_inner (T.setVm vm₁) cA cy n.toNatClampNeg k.toNatClampNeg (defaultValue ty) n.toNatClampNeg j hj
    rw [hF, hTh, hz] at this
    exact this
  have hout : Jvm.Free.Multi.outerC cA n.toNatClampNeg H.size n.toNatClampNeg = vp_cell cA (n.toNatClampNeg, .inr (.inr (.inr (.inr (fun i => if i < n.toNatClampNeg then some (H.size + 1 + i) else none))))) := by
    rw [vp_cell_q]
    exact vr_outer cA n.toNatClampNeg H.size n.toNatClampNeg
  rw [hout] at f2
  have hlt : ∀ a, a ∈ L → a < H.size := fun a ha => by
    obtain ⟨k9, hk9⟩ := va_pl_get (X := X) (f := f) ha
    exact (hP k9 _ hk9).lt
  have hnl : ∀ i : Nat, i < n.toNatClampNeg → H.size + 1 + i ∉ L := fun i _ h => by
    have := hlt _ h
    omega
  have hnm : ∀ a, a ∈ (List.range n.toNatClampNeg).map (fun i => H.size + 1 + i) → a ∉ L := fun a ha h => by
    obtain ⟨i, -, rfl⟩ := List.mem_map.mp ha
    have := hlt _ h
    omega
  have hP0 : va_P D cl (X ++ va_pl L f) F.heap := hP.kept (fun k9 x hx => hold x.1 ((hP k9 x hx).lt))
  have hP1 : va_P D cl ((X ++ va_pl L f) ++ [(H.size, .inl (cA, n.toNatClampNeg, .inr (.inr (.inr (.inr (fun i => if i < n.toNatClampNeg then some (H.size + 1 + i) else none))))))]) F.heap := hP0.app (fun k9 x hx => by
    have h0 : k9 < 1 := (List.getElem?_eq_some_iff.mp hx).1
    rw [show k9 = 0 by omega] at hx
    cases hx
    exact f2)
  have hP2 : va_P D cl (((X ++ va_pl L f) ++ [(H.size, .inl (cA, n.toNatClampNeg, .inr (.inr (.inr (.inr (fun i => if i < n.toNatClampNeg then some (H.size + 1 + i) else none))))))]) ++ ((List.range n.toNatClampNeg).map (fun i => H.size + 1 + i)).map (fun a => (a, .inl (cy, z)))) F.heap := hP1.app (fun k9 x hx => by
    obtain ⟨a, ha, rfl⟩ := List.mem_map.mp (List.mem_of_getElem? hx)
    obtain ⟨i, hi, rfl⟩ := List.mem_map.mp ha
    exact hrow i (List.mem_range.mp hi))
  have hD2 : va_D A (((X ++ va_pl L f) ++ [(H.size, .inl (cA, n.toNatClampNeg, .inr (.inr (.inr (.inr (fun i => if i < n.toNatClampNeg then some (H.size + 1 + i) else none))))))]) ++ ((List.range n.toNatClampNeg).map (fun i => H.size + 1 + i)).map (fun a => (a, .inl (cy, z)))) := by
    have hD1 := hD.push (e := .inl (cA, n.toNatClampNeg, .inr (.inr (.inr (.inr (fun i => if i < n.toNatClampNeg then some (H.size + 1 + i) else none)))))) hP rfl (hA _ hS.1)
    generalize hW1 : (X ++ va_pl L f) ++ [(H.size, .inl (cA, n.toNatClampNeg, .inr (.inr (.inr (.inr (fun i => if i < n.toNatClampNeg then some (H.size + 1 + i) else none))))))] = W1 at hD1 hP1 ⊢
    have hle : ∀ (k9 : Nat) (x : Nat × va_E), W1[k9]? = some x → x.1 ≤ H.size := fun k9 x hx => by
      rw [← hW1] at hx
      by_cases hl : k9 < (X ++ va_pl L f).length
      · rw [List.getElem?_append_left hl] at hx
        exact Nat.le_of_lt ((hP k9 x hx).lt)
      · rw [List.getElem?_append_right (by omega)] at hx
        have h0 : k9 - (X ++ va_pl L f).length < 1 := (List.getElem?_eq_some_iff.mp hx).1
        rw [show k9 - (X ++ va_pl L f).length = 0 by omega] at hx
        cases hx
        exact Nat.le_refl _
    have hr : ∀ (k9 : Nat) (x : Nat × va_E), (((List.range n.toNatClampNeg).map (fun i => H.size + 1 + i)).map (fun a => ((a, .inl (cy, z)) : Nat × va_E)))[k9]? = some x → x.1 = H.size + 1 + k9 := fun k9 x hx => by
      rw [List.getElem?_map, List.getElem?_map] at hx
      by_cases h9 : k9 < n.toNatClampNeg
      · rw [List.getElem?_range h9] at hx
        cases hx
        rfl
      · have hn0 : (List.range n.toNatClampNeg)[k9]? = none := List.getElem?_eq_none (by rw [List.length_range]; omega)
        rw [hn0] at hx
        cases hx
    refine ⟨fun i j x y hi hj hxy => ?_, fun k9 x hx => ?_⟩
    · by_cases h1 : i < W1.length <;> by_cases h2 : j < W1.length
      · rw [List.getElem?_append_left h1] at hi
        rw [List.getElem?_append_left h2] at hj
        exact hD1.1 i j x y hi hj hxy
      · rw [List.getElem?_append_left h1] at hi
        rw [List.getElem?_append_right (by omega)] at hj
        have := hle _ _ hi
        have := hr _ _ hj
        omega
      · rw [List.getElem?_append_right (by omega)] at hi
        rw [List.getElem?_append_left h2] at hj
        have := hle _ _ hj
        have := hr _ _ hi
        omega
      · rw [List.getElem?_append_right (by omega)] at hi hj
        have := hr _ _ hi
        have := hr _ _ hj
        omega
    · by_cases h1 : k9 < W1.length
      · rw [List.getElem?_append_left h1] at hx
        exact hD1.2 k9 x hx
      · rw [List.getElem?_append_right (by omega)] at hx
        have := hr _ _ hx
        exact hA _ (by have := hS.1; omega)
  have hAr : ArrOfT s cA (.array ty) := fun N9 z9 => by
    obtain ⟨-, k9, hk9, cm9, hkk9⟩ := (hO 0 0 0).1
    exact ⟨(fun q hq => by cases hq), k9, hk9, cm9, hkk9⟩
  have hK2 : va_K D cl (tys ++ [(cA, .array ty)]) s := ⟨hK.1, fun k9 x hx => by
    by_cases hl : k9 < tys.length
    · rw [List.getElem?_append_left hl] at hx
      exact hK.2 k9 x hx
    · rw [List.getElem?_append_right (by omega)] at hx
      have h0 : k9 - tys.length < 1 := (List.getElem?_eq_some_iff.mp hx).1
      rw [show k9 - tys.length = 0 by omega] at hx
      cases hx
      exact ⟨hAr, fA⟩⟩
  obtain ⟨t, a1, b1⟩ := kk H.size (fun i => H.size + 1 + i) cA F.heap (fun i j _ _ h => by have h9 : H.size + 1 + i = H.size + 1 + j := h; omega) hnl hK2 (by rw [← vr_rows hnm]; exact vr_lay hP2) (by rw [← vr_rows hnm]; exact vr_layD hD2) ⟨by rw [f1]; have := hS.1; omega, fun x h1 h2 => (hold x (Nat.lt_of_lt_of_le h1 hS.1)).trans (hS.2.1 x h1 h2), hS.2.2⟩ F rfl X'
  refine ⟨t, step t ?_, b1⟩
  have e : T.heap.size = H.size := by rw [hT]
  rw [e]
  exact a1
end VGM
/-! ===== END ===== -/

/-- links to a nest mate's constructor -/
def nestT : List (String × Nat × MethodName) := [(RX11, 11, yX10_init), (RX11, 18, yX0_init), (RX11, 28, yX4_init), (RX11, 43, yX5_init), (RX11, 50, yX3_init), (RX11, 57, yX2_init), (RX11, 60, yX9_init), (RX11, 63, yX6_init), (RX11, 66, yX7_init), (RX11, 69, yX8_init), (RX11, 72, yX1_init), (RX1, 1, yX2_init), (RX6, 1, yX2_init), (RX7, 1, yX9_init), (RX8, 1, yX6_init), (RX9, 1, yX2_init)]
def castT : List String := [RX9, RX6, RX7, RX8, RX1]
def ZZ (U : State) : Prop := va_AOA .int U ∧ va_AO RX4 U ∧ va_AO RX2 U ∧ (∀ q ∈ nestT, va_Nw (.methodLinkNest q.1 q.2.1 q.2.2 RX11) U) ∧ ∀ q ∈ castT, va_Nw (.castable q RX2) U
theorem ZZ.warm {s U : State} (hW : s.WarmedH U.vm) (h : ZZ s) : ZZ U := ⟨h.1.moved hW.alike, h.2.1.moved hW.alike, h.2.2.1.moved hW.alike, fun q hq => (h.2.2.2.1 q hq).warmM hW, fun q hq => (h.2.2.2.2 q hq).warmC hW⟩
theorem ZZ.calling {U : State} {g : JFrame} {mk : MethodId} {a : Array Value} (h : ZZ U) : ZZ (U.calling g mk a) := ⟨h.1, h.2.1, h.2.2.1, fun q hq => (h.2.2.2.1 q hq).same rfl rfl, fun q hq => (h.2.2.2.2 q hq).same rfl rfl⟩
abbrev rmI (d mc ms : Nat) : Room := { frames := d, cells := mc, slots := ms, locals := 40 * d }
theorem RA_inj {U : State} {c1 c2 : ClassId} {ty : FieldType} (h1 : va_RA U c1 ty) (h2 : va_RA U c2 ty) : c1 = c2 := by
  cases ty with
  | object C =>
    obtain ⟨_, _, _, _, _, e1⟩ := h1
    obtain ⟨_, _, _, _, _, e2⟩ := h2
    exact Option.some.inj (e1.symm.trans e2)
  | _ => exact Option.some.inj (h1.symm.trans h2)
theorem at_arr {D : va_G} {cl : List vw_C} {a n : Nat} {c : ClassId} {f g : Nat → Option Nat} {H : Heap} (h : va_at D cl (a, .inl (c, n, .inr (.inr (.inr (.inr f))))) H) (e : ∀ j, j < n → f j = g j) : va_at D cl (a, .inl (c, n, .inr (.inr (.inr (.inr g))))) H := by
  have e2 : arrV c n (fun j => va_rf (f j)) = arrV c n (fun j => va_rf (g j)) := by
    unfold arrV
    congr 2
    funext j
    show va_rf (f j.1) = va_rf (g j.1)
    rw [e j.1 j.2]
  exact h.trans (congrArg some e2)
theorem D_map {A : Nat → Prop} {ws ws' : va_W} (h : va_D A ws) (e : ws'.map Prod.fst = ws.map Prod.fst) : va_D A ws' := by
  have key : ∀ (i : Nat) (q : Nat × va_E), ws'[i]? = some q → ∃ q', ws[i]? = some q' ∧ q'.1 = q.1 := by
    intro i q hq
    have h1 : (ws'.map Prod.fst)[i]? = some q.1 := by rw [List.getElem?_map, hq]; rfl
    rw [e, List.getElem?_map] at h1
    cases hw : ws[i]? with
    | none => rw [hw] at h1; cases h1
    | some q' => rw [hw] at h1; exact ⟨q', rfl, Option.some.inj h1⟩
  refine ⟨fun i j p q hp hq hpq => ?_, fun k q hq => ?_⟩
  · obtain ⟨p', hp1, hp2⟩ := key i p hp
    obtain ⟨q', hq1, hq2⟩ := key j q hq
    exact h.1 i j p' q' hp1 hq1 (by rw [hp2, hq2, hpq])
  · obtain ⟨q', hq1, hq2⟩ := key k q hq
    rw [← hq2]; exact h.2 k q' hq1
theorem join_app {A0 : Nat → Prop} {D : va_G} {cl : List vw_C} {wr wc w1 : va_W} {H H1 : Heap} (hP : va_P D cl (wr ++ wc) H) (hD : va_D A0 (wr ++ wc)) (hk : ∀ q : Nat, q < H.size → ¬ va_A wc H.size q → H1[q]? = H[q]?) (hF : ∀ q, va_A wc H.size q → A0 q) (hP1 : va_P D cl w1 H1) (hD1 : va_D (va_A wc H.size) w1) : va_P D cl (wr ++ w1) H1 ∧ va_D A0 (wr ++ w1) := by
  have left : ∀ (k : Nat) (q : Nat × va_E), wr[k]? = some q → (wr ++ wc)[k]? = some q := fun k q hq => by rw [List.getElem?_append_left (List.getElem?_eq_some_iff.mp hq).1]; exact hq
  have apart : ∀ (k : Nat) (q : Nat × va_E), wr[k]? = some q → q.1 < H.size ∧ ¬ va_A wc H.size q.1 := by
    intro k q hq
    have hlt := (List.getElem?_eq_some_iff.mp hq).1
    have hl := (hP k q (left k q hq)).lt
    refine ⟨hl, fun h => ?_⟩
    rcases h with ⟨k2, e, h⟩ | h
    · have h4 : (wr ++ wc)[wr.length + k2]? = some (q.1, e) := by rw [List.getElem?_append_right (by omega)]; rw [show wr.length + k2 - wr.length = k2 by omega]; exact h
      have := hD.1 k _ q (q.1, e) (left k q hq) h4 rfl
      omega
    · omega
  refine ⟨va_P.app (fun k q hq => ?_) hP1, va_D.app ⟨fun i j x y hx hy e => hD.1 i j x y (left i x hx) (left j y hy) e, fun k q hq => hD.2 k q (left k q hq)⟩ (hD1.weaken (fun k q _ h => hF q.1 h)) (fun i j x y hx hy hxy => ?_)⟩
  · obtain ⟨g1, g2⟩ := apart k q hq
    exact (hP k q (left k q hq)).kept (hk q.1 g1 g2)
  · exact (apart i x hx).2 (by rw [hxy]; exact hD1.2 j y hy)
theorem free_app {A0 : Nat → Prop} {wr wc : va_W} {H0 H : Heap} {locs : List Loc} (hD : va_D A0 (wr ++ wc)) (hS : va_S A0 H0 H locs) (hA : ∀ q, H0.size ≤ q → A0 q) : ∀ q, va_A wc H.size q → A0 q := by
  intro q h
  rcases h with ⟨k, e, h⟩ | h
  · exact hD.2 (wr.length + k) (q, e) (by rw [List.getElem?_append_right (by omega), show wr.length + k - wr.length = k by omega]; exact h)
  · exact hA q (Nat.le_trans hS.1 h)
theorem P_right {D : va_G} {cl : List vw_C} {wr wc : va_W} {H : Heap} (h : va_P D cl (wr ++ wc) H) : va_P D cl wc H := fun k q hq => h (wr.length + k) q (by rw [List.getElem?_append_right (by omega), show wr.length + k - wr.length = k by omega]; exact hq)
theorem D_right {A : Nat → Prop} {wr wc : va_W} (h : va_D A (wr ++ wc)) : va_D A wc := ⟨fun i j p q hp hq e => by
    have := h.1 (wr.length + i) (wr.length + j) p q (by rw [List.getElem?_append_right (by omega), show wr.length + i - wr.length = i by omega]; exact hp) (by rw [List.getElem?_append_right (by omega), show wr.length + j - wr.length = j by omega]; exact hq) e
    omega, fun k q hq => h.2 (wr.length + k) q (by rw [List.getElem?_append_right (by omega), show wr.length + k - wr.length = k by omega]; exact hq)⟩
theorem P_mem {D : va_G} {cl : List vw_C} {ws ws' : va_W} {H : Heap} (h : va_P D cl ws H) (hs : ∀ q ∈ ws', q ∈ ws) : va_P D cl ws' H := fun k q hq => by
  obtain ⟨i, hi⟩ := List.getElem?_of_mem (hs q (List.mem_of_getElem? hq))
  exact h i q hi
theorem D_swap {A : Nat → Prop} {a b : va_W} (h : va_D A (a ++ b)) : va_D A (b ++ a) := by
  have := va_D.swap (a := []) (b := a) (c := b) (by rw [List.nil_append]; exact h)
  rw [List.nil_append] at this; exact this
theorem P_swap {D : va_G} {cl : List vw_C} {a b : va_W} {H : Heap} (h : va_P D cl (a ++ b) H) : va_P D cl (b ++ a) H := P_mem h (fun q hq => by
  rcases List.mem_append.mp hq with w | w
  · exact List.mem_append_right _ w
  · exact List.mem_append_left _ w)
/-- from here, with this world, so much used, the machine comes to Q -/
def Eg (p : Program) (l : Launch) (e : Env) (R : Room) (s : State) (m : MethodId) (args : Array Value) (below : List Frame) (meth : Method) (c : Code) (Q : State → Prop) (ls : Array Slot) (D : va_G) (A : Nat → Prop) (pc : Nat) (stk : List Value) (ws : va_W) (cells slots : Nat) : Prop :=
  ∀ (H : Heap) (locs : List Loc), va_P D vwCl ws H → va_D A ws → va_S A s.heap H locs → W p l e R s m args below meth c H locs cells slots Q (F0 m pc ls stk)
/-- a final field's link, in its class's constructor -/
def FQ (own : String) (index ci k : Nat) (ty : FieldType) : Prop := ∃ (C : String) (T : u_T) (N : Nat) (ref : String) (ty0 : Nat → FieldType), vwCl[ci]? = some (C, T, N) ∧ k < N ∧ Cond.fieldLink own index ref (T k).2.1 (T k).2.2.1 ∈ wsL_law ∧ (∀ w ∈ u_ws C T N, w ∈ wsL_law) ∧ (ref = (T k).1 ∨ Cond.sameField ref (T k).1 (T k).2.1 (T k).2.2.1 ∈ wsL_law) ∧
  (∀ k, k < N → parseFieldDescriptor (T k).2.2.1 = some (ty0 k)) ∧ (∀ a, a < N → ∀ b, b < N → a ≠ b → (T a).2.1 ≠ (T b).2.1) ∧ (T k).2.2.2 = true ∧ parseFieldDescriptor (T k).2.2.1 = some ty ∧ (T k).1 = own
section EG
variable {p : Program} {l : Launch} {e : Env} {R : Room} {s : State} {m : MethodId} {args : Array Value} {below : List Frame} {meth : Method} {c : Code} {Q : State → Prop} {ls : Array Slot} {D : va_G} {A : Nat → Prop} {pc : Nat} {stk : List Value} {ws : va_W} {cells slots : Nat}
variable {ts : List FieldType} {own : String} {cc : ByteArray} {nL : Nat} {ret : Option FieldType} {cA : Nat → ClassId}
theorem eg_aload {k : Fin 4} {i a : Nat} (C : Cx ts own cc nL ret p s m args meth c D cA A) (hi : (k : Nat) = i) (h0 : ls[i]? = some (.val (.ref a))) (hdg : decode cc pc = .ok (.aload_n k, 1)) (kk : Eg p l e R s m args below meth c Q ls D A (pc + 1) (.ref a :: stk) ws cells slots) : Eg p l e R s m args below meth c Q ls D A pc stk ws cells slots :=
  fun H locs hP hD hS => lv_aload_n C.1 C.2.1 hdg hi h0 (kk H locs hP hD hS)
theorem eg_iconst {n : Int} {v : Int32} (C : Cx ts own cc nL ret p s m args meth c D cA A) (hdg : decode cc pc = .ok (.iconst n, 1)) (hv : Int32.ofInt n = v) (kk : Eg p l e R s m args below meth c Q ls D A (pc + 1) (.int v :: stk) ws cells slots) : Eg p l e R s m args below meth c Q ls D A pc stk ws cells slots :=
  fun H locs hP hD hS => lv_iconst C.1 C.2.1 hdg hv (kk H locs hP hD hS)
theorem eg_bipush {n : Int} {v : Int32} (C : Cx ts own cc nL ret p s m args meth c D cA A) (hdg : decode cc pc = .ok (.bipush n, 2)) (hv : (Int8.ofInt n).toInt32 = v) (kk : Eg p l e R s m args below meth c Q ls D A (pc + 2) (.int v :: stk) ws cells slots) : Eg p l e R s m args below meth c Q ls D A pc stk ws cells slots :=
  fun H locs hP hD hS => lv_bipush C.1 C.2.1 hdg hv (kk H locs hP hD hS)
theorem eg_sipush {n : Int} {v : Int32} (C : Cx ts own cc nL ret p s m args meth c D cA A) (hdg : decode cc pc = .ok (.sipush n, 3)) (hv : (Int16.ofInt n).toInt32 = v) (kk : Eg p l e R s m args below meth c Q ls D A (pc + 3) (.int v :: stk) ws cells slots) : Eg p l e R s m args below meth c Q ls D A pc stk ws cells slots :=
  fun H locs hP hD hS => lv_sipush C.1 C.2.1 hdg hv (kk H locs hP hD hS)
theorem eg_dup {v : Value} (C : Cx ts own cc nL ret p s m args meth c D cA A) (hdg : decode cc pc = .ok (.dup, 1)) (hv : v.category = 1) (kk : Eg p l e R s m args below meth c Q ls D A (pc + 1) (v :: v :: stk) ws cells slots) : Eg p l e R s m args below meth c Q ls D A pc (v :: stk) ws cells slots :=
  fun H locs hP hD hS => lv_dup C.1 C.2.1 hdg hv (kk H locs hP hD hS)
theorem eg_obj {a idx : Nat} (C : Cx ts own cc nL ret p s m args meth c D cA A) (hls : ls.size = nL) (hw : Cond.methodLink own idx objectInit ∈ wsL_law) (hw2 : Cond.instanceMethod objectInit ∈ wsL_law) (hw3 : Cond.code objectInit ⟨#[0xb1]⟩ 1 none ∈ wsL_law) (hdg : decode cc pc = .ok (.invokespecial idx, 3)) (hf : 1 ≤ R.frames) (hl : 40 ≤ R.locals) (kk : Eg p l e R s m args below meth c Q ls D A (pc + 3) [] ws cells slots) : Eg p l e R s m args below meth c Q ls D A pc [.ref a] ws cells slots :=
  fun H locs hP hD hS => W.objInit C.1 C.2.1 C.2.2.2.2.1 (C.2.2.2.2.2.1 _ hw) (C.2.2.2.2.2.1 _ hw2) (C.2.2.2.2.2.1 _ hw3) rfl (hls.trans C.2.2.2.1.symm) rfl hdg hf (Nat.le_trans (show 12 ≤ 40 by omega) hl) (W.eq (g2 := F0 m (pc + 3) ls []) rfl (kk H locs hP hD hS))
theorem eg_newa {atype : ArrayType} {t N' : Nat} {ty : FieldType} {n : Int32} (C : Cx ts own cc nL ret p s m args meth c D cA A) (hw : Cond.arrayClass ty ∈ wsL_law) (hat : newarray.typeOf atype = ty) (ht : ts[t]? = some ty) (hdef : defaultValue ty = .int 0) (hn : ¬ n < 0) (hN : n.toNatClampNeg = N') (hb : N' * componentBytes ty ≤ 536870912) (hc : cells + 1 ≤ R.cells) (hs : slots + N' ≤ R.slots) (hdg : decode cc pc = .ok (.newarray atype, 2))
    (kk : ∀ q, Eg p l e R s m args below meth c Q ls D A (pc + 2) (.ref q :: stk) (ws ++ [(q, .inl (cA t, N', .inl (fun _ => 0)))]) (cells + 1) (slots + N')) : Eg p l e R s m args below meth c Q ls D A pc (.int n :: stk) ws cells slots := by
  intro H locs hP hD hS
  have hK := C.2.2.2.2.2.2.2.2
  refine va_newa C.1 C.2.1 (by rw [hat]; exact C.2.2.2.2.2.1 _ hw) hat hK hP hD hS C.2.2.2.2.2.2.2.1 (a0 := (N', .inl (fun _ => 0))) (fun c => by rw [vp_cell_i, hdef]) hn hN hb hc hs hdg (fun q c1 H1 hK1 hP1 hD1 hS1 => ?_)
  have e : c1 = cA t := RA_inj (hK1.2 (tyk cA ts).length _ (by rw [List.getElem?_append_right (Nat.le_refl _), Nat.sub_self]; rfl)).2 (hK.2 t _ (tyk_get ht)).2
  subst e
  exact kk q H1 locs hP1 hD1 hS1
theorem eg_putF {index ci k q0 a : Nat} {fs : List Value} {v : Value} {ty : FieldType} (C : Cx ts own cc nL ret p s m args meth c D cA A) (hin : meth.name = "<init>") (hF : FQ own index ci k ty) (he : ws[q0]? = some (a, .inr (ci, fs))) (hn : narrow ty v = v) (hf : fits ty v = true) (hl : k < fs.length) (hdg : decode cc pc = .ok (.putfield index, 3))
    (kk : Eg p l e R s m args below meth c Q ls D A (pc + 3) stk (ws.set q0 (a, .inr (ci, fs.set k v))) cells slots) : Eg p l e R s m args below meth c Q ls D A pc (v :: .ref a :: stk) ws cells slots := by
  intro H locs hP hD hS
  obtain ⟨C0, T, N, ref, ty0, h1, h2, h3, h4, h5, h6, h7, h8, h9, h10⟩ := hF
  have hts := C.2.2.2.2.2.1
  exact va_putF C.1 C.2.1 hts h4 ty0 h6 h7 C.2.2.2.2.1 C.2.2.2.2.2.2.2.2 hP hD hS q0 he h1 k h2 (hts _ h3) (fl_same hts h5) h8 hin h10 h9 hn hf hl hdg (fun H1 locs1 hP1 hD1 hS1 => kk H1 locs1 hP1 hD1 hS1)
theorem eg_put {index ci k q0 a : Nat} {fs : List Value} {v : Value} {ty : FieldType} (C : Cx ts own cc nL ret p s m args meth c D cA A) (hF : FP own index ci k ty) (he : ws[q0]? = some (a, .inr (ci, fs))) (hn : narrow ty v = v) (hf : fits ty v = true) (hl : k < fs.length) (hdg : decode cc pc = .ok (.putfield index, 3))
    (kk : Eg p l e R s m args below meth c Q ls D A (pc + 3) stk (ws.set q0 (a, .inr (ci, fs.set k v))) cells slots) : Eg p l e R s m args below meth c Q ls D A pc (v :: .ref a :: stk) ws cells slots := by
  intro H locs hP hD hS
  obtain ⟨C0, T, N, ref, ty0, h1, h2, h3, h4, h5, h6, h7, h8, h9⟩ := hF
  have hts := C.2.2.2.2.2.1
  exact va_put C.1 C.2.1 hts h4 ty0 h6 h7 C.2.2.2.2.1 C.2.2.2.2.2.2.2.2 hP hD hS q0 he h1 k h2 (hts _ h3) (fl_same hts h5) h8 h9 hn hf hl hdg (fun H1 locs1 hP1 hD1 hS1 => kk H1 locs1 hP1 hD1 hS1)
theorem eg_new {index ci N : Nat} {C0 : String} {T : u_T} {ty0 : Nat → FieldType} {fs : List Value} (C : Cx ts own cc nL ret p s m args meth c D cA A) (hc : vwCl[ci]? = some (C0, T, N)) (hws : ∀ w ∈ u_ws C0 T N, w ∈ wsL_law) (hty : ∀ k, k < N → parseFieldDescriptor (T k).2.2.1 = some (ty0 k)) (hw1 : Cond.classLink own index C0 ∈ wsL_law) (hw2 : Cond.instantiable C0 N ∈ wsL_law) (hw3 : Cond.initialized C0 ∈ wsL_law) (hfs : ∀ j, j < N → defaultValue (ty0 j) = vp_V fs j) (hcl : cells + 1 ≤ R.cells) (hsl : slots + N ≤ R.slots) (hdg : decode cc pc = .ok (.new index, 3))
    (kk : ∀ q, Eg p l e R s m args below meth c Q ls D A (pc + 3) (.ref q :: stk) (ws ++ [(q, .inr (ci, fs))]) (cells + 1) (slots + N)) : Eg p l e R s m args below meth c Q ls D A pc stk ws cells slots := by
  intro H locs hP hD hS
  have hts := C.2.2.2.2.2.1
  exact va_new C.1 C.2.1 hts hws ty0 hty C.2.2.2.2.1 (hts _ hw1) (hts _ hw2) (hts _ hw3) C.2.2.2.2.2.2.2.2 hP hD hS C.2.2.2.2.2.2.2.1 hc hfs hcl hsl hdg (fun q H1 hP1 hD1 hS1 => kk q H1 locs hP1 hD1 hS1)
theorem eg_newq {index t N' : Nat} {C0 : String} {n : Int32} (C : Cx ts own cc nL ret p s m args meth c D cA A) (hw1 : Cond.classLink own index C0 ∈ wsL_law) (hao : va_AO C0 s) (ht : ts[t]? = some (.object C0)) (hn : ¬ n < 0) (hN : n.toNatClampNeg = N') (hb : N' * 4 ≤ 536870912) (hcl : cells + 1 ≤ R.cells) (hsl : slots + N' ≤ R.slots) (hdg : decode cc pc = .ok (.anewarray index, 3))
    (kk : ∀ q, Eg p l e R s m args below meth c Q ls D A (pc + 3) (.ref q :: stk) (ws ++ [(q, .inl (cA t, N', .inr (.inr (.inr (.inr (fun _ => none))))))]) (cells + 1) (slots + N')) : Eg p l e R s m args below meth c Q ls D A pc (.int n :: stk) ws cells slots := by
  intro H locs hP hD hS
  have hts := C.2.2.2.2.2.1
  have hK := C.2.2.2.2.2.2.2.2
  refine va_newq C.1 C.2.1 C.2.2.2.2.1 (hts _ hw1) hao hK hP hD hS C.2.2.2.2.2.2.2.1 hn hN hb hcl hsl hdg (fun q c1 H1 hK1 hP1 hD1 hS1 => ?_)
  have e : c1 = cA t := RA_inj (hK1.2 (tyk cA ts).length _ (by rw [List.getElem?_append_right (Nat.le_refl _), Nat.sub_self]; rfl)).2 (hK.2 t _ (tyk_get ht)).2
  subst e
  exact kk q H1 locs hP1 hD1 hS1
theorem eg_ast {t q0 ci a n v : Nat} {r : vw_C} {vs : List Value} {f : Nat → Option Nat} {i : Int32} (C : Cx ts own cc nL ret p s m args meth c D cA A) (ha : ws[q0]? = some (a, .inl (cA t, n, .inr (.inr (.inr (.inr f)))))) (ht : ts[t]? = some (.object r.1)) (hv : (v, .inr (ci, vs)) ∈ ws) (hc : vwCl[ci]? = some r) (hin : vp_in i n) (hdg : decode cc pc = .ok (.aastore, 1))
    (kk : Eg p l e R s m args below meth c Q ls D A (pc + 1) stk (ws.set q0 (a, .inl (cA t, n, .inr (.inr (.inr (.inr (va_up f i.toNatClampNeg (some v)))))))) cells slots) : Eg p l e R s m args below meth c Q ls D A pc (.ref v :: .int i :: .ref a :: stk) ws cells slots := by
  intro H locs hP hD hS
  obtain ⟨qk, hqk⟩ := List.getElem?_of_mem hv
  exact va_astq C.1 C.2.1 C.2.2.2.2.2.2.2.2 hP hD hS q0 t qk ci ha (tyk_get ht) hqk hc hin hdg (fun H1 locs1 hP1 hD1 hS1 => kk H1 locs1 hP1 hD1 hS1)
theorem eg_astO {t q0 ci a n v : Nat} {E : String} {r : vw_C} {vs : List Value} {f : Nat → Option Nat} {i : Int32} (C : Cx ts own cc nL ret p s m args meth c D cA A) (ha : ws[q0]? = some (a, .inl (cA t, n, .inr (.inr (.inr (.inr f)))))) (ht : ts[t]? = some (.object E)) (hca : va_Nw (.castable r.1 E) s) (hv : (v, .inr (ci, vs)) ∈ ws) (hc : vwCl[ci]? = some r) (hin : vp_in i n) (hdg : decode cc pc = .ok (.aastore, 1))
    (kk : Eg p l e R s m args below meth c Q ls D A (pc + 1) stk (ws.set q0 (a, .inl (cA t, n, .inr (.inr (.inr (.inr (va_up f i.toNatClampNeg (some v)))))))) cells slots) : Eg p l e R s m args below meth c Q ls D A pc (.ref v :: .int i :: .ref a :: stk) ws cells slots := by
  intro H locs hP hD hS
  obtain ⟨qk, hqk⟩ := List.getElem?_of_mem hv
  exact va_astqO C.1 C.2.1 C.2.2.2.2.2.2.2.2 hP hD hS q0 t qk ci ha (tyk_get ht) hca hqk hc hin hdg (fun H1 locs1 hP1 hD1 hS1 => kk H1 locs1 hP1 hD1 hS1)
theorem eg_mna {index t N' K' : Nat} {n k : Int32} (C : Cx ts own cc nL ret p s m args meth c D cA A) (hw1 : Cond.classLink own index "[[I" ∈ wsL_law) (hw2 : Cond.arrayClass .int ∈ wsL_law) (hao : va_AOA .int s) (h0 : ts[0]? = some .int) (ht : ts[t]? = some (.array .int)) (hn : ¬ n < 0) (hk : ¬ k < 0) (hN : n.toNatClampNeg = N') (hM : k.toNatClampNeg = K') (hb1 : N' * 4 ≤ 536870912) (hb2 : K' * 4 ≤ 536870912) (hcl : cells + (1 + N') ≤ R.cells) (hsl : slots + (N' + N' * K') ≤ R.slots) (hdg : decode cc pc = .ok (.multianewarray index 2, 4))
    (kk : ∀ (q : Nat) (r : Nat → Nat), Eg p l e R s m args below meth c Q ls D A (pc + 4) (.ref q :: stk) ((ws ++ [(q, .inl (cA t, N', .inr (.inr (.inr (.inr (fun i => if i < N' then some (r i) else none))))))]) ++ ((List.range N').map r).map (fun a => (a, .inl (cA 0, K', .inl (fun _ => 0))))) (cells + 1 + N') (slots + N' + N' * K')) : Eg p l e R s m args below meth c Q ls D A pc (.int k :: .int n :: stk) ws cells slots := by
  intro H locs hP hD hS
  have hts := C.2.2.2.2.2.1
  have hK := C.2.2.2.2.2.2.2.2
  refine va_mna (X := ws) (L := []) (f := fun _ => .inr (0, [])) (ty := .int) (cy := cA 0) (z := (K', .inl (fun _ => 0))) C.1 C.2.1 C.2.2.2.2.1 (hts _ hw1) hao (hts _ hw2) (hK.2 0 _ (tyk_get h0)).2 hK (by rw [va_pl, List.map_nil, List.append_nil]; exact hP) (by rw [va_pl, List.map_nil, List.append_nil]; exact hD) hS C.2.2.2.2.2.2.2.1 hn hk hN hM hb1 hb2 (by omega) rfl rfl hcl hsl (fun c1 => ?_) hdg (fun q r c1 H1 hr1 hr2 hK1 hP1 hD1 hS1 => ?_)
  · show ({ cls := c1, slots := Array.replicate K' (.int 0), vm := .none } : Cell) = _
    rw [arrV_new]; rfl
  · have e : c1 = cA t := RA_inj (hK1.2 (tyk cA ts).length _ (by rw [List.getElem?_append_right (Nat.le_refl _), Nat.sub_self]; rfl)).2 (hK.2 t _ (tyk_get ht)).2
    subst e
    have e2 := vr_rows (L := []) (l := (List.range N').map r) (f := fun _ => (.inr (0, []) : va_E)) (e := .inl (cA 0, K', .inl (fun _ => 0))) (fun a _ h => by cases h)
    rw [← e2] at hP1 hD1
    exact kk q r H1 locs hP1 hD1 hS1
theorem eg_front {x : Nat × va_E} (kk : Eg p l e R s m args below meth c Q ls D A pc stk (x :: ws) cells slots) : Eg p l e R s m args below meth c Q ls D A pc stk (ws ++ [x]) cells slots := fun H locs hP hD hS => kk H locs (P_swap hP) (D_swap hD) hS
theorem eg_back {x : Nat × va_E} (kk : Eg p l e R s m args below meth c Q ls D A pc stk (ws ++ [x]) cells slots) : Eg p l e R s m args below meth c Q ls D A pc stk (x :: ws) cells slots := fun H locs hP hD hS => kk H locs (P_swap (a := [x]) hP) (D_swap (a := [x]) hD) hS
theorem eg_eq {ws' : va_W} (h : ws = ws') (kk : Eg p l e R s m args below meth c Q ls D A pc stk ws' cells slots) : Eg p l e R s m args below meth c Q ls D A pc stk ws cells slots := by rw [h]; exact kk
end EG
