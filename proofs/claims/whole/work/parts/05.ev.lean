/-! The judgement over which methods are walked: a fixed set of cells (a side: its shapes), a store of numbers. -/
abbrev St : Type := (Nat → Nat → Int32) × (Nat → Int64)
abbrev Sh : Type := List (Nat × Nat × List Nat)
/-- the row of cell c becomes g -/
def st_row (σ : St) (c : Nat) (g : Nat → Int32) : St := (fun c' => if c' = c then g else σ.1 c', σ.2)
/-- place i of cell c becomes x -/
def st_up (σ : St) (c i : Nat) (x : Int32) : St := st_row σ c (upd (σ.1 c) i x)
/-- the long of cell c becomes x -/
def st_lo (σ : St) (c : Nat) (x : Int64) : St := (σ.1, fun c' => if c' = c then x else σ.2 c')
/-- an abstract value at its addresses -/
def av (ad : Nat → Nat) : Value → Value
  | .ref c => .ref (ad c)
  | v => v
/-- a field's value, abstract: 0 a number, 1 a long, t + 2 the cell t -/
def fva (σ : St) (c k : Nat) : Nat → Value
  | 0 => .int (σ.1 c k)
  | 1 => .long (σ.2 c)
  | t + 2 => .ref t
def ce (ad : Nat → Nat) (cA : Nat → ClassId) (σ : St) (c : Nat) (q : Nat × Nat × List Nat) : va_E :=
  if q.1 < 20 then .inr (q.1, q.2.2.zipIdx.map (fun r => av ad (fva σ c r.2 r.1)))
  else match q.2.2 with
    | [] => .inl (cA (q.1 - 20), q.2.1, .inl (σ.1 c))
    | b :: _ => .inl (cA (q.1 - 20), q.2.1, .inr (.inr (.inr (.inr (fun j => some (ad (b + j)))))))
def wd (sh : Sh) (ad : Nat → Nat) (cA : Nat → ClassId) (σ : St) : va_W := (List.range sh.length).map (fun c => (ad c, ce ad cA σ c (sh.getD c (0, 0, []))))
def tyk (cA : Nat → ClassId) (ts : List FieldType) : List (ClassId × FieldType) := ts.zipIdx.map (fun q => (cA q.2, q.1))
theorem tyk_get {cA : Nat → ClassId} {ts : List FieldType} {t : Nat} {ty : FieldType} (h : ts[t]? = some ty) : (tyk cA ts)[t]? = some (cA t, ty) := by
  simp [tyk, List.getElem?_zipIdx, h]
theorem wd_get {sh : Sh} {ad : Nat → Nat} {cA : Nat → ClassId} {σ : St} {c : Nat} {q : Nat × Nat × List Nat} (h : sh[c]? = some q) : (wd sh ad cA σ)[c]? = some (ad c, ce ad cA σ c q) := by
  have hl : c < sh.length := (List.getElem?_eq_some_iff.mp h).1
  have hg : sh.getD c (0, 0, []) = q := by rw [List.getD_eq_getElem?_getD, h]; rfl
  unfold wd
  rw [List.getElem?_map, List.getElem?_range hl]
  simp only [Option.map_some, hg]
theorem ce_congr {ad : Nat → Nat} {cA : Nat → ClassId} {σ τ : St} {c : Nat} (h1 : τ.1 c = σ.1 c) (h2 : τ.2 c = σ.2 c) (q : Nat × Nat × List Nat) : ce ad cA τ c q = ce ad cA σ c q := by
  have hf : ∀ k d, fva τ c k d = fva σ c k d := fun k d => by
    match d with
    | 0 => simp [fva, h1]
    | 1 => simp [fva, h2]
    | t + 2 => rfl
  unfold ce
  simp only [h1, hf]
theorem wd_set {sh : Sh} {ad : Nat → Nat} {cA : Nat → ClassId} {σ τ : St} {c : Nat} {q : Nat × Nat × List Nat} {x : va_E} (h : sh[c]? = some q) (hx : x = ce ad cA τ c q) (hσ : ∀ c', c' ≠ c → τ.1 c' = σ.1 c' ∧ τ.2 c' = σ.2 c') : (wd sh ad cA σ).set c (ad c, x) = wd sh ad cA τ := by
  have hl : c < sh.length := (List.getElem?_eq_some_iff.mp h).1
  have hg : sh.getD c (0, 0, []) = q := by rw [List.getD_eq_getElem?_getD, h]; rfl
  apply List.ext_getElem?
  intro i
  by_cases hi : i = c
  · subst hi
    rw [List.getElem?_set_self (by simp [wd]; exact hl), wd_get h, hx]
  · rw [List.getElem?_set_ne (fun q => hi q.symm)]
    unfold wd
    rw [List.getElem?_map, List.getElem?_map]
    by_cases hi2 : i < sh.length
    · rw [List.getElem?_range hi2]
      simp only [Option.map_some, ce_congr (hσ i hi).1 (hσ i hi).2]
    · rw [List.getElem?_eq_none (by rw [List.length_range]; omega)]
      rfl
/-- what the locals hold, by their places; none: nothing is known -/
def lh (ad : Nat → Nat) (ls : Array Slot) (nL : Nat) (L : List (Option Value)) : Prop := ls.size = nL ∧ lv_wf ls ∧ ∀ (i : Nat) (v : Value), L[i]? = some (some v) → ls[i]? = some (.val (av ad v))


theorem av_int (ad : Nat → Nat) (x : Int32) : av ad (.int x) = .int x := rfl
theorem av_cat (ad : Nat → Nat) (v : Value) : (av ad v).category = v.category := by cases v <;> rfl
theorem av_cats (ad : Nat → Nat) (l : List Value) : ((l.map (av ad)).map fun v => v.category) = l.map fun v => v.category := by
  induction l with
  | nil => rfl
  | cons v t ih => simp only [List.map_cons, av_cat, ih]
/-- the pairs that the kit's rows speak of -/
def prs (ad : Nat → Nat) (L : List (Option Value)) : List (Nat × Value) := (L.zipIdx.filterMap (fun q => q.1.map (fun v => (q.2, av ad v))))
theorem prs_mem {ad : Nat → Nat} {L : List (Option Value)} {q : Nat × Value} : q ∈ prs ad L ↔ ∃ v, L[q.1]? = some (some v) ∧ q.2 = av ad v := by
  unfold prs
  rw [List.mem_filterMap]
  constructor
  · rintro ⟨⟨o, i⟩, h1, h2⟩
    rw [List.mem_zipIdx_iff_getElem?] at h1
    cases o with
    | none => simp at h2
    | some v =>
      simp only [Option.map_some, Option.some.injEq] at h2
      subst h2
      exact ⟨v, h1, rfl⟩
  · rintro ⟨v, h1, h2⟩
    refine ⟨(some v, q.1), ?_, ?_⟩
    · rw [List.mem_zipIdx_iff_getElem?]; exact h1
    · obtain ⟨a, b⟩ := q
      simp only at h2
      subst h2
      rfl
theorem lh_has {ad : Nat → Nat} {ls : Array Slot} {nL : Nat} {L : List (Option Value)} (h : lh ad ls nL L) : lv_has ls nL (prs ad L) := ⟨h.1, h.2.1, fun q hq => by
  obtain ⟨v, h1, h2⟩ := prs_mem.mp hq
  rw [h2]
  exact h.2.2 _ _ h1⟩
/-- no long lies just ahead of place i -/
def okst (L : List (Option Value)) : Nat → Bool
  | 0 => true
  | i + 1 => match L[i]? with
    | some (some (.long _)) => false
    | some (some (.double _)) => false
    | _ => true
theorem lh_store {ad : Nat → Nat} {ls : Array Slot} {nL : Nat} {L : List (Option Value)} {i : Nat} {v : Value} (hok : okst L i = true)
    (h : lv_has ls nL ((i, av ad v) :: (prs ad L).filter (fun q => !(q.1 == i) && !(q.1 + 1 == i && q.2.category == 2)))) : lh ad ls nL (L.set i (some v)) := by
  refine ⟨h.1, h.2.1, fun j w hj => ?_⟩
  by_cases e : j = i
  · subst e
    have hl : j < L.length := by
      have := (List.getElem?_eq_some_iff.mp hj).1
      rwa [List.length_set] at this
    rw [List.getElem?_set_self hl] at hj
    have := h.2.2 (j, av ad v) List.mem_cons_self
    cases hj
    exact this
  · rw [List.getElem?_set_ne (fun q => e q.symm)] at hj
    refine h.2.2 (j, av ad w) (List.mem_cons_of_mem _ (List.mem_filter.mpr ⟨prs_mem.mpr ⟨w, hj, rfl⟩, ?_⟩))
    simp only [av_cat, Bool.and_eq_true, Bool.not_eq_true', beq_eq_false_iff_ne, ne_eq, e, not_false_eq_true, true_and, Bool.and_eq_false_iff]
    by_cases e2 : j + 1 = i
    · subst e2
      right
      cases w <;> first | (intro q; cases q; done) | (simp [okst, hj] at hok; done)
    · left; exact e2
theorem lh_mask {ad : Nat → Nat} {ls : Array Slot} {nL : Nat} {L : List (Option Value)} (h : lh ad ls nL L) (mk : List Bool) : lh ad ls nL (List.zipWith (fun (b : Bool) v => if b then v else none) mk L) := by
  refine ⟨h.1, h.2.1, fun i v hi => h.2.2 i v ?_⟩
  rw [List.getElem?_zipWith] at hi
  cases hm : mk[i]? with
  | none => rw [hm] at hi; simp at hi
  | some b =>
    cases hL : L[i]? with
    | none => rw [hm, hL] at hi; simp at hi
    | some o =>
      rw [hm, hL] at hi
      cases b <;> simp_all
/-- a method's own facts, fixed while it is walked -/
def Cx (ts : List FieldType) (own : String) (cc : ByteArray) (nL : Nat) (ret : Option FieldType) (p : Program) (s : State) (m : MethodId) (args : Array Value) (meth : Method) (c : Code) (D : va_G) (cA : Nat → ClassId) (A : Nat → Prop) : Prop :=
  p.tables.exec = Jvm.exec ∧ c.code = cc ∧ meth.sig.returnType = ret ∧ c.maxLocals = nL ∧ s.vm.findClass own = some m.cls ∧ (∀ w ∈ wsL_law, w.before args s = true) ∧ meth.locks = false ∧ (∀ q : Nat, s.heap.size ≤ q → A q) ∧ va_K D vwCl (tyk cA ts) s
abbrev Sd : Type := Sh × List FieldType
abbrev End : Type := (Nat → Nat) → va_G → (Nat → ClassId) → (Nat → Prop) → Array Value → State → Outcome → State → Prop
abbrev rmd (d : Nat) : Room := { frames := d, cells := 0, slots := 0, locals := 40 * d }
/-- from this point of the method, with this store, the machine comes to the method's end as E says -/
def Ev (sd : Sd) (own : String) (cc : ByteArray) (nL : Nat) (ret : Option FieldType) (d : Nat) (E : End) (pc : Nat) (L : List (Option Value)) (stk : List Value) (σ : St) : Prop :=
  ∀ (p : Program) (l : Launch) (e : Env) (s : State) (m : MethodId) (args : Array Value) (below : List Frame) (meth : Method) (c : Code) (ad : Nat → Nat) (D : va_G) (cA : Nat → ClassId) (A : Nat → Prop) (H : Heap) (locs : List Loc) (ls : Array Slot),
    Cx sd.2 own cc nL ret p s m args meth c D cA A → va_P D vwCl (wd sd.1 ad cA σ) H → va_D A (wd sd.1 ad cA σ) → va_S A s.heap H locs → lh ad ls nL L →
    W p l e (rmd d) s m args below meth c H locs 0 0 (MQ below (E ad D cA A) args s 0 0 A) (F0 m pc ls (stk.map (av ad)))
abbrev Wor (sd : Sd) (ad : Nat → Nat) (D : va_G) (cA : Nat → ClassId) (A : Nat → Prop) (u : St) (t : State) : Prop := va_P D vwCl (wd sd.1 ad cA u) t.heap ∧ va_K D vwCl (tyk cA sd.2) t ∧ va_D A (wd sd.1 ad cA u)
def EQi (sd : Sd) (post : Int32 → St → Prop) : End := fun ad D cA A => va_Qi post (Wor sd ad D cA A) A
def EQl (sd : Sd) (post : Int64 → St → Prop) : End := fun ad D cA A => va_Ql post (Wor sd ad D cA A) A
def EQv (sd : Sd) (post : St → Prop) : End := fun ad D cA A => va_Qv post (Wor sd ad D cA A) A
/-- a method's contract -/
def Ct (sd : Sd) (y : MethodName) (cc : ByteArray) (nL : Nat) (ret : Option FieldType) (d : Nat) (E : End) (avs : List Value) (σ : St) : Prop :=
  ∀ (l : Launch) (ad : Nat → Nat) (D : va_G) (cA : Nat → ClassId) (sz : Nat),
    Met l y (.code y cc nL ret :: wsL_law) (rmd d) (va_Pc (avs.map (av ad)) (fun U => U.heap.size = sz ∧ va_P D vwCl (wd sd.1 ad cA σ) U.heap ∧ va_K D vwCl (tyk cA sd.2) U ∧ va_D (fun _ => True) (wd sd.1 ad cA σ)))
      (E ad D cA (va_A (wd sd.1 ad cA σ) sz)) 0 0 (va_A (wd sd.1 ad cA σ) sz)
def entL (avs : List Value) (nL : Nat) : List (Option Value) := avs.map some ++ List.replicate (nL - avs.length) none
theorem args_at {vs : List Value} (h : ∀ v ∈ vs, v.category = 1) : ∀ (k i : Nat) (v : Value), vs[i]? = some v → (k + i, v) ∈ lv_args k vs := by
  induction vs with
  | nil => intro k i v hv; simp at hv
  | cons w t ih =>
    intro k i v hv
    have hw : w.category = 1 := h w List.mem_cons_self
    have e : lv_args k (w :: t) = (k, w) :: lv_args (k + 1) t := by simp [lv_args, hw]
    rw [e]
    cases i with
    | zero => simp at hv; subst hv; exact List.mem_cons_self
    | succ i =>
      have := ih (fun v hv => h v (List.mem_cons_of_mem _ hv)) (k + 1) i v (by simpa using hv)
      rw [show k + (i + 1) = k + 1 + i by omega]
      exact List.mem_cons_of_mem _ this
theorem sl_len {vs : List Value} (h : ∀ v ∈ vs, v.category = 1) : (lg_sl vs).length = vs.length := by
  induction vs with
  | nil => rfl
  | cons w t ih =>
    have hw : w.category = 1 := h w List.mem_cons_self
    have := ih (fun v hv => h v (List.mem_cons_of_mem _ hv))
    simp only [lg_sl, List.flatMap_cons] at this ⊢
    rw [List.length_append, this]
    simp [hw]; omega
/-- a walk from the entry gives the contract -/
theorem ct_of {sd : Sd} {y : MethodName} {cc : ByteArray} {nL : Nat} {ret : Option FieldType} {d : Nat} {E : End} {avs : List Value} {σ : St} (hy : plainName y.cls = true) (hc : (avs.all fun v => v.category == 1) = true) (hn : avs.length ≤ nL)
    (h : Ev sd y.cls cc nL ret d E 0 (entL avs nL) [] σ) : Ct sd y cc nL ret d E avs σ := by
  intro l ad D cA sz
  refine Met.ofW (cc := cc) (maxL := nL) (ret := ret) hy rfl ?_
  intro p e s m args below meth c s₁ B hml hv
  obtain ⟨rfl, hsz, hP, hK, hD0⟩ := hv
  have hts := atoms_spec (ws := .code y cc nL ret :: wsL_law) B.pre
  have hown : s.vm.findClass y.cls = some m.cls := findClass_of_methodNamed B.named
  subst hsz
  have hcat : ∀ v ∈ avs.map (av ad), v.category = 1 := fun v hv => by
    obtain ⟨w, hw, rfl⟩ := List.mem_map.mp hv
    rw [av_cat]
    simpa using List.all_eq_true.mp hc w hw
  have hl := lv_entry (avs.map (av ad)) (n := nL) (by rw [sl_len hcat, List.length_map]; exact hn)
  rw [lg_entry_eq]
  refine h p l e s m _ below meth c ad D cA _ _ _ _ ⟨B.exec, B.bytes, B.returns, hml, hown, fun w hw => hts w (List.mem_cons_of_mem _ hw), B.notSynchronized, fun q h => Or.inr h, hK⟩ hP (hD0.self (sz := s.heap.size)) va_S.rf ?_
  refine ⟨hl.1, hl.2.1, fun i v hi => ?_⟩
  have hi2 : (avs.map (av ad))[i]? = some (av ad v) := by
    unfold entL at hi
    by_cases h1 : i < avs.length
    · rw [List.getElem?_append_left (by simpa using h1), List.getElem?_map] at hi
      rw [List.getElem?_map]
      cases hq : avs[i]? with
      | none => rw [hq] at hi; simp at hi
      | some w => rw [hq] at hi; simp at hi; subst hi; rfl
    · rw [List.getElem?_append_right (by simpa using h1)] at hi
      rw [List.getElem?_replicate] at hi
      split at hi <;> simp at hi
  have := hl.2.2 (i, av ad v) (by have := args_at hcat 0 i _ hi2; simpa using this)
  exact this

section EV
variable {sd : Sd} {own : String} {cc : ByteArray} {nL : Nat} {ret : Option FieldType} {d : Nat} {E : End} {pc : Nat} {L : List (Option Value)} {stk : List Value} {σ : St}
theorem ev_iconst {n : Int} {v : Int32} (hdg : decode cc pc = .ok (.iconst n, 1)) (hv : Int32.ofInt n = v) (k : Ev sd own cc nL ret d E (pc + 1) L (.int v :: stk) σ) : Ev sd own cc nL ret d E pc L (stk) σ := by
  intro p l e s m args below meth c ad D cA A H locs ls C hP hD hS hl
  exact lv_iconst C.1 C.2.1 hdg hv (k p l e s m args below meth c ad D cA A H locs ls C hP hD hS hl)
theorem ev_bipush {n : Int} {v : Int32} (hdg : decode cc pc = .ok (.bipush n, 2)) (hv : (Int8.ofInt n).toInt32 = v) (k : Ev sd own cc nL ret d E (pc + 2) L (.int v :: stk) σ) : Ev sd own cc nL ret d E pc L (stk) σ := by
  intro p l e s m args below meth c ad D cA A H locs ls C hP hD hS hl
  exact lv_bipush C.1 C.2.1 hdg hv (k p l e s m args below meth c ad D cA A H locs ls C hP hD hS hl)
theorem ev_sipush {n : Int} {v : Int32} (hdg : decode cc pc = .ok (.sipush n, 3)) (hv : (Int16.ofInt n).toInt32 = v) (k : Ev sd own cc nL ret d E (pc + 3) L (.int v :: stk) σ) : Ev sd own cc nL ret d E pc L (stk) σ := by
  intro p l e s m args below meth c ad D cA A H locs ls C hP hD hS hl
  exact lv_sipush C.1 C.2.1 hdg hv (k p l e s m args below meth c ad D cA A H locs ls C hP hD hS hl)
theorem ev_lconst {n : Fin 2} {v : Int64} (hdg : decode cc pc = .ok (.lconst n, 1)) (hv : Int64.ofNat (n : Nat) = v) (k : Ev sd own cc nL ret d E (pc + 1) L (.long v :: stk) σ) : Ev sd own cc nL ret d E pc L (stk) σ := by
  intro p l e s m args below meth c ad D cA A H locs ls C hP hD hS hl
  exact lv_lconst C.1 C.2.1 hdg hv (k p l e s m args below meth c ad D cA A H locs ls C hP hD hS hl)
theorem ev_ldc {index : Nat} {v : Int32} (hw : Cond.constant own index v ∈ wsL_law) (hdg : decode cc pc = .ok (.ldc index, 2)) (k : Ev sd own cc nL ret d E (pc + 2) L (.int v :: stk) σ) : Ev sd own cc nL ret d E pc L (stk) σ := by
  intro p l e s m args below meth c ad D cA A H locs ls C hP hD hS hl
  exact lv_ldc C.1 C.2.1 C.2.2.2.2.1 (C.2.2.2.2.2.1 _ hw) hdg (k p l e s m args below meth c ad D cA A H locs ls C hP hD hS hl)
theorem ev_ldcw {index : Nat} {v : Int32} (hw : Cond.constant own index v ∈ wsL_law) (hdg : decode cc pc = .ok (.ldc_w index, 3)) (k : Ev sd own cc nL ret d E (pc + 3) L (.int v :: stk) σ) : Ev sd own cc nL ret d E pc L (stk) σ := by
  intro p l e s m args below meth c ad D cA A H locs ls C hP hD hS hl
  exact lv_ldcw C.1 C.2.1 C.2.2.2.2.1 (C.2.2.2.2.2.1 _ hw) hdg (k p l e s m args below meth c ad D cA A H locs ls C hP hD hS hl)
theorem ev_ldc2 {index : Nat} {v : Int64} (hw : Cond.constantLong own index v ∈ wsL_law) (hdg : decode cc pc = .ok (.ldc2_w index, 3)) (k : Ev sd own cc nL ret d E (pc + 3) L (.long v :: stk) σ) : Ev sd own cc nL ret d E pc L (stk) σ := by
  intro p l e s m args below meth c ad D cA A H locs ls C hP hD hS hl
  exact lv_ldc2 C.1 C.2.1 C.2.2.2.2.1 (C.2.2.2.2.2.1 _ hw) hdg (k p l e s m args below meth c ad D cA A H locs ls C hP hD hS hl)
theorem ev_iload_n {n : Fin 4} {i : Nat} {x : Int32} (hdg : decode cc pc = .ok (.iload_n n, 1)) (hn : (n : Nat) = i) (hi : L[i]? = some (some (.int x))) (k : Ev sd own cc nL ret d E (pc + 1) L (.int x :: stk) σ) : Ev sd own cc nL ret d E pc L (stk) σ := by
  intro p l e s m args below meth c ad D cA A H locs ls C hP hD hS hl
  exact lv_iload_n C.1 C.2.1 hdg hn (hl.2.2 i _ hi) (k p l e s m args below meth c ad D cA A H locs ls C hP hD hS hl)
theorem ev_iload {i : Nat} {x : Int32} (hdg : decode cc pc = .ok (.iload i, 2)) (hi : L[i]? = some (some (.int x))) (k : Ev sd own cc nL ret d E (pc + 2) L (.int x :: stk) σ) : Ev sd own cc nL ret d E pc L (stk) σ := by
  intro p l e s m args below meth c ad D cA A H locs ls C hP hD hS hl
  exact lv_iload C.1 C.2.1 hdg (hl.2.2 i _ hi) (k p l e s m args below meth c ad D cA A H locs ls C hP hD hS hl)
theorem ev_lload_n {n : Fin 4} {i : Nat} {x : Int64} (hdg : decode cc pc = .ok (.lload_n n, 1)) (hn : (n : Nat) = i) (hi : L[i]? = some (some (.long x))) (k : Ev sd own cc nL ret d E (pc + 1) L (.long x :: stk) σ) : Ev sd own cc nL ret d E pc L (stk) σ := by
  intro p l e s m args below meth c ad D cA A H locs ls C hP hD hS hl
  exact lv_lload_n C.1 C.2.1 hdg hn (hl.2.2 i _ hi) (k p l e s m args below meth c ad D cA A H locs ls C hP hD hS hl)
theorem ev_lload {i : Nat} {x : Int64} (hdg : decode cc pc = .ok (.lload i, 2)) (hi : L[i]? = some (some (.long x))) (k : Ev sd own cc nL ret d E (pc + 2) L (.long x :: stk) σ) : Ev sd own cc nL ret d E pc L (stk) σ := by
  intro p l e s m args below meth c ad D cA A H locs ls C hP hD hS hl
  exact lv_lload C.1 C.2.1 hdg (hl.2.2 i _ hi) (k p l e s m args below meth c ad D cA A H locs ls C hP hD hS hl)
theorem ev_aload_n {n : Fin 4} {i : Nat} {x : Nat} (hdg : decode cc pc = .ok (.aload_n n, 1)) (hn : (n : Nat) = i) (hi : L[i]? = some (some (.ref x))) (k : Ev sd own cc nL ret d E (pc + 1) L (.ref x :: stk) σ) : Ev sd own cc nL ret d E pc L (stk) σ := by
  intro p l e s m args below meth c ad D cA A H locs ls C hP hD hS hl
  exact lv_aload_n C.1 C.2.1 hdg hn (hl.2.2 i _ hi) (k p l e s m args below meth c ad D cA A H locs ls C hP hD hS hl)
theorem ev_aload {i : Nat} {x : Nat} (hdg : decode cc pc = .ok (.aload i, 2)) (hi : L[i]? = some (some (.ref x))) (k : Ev sd own cc nL ret d E (pc + 2) L (.ref x :: stk) σ) : Ev sd own cc nL ret d E pc L (stk) σ := by
  intro p l e s m args below meth c ad D cA A H locs ls C hP hD hS hl
  exact lv_aload C.1 C.2.1 hdg (hl.2.2 i _ hi) (k p l e s m args below meth c ad D cA A H locs ls C hP hD hS hl)
theorem ev_istore_n {n : Fin 4} {i : Nat} {x : Int32} {L' : List (Option Value)} (hdg : decode cc pc = .ok (.istore_n n, 1)) (hn : (n : Nat) = i) (hi : i < nL) (hok : okst L i = true) (hL : L.set i (some (.int x)) = L') (k : Ev sd own cc nL ret d E (pc + 1) L' (stk) σ) : Ev sd own cc nL ret d E pc L (.int x :: stk) σ := by
  intro p l e s m args below meth c ad D cA A H locs ls C hP hD hS hl
  subst hL
  exact lv_istore_n C.1 C.2.1 hdg hn (lh_has hl) hi rfl (fun ls' hl' => k p l e s m args below meth c ad D cA A H locs ls' C hP hD hS (lh_store (v := .int x) hok hl'))
theorem ev_istore {i : Nat} {x : Int32} {L' : List (Option Value)} (hdg : decode cc pc = .ok (.istore i, 2)) (hi : i < nL) (hok : okst L i = true) (hL : L.set i (some (.int x)) = L') (k : Ev sd own cc nL ret d E (pc + 2) L' (stk) σ) : Ev sd own cc nL ret d E pc L (.int x :: stk) σ := by
  intro p l e s m args below meth c ad D cA A H locs ls C hP hD hS hl
  subst hL
  exact lv_istore C.1 C.2.1 hdg (lh_has hl) hi rfl (fun ls' hl' => k p l e s m args below meth c ad D cA A H locs ls' C hP hD hS (lh_store (v := .int x) hok hl'))
theorem ev_astore_n {n : Fin 4} {i : Nat} {x : Nat} {L' : List (Option Value)} (hdg : decode cc pc = .ok (.astore_n n, 1)) (hn : (n : Nat) = i) (hi : i < nL) (hok : okst L i = true) (hL : L.set i (some (.ref x)) = L') (k : Ev sd own cc nL ret d E (pc + 1) L' (stk) σ) : Ev sd own cc nL ret d E pc L (.ref x :: stk) σ := by
  intro p l e s m args below meth c ad D cA A H locs ls C hP hD hS hl
  subst hL
  exact lv_astore_n C.1 C.2.1 hdg hn (lh_has hl) hi rfl (fun ls' hl' => k p l e s m args below meth c ad D cA A H locs ls' C hP hD hS (lh_store (v := .ref x) hok hl'))
theorem ev_astore {i : Nat} {x : Nat} {L' : List (Option Value)} (hdg : decode cc pc = .ok (.astore i, 2)) (hi : i < nL) (hok : okst L i = true) (hL : L.set i (some (.ref x)) = L') (k : Ev sd own cc nL ret d E (pc + 2) L' (stk) σ) : Ev sd own cc nL ret d E pc L (.ref x :: stk) σ := by
  intro p l e s m args below meth c ad D cA A H locs ls C hP hD hS hl
  subst hL
  exact lv_astore C.1 C.2.1 hdg (lh_has hl) hi rfl (fun ls' hl' => k p l e s m args below meth c ad D cA A H locs ls' C hP hD hS (lh_store (v := .ref x) hok hl'))
theorem lh_store2 {ad : Nat → Nat} {ls : Array Slot} {nL : Nat} {L : List (Option Value)} {i : Nat} {x : Int64} (hok : okst L i = true)
    (h : lv_has ls nL ((i, Value.long x) :: (prs ad L).filter (fun q => !(q.1 == i) && (!(q.1 == i + 1) && !(q.1 + 1 == i && q.2.category == 2))))) : lh ad ls nL ((L.set i (some (.long x))).set (i + 1) none) := by
  refine ⟨h.1, h.2.1, fun j w hj => ?_⟩
  by_cases e1 : j = i + 1
  · subst e1
    by_cases hl : i + 1 < (L.set i (some (Value.long x))).length
    · rw [List.getElem?_set_self hl] at hj; cases hj
    · rw [List.getElem?_eq_none (by rw [List.length_set]; omega)] at hj; cases hj
  rw [List.getElem?_set_ne (fun q => e1 q.symm)] at hj
  by_cases e : j = i
  · subst e
    have hl : j < L.length := by
      have := (List.getElem?_eq_some_iff.mp hj).1
      rwa [List.length_set] at this
    rw [List.getElem?_set_self hl] at hj
    have := h.2.2 (j, Value.long x) List.mem_cons_self
    cases hj
    exact this
  · rw [List.getElem?_set_ne (fun q => e q.symm)] at hj
    refine h.2.2 (j, av ad w) (List.mem_cons_of_mem _ (List.mem_filter.mpr ⟨prs_mem.mpr ⟨w, hj, rfl⟩, ?_⟩))
    simp only [av_cat, Bool.and_eq_true, Bool.not_eq_true', beq_eq_false_iff_ne, ne_eq, e, e1, not_false_eq_true, true_and, Bool.and_eq_false_iff]
    by_cases e2 : j + 1 = i
    · subst e2
      right
      cases w <;> first | (intro q; cases q; done) | (simp [okst, hj] at hok; done)
    · left; exact e2
theorem ev_lstore_n {n : Fin 4} {i : Nat} {x : Int64} {L' : List (Option Value)} (hdg : decode cc pc = .ok (.lstore_n n, 1)) (hn : (n : Nat) = i) (hi : i + 1 < nL) (hok : okst L i = true) (hL : (L.set i (some (.long x))).set (i + 1) none = L') (k : Ev sd own cc nL ret d E (pc + 1) L' (stk) σ) : Ev sd own cc nL ret d E pc L (.long x :: stk) σ := by
  intro p l e s m args below meth c ad D cA A H locs ls C hP hD hS hl
  subst hL
  exact lv_lstore_n C.1 C.2.1 hdg hn (lh_has hl) hi rfl (fun ls' hl' => k p l e s m args below meth c ad D cA A H locs ls' C hP hD hS (lh_store2 hok hl'))
theorem ev_iinc {i : Nat} {n : Int} {x v : Int32} {L' : List (Option Value)} (hdg : decode cc pc = .ok (.iinc i n, 3)) (hx : L[i]? = some (some (.int x))) (hv : x + Int32.ofInt n = v) (hi : i < nL) (hok : okst L i = true) (hL : L.set i (some (.int v)) = L') (k : Ev sd own cc nL ret d E (pc + 3) L' (stk) σ) : Ev sd own cc nL ret d E pc L (stk) σ := by
  intro p l e s m args below meth c ad D cA A H locs ls C hP hD hS hl
  subst hL
  obtain ⟨kq, hkq⟩ := List.getElem?_of_mem (a := (i, av ad (.int x))) (l := prs ad L) (prs_mem.mpr ⟨.int x, hx, rfl⟩)
  exact lv_iinc (v := v) C.1 C.2.1 hdg (lh_has hl) hkq hv hi rfl (fun ls' hl' => k p l e s m args below meth c ad D cA A H locs ls' C hP hD hS (lh_store (v := .int v) hok hl'))
theorem ev_iadd {x y : Int32} (hdg : decode cc pc = .ok (.iadd, 1)) (k : Ev sd own cc nL ret d E (pc + 1) L (.int (x + y) :: stk) σ) : Ev sd own cc nL ret d E pc L (.int y :: .int x :: stk) σ := by
  intro p l e s m args below meth c ad D cA A H locs ls C hP hD hS hl
  exact lv_iadd C.1 C.2.1 hdg (k p l e s m args below meth c ad D cA A H locs ls C hP hD hS hl)
theorem ev_isub {x y : Int32} (hdg : decode cc pc = .ok (.isub, 1)) (k : Ev sd own cc nL ret d E (pc + 1) L (.int (x - y) :: stk) σ) : Ev sd own cc nL ret d E pc L (.int y :: .int x :: stk) σ := by
  intro p l e s m args below meth c ad D cA A H locs ls C hP hD hS hl
  exact lv_isub C.1 C.2.1 hdg (k p l e s m args below meth c ad D cA A H locs ls C hP hD hS hl)
theorem ev_imul {x y : Int32} (hdg : decode cc pc = .ok (.imul, 1)) (k : Ev sd own cc nL ret d E (pc + 1) L (.int (x * y) :: stk) σ) : Ev sd own cc nL ret d E pc L (.int y :: .int x :: stk) σ := by
  intro p l e s m args below meth c ad D cA A H locs ls C hP hD hS hl
  exact lv_imul C.1 C.2.1 hdg (k p l e s m args below meth c ad D cA A H locs ls C hP hD hS hl)
theorem ev_iand {x y : Int32} (hdg : decode cc pc = .ok (.iand, 1)) (k : Ev sd own cc nL ret d E (pc + 1) L (.int (x &&& y) :: stk) σ) : Ev sd own cc nL ret d E pc L (.int y :: .int x :: stk) σ := by
  intro p l e s m args below meth c ad D cA A H locs ls C hP hD hS hl
  exact lv_iand C.1 C.2.1 hdg (k p l e s m args below meth c ad D cA A H locs ls C hP hD hS hl)
theorem ev_ior {x y : Int32} (hdg : decode cc pc = .ok (.ior, 1)) (k : Ev sd own cc nL ret d E (pc + 1) L (.int (x ||| y) :: stk) σ) : Ev sd own cc nL ret d E pc L (.int y :: .int x :: stk) σ := by
  intro p l e s m args below meth c ad D cA A H locs ls C hP hD hS hl
  exact lv_ior C.1 C.2.1 hdg (k p l e s m args below meth c ad D cA A H locs ls C hP hD hS hl)
theorem ev_ishl {x y : Int32} (hdg : decode cc pc = .ok (.ishl, 1)) (k : Ev sd own cc nL ret d E (pc + 1) L (.int (x <<< (y &&& 31)) :: stk) σ) : Ev sd own cc nL ret d E pc L (.int y :: .int x :: stk) σ := by
  intro p l e s m args below meth c ad D cA A H locs ls C hP hD hS hl
  exact lv_ishl C.1 C.2.1 hdg (k p l e s m args below meth c ad D cA A H locs ls C hP hD hS hl)
theorem ev_ishr {x y : Int32} (hdg : decode cc pc = .ok (.ishr, 1)) (k : Ev sd own cc nL ret d E (pc + 1) L (.int (x >>> (y &&& 31)) :: stk) σ) : Ev sd own cc nL ret d E pc L (.int y :: .int x :: stk) σ := by
  intro p l e s m args below meth c ad D cA A H locs ls C hP hD hS hl
  exact lv_ishr C.1 C.2.1 hdg (k p l e s m args below meth c ad D cA A H locs ls C hP hD hS hl)
theorem ev_idiv {x y : Int32} (hdg : decode cc pc = .ok (.idiv, 1)) (hne : ¬ y = 0) (k : Ev sd own cc nL ret d E (pc + 1) L (.int (x / y) :: stk) σ) : Ev sd own cc nL ret d E pc L (.int y :: .int x :: stk) σ := by
  intro p l e s m args below meth c ad D cA A H locs ls C hP hD hS hl
  exact lv_idiv C.1 C.2.1 hdg hne (k p l e s m args below meth c ad D cA A H locs ls C hP hD hS hl)
theorem ev_irem {x y : Int32} (hdg : decode cc pc = .ok (.irem, 1)) (hne : ¬ y = 0) (k : Ev sd own cc nL ret d E (pc + 1) L (.int (x - x / y * y) :: stk) σ) : Ev sd own cc nL ret d E pc L (.int y :: .int x :: stk) σ := by
  intro p l e s m args below meth c ad D cA A H locs ls C hP hD hS hl
  exact lv_irem C.1 C.2.1 hdg hne (k p l e s m args below meth c ad D cA A H locs ls C hP hD hS hl)
theorem ev_iushr {x y : Int32} (hdg : decode cc pc = .ok (.iushr, 1)) (k : Ev sd own cc nL ret d E (pc + 1) L (.int (x.toUInt32 >>> (y.toUInt32 &&& Int32.toUInt32 31)).toInt32 :: stk) σ) : Ev sd own cc nL ret d E pc L (.int y :: .int x :: stk) σ := by
  intro p l e s m args below meth c ad D cA A H locs ls C hP hD hS hl
  exact lv_iushr C.1 C.2.1 hdg rfl (k p l e s m args below meth c ad D cA A H locs ls C hP hD hS hl)
theorem ev_ineg {x : Int32} (hdg : decode cc pc = .ok (.ineg, 1)) (k : Ev sd own cc nL ret d E (pc + 1) L (.int (-x) :: stk) σ) : Ev sd own cc nL ret d E pc L (.int x :: stk) σ := by
  intro p l e s m args below meth c ad D cA A H locs ls C hP hD hS hl
  exact lv_ineg C.1 C.2.1 hdg (k p l e s m args below meth c ad D cA A H locs ls C hP hD hS hl)
theorem ev_i2b {x : Int32} (hdg : decode cc pc = .ok (.i2b, 1)) (k : Ev sd own cc nL ret d E (pc + 1) L (.int x.toInt8.toInt32 :: stk) σ) : Ev sd own cc nL ret d E pc L (.int x :: stk) σ := by
  intro p l e s m args below meth c ad D cA A H locs ls C hP hD hS hl
  exact lv_i2b C.1 C.2.1 hdg rfl (k p l e s m args below meth c ad D cA A H locs ls C hP hD hS hl)
theorem ev_ladd {x y : Int64} (hdg : decode cc pc = .ok (.ladd, 1)) (k : Ev sd own cc nL ret d E (pc + 1) L (.long (x + y) :: stk) σ) : Ev sd own cc nL ret d E pc L (.long y :: .long x :: stk) σ := by
  intro p l e s m args below meth c ad D cA A H locs ls C hP hD hS hl
  exact lv_ladd C.1 C.2.1 hdg (k p l e s m args below meth c ad D cA A H locs ls C hP hD hS hl)
theorem ev_dup {v : Value} (hdg : decode cc pc = .ok (.dup, 1)) (hv : v.category = 1) (k : Ev sd own cc nL ret d E (pc + 1) L (v :: v :: stk) σ) : Ev sd own cc nL ret d E pc L (v :: stk) σ := by
  intro p l e s m args below meth c ad D cA A H locs ls C hP hD hS hl
  exact lv_dup C.1 C.2.1 hdg ((av_cat ad v).trans hv) (k p l e s m args below meth c ad D cA A H locs ls C hP hD hS hl)
theorem ev_pop {v : Value} (hdg : decode cc pc = .ok (.pop, 1)) (hv : v.category = 1) (k : Ev sd own cc nL ret d E (pc + 1) L (stk) σ) : Ev sd own cc nL ret d E pc L (v :: stk) σ := by
  intro p l e s m args below meth c ad D cA A H locs ls C hP hD hS hl
  exact lv_pop C.1 C.2.1 hdg ((av_cat ad v).trans hv) (k p l e s m args below meth c ad D cA A H locs ls C hP hD hS hl)
theorem ev_dup2 {v w : Value} (hdg : decode cc pc = .ok (.dup2, 1)) (hv : v.category = 1) (hw : w.category = 1) (k : Ev sd own cc nL ret d E (pc + 1) L (v :: w :: v :: w :: stk) σ) : Ev sd own cc nL ret d E pc L (v :: w :: stk) σ := by
  intro p l e s m args below meth c ad D cA A H locs ls C hP hD hS hl
  exact lv_dup2_11 C.1 C.2.1 hdg ((av_cat ad v).trans hv) ((av_cat ad w).trans hw) (k p l e s m args below meth c ad D cA A H locs ls C hP hD hS hl)
theorem ev_if_eq {x : Int32} {off : Int} {tgt : Nat} (hdg : decode cc pc = .ok (.ifCond .eq off, 3)) (ht : (pc : Int) + off = (tgt : Int)) (kt : x = 0 → Ev sd own cc nL ret d E tgt L (stk) σ) (kf : ¬ x = 0 → Ev sd own cc nL ret d E (pc + 3) L (stk) σ) : Ev sd own cc nL ret d E pc L (.int x :: stk) σ := by
  intro p l e s m args below meth c ad D cA A H locs ls C hP hD hS hl
  exact lv_if_eq C.1 C.2.1 hdg ht (fun q => kt q p l e s m args below meth c ad D cA A H locs ls C hP hD hS hl) (fun q => kf q p l e s m args below meth c ad D cA A H locs ls C hP hD hS hl)
theorem ev_if_ne {x : Int32} {off : Int} {tgt : Nat} (hdg : decode cc pc = .ok (.ifCond .ne off, 3)) (ht : (pc : Int) + off = (tgt : Int)) (kt : ¬ x = 0 → Ev sd own cc nL ret d E tgt L (stk) σ) (kf : x = 0 → Ev sd own cc nL ret d E (pc + 3) L (stk) σ) : Ev sd own cc nL ret d E pc L (.int x :: stk) σ := by
  intro p l e s m args below meth c ad D cA A H locs ls C hP hD hS hl
  exact lv_if_ne C.1 C.2.1 hdg ht (fun q => kt q p l e s m args below meth c ad D cA A H locs ls C hP hD hS hl) (fun q => kf q p l e s m args below meth c ad D cA A H locs ls C hP hD hS hl)
theorem ev_if_lt {x : Int32} {off : Int} {tgt : Nat} (hdg : decode cc pc = .ok (.ifCond .lt off, 3)) (ht : (pc : Int) + off = (tgt : Int)) (kt : x < 0 → Ev sd own cc nL ret d E tgt L (stk) σ) (kf : ¬ x < 0 → Ev sd own cc nL ret d E (pc + 3) L (stk) σ) : Ev sd own cc nL ret d E pc L (.int x :: stk) σ := by
  intro p l e s m args below meth c ad D cA A H locs ls C hP hD hS hl
  exact lv_if_lt C.1 C.2.1 hdg ht (fun q => kt q p l e s m args below meth c ad D cA A H locs ls C hP hD hS hl) (fun q => kf q p l e s m args below meth c ad D cA A H locs ls C hP hD hS hl)
theorem ev_if_ge {x : Int32} {off : Int} {tgt : Nat} (hdg : decode cc pc = .ok (.ifCond .ge off, 3)) (ht : (pc : Int) + off = (tgt : Int)) (kt : 0 ≤ x → Ev sd own cc nL ret d E tgt L (stk) σ) (kf : ¬ 0 ≤ x → Ev sd own cc nL ret d E (pc + 3) L (stk) σ) : Ev sd own cc nL ret d E pc L (.int x :: stk) σ := by
  intro p l e s m args below meth c ad D cA A H locs ls C hP hD hS hl
  exact lv_if_ge C.1 C.2.1 hdg ht (fun q => kt q p l e s m args below meth c ad D cA A H locs ls C hP hD hS hl) (fun q => kf q p l e s m args below meth c ad D cA A H locs ls C hP hD hS hl)
theorem ev_if_gt {x : Int32} {off : Int} {tgt : Nat} (hdg : decode cc pc = .ok (.ifCond .gt off, 3)) (ht : (pc : Int) + off = (tgt : Int)) (kt : 0 < x → Ev sd own cc nL ret d E tgt L (stk) σ) (kf : ¬ 0 < x → Ev sd own cc nL ret d E (pc + 3) L (stk) σ) : Ev sd own cc nL ret d E pc L (.int x :: stk) σ := by
  intro p l e s m args below meth c ad D cA A H locs ls C hP hD hS hl
  exact lv_if_gt C.1 C.2.1 hdg ht (fun q => kt q p l e s m args below meth c ad D cA A H locs ls C hP hD hS hl) (fun q => kf q p l e s m args below meth c ad D cA A H locs ls C hP hD hS hl)
theorem ev_if_le {x : Int32} {off : Int} {tgt : Nat} (hdg : decode cc pc = .ok (.ifCond .le off, 3)) (ht : (pc : Int) + off = (tgt : Int)) (kt : x ≤ 0 → Ev sd own cc nL ret d E tgt L (stk) σ) (kf : ¬ x ≤ 0 → Ev sd own cc nL ret d E (pc + 3) L (stk) σ) : Ev sd own cc nL ret d E pc L (.int x :: stk) σ := by
  intro p l e s m args below meth c ad D cA A H locs ls C hP hD hS hl
  exact lv_if_le C.1 C.2.1 hdg ht (fun q => kt q p l e s m args below meth c ad D cA A H locs ls C hP hD hS hl) (fun q => kf q p l e s m args below meth c ad D cA A H locs ls C hP hD hS hl)
theorem ev_icmp_eq {x y : Int32} {off : Int} {tgt : Nat} (hdg : decode cc pc = .ok (.if_icmp .eq off, 3)) (ht : (pc : Int) + off = (tgt : Int)) (kt : x = y → Ev sd own cc nL ret d E tgt L (stk) σ) (kf : ¬ x = y → Ev sd own cc nL ret d E (pc + 3) L (stk) σ) : Ev sd own cc nL ret d E pc L (.int y :: .int x :: stk) σ := by
  intro p l e s m args below meth c ad D cA A H locs ls C hP hD hS hl
  exact lv_icmp_eq C.1 C.2.1 hdg ht (fun q => kt q p l e s m args below meth c ad D cA A H locs ls C hP hD hS hl) (fun q => kf q p l e s m args below meth c ad D cA A H locs ls C hP hD hS hl)
theorem ev_icmp_ne {x y : Int32} {off : Int} {tgt : Nat} (hdg : decode cc pc = .ok (.if_icmp .ne off, 3)) (ht : (pc : Int) + off = (tgt : Int)) (kt : ¬ x = y → Ev sd own cc nL ret d E tgt L (stk) σ) (kf : x = y → Ev sd own cc nL ret d E (pc + 3) L (stk) σ) : Ev sd own cc nL ret d E pc L (.int y :: .int x :: stk) σ := by
  intro p l e s m args below meth c ad D cA A H locs ls C hP hD hS hl
  exact lv_icmp_ne C.1 C.2.1 hdg ht (fun q => kt q p l e s m args below meth c ad D cA A H locs ls C hP hD hS hl) (fun q => kf q p l e s m args below meth c ad D cA A H locs ls C hP hD hS hl)
theorem ev_icmp_lt {x y : Int32} {off : Int} {tgt : Nat} (hdg : decode cc pc = .ok (.if_icmp .lt off, 3)) (ht : (pc : Int) + off = (tgt : Int)) (kt : x < y → Ev sd own cc nL ret d E tgt L (stk) σ) (kf : ¬ x < y → Ev sd own cc nL ret d E (pc + 3) L (stk) σ) : Ev sd own cc nL ret d E pc L (.int y :: .int x :: stk) σ := by
  intro p l e s m args below meth c ad D cA A H locs ls C hP hD hS hl
  exact lv_icmp_lt C.1 C.2.1 hdg ht (fun q => kt q p l e s m args below meth c ad D cA A H locs ls C hP hD hS hl) (fun q => kf q p l e s m args below meth c ad D cA A H locs ls C hP hD hS hl)
theorem ev_icmp_ge {x y : Int32} {off : Int} {tgt : Nat} (hdg : decode cc pc = .ok (.if_icmp .ge off, 3)) (ht : (pc : Int) + off = (tgt : Int)) (kt : y ≤ x → Ev sd own cc nL ret d E tgt L (stk) σ) (kf : ¬ y ≤ x → Ev sd own cc nL ret d E (pc + 3) L (stk) σ) : Ev sd own cc nL ret d E pc L (.int y :: .int x :: stk) σ := by
  intro p l e s m args below meth c ad D cA A H locs ls C hP hD hS hl
  exact lv_icmp_ge C.1 C.2.1 hdg ht (fun q => kt q p l e s m args below meth c ad D cA A H locs ls C hP hD hS hl) (fun q => kf q p l e s m args below meth c ad D cA A H locs ls C hP hD hS hl)
theorem ev_icmp_gt {x y : Int32} {off : Int} {tgt : Nat} (hdg : decode cc pc = .ok (.if_icmp .gt off, 3)) (ht : (pc : Int) + off = (tgt : Int)) (kt : y < x → Ev sd own cc nL ret d E tgt L (stk) σ) (kf : ¬ y < x → Ev sd own cc nL ret d E (pc + 3) L (stk) σ) : Ev sd own cc nL ret d E pc L (.int y :: .int x :: stk) σ := by
  intro p l e s m args below meth c ad D cA A H locs ls C hP hD hS hl
  exact lv_icmp_gt C.1 C.2.1 hdg ht (fun q => kt q p l e s m args below meth c ad D cA A H locs ls C hP hD hS hl) (fun q => kf q p l e s m args below meth c ad D cA A H locs ls C hP hD hS hl)
theorem ev_icmp_le {x y : Int32} {off : Int} {tgt : Nat} (hdg : decode cc pc = .ok (.if_icmp .le off, 3)) (ht : (pc : Int) + off = (tgt : Int)) (kt : x ≤ y → Ev sd own cc nL ret d E tgt L (stk) σ) (kf : ¬ x ≤ y → Ev sd own cc nL ret d E (pc + 3) L (stk) σ) : Ev sd own cc nL ret d E pc L (.int y :: .int x :: stk) σ := by
  intro p l e s m args below meth c ad D cA A H locs ls C hP hD hS hl
  exact lv_icmp_le C.1 C.2.1 hdg ht (fun q => kt q p l e s m args below meth c ad D cA A H locs ls C hP hD hS hl) (fun q => kf q p l e s m args below meth c ad D cA A H locs ls C hP hD hS hl)
theorem ev_goto {off : Int} {tgt : Nat} (hdg : decode cc pc = .ok (.goto off, 3)) (ht : (pc : Int) + off = (tgt : Int)) (k : Ev sd own cc nL ret d E tgt L (stk) σ) : Ev sd own cc nL ret d E pc L (stk) σ := by
  intro p l e s m args below meth c ad D cA A H locs ls C hP hD hS hl
  exact lv_goto C.1 C.2.1 hdg ht (k p l e s m args below meth c ad D cA A H locs ls C hP hD hS hl)
theorem ev_mask (mk : List Bool) {L' : List (Option Value)} (hL : List.zipWith (fun (b : Bool) v => if b then v else none) mk L = L') (k : Ev sd own cc nL ret d E pc L' (stk) σ) : Ev sd own cc nL ret d E pc L (stk) σ := by
  intro p l e s m args below meth c ad D cA A H locs ls C hP hD hS hl
  subst hL
  exact k p l e s m args below meth c ad D cA A H locs ls C hP hD hS (lh_mask hl mk)
theorem ev_tabIn {dflt lo hi : Int} {offs : Array Int} {len : Nat} {x : Int32} {off : Int} {tgt : Nat} (hdg : decode cc pc = .ok (.tableswitch dflt lo hi offs, len)) (h1 : ¬ x.toInt < lo) (h2 : ¬ hi < x.toInt) (ho : offs[(x.toInt - lo).toNat]? = some off) (ht : (pc : Int) + off = (tgt : Int)) (k : Ev sd own cc nL ret d E tgt L (stk) σ) : Ev sd own cc nL ret d E pc L (.int x :: stk) σ := by
  intro p l e s m args below meth c ad D cA A H locs ls C hP hD hS hl
  exact lv_tableIn C.1 C.2.1 hdg h1 h2 ho ht (k p l e s m args below meth c ad D cA A H locs ls C hP hD hS hl)
theorem ev_tabOut {dflt lo hi : Int} {offs : Array Int} {len : Nat} {x : Int32} {tgt : Nat} (hdg : decode cc pc = .ok (.tableswitch dflt lo hi offs, len)) (h : x.toInt < lo ∨ hi < x.toInt) (ht : (pc : Int) + dflt = (tgt : Int)) (k : Ev sd own cc nL ret d E tgt L (stk) σ) : Ev sd own cc nL ret d E pc L (.int x :: stk) σ := by
  intro p l e s m args below meth c ad D cA A H locs ls C hP hD hS hl
  exact lv_tableOut C.1 C.2.1 hdg h ht (k p l e s m args below meth c ad D cA A H locs ls C hP hD hS hl)
theorem ev_look {dflt : Int} {ps : Array (Int × Int)} {len : Nat} {x : Int32} {off : Int} {tgt : Nat} (hdg : decode cc pc = .ok (.lookupswitch dflt ps, len)) (hp : (ps.toList.zip (ps.toList.drop 1)).all (fun (a, next) => a.1 < next.1) = true) (ho : Op.lookupswitch.offset ps.toList dflt x.toInt = off) (ht : (pc : Int) + off = (tgt : Int)) (k : Ev sd own cc nL ret d E tgt L (stk) σ) : Ev sd own cc nL ret d E pc L (.int x :: stk) σ := by
  intro p l e s m args below meth c ad D cA A H locs ls C hP hD hS hl
  exact lv_lookup C.1 C.2.1 hdg hp ho ht (k p l e s m args below meth c ad D cA A H locs ls C hP hD hS hl)
theorem ev_nm (k : ∀ τ : St, τ = σ → Ev sd own cc nL ret d E pc L (stk) τ) : Ev sd own cc nL ret d E pc L (stk) σ := k σ rfl
theorem ev_nmi {x : Int32} (k : ∀ y : Int32, y = x → Ev sd own cc nL ret d E pc L (.int y :: stk) σ) : Ev sd own cc nL ret d E pc L (.int x :: stk) σ := k x rfl
end EV
