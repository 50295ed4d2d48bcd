/-! Rows of Ev: fields, arrays, copies, calls, returns. -/
/-- a field's link: the field k of the objects of kind ci, as 'own' names it at 'index' -/
def FL (own : String) (index ci k : Nat) : Prop := ∃ (C : String) (T : u_T) (N : Nat) (ref : String), vwCl[ci]? = some (C, T, N) ∧ k < N ∧ Cond.fieldLink own index ref (T k).2.1 (T k).2.2.1 ∈ wsL_law ∧ (∀ w ∈ u_ws C T N, w ∈ wsL_law) ∧ (ref = (T k).1 ∨ Cond.sameField ref (T k).1 (T k).2.1 (T k).2.2.1 ∈ wsL_law)
/-- .. that may be written, of type ty -/
def FP (own : String) (index ci k : Nat) (ty : FieldType) : Prop := ∃ (C : String) (T : u_T) (N : Nat) (ref : String) (ty0 : Nat → FieldType), vwCl[ci]? = some (C, T, N) ∧ k < N ∧ Cond.fieldLink own index ref (T k).2.1 (T k).2.2.1 ∈ wsL_law ∧ (∀ w ∈ u_ws C T N, w ∈ wsL_law) ∧ (ref = (T k).1 ∨ Cond.sameField ref (T k).1 (T k).2.1 (T k).2.2.1 ∈ wsL_law) ∧
  (∀ k, k < N → parseFieldDescriptor (T k).2.2.1 = some (ty0 k)) ∧ (∀ a, a < N → ∀ b, b < N → a ≠ b → (T a).2.1 ≠ (T b).2.1) ∧ (T k).2.2.2 = false ∧ parseFieldDescriptor (T k).2.2.1 = some ty
theorem fl_same {ref o n ds : String} {args : Array Value} {s : State} (hts : ∀ w ∈ wsL_law, w.before args s = true) (h : ref = o ∨ Cond.sameField ref o n ds ∈ wsL_law) : ∀ x, s.fieldFound? o n ds = some x → s.fieldFound? ref n ds = some x := by
  intro x hx
  rcases h with h | h
  · rw [h]; exact hx
  · exact u_same (hts _ h) x hx
theorem ce_obj {ad : Nat → Nat} {cA : Nat → ClassId} {σ : St} {c ci n0 : Nat} {fs : List Nat} (hci : ci < 20) : ce ad cA σ c (ci, n0, fs) = .inr (ci, fs.zipIdx.map (fun r => av ad (fva σ c r.2 r.1))) := by
  unfold ce; exact if_pos hci
theorem fs_at {ad : Nat → Nat} {σ : St} {c k dd : Nat} {fs : List Nat} (h : fs[k]? = some dd) : (fs.zipIdx.map (fun r => av ad (fva σ c r.2 r.1)))[k]? = some (av ad (fva σ c k dd)) := by
  simp [List.getElem?_zipIdx, h]
theorem fs_put {ad : Nat → Nat} {σ τ : St} {c k : Nat} {fs : List Nat} {v : Value} (hk : k < fs.length) (hv : ∀ dd, fs[k]? = some dd → av ad (fva τ c k dd) = v) (ho : ∀ j dd, j ≠ k → fs[j]? = some dd → fva τ c j dd = fva σ c j dd) :
    (fs.zipIdx.map (fun r => av ad (fva σ c r.2 r.1))).set k v = fs.zipIdx.map (fun r => av ad (fva τ c r.2 r.1)) := by
  apply List.ext_getElem?
  intro j
  by_cases e : j = k
  · subst e
    rw [List.getElem?_set_self (by simpa using hk)]
    obtain ⟨dd, hd⟩ : ∃ dd, fs[j]? = some dd := ⟨_, List.getElem?_eq_getElem hk⟩
    rw [fs_at hd, hv dd hd]
  · rw [List.getElem?_set_ne (fun q => e q.symm)]
    cases hd : fs[j]? with
    | none => simp [List.getElem?_zipIdx, hd]
    | some dd => rw [fs_at hd, fs_at hd, ho j dd e hd]
theorem st_row_self (σ : St) (c : Nat) (g : Nat → Int32) : (st_row σ c g).1 c = g := if_pos rfl
theorem st_row_ne (σ : St) {c c' : Nat} (g : Nat → Int32) (h : c' ≠ c) : (st_row σ c g).1 c' = σ.1 c' := if_neg h
theorem st_row_2 (σ : St) (c : Nat) (g : Nat → Int32) : (st_row σ c g).2 = σ.2 := rfl
theorem ce_arr {ad : Nat → Nat} {cA : Nat → ClassId} {σ : St} {c kd n : Nat} (h : ¬ kd < 20) : ce ad cA σ c (kd, n, []) = .inl (cA (kd - 20), n, .inl (σ.1 c)) := by
  unfold ce; exact if_neg h
theorem ce_ref {ad : Nat → Nat} {cA : Nat → ClassId} {σ : St} {c kd n b : Nat} {bs : List Nat} (h : ¬ kd < 20) : ce ad cA σ c (kd, n, b :: bs) = .inl (cA (kd - 20), n, .inr (.inr (.inr (.inr (fun j => some (ad (b + j))))))) := by
  unfold ce; exact if_neg h
section EV2
variable {sd : Sd} {own : String} {cc : ByteArray} {nL : Nat} {ret : Option FieldType} {d : Nat} {E : End} {pc : Nat} {L : List (Option Value)} {stk : List Value} {σ : St}
theorem ev_get {index ci k c0 n0 dd : Nat} {fs : List Nat} {v : Value} (hF : FL own index ci k) (hsh : sd.1[c0]? = some (ci, n0, fs)) (hci : ci < 20) (hk : fs[k]? = some dd) (hv : fva σ c0 k dd = v) (hdg : decode cc pc = .ok (.getfield index, 3))
    (kk : Ev sd own cc nL ret d E (pc + 3) L (v :: stk) σ) : Ev sd own cc nL ret d E pc L (.ref c0 :: stk) σ := by
  intro p l e s m args below meth c ad D cA A H locs ls C hP hD hS hl
  obtain ⟨C0, T, N, ref, h1, h2, h3, h4, h5⟩ := hF
  have hts := C.2.2.2.2.2.1
  subst hv
  exact va_get C.1 C.2.1 hts h4 C.2.2.2.2.1 C.2.2.2.2.2.2.2.2 hP c0 ((wd_get hsh).trans (by rw [ce_obj hci])) h1 k h2 (hts _ h3) (fl_same hts h5) (fs_at hk) hdg (kk p l e s m args below meth c ad D cA A H locs ls C hP hD hS hl)
theorem ev_puti {index ci k c0 n0 : Nat} {fs : List Nat} {x : Int32} {ty : FieldType} (hF : FP own index ci k ty) (hsh : sd.1[c0]? = some (ci, n0, fs)) (hci : ci < 20) (hk : fs[k]? = some 0) (hn : narrow ty (.int x) = .int x) (hf : fits ty (.int x) = true) (hdg : decode cc pc = .ok (.putfield index, 3))
    (kk : Ev sd own cc nL ret d E (pc + 3) L stk (st_up σ c0 k x)) : Ev sd own cc nL ret d E pc L (.int x :: .ref c0 :: stk) σ := by
  intro p l e s m args below meth c ad D cA A H locs ls C hP hD hS hl
  obtain ⟨C0, T, N, ref, ty0, h1, h2, h3, h4, h5, h6, h7, h8, h9⟩ := hF
  have hts := C.2.2.2.2.2.1
  have hkl : k < fs.length := (List.getElem?_eq_some_iff.mp hk).1
  refine va_put C.1 C.2.1 hts h4 ty0 h6 h7 C.2.2.2.2.1 C.2.2.2.2.2.2.2.2 hP hD hS c0 ((wd_get hsh).trans (by rw [ce_obj hci])) h1 k h2 (hts _ h3) (fl_same hts h5) h8 h9 hn hf (by simpa using hkl) hdg (fun H1 locs1 hP1 hD1 hS1 => ?_)
  have hset := wd_set (sh := sd.1) (ad := ad) (cA := cA) (σ := σ) (τ := st_up σ c0 k x) hsh (x := .inr (ci, (fs.zipIdx.map (fun r => av ad (fva σ c0 r.2 r.1))).set k (av ad (.int x)))) (by
    rw [ce_obj hci]
    congr 2
    exact fs_put hkl (fun dd hd => by rw [hk] at hd; cases hd; simp [fva, st_up, st_row_self, upd, av]) (fun j dd hj hd => by
      match dd with
      | 0 => simp [fva, st_up, st_row_self, upd, hj]
      | 1 => rfl
      | t + 2 => rfl)) (fun c' hc' => ⟨st_row_ne σ _ hc', rfl⟩)
  rw [hset] at hP1 hD1
  exact kk p l e s m args below meth c ad D cA A H1 locs1 ls C hP1 hD1 hS1 hl
theorem ev_putl {index ci k c0 n0 : Nat} {fs : List Nat} {x : Int64} (hF : FP own index ci k .long) (hsh : sd.1[c0]? = some (ci, n0, fs)) (hci : ci < 20) (hk : fs[k]? = some 1) (ho : ∀ j, j ≠ k → fs[j]? ≠ some 1) (hdg : decode cc pc = .ok (.putfield index, 3))
    (kk : Ev sd own cc nL ret d E (pc + 3) L stk (st_lo σ c0 x)) : Ev sd own cc nL ret d E pc L (.long x :: .ref c0 :: stk) σ := by
  intro p l e s m args below meth c ad D cA A H locs ls C hP hD hS hl
  obtain ⟨C0, T, N, ref, ty0, h1, h2, h3, h4, h5, h6, h7, h8, h9⟩ := hF
  have hts := C.2.2.2.2.2.1
  have hkl : k < fs.length := (List.getElem?_eq_some_iff.mp hk).1
  refine va_put C.1 C.2.1 hts h4 ty0 h6 h7 C.2.2.2.2.1 C.2.2.2.2.2.2.2.2 hP hD hS c0 ((wd_get hsh).trans (by rw [ce_obj hci])) h1 k h2 (hts _ h3) (fl_same hts h5) h8 h9 rfl rfl (by simpa using hkl) hdg (fun H1 locs1 hP1 hD1 hS1 => ?_)
  have hset := wd_set (sh := sd.1) (ad := ad) (cA := cA) (σ := σ) (τ := st_lo σ c0 x) hsh (x := .inr (ci, (fs.zipIdx.map (fun r => av ad (fva σ c0 r.2 r.1))).set k (av ad (.long x)))) (by
    rw [ce_obj hci]
    congr 2
    exact fs_put hkl (fun dd hd => by rw [hk] at hd; cases hd; simp [fva, st_lo, av]) (fun j dd hj hd => by
      match dd, hd with
      | 0, _ => rfl
      | 1, hd => exact absurd hd (ho j hj)
      | t + 2, _ => rfl)) (fun c' hc' => ⟨rfl, if_neg hc'⟩)
  rw [hset] at hP1 hD1
  exact kk p l e s m args below meth c ad D cA A H1 locs1 ls C hP1 hD1 hS1 hl
theorem ev_iald {c0 j n : Nat} {i : Int32} (hsh : sd.1[c0]? = some (20, n, [])) (ht : sd.2[0]? = some .int) (hin : vp_in i n) (hj : i.toNatClampNeg = j) (hdg : decode cc pc = .ok (.iaload, 1))
    (kk : Ev sd own cc nL ret d E (pc + 1) L (.int (σ.1 c0 j) :: stk) σ) : Ev sd own cc nL ret d E pc L (.int i :: .ref c0 :: stk) σ := by
  subst hj
  intro p l e s m args below meth c ad D cA A H locs ls C hP hD hS hl
  exact va_iald C.1 C.2.1 C.2.2.2.2.2.2.2.2 hP c0 0 ((wd_get hsh).trans (by rw [ce_arr (by decide)])) (tyk_get ht) hin hdg (kk p l e s m args below meth c ad D cA A H locs ls C hP hD hS hl)
theorem ev_zald {c0 j n kd t : Nat} {i : Int32} (hsh : sd.1[c0]? = some (kd, n, [])) (hkd : kd = 20 + t) (ht : sd.2[t]? = some .boolean) (hin : vp_in i n) (hj : i.toNatClampNeg = j) (hdg : decode cc pc = .ok (.baload, 1))
    (kk : Ev sd own cc nL ret d E (pc + 1) L (.int (σ.1 c0 j) :: stk) σ) : Ev sd own cc nL ret d E pc L (.int i :: .ref c0 :: stk) σ := by
  subst hj
  intro p l e s m args below meth c ad D cA A H locs ls C hP hD hS hl
  have e1 : kd - 20 = t := by omega
  exact va_zald C.1 C.2.1 C.2.2.2.2.2.2.2.2 hP c0 t ((wd_get hsh).trans (by rw [ce_arr (by omega), e1])) (tyk_get ht) hin hdg (kk p l e s m args below meth c ad D cA A H locs ls C hP hD hS hl)
theorem ev_bald {c0 j n kd t : Nat} {i : Int32} (hsh : sd.1[c0]? = some (kd, n, [])) (hkd : kd = 20 + t) (ht : sd.2[t]? = some .byte) (hin : vp_in i n) (hj : i.toNatClampNeg = j) (hdg : decode cc pc = .ok (.baload, 1))
    (kk : Ev sd own cc nL ret d E (pc + 1) L (.int (σ.1 c0 j) :: stk) σ) : Ev sd own cc nL ret d E pc L (.int i :: .ref c0 :: stk) σ := by
  subst hj
  intro p l e s m args below meth c ad D cA A H locs ls C hP hD hS hl
  have e1 : kd - 20 = t := by omega
  exact va_bald C.1 C.2.1 C.2.2.2.2.2.2.2.2 hP c0 t ((wd_get hsh).trans (by rw [ce_arr (by omega), e1])) (tyk_get ht) hin hdg (kk p l e s m args below meth c ad D cA A H locs ls C hP hD hS hl)
theorem ev_iast {c0 j n : Nat} {i x : Int32} (hsh : sd.1[c0]? = some (20, n, [])) (ht : sd.2[0]? = some .int) (hin : vp_in i n) (hj : i.toNatClampNeg = j) (hdg : decode cc pc = .ok (.iastore, 1))
    (kk : Ev sd own cc nL ret d E (pc + 1) L stk (st_up σ c0 j x)) : Ev sd own cc nL ret d E pc L (.int x :: .int i :: .ref c0 :: stk) σ := by
  subst hj
  intro p l e s m args below meth c ad D cA A H locs ls C hP hD hS hl
  refine va_iast C.1 C.2.1 C.2.2.2.2.2.2.2.2 hP hD hS c0 0 ((wd_get hsh).trans (by rw [ce_arr (by decide)])) (tyk_get ht) hin hdg (fun H1 locs1 hP1 hD1 hS1 => ?_)
  have hset := wd_set (sh := sd.1) (ad := ad) (cA := cA) (σ := σ) (τ := st_up σ c0 i.toNatClampNeg x) hsh (x := .inl (cA (20 - 20), n, .inl (upd (σ.1 c0) i.toNatClampNeg x))) (by
    rw [ce_arr (by decide), st_up, st_row_self]) (fun c' hc' => ⟨st_row_ne σ _ hc', rfl⟩)
  rw [hset] at hP1 hD1
  exact kk p l e s m args below meth c ad D cA A H1 locs1 ls C hP1 hD1 hS1 hl
theorem ev_zast {c0 j n kd t : Nat} {i x x' : Int32} (hsh : sd.1[c0]? = some (kd, n, [])) (hkd : kd = 20 + t) (ht : sd.2[t]? = some .boolean) (hin : vp_in i n) (hj : i.toNatClampNeg = j) (hx : vp_nar .boolean x = x') (hdg : decode cc pc = .ok (.bastore, 1))
    (kk : Ev sd own cc nL ret d E (pc + 1) L stk (st_up σ c0 j x')) : Ev sd own cc nL ret d E pc L (.int x :: .int i :: .ref c0 :: stk) σ := by
  subst hx
  subst hj
  intro p l e s m args below meth c ad D cA A H locs ls C hP hD hS hl
  have e1 : kd - 20 = t := by omega
  refine va_zast C.1 C.2.1 C.2.2.2.2.2.2.2.2 hP hD hS c0 t ((wd_get hsh).trans (by rw [ce_arr (by omega), e1])) (tyk_get ht) hin hdg (fun H1 locs1 hP1 hD1 hS1 => ?_)
  have hset := wd_set (sh := sd.1) (ad := ad) (cA := cA) (σ := σ) (τ := st_up σ c0 i.toNatClampNeg (vp_nar .boolean x)) hsh (x := .inl (cA t, n, .inl (upd (σ.1 c0) i.toNatClampNeg (vp_nar .boolean x)))) (by
    rw [ce_arr (by omega), st_up, st_row_self, e1]) (fun c' hc' => ⟨st_row_ne σ _ hc', rfl⟩)
  rw [hset] at hP1 hD1
  exact kk p l e s m args below meth c ad D cA A H1 locs1 ls C hP1 hD1 hS1 hl
theorem ev_bast {c0 j n kd t : Nat} {i x x' : Int32} (hsh : sd.1[c0]? = some (kd, n, [])) (hkd : kd = 20 + t) (ht : sd.2[t]? = some .byte) (hin : vp_in i n) (hj : i.toNatClampNeg = j) (hx : vp_nar .byte x = x') (hdg : decode cc pc = .ok (.bastore, 1))
    (kk : Ev sd own cc nL ret d E (pc + 1) L stk (st_up σ c0 j x')) : Ev sd own cc nL ret d E pc L (.int x :: .int i :: .ref c0 :: stk) σ := by
  subst hx
  subst hj
  intro p l e s m args below meth c ad D cA A H locs ls C hP hD hS hl
  have e1 : kd - 20 = t := by omega
  refine va_bast C.1 C.2.1 C.2.2.2.2.2.2.2.2 hP hD hS c0 t ((wd_get hsh).trans (by rw [ce_arr (by omega), e1])) (tyk_get ht) hin hdg (fun H1 locs1 hP1 hD1 hS1 => ?_)
  have hset := wd_set (sh := sd.1) (ad := ad) (cA := cA) (σ := σ) (τ := st_up σ c0 i.toNatClampNeg (vp_nar .byte x)) hsh (x := .inl (cA t, n, .inl (upd (σ.1 c0) i.toNatClampNeg (vp_nar .byte x)))) (by
    rw [ce_arr (by omega), st_up, st_row_self, e1]) (fun c' hc' => ⟨st_row_ne σ _ hc', rfl⟩)
  rw [hset] at hP1 hD1
  exact kk p l e s m args below meth c ad D cA A H1 locs1 ls C hP1 hD1 hS1 hl
theorem ev_aald {c0 j n kd t b : Nat} {bs : List Nat} {ty : FieldType} {i : Int32} (hsh : sd.1[c0]? = some (kd, n, b :: bs)) (hkd : kd = 20 + t) (ht : sd.2[t]? = some ty) (hty : ty.isReference = true) (hin : vp_in i n) (hj : i.toNatClampNeg = j) (hdg : decode cc pc = .ok (.aaload, 1))
    (kk : Ev sd own cc nL ret d E (pc + 1) L (.ref (b + j) :: stk) σ) : Ev sd own cc nL ret d E pc L (.int i :: .ref c0 :: stk) σ := by
  subst hj
  intro p l e s m args below meth c ad D cA A H locs ls C hP hD hS hl
  have e1 : kd - 20 = t := by omega
  have hlt : i.toNatClampNeg < n := Nat.not_le.mp fun q => hin (Or.inr q)
  have ha : (wd sd.1 ad cA σ)[c0]? = some (ad c0, .inl (cA t, n, .inr (.inr (.inr (.inr (fun j => some (ad (b + j)))))))) := (wd_get hsh).trans (by rw [ce_ref (by omega), e1])
  exact W.aald (v := .ref (ad (b + i.toNatClampNeg))) (ty := ty) C.1 C.2.1 (hP c0 _ ha) ((C.2.2.2.2.2.2.2.2.2 t _ (tyk_get ht)).1 n (fun j => va_rf (some (ad (b + j))))) hty (fun q => by cases q) (by show ¬ (i < 0 ∨ (arrV _ _ _).slots.size ≤ _); rw [arrV_size]; exact hin) (by show (arrV _ _ _).slots[_]? = _; rw [arrV_read _ _ hlt]; rfl) rfl rfl hdg (kk p l e s m args below meth c ad D cA A H locs ls C hP hD hS hl)
theorem ev_alen {c0 n kd t : Nat} {ty : FieldType} {v : Int32} (hsh : sd.1[c0]? = some (kd, n, [])) (hkd : kd = 20 + t) (ht : sd.2[t]? = some ty) (hv : Int32.ofNat n = v) (hdg : decode cc pc = .ok (.arraylength, 1))
    (kk : Ev sd own cc nL ret d E (pc + 1) L (.int v :: stk) σ) : Ev sd own cc nL ret d E pc L (.ref c0 :: stk) σ := by
  intro p l e s m args below meth c ad D cA A H locs ls C hP hD hS hl
  have e1 : kd - 20 = t := by omega
  exact va_alen C.1 C.2.1 C.2.2.2.2.2.2.2.2 hP c0 t ((wd_get hsh).trans (by rw [ce_arr (by omega), e1])) (tyk_get ht) hv hdg (kk p l e s m args below meth c ad D cA A H locs ls C hP hD hS hl)
theorem ev_alenr {c0 n kd t b : Nat} {bs : List Nat} {ty : FieldType} {v : Int32} (hsh : sd.1[c0]? = some (kd, n, b :: bs)) (hkd : kd = 20 + t) (ht : sd.2[t]? = some ty) (hv : Int32.ofNat n = v) (hdg : decode cc pc = .ok (.arraylength, 1))
    (kk : Ev sd own cc nL ret d E (pc + 1) L (.int v :: stk) σ) : Ev sd own cc nL ret d E pc L (.ref c0 :: stk) σ := by
  intro p l e s m args below meth c ad D cA A H locs ls C hP hD hS hl
  have e1 : kd - 20 = t := by omega
  exact va_alen C.1 C.2.1 C.2.2.2.2.2.2.2.2 hP c0 t ((wd_get hsh).trans (by rw [ce_ref (by omega), e1])) (tyk_get ht) hv hdg (kk p l e s m args below meth c ad D cA A H locs ls C hP hD hS hl)
/-- the words of System.arraycopy as 'own' links it -/
def CP (own : String) (index : Nat) : Prop := Cond.methodLink own index arraycopyName ∈ wsL_law ∧ Cond.native arraycopyName ∈ wsL_law ∧ Cond.static arraycopyName ∈ wsL_law ∧ Cond.initialized "java/lang/System" ∈ wsL_law
theorem ev_copy {index c0 c1 n0 n1 js jd jn : Nat} {sp dp n : Int32} (hw : CP own index) (h0 : sd.1[c0]? = some (20, n0, [])) (h1 : sd.1[c1]? = some (20, n1, [])) (ht : sd.2[0]? = some .int) (hc : ¬ sp < 0 ∧ ¬ dp < 0 ∧ ¬ n < 0 ∧ sp.toNatClampNeg + n.toNatClampNeg ≤ n0 ∧ dp.toNatClampNeg + n.toNatClampNeg ≤ n1) (hjs : sp.toNatClampNeg = js) (hjd : dp.toNatClampNeg = jd) (hjn : n.toNatClampNeg = jn) (hd : 1 ≤ d) (hst : (stk.map fun v => v.category).sum ≤ 8) (hdg : decode cc pc = .ok (.invokestatic index, 3))
    (kk : Ev sd own cc nL ret d E (pc + 3) L stk (st_row σ c1 (va_cpy (σ.1 c0) (σ.1 c1) js jd jn))) : Ev sd own cc nL ret d E pc L (.int n :: .int dp :: .ref c1 :: .int sp :: .ref c0 :: stk) σ := by
  subst hjs
  subst hjd
  subst hjn
  intro p l e s m args below meth c ad D cA A H locs ls C hP hD hS hl
  have hts := C.2.2.2.2.2.1
  refine va_copyi C.1 C.2.1 (by rw [hl.1]; exact C.2.2.2.1) C.2.2.2.2.1 (hts _ hw.1) (hts _ hw.2.1) (hts _ hw.2.2.1) (hts _ hw.2.2.2) C.2.2.2.2.2.2.2.2 hP hD hS c0 c1 0 0 ((wd_get h0).trans (by rw [ce_arr (by decide)])) ((wd_get h1).trans (by rw [ce_arr (by decide)])) (tyk_get ht) (tyk_get ht) rfl hc.1 hc.2.1 hc.2.2.1 hc.2.2.2.1 hc.2.2.2.2 (fun _ _ => rfl) hd (by
      rw [av_cats]
      have : nativeFrameWords "java/lang/System" "arraycopy" 5 = 7 := by decide
      rw [this]
      show _ ≤ 40 * d
      omega) hdg (fun H1 locs1 hP1 hD1 hS1 => ?_)
  have hset := wd_set (sh := sd.1) (ad := ad) (cA := cA) (σ := σ) (τ := st_row σ c1 (va_cpy (σ.1 c0) (σ.1 c1) sp.toNatClampNeg dp.toNatClampNeg n.toNatClampNeg)) h1 (x := .inl (cA (20 - 20), n1, .inl (va_cpy (σ.1 c0) (σ.1 c1) sp.toNatClampNeg dp.toNatClampNeg n.toNatClampNeg))) (by
    rw [ce_arr (by decide), st_row_self]) (fun c' hc' => ⟨st_row_ne σ _ hc', rfl⟩)
  rw [hset] at hP1 hD1
  exact kk p l e s m args below meth c ad D cA A H1 locs1 ls C hP1 hD1 hS1 hl
/-- the words of Math.max and Math.min -/
def MX (own : String) (index : Nat) : Prop := Cond.methodLink own index Lib.Math.max.name ∈ wsL_law ∧ Cond.static Lib.Math.max.name ∈ wsL_law ∧ Cond.initialized "java/lang/Math" ∈ wsL_law ∧ Cond.code Lib.Math.max.name Lib.Math.max.code 2 (some .int) ∈ wsL_law
def MN (own : String) (index : Nat) : Prop := Cond.methodLink own index Lib.Math.min.name ∈ wsL_law ∧ Cond.static Lib.Math.min.name ∈ wsL_law ∧ Cond.initialized "java/lang/Math" ∈ wsL_law ∧ Cond.code Lib.Math.min.name Lib.Math.min.code 2 (some .int) ∈ wsL_law
theorem ev_max {index : Nat} {x y : Int32} (hw : MX own index) (hd : 1 ≤ d) (hst : (stk.map fun v => v.category).sum ≤ 8) (hdg : decode cc pc = .ok (.invokestatic index, 3))
    (kk : Ev sd own cc nL ret d E (pc + 3) L (.int (if x < y then y else x) :: stk) σ) : Ev sd own cc nL ret d E pc L (.int y :: .int x :: stk) σ := by
  intro p l e s m args below meth c ad D cA A H locs ls C hP hD hS hl
  have hts := C.2.2.2.2.2.1
  exact va_mmax C.1 C.2.1 (by rw [hl.1]; exact C.2.2.2.1) C.2.2.2.2.1 (hts _ hw.1) (hts _ hw.2.1) (hts _ hw.2.2.1) (hts _ hw.2.2.2) hd (by rw [av_cats]; show _ ≤ 40 * d; omega) (Nat.zero_le _) (Nat.zero_le _) hdg (kk p l e s m args below meth c ad D cA A H locs ls C hP hD hS hl)
theorem ev_min {index : Nat} {x y : Int32} (hw : MN own index) (hd : 1 ≤ d) (hst : (stk.map fun v => v.category).sum ≤ 8) (hdg : decode cc pc = .ok (.invokestatic index, 3))
    (kk : Ev sd own cc nL ret d E (pc + 3) L (.int (if y < x then y else x) :: stk) σ) : Ev sd own cc nL ret d E pc L (.int y :: .int x :: stk) σ := by
  intro p l e s m args below meth c ad D cA A H locs ls C hP hD hS hl
  have hts := C.2.2.2.2.2.1
  exact va_mmin C.1 C.2.1 (by rw [hl.1]; exact C.2.2.2.1) C.2.2.2.2.1 (hts _ hw.1) (hts _ hw.2.1) (hts _ hw.2.2.1) (hts _ hw.2.2.2) hd (by rw [av_cats]; show _ ≤ 40 * d; omega) (Nat.zero_le _) (Nat.zero_le _) hdg (kk p l e s m args below meth c ad D cA A H locs ls C hP hD hS hl)
theorem ev_iret {post : Int32 → St → Prop} {v : Int32} (hr : ret = some .int) (hdg : decode cc pc = .ok (.ireturn, 1)) (h : post v σ) : Ev sd own cc nL ret d (EQi sd post) pc L [.int v] σ := by
  intro p l e s m args below meth c ad D cA A H locs ls C hP hD hS hl
  refine W.iret C.1 C.2.1 (C.2.2.1.trans hr) (fun t ht hW => ⟨⟨v, σ, rfl, h, ?_, va_K.moved hW.alike C.2.2.2.2.2.2.2.2, hD⟩, hS.F ht⟩) hS.2.2 hdg (hlocks := C.2.2.2.2.2.2.1)
  rw [ht]; exact hP
theorem ev_zret {post : Int32 → St → Prop} {v : Int32} (hr : ret = some .boolean) (hdg : decode cc pc = .ok (.ireturn, 1)) (hv : narrow .boolean (.int v) = .int v) (h : post v σ) : Ev sd own cc nL ret d (EQi sd post) pc L [.int v] σ := by
  intro p l e s m args below meth c ad D cA A H locs ls C hP hD hS hl
  refine W.zret C.1 C.2.1 (C.2.2.1.trans hr) hv (fun t ht hW => ⟨⟨v, σ, rfl, h, ?_, va_K.moved hW.alike C.2.2.2.2.2.2.2.2, hD⟩, hS.F ht⟩) hS.2.2 hdg (hlocks := C.2.2.2.2.2.2.1)
  rw [ht]; exact hP
theorem ev_lret {post : Int64 → St → Prop} {v : Int64} (hr : ret = some .long) (hdg : decode cc pc = .ok (.lreturn, 1)) (h : post v σ) : Ev sd own cc nL ret d (EQl sd post) pc L [.long v] σ := by
  intro p l e s m args below meth c ad D cA A H locs ls C hP hD hS hl
  refine W.lret C.1 C.2.1 (C.2.2.1.trans hr) (fun t ht hW => ⟨⟨v, σ, rfl, h, ?_, va_K.moved hW.alike C.2.2.2.2.2.2.2.2, hD⟩, hS.F ht⟩) hS.2.2 hdg (hlocks := C.2.2.2.2.2.2.1)
  rw [ht]; exact hP
theorem ev_vret {post : St → Prop} (hr : ret = none) (hdg : decode cc pc = .ok (.return_, 1)) (h : post σ) : Ev sd own cc nL ret d (EQv sd post) pc L [] σ := by
  intro p l e s m args below meth c ad D cA A H locs ls C hP hD hS hl
  refine W.vret C.1 C.2.1 (C.2.2.1.trans hr) (fun t ht hW => ⟨⟨σ, rfl, h, ?_, va_K.moved hW.alike C.2.2.2.2.2.2.2.2, hD⟩, hS.F ht⟩) hS.2.2 hdg (hlocks := C.2.2.2.2.2.2.1)
  rw [ht]; exact hP
end EV2
