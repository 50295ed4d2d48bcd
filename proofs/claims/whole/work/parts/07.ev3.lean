/-! Rows of Ev: calls. -/
theorem wsL_good : GoodIn wsL_law wsL_law := fun w h => ⟨h, good_of_word (List.all_eq_true.mp (show wsL_law.all goodWord = true by decide +kernel) w h)⟩
def preB (sd : Sd) (ad : Nat → Nat) (D : va_G) (cA : Nat → ClassId) (sz : Nat) (σ : St) : State → Prop := fun U => U.heap.size = sz ∧ va_P D vwCl (wd sd.1 ad cA σ) U.heap ∧ va_K D vwCl (tyk cA sd.2) U ∧ va_D (fun _ => True) (wd sd.1 ad cA σ)
theorem preB_blind {sd : Sd} {ad : Nat → Nat} {D : va_G} {cA : Nat → ClassId} {sz : Nat} {σ : St} {avs : List Value} : FrameBlind (va_Pc avs (preB sd ad D cA sz σ)) := fun a U g mk q => by
  obtain ⟨q0, q1, qP, qK, qD⟩ := q
  exact ⟨q0, q1, qP, va_K.moved (u := U) (U := U.calling g mk a) (Vm.Alike.refl U.vm) qK, qD⟩
/-- the words of a call: what links it, what it selects, its code -/
def CWc (y : MethodName) (bytes : ByteArray) (maxL : Nat) (rt : Option FieldType) (n : Nat) : Prop := Cond.code y bytes maxL rt ∈ wsL_law ∧ Cond.initialized y.cls ∈ wsL_law ∧ (y.cls ≠ "java/lang/invoke/MethodHandle" ∧ y.cls ≠ "java/lang/invoke/VarHandle" ∧ (parseMethodDescriptor y.desc).map (fun d => d.parameters.length) = some n) ∧ maxL ≤ 21
def CWv (own : String) (index : Nat) (y : MethodName) (bytes : ByteArray) (maxL : Nat) (rt : Option FieldType) (n : Nat) : Prop := CWc y bytes maxL rt n ∧ Cond.methodLink own index y ∈ wsL_law ∧ Cond.instanceMethod y ∈ wsL_law ∧ Cond.selects y.cls y y ∈ wsL_law
def CWs (own : String) (index : Nat) (y : MethodName) (bytes : ByteArray) (maxL : Nat) (rt : Option FieldType) (n : Nat) : Prop := CWc y bytes maxL rt n ∧ Cond.methodLink own index y ∈ wsL_law ∧ Cond.static y ∈ wsL_law
theorem good_cons {w : Cond} (h : w ∈ wsL_law) {ws : List Cond} (hg : GoodIn wsL_law ws) : GoodIn wsL_law (w :: ws) := fun x hx => (List.mem_cons.mp hx).elim (fun e => e ▸ wsL_good w h) (hg x)
section EV3
variable {sd : Sd} {own : String} {cc : ByteArray} {nL : Nat} {ret : Option FieldType} {d : Nat} {E : End} {pc : Nat} {L : List (Option Value)} {stk stk0 : List Value} {σ : St}
/-- what a call asks of its caller's walk and gives back, whatever its kind -/
def Callee (sd : Sd) (own : String) (cc : ByteArray) (nL : Nat) (ret : Option FieldType) (d : Nat) (pc : Nat) (L : List (Option Value)) (stk0 stk : List Value) (σ : St) (E1 : End) : Prop :=
  ∀ (p : Program) (l : Launch) (e : Env) (s : State) (m : MethodId) (args : Array Value) (below : List Frame) (meth : Method) (c : Code) (ad : Nat → Nat) (D : va_G) (cA : Nat → ClassId) (A : Nat → Prop) (H : Heap) (locs : List Loc) (ls : Array Slot),
    Cx sd.2 own cc nL ret p s m args meth c D cA A → va_P D vwCl (wd sd.1 ad cA σ) H → va_D A (wd sd.1 ad cA σ) → va_S A s.heap H locs → lh ad ls nL L →
    ∃ a : Array Value, va_Run p l e (rmd d) s m args below meth c H locs 0 0 0 0 (F0 m pc ls (stk0.map (av ad))) (stk.map (av ad)) (E1 ad D cA (va_A (wd sd.1 ad cA σ) H.size) a) (va_A (wd sd.1 ad cA σ) H.size)
theorem wd_free {ad : Nat → Nat} {cA : Nat → ClassId} {A : Nat → Prop} {H0 H : Heap} {locs : List Loc} (hD : va_D A (wd sd.1 ad cA σ)) (hS : va_S A H0 H locs) (hA : ∀ q : Nat, H0.size ≤ q → A q) : ∀ q, va_A (wd sd.1 ad cA σ) H.size q → A q := by
  intro q hq
  rcases hq with ⟨k, e, hk⟩ | hq
  · exact hD.2 k _ hk
  · exact hA q (Nat.le_trans hS.1 hq)
theorem ev_calli {post : Int32 → St → Prop} (hc : Callee sd own cc nL ret d pc L stk0 stk σ (EQi sd post)) (kk : ∀ (r : Int32) (τ : St), post r τ → Ev sd own cc nL ret d E (pc + 3) L (.int r :: stk) τ) : Ev sd own cc nL ret d E pc L stk0 σ := by
  intro p l e s m args below meth c ad D cA A H locs ls C hP hD hS hl
  obtain ⟨a, hr⟩ := hc p l e s m args below meth c ad D cA A H locs ls C hP hD hS hl
  have hF := wd_free hD hS C.2.2.2.2.2.2.2.1
  refine va_calli hr hS (fun q _ h => hF q h) hF (fun r u t H1 locs1 ht hvm hw hB hz1 hk1 hS1 => ?_)
  obtain ⟨hP1, hK1, hD1⟩ := hB
  rw [ht] at hP1
  exact kk r u hw p l e s m args below meth c ad D cA A H1 locs1 ls C hP1 (hD1.weaken (fun _ _ _ h => hF _ h)) hS1 hl
theorem ev_calll {post : Int64 → St → Prop} (hc : Callee sd own cc nL ret d pc L stk0 stk σ (EQl sd post)) (kk : ∀ (r : Int64) (τ : St), post r τ → Ev sd own cc nL ret d E (pc + 3) L (.long r :: stk) τ) : Ev sd own cc nL ret d E pc L stk0 σ := by
  intro p l e s m args below meth c ad D cA A H locs ls C hP hD hS hl
  obtain ⟨a, hr⟩ := hc p l e s m args below meth c ad D cA A H locs ls C hP hD hS hl
  have hF := wd_free hD hS C.2.2.2.2.2.2.2.1
  refine va_calll hr hS (fun q _ h => hF q h) hF (fun r u t H1 locs1 ht hvm hw hB hz1 hk1 hS1 => ?_)
  obtain ⟨hP1, hK1, hD1⟩ := hB
  rw [ht] at hP1
  exact kk r u hw p l e s m args below meth c ad D cA A H1 locs1 ls C hP1 (hD1.weaken (fun _ _ _ h => hF _ h)) hS1 hl
theorem ev_callv {post : St → Prop} (hc : Callee sd own cc nL ret d pc L stk0 stk σ (EQv sd post)) (kk : ∀ (τ : St), post τ → Ev sd own cc nL ret d E (pc + 3) L stk τ) : Ev sd own cc nL ret d E pc L stk0 σ := by
  intro p l e s m args below meth c ad D cA A H locs ls C hP hD hS hl
  obtain ⟨a, hr⟩ := hc p l e s m args below meth c ad D cA A H locs ls C hP hD hS hl
  have hF := wd_free hD hS C.2.2.2.2.2.2.2.1
  refine va_callv hr hS (fun q _ h => hF q h) hF (fun u t H1 locs1 ht hvm hw hB hz1 hk1 hS1 => ?_)
  obtain ⟨hP1, hK1, hD1⟩ := hB
  rw [ht] at hP1
  exact kk u hw p l e s m args below meth c ad D cA A H1 locs1 ls C hP1 (hD1.weaken (fun _ _ _ h => hF _ h)) hS1 hl
theorem stk_sum {ad : Nat → Nat} (hst : (stk.map fun v => v.category).sum ≤ 8) : ((stk.map (av ad)).map fun v => v.category).sum ≤ 8 := by rw [av_cats]; exact hst
theorem map_rev {ad : Nat → Nat} {As : List Value} {b : Nat} (h : stk0 = As.reverse ++ .ref b :: stk) : stk0.map (av ad) = (As.map (av ad)).reverse ++ .ref (ad b) :: stk.map (av ad) := by
  rw [h, List.map_append, List.map_cons, List.map_reverse]; rfl
theorem map_revS {ad : Nat → Nat} {As : List Value} (h : stk0 = As.reverse ++ stk) : stk0.map (av ad) = (As.map (av ad)).reverse ++ stk.map (av ad) := by
  rw [h, List.map_append, List.map_reverse]
/-- the receiver's cell -/
theorem wd_recv {ad : Nat → Nat} {D : va_G} {cA : Nat → ClassId} {H : Heap} {s : State} {c0 ci n0 : Nat} {fs : List Nat} {q : vw_C} (hK : va_K D vwCl (tyk cA sd.2) s) (hP : va_P D vwCl (wd sd.1 ad cA σ) H) (hsh : sd.1[c0]? = some (ci, n0, fs)) (hci : ci < 20) (hq : vwCl[ci]? = some q) : ∃ cell : Cell, H[ad c0]? = some cell ∧ cell.vm.isStatics = false ∧ s.vm.findClass q.1 = some cell.cls :=
  va_recv hK hP hq ((wd_get hsh).trans (by rw [ce_obj hci]))
theorem ce_V {index c0 ci n0 n d1 maxL : Nat} {fs : List Nat} {y : MethodName} {bytes : ByteArray} {rt : Option FieldType} {As : List Value} {E1 : End} {T : u_T} {N : Nat} (hC : Ct sd y bytes maxL rt d1 E1 (.ref c0 :: As) σ) (hw : CWv own index y bytes maxL rt n) (hsh : sd.1[c0]? = some (ci, n0, fs)) (hci : ci < 20) (hq : vwCl[ci]? = some (y.cls, T, N)) (hd : d1 < d) (hn : As.length = n) (hst : (stk.map fun v => v.category).sum ≤ 8) (hs : stk0 = As.reverse ++ .ref c0 :: stk) (hdg : decode cc pc = .ok (.invokevirtual index, 3)) : Callee sd own cc nL ret d pc L stk0 stk σ E1 := by
  intro p l e s m args below meth c ad D cA A H locs ls C hP hD hS hl
  have hts := C.2.2.2.2.2.1
  have hK := C.2.2.2.2.2.2.2.2
  obtain ⟨⟨w1, w2, w3, w4⟩, w5, w6, w7⟩ := hw
  refine ⟨_, va_runV (As := As.map (av ad)) (rest := stk.map (av ad)) (C := y.cls) ⟨C.1, C.2.1, C.2.2.2.1, C.2.2.2.2.1, hts⟩ (hC l ad D cA H.size) (cwV n hts (good_cons w5 (good_cons w6 (good_cons w7 (good_cons w2 (good_cons w1 wsL_good))))) rfl rfl rfl ⟨rfl, w3⟩ ⟨hd, ?_⟩) ⟨preB_blind, wd_recv hK hP hsh hci hq, fun U hU hW => ⟨rfl, by rw [hU], by rw [hU]; exact hP, va_K.moved hW.alike hK, hD.weaken (fun _ _ _ _ => trivial)⟩⟩ rfl (by rw [List.length_map]; exact hn) hl.1 (map_rev hs) (lv_room (stk_sum hst)) hdg ⟨Nat.zero_le _, Nat.zero_le _⟩⟩
  show 8 + (maxL + 11) + 40 * d1 ≤ 40 * d
  omega
theorem ce_S {index n d1 maxL : Nat} {y : MethodName} {bytes : ByteArray} {rt : Option FieldType} {As : List Value} {E1 : End} (hC : Ct sd y bytes maxL rt d1 E1 As σ) (hw : CWs own index y bytes maxL rt n) (hd : d1 < d) (hn : As.length = n) (hst : (stk.map fun v => v.category).sum ≤ 8) (hs : stk0 = As.reverse ++ stk) (hdg : decode cc pc = .ok (.invokestatic index, 3)) : Callee sd own cc nL ret d pc L stk0 stk σ E1 := by
  intro p l e s m args below meth c ad D cA A H locs ls C hP hD hS hl
  have hts := C.2.2.2.2.2.1
  have hK := C.2.2.2.2.2.2.2.2
  obtain ⟨⟨w1, w2, w3, w4⟩, w5, w6⟩ := hw
  refine ⟨_, va_runS (As := As.map (av ad)) (rest := stk.map (av ad)) ⟨C.1, C.2.1, C.2.2.2.1, C.2.2.2.2.1, hts⟩ (hC l ad D cA H.size) (va_cwS n hts (good_cons w5 (good_cons w6 (good_cons w2 (good_cons w1 wsL_good)))) rfl rfl rfl w3 ⟨hd, ?_⟩) ⟨preB_blind, fun U hU hW => ⟨rfl, by rw [hU], by rw [hU]; exact hP, va_K.moved hW.alike hK, hD.weaken (fun _ _ _ _ => trivial)⟩⟩ rfl (by rw [List.length_map]; exact hn) hl.1 (map_revS hs) (lv_room (stk_sum hst)) hdg ⟨Nat.zero_le _, Nat.zero_le _⟩⟩
  show 8 + (maxL + 11) + 40 * d1 ≤ 40 * d
  omega
end EV3
/-! calls of super's method, and of a method that a kind below overrides -/
def CWu (own : String) (index : Nat) (y : MethodName) (bytes : ByteArray) (maxL : Nat) (rt : Option FieldType) (n : Nat) : Prop := CWc y bytes maxL rt n ∧ y.name ≠ "<init>" ∧ Cond.methodLink own index y ∈ wsL_law ∧ Cond.sameMethod y.cls y.cls y.name y.desc ∈ wsL_law ∧ Cond.superclass own y.cls ∈ wsL_law ∧ Cond.instanceMethod y ∈ wsL_law
def CWo (own : String) (index : Nat) (C : String) (x y : MethodName) (bytes : ByteArray) (maxL : Nat) (rt : Option FieldType) (n : Nat) : Prop := CWc y bytes maxL rt n ∧ (x.cls ≠ "java/lang/invoke/MethodHandle" ∧ x.cls ≠ "java/lang/invoke/VarHandle" ∧ (parseMethodDescriptor x.desc).map (fun d => d.parameters.length) = some n) ∧ Cond.methodLink own index x ∈ wsL_law ∧ Cond.sameMethod x.cls x.cls x.name x.desc ∈ wsL_law ∧ Cond.instanceMethod x ∈ wsL_law ∧ Cond.selects C x y ∈ wsL_law ∧ Cond.instanceMethod y ∈ wsL_law ∧ ∃ (b0 : ByteArray) (m0 : Nat) (r0 : Option FieldType), Cond.code x b0 m0 r0 ∈ wsL_law
section EV4
variable {sd : Sd} {own : String} {cc : ByteArray} {nL : Nat} {ret : Option FieldType} {d : Nat} {E : End} {pc : Nat} {L : List (Option Value)} {stk stk0 : List Value} {σ : St}
theorem ce_U {index c0 ci n0 n d1 maxL : Nat} {fs : List Nat} {y : MethodName} {bytes : ByteArray} {rt : Option FieldType} {As : List Value} {E1 : End} {q : vw_C} (hC : Ct sd y bytes maxL rt d1 E1 (.ref c0 :: As) σ) (hw : CWu own index y bytes maxL rt n) (hsh : sd.1[c0]? = some (ci, n0, fs)) (hci : ci < 20) (hq : vwCl[ci]? = some q) (hd : d1 < d) (hn : As.length = n) (hst : (stk.map fun v => v.category).sum ≤ 8) (hs : stk0 = As.reverse ++ .ref c0 :: stk) (hdg : decode cc pc = .ok (.invokespecial index, 3)) : Callee sd own cc nL ret d pc L stk0 stk σ E1 := by
  intro p l e s m args below meth c ad D cA A H locs ls C hP hD hS hl
  have hts := C.2.2.2.2.2.1
  have hK := C.2.2.2.2.2.2.2.2
  obtain ⟨⟨w1, w2, w3, w4⟩, w5, w6, w7, w8, w9⟩ := hw
  refine ⟨_, va_runSU (As := As.map (av ad)) (rest := stk.map (av ad)) (C := q.1) (hK.1 ci q hq).2 ⟨C.1, C.2.1, C.2.2.2.1, C.2.2.2.2.1, hts⟩ (hC l ad D cA H.size) (va_cwSU n hts (good_cons w6 (good_cons w7 (good_cons w8 (good_cons w9 (good_cons w2 (good_cons w1 wsL_good)))))) rfl rfl rfl ⟨w5, w3.2.2⟩ ⟨hd, ?_⟩) ⟨preB_blind, wd_recv hK hP hsh hci hq, fun U hU hW => ⟨rfl, by rw [hU], by rw [hU]; exact hP, va_K.moved hW.alike hK, hD.weaken (fun _ _ _ _ => trivial)⟩⟩ rfl (by rw [List.length_map]; exact hn) hl.1 (map_rev hs) (lv_room (stk_sum hst)) hdg ⟨Nat.zero_le _, Nat.zero_le _⟩⟩
  show 8 + (maxL + 11) + 40 * d1 ≤ 40 * d
  omega
theorem ce_O {index c0 ci n0 n d1 maxL : Nat} {fs : List Nat} {x y : MethodName} {bytes : ByteArray} {rt : Option FieldType} {As : List Value} {E1 : End} {q : vw_C} (hC : Ct sd y bytes maxL rt d1 E1 (.ref c0 :: As) σ) (hw : CWo own index q.1 x y bytes maxL rt n) (hsh : sd.1[c0]? = some (ci, n0, fs)) (hci : ci < 20) (hq : vwCl[ci]? = some q) (hd : d1 < d) (hn : As.length = n) (hst : (stk.map fun v => v.category).sum ≤ 8) (hs : stk0 = As.reverse ++ .ref c0 :: stk) (hdg : decode cc pc = .ok (.invokevirtual index, 3)) : Callee sd own cc nL ret d pc L stk0 stk σ E1 := by
  intro p l e s m args below meth c ad D cA A H locs ls C hP hD hS hl
  have hts := C.2.2.2.2.2.1
  have hK := C.2.2.2.2.2.2.2.2
  obtain ⟨⟨w1, w2, w3, w4⟩, w5, w6, w7, w8, w9, w10, b0, m0, r0, w11⟩ := hw
  refine ⟨_, va_runU (As := As.map (av ad)) (rest := stk.map (av ad)) (C := q.1) ⟨C.1, C.2.1, C.2.2.2.1, C.2.2.2.2.1, hts⟩ (hC l ad D cA H.size) (va_cwO (owner := x.cls) n hts (good_cons w6 (good_cons w7 (good_cons w8 (good_cons w9 (good_cons w10 (good_cons w2 (good_cons w1 wsL_good))))))) rfl rfl rfl w11 w5 ⟨hd, ?_⟩) ⟨preB_blind, wd_recv hK hP hsh hci hq, fun U hU hW => ⟨rfl, by rw [hU], by rw [hU]; exact hP, va_K.moved hW.alike hK, hD.weaken (fun _ _ _ _ => trivial)⟩⟩ rfl (by rw [List.length_map]; exact hn) hl.1 (map_rev hs) (lv_room (stk_sum hst)) hdg ⟨Nat.zero_le _, Nat.zero_le _⟩⟩
  show 8 + (maxL + 11) + 40 * d1 ≤ 40 * d
  omega
end EV4
theorem tab_out {x : Int32} (n : Nat) (hn : n < 2147483647) (h : ∀ k : Nat, k ≤ n → x ≠ Int32.ofNat k) : x.toInt < 0 ∨ (n : Int) < x.toInt := by
  by_cases h0 : x.toInt < 0
  · exact Or.inl h0
  · right
    have h1 : (n : Int) < x.toInt ∨ x.toInt ≤ n := by omega
    rcases h1 with h1 | h1
    · exact h1
    · exfalso
      refine h x.toInt.toNat (by omega) ?_
      apply Int32.toInt_inj.mp
      have : (Int32.ofNat x.toInt.toNat).toInt = ((x.toInt.toNat : Nat) : Int) := nI_toInt (n := x.toInt.toNat) (by omega)
      rw [this]
      omega
