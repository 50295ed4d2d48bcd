/-! Constructors: their contracts. -/
abbrev UU : Type := (Nat → Nat) × St
def pI (ts : List FieldType) (D : va_G) (cA : Nat → ClassId) (ws0 : va_W) (sz : Nat) : State → Prop := fun U => U.heap.size = sz ∧ va_P D vwCl ws0 U.heap ∧ va_K D vwCl (tyk cA ts) U ∧ va_D (fun _ => True) ws0 ∧ ZZ U
theorem pI_blind {ts : List FieldType} {D : va_G} {cA : Nat → ClassId} {ws0 : va_W} {sz : Nat} {avs : List Value} : FrameBlind (va_Pc avs (pI ts D cA ws0 sz)) := fun a U g mk q => by
  obtain ⟨q0, q1, qP, qK, qD, qZ⟩ := q
  exact ⟨q0, q1, qP, va_K.moved (u := U) (U := U.calling g mk a) (Vm.Alike.refl U.vm) qK, qD, qZ.calling⟩
/-- the end of a constructor: the cell's address stands first, the world is the block's -/
def EI (D : va_G) (A : Nat → Prop) (h0 : Nat) (W1 : UU → va_W) (post : UU → Prop) : Array Value → State → Outcome → State → Prop := va_Qv (fun u : UU => u.1 0 = h0 ∧ post u) (fun u t => va_P D vwCl (W1 u) t.heap ∧ va_D A (W1 u)) A
def CtI (ts : List FieldType) (y : MethodName) (cc : ByteArray) (nL d mc ms ci : Nat) (fs0 : List Value) (blk : UU → (Nat → ClassId) → va_W) (post : UU → Prop) : Prop :=
  ∀ (l : Launch) (D : va_G) (cA : Nat → ClassId) (sz h0 : Nat), Met l y (.code y cc nL none :: wsL_law) (rmI d mc ms) (va_Pc [.ref h0] (pI ts D cA [(h0, .inr (ci, fs0))] sz))
    (EI D (va_A [(h0, .inr (ci, fs0))] sz) h0 (fun u => blk u cA) post) mc ms (va_A [(h0, .inr (ci, fs0))] sz)
theorem cti_of {ts : List FieldType} {y : MethodName} {cc : ByteArray} {nL d mc ms ci : Nat} {fs0 : List Value} {blk : UU → (Nat → ClassId) → va_W} {post : UU → Prop} (hy : plainName y.cls = true) (hn : y.name = "<init>") (h1 : 1 ≤ nL)
    (h : ∀ (p : Program) (l : Launch) (e : Env) (s : State) (m : MethodId) (args : Array Value) (below : List Frame) (meth : Method) (c : Code) (D : va_G) (cA : Nat → ClassId) (A : Nat → Prop) (ls : Array Slot) (h0 : Nat), Cx ts y.cls cc nL none p s m args meth c D cA A → meth.name = "<init>" → ZZ s → ls.size = nL → ls[0]? = some (.val (.ref h0)) →
      Eg p l e (rmI d mc ms) s m args below meth c (MQ below (EI D A h0 (fun u => blk u cA) post) args s mc ms A) ls D A 0 [] [(h0, .inr (ci, fs0))] 0 0) : CtI ts y cc nL d mc ms ci fs0 blk post := by
  intro l D cA sz h0
  refine Met.ofW (cc := cc) (maxL := nL) (ret := none) hy rfl ?_
  intro p e s m args below meth c s₁ B hml hv
  obtain ⟨rfl, hsz, hP, hK, hD0, hZ⟩ := hv
  have hts := atoms_spec (ws := .code y cc nL none :: wsL_law) B.pre
  have hown : s.vm.findClass y.cls = some m.cls := findClass_of_methodNamed B.named
  have hin : meth.name = "<init>" := (name_of_methodNamed B.named B.method).1.trans hn
  subst hsz
  have hl := lv_entry [Value.ref h0] (n := nL) h1
  rw [lg_entry_eq]
  exact h p l e s m _ below meth c D cA _ _ h0 ⟨B.exec, B.bytes, B.returns, hml, hown, fun w hw => hts w (List.mem_cons_of_mem _ hw), B.notSynchronized, fun q h => Or.inr h, hK⟩ hin hZ hl.1 (lv_at hl 0 rfl) s.heap [] hP (hD0.self (sz := s.heap.size)) va_S.rf
section EG2
variable {p : Program} {l : Launch} {e : Env} {R : Room} {s : State} {m : MethodId} {args : Array Value} {below : List Frame} {meth : Method} {c : Code} {Q : State → Prop} {ls : Array Slot} {D : va_G} {A : Nat → Prop} {pc : Nat} {stk : List Value} {ws : va_W} {cells slots : Nat}
variable {ts : List FieldType} {own : String} {cc : ByteArray} {nL : Nat} {ret : Option FieldType} {cA : Nat → ClassId}
theorem eg_ret {h0 : Nat} {W1 : UU → va_W} {post : UU → Prop} (u : UU) (C : Cx ts own cc nL none p s m args meth c D cA A) (hu : u.1 0 = h0) (hp : post u) (hP' : ∀ H, va_P D vwCl ws H → va_P D vwCl (W1 u) H) (hD' : va_D A ws → va_D A (W1 u)) (hdg : decode cc pc = .ok (.return_, 1)) : Eg p l e R s m args below meth c (MQ below (EI D A h0 W1 post) args s cells slots A) ls D A pc [] ws cells slots := by
  intro H locs hP hD hS
  exact W.vret C.1 C.2.1 C.2.2.1 (fun t ht hW => ⟨⟨u, rfl, ⟨hu, hp⟩, by rw [ht]; exact hP' H hP, hD' hD⟩, hS.F ht⟩) hS.2.2 hdg (hlocks := C.2.2.2.2.2.2.1)
/-- a nest mate's constructor -/
theorem eg_callN {index q d1 mc ms maxL ci : Nat} {y : MethodName} {bytes : ByteArray} {fs0 : List Value} {blk : UU → (Nat → ClassId) → va_W} {post : UU → Prop} (C : Cx ts own cc nL ret p s m args meth c D cA A) (hZ : ZZ s) (hls : ls.size = nL) (hC : CtI ts y bytes maxL d1 mc ms ci fs0 blk post) (hnt : (own, index, y) ∈ nestT) (hw : CWc y bytes maxL none 0) (hw2 : Cond.instanceMethod y ∈ wsL_law) (hyn : y.name = "<init>") (hf : d1 + 1 ≤ R.frames ∧ 8 + (maxL + 11) + 40 * d1 ≤ R.locals) (hst : (stk.map fun v => v.category).sum ≤ 8) (hcl : cells + mc ≤ R.cells ∧ slots + ms ≤ R.slots) (hdg : decode cc pc = .ok (.invokespecial index, 3))
    (kk : ∀ u : UU, u.1 0 = q → post u → Eg p l e R s m args below meth c Q ls D A (pc + 3) stk (ws ++ blk u cA) (cells + mc) (slots + ms)) : Eg p l e R s m args below meth c Q ls D A pc (.ref q :: stk) (ws ++ [(q, .inr (ci, fs0))]) cells slots := by
  intro H locs hP hD hS
  have hts := C.2.2.2.2.2.1
  have hK := C.2.2.2.2.2.2.2.2
  have hF := free_app hD hS C.2.2.2.2.2.2.2.1
  obtain ⟨w1, w2, w3, w4⟩ := hw
  refine va_callv (va_runIN (As := []) (rest := stk) (host := RX11) ⟨C.1, C.2.1, C.2.2.2.1, C.2.2.2.2.1, hts⟩ (hC l D cA H.size q) ⟨va_cnB 0 hts (good_cons w1 wsL_good) rfl rfl rfl (hZ.2.2.2.1 _ hnt) (hts _ w2) w3 hf, hyn, hts _ hw2⟩ ⟨pI_blind, fun U hU hW => ⟨rfl, by rw [hU], by rw [hU]; exact P_right hP, va_K.moved hW.alike hK, (D_right hD).weaken (fun _ _ _ _ => trivial), hZ.warm hW⟩⟩ rfl rfl hls rfl (lv_room hst) hdg hcl) hS (fun q _ h => hF q h) hF (fun u t H1 locs1 ht hvm hw hB hz1 hk1 hS1 => ?_)
  obtain ⟨hP1, hD1⟩ := hB
  rw [ht] at hP1
  obtain ⟨hP2, hD2⟩ := join_app hP hD hk1 hF hP1 hD1
  exact kk u hw.1 hw.2 H1 locs1 hP2 hD2 hS1
/-- a constructor that is linked plainly -/
theorem eg_callI {index q d1 mc ms maxL ci : Nat} {y : MethodName} {bytes : ByteArray} {fs0 : List Value} {blk : UU → (Nat → ClassId) → va_W} {post : UU → Prop} (C : Cx ts own cc nL ret p s m args meth c D cA A) {ts1 : List FieldType} {cA1 : Nat → ClassId} (hK1 : va_K D vwCl (tyk cA1 ts1) s) (hZ : ZZ s) (hls : ls.size = nL) (hC : CtI ts1 y bytes maxL d1 mc ms ci fs0 blk post) (hlk : Cond.methodLink own index y ∈ wsL_law) (hw : CWc y bytes maxL none 0) (hw2 : Cond.instanceMethod y ∈ wsL_law) (hyn : y.name = "<init>") (hf : d1 + 1 ≤ R.frames ∧ 8 + (maxL + 11) + 40 * d1 ≤ R.locals) (hst : (stk.map fun v => v.category).sum ≤ 8) (hcl : cells + mc ≤ R.cells ∧ slots + ms ≤ R.slots) (hdg : decode cc pc = .ok (.invokespecial index, 3))
    (kk : ∀ u : UU, u.1 0 = q → post u → Eg p l e R s m args below meth c Q ls D A (pc + 3) stk (ws ++ blk u cA1) (cells + mc) (slots + ms)) : Eg p l e R s m args below meth c Q ls D A pc (.ref q :: stk) (ws ++ [(q, .inr (ci, fs0))]) cells slots := by
  intro H locs hP hD hS
  have hts := C.2.2.2.2.2.1
  have hF := free_app hD hS C.2.2.2.2.2.2.2.1
  obtain ⟨w1, w2, w3, w4⟩ := hw
  refine va_callv (va_runI (As := []) (rest := stk) ⟨C.1, C.2.1, C.2.2.2.1, C.2.2.2.2.1, hts⟩ (hC l D cA1 H.size q) (cwI 0 hts (good_cons w1 wsL_good) rfl rfl rfl (hts _ w2) (hts _ hlk) (hts _ hw2) hyn w3 hf) ⟨pI_blind, fun U hU hW => ⟨rfl, by rw [hU], by rw [hU]; exact P_right hP, va_K.moved hW.alike hK1, (D_right hD).weaken (fun _ _ _ _ => trivial), hZ.warm hW⟩⟩ rfl rfl hls rfl (lv_room hst) hdg hcl) hS (fun q _ h => hF q h) hF (fun u t H1 locs1 ht hvm hw hB hz1 hk1 hS1 => ?_)
  obtain ⟨hP1, hD1⟩ := hB
  rw [ht] at hP1
  obtain ⟨hP2, hD2⟩ := join_app hP hD hk1 hF hP1 hD1
  exact kk u hw.1 hw.2 H1 locs1 hP2 hD2 hS1
/-- a method of one side, the other side's cells ahead -/
theorem eg_Vv {sd : Sd} {wr : va_W} {ad : Nat → Nat} {cA1 : Nat → ClassId} {σ : St} {stk0 : List Value} {index c0 ci n0 n d1 maxL : Nat} {fs : List Nat} {y : MethodName} {bytes : ByteArray} {rt : Option FieldType} {As : List Value} {T : u_T} {N : Nat} {post : St → Prop} (C : Cx ts own cc nL ret p s m args meth c D cA A) (hK1 : va_K D vwCl (tyk cA1 sd.2) s) (hls : ls.size = nL) (hC : Ct sd y bytes maxL rt d1 (EQv sd post) (.ref c0 :: As) σ) (hw : CWv own index y bytes maxL rt n) (hsh : sd.1[c0]? = some (ci, n0, fs)) (hci : ci < 20) (hq : vwCl[ci]? = some (y.cls, T, N)) (hf : d1 + 1 ≤ R.frames ∧ 8 + (maxL + 11) + 40 * d1 ≤ R.locals) (hn : As.length = n) (hst : (stk.map fun v => v.category).sum ≤ 8) (hs : stk0 = (As.map (av ad)).reverse ++ .ref (ad c0) :: stk) (hdg : decode cc pc = .ok (.invokevirtual index, 3)) (hcl : cells ≤ R.cells ∧ slots ≤ R.slots)
    (kk : ∀ τ : St, post τ → Eg p l e R s m args below meth c Q ls D A (pc + 3) (stk) (wr ++ wd sd.1 ad cA1 τ) cells slots) : Eg p l e R s m args below meth c Q ls D A pc stk0 (wr ++ wd sd.1 ad cA1 σ) cells slots := by
  intro H locs hP hD hS
  have hts := C.2.2.2.2.2.1
  have hF := free_app hD hS C.2.2.2.2.2.2.2.1
  obtain ⟨⟨w1, w2, w3, w4⟩, w5, w6, w7⟩ := hw
  refine va_callv (va_runV (As := As.map (av ad)) (rest := stk) (C := y.cls) ⟨C.1, C.2.1, C.2.2.2.1, C.2.2.2.2.1, hts⟩ (hC l ad D cA1 H.size) (cwV n hts (good_cons w5 (good_cons w6 (good_cons w7 (good_cons w2 (good_cons w1 wsL_good))))) rfl rfl rfl ⟨rfl, w3⟩ hf) ⟨preB_blind, wd_recv hK1 (P_right hP) hsh hci hq, fun U hU hW => ⟨rfl, by rw [hU], by rw [hU]; exact P_right hP, va_K.moved hW.alike hK1, (D_right hD).weaken (fun _ _ _ _ => trivial)⟩⟩ rfl (by rw [List.length_map]; exact hn) hls hs (lv_room hst) hdg hcl) hS (fun q _ h => hF q h) hF (fun u t H1 locs1 ht hvm hw hB hz1 hk1 hS1 => ?_)
  obtain ⟨hP1, hK2, hD1⟩ := hB
  rw [ht] at hP1
  obtain ⟨hP2, hD2⟩ := join_app hP hD hk1 hF hP1 hD1
  exact kk u hw H1 locs1 hP2 hD2 hS1
/-- a method of one side, the other side's cells ahead -/
theorem eg_Vi {sd : Sd} {wr : va_W} {ad : Nat → Nat} {cA1 : Nat → ClassId} {σ : St} {stk0 : List Value} {index c0 ci n0 n d1 maxL : Nat} {fs : List Nat} {y : MethodName} {bytes : ByteArray} {rt : Option FieldType} {As : List Value} {T : u_T} {N : Nat} {post : Int32 → St → Prop} (C : Cx ts own cc nL ret p s m args meth c D cA A) (hK1 : va_K D vwCl (tyk cA1 sd.2) s) (hls : ls.size = nL) (hC : Ct sd y bytes maxL rt d1 (EQi sd post) (.ref c0 :: As) σ) (hw : CWv own index y bytes maxL rt n) (hsh : sd.1[c0]? = some (ci, n0, fs)) (hci : ci < 20) (hq : vwCl[ci]? = some (y.cls, T, N)) (hf : d1 + 1 ≤ R.frames ∧ 8 + (maxL + 11) + 40 * d1 ≤ R.locals) (hn : As.length = n) (hst : (stk.map fun v => v.category).sum ≤ 8) (hs : stk0 = (As.map (av ad)).reverse ++ .ref (ad c0) :: stk) (hdg : decode cc pc = .ok (.invokevirtual index, 3)) (hcl : cells ≤ R.cells ∧ slots ≤ R.slots)
    (kk : ∀ (r : Int32) (τ : St), post r τ → Eg p l e R s m args below meth c Q ls D A (pc + 3) (.int r :: stk) (wr ++ wd sd.1 ad cA1 τ) cells slots) : Eg p l e R s m args below meth c Q ls D A pc stk0 (wr ++ wd sd.1 ad cA1 σ) cells slots := by
  intro H locs hP hD hS
  have hts := C.2.2.2.2.2.1
  have hF := free_app hD hS C.2.2.2.2.2.2.2.1
  obtain ⟨⟨w1, w2, w3, w4⟩, w5, w6, w7⟩ := hw
  refine va_calli (va_runV (As := As.map (av ad)) (rest := stk) (C := y.cls) ⟨C.1, C.2.1, C.2.2.2.1, C.2.2.2.2.1, hts⟩ (hC l ad D cA1 H.size) (cwV n hts (good_cons w5 (good_cons w6 (good_cons w7 (good_cons w2 (good_cons w1 wsL_good))))) rfl rfl rfl ⟨rfl, w3⟩ hf) ⟨preB_blind, wd_recv hK1 (P_right hP) hsh hci hq, fun U hU hW => ⟨rfl, by rw [hU], by rw [hU]; exact P_right hP, va_K.moved hW.alike hK1, (D_right hD).weaken (fun _ _ _ _ => trivial)⟩⟩ rfl (by rw [List.length_map]; exact hn) hls hs (lv_room hst) hdg hcl) hS (fun q _ h => hF q h) hF (fun r u t H1 locs1 ht hvm hw hB hz1 hk1 hS1 => ?_)
  obtain ⟨hP1, hK2, hD1⟩ := hB
  rw [ht] at hP1
  obtain ⟨hP2, hD2⟩ := join_app hP hD hk1 hF hP1 hD1
  exact kk r u hw H1 locs1 hP2 hD2 hS1
/-- a method of one side, the other side's cells ahead -/
theorem eg_Vl {sd : Sd} {wr : va_W} {ad : Nat → Nat} {cA1 : Nat → ClassId} {σ : St} {stk0 : List Value} {index c0 ci n0 n d1 maxL : Nat} {fs : List Nat} {y : MethodName} {bytes : ByteArray} {rt : Option FieldType} {As : List Value} {T : u_T} {N : Nat} {post : Int64 → St → Prop} (C : Cx ts own cc nL ret p s m args meth c D cA A) (hK1 : va_K D vwCl (tyk cA1 sd.2) s) (hls : ls.size = nL) (hC : Ct sd y bytes maxL rt d1 (EQl sd post) (.ref c0 :: As) σ) (hw : CWv own index y bytes maxL rt n) (hsh : sd.1[c0]? = some (ci, n0, fs)) (hci : ci < 20) (hq : vwCl[ci]? = some (y.cls, T, N)) (hf : d1 + 1 ≤ R.frames ∧ 8 + (maxL + 11) + 40 * d1 ≤ R.locals) (hn : As.length = n) (hst : (stk.map fun v => v.category).sum ≤ 8) (hs : stk0 = (As.map (av ad)).reverse ++ .ref (ad c0) :: stk) (hdg : decode cc pc = .ok (.invokevirtual index, 3)) (hcl : cells ≤ R.cells ∧ slots ≤ R.slots)
    (kk : ∀ (r : Int64) (τ : St), post r τ → Eg p l e R s m args below meth c Q ls D A (pc + 3) (.long r :: stk) (wr ++ wd sd.1 ad cA1 τ) cells slots) : Eg p l e R s m args below meth c Q ls D A pc stk0 (wr ++ wd sd.1 ad cA1 σ) cells slots := by
  intro H locs hP hD hS
  have hts := C.2.2.2.2.2.1
  have hF := free_app hD hS C.2.2.2.2.2.2.2.1
  obtain ⟨⟨w1, w2, w3, w4⟩, w5, w6, w7⟩ := hw
  refine va_calll (va_runV (As := As.map (av ad)) (rest := stk) (C := y.cls) ⟨C.1, C.2.1, C.2.2.2.1, C.2.2.2.2.1, hts⟩ (hC l ad D cA1 H.size) (cwV n hts (good_cons w5 (good_cons w6 (good_cons w7 (good_cons w2 (good_cons w1 wsL_good))))) rfl rfl rfl ⟨rfl, w3⟩ hf) ⟨preB_blind, wd_recv hK1 (P_right hP) hsh hci hq, fun U hU hW => ⟨rfl, by rw [hU], by rw [hU]; exact P_right hP, va_K.moved hW.alike hK1, (D_right hD).weaken (fun _ _ _ _ => trivial)⟩⟩ rfl (by rw [List.length_map]; exact hn) hls hs (lv_room hst) hdg hcl) hS (fun q _ h => hF q h) hF (fun r u t H1 locs1 ht hvm hw hB hz1 hk1 hS1 => ?_)
  obtain ⟨hP1, hK2, hD1⟩ := hB
  rw [ht] at hP1
  obtain ⟨hP2, hD2⟩ := join_app hP hD hk1 hF hP1 hD1
  exact kk r u hw H1 locs1 hP2 hD2 hS1
end EG2
