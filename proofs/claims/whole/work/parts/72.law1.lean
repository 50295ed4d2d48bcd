/-! THE CLAIM OUT OF ONE WALK OF THE LAW'S BODY. Your part is whole_start (and what it stands on); all else here is the same for every law, but numbers. -/
def R_law : String := "RegretPitLaw"
def lw_P (b : Addr) (xs : List Int32) (args : Array Value) (s : State) : Prop := args = #[.ref b] ∧ s.IntsAt b xs ∧ xs.length ≤ 256 ∧ (Jvm.Cond.and given_1 narrow_1).before args s = true
def lw_Q (_ : Array Value) (s : State) (o : Outcome) (t : State) : Prop := o = .returned (some (.int 1)) ∧ Framed s o t [] 600000 7302250
def lw_Z (below : List Frame) (a : Array Value) (s : State) : State → Prop := fun t => ∃ o, t.status = .running ∧ Ended t below o ∧ lw_Q a s o t
/-- the law's own end, with 1 on the stack, nothing written that was there before, its room as the claim has it -/
theorem lw_ret {p : Program} {l : Launch} {e : Env} {s : State} {m : MethodId} {below : List Frame} {meth : Method} {c : Code} {b : Nat} (hx : p.tables.exec = Jvm.exec) (hb : c.code = code) (hr : meth.sig.returnType = ret) (hlocks : meth.locks = false) {pc : Nat} {H : Heap} {ls : Array Slot} (hdg : decode code pc = .ok (.ireturn, 1)) : W p l e room_1 s m #[Value.ref b] below meth c H [] 600000 7302250 (lw_Z below #[Value.ref b] s) (F0 m pc ls [.int 1]) := by
  intro T hT X
  obtain ⟨fs, hret, hrun, hended, hW, hframe⟩ := X.leave (v := some (.int 1)) (hlocks := hlocks) (fun h => by rw [hr] at h; cases h)
  have hmeth' : T.vm.method? m = some meth := X.method'
  refine ⟨T.setFrames fs, ?_, .returned (some (.int 1)), hrun, hended, rfl, ⟨_, rfl⟩, hW, hframe⟩
  jvm_step X.here [X.here.top, hx, hb, hdg, hmeth', hr, ret, narrow_b1]
  (try refine ⟨rfl, ?_⟩); (try refine ⟨rfl, ?_⟩)
  first | (intro acts; rw [hret _ acts rfl rfl rfl]) | rw [hret _ _ rfl rfl rfl]
  exact Steps.refl _
/-- what holds at the law's entry: the machine, the code, the tables' words (any of lw_tbl by 'hts w (by decide +kernel)'), the script of L ints xs at the cell b, what the Statement gives of the start (any of its parts by flat_of_before) -/
def lw_At (p : Program) (s : State) (m : MethodId) (meth : Method) (c : Code) (b L : Nat) (xs : Nat → Int32) : Prop :=
  p.tables.exec = Jvm.exec ∧ c.code = code ∧ meth.sig.returnType = ret ∧ c.maxLocals = 4 ∧ s.vm.findClass R_law = some m.cls ∧ (∀ w ∈ lw_tbl, w.before #[Value.ref b] s = true) ∧ va_X b L xs s s.heap ∧ b < s.heap.size ∧ meth.locks = false ∧ (Jvm.Cond.and given_1 narrow_1).before #[Value.ref b] s = true
/-! The two stores at the beginning. -/
theorem rl0 {τ : St} (h : M0 τ) : Rl s0X τ := by
  obtain ⟨τ1, ⟨a1, a2, a3, a4, a5⟩, ⟨m1, m2, m3, m4, m5, m6, m7, m8, m9, m10, m11⟩, h02⟩ := h
  refine ⟨0, ⟨by omega, rfl, m2, by rw [m3, a3]; rfl, by rw [m4, a4]; rfl, show rg 1 6 (3 : Int32) from ⟨by decide, by decide⟩, show rg 0 50 (5 : Int32) from ⟨by decide, by decide⟩, fun m hm => absurd hm (by omega), fun a ha => absurd ha (by omega), fun a ha => absurd ha (by omega), fun m hm => absurd hm (by omega), fun m hm => absurd hm (by omega)⟩, ?_, ?_, ?_, ?_, ?_, ?_, Or.inl rfl⟩
  · exact ⟨fun m hm => absurd hm (by omega), m7 12 (by omega) (by omega), m7 13 (by omega) (by omega), show rg 0 300 (0 : Int32) from ⟨by decide, by decide⟩, 0, by omega, rfl, m7 14 (by omega) (by omega), fun q hq => absurd hq (by omega)⟩
  · exact ⟨⟨m10, Or.inl rfl⟩, ⟨m11, Or.inl rfl⟩⟩
  · exact ⟨0, by omega, rfl, m8, fun j hj => absurd hj (by omega)⟩
  · exact ⟨0, by omega, rfl, m9, fun j hj => absurd hj (by omega)⟩
  · exact ⟨0, by omega, rfl, by rw [h02, a5]; rfl, fun j hj => absurd hj (by omega)⟩
  · unfold RTr
    rw [m1, a1]
    rfl
/-! The law: what stays while it runs. -/
def LC (p : Program) (s : State) (m : MethodId) (meth : Method) (c : Code) (b L : Nat) (xs : Nat → Int32) (D : va_G) (cX cM : Nat → ClassId) : Prop := Cx SX.2 RL cL_law 4 ret p s m #[Value.ref b] meth c D cX (fun q => s.heap.size ≤ q) ∧ va_K D vwCl (tyk cM SM.2) s ∧ va_X b L xs s s.heap ∧ b < s.heap.size ∧ L ≤ 256
abbrev LE (p : Program) (l : Launch) (e : Env) (s : State) (m : MethodId) (below : List Frame) (meth : Method) (c : Code) (b : Nat) (D : va_G) (ls : Array Slot) (pc : Nat) (stk : List Value) (ws : va_W) : Prop := Eg p l e room_1 s m #[Value.ref b] below meth c (lw_Z below #[Value.ref b] s) ls D (fun q => s.heap.size ≤ q) pc stk ws 96 2903
section LAW
variable {p : Program} {l : Launch} {e : Env} {s : State} {m : MethodId} {below : List Frame} {meth : Method} {c : Code} {b L : Nat} {xs : Nat → Int32} {D : va_G} {cX cM : Nat → ClassId} {ls : Array Slot} {pc : Nat} {stk : List Value} {ws : va_W} {i aM aX : Nat}
theorem eg_swap {a d : va_W} (kk : LE p l e s m below meth c b D ls pc stk (d ++ a)) : LE p l e s m below meth c b D ls pc stk (a ++ d) := fun H locs hP hD hS => kk H locs (P_swap hP) (D_swap hD) hS
theorem l_arg {k : Nat} {kn : Int} (HC : LC p s m meth c b L xs D cX cM) (hl : lv_has ls 4 [(3, .int (nI i)), (2, .ref aM), (1, .ref aX), (0, .ref b)]) (hi : i + k < L) (hk : Int32.ofInt kn = nI k) (d1 : decode cL_law pc = .ok (.aload_n 0, 1)) (d2 : decode cL_law (pc + 1) = .ok (.iload_n 3, 1)) (d3 : decode cL_law (pc + 1 + 1) = .ok (.iconst kn, 1)) (d4 : decode cL_law (pc + 1 + 1 + 1) = .ok (.iadd, 1)) (d5 : decode cL_law (pc + 1 + 1 + 1 + 1) = .ok (.iaload, 1)) (kk : LE p l e s m below meth c b D ls (pc + 1 + 1 + 1 + 1 + 1) (.int (xs (i + k)) :: stk) ws) : LE p l e s m below meth c b D ls pc stk ws := by
  intro H locs hP hD hS
  have C := HC.1
  have hL := HC.2.2.2.2
  refine lv_aload_n C.1 C.2.1 d1 rfl (lv_at hl 3 rfl) (lv_iload_n C.1 C.2.1 d2 rfl (lv_at hl 0 rfl) (lv_iconst C.1 C.2.1 d3 hk (lv_iadd C.1 C.2.1 d4 ?_)))
  rw [nI_add]
  refine va_sld C.1 C.2.1 HC.2.2.1 HC.2.2.2.1 (Nat.not_le.mpr HC.2.2.2.1) hS (vp_in_nI hi (by omega)) d5 ?_
  rw [nI_clamp (by omega)]
  exact kk H locs hP hD hS
theorem l_cmp {r r' : Int32} {off : Int} (HC : LC p s m meth c b L xs D cX cM) (h : r = r') (hdg : decode cL_law pc = .ok (.if_icmp .eq off, 3)) (ht : (pc : Int) + off = ((949 : Nat) : Int)) (kk : LE p l e s m below meth c b D ls 949 [] ws) : LE p l e s m below meth c b D ls pc [.int r', .int r] ws := fun H locs hP hD hS => lv_icmp_eq HC.1.1 HC.1.2.1 hdg ht (fun _ => kk H locs hP hD hS) (fun w => absurd h w)
theorem l_cmpl {r r' : Int64} {off : Int} (HC : LC p s m meth c b L xs D cX cM) (h : r = r') (hdg : decode cL_law pc = .ok (.lcmp, 1)) (hdg2 : decode cL_law (pc + 1) = .ok (.ifCond .eq off, 3)) (ht : ((pc + 1 : Nat) : Int) + off = ((949 : Nat) : Int)) (kk : LE p l e s m below meth c b D ls 949 [] ws) : LE p l e s m below meth c b D ls pc [.long r', .long r] ws := fun H locs hP hD hS => W.lcmp HC.1.1 HC.1.2.1 hdg (lv_if_eq HC.1.1 HC.1.2.1 hdg2 ht (fun _ => kk H locs hP hD hS) (fun w => absurd (by rw [h, lg_cmp, if_neg (by rw [gt_iff_lt, Int64.lt_iff_toInt_lt]; omega), if_pos rfl]) w))
end LAW
