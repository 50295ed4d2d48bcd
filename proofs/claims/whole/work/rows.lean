section
-- ===== PART A: goes FIRST, ahead of the names: the tables' words, and 'selects' of the private methods out of them =====
/-- a private method of a class that the tables say can be made, by its rows of tables_1 -/
def lw_okq (q : MethodName × Nat) : Prop := (q.1.cls ≠ "java/lang/invoke/MethodHandle" ∧ q.1.cls ≠ "java/lang/invoke/VarHandle") ∧ Cond.instantiable q.1.cls q.2 ∈ tables_1 ∧ Cond.privateMethod q.1 ∈ tables_1 ∧ Cond.instanceMethod q.1 ∈ tables_1
theorem lw_p0 : lw_okq (⟨"RegretPit$Text", "readsToken", "()V"⟩, 9) := ⟨⟨by decide +kernel, by decide +kernel⟩, List.mem_of_getElem? (i := 27) (by decide +kernel), List.mem_of_getElem? (i := 342) (by decide +kernel), List.mem_of_getElem? (i := 343) (by decide +kernel)⟩
theorem lw_p1 : lw_okq (⟨"RegretPit$Text", "signAt", "(I)I"⟩, 9) := ⟨⟨by decide +kernel, by decide +kernel⟩, List.mem_of_getElem? (i := 27) (by decide +kernel), List.mem_of_getElem? (i := 346) (by decide +kernel), List.mem_of_getElem? (i := 347) (by decide +kernel)⟩
theorem lw_p2 : lw_okq (⟨"RegretPit$Text", "readsValue", "(I)V"⟩, 9) := ⟨⟨by decide +kernel, by decide +kernel⟩, List.mem_of_getElem? (i := 27) (by decide +kernel), List.mem_of_getElem? (i := 350) (by decide +kernel), List.mem_of_getElem? (i := 351) (by decide +kernel)⟩
theorem lw_p3 : lw_okq (⟨"RegretPit$Text", "readsItem", "(LRegretPit$Crew;)V"⟩, 9) := ⟨⟨by decide +kernel, by decide +kernel⟩, List.mem_of_getElem? (i := 27) (by decide +kernel), List.mem_of_getElem? (i := 354) (by decide +kernel), List.mem_of_getElem? (i := 355) (by decide +kernel)⟩
theorem lw_p4 : lw_okq (⟨"RegretPit$Text", "readsMan", "(LRegretPit$Crew;)V"⟩, 9) := ⟨⟨by decide +kernel, by decide +kernel⟩, List.mem_of_getElem? (i := 27) (by decide +kernel), List.mem_of_getElem? (i := 358) (by decide +kernel), List.mem_of_getElem? (i := 359) (by decide +kernel)⟩
theorem lw_p5 : lw_okq (⟨"RegretPit$Text", "readsNumber", "(II)I"⟩, 9) := ⟨⟨by decide +kernel, by decide +kernel⟩, List.mem_of_getElem? (i := 27) (by decide +kernel), List.mem_of_getElem? (i := 362) (by decide +kernel), List.mem_of_getElem? (i := 363) (by decide +kernel)⟩
theorem lw_p6 : lw_okq (⟨"RegretPit$Text", "readsTwo", "(LRegretPit$Crew;I)V"⟩, 9) := ⟨⟨by decide +kernel, by decide +kernel⟩, List.mem_of_getElem? (i := 27) (by decide +kernel), List.mem_of_getElem? (i := 366) (by decide +kernel), List.mem_of_getElem? (i := 367) (by decide +kernel)⟩
theorem lw_p7 : lw_okq (⟨"RegretPit$Crew", "measures", "(I)V"⟩, 8) := ⟨⟨by decide +kernel, by decide +kernel⟩, List.mem_of_getElem? (i := 63) (by decide +kernel), List.mem_of_getElem? (i := 377) (by decide +kernel), List.mem_of_getElem? (i := 378) (by decide +kernel)⟩
theorem lw_p8 : lw_okq (⟨"RegretPit$Crew", "aheadOfCut", "(III)I"⟩, 8) := ⟨⟨by decide +kernel, by decide +kernel⟩, List.mem_of_getElem? (i := 63) (by decide +kernel), List.mem_of_getElem? (i := 435) (by decide +kernel), List.mem_of_getElem? (i := 436) (by decide +kernel)⟩
theorem lw_p9 : lw_okq (⟨"RegretPit", "sumOf", "([I)I"⟩, 18) := ⟨⟨by decide +kernel, by decide +kernel⟩, List.mem_of_getElem? (i := 19) (by decide +kernel), List.mem_of_getElem? (i := 472) (by decide +kernel), List.mem_of_getElem? (i := 473) (by decide +kernel)⟩
theorem lw_p10 : lw_okq (⟨"RegretPit", "payForAll", "()I"⟩, 18) := ⟨⟨by decide +kernel, by decide +kernel⟩, List.mem_of_getElem? (i := 19) (by decide +kernel), List.mem_of_getElem? (i := 476) (by decide +kernel), List.mem_of_getElem? (i := 477) (by decide +kernel)⟩
theorem lw_p11 : lw_okq (⟨"RegretPit$Planner", "isStart", "(LRegretPit$Crew;[I)Z"⟩, 7) := ⟨⟨by decide +kernel, by decide +kernel⟩, List.mem_of_getElem? (i := 148) (by decide +kernel), List.mem_of_getElem? (i := 502) (by decide +kernel), List.mem_of_getElem? (i := 503) (by decide +kernel)⟩
theorem lw_p12 : lw_okq (⟨"RegretPit$Planner", "looks", "(LRegretPit$Crew;II)V"⟩, 7) := ⟨⟨by decide +kernel, by decide +kernel⟩, List.mem_of_getElem? (i := 148) (by decide +kernel), List.mem_of_getElem? (i := 506) (by decide +kernel), List.mem_of_getElem? (i := 507) (by decide +kernel)⟩
theorem lw_p13 : lw_okq (⟨"RegretPit$Planner", "takes", "(I)V"⟩, 7) := ⟨⟨by decide +kernel, by decide +kernel⟩, List.mem_of_getElem? (i := 148) (by decide +kernel), List.mem_of_getElem? (i := 510) (by decide +kernel), List.mem_of_getElem? (i := 511) (by decide +kernel)⟩
theorem lw_p14 : lw_okq (⟨"RegretPit$Planner", "ceiling", "(LRegretPit$Crew;[I)I"⟩, 7) := ⟨⟨by decide +kernel, by decide +kernel⟩, List.mem_of_getElem? (i := 148) (by decide +kernel), List.mem_of_getElem? (i := 515) (by decide +kernel), List.mem_of_getElem? (i := 516) (by decide +kernel)⟩
theorem lw_p15 : lw_okq (⟨"RegretPit$Planner", "holds", "(LRegretPit$Crew;[I)Z"⟩, 7) := ⟨⟨by decide +kernel, by decide +kernel⟩, List.mem_of_getElem? (i := 148) (by decide +kernel), List.mem_of_getElem? (i := 526) (by decide +kernel), List.mem_of_getElem? (i := 527) (by decide +kernel)⟩
def lw_privs_1 : List (MethodName × Nat) := [(⟨"RegretPit$Text", "readsToken", "()V"⟩, 9), (⟨"RegretPit$Text", "signAt", "(I)I"⟩, 9), (⟨"RegretPit$Text", "readsValue", "(I)V"⟩, 9), (⟨"RegretPit$Text", "readsItem", "(LRegretPit$Crew;)V"⟩, 9), (⟨"RegretPit$Text", "readsMan", "(LRegretPit$Crew;)V"⟩, 9), (⟨"RegretPit$Text", "readsNumber", "(II)I"⟩, 9), (⟨"RegretPit$Text", "readsTwo", "(LRegretPit$Crew;I)V"⟩, 9), (⟨"RegretPit$Crew", "measures", "(I)V"⟩, 8), (⟨"RegretPit$Crew", "aheadOfCut", "(III)I"⟩, 8), (⟨"RegretPit", "sumOf", "([I)I"⟩, 18), (⟨"RegretPit", "payForAll", "()I"⟩, 18), (⟨"RegretPit$Planner", "isStart", "(LRegretPit$Crew;[I)Z"⟩, 7), (⟨"RegretPit$Planner", "looks", "(LRegretPit$Crew;II)V"⟩, 7), (⟨"RegretPit$Planner", "takes", "(I)V"⟩, 7), (⟨"RegretPit$Planner", "ceiling", "(LRegretPit$Crew;[I)I"⟩, 7), (⟨"RegretPit$Planner", "holds", "(LRegretPit$Crew;[I)Z"⟩, 7)]
theorem lw_r1 : ∀ q ∈ lw_privs_1, lw_okq q := List.forall_mem_cons.mpr ⟨lw_p0, List.forall_mem_cons.mpr ⟨lw_p1, List.forall_mem_cons.mpr ⟨lw_p2, List.forall_mem_cons.mpr ⟨lw_p3, List.forall_mem_cons.mpr ⟨lw_p4, List.forall_mem_cons.mpr ⟨lw_p5, List.forall_mem_cons.mpr ⟨lw_p6, List.forall_mem_cons.mpr ⟨lw_p7, List.forall_mem_cons.mpr ⟨lw_p8, List.forall_mem_cons.mpr ⟨lw_p9, List.forall_mem_cons.mpr ⟨lw_p10, List.forall_mem_cons.mpr ⟨lw_p11, List.forall_mem_cons.mpr ⟨lw_p12, List.forall_mem_cons.mpr ⟨lw_p13, List.forall_mem_cons.mpr ⟨lw_p14, List.forall_mem_cons.mpr ⟨lw_p15, fun _ h => absurd h List.not_mem_nil⟩⟩⟩⟩⟩⟩⟩⟩⟩⟩⟩⟩⟩⟩⟩⟩
theorem lw_p16 : lw_okq (⟨"RegretPit$Matcher", "looks", "(LRegretPit$Crew;II)V"⟩, 3) := ⟨⟨by decide +kernel, by decide +kernel⟩, List.mem_of_getElem? (i := 180) (by decide +kernel), List.mem_of_getElem? (i := 556) (by decide +kernel), List.mem_of_getElem? (i := 557) (by decide +kernel)⟩
theorem lw_p17 : lw_okq (⟨"RegretPit$Matcher", "takes", "(I)V"⟩, 3) := ⟨⟨by decide +kernel, by decide +kernel⟩, List.mem_of_getElem? (i := 180) (by decide +kernel), List.mem_of_getElem? (i := 560) (by decide +kernel), List.mem_of_getElem? (i := 561) (by decide +kernel)⟩
theorem lw_p18 : lw_okq (⟨"RegretPit", "isLitBy", "(I)Z"⟩, 18) := ⟨⟨by decide +kernel, by decide +kernel⟩, List.mem_of_getElem? (i := 19) (by decide +kernel), List.mem_of_getElem? (i := 577) (by decide +kernel), List.mem_of_getElem? (i := 578) (by decide +kernel)⟩
theorem lw_p19 : lw_okq (⟨"RegretPit", "heapOf", "(I)I"⟩, 18) := ⟨⟨by decide +kernel, by decide +kernel⟩, List.mem_of_getElem? (i := 19) (by decide +kernel), List.mem_of_getElem? (i := 589) (by decide +kernel), List.mem_of_getElem? (i := 590) (by decide +kernel)⟩
theorem lw_p20 : lw_okq (⟨"RegretPit", "gathersFitting", "()I"⟩, 18) := ⟨⟨by decide +kernel, by decide +kernel⟩, List.mem_of_getElem? (i := 19) (by decide +kernel), List.mem_of_getElem? (i := 601) (by decide +kernel), List.mem_of_getElem? (i := 602) (by decide +kernel)⟩
theorem lw_p21 : lw_okq (⟨"RegretPit", "mostTelling", "(I)I"⟩, 18) := ⟨⟨by decide +kernel, by decide +kernel⟩, List.mem_of_getElem? (i := 19) (by decide +kernel), List.mem_of_getElem? (i := 608) (by decide +kernel), List.mem_of_getElem? (i := 609) (by decide +kernel)⟩
theorem lw_p22 : lw_okq (⟨"RegretPitModel", "plain", "()V"⟩, 28) := ⟨⟨by decide +kernel, by decide +kernel⟩, List.mem_of_getElem? (i := 675) (by decide +kernel), List.mem_of_getElem? (i := 681) (by decide +kernel), List.mem_of_getElem? (i := 682) (by decide +kernel)⟩
theorem lw_p23 : lw_okq (⟨"RegretPitModel", "takeDraft", "()V"⟩, 28) := ⟨⟨by decide +kernel, by decide +kernel⟩, List.mem_of_getElem? (i := 675) (by decide +kernel), List.mem_of_getElem? (i := 685) (by decide +kernel), List.mem_of_getElem? (i := 686) (by decide +kernel)⟩
theorem lw_p24 : lw_okq (⟨"RegretPitModel", "step", "()V"⟩, 28) := ⟨⟨by decide +kernel, by decide +kernel⟩, List.mem_of_getElem? (i := 675) (by decide +kernel), List.mem_of_getElem? (i := 790) (by decide +kernel), List.mem_of_getElem? (i := 791) (by decide +kernel)⟩
theorem lw_p25 : lw_okq (⟨"RegretPitModel", "here", "()I"⟩, 28) := ⟨⟨by decide +kernel, by decide +kernel⟩, List.mem_of_getElem? (i := 675) (by decide +kernel), List.mem_of_getElem? (i := 794) (by decide +kernel), List.mem_of_getElem? (i := 795) (by decide +kernel)⟩
theorem lw_p26 : lw_okq (⟨"RegretPitModel", "mayBe", "(I)Z"⟩, 28) := ⟨⟨by decide +kernel, by decide +kernel⟩, List.mem_of_getElem? (i := 675) (by decide +kernel), List.mem_of_getElem? (i := 798) (by decide +kernel), List.mem_of_getElem? (i := 799) (by decide +kernel)⟩
theorem lw_p27 : lw_okq (⟨"RegretPitModel", "due", "(Z)I"⟩, 28) := ⟨⟨by decide +kernel, by decide +kernel⟩, List.mem_of_getElem? (i := 675) (by decide +kernel), List.mem_of_getElem? (i := 802) (by decide +kernel), List.mem_of_getElem? (i := 803) (by decide +kernel)⟩
theorem lw_p28 : lw_okq (⟨"RegretPitModel", "readRow", "(I)V"⟩, 28) := ⟨⟨by decide +kernel, by decide +kernel⟩, List.mem_of_getElem? (i := 675) (by decide +kernel), List.mem_of_getElem? (i := 806) (by decide +kernel), List.mem_of_getElem? (i := 807) (by decide +kernel)⟩
theorem lw_p29 : lw_okq (⟨"RegretPitModel", "number", "(II)I"⟩, 28) := ⟨⟨by decide +kernel, by decide +kernel⟩, List.mem_of_getElem? (i := 675) (by decide +kernel), List.mem_of_getElem? (i := 810) (by decide +kernel), List.mem_of_getElem? (i := 811) (by decide +kernel)⟩
theorem lw_p30 : lw_okq (⟨"RegretPitModel", "readNear", "(Z)V"⟩, 28) := ⟨⟨by decide +kernel, by decide +kernel⟩, List.mem_of_getElem? (i := 675) (by decide +kernel), List.mem_of_getElem? (i := 814) (by decide +kernel), List.mem_of_getElem? (i := 815) (by decide +kernel)⟩
theorem lw_p31 : lw_okq (⟨"RegretPitModel", "isMan", "(I)Z"⟩, 28) := ⟨⟨by decide +kernel, by decide +kernel⟩, List.mem_of_getElem? (i := 675) (by decide +kernel), List.mem_of_getElem? (i := 822) (by decide +kernel), List.mem_of_getElem? (i := 823) (by decide +kernel)⟩
def lw_privs_2 : List (MethodName × Nat) := [(⟨"RegretPit$Matcher", "looks", "(LRegretPit$Crew;II)V"⟩, 3), (⟨"RegretPit$Matcher", "takes", "(I)V"⟩, 3), (⟨"RegretPit", "isLitBy", "(I)Z"⟩, 18), (⟨"RegretPit", "heapOf", "(I)I"⟩, 18), (⟨"RegretPit", "gathersFitting", "()I"⟩, 18), (⟨"RegretPit", "mostTelling", "(I)I"⟩, 18), (⟨"RegretPitModel", "plain", "()V"⟩, 28), (⟨"RegretPitModel", "takeDraft", "()V"⟩, 28), (⟨"RegretPitModel", "step", "()V"⟩, 28), (⟨"RegretPitModel", "here", "()I"⟩, 28), (⟨"RegretPitModel", "mayBe", "(I)Z"⟩, 28), (⟨"RegretPitModel", "due", "(Z)I"⟩, 28), (⟨"RegretPitModel", "readRow", "(I)V"⟩, 28), (⟨"RegretPitModel", "number", "(II)I"⟩, 28), (⟨"RegretPitModel", "readNear", "(Z)V"⟩, 28), (⟨"RegretPitModel", "isMan", "(I)Z"⟩, 28)]
theorem lw_r2 : ∀ q ∈ lw_privs_2, lw_okq q := List.forall_mem_cons.mpr ⟨lw_p16, List.forall_mem_cons.mpr ⟨lw_p17, List.forall_mem_cons.mpr ⟨lw_p18, List.forall_mem_cons.mpr ⟨lw_p19, List.forall_mem_cons.mpr ⟨lw_p20, List.forall_mem_cons.mpr ⟨lw_p21, List.forall_mem_cons.mpr ⟨lw_p22, List.forall_mem_cons.mpr ⟨lw_p23, List.forall_mem_cons.mpr ⟨lw_p24, List.forall_mem_cons.mpr ⟨lw_p25, List.forall_mem_cons.mpr ⟨lw_p26, List.forall_mem_cons.mpr ⟨lw_p27, List.forall_mem_cons.mpr ⟨lw_p28, List.forall_mem_cons.mpr ⟨lw_p29, List.forall_mem_cons.mpr ⟨lw_p30, List.forall_mem_cons.mpr ⟨lw_p31, fun _ h => absurd h List.not_mem_nil⟩⟩⟩⟩⟩⟩⟩⟩⟩⟩⟩⟩⟩⟩⟩⟩
theorem lw_p32 : lw_okq (⟨"RegretPitModel", "isShift", "(I)Z"⟩, 28) := ⟨⟨by decide +kernel, by decide +kernel⟩, List.mem_of_getElem? (i := 675) (by decide +kernel), List.mem_of_getElem? (i := 835) (by decide +kernel), List.mem_of_getElem? (i := 836) (by decide +kernel)⟩
theorem lw_p33 : lw_okq (⟨"RegretPitModel", "know", "()V"⟩, 28) := ⟨⟨by decide +kernel, by decide +kernel⟩, List.mem_of_getElem? (i := 675) (by decide +kernel), List.mem_of_getElem? (i := 842) (by decide +kernel), List.mem_of_getElem? (i := 843) (by decide +kernel)⟩
theorem lw_p34 : lw_okq (⟨"RegretPitModel", "take", "()V"⟩, 28) := ⟨⟨by decide +kernel, by decide +kernel⟩, List.mem_of_getElem? (i := 675) (by decide +kernel), List.mem_of_getElem? (i := 846) (by decide +kernel), List.mem_of_getElem? (i := 847) (by decide +kernel)⟩
theorem lw_p35 : lw_okq (⟨"RegretPitModel", "begins", "([IIII)I"⟩, 28) := ⟨⟨by decide +kernel, by decide +kernel⟩, List.mem_of_getElem? (i := 675) (by decide +kernel), List.mem_of_getElem? (i := 850) (by decide +kernel), List.mem_of_getElem? (i := 851) (by decide +kernel)⟩
theorem lw_p36 : lw_okq (⟨"RegretPitModel", "brings", "(I)I"⟩, 28) := ⟨⟨by decide +kernel, by decide +kernel⟩, List.mem_of_getElem? (i := 675) (by decide +kernel), List.mem_of_getElem? (i := 857) (by decide +kernel), List.mem_of_getElem? (i := 858) (by decide +kernel)⟩
theorem lw_p37 : lw_okq (⟨"RegretPitModel", "pass", "([IIII)I"⟩, 28) := ⟨⟨by decide +kernel, by decide +kernel⟩, List.mem_of_getElem? (i := 675) (by decide +kernel), List.mem_of_getElem? (i := 861) (by decide +kernel), List.mem_of_getElem? (i := 862) (by decide +kernel)⟩
theorem lw_p38 : lw_okq (⟨"RegretPitModel", "isFull", "(II)Z"⟩, 28) := ⟨⟨by decide +kernel, by decide +kernel⟩, List.mem_of_getElem? (i := 675) (by decide +kernel), List.mem_of_getElem? (i := 899) (by decide +kernel), List.mem_of_getElem? (i := 900) (by decide +kernel)⟩
theorem lw_p39 : lw_okq (⟨"RegretPitModel", "worth", "(I)I"⟩, 28) := ⟨⟨by decide +kernel, by decide +kernel⟩, List.mem_of_getElem? (i := 675) (by decide +kernel), List.mem_of_getElem? (i := 919) (by decide +kernel), List.mem_of_getElem? (i := 920) (by decide +kernel)⟩
theorem lw_p40 : lw_okq (⟨"RegretPitModel", "isFit", "(I)Z"⟩, 28) := ⟨⟨by decide +kernel, by decide +kernel⟩, List.mem_of_getElem? (i := 675) (by decide +kernel), List.mem_of_getElem? (i := 947) (by decide +kernel), List.mem_of_getElem? (i := 948) (by decide +kernel)⟩
theorem lw_p41 : lw_okq (⟨"RegretPitModel", "unlike", "(I)I"⟩, 28) := ⟨⟨by decide +kernel, by decide +kernel⟩, List.mem_of_getElem? (i := 675) (by decide +kernel), List.mem_of_getElem? (i := 954) (by decide +kernel), List.mem_of_getElem? (i := 955) (by decide +kernel)⟩
def lw_privs_3 : List (MethodName × Nat) := [(⟨"RegretPitModel", "isShift", "(I)Z"⟩, 28), (⟨"RegretPitModel", "know", "()V"⟩, 28), (⟨"RegretPitModel", "take", "()V"⟩, 28), (⟨"RegretPitModel", "begins", "([IIII)I"⟩, 28), (⟨"RegretPitModel", "brings", "(I)I"⟩, 28), (⟨"RegretPitModel", "pass", "([IIII)I"⟩, 28), (⟨"RegretPitModel", "isFull", "(II)Z"⟩, 28), (⟨"RegretPitModel", "worth", "(I)I"⟩, 28), (⟨"RegretPitModel", "isFit", "(I)Z"⟩, 28), (⟨"RegretPitModel", "unlike", "(I)I"⟩, 28)]
theorem lw_r3 : ∀ q ∈ lw_privs_3, lw_okq q := List.forall_mem_cons.mpr ⟨lw_p32, List.forall_mem_cons.mpr ⟨lw_p33, List.forall_mem_cons.mpr ⟨lw_p34, List.forall_mem_cons.mpr ⟨lw_p35, List.forall_mem_cons.mpr ⟨lw_p36, List.forall_mem_cons.mpr ⟨lw_p37, List.forall_mem_cons.mpr ⟨lw_p38, List.forall_mem_cons.mpr ⟨lw_p39, List.forall_mem_cons.mpr ⟨lw_p40, List.forall_mem_cons.mpr ⟨lw_p41, fun _ h => absurd h List.not_mem_nil⟩⟩⟩⟩⟩⟩⟩⟩⟩⟩
def lw_privs : List (MethodName × Nat) := lw_privs_1 ++ (lw_privs_2 ++ (lw_privs_3))
def lw_tbl : List Cond := k2_sels lw_privs ++ tables_1
theorem lw_privs_ok : ∀ q ∈ lw_privs, lw_okq q := by
  show ∀ q ∈ lw_privs_1 ++ (lw_privs_2 ++ (lw_privs_3)), lw_okq q
  exact List.forall_mem_append.mpr ⟨lw_r1, List.forall_mem_append.mpr ⟨lw_r2, lw_r3⟩⟩
end
section
/-! ===== BEGIN words of one list among another's, by their places ===== -/
theorem goodIn_r {big : List Cond} (ws : List Cond) (ps : List Nat) (hp : ws = ps.filterMap (fun i => big[i]?)) (h : ws.all goodWord = true) : GoodIn big ws := by
  intro w hw
  have h1 := List.all_eq_true.mp h w hw
  rw [hp] at hw
  obtain ⟨i, -, hi⟩ := List.mem_filterMap.mp hw
  have hm : w ∈ big := by first | exact List.mem_of_getElem? hi | exact List.getElem?_mem hi
  exact ⟨hm, good_of_word h1⟩
theorem goodIn_app {big a b : List Cond} (ha : GoodIn big a) (hb : GoodIn big b) : GoodIn big (a ++ b) := fun w h => (List.mem_append.mp h).elim (ha w) (hb w)
theorem goodIn_ca {big a b : List Cond} {c : Cond} (ha : GoodIn big (c :: a)) (hb : GoodIn big b) : GoodIn big (c :: (a ++ b)) := fun w h => (List.mem_cons.mp h).elim (fun e => ha w (List.mem_cons.mpr (Or.inl e))) (fun h => (List.mem_append.mp h).elim (fun h => ha w (List.mem_cons.mpr (Or.inr h))) (hb w))
theorem goodIn_sub {big ws : List Cond} (hm : ∀ w ∈ ws, w ∈ big) (h : ws.all goodWord = true) : GoodIn big ws := fun w hw => ⟨hm w hw, good_of_word (List.all_eq_true.mp h w hw)⟩
/-! ===== END ===== -/

/-! ===== BEGIN printed: names, fields, word lists, decode rows ===== -/
def RX0 : String := "RegretPit$Crew"
def TX0 : u_T := fun k => match k with
  | 0 => ("RegretPit$Crew", "size", "I", false)
  | 1 => ("RegretPit$Crew", "cage", "I", false)
  | 2 => ("RegretPit$Crew", "shale", "I", false)
  | 3 => ("RegretPit$Crew", "sorry", "[I", true)
  | 4 => ("RegretPit$Crew", "grows", "[I", true)
  | 5 => ("RegretPit$Crew", "beside", "[[I", true)
  | 6 => ("RegretPit$Crew", "pull", "[[I", true)
  | _ => ("RegretPit$Crew", "pullMost", "[I", true)
def tyX0 : Nat → FieldType := fun k => match k with
  | 0 => .int
  | 1 => .int
  | 2 => .int
  | 3 => .array .int
  | 4 => .array .int
  | 5 => .array (.array .int)
  | 6 => .array (.array .int)
  | _ => .array .int
abbrev wsX00 : List Cond := u_ws RX0 TX0 8
theorem nmX0 : ∀ a, a < 8 → ∀ b, b < 8 → a ≠ b → (TX0 a).2.1 ≠ (TX0 b).2.1 := by decide +kernel
theorem tyX0_ok : ∀ k, k < 8 → parseFieldDescriptor (TX0 k).2.2.1 = some (tyX0 k) := by decide +kernel
abbrev cX0_init : ByteArray := prog_2_method_1_code
def yX0_init : MethodName := ⟨RX0, "<init>", "()V"⟩
abbrev cX0_empties : ByteArray := prog_2_method_2_code
def yX0_empties : MethodName := ⟨RX0, "empties", "()V"⟩
abbrev cX0_becomes : ByteArray := prog_2_method_3_code
def yX0_becomes : MethodName := ⟨RX0, "becomes", "(LRegretPit$Crew;)V"⟩
abbrev cX0_measures : ByteArray := prog_2_method_4_code
def yX0_measures : MethodName := ⟨RX0, "measures", "(I)V"⟩
abbrev cX0_isMan : ByteArray := prog_2_method_5_code
def yX0_isMan : MethodName := ⟨RX0, "isMan", "(I)Z"⟩
abbrev cX0_areTwo : ByteArray := prog_2_method_6_code
def yX0_areTwo : MethodName := ⟨RX0, "areTwo", "(II)Z"⟩
abbrev cX0_isShift : ByteArray := prog_2_method_7_code
def yX0_isShift : MethodName := ⟨RX0, "isShift", "(I)Z"⟩
abbrev cX0_pullOf : ByteArray := prog_2_method_8_code
def yX0_pullOf : MethodName := ⟨RX0, "pullOf", "(II)I"⟩
abbrev cX0_aheadOfCut : ByteArray := prog_2_method_9_code
def yX0_aheadOfCut : MethodName := ⟨RX0, "aheadOfCut", "(III)I"⟩
abbrev cX0_cutOf : ByteArray := prog_2_method_10_code
def yX0_cutOf : MethodName := ⟨RX0, "cutOf", "(III)I"⟩
abbrev cX0_coinsAtMost : ByteArray := prog_2_method_11_code
def yX0_coinsAtMost : MethodName := ⟨RX0, "coinsAtMost", "(II)I"⟩
abbrev cX0_coinsOf : ByteArray := prog_2_method_12_code
def yX0_coinsOf : MethodName := ⟨RX0, "coinsOf", "(III)I"⟩
abbrev cX0_brings : ByteArray := prog_2_method_13_code
def yX0_brings : MethodName := ⟨RX0, "brings", "([II)I"⟩
abbrev cX0_lives : ByteArray := prog_2_method_14_code
def yX0_lives : MethodName := ⟨RX0, "lives", "([I[II)V"⟩
def RX1 : String := "RegretPit$Dust"
def TX1 : u_T := fun k => match k with
  | _ => ("RegretPit$Lump", "asked", "J", false)
def tyX1 : Nat → FieldType := fun k => match k with
  | _ => .long
abbrev wsX10 : List Cond := u_ws RX1 TX1 1
theorem nmX1 : ∀ a, a < 1 → ∀ b, b < 1 → a ≠ b → (TX1 a).2.1 ≠ (TX1 b).2.1 := by decide +kernel
theorem tyX1_ok : ∀ k, k < 1 → parseFieldDescriptor (TX1 k).2.2.1 = some (tyX1 k) := by decide +kernel
abbrev cX1_init : ByteArray := prog_3_method_1_code
def yX1_init : MethodName := ⟨RX1, "<init>", "()V"⟩
abbrev cX1_worth : ByteArray := prog_3_method_2_code
def yX1_worth : MethodName := ⟨RX1, "worth", "(LRegretPit$Crew;LRegretPit$Now;I)I"⟩
def RX2 : String := "RegretPit$Lump"
def TX2 : u_T := fun k => match k with
  | _ => ("RegretPit$Lump", "asked", "J", false)
def tyX2 : Nat → FieldType := fun k => match k with
  | _ => .long
abbrev wsX20 : List Cond := u_ws RX2 TX2 1
theorem nmX2 : ∀ a, a < 1 → ∀ b, b < 1 → a ≠ b → (TX2 a).2.1 ≠ (TX2 b).2.1 := by decide +kernel
theorem tyX2_ok : ∀ k, k < 1 → parseFieldDescriptor (TX2 k).2.2.1 = some (tyX2 k) := by decide +kernel
abbrev cX2_init : ByteArray := prog_4_method_1_code
def yX2_init : MethodName := ⟨RX2, "<init>", "()V"⟩
abbrev cX2_worth : ByteArray := prog_4_method_2_code
def yX2_worth : MethodName := ⟨RX2, "worth", "(LRegretPit$Crew;LRegretPit$Now;I)I"⟩
def RX3 : String := "RegretPit$Matcher"
def TX3 : u_T := fun k => match k with
  | 0 => ("RegretPit$Matcher", "most", "I", false)
  | 1 => ("RegretPit$Matcher", "best", "[I", true)
  | _ => ("RegretPit$Matcher", "mate", "[I", true)
def tyX3 : Nat → FieldType := fun k => match k with
  | 0 => .int
  | 1 => .array .int
  | _ => .array .int
abbrev wsX30 : List Cond := u_ws RX3 TX3 3
theorem nmX3 : ∀ a, a < 3 → ∀ b, b < 3 → a ≠ b → (TX3 a).2.1 ≠ (TX3 b).2.1 := by decide +kernel
theorem tyX3_ok : ∀ k, k < 3 → parseFieldDescriptor (TX3 k).2.2.1 = some (tyX3 k) := by decide +kernel
abbrev cX3_init : ByteArray := prog_5_method_1_code
def yX3_init : MethodName := ⟨RX3, "<init>", "()V"⟩
abbrev cX3_searches : ByteArray := prog_5_method_2_code
def yX3_searches : MethodName := ⟨RX3, "searches", "(LRegretPit$Crew;)V"⟩
abbrev cX3_looks : ByteArray := prog_5_method_3_code
def yX3_looks : MethodName := ⟨RX3, "looks", "(LRegretPit$Crew;II)V"⟩
abbrev cX3_takes : ByteArray := prog_5_method_4_code
def yX3_takes : MethodName := ⟨RX3, "takes", "(I)V"⟩
def RX4 : String := "RegretPit$Now"
def TX4 : u_T := fun k => match k with
  | 0 => ("RegretPit$Now", "sorry", "[I", true)
  | 1 => ("RegretPit$Now", "heap", "[I", true)
  | 2 => ("RegretPit$Now", "brought", "I", false)
  | 3 => ("RegretPit$Now", "week", "I", false)
  | 4 => ("RegretPit$Now", "known", "I", false)
  | _ => ("RegretPit$Now", "past", "[I", true)
def tyX4 : Nat → FieldType := fun k => match k with
  | 0 => .array .int
  | 1 => .array .int
  | 2 => .int
  | 3 => .int
  | 4 => .int
  | _ => .array .int
abbrev wsX40 : List Cond := u_ws RX4 TX4 6
theorem nmX4 : ∀ a, a < 6 → ∀ b, b < 6 → a ≠ b → (TX4 a).2.1 ≠ (TX4 b).2.1 := by decide +kernel
theorem tyX4_ok : ∀ k, k < 6 → parseFieldDescriptor (TX4 k).2.2.1 = some (tyX4 k) := by decide +kernel
abbrev cX4_init : ByteArray := prog_6_method_1_code
def yX4_init : MethodName := ⟨RX4, "<init>", "()V"⟩
abbrev cX4_begins : ByteArray := prog_6_method_2_code
def yX4_begins : MethodName := ⟨RX4, "begins", "(LRegretPit$Crew;)V"⟩
abbrev cX4_becomes : ByteArray := prog_6_method_3_code
def yX4_becomes : MethodName := ⟨RX4, "becomes", "(LRegretPit$Now;)V"⟩
abbrev cX4_remembers : ByteArray := prog_6_method_4_code
def yX4_remembers : MethodName := ⟨RX4, "remembers", "()V"⟩
abbrev cX4_recalls : ByteArray := prog_6_method_5_code
def yX4_recalls : MethodName := ⟨RX4, "recalls", "()V"⟩
def RX5 : String := "RegretPit$Planner"
def TX5 : u_T := fun k => match k with
  | 0 => ("RegretPit$Planner", "most", "I", false)
  | 1 => ("RegretPit$Planner", "bestWay", "[I", true)
  | 2 => ("RegretPit$Planner", "rows", "[[I", true)
  | 3 => ("RegretPit$Planner", "way", "[I", true)
  | 4 => ("RegretPit$Planner", "weeks", "I", false)
  | 5 => ("RegretPit$Planner", "least", "I", false)
  | _ => ("RegretPit$Planner", "held", "I", false)
def tyX5 : Nat → FieldType := fun k => match k with
  | 0 => .int
  | 1 => .array .int
  | 2 => .array (.array .int)
  | 3 => .array .int
  | 4 => .int
  | 5 => .int
  | _ => .int
abbrev wsX50 : List Cond := u_ws RX5 TX5 7
theorem nmX5 : ∀ a, a < 7 → ∀ b, b < 7 → a ≠ b → (TX5 a).2.1 ≠ (TX5 b).2.1 := by decide +kernel
theorem tyX5_ok : ∀ k, k < 7 → parseFieldDescriptor (TX5 k).2.2.1 = some (tyX5 k) := by decide +kernel
abbrev cX5_init : ByteArray := prog_7_method_1_code
def yX5_init : MethodName := ⟨RX5, "<init>", "()V"⟩
abbrev cX5_forgets : ByteArray := prog_7_method_2_code
def yX5_forgets : MethodName := ⟨RX5, "forgets", "()V"⟩
abbrev cX5_searches : ByteArray := prog_7_method_3_code
def yX5_searches : MethodName := ⟨RX5, "searches", "(LRegretPit$Crew;[III)V"⟩
abbrev cX5_isStart : ByteArray := prog_7_method_4_code
def yX5_isStart : MethodName := ⟨RX5, "isStart", "(LRegretPit$Crew;[I)Z"⟩
abbrev cX5_looks : ByteArray := prog_7_method_5_code
def yX5_looks : MethodName := ⟨RX5, "looks", "(LRegretPit$Crew;II)V"⟩
abbrev cX5_takes : ByteArray := prog_7_method_6_code
def yX5_takes : MethodName := ⟨RX5, "takes", "(I)V"⟩
abbrev cX5_holds : ByteArray := prog_7_method_7_code
def yX5_holds : MethodName := ⟨RX5, "holds", "(LRegretPit$Crew;[I)Z"⟩
abbrev cX5_ceiling : ByteArray := prog_7_method_8_code
def yX5_ceiling : MethodName := ⟨RX5, "ceiling", "(LRegretPit$Crew;[I)I"⟩
def RX6 : String := "RegretPit$Ring"
def TX6 : u_T := fun k => match k with
  | _ => ("RegretPit$Lump", "asked", "J", false)
def tyX6 : Nat → FieldType := fun k => match k with
  | _ => .long
abbrev wsX60 : List Cond := u_ws RX6 TX6 1
theorem nmX6 : ∀ a, a < 1 → ∀ b, b < 1 → a ≠ b → (TX6 a).2.1 ≠ (TX6 b).2.1 := by decide +kernel
theorem tyX6_ok : ∀ k, k < 1 → parseFieldDescriptor (TX6 k).2.2.1 = some (tyX6 k) := by decide +kernel
abbrev cX6_init : ByteArray := prog_8_method_1_code
def yX6_init : MethodName := ⟨RX6, "<init>", "()V"⟩
abbrev cX6_worth : ByteArray := prog_8_method_2_code
def yX6_worth : MethodName := ⟨RX6, "worth", "(LRegretPit$Crew;LRegretPit$Now;I)I"⟩
def RX7 : String := "RegretPit$Salt"
def TX7 : u_T := fun k => match k with
  | _ => ("RegretPit$Lump", "asked", "J", false)
def tyX7 : Nat → FieldType := fun k => match k with
  | _ => .long
abbrev wsX70 : List Cond := u_ws RX7 TX7 1
theorem nmX7 : ∀ a, a < 1 → ∀ b, b < 1 → a ≠ b → (TX7 a).2.1 ≠ (TX7 b).2.1 := by decide +kernel
theorem tyX7_ok : ∀ k, k < 1 → parseFieldDescriptor (TX7 k).2.2.1 = some (tyX7 k) := by decide +kernel
abbrev cX7_init : ByteArray := prog_9_method_1_code
def yX7_init : MethodName := ⟨RX7, "<init>", "()V"⟩
abbrev cX7_worth : ByteArray := prog_9_method_2_code
def yX7_worth : MethodName := ⟨RX7, "worth", "(LRegretPit$Crew;LRegretPit$Now;I)I"⟩
def RX8 : String := "RegretPit$Seam"
def TX8 : u_T := fun k => match k with
  | _ => ("RegretPit$Lump", "asked", "J", false)
def tyX8 : Nat → FieldType := fun k => match k with
  | _ => .long
abbrev wsX80 : List Cond := u_ws RX8 TX8 1
theorem nmX8 : ∀ a, a < 1 → ∀ b, b < 1 → a ≠ b → (TX8 a).2.1 ≠ (TX8 b).2.1 := by decide +kernel
theorem tyX8_ok : ∀ k, k < 1 → parseFieldDescriptor (TX8 k).2.2.1 = some (tyX8 k) := by decide +kernel
abbrev cX8_init : ByteArray := prog_10_method_1_code
def yX8_init : MethodName := ⟨RX8, "<init>", "()V"⟩
abbrev cX8_worth : ByteArray := prog_10_method_2_code
def yX8_worth : MethodName := ⟨RX8, "worth", "(LRegretPit$Crew;LRegretPit$Now;I)I"⟩
def RX9 : String := "RegretPit$Sigh"
def TX9 : u_T := fun k => match k with
  | _ => ("RegretPit$Lump", "asked", "J", false)
def tyX9 : Nat → FieldType := fun k => match k with
  | _ => .long
abbrev wsX90 : List Cond := u_ws RX9 TX9 1
theorem nmX9 : ∀ a, a < 1 → ∀ b, b < 1 → a ≠ b → (TX9 a).2.1 ≠ (TX9 b).2.1 := by decide +kernel
theorem tyX9_ok : ∀ k, k < 1 → parseFieldDescriptor (TX9 k).2.2.1 = some (tyX9 k) := by decide +kernel
abbrev cX9_init : ByteArray := prog_11_method_1_code
def yX9_init : MethodName := ⟨RX9, "<init>", "()V"⟩
abbrev cX9_worth : ByteArray := prog_11_method_2_code
def yX9_worth : MethodName := ⟨RX9, "worth", "(LRegretPit$Crew;LRegretPit$Now;I)I"⟩
def RX10 : String := "RegretPit$Text"
def TX10 : u_T := fun k => match k with
  | 0 => ("RegretPit$Text", "length", "I", false)
  | 1 => ("RegretPit$Text", "bytes", "[I", true)
  | 2 => ("RegretPit$Text", "place", "I", false)
  | 3 => ("RegretPit$Text", "behind", "I", false)
  | 4 => ("RegretPit$Text", "token", "I", false)
  | 5 => ("RegretPit$Text", "value", "I", false)
  | 6 => ("RegretPit$Text", "fault", "Z", false)
  | 7 => ("RegretPit$Text", "cageTold", "Z", false)
  | _ => ("RegretPit$Text", "shaleTold", "Z", false)
def tyX10 : Nat → FieldType := fun k => match k with
  | 0 => .int
  | 1 => .array .int
  | 2 => .int
  | 3 => .int
  | 4 => .int
  | 5 => .int
  | 6 => .boolean
  | 7 => .boolean
  | _ => .boolean
abbrev wsX100 : List Cond := u_ws RX10 TX10 9
theorem nmX10 : ∀ a, a < 9 → ∀ b, b < 9 → a ≠ b → (TX10 a).2.1 ≠ (TX10 b).2.1 := by decide +kernel
theorem tyX10_ok : ∀ k, k < 9 → parseFieldDescriptor (TX10 k).2.2.1 = some (tyX10 k) := by decide +kernel
abbrev cX10_init : ByteArray := prog_12_method_1_code
def yX10_init : MethodName := ⟨RX10, "<init>", "()V"⟩
abbrev cX10_adds : ByteArray := prog_12_method_2_code
def yX10_adds : MethodName := ⟨RX10, "adds", "(I)V"⟩
abbrev cX10_reads : ByteArray := prog_12_method_3_code
def yX10_reads : MethodName := ⟨RX10, "reads", "(LRegretPit$Crew;)I"⟩
abbrev cX10_readsItem : ByteArray := prog_12_method_4_code
def yX10_readsItem : MethodName := ⟨RX10, "readsItem", "(LRegretPit$Crew;)V"⟩
abbrev cX10_readsMan : ByteArray := prog_12_method_5_code
def yX10_readsMan : MethodName := ⟨RX10, "readsMan", "(LRegretPit$Crew;)V"⟩
abbrev cX10_readsTwo : ByteArray := prog_12_method_6_code
def yX10_readsTwo : MethodName := ⟨RX10, "readsTwo", "(LRegretPit$Crew;I)V"⟩
abbrev cX10_readsNumber : ByteArray := prog_12_method_7_code
def yX10_readsNumber : MethodName := ⟨RX10, "readsNumber", "(II)I"⟩
abbrev cX10_readsToken : ByteArray := prog_12_method_8_code
def yX10_readsToken : MethodName := ⟨RX10, "readsToken", "()V"⟩
abbrev cX10_signAt : ByteArray := prog_12_method_9_code
def yX10_signAt : MethodName := ⟨RX10, "signAt", "(I)I"⟩
abbrev cX10_readsValue : ByteArray := prog_12_method_10_code
def yX10_readsValue : MethodName := ⟨RX10, "readsValue", "(I)V"⟩
def RX11 : String := "RegretPit"
def TX11 : u_T := fun k => match k with
  | 0 => ("RegretPit", "text", "LRegretPit$Text;", true)
  | 1 => ("RegretPit", "draft", "LRegretPit$Crew;", true)
  | 2 => ("RegretPit", "crew", "LRegretPit$Crew;", true)
  | 3 => ("RegretPit", "now", "LRegretPit$Now;", true)
  | 4 => ("RegretPit", "images", "[LRegretPit$Now;", true)
  | 5 => ("RegretPit", "kept", "[Z", true)
  | 6 => ("RegretPit", "planner", "LRegretPit$Planner;", true)
  | 7 => ("RegretPit", "matcher", "LRegretPit$Matcher;", true)
  | 8 => ("RegretPit", "kinds", "[LRegretPit$Lump;", true)
  | 9 => ("RegretPit", "later", "[I", true)
  | 10 => ("RegretPit", "litShift", "[I", true)
  | 11 => ("RegretPit", "litLump", "[I", true)
  | 12 => ("RegretPit", "toldX", "[I", true)
  | 13 => ("RegretPit", "toldY", "[I", true)
  | 14 => ("RegretPit", "fitting", "[I", true)
  | 15 => ("RegretPit", "seen", "[I", true)
  | 16 => ("RegretPit", "lit", "I", false)
  | _ => ("RegretPit", "told", "I", false)
def tyX11 : Nat → FieldType := fun k => match k with
  | 0 => .object "RegretPit$Text"
  | 1 => .object "RegretPit$Crew"
  | 2 => .object "RegretPit$Crew"
  | 3 => .object "RegretPit$Now"
  | 4 => .array (.object "RegretPit$Now")
  | 5 => .array .boolean
  | 6 => .object "RegretPit$Planner"
  | 7 => .object "RegretPit$Matcher"
  | 8 => .array (.object "RegretPit$Lump")
  | 9 => .array .int
  | 10 => .array .int
  | 11 => .array .int
  | 12 => .array .int
  | 13 => .array .int
  | 14 => .array .int
  | 15 => .array .int
  | 16 => .int
  | _ => .int
abbrev wsX110 : List Cond := u_ws RX11 TX11 18
theorem nmX11 : ∀ a, a < 18 → ∀ b, b < 18 → a ≠ b → (TX11 a).2.1 ≠ (TX11 b).2.1 := by decide +kernel
theorem tyX11_ok : ∀ k, k < 18 → parseFieldDescriptor (TX11 k).2.2.1 = some (tyX11 k) := by decide +kernel
abbrev cX11_init : ByteArray := prog_1_method_1_code
def yX11_init : MethodName := ⟨RX11, "<init>", "()V"⟩
abbrev cX11_type : ByteArray := prog_1_method_2_code
def yX11_type : MethodName := ⟨RX11, "type", "(I)I"⟩
abbrev cX11_clear : ByteArray := prog_1_method_3_code
def yX11_clear : MethodName := ⟨RX11, "clear", "()I"⟩
abbrev cX11_pit : ByteArray := prog_1_method_4_code
def yX11_pit : MethodName := ⟨RX11, "pit", "()I"⟩
abbrev cX11_man : ByteArray := prog_1_method_5_code
def yX11_man : MethodName := ⟨RX11, "man", "(II)I"⟩
abbrev cX11_beside : ByteArray := prog_1_method_6_code
def yX11_beside : MethodName := ⟨RX11, "beside", "(II)I"⟩
abbrev cX11_week : ByteArray := prog_1_method_7_code
def yX11_week : MethodName := ⟨RX11, "week", "(I)I"⟩
abbrev cX11_quarrel : ByteArray := prog_1_method_8_code
def yX11_quarrel : MethodName := ⟨RX11, "quarrel", "(III)I"⟩
abbrev cX11_forgives : ByteArray := prog_1_method_9_code
def yX11_forgives : MethodName := ⟨RX11, "forgives", "(I)I"⟩
abbrev cX11_buys : ByteArray := prog_1_method_10_code
def yX11_buys : MethodName := ⟨RX11, "buys", "(I)I"⟩
abbrev cX11_undo : ByteArray := prog_1_method_11_code
def yX11_undo : MethodName := ⟨RX11, "undo", "()I"⟩
abbrev cX11_now : ByteArray := prog_1_method_12_code
def yX11_now : MethodName := ⟨RX11, "now", "(I)I"⟩
abbrev cX11_sumOf : ByteArray := prog_1_method_13_code
def yX11_sumOf : MethodName := ⟨RX11, "sumOf", "([I)I"⟩
abbrev cX11_payForAll : ByteArray := prog_1_method_14_code
def yX11_payForAll : MethodName := ⟨RX11, "payForAll", "()I"⟩
abbrev cX11_yieldOf : ByteArray := prog_1_method_15_code
def yX11_yieldOf : MethodName := ⟨RX11, "yieldOf", "(I)I"⟩
abbrev cX11_best : ByteArray := prog_1_method_16_code
def yX11_best : MethodName := ⟨RX11, "best", "(I)I"⟩
abbrev cX11_plan : ByteArray := prog_1_method_17_code
def yX11_plan : MethodName := ⟨RX11, "plan", "(III)I"⟩
abbrev cX11_lean : ByteArray := prog_1_method_18_code
def yX11_lean : MethodName := ⟨RX11, "lean", "(II)I"⟩
abbrev cX11_still : ByteArray := prog_1_method_19_code
def yX11_still : MethodName := ⟨RX11, "still", "(III)I"⟩
abbrev cX11_temper : ByteArray := prog_1_method_20_code
def yX11_temper : MethodName := ⟨RX11, "temper", "(I)I"⟩
abbrev cX11_mates : ByteArray := prog_1_method_21_code
def yX11_mates : MethodName := ⟨RX11, "mates", "(I)I"⟩
abbrev cX11_lights : ByteArray := prog_1_method_22_code
def yX11_lights : MethodName := ⟨RX11, "lights", "(II)I"⟩
abbrev cX11_forget : ByteArray := prog_1_method_23_code
def yX11_forget : MethodName := ⟨RX11, "forget", "()I"⟩
abbrev cX11_whose : ByteArray := prog_1_method_24_code
def yX11_whose : MethodName := ⟨RX11, "whose", "()I"⟩
abbrev cX11_isLitBy : ByteArray := prog_1_method_25_code
def yX11_isLitBy : MethodName := ⟨RX11, "isLitBy", "(I)Z"⟩
abbrev cX11_sold : ByteArray := prog_1_method_26_code
def yX11_sold : MethodName := ⟨RX11, "sold", "(II)I"⟩
abbrev cX11_heapOf : ByteArray := prog_1_method_27_code
def yX11_heapOf : MethodName := ⟨RX11, "heapOf", "(I)I"⟩
abbrev cX11_tells : ByteArray := prog_1_method_28_code
def yX11_tells : MethodName := ⟨RX11, "tells", "(II)I"⟩
abbrev cX11_fit : ByteArray := prog_1_method_29_code
def yX11_fit : MethodName := ⟨RX11, "fit", "(I)I"⟩
abbrev cX11_lawOf : ByteArray := prog_1_method_30_code
def yX11_lawOf : MethodName := ⟨RX11, "lawOf", "(II)I"⟩
abbrev cX11_gathersFitting : ByteArray := prog_1_method_31_code
def yX11_gathersFitting : MethodName := ⟨RX11, "gathersFitting", "()I"⟩
abbrev cX11_mostTelling : ByteArray := prog_1_method_32_code
def yX11_mostTelling : MethodName := ⟨RX11, "mostTelling", "(I)I"⟩
abbrev cX11_below : ByteArray := prog_1_method_33_code
def yX11_below : MethodName := ⟨RX11, "below", "(III)I"⟩
abbrev cX11_commonOf : ByteArray := prog_1_method_34_code
def yX11_commonOf : MethodName := ⟨RX11, "commonOf", "(II)I"⟩
abbrev cX11_mark : ByteArray := prog_1_method_35_code
def yX11_mark : MethodName := ⟨RX11, "mark", "(II)I"⟩
abbrev cX11_keep : ByteArray := prog_1_method_36_code
def yX11_keep : MethodName := ⟨RX11, "keep", "(I)I"⟩
abbrev cX11_back : ByteArray := prog_1_method_37_code
def yX11_back : MethodName := ⟨RX11, "back", "(I)I"⟩
abbrev cX11_count : ByteArray := prog_1_method_38_code
def yX11_count : MethodName := ⟨RX11, "count", "(I)I"⟩
abbrev cX11_trace : ByteArray := prog_1_method_39_code
def yX11_trace : MethodName := ⟨RX11, "trace", "()J"⟩
def RX12 : String := "RegretPitModel"
def TX12 : u_T := fun k => match k with
  | 0 => ("RegretPitModel", "trace", "J", false)
  | 1 => ("RegretPitModel", "text", "[B", true)
  | 2 => ("RegretPitModel", "typed", "I", false)
  | 3 => ("RegretPitModel", "men", "[I", true)
  | 4 => ("RegretPitModel", "grows", "[I", true)
  | 5 => ("RegretPitModel", "draftSorry", "[I", true)
  | 6 => ("RegretPitModel", "near", "[I", true)
  | 7 => ("RegretPitModel", "cage", "[I", true)
  | 8 => ("RegretPitModel", "shale", "[I", true)
  | 9 => ("RegretPitModel", "at", "I", false)
  | 10 => ("RegretPitModel", "start", "I", false)
  | 11 => ("RegretPitModel", "sort", "I", false)
  | 12 => ("RegretPitModel", "value", "I", false)
  | 13 => ("RegretPitModel", "fault", "I", false)
  | 14 => ("RegretPitModel", "cageTold", "Z", false)
  | 15 => ("RegretPitModel", "shaleTold", "Z", false)
  | 16 => ("RegretPitModel", "now", "[I", true)
  | 17 => ("RegretPitModel", "isKept", "[Z", true)
  | 18 => ("RegretPitModel", "tried", "[I", true)
  | 19 => ("RegretPitModel", "weeks", "[I", true)
  | 20 => ("RegretPitModel", "bestTries", "[I", true)
  | 21 => ("RegretPitModel", "mate", "[I", true)
  | 22 => ("RegretPitModel", "litShift", "[I", true)
  | 23 => ("RegretPitModel", "litLong", "[I", true)
  | 24 => ("RegretPitModel", "lit", "I", false)
  | 25 => ("RegretPitModel", "toldX", "[I", true)
  | 26 => ("RegretPitModel", "toldY", "[I", true)
  | _ => ("RegretPitModel", "told", "I", false)
def tyX12 : Nat → FieldType := fun k => match k with
  | 0 => .long
  | 1 => .array .byte
  | 2 => .int
  | 3 => .array .int
  | 4 => .array .int
  | 5 => .array .int
  | 6 => .array .int
  | 7 => .array .int
  | 8 => .array .int
  | 9 => .int
  | 10 => .int
  | 11 => .int
  | 12 => .int
  | 13 => .int
  | 14 => .boolean
  | 15 => .boolean
  | 16 => .array .int
  | 17 => .array .boolean
  | 18 => .array .int
  | 19 => .array .int
  | 20 => .array .int
  | 21 => .array .int
  | 22 => .array .int
  | 23 => .array .int
  | 24 => .int
  | 25 => .array .int
  | 26 => .array .int
  | _ => .int
abbrev wsX120 : List Cond := u_ws RX12 TX12 28
theorem nmX12 : ∀ a, a < 28 → ∀ b, b < 28 → a ≠ b → (TX12 a).2.1 ≠ (TX12 b).2.1 := by decide +kernel
theorem tyX12_ok : ∀ k, k < 28 → parseFieldDescriptor (TX12 k).2.2.1 = some (tyX12 k) := by decide +kernel
abbrev cX12_init : ByteArray := prog_14_method_1_code
def yX12_init : MethodName := ⟨RX12, "<init>", "()V"⟩
abbrev cX12_in : ByteArray := prog_14_method_3_code
def yX12_in : MethodName := ⟨RX12, "in", "(III)Z"⟩
abbrev cX12_type : ByteArray := prog_14_method_4_code
def yX12_type : MethodName := ⟨RX12, "type", "(I)I"⟩
abbrev cX12_clear : ByteArray := prog_14_method_5_code
def yX12_clear : MethodName := ⟨RX12, "clear", "()I"⟩
abbrev cX12_here : ByteArray := prog_14_method_6_code
def yX12_here : MethodName := ⟨RX12, "here", "()I"⟩
abbrev cX12_step : ByteArray := prog_14_method_7_code
def yX12_step : MethodName := ⟨RX12, "step", "()V"⟩
abbrev cX12_due : ByteArray := prog_14_method_8_code
def yX12_due : MethodName := ⟨RX12, "due", "(Z)I"⟩
abbrev cX12_number : ByteArray := prog_14_method_9_code
def yX12_number : MethodName := ⟨RX12, "number", "(II)I"⟩
abbrev cX12_mayBe : ByteArray := prog_14_method_10_code
def yX12_mayBe : MethodName := ⟨RX12, "mayBe", "(I)Z"⟩
abbrev cX12_readNear : ByteArray := prog_14_method_11_code
def yX12_readNear : MethodName := ⟨RX12, "readNear", "(Z)V"⟩
abbrev cX12_readRow : ByteArray := prog_14_method_12_code
def yX12_readRow : MethodName := ⟨RX12, "readRow", "(I)V"⟩
abbrev cX12_plain : ByteArray := prog_14_method_13_code
def yX12_plain : MethodName := ⟨RX12, "plain", "()V"⟩
abbrev cX12_takeDraft : ByteArray := prog_14_method_14_code
def yX12_takeDraft : MethodName := ⟨RX12, "takeDraft", "()V"⟩
abbrev cX12_pit : ByteArray := prog_14_method_15_code
def yX12_pit : MethodName := ⟨RX12, "pit", "()I"⟩
abbrev cX12_isMan : ByteArray := prog_14_method_16_code
def yX12_isMan : MethodName := ⟨RX12, "isMan", "(I)Z"⟩
abbrev cX12_manyOf : ByteArray := prog_14_method_17_code
def yX12_manyOf : MethodName := ⟨RX12, "manyOf", "(I)I"⟩
abbrev cX12_isShift : ByteArray := prog_14_method_18_code
def yX12_isShift : MethodName := ⟨RX12, "isShift", "(I)Z"⟩
abbrev cX12_man : ByteArray := prog_14_method_19_code
def yX12_man : MethodName := ⟨RX12, "man", "(II)I"⟩
abbrev cX12_beside : ByteArray := prog_14_method_20_code
def yX12_beside : MethodName := ⟨RX12, "beside", "(II)I"⟩
abbrev cX12_held : ByteArray := prog_14_method_21_code
def yX12_held : MethodName := ⟨RX12, "held", "(I)I"⟩
abbrev cX12_begins : ByteArray := prog_14_method_22_code
def yX12_begins : MethodName := ⟨RX12, "begins", "([IIII)I"⟩
abbrev cX12_brings : ByteArray := prog_14_method_23_code
def yX12_brings : MethodName := ⟨RX12, "brings", "(I)I"⟩
abbrev cX12_pass : ByteArray := prog_14_method_24_code
def yX12_pass : MethodName := ⟨RX12, "pass", "([IIII)I"⟩
abbrev cX12_take : ByteArray := prog_14_method_25_code
def yX12_take : MethodName := ⟨RX12, "take", "()V"⟩
abbrev cX12_know : ByteArray := prog_14_method_26_code
def yX12_know : MethodName := ⟨RX12, "know", "()V"⟩
abbrev cX12_week : ByteArray := prog_14_method_27_code
def yX12_week : MethodName := ⟨RX12, "week", "(I)I"⟩
abbrev cX12_quarrel : ByteArray := prog_14_method_28_code
def yX12_quarrel : MethodName := ⟨RX12, "quarrel", "(III)I"⟩
abbrev cX12_forgives : ByteArray := prog_14_method_29_code
def yX12_forgives : MethodName := ⟨RX12, "forgives", "(I)I"⟩
abbrev cX12_buys : ByteArray := prog_14_method_30_code
def yX12_buys : MethodName := ⟨RX12, "buys", "(I)I"⟩
abbrev cX12_undo : ByteArray := prog_14_method_31_code
def yX12_undo : MethodName := ⟨RX12, "undo", "()I"⟩
abbrev cX12_now : ByteArray := prog_14_method_32_code
def yX12_now : MethodName := ⟨RX12, "now", "(I)I"⟩
abbrev cX12_yieldOf : ByteArray := prog_14_method_33_code
def yX12_yieldOf : MethodName := ⟨RX12, "yieldOf", "(I)I"⟩
abbrev cX12_best : ByteArray := prog_14_method_34_code
def yX12_best : MethodName := ⟨RX12, "best", "(I)I"⟩
abbrev cX12_isFull : ByteArray := prog_14_method_35_code
def yX12_isFull : MethodName := ⟨RX12, "isFull", "(II)Z"⟩
abbrev cX12_plan : ByteArray := prog_14_method_36_code
def yX12_plan : MethodName := ⟨RX12, "plan", "(III)I"⟩
abbrev cX12_lean : ByteArray := prog_14_method_37_code
def yX12_lean : MethodName := ⟨RX12, "lean", "(II)I"⟩
abbrev cX12_still : ByteArray := prog_14_method_38_code
def yX12_still : MethodName := ⟨RX12, "still", "(III)I"⟩
abbrev cX12_temper : ByteArray := prog_14_method_39_code
def yX12_temper : MethodName := ⟨RX12, "temper", "(I)I"⟩
abbrev cX12_worth : ByteArray := prog_14_method_40_code
def yX12_worth : MethodName := ⟨RX12, "worth", "(I)I"⟩
abbrev cX12_mates : ByteArray := prog_14_method_41_code
def yX12_mates : MethodName := ⟨RX12, "mates", "(I)I"⟩
abbrev cX12_lights : ByteArray := prog_14_method_42_code
def yX12_lights : MethodName := ⟨RX12, "lights", "(II)I"⟩
abbrev cX12_forget : ByteArray := prog_14_method_43_code
def yX12_forget : MethodName := ⟨RX12, "forget", "()I"⟩
abbrev cX12_whose : ByteArray := prog_14_method_44_code
def yX12_whose : MethodName := ⟨RX12, "whose", "()I"⟩
abbrev cX12_sold : ByteArray := prog_14_method_45_code
def yX12_sold : MethodName := ⟨RX12, "sold", "(II)I"⟩
abbrev cX12_tells : ByteArray := prog_14_method_46_code
def yX12_tells : MethodName := ⟨RX12, "tells", "(II)I"⟩
abbrev cX12_grown : ByteArray := prog_14_method_47_code
def yX12_grown : MethodName := ⟨RX12, "grown", "(II)I"⟩
abbrev cX12_isFit : ByteArray := prog_14_method_48_code
def yX12_isFit : MethodName := ⟨RX12, "isFit", "(I)Z"⟩
abbrev cX12_unlike : ByteArray := prog_14_method_49_code
def yX12_unlike : MethodName := ⟨RX12, "unlike", "(I)I"⟩
abbrev cX12_fit : ByteArray := prog_14_method_50_code
def yX12_fit : MethodName := ⟨RX12, "fit", "(I)I"⟩
abbrev cX12_below : ByteArray := prog_14_method_51_code
def yX12_below : MethodName := ⟨RX12, "below", "(III)I"⟩
abbrev cX12_mark : ByteArray := prog_14_method_52_code
def yX12_mark : MethodName := ⟨RX12, "mark", "(II)I"⟩
abbrev cX12_keep : ByteArray := prog_14_method_53_code
def yX12_keep : MethodName := ⟨RX12, "keep", "(I)I"⟩
abbrev cX12_back : ByteArray := prog_14_method_54_code
def yX12_back : MethodName := ⟨RX12, "back", "(I)I"⟩
abbrev cX12_count : ByteArray := prog_14_method_55_code
def yX12_count : MethodName := ⟨RX12, "count", "(I)I"⟩
abbrev cX12_trace : ByteArray := prog_14_method_56_code
def yX12_trace : MethodName := ⟨RX12, "trace", "()J"⟩
def RJ6 : String := "java/lang/Integer"
def TJ6 : u_T := fun k => match k with
  | _ => ("", "", "", false)
def tyJ6 : Nat → FieldType := fun k => match k with
  | _ => .int
abbrev wsJ60 : List Cond := u_ws RJ6 TJ6 0
theorem nmJ6 : ∀ a, a < 0 → ∀ b, b < 0 → a ≠ b → (TJ6 a).2.1 ≠ (TJ6 b).2.1 := by decide +kernel
theorem tyJ6_ok : ∀ k, k < 0 → parseFieldDescriptor (TJ6 k).2.2.1 = some (tyJ6 k) := by decide +kernel
abbrev cJ6_bitCount_0f7a4 : ByteArray := prog_15_method_49_code
def yJ6_bitCount_0f7a4 : MethodName := ⟨RJ6, "bitCount", "(I)I"⟩
def RJ9 : String := "java/lang/Math"
def TJ9 : u_T := fun k => match k with
  | _ => ("", "", "", false)
def tyJ9 : Nat → FieldType := fun k => match k with
  | _ => .int
abbrev wsJ90 : List Cond := u_ws RJ9 TJ9 0
theorem nmJ9 : ∀ a, a < 0 → ∀ b, b < 0 → a ≠ b → (TJ9 a).2.1 ≠ (TJ9 b).2.1 := by decide +kernel
theorem tyJ9_ok : ∀ k, k < 0 → parseFieldDescriptor (TJ9 k).2.2.1 = some (tyJ9 k) := by decide +kernel
abbrev cJ9_max_7cf53 : ByteArray := prog_16_method_65_code
def yJ9_max_7cf53 : MethodName := ⟨RJ9, "max", "(II)I"⟩
abbrev cJ9_min_7cf53 : ByteArray := prog_16_method_69_code
def yJ9_min_7cf53 : MethodName := ⟨RJ9, "min", "(II)I"⟩
def RJ10 : String := "java/lang/System"
def TJ10 : u_T := fun k => match k with
  | _ => ("", "", "", false)
def tyJ10 : Nat → FieldType := fun k => match k with
  | _ => .int
abbrev wsJ100 : List Cond := u_ws RJ10 TJ10 0
theorem nmJ10 : ∀ a, a < 0 → ∀ b, b < 0 → a ≠ b → (TJ10 a).2.1 ≠ (TJ10 b).2.1 := by decide +kernel
theorem tyJ10_ok : ∀ k, k < 0 → parseFieldDescriptor (TJ10 k).2.2.1 = some (tyJ10 k) := by decide +kernel
def RJ7 : String := "java/util/Arrays"
def TJ7 : u_T := fun k => match k with
  | _ => ("", "", "", false)
def tyJ7 : Nat → FieldType := fun k => match k with
  | _ => .int
abbrev wsJ70 : List Cond := u_ws RJ7 TJ7 0
theorem nmJ7 : ∀ a, a < 0 → ∀ b, b < 0 → a ≠ b → (TJ7 a).2.1 ≠ (TJ7 b).2.1 := by decide +kernel
theorem tyJ7_ok : ∀ k, k < 0 → parseFieldDescriptor (TJ7 k).2.2.1 = some (tyJ7 k) := by decide +kernel
abbrev cJ7_fill_53178 : ByteArray := prog_18_method_103_code
def yJ7_fill_53178 : MethodName := ⟨RJ7, "fill", "([II)V"⟩
def RL : String := "RegretPitLaw"
abbrev cL_law : ByteArray := code
def yL_law : MethodName := ⟨RL, "law", "([I)Z"⟩
def wsL_law_r1 : List Cond := [Cond.classLink RL 7 RX11, Cond.instantiable RX11 18, Cond.initialized RX11, Cond.classLink RL 10 RX12, Cond.instantiable RX12 28, Cond.initialized RX12, Cond.methodLink RL 9 yX11_init, Cond.instanceMethod yX11_init, Cond.code yX11_init cX11_init 1 none, Cond.methodLink RX11 3 objectInit, Cond.instanceMethod objectInit, Cond.code objectInit ⟨#[0xb1]⟩ 1 none, Cond.classLink RX11 9 RX10, Cond.instantiable RX10 9, Cond.initialized RX10, Cond.fieldLink RX11 12 "RegretPit" "text" "LRegretPit$Text;", Cond.classLink RX11 16 RX0, Cond.instantiable RX0 8, Cond.initialized RX0, Cond.fieldLink RX11 19 "RegretPit" "draft" "LRegretPit$Crew;", Cond.fieldLink RX11 23 "RegretPit" "crew" "LRegretPit$Crew;", Cond.classLink RX11 26 RX4, Cond.instantiable RX4 6, Cond.initialized RX4]
def wsL_law_r2 : List Cond := [Cond.fieldLink RX11 29 "RegretPit" "now" "LRegretPit$Now;", Cond.fieldLink RX11 33 "RegretPit" "images" "[LRegretPit$Now;", Cond.arrayClass .boolean, Cond.fieldLink RX11 37 "RegretPit" "kept" "[Z", Cond.classLink RX11 41 RX5, Cond.instantiable RX5 7, Cond.initialized RX5, Cond.fieldLink RX11 44 "RegretPit" "planner" "LRegretPit$Planner;", Cond.classLink RX11 48 RX3, Cond.instantiable RX3 3, Cond.initialized RX3, Cond.fieldLink RX11 51 "RegretPit" "matcher" "LRegretPit$Matcher;", Cond.classLink RX11 55 RX2, Cond.instantiable RX2 1, Cond.initialized RX2, Cond.classLink RX11 58 RX9, Cond.instantiable RX9 1, Cond.initialized RX9, Cond.classLink RX11 61 RX6, Cond.instantiable RX6 1, Cond.initialized RX6, Cond.classLink RX11 64 RX7, Cond.instantiable RX7 1, Cond.initialized RX7]
def wsL_law_r3 : List Cond := [Cond.classLink RX11 67 RX8, Cond.instantiable RX8 1, Cond.initialized RX8, Cond.classLink RX11 70 RX1, Cond.instantiable RX1 1, Cond.initialized RX1, Cond.fieldLink RX11 73 "RegretPit" "kinds" "[LRegretPit$Lump;", Cond.arrayClass .int, Cond.fieldLink RX11 77 "RegretPit" "later" "[I", Cond.fieldLink RX11 81 "RegretPit" "litShift" "[I", Cond.fieldLink RX11 84 "RegretPit" "litLump" "[I", Cond.fieldLink RX11 87 "RegretPit" "toldX" "[I", Cond.fieldLink RX11 90 "RegretPit" "toldY" "[I", Cond.fieldLink RX11 93 "RegretPit" "fitting" "[I", Cond.fieldLink RX11 96 "RegretPit" "seen" "[I", Cond.instanceMethod yX10_init, Cond.code yX10_init cX10_init 1 none, Cond.methodLink RX10 3 objectInit, Cond.fieldLink RX10 9 "RegretPit$Text" "bytes" "[I", Cond.instanceMethod yX0_init, Cond.code yX0_init cX0_init 1 none, Cond.methodLink RX0 3 objectInit, Cond.fieldLink RX0 9 "RegretPit$Crew" "cage" "I", Cond.fieldLink RX0 15 "RegretPit$Crew" "shale" "I"]
def wsL_law_r4 : List Cond := [Cond.fieldLink RX0 18 "RegretPit$Crew" "sorry" "[I", Cond.fieldLink RX0 22 "RegretPit$Crew" "grows" "[I", Cond.classLink RX0 25 "[[I", Cond.fieldLink RX0 27 "RegretPit$Crew" "beside" "[[I", Cond.fieldLink RX0 30 "RegretPit$Crew" "pull" "[[I", Cond.fieldLink RX0 33 "RegretPit$Crew" "pullMost" "[I", Cond.instanceMethod yX4_init, Cond.code yX4_init cX4_init 1 none, Cond.methodLink RX4 3 objectInit, Cond.fieldLink RX4 9 "RegretPit$Now" "sorry" "[I", Cond.fieldLink RX4 15 "RegretPit$Now" "heap" "[I", Cond.fieldLink RX4 18 "RegretPit$Now" "past" "[I", Cond.instanceMethod yX5_init, Cond.code yX5_init cX5_init 1 none, Cond.methodLink RX5 3 objectInit, Cond.fieldLink RX5 9 "RegretPit$Planner" "bestWay" "[I", Cond.classLink RX5 15 "[[I", Cond.fieldLink RX5 17 "RegretPit$Planner" "rows" "[[I", Cond.fieldLink RX5 20 "RegretPit$Planner" "way" "[I", Cond.instanceMethod yX3_init, Cond.code yX3_init cX3_init 1 none, Cond.methodLink RX3 3 objectInit, Cond.fieldLink RX3 9 "RegretPit$Matcher" "best" "[I", Cond.fieldLink RX3 15 "RegretPit$Matcher" "mate" "[I"]
def wsL_law_r5 : List Cond := [Cond.instanceMethod yX2_init, Cond.code yX2_init cX2_init 1 none, Cond.methodLink RX2 1 objectInit, Cond.instanceMethod yX9_init, Cond.code yX9_init cX9_init 1 none, Cond.instanceMethod yX6_init, Cond.code yX6_init cX6_init 1 none, Cond.instanceMethod yX7_init, Cond.code yX7_init cX7_init 1 none, Cond.instanceMethod yX8_init, Cond.code yX8_init cX8_init 1 none, Cond.instanceMethod yX1_init, Cond.code yX1_init cX1_init 1 none, Cond.methodLink RL 12 yX12_init, Cond.instanceMethod yX12_init, Cond.code yX12_init cX12_init 1 none, Cond.methodLink RX12 1 objectInit, Cond.arrayClass .byte, Cond.fieldLink RX12 7 "RegretPitModel" "text" "[B", Cond.fieldLink RX12 13 "RegretPitModel" "men" "[I", Cond.fieldLink RX12 17 "RegretPitModel" "grows" "[I", Cond.fieldLink RX12 20 "RegretPitModel" "draftSorry" "[I", Cond.fieldLink RX12 23 "RegretPitModel" "near" "[I", Cond.fieldLink RX12 26 "RegretPitModel" "cage" "[I"]
def wsL_law_r6 : List Cond := [Cond.fieldLink RX12 29 "RegretPitModel" "shale" "[I", Cond.fieldLink RX12 32 "RegretPitModel" "now" "[I", Cond.fieldLink RX12 35 "RegretPitModel" "isKept" "[Z", Cond.fieldLink RX12 39 "RegretPitModel" "tried" "[I", Cond.fieldLink RX12 42 "RegretPitModel" "weeks" "[I", Cond.fieldLink RX12 45 "RegretPitModel" "bestTries" "[I", Cond.fieldLink RX12 48 "RegretPitModel" "mate" "[I", Cond.fieldLink RX12 51 "RegretPitModel" "litShift" "[I", Cond.fieldLink RX12 54 "RegretPitModel" "litLong" "[I", Cond.fieldLink RX12 57 "RegretPitModel" "toldX" "[I", Cond.fieldLink RX12 60 "RegretPitModel" "toldY" "[I", Cond.methodLink RX12 63 yX12_plain, Cond.instanceMethod yX12_plain, Cond.selects RX12 yX12_plain yX12_plain, Cond.code yX12_plain cX12_plain 2 none, Cond.fieldLink RX12 103 "RegretPitModel" "cageTold" "Z", Cond.fieldLink RX12 107 "RegretPitModel" "shaleTold" "Z", Cond.methodLink RX12 66 yX12_takeDraft, Cond.instanceMethod yX12_takeDraft, Cond.selects RX12 yX12_takeDraft yX12_takeDraft, Cond.code yX12_takeDraft cX12_takeDraft 2 none, Cond.fieldLink RX12 118 "RegretPitModel" "lit" "I", Cond.fieldLink RX12 121 "RegretPitModel" "told" "I", Cond.methodLink RL 13 yX11_type]
def wsL_law_r7 : List Cond := [Cond.instanceMethod yX11_type, Cond.selects RX11 yX11_type yX11_type, Cond.code yX11_type cX11_type 2 (some .int), Cond.fieldLink RX11 99 "RegretPit$Text" "length" "I", Cond.methodLink RX11 103 yX10_adds, Cond.instanceMethod yX10_adds, Cond.selects RX10 yX10_adds yX10_adds, Cond.code yX10_adds cX10_adds 2 none, Cond.fieldLink RX10 15 "RegretPit$Text" "length" "I", Cond.methodLink RL 17 yX12_type, Cond.instanceMethod yX12_type, Cond.selects RX12 yX12_type yX12_type, Cond.code yX12_type cX12_type 2 (some .int), Cond.fieldLink RX12 73 "RegretPitModel" "typed" "I", Cond.methodLink RX12 69 yX12_in, Cond.static yX12_in, Cond.code yX12_in cX12_in 3 (some .boolean), Cond.methodLink RL 18 yX11_clear, Cond.instanceMethod yX11_clear, Cond.selects RX11 yX11_clear yX11_clear, Cond.code yX11_clear cX11_clear 2 (some .int), Cond.methodLink RL 22 yX12_clear, Cond.instanceMethod yX12_clear, Cond.selects RX12 yX12_clear yX12_clear]
def wsL_law_r8 : List Cond := [Cond.code yX12_clear cX12_clear 2 (some .int), Cond.methodLink RL 23 yX11_pit, Cond.instanceMethod yX11_pit, Cond.selects RX11 yX11_pit yX11_pit, Cond.code yX11_pit cX11_pit 3 (some .int), Cond.fieldLink RX11 121 "RegretPit" "lit" "I", Cond.fieldLink RX11 124 "RegretPit" "told" "I", Cond.methodLink RX11 107 yX10_reads, Cond.instanceMethod yX10_reads, Cond.selects RX10 yX10_reads yX10_reads, Cond.code yX10_reads cX10_reads 3 (some .int), Cond.fieldLink RX10 24 "RegretPit$Text" "behind" "I", Cond.fieldLink RX10 27 "RegretPit$Text" "fault" "Z", Cond.fieldLink RX10 31 "RegretPit$Text" "cageTold" "Z", Cond.fieldLink RX10 34 "RegretPit$Text" "shaleTold" "Z", Cond.fieldLink RX10 40 "RegretPit$Text" "token" "I", Cond.fieldLink RX10 47 "RegretPit$Text" "place" "I", Cond.methodLink RX10 19 yX0_empties, Cond.instanceMethod yX0_empties, Cond.selects RX0 yX0_empties yX0_empties, Cond.code yX0_empties cX0_empties 2 none, Cond.fieldLink RX0 36 "RegretPit$Crew" "size" "I", Cond.methodLink RX0 39 yJ7_fill_53178, Cond.static yJ7_fill_53178]
def wsL_law_r9 : List Cond := [Cond.initialized RJ7, Cond.code yJ7_fill_53178 cJ7_fill_53178 4 none, Cond.methodLink RX10 37 yX10_readsToken, Cond.instanceMethod yX10_readsToken, Cond.selects RX10 yX10_readsToken yX10_readsToken, Cond.code yX10_readsToken cX10_readsToken 1 none, Cond.methodLink RX10 83 yX10_signAt, Cond.instanceMethod yX10_signAt, Cond.selects RX10 yX10_signAt yX10_signAt, Cond.code yX10_signAt cX10_signAt 3 (some .int), Cond.methodLink RX10 87 yX10_readsValue, Cond.instanceMethod yX10_readsValue, Cond.selects RX10 yX10_readsValue yX10_readsValue, Cond.code yX10_readsValue cX10_readsValue 2 none, Cond.fieldLink RX10 50 "RegretPit$Text" "value" "I", Cond.methodLink RX10 43 yX10_readsItem, Cond.instanceMethod yX10_readsItem, Cond.selects RX10 yX10_readsItem yX10_readsItem, Cond.code yX10_readsItem cX10_readsItem 2 none, Cond.fieldLink RX10 64 "RegretPit$Crew" "cage" "I", Cond.fieldLink RX10 67 "RegretPit$Crew" "shale" "I", Cond.methodLink RX10 53 yX10_readsMan, Cond.instanceMethod yX10_readsMan, Cond.selects RX10 yX10_readsMan yX10_readsMan]
def wsL_law_r10 : List Cond := [Cond.code yX10_readsMan cX10_readsMan 4 none, Cond.fieldLink RX10 70 "RegretPit$Crew" "size" "I", Cond.fieldLink RX10 73 "RegretPit$Crew" "sorry" "[I", Cond.fieldLink RX10 76 "RegretPit$Crew" "grows" "[I", Cond.methodLink RX10 60 yX10_readsNumber, Cond.instanceMethod yX10_readsNumber, Cond.selects RX10 yX10_readsNumber yX10_readsNumber, Cond.code yX10_readsNumber cX10_readsNumber 3 (some .int), Cond.methodLink RX10 56 yX10_readsTwo, Cond.instanceMethod yX10_readsTwo, Cond.selects RX10 yX10_readsTwo yX10_readsTwo, Cond.code yX10_readsTwo cX10_readsTwo 6 none, Cond.fieldLink RX10 79 "RegretPit$Crew" "beside" "[[I", Cond.methodLink RX11 111 yX0_becomes, Cond.instanceMethod yX0_becomes, Cond.selects RX0 yX0_becomes yX0_becomes, Cond.code yX0_becomes cX0_becomes 3 none, Cond.methodLink RX0 45 arraycopyName, Cond.native arraycopyName, Cond.static arraycopyName, Cond.initialized "java/lang/System", Cond.methodLink RX0 51 yX0_measures, Cond.instanceMethod yX0_measures, Cond.selects RX0 yX0_measures yX0_measures]
def wsL_law_r11 : List Cond := [Cond.code yX0_measures cX0_measures 5 none, Cond.methodLink RX0 59 Lib.Math.max.name, Cond.static Lib.Math.max.name, Cond.initialized "java/lang/Math", Cond.code Lib.Math.max.name Lib.Math.max.code 2 (some .int), Cond.methodLink RX0 55 yX0_isShift, Cond.instanceMethod yX0_isShift, Cond.selects RX0 yX0_isShift yX0_isShift, Cond.code yX0_isShift cX0_isShift 2 (some .boolean), Cond.methodLink RX0 68 yJ6_bitCount_0f7a4, Cond.static yJ6_bitCount_0f7a4, Cond.initialized RJ6, Cond.code yJ6_bitCount_0f7a4 cJ6_bitCount_0f7a4 1 (some .int), Cond.constant RJ6 265 (1431655765), Cond.constant RJ6 266 (858993459), Cond.constant RJ6 267 (252645135), Cond.methodLink RX11 115 yX5_forgets, Cond.instanceMethod yX5_forgets, Cond.selects RX5 yX5_forgets yX5_forgets, Cond.code yX5_forgets cX5_forgets 1 none, Cond.fieldLink RX5 23 "RegretPit$Planner" "weeks" "I", Cond.methodLink RX11 118 yX4_begins, Cond.instanceMethod yX4_begins, Cond.selects RX4 yX4_begins yX4_begins]
def wsL_law_r12 : List Cond := [Cond.code yX4_begins cX4_begins 2 none, Cond.fieldLink RX4 21 "RegretPit$Crew" "sorry" "[I", Cond.methodLink RX4 24 arraycopyName, Cond.fieldLink RX4 36 "RegretPit$Now" "brought" "I", Cond.fieldLink RX4 40 "RegretPit$Now" "week" "I", Cond.fieldLink RX4 43 "RegretPit$Now" "known" "I", Cond.methodLink RX4 30 yJ7_fill_53178, Cond.methodLink RL 26 yX12_pit, Cond.instanceMethod yX12_pit, Cond.selects RX12 yX12_pit yX12_pit, Cond.code yX12_pit cX12_pit 3 (some .int), Cond.fieldLink RX12 77 "RegretPitModel" "at" "I", Cond.fieldLink RX12 93 "RegretPitModel" "fault" "I", Cond.fieldLink RX12 90 "RegretPitModel" "sort" "I", Cond.methodLink RX12 96 yX12_step, Cond.instanceMethod yX12_step, Cond.selects RX12 yX12_step yX12_step, Cond.code yX12_step cX12_step 2 none, Cond.fieldLink RX12 84 "RegretPitModel" "start" "I", Cond.fieldLink RX12 87 "RegretPitModel" "value" "I", Cond.methodLink RX12 80 yX12_here, Cond.instanceMethod yX12_here, Cond.selects RX12 yX12_here yX12_here, Cond.code yX12_here cX12_here 1 (some .int)]
def wsL_law_r13 : List Cond := [Cond.methodLink RX12 124 yX12_mayBe, Cond.instanceMethod yX12_mayBe, Cond.selects RX12 yX12_mayBe yX12_mayBe, Cond.code yX12_mayBe cX12_mayBe 2 (some .boolean), Cond.methodLink RX12 99 yX12_due, Cond.instanceMethod yX12_due, Cond.selects RX12 yX12_due yX12_due, Cond.code yX12_due cX12_due 3 (some .int), Cond.methodLink RX12 128 yX12_readRow, Cond.instanceMethod yX12_readRow, Cond.selects RX12 yX12_readRow yX12_readRow, Cond.code yX12_readRow cX12_readRow 2 none, Cond.methodLink RX12 110 yX12_number, Cond.instanceMethod yX12_number, Cond.selects RX12 yX12_number yX12_number, Cond.code yX12_number cX12_number 3 (some .int), Cond.methodLink RX12 114 yX12_readNear, Cond.instanceMethod yX12_readNear, Cond.selects RX12 yX12_readNear yX12_readNear, Cond.code yX12_readNear cX12_readNear 5 none, Cond.methodLink RL 27 yX11_man, Cond.instanceMethod yX11_man, Cond.selects RX11 yX11_man yX11_man, Cond.code yX11_man cX11_man 3 (some .int)]
def wsL_law_r14 : List Cond := [Cond.fieldLink RX11 131 "RegretPit$Now" "sorry" "[I", Cond.fieldLink RX11 134 "RegretPit$Crew" "grows" "[I", Cond.fieldLink RX11 137 "RegretPit$Now" "heap" "[I", Cond.methodLink RX11 127 yX0_isMan, Cond.instanceMethod yX0_isMan, Cond.selects RX0 yX0_isMan yX0_isMan, Cond.code yX0_isMan cX0_isMan 2 (some .boolean), Cond.methodLink RL 31 yX12_man, Cond.instanceMethod yX12_man, Cond.selects RX12 yX12_man yX12_man, Cond.code yX12_man cX12_man 3 (some .int), Cond.methodLink RX12 136 yX12_isMan, Cond.instanceMethod yX12_isMan, Cond.selects RX12 yX12_isMan yX12_isMan, Cond.code yX12_isMan cX12_isMan 2 (some .boolean), Cond.methodLink RL 32 yX11_beside, Cond.instanceMethod yX11_beside, Cond.selects RX11 yX11_beside yX11_beside, Cond.code yX11_beside cX11_beside 3 (some .int), Cond.fieldLink RX11 144 "RegretPit$Crew" "beside" "[[I", Cond.constant RX11 148 (-1000000), Cond.methodLink RX11 140 yX0_areTwo, Cond.instanceMethod yX0_areTwo, Cond.selects RX0 yX0_areTwo yX0_areTwo]
def wsL_law_r15 : List Cond := [Cond.code yX0_areTwo cX0_areTwo 3 (some .boolean), Cond.methodLink RX0 65 yX0_isMan, Cond.methodLink RL 35 yX12_beside, Cond.instanceMethod yX12_beside, Cond.selects RX12 yX12_beside yX12_beside, Cond.code yX12_beside cX12_beside 3 (some .int), Cond.constant RX12 139 (-1000000), Cond.methodLink RL 36 yX11_week, Cond.instanceMethod yX11_week, Cond.selects RX11 yX11_week yX11_week, Cond.code yX11_week cX11_week 5 (some .int), Cond.fieldLink RX11 152 "RegretPit$Now" "week" "I", Cond.fieldLink RX11 158 "RegretPit$Crew" "size" "I", Cond.constant RX11 169 (999999), Cond.fieldLink RX11 170 "RegretPit$Now" "brought" "I", Cond.methodLink RX11 173 Lib.Math.min.name, Cond.static Lib.Math.min.name, Cond.code Lib.Math.min.name Lib.Math.min.code 2 (some .int), Cond.methodLink RX11 149 yX0_isShift, Cond.methodLink RX11 155 yX4_remembers, Cond.instanceMethod yX4_remembers, Cond.selects RX4 yX4_remembers yX4_remembers, Cond.code yX4_remembers cX4_remembers 2 none, Cond.methodLink RX11 161 yX0_coinsOf]
def wsL_law_r16 : List Cond := [Cond.instanceMethod yX0_coinsOf, Cond.selects RX0 yX0_coinsOf yX0_coinsOf, Cond.code yX0_coinsOf cX0_coinsOf 5 (some .int), Cond.methodLink RX0 74 yX0_aheadOfCut, Cond.instanceMethod yX0_aheadOfCut, Cond.selects RX0 yX0_aheadOfCut yX0_aheadOfCut, Cond.code yX0_aheadOfCut cX0_aheadOfCut 5 (some .int), Cond.methodLink RX11 165 yX0_lives, Cond.instanceMethod yX0_lives, Cond.selects RX0 yX0_lives yX0_lives, Cond.code yX0_lives cX0_lives 6 none, Cond.methodLink RX0 78 Lib.Math.min.name, Cond.methodLink RL 39 yX12_week, Cond.instanceMethod yX12_week, Cond.selects RX12 yX12_week yX12_week, Cond.code yX12_week cX12_week 4 (some .int), Cond.constant RX12 162 (999999), Cond.methodLink RX12 150 yX12_isShift, Cond.instanceMethod yX12_isShift, Cond.selects RX12 yX12_isShift yX12_isShift, Cond.code yX12_isShift cX12_isShift 2 (some .boolean), Cond.methodLink RX12 132 yX12_manyOf, Cond.static yX12_manyOf, Cond.code yX12_manyOf cX12_manyOf 3 (some .int)]
def wsL_law_r17 : List Cond := [Cond.methodLink RX12 153 yX12_know, Cond.instanceMethod yX12_know, Cond.selects RX12 yX12_know yX12_know, Cond.code yX12_know cX12_know 2 none, Cond.methodLink RX12 156 yX12_take, Cond.instanceMethod yX12_take, Cond.selects RX12 yX12_take yX12_take, Cond.code yX12_take cX12_take 2 none, Cond.methodLink RX12 143 yX12_begins, Cond.instanceMethod yX12_begins, Cond.selects RX12 yX12_begins yX12_begins, Cond.code yX12_begins cX12_begins 7 (some .int), Cond.methodLink RX12 140 yX12_held, Cond.static yX12_held, Cond.code yX12_held cX12_held 1 (some .int), Cond.methodLink RX12 147 yX12_brings, Cond.instanceMethod yX12_brings, Cond.selects RX12 yX12_brings yX12_brings, Cond.code yX12_brings cX12_brings 2 (some .int), Cond.methodLink RX12 159 yX12_pass, Cond.instanceMethod yX12_pass, Cond.selects RX12 yX12_pass yX12_pass, Cond.code yX12_pass cX12_pass 8 (some .int), Cond.methodLink RL 40 yX11_quarrel]
def wsL_law_r18 : List Cond := [Cond.instanceMethod yX11_quarrel, Cond.selects RX11 yX11_quarrel yX11_quarrel, Cond.code yX11_quarrel cX11_quarrel 4 (some .int), Cond.methodLink RL 44 yX12_quarrel, Cond.instanceMethod yX12_quarrel, Cond.selects RX12 yX12_quarrel yX12_quarrel, Cond.code yX12_quarrel cX12_quarrel 4 (some .int), Cond.methodLink RL 45 yX11_forgives, Cond.instanceMethod yX11_forgives, Cond.selects RX11 yX11_forgives yX11_forgives, Cond.code yX11_forgives cX11_forgives 3 (some .int), Cond.methodLink RL 48 yX12_forgives, Cond.instanceMethod yX12_forgives, Cond.selects RX12 yX12_forgives yX12_forgives, Cond.code yX12_forgives cX12_forgives 3 (some .int), Cond.methodLink RL 49 yX11_buys, Cond.instanceMethod yX11_buys, Cond.selects RX11 yX11_buys yX11_buys, Cond.code yX11_buys cX11_buys 3 (some .int), Cond.methodLink RL 52 yX12_buys, Cond.instanceMethod yX12_buys, Cond.selects RX12 yX12_buys yX12_buys, Cond.code yX12_buys cX12_buys 3 (some .int), Cond.methodLink RL 53 yX11_undo]
def wsL_law_r19 : List Cond := [Cond.instanceMethod yX11_undo, Cond.selects RX11 yX11_undo yX11_undo, Cond.code yX11_undo cX11_undo 1 (some .int), Cond.fieldLink RX11 179 "RegretPit$Now" "known" "I", Cond.methodLink RX11 182 yX4_recalls, Cond.instanceMethod yX4_recalls, Cond.selects RX4 yX4_recalls yX4_recalls, Cond.code yX4_recalls cX4_recalls 2 none, Cond.methodLink RL 56 yX12_undo, Cond.instanceMethod yX12_undo, Cond.selects RX12 yX12_undo yX12_undo, Cond.code yX12_undo cX12_undo 2 (some .int), Cond.methodLink RL 57 yX11_now, Cond.instanceMethod yX11_now, Cond.selects RX11 yX11_now yX11_now, Cond.code yX11_now cX11_now 2 (some .int), Cond.methodLink RX11 185 yX11_sumOf, Cond.instanceMethod yX11_sumOf, Cond.selects RX11 yX11_sumOf yX11_sumOf, Cond.code yX11_sumOf cX11_sumOf 4 (some .int), Cond.methodLink RX11 189 yX11_payForAll, Cond.instanceMethod yX11_payForAll, Cond.selects RX11 yX11_payForAll yX11_payForAll, Cond.code yX11_payForAll cX11_payForAll 3 (some .int)]
def wsL_law_r20 : List Cond := [Cond.methodLink RX11 193 Lib.Math.max.name, Cond.methodLink RL 60 yX12_now, Cond.instanceMethod yX12_now, Cond.selects RX12 yX12_now yX12_now, Cond.code yX12_now cX12_now 6 (some .int), Cond.methodLink RL 61 yX11_yieldOf, Cond.instanceMethod yX11_yieldOf, Cond.selects RX11 yX11_yieldOf yX11_yieldOf, Cond.code yX11_yieldOf cX11_yieldOf 2 (some .int), Cond.methodLink RX11 196 yX0_brings, Cond.instanceMethod yX0_brings, Cond.selects RX0 yX0_brings yX0_brings, Cond.code yX0_brings cX0_brings 5 (some .int), Cond.methodLink RX0 81 yX0_coinsOf, Cond.methodLink RL 64 yX12_yieldOf, Cond.instanceMethod yX12_yieldOf, Cond.selects RX12 yX12_yieldOf yX12_yieldOf, Cond.code yX12_yieldOf cX12_yieldOf 2 (some .int), Cond.methodLink RL 65 yX11_best, Cond.instanceMethod yX11_best, Cond.selects RX11 yX11_best yX11_best, Cond.code yX11_best cX11_best 6 (some .int), Cond.methodLink RL 68 yX12_best, Cond.instanceMethod yX12_best]
def wsL_law_r21 : List Cond := [Cond.selects RX12 yX12_best yX12_best, Cond.code yX12_best cX12_best 6 (some .int), Cond.methodLink RX12 163 yX12_yieldOf, Cond.methodLink RL 69 yX11_plan, Cond.instanceMethod yX11_plan, Cond.selects RX11 yX11_plan yX11_plan, Cond.code yX11_plan cX11_plan 4 (some .int), Cond.fieldLink RX11 204 "RegretPit$Planner" "most" "I", Cond.fieldLink RX11 207 "RegretPit$Planner" "bestWay" "[I", Cond.methodLink RX11 200 yX5_searches, Cond.instanceMethod yX5_searches, Cond.selects RX5 yX5_searches yX5_searches, Cond.code yX5_searches cX5_searches 6 none, Cond.fieldLink RX5 27 "RegretPit$Planner" "least" "I", Cond.fieldLink RX5 34 "RegretPit$Planner" "most" "I", Cond.fieldLink RX5 37 "RegretPit$Planner" "held" "I", Cond.fieldLink RX5 40 "RegretPit$Crew" "size" "I", Cond.methodLink RX5 30 yX5_isStart, Cond.instanceMethod yX5_isStart, Cond.selects RX5 yX5_isStart yX5_isStart, Cond.code yX5_isStart cX5_isStart 4 (some .boolean), Cond.methodLink RX5 45 yX5_looks, Cond.instanceMethod yX5_looks, Cond.selects RX5 yX5_looks yX5_looks]
def wsL_law_r22 : List Cond := [Cond.code yX5_looks cX5_looks 7 none, Cond.methodLink RX5 49 yX5_takes, Cond.instanceMethod yX5_takes, Cond.selects RX5 yX5_takes yX5_takes, Cond.code yX5_takes cX5_takes 2 none, Cond.methodLink RX5 72 arraycopyName, Cond.methodLink RX5 53 yX5_ceiling, Cond.instanceMethod yX5_ceiling, Cond.selects RX5 yX5_ceiling yX5_ceiling, Cond.code yX5_ceiling cX5_ceiling 10 (some .int), Cond.fieldLink RX5 78 "RegretPit$Crew" "cage" "I", Cond.methodLink RX5 81 yX0_coinsAtMost, Cond.instanceMethod yX0_coinsAtMost, Cond.selects RX0 yX0_coinsAtMost yX0_coinsAtMost, Cond.code yX0_coinsAtMost cX0_coinsAtMost 4 (some .int), Cond.methodLink RX5 57 yX0_isShift, Cond.methodLink RX5 61 yX0_brings, Cond.methodLink RX5 65 yX0_lives, Cond.methodLink RX5 69 yX5_holds, Cond.instanceMethod yX5_holds, Cond.selects RX5 yX5_holds yX5_holds, Cond.code yX5_holds cX5_holds 4 (some .boolean), Cond.methodLink RL 72 yX12_plan, Cond.instanceMethod yX12_plan]
def wsL_law_r23 : List Cond := [Cond.selects RX12 yX12_plan yX12_plan, Cond.code yX12_plan cX12_plan 14 (some .int), Cond.methodLink RX12 166 yX12_isFull, Cond.instanceMethod yX12_isFull, Cond.selects RX12 yX12_isFull yX12_isFull, Cond.code yX12_isFull cX12_isFull 5 (some .boolean), Cond.methodLink RL 73 yX11_lean, Cond.instanceMethod yX11_lean, Cond.selects RX11 yX11_lean yX11_lean, Cond.code yX11_lean cX11_lean 4 (some .int), Cond.methodLink RX11 210 arraycopyName, Cond.methodLink RL 76 yX12_lean, Cond.instanceMethod yX12_lean, Cond.selects RX12 yX12_lean yX12_lean, Cond.code yX12_lean cX12_lean 4 (some .int), Cond.methodLink RL 77 yX11_still, Cond.instanceMethod yX11_still, Cond.selects RX11 yX11_still yX11_still, Cond.code yX11_still cX11_still 5 (some .int), Cond.methodLink RL 80 yX12_still, Cond.instanceMethod yX12_still, Cond.selects RX12 yX12_still yX12_still, Cond.code yX12_still cX12_still 5 (some .int), Cond.methodLink RL 81 yX11_temper]
def wsL_law_r24 : List Cond := [Cond.instanceMethod yX11_temper, Cond.selects RX11 yX11_temper yX11_temper, Cond.code yX11_temper cX11_temper 4 (some .int), Cond.methodLink RX11 216 yX0_pullOf, Cond.instanceMethod yX0_pullOf, Cond.selects RX0 yX0_pullOf yX0_pullOf, Cond.code yX0_pullOf cX0_pullOf 3 (some .int), Cond.methodLink RL 84 yX12_temper, Cond.instanceMethod yX12_temper, Cond.selects RX12 yX12_temper yX12_temper, Cond.code yX12_temper cX12_temper 5 (some .int), Cond.methodLink RL 85 yX11_mates, Cond.instanceMethod yX11_mates, Cond.selects RX11 yX11_mates yX11_mates, Cond.code yX11_mates cX11_mates 2 (some .int), Cond.fieldLink RX11 221 "RegretPit$Matcher" "most" "I", Cond.fieldLink RX11 222 "RegretPit$Matcher" "best" "[I", Cond.methodLink RX11 219 yX3_searches, Cond.instanceMethod yX3_searches, Cond.selects RX3 yX3_searches yX3_searches, Cond.code yX3_searches cX3_searches 2 none, Cond.fieldLink RX3 18 "RegretPit$Matcher" "most" "I", Cond.methodLink RX3 22 yJ7_fill_53178, Cond.methodLink RX3 28 yX3_looks]
def wsL_law_r25 : List Cond := [Cond.instanceMethod yX3_looks, Cond.selects RX3 yX3_looks yX3_looks, Cond.code yX3_looks cX3_looks 5 none, Cond.fieldLink RX3 32 "RegretPit$Crew" "size" "I", Cond.fieldLink RX3 41 "RegretPit$Crew" "beside" "[[I", Cond.methodLink RX3 37 yX3_takes, Cond.instanceMethod yX3_takes, Cond.selects RX3 yX3_takes yX3_takes, Cond.code yX3_takes cX3_takes 2 none, Cond.methodLink RX3 45 arraycopyName, Cond.methodLink RL 88 yX12_mates, Cond.instanceMethod yX12_mates, Cond.selects RX12 yX12_mates yX12_mates, Cond.code yX12_mates cX12_mates 7 (some .int), Cond.methodLink RX12 170 yX12_worth, Cond.instanceMethod yX12_worth, Cond.selects RX12 yX12_worth yX12_worth, Cond.code yX12_worth cX12_worth 6 (some .int), Cond.methodLink RL 89 yX11_lights, Cond.instanceMethod yX11_lights, Cond.selects RX11 yX11_lights yX11_lights, Cond.code yX11_lights cX11_lights 3 (some .int), Cond.methodLink RL 92 yX12_lights, Cond.instanceMethod yX12_lights]
def wsL_law_r26 : List Cond := [Cond.selects RX12 yX12_lights yX12_lights, Cond.code yX12_lights cX12_lights 3 (some .int), Cond.methodLink RL 93 yX11_forget, Cond.instanceMethod yX11_forget, Cond.selects RX11 yX11_forget yX11_forget, Cond.code yX11_forget cX11_forget 2 (some .int), Cond.methodLink RL 96 yX12_forget, Cond.instanceMethod yX12_forget, Cond.selects RX12 yX12_forget yX12_forget, Cond.code yX12_forget cX12_forget 2 (some .int), Cond.methodLink RL 97 yX11_whose, Cond.instanceMethod yX11_whose, Cond.selects RX11 yX11_whose yX11_whose, Cond.code yX11_whose cX11_whose 3 (some .int), Cond.methodLink RX11 225 yX11_isLitBy, Cond.instanceMethod yX11_isLitBy, Cond.selects RX11 yX11_isLitBy yX11_isLitBy, Cond.code yX11_isLitBy cX11_isLitBy 4 (some .boolean), Cond.methodLink RX11 228 yX0_cutOf, Cond.instanceMethod yX0_cutOf, Cond.selects RX0 yX0_cutOf yX0_cutOf, Cond.code yX0_cutOf cX0_cutOf 4 (some .int), Cond.methodLink RL 100 yX12_whose, Cond.instanceMethod yX12_whose]
def wsL_law_r27 : List Cond := [Cond.selects RX12 yX12_whose yX12_whose, Cond.code yX12_whose cX12_whose 5 (some .int), Cond.methodLink RL 101 yX11_sold, Cond.instanceMethod yX11_sold, Cond.selects RX11 yX11_sold yX11_sold, Cond.code yX11_sold cX11_sold 7 (some .int), Cond.methodLink RX11 231 yX11_heapOf, Cond.instanceMethod yX11_heapOf, Cond.selects RX11 yX11_heapOf yX11_heapOf, Cond.code yX11_heapOf cX11_heapOf 4 (some .int), Cond.methodLink RL 104 yX12_sold, Cond.instanceMethod yX12_sold, Cond.selects RX12 yX12_sold yX12_sold, Cond.code yX12_sold cX12_sold 8 (some .int), Cond.methodLink RL 105 yX11_tells, Cond.instanceMethod yX11_tells, Cond.selects RX11 yX11_tells yX11_tells, Cond.code yX11_tells cX11_tells 3 (some .int), Cond.methodLink RL 108 yX12_tells, Cond.instanceMethod yX12_tells, Cond.selects RX12 yX12_tells yX12_tells, Cond.code yX12_tells cX12_tells 3 (some .int), Cond.methodLink RL 109 yX11_fit, Cond.instanceMethod yX11_fit]
def wsL_law_r28 : List Cond := [Cond.selects RX11 yX11_fit yX11_fit, Cond.code yX11_fit cX11_fit 3 (some .int), Cond.methodLink RX11 235 yX11_gathersFitting, Cond.instanceMethod yX11_gathersFitting, Cond.selects RX11 yX11_gathersFitting yX11_gathersFitting, Cond.code yX11_gathersFitting cX11_gathersFitting 5 (some .int), Cond.methodLink RX11 241 yX11_lawOf, Cond.static yX11_lawOf, Cond.code yX11_lawOf cX11_lawOf 2 (some .int), Cond.methodLink RX11 238 yX11_mostTelling, Cond.instanceMethod yX11_mostTelling, Cond.selects RX11 yX11_mostTelling yX11_mostTelling, Cond.code yX11_mostTelling cX11_mostTelling 8 (some .int), Cond.methodLink RX11 244 yJ7_fill_53178, Cond.methodLink RL 112 yX12_fit, Cond.instanceMethod yX12_fit, Cond.selects RX12 yX12_fit yX12_fit, Cond.code yX12_fit cX12_fit 8 (some .int), Cond.methodLink RX12 176 yX12_isFit, Cond.instanceMethod yX12_isFit, Cond.selects RX12 yX12_isFit yX12_isFit, Cond.code yX12_isFit cX12_isFit 4 (some .boolean), Cond.methodLink RX12 173 yX12_grown, Cond.static yX12_grown]
def wsL_law_r29 : List Cond := [Cond.code yX12_grown cX12_grown 2 (some .int), Cond.methodLink RX12 179 yX12_unlike, Cond.instanceMethod yX12_unlike, Cond.selects RX12 yX12_unlike yX12_unlike, Cond.code yX12_unlike cX12_unlike 6 (some .int), Cond.methodLink RL 113 yX11_below, Cond.instanceMethod yX11_below, Cond.selects RX11 yX11_below yX11_below, Cond.code yX11_below cX11_below 7 (some .int), Cond.methodLink RX11 250 yX11_commonOf, Cond.static yX11_commonOf, Cond.code yX11_commonOf cX11_commonOf 6 (some .int), Cond.methodLink RL 116 yX12_below, Cond.instanceMethod yX12_below, Cond.selects RX12 yX12_below yX12_below, Cond.code yX12_below cX12_below 9 (some .int), Cond.methodLink RL 117 yX11_mark, Cond.instanceMethod yX11_mark, Cond.selects RX11 yX11_mark yX11_mark, Cond.code yX11_mark cX11_mark 3 (some .int), Cond.methodLink RX11 253 ⟨"RegretPit$Lump", "worth", "(LRegretPit$Crew;LRegretPit$Now;I)I"⟩, Cond.sameMethod "RegretPit$Lump" "RegretPit$Lump" "worth" "(LRegretPit$Crew;LRegretPit$Now;I)I", Cond.instanceMethod ⟨"RegretPit$Lump", "worth", "(LRegretPit$Crew;LRegretPit$Now;I)I"⟩, Cond.selects RX1 ⟨"RegretPit$Lump", "worth", "(LRegretPit$Crew;LRegretPit$Now;I)I"⟩ yX1_worth]
def wsL_law_r30 : List Cond := [Cond.instanceMethod yX1_worth, Cond.code yX1_worth cX1_worth 4 (some .int), Cond.fieldLink RX1 7 "RegretPit$Dust" "asked" "J", Cond.sameField "RegretPit$Dust" "RegretPit$Lump" "asked" "J", Cond.constantLong RX1 13 (100000), Cond.fieldLink RX1 19 "RegretPit$Now" "week" "I", Cond.methodLink RX1 15 yX2_worth, Cond.superclass RX1 RX2, Cond.instanceMethod yX2_worth, Cond.code yX2_worth cX2_worth 4 (some .int), Cond.fieldLink RX2 7 "RegretPit$Lump" "asked" "J", Cond.fieldLink RX2 13 "RegretPit$Now" "sorry" "[I", Cond.methodLink RX11 253 yX2_worth, Cond.selects RX2 yX2_worth yX2_worth, Cond.selects RX6 ⟨"RegretPit$Lump", "worth", "(LRegretPit$Crew;LRegretPit$Now;I)I"⟩ yX6_worth, Cond.instanceMethod yX6_worth, Cond.code yX6_worth cX6_worth 4 (some .int), Cond.fieldLink RX6 7 "RegretPit$Ring" "asked" "J", Cond.sameField "RegretPit$Ring" "RegretPit$Lump" "asked" "J", Cond.constantLong RX6 13 (100), Cond.fieldLink RX6 19 "RegretPit$Now" "heap" "[I", Cond.methodLink RX6 15 yX2_worth, Cond.superclass RX6 RX2, Cond.selects RX7 ⟨"RegretPit$Lump", "worth", "(LRegretPit$Crew;LRegretPit$Now;I)I"⟩ yX7_worth]
def wsL_law_r31 : List Cond := [Cond.instanceMethod yX7_worth, Cond.code yX7_worth cX7_worth 4 (some .int), Cond.fieldLink RX7 7 "RegretPit$Salt" "asked" "J", Cond.sameField "RegretPit$Salt" "RegretPit$Lump" "asked" "J", Cond.constantLong RX7 13 (1000), Cond.methodLink RX7 15 yX9_worth, Cond.sameMethod "RegretPit$Sigh" "RegretPit$Sigh" "worth" "(LRegretPit$Crew;LRegretPit$Now;I)I", Cond.superclass RX7 RX9, Cond.instanceMethod yX9_worth, Cond.code yX9_worth cX9_worth 4 (some .int), Cond.fieldLink RX9 7 "RegretPit$Sigh" "asked" "J", Cond.sameField "RegretPit$Sigh" "RegretPit$Lump" "asked" "J", Cond.constantLong RX9 13 (10), Cond.fieldLink RX9 19 "RegretPit$Crew" "grows" "[I", Cond.methodLink RX9 15 yX2_worth, Cond.superclass RX9 RX2, Cond.selects RX8 ⟨"RegretPit$Lump", "worth", "(LRegretPit$Crew;LRegretPit$Now;I)I"⟩ yX8_worth, Cond.instanceMethod yX8_worth, Cond.code yX8_worth cX8_worth 4 (some .int), Cond.fieldLink RX8 7 "RegretPit$Seam" "asked" "J", Cond.sameField "RegretPit$Seam" "RegretPit$Lump" "asked" "J", Cond.constantLong RX8 13 (10000), Cond.fieldLink RX8 19 "RegretPit$Crew" "size" "I", Cond.methodLink RX8 15 yX6_worth]
def wsL_law_r32 : List Cond := [Cond.sameMethod "RegretPit$Ring" "RegretPit$Ring" "worth" "(LRegretPit$Crew;LRegretPit$Now;I)I", Cond.superclass RX8 RX6, Cond.methodLink RX8 25 yX0_pullOf, Cond.selects RX9 ⟨"RegretPit$Lump", "worth", "(LRegretPit$Crew;LRegretPit$Now;I)I"⟩ yX9_worth, Cond.methodLink RL 120 yX12_mark, Cond.instanceMethod yX12_mark, Cond.selects RX12 yX12_mark yX12_mark, Cond.code yX12_mark cX12_mark 7 (some .int), Cond.fieldLink RX12 182 "RegretPitModel" "trace" "J", Cond.constantLong RX12 186 (11), Cond.constantLong RX12 188 (101), Cond.constantLong RX12 190 (1011), Cond.constantLong RX12 192 (10101), Cond.constantLong RX12 194 (100001), Cond.methodLink RL 121 yX11_keep, Cond.instanceMethod yX11_keep, Cond.selects RX11 yX11_keep yX11_keep, Cond.code yX11_keep cX11_keep 2 (some .int), Cond.methodLink RX11 257 yX4_becomes, Cond.instanceMethod yX4_becomes, Cond.selects RX4 yX4_becomes yX4_becomes, Cond.code yX4_becomes cX4_becomes 2 none, Cond.methodLink RL 124 yX12_keep, Cond.instanceMethod yX12_keep]
def wsL_law_r33 : List Cond := [Cond.selects RX12 yX12_keep yX12_keep, Cond.code yX12_keep cX12_keep 3 (some .int), Cond.methodLink RL 125 yX11_back, Cond.instanceMethod yX11_back, Cond.selects RX11 yX11_back yX11_back, Cond.code yX11_back cX11_back 2 (some .int), Cond.methodLink RL 128 yX12_back, Cond.instanceMethod yX12_back, Cond.selects RX12 yX12_back yX12_back, Cond.code yX12_back cX12_back 3 (some .int), Cond.methodLink RL 129 yX11_count, Cond.instanceMethod yX11_count, Cond.selects RX11 yX11_count yX11_count, Cond.code yX11_count cX11_count 2 (some .int), Cond.fieldLink RX11 260 "RegretPit$Crew" "cage" "I", Cond.fieldLink RX11 263 "RegretPit$Crew" "shale" "I", Cond.methodLink RL 132 yX12_count, Cond.instanceMethod yX12_count, Cond.selects RX12 yX12_count yX12_count, Cond.code yX12_count cX12_count 2 (some .int), Cond.methodLink RL 133 yX11_trace, Cond.instanceMethod yX11_trace, Cond.selects RX11 yX11_trace yX11_trace, Cond.code yX11_trace cX11_trace 4 (some .long)]
def wsL_law_r34 : List Cond := [Cond.fieldLink RX11 266 "RegretPit$Lump" "asked" "J", Cond.methodLink RL 137 yX12_trace, Cond.instanceMethod yX12_trace, Cond.selects RX12 yX12_trace yX12_trace, Cond.code yX12_trace cX12_trace 1 (some .long)]
def wsL_law : List Cond := (wsL_law_r1 ++ (wsL_law_r2 ++ (wsL_law_r3 ++ (wsL_law_r4 ++ (wsL_law_r5 ++ (wsL_law_r6 ++ (wsL_law_r7 ++ (wsL_law_r8 ++ (wsL_law_r9 ++ (wsL_law_r10 ++ (wsL_law_r11 ++ (wsL_law_r12 ++ (wsL_law_r13 ++ (wsL_law_r14 ++ (wsL_law_r15 ++ (wsL_law_r16 ++ (wsL_law_r17 ++ (wsL_law_r18 ++ (wsL_law_r19 ++ (wsL_law_r20 ++ (wsL_law_r21 ++ (wsL_law_r22 ++ (wsL_law_r23 ++ (wsL_law_r24 ++ (wsL_law_r25 ++ (wsL_law_r26 ++ (wsL_law_r27 ++ (wsL_law_r28 ++ (wsL_law_r29 ++ (wsL_law_r30 ++ (wsL_law_r31 ++ (wsL_law_r32 ++ (wsL_law_r33 ++ wsL_law_r34))))))))))))))))))))))))))))))))) ++ wsX110 ++ wsX120 ++ wsX100 ++ wsX00 ++ wsX40 ++ wsX50 ++ wsX30 ++ wsX20 ++ wsX90 ++ wsX60 ++ wsX70 ++ wsX80 ++ wsX10 ++ ([] : List Cond)
theorem inlX0 : ∀ w ∈ wsX00, w ∈ wsL_law := fun _ h => List.mem_append_left _ (List.mem_append_left _ (List.mem_append_left _ (List.mem_append_left _ (List.mem_append_left _ (List.mem_append_left _ (List.mem_append_left _ (List.mem_append_left _ (List.mem_append_left _ (List.mem_append_left _ (List.mem_append_right _ h))))))))))
theorem inlX1 : ∀ w ∈ wsX10, w ∈ wsL_law := fun _ h => List.mem_append_left _ (List.mem_append_right _ h)
theorem inlX2 : ∀ w ∈ wsX20, w ∈ wsL_law := fun _ h => List.mem_append_left _ (List.mem_append_left _ (List.mem_append_left _ (List.mem_append_left _ (List.mem_append_left _ (List.mem_append_left _ (List.mem_append_right _ h))))))
theorem inlX3 : ∀ w ∈ wsX30, w ∈ wsL_law := fun _ h => List.mem_append_left _ (List.mem_append_left _ (List.mem_append_left _ (List.mem_append_left _ (List.mem_append_left _ (List.mem_append_left _ (List.mem_append_left _ (List.mem_append_right _ h)))))))
theorem inlX4 : ∀ w ∈ wsX40, w ∈ wsL_law := fun _ h => List.mem_append_left _ (List.mem_append_left _ (List.mem_append_left _ (List.mem_append_left _ (List.mem_append_left _ (List.mem_append_left _ (List.mem_append_left _ (List.mem_append_left _ (List.mem_append_left _ (List.mem_append_right _ h)))))))))
theorem inlX5 : ∀ w ∈ wsX50, w ∈ wsL_law := fun _ h => List.mem_append_left _ (List.mem_append_left _ (List.mem_append_left _ (List.mem_append_left _ (List.mem_append_left _ (List.mem_append_left _ (List.mem_append_left _ (List.mem_append_left _ (List.mem_append_right _ h))))))))
theorem inlX6 : ∀ w ∈ wsX60, w ∈ wsL_law := fun _ h => List.mem_append_left _ (List.mem_append_left _ (List.mem_append_left _ (List.mem_append_left _ (List.mem_append_right _ h))))
theorem inlX7 : ∀ w ∈ wsX70, w ∈ wsL_law := fun _ h => List.mem_append_left _ (List.mem_append_left _ (List.mem_append_left _ (List.mem_append_right _ h)))
theorem inlX8 : ∀ w ∈ wsX80, w ∈ wsL_law := fun _ h => List.mem_append_left _ (List.mem_append_left _ (List.mem_append_right _ h))
theorem inlX9 : ∀ w ∈ wsX90, w ∈ wsL_law := fun _ h => List.mem_append_left _ (List.mem_append_left _ (List.mem_append_left _ (List.mem_append_left _ (List.mem_append_left _ (List.mem_append_right _ h)))))
theorem inlX10 : ∀ w ∈ wsX100, w ∈ wsL_law := fun _ h => List.mem_append_left _ (List.mem_append_left _ (List.mem_append_left _ (List.mem_append_left _ (List.mem_append_left _ (List.mem_append_left _ (List.mem_append_left _ (List.mem_append_left _ (List.mem_append_left _ (List.mem_append_left _ (List.mem_append_left _ (List.mem_append_right _ h)))))))))))
theorem inlX11 : ∀ w ∈ wsX110, w ∈ wsL_law := fun _ h => List.mem_append_left _ (List.mem_append_left _ (List.mem_append_left _ (List.mem_append_left _ (List.mem_append_left _ (List.mem_append_left _ (List.mem_append_left _ (List.mem_append_left _ (List.mem_append_left _ (List.mem_append_left _ (List.mem_append_left _ (List.mem_append_left _ (List.mem_append_left _ (List.mem_append_right _ h)))))))))))))
theorem inlX12 : ∀ w ∈ wsX120, w ∈ wsL_law := fun _ h => List.mem_append_left _ (List.mem_append_left _ (List.mem_append_left _ (List.mem_append_left _ (List.mem_append_left _ (List.mem_append_left _ (List.mem_append_left _ (List.mem_append_left _ (List.mem_append_left _ (List.mem_append_left _ (List.mem_append_left _ (List.mem_append_left _ (List.mem_append_right _ h))))))))))))
abbrev vwCl : List vw_C := [(RX0, TX0, 8), (RX1, TX1, 1), (RX2, TX2, 1), (RX3, TX3, 3), (RX4, TX4, 6), (RX5, TX5, 7), (RX6, TX6, 1), (RX7, TX7, 1), (RX8, TX8, 1), (RX9, TX9, 1), (RX10, TX10, 9), (RX11, TX11, 18), (RX12, TX12, 28)]
end
section
/-! The judgement over which methods are walked: a fixed set of cells (a side: its shapes), a store of numbers. -/
abbrev St : Type := (Nat → Nat → Int32) × (Nat → Int64)
abbrev Sh : Type := List (Nat × Nat × List Nat)
/-- the row of cell c becomes g -/
def st_row (σ : St) (c : Nat) (g : Nat → Int32) : St := (fun c' => if c' = c then g else σ.1 c', σ.2)
/-- place i of cell c becomes x -/
def st_up (σ : St) (c i : Nat) (x : Int32) : St := st_row σ c (upd (σ.1 c) i x)
/-- the long of cell c becomes x -/
def st_lo (σ : St) (c : Nat) (x : Int64) : St := (σ.1, fun c' => if c' = c then x else σ.2 c')
/-- an abstract value at its addresses -/
def av (ad : Nat → Nat) : Value → Value
  | .ref c => .ref (ad c)
  | v => v
/-- a field's value, abstract: 0 a number, 1 a long, t + 2 the cell t -/
def fva (σ : St) (c k : Nat) : Nat → Value
  | 0 => .int (σ.1 c k)
  | 1 => .long (σ.2 c)
  | t + 2 => .ref t
def ce (ad : Nat → Nat) (cA : Nat → ClassId) (σ : St) (c : Nat) (q : Nat × Nat × List Nat) : va_E :=
  if q.1 < 20 then .inr (q.1, q.2.2.zipIdx.map (fun r => av ad (fva σ c r.2 r.1)))
  else match q.2.2 with
    | [] => .inl (cA (q.1 - 20), q.2.1, .inl (σ.1 c))
    | b :: _ => .inl (cA (q.1 - 20), q.2.1, .inr (.inr (.inr (.inr (fun j => some (ad (b + j)))))))
def wd (sh : Sh) (ad : Nat → Nat) (cA : Nat → ClassId) (σ : St) : va_W := (List.range sh.length).map (fun c => (ad c, ce ad cA σ c (sh.getD c (0, 0, []))))
def tyk (cA : Nat → ClassId) (ts : List FieldType) : List (ClassId × FieldType) := ts.zipIdx.map (fun q => (cA q.2, q.1))
theorem tyk_get {cA : Nat → ClassId} {ts : List FieldType} {t : Nat} {ty : FieldType} (h : ts[t]? = some ty) : (tyk cA ts)[t]? = some (cA t, ty) := by
  simp [tyk, List.getElem?_zipIdx, h]
theorem wd_get {sh : Sh} {ad : Nat → Nat} {cA : Nat → ClassId} {σ : St} {c : Nat} {q : Nat × Nat × List Nat} (h : sh[c]? = some q) : (wd sh ad cA σ)[c]? = some (ad c, ce ad cA σ c q) := by
  have hl : c < sh.length := (List.getElem?_eq_some_iff.mp h).1
  have hg : sh.getD c (0, 0, []) = q := by rw [List.getD_eq_getElem?_getD, h]; rfl
  unfold wd
  rw [List.getElem?_map, List.getElem?_range hl]
  simp only [Option.map_some, hg]
theorem ce_congr {ad : Nat → Nat} {cA : Nat → ClassId} {σ τ : St} {c : Nat} (h1 : τ.1 c = σ.1 c) (h2 : τ.2 c = σ.2 c) (q : Nat × Nat × List Nat) : ce ad cA τ c q = ce ad cA σ c q := by
  have hf : ∀ k d, fva τ c k d = fva σ c k d := fun k d => by
    match d with
    | 0 => simp [fva, h1]
    | 1 => simp [fva, h2]
    | t + 2 => rfl
  unfold ce
  simp only [h1, hf]
theorem wd_set {sh : Sh} {ad : Nat → Nat} {cA : Nat → ClassId} {σ τ : St} {c : Nat} {q : Nat × Nat × List Nat} {x : va_E} (h : sh[c]? = some q) (hx : x = ce ad cA τ c q) (hσ : ∀ c', c' ≠ c → τ.1 c' = σ.1 c' ∧ τ.2 c' = σ.2 c') : (wd sh ad cA σ).set c (ad c, x) = wd sh ad cA τ := by
  have hl : c < sh.length := (List.getElem?_eq_some_iff.mp h).1
  have hg : sh.getD c (0, 0, []) = q := by rw [List.getD_eq_getElem?_getD, h]; rfl
  apply List.ext_getElem?
  intro i
  by_cases hi : i = c
  · subst hi
    rw [List.getElem?_set_self (by simp [wd]; exact hl), wd_get h, hx]
  · rw [List.getElem?_set_ne (fun q => hi q.symm)]
    unfold wd
    rw [List.getElem?_map, List.getElem?_map]
    by_cases hi2 : i < sh.length
    · rw [List.getElem?_range hi2]
      simp only [Option.map_some, ce_congr (hσ i hi).1 (hσ i hi).2]
    · rw [List.getElem?_eq_none (by rw [List.length_range]; omega)]
      rfl
/-- what the locals hold, by their places; none: nothing is known -/
def lh (ad : Nat → Nat) (ls : Array Slot) (nL : Nat) (L : List (Option Value)) : Prop := ls.size = nL ∧ lv_wf ls ∧ ∀ (i : Nat) (v : Value), L[i]? = some (some v) → ls[i]? = some (.val (av ad v))


theorem av_int (ad : Nat → Nat) (x : Int32) : av ad (.int x) = .int x := rfl
theorem av_cat (ad : Nat → Nat) (v : Value) : (av ad v).category = v.category := by cases v <;> rfl
theorem av_cats (ad : Nat → Nat) (l : List Value) : ((l.map (av ad)).map fun v => v.category) = l.map fun v => v.category := by
  induction l with
  | nil => rfl
  | cons v t ih => simp only [List.map_cons, av_cat, ih]
/-- the pairs that the kit's rows speak of -/
def prs (ad : Nat → Nat) (L : List (Option Value)) : List (Nat × Value) := (L.zipIdx.filterMap (fun q => q.1.map (fun v => (q.2, av ad v))))
theorem prs_mem {ad : Nat → Nat} {L : List (Option Value)} {q : Nat × Value} : q ∈ prs ad L ↔ ∃ v, L[q.1]? = some (some v) ∧ q.2 = av ad v := by
  unfold prs
  rw [List.mem_filterMap]
  constructor
  · rintro ⟨⟨o, i⟩, h1, h2⟩
    rw [List.mem_zipIdx_iff_getElem?] at h1
    cases o with
    | none => simp at h2
    | some v =>
      simp only [Option.map_some, Option.some.injEq] at h2
      subst h2
      exact ⟨v, h1, rfl⟩
  · rintro ⟨v, h1, h2⟩
    refine ⟨(some v, q.1), ?_, ?_⟩
    · rw [List.mem_zipIdx_iff_getElem?]; exact h1
    · obtain ⟨a, b⟩ := q
      simp only at h2
      subst h2
      rfl
theorem lh_has {ad : Nat → Nat} {ls : Array Slot} {nL : Nat} {L : List (Option Value)} (h : lh ad ls nL L) : lv_has ls nL (prs ad L) := ⟨h.1, h.2.1, fun q hq => by
  obtain ⟨v, h1, h2⟩ := prs_mem.mp hq
  rw [h2]
  exact h.2.2 _ _ h1⟩
/-- no long lies just ahead of place i -/
def okst (L : List (Option Value)) : Nat → Bool
  | 0 => true
  | i + 1 => match L[i]? with
    | some (some (.long _)) => false
    | some (some (.double _)) => false
    | _ => true
theorem lh_store {ad : Nat → Nat} {ls : Array Slot} {nL : Nat} {L : List (Option Value)} {i : Nat} {v : Value} (hok : okst L i = true)
    (h : lv_has ls nL ((i, av ad v) :: (prs ad L).filter (fun q => !(q.1 == i) && !(q.1 + 1 == i && q.2.category == 2)))) : lh ad ls nL (L.set i (some v)) := by
  refine ⟨h.1, h.2.1, fun j w hj => ?_⟩
  by_cases e : j = i
  · subst e
    have hl : j < L.length := by
      have := (List.getElem?_eq_some_iff.mp hj).1
      rwa [List.length_set] at this
    rw [List.getElem?_set_self hl] at hj
    have := h.2.2 (j, av ad v) List.mem_cons_self
    cases hj
    exact this
  · rw [List.getElem?_set_ne (fun q => e q.symm)] at hj
    refine h.2.2 (j, av ad w) (List.mem_cons_of_mem _ (List.mem_filter.mpr ⟨prs_mem.mpr ⟨w, hj, rfl⟩, ?_⟩))
    simp only [av_cat, Bool.and_eq_true, Bool.not_eq_true', beq_eq_false_iff_ne, ne_eq, e, not_false_eq_true, true_and, Bool.and_eq_false_iff]
    by_cases e2 : j + 1 = i
    · subst e2
      right
      cases w <;> first | (intro q; cases q; done) | (simp [okst, hj] at hok; done)
    · left; exact e2
theorem lh_mask {ad : Nat → Nat} {ls : Array Slot} {nL : Nat} {L : List (Option Value)} (h : lh ad ls nL L) (mk : List Bool) : lh ad ls nL (List.zipWith (fun (b : Bool) v => if b then v else none) mk L) := by
  refine ⟨h.1, h.2.1, fun i v hi => h.2.2 i v ?_⟩
  rw [List.getElem?_zipWith] at hi
  cases hm : mk[i]? with
  | none => rw [hm] at hi; simp at hi
  | some b =>
    cases hL : L[i]? with
    | none => rw [hm, hL] at hi; simp at hi
    | some o =>
      rw [hm, hL] at hi
      cases b <;> simp_all
/-- a method's own facts, fixed while it is walked -/
def Cx (ts : List FieldType) (own : String) (cc : ByteArray) (nL : Nat) (ret : Option FieldType) (p : Program) (s : State) (m : MethodId) (args : Array Value) (meth : Method) (c : Code) (D : va_G) (cA : Nat → ClassId) (A : Nat → Prop) : Prop :=
  p.tables.exec = Jvm.exec ∧ c.code = cc ∧ meth.sig.returnType = ret ∧ c.maxLocals = nL ∧ s.vm.findClass own = some m.cls ∧ (∀ w ∈ wsL_law, w.before args s = true) ∧ meth.locks = false ∧ (∀ q : Nat, s.heap.size ≤ q → A q) ∧ va_K D vwCl (tyk cA ts) s
abbrev Sd : Type := Sh × List FieldType
abbrev End : Type := (Nat → Nat) → va_G → (Nat → ClassId) → (Nat → Prop) → Array Value → State → Outcome → State → Prop
abbrev rmd (d : Nat) : Room := { frames := d, cells := 0, slots := 0, locals := 40 * d }
/-- from this point of the method, with this store, the machine comes to the method's end as E says -/
def Ev (sd : Sd) (own : String) (cc : ByteArray) (nL : Nat) (ret : Option FieldType) (d : Nat) (E : End) (pc : Nat) (L : List (Option Value)) (stk : List Value) (σ : St) : Prop :=
  ∀ (p : Program) (l : Launch) (e : Env) (s : State) (m : MethodId) (args : Array Value) (below : List Frame) (meth : Method) (c : Code) (ad : Nat → Nat) (D : va_G) (cA : Nat → ClassId) (A : Nat → Prop) (H : Heap) (locs : List Loc) (ls : Array Slot),
    Cx sd.2 own cc nL ret p s m args meth c D cA A → va_P D vwCl (wd sd.1 ad cA σ) H → va_D A (wd sd.1 ad cA σ) → va_S A s.heap H locs → lh ad ls nL L →
    W p l e (rmd d) s m args below meth c H locs 0 0 (MQ below (E ad D cA A) args s 0 0 A) (F0 m pc ls (stk.map (av ad)))
abbrev Wor (sd : Sd) (ad : Nat → Nat) (D : va_G) (cA : Nat → ClassId) (A : Nat → Prop) (u : St) (t : State) : Prop := va_P D vwCl (wd sd.1 ad cA u) t.heap ∧ va_K D vwCl (tyk cA sd.2) t ∧ va_D A (wd sd.1 ad cA u)
def EQi (sd : Sd) (post : Int32 → St → Prop) : End := fun ad D cA A => va_Qi post (Wor sd ad D cA A) A
def EQl (sd : Sd) (post : Int64 → St → Prop) : End := fun ad D cA A => va_Ql post (Wor sd ad D cA A) A
def EQv (sd : Sd) (post : St → Prop) : End := fun ad D cA A => va_Qv post (Wor sd ad D cA A) A
/-- a method's contract -/
def Ct (sd : Sd) (y : MethodName) (cc : ByteArray) (nL : Nat) (ret : Option FieldType) (d : Nat) (E : End) (avs : List Value) (σ : St) : Prop :=
  ∀ (l : Launch) (ad : Nat → Nat) (D : va_G) (cA : Nat → ClassId) (sz : Nat),
    Met l y (.code y cc nL ret :: wsL_law) (rmd d) (va_Pc (avs.map (av ad)) (fun U => U.heap.size = sz ∧ va_P D vwCl (wd sd.1 ad cA σ) U.heap ∧ va_K D vwCl (tyk cA sd.2) U ∧ va_D (fun _ => True) (wd sd.1 ad cA σ)))
      (E ad D cA (va_A (wd sd.1 ad cA σ) sz)) 0 0 (va_A (wd sd.1 ad cA σ) sz)
def entL (avs : List Value) (nL : Nat) : List (Option Value) := avs.map some ++ List.replicate (nL - avs.length) none
theorem args_at {vs : List Value} (h : ∀ v ∈ vs, v.category = 1) : ∀ (k i : Nat) (v : Value), vs[i]? = some v → (k + i, v) ∈ lv_args k vs := by
  induction vs with
  | nil => intro k i v hv; simp at hv
  | cons w t ih =>
    intro k i v hv
    have hw : w.category = 1 := h w List.mem_cons_self
    have e : lv_args k (w :: t) = (k, w) :: lv_args (k + 1) t := by simp [lv_args, hw]
    rw [e]
    cases i with
    | zero => simp at hv; subst hv; exact List.mem_cons_self
    | succ i =>
      have := ih (fun v hv => h v (List.mem_cons_of_mem _ hv)) (k + 1) i v (by simpa using hv)
      rw [show k + (i + 1) = k + 1 + i by omega]
      exact List.mem_cons_of_mem _ this
theorem sl_len {vs : List Value} (h : ∀ v ∈ vs, v.category = 1) : (lg_sl vs).length = vs.length := by
  induction vs with
  | nil => rfl
  | cons w t ih =>
    have hw : w.category = 1 := h w List.mem_cons_self
    have := ih (fun v hv => h v (List.mem_cons_of_mem _ hv))
    simp only [lg_sl, List.flatMap_cons] at this ⊢
    rw [List.length_append, this]
    simp [hw]; omega
/-- a walk from the entry gives the contract -/
theorem ct_of {sd : Sd} {y : MethodName} {cc : ByteArray} {nL : Nat} {ret : Option FieldType} {d : Nat} {E : End} {avs : List Value} {σ : St} (hy : plainName y.cls = true) (hc : (avs.all fun v => v.category == 1) = true) (hn : avs.length ≤ nL)
    (h : Ev sd y.cls cc nL ret d E 0 (entL avs nL) [] σ) : Ct sd y cc nL ret d E avs σ := by
  intro l ad D cA sz
  refine Met.ofW (cc := cc) (maxL := nL) (ret := ret) hy rfl ?_
  intro p e s m args below meth c s₁ B hml hv
  obtain ⟨rfl, hsz, hP, hK, hD0⟩ := hv
  have hts := atoms_spec (ws := .code y cc nL ret :: wsL_law) B.pre
  have hown : s.vm.findClass y.cls = some m.cls := findClass_of_methodNamed B.named
  subst hsz
  have hcat : ∀ v ∈ avs.map (av ad), v.category = 1 := fun v hv => by
    obtain ⟨w, hw, rfl⟩ := List.mem_map.mp hv
    rw [av_cat]
    simpa using List.all_eq_true.mp hc w hw
  have hl := lv_entry (avs.map (av ad)) (n := nL) (by rw [sl_len hcat, List.length_map]; exact hn)
  rw [lg_entry_eq]
  refine h p l e s m _ below meth c ad D cA _ _ _ _ ⟨B.exec, B.bytes, B.returns, hml, hown, fun w hw => hts w (List.mem_cons_of_mem _ hw), B.notSynchronized, fun q h => Or.inr h, hK⟩ hP (hD0.self (sz := s.heap.size)) va_S.rf ?_
  refine ⟨hl.1, hl.2.1, fun i v hi => ?_⟩
  have hi2 : (avs.map (av ad))[i]? = some (av ad v) := by
    unfold entL at hi
    by_cases h1 : i < avs.length
    · rw [List.getElem?_append_left (by simpa using h1), List.getElem?_map] at hi
      rw [List.getElem?_map]
      cases hq : avs[i]? with
      | none => rw [hq] at hi; simp at hi
      | some w => rw [hq] at hi; simp at hi; subst hi; rfl
    · rw [List.getElem?_append_right (by simpa using h1)] at hi
      rw [List.getElem?_replicate] at hi
      split at hi <;> simp at hi
  have := hl.2.2 (i, av ad v) (by have := args_at hcat 0 i _ hi2; simpa using this)
  exact this

section EV
variable {sd : Sd} {own : String} {cc : ByteArray} {nL : Nat} {ret : Option FieldType} {d : Nat} {E : End} {pc : Nat} {L : List (Option Value)} {stk : List Value} {σ : St}
theorem ev_iconst {n : Int} {v : Int32} (hdg : decode cc pc = .ok (.iconst n, 1)) (hv : Int32.ofInt n = v) (k : Ev sd own cc nL ret d E (pc + 1) L (.int v :: stk) σ) : Ev sd own cc nL ret d E pc L (stk) σ := by
  intro p l e s m args below meth c ad D cA A H locs ls C hP hD hS hl
  exact lv_iconst C.1 C.2.1 hdg hv (k p l e s m args below meth c ad D cA A H locs ls C hP hD hS hl)
theorem ev_bipush {n : Int} {v : Int32} (hdg : decode cc pc = .ok (.bipush n, 2)) (hv : (Int8.ofInt n).toInt32 = v) (k : Ev sd own cc nL ret d E (pc + 2) L (.int v :: stk) σ) : Ev sd own cc nL ret d E pc L (stk) σ := by
  intro p l e s m args below meth c ad D cA A H locs ls C hP hD hS hl
  exact lv_bipush C.1 C.2.1 hdg hv (k p l e s m args below meth c ad D cA A H locs ls C hP hD hS hl)
theorem ev_sipush {n : Int} {v : Int32} (hdg : decode cc pc = .ok (.sipush n, 3)) (hv : (Int16.ofInt n).toInt32 = v) (k : Ev sd own cc nL ret d E (pc + 3) L (.int v :: stk) σ) : Ev sd own cc nL ret d E pc L (stk) σ := by
  intro p l e s m args below meth c ad D cA A H locs ls C hP hD hS hl
  exact lv_sipush C.1 C.2.1 hdg hv (k p l e s m args below meth c ad D cA A H locs ls C hP hD hS hl)
theorem ev_lconst {n : Fin 2} {v : Int64} (hdg : decode cc pc = .ok (.lconst n, 1)) (hv : Int64.ofNat (n : Nat) = v) (k : Ev sd own cc nL ret d E (pc + 1) L (.long v :: stk) σ) : Ev sd own cc nL ret d E pc L (stk) σ := by
  intro p l e s m args below meth c ad D cA A H locs ls C hP hD hS hl
  exact lv_lconst C.1 C.2.1 hdg hv (k p l e s m args below meth c ad D cA A H locs ls C hP hD hS hl)
theorem ev_ldc {index : Nat} {v : Int32} (hw : Cond.constant own index v ∈ wsL_law) (hdg : decode cc pc = .ok (.ldc index, 2)) (k : Ev sd own cc nL ret d E (pc + 2) L (.int v :: stk) σ) : Ev sd own cc nL ret d E pc L (stk) σ := by
  intro p l e s m args below meth c ad D cA A H locs ls C hP hD hS hl
  exact lv_ldc C.1 C.2.1 C.2.2.2.2.1 (C.2.2.2.2.2.1 _ hw) hdg (k p l e s m args below meth c ad D cA A H locs ls C hP hD hS hl)
theorem ev_ldcw {index : Nat} {v : Int32} (hw : Cond.constant own index v ∈ wsL_law) (hdg : decode cc pc = .ok (.ldc_w index, 3)) (k : Ev sd own cc nL ret d E (pc + 3) L (.int v :: stk) σ) : Ev sd own cc nL ret d E pc L (stk) σ := by
  intro p l e s m args below meth c ad D cA A H locs ls C hP hD hS hl
  exact lv_ldcw C.1 C.2.1 C.2.2.2.2.1 (C.2.2.2.2.2.1 _ hw) hdg (k p l e s m args below meth c ad D cA A H locs ls C hP hD hS hl)
theorem ev_ldc2 {index : Nat} {v : Int64} (hw : Cond.constantLong own index v ∈ wsL_law) (hdg : decode cc pc = .ok (.ldc2_w index, 3)) (k : Ev sd own cc nL ret d E (pc + 3) L (.long v :: stk) σ) : Ev sd own cc nL ret d E pc L (stk) σ := by
  intro p l e s m args below meth c ad D cA A H locs ls C hP hD hS hl
  exact lv_ldc2 C.1 C.2.1 C.2.2.2.2.1 (C.2.2.2.2.2.1 _ hw) hdg (k p l e s m args below meth c ad D cA A H locs ls C hP hD hS hl)
theorem ev_iload_n {n : Fin 4} {i : Nat} {x : Int32} (hdg : decode cc pc = .ok (.iload_n n, 1)) (hn : (n : Nat) = i) (hi : L[i]? = some (some (.int x))) (k : Ev sd own cc nL ret d E (pc + 1) L (.int x :: stk) σ) : Ev sd own cc nL ret d E pc L (stk) σ := by
  intro p l e s m args below meth c ad D cA A H locs ls C hP hD hS hl
  exact lv_iload_n C.1 C.2.1 hdg hn (hl.2.2 i _ hi) (k p l e s m args below meth c ad D cA A H locs ls C hP hD hS hl)
theorem ev_iload {i : Nat} {x : Int32} (hdg : decode cc pc = .ok (.iload i, 2)) (hi : L[i]? = some (some (.int x))) (k : Ev sd own cc nL ret d E (pc + 2) L (.int x :: stk) σ) : Ev sd own cc nL ret d E pc L (stk) σ := by
  intro p l e s m args below meth c ad D cA A H locs ls C hP hD hS hl
  exact lv_iload C.1 C.2.1 hdg (hl.2.2 i _ hi) (k p l e s m args below meth c ad D cA A H locs ls C hP hD hS hl)
theorem ev_lload_n {n : Fin 4} {i : Nat} {x : Int64} (hdg : decode cc pc = .ok (.lload_n n, 1)) (hn : (n : Nat) = i) (hi : L[i]? = some (some (.long x))) (k : Ev sd own cc nL ret d E (pc + 1) L (.long x :: stk) σ) : Ev sd own cc nL ret d E pc L (stk) σ := by
  intro p l e s m args below meth c ad D cA A H locs ls C hP hD hS hl
  exact lv_lload_n C.1 C.2.1 hdg hn (hl.2.2 i _ hi) (k p l e s m args below meth c ad D cA A H locs ls C hP hD hS hl)
theorem ev_lload {i : Nat} {x : Int64} (hdg : decode cc pc = .ok (.lload i, 2)) (hi : L[i]? = some (some (.long x))) (k : Ev sd own cc nL ret d E (pc + 2) L (.long x :: stk) σ) : Ev sd own cc nL ret d E pc L (stk) σ := by
  intro p l e s m args below meth c ad D cA A H locs ls C hP hD hS hl
  exact lv_lload C.1 C.2.1 hdg (hl.2.2 i _ hi) (k p l e s m args below meth c ad D cA A H locs ls C hP hD hS hl)
theorem ev_aload_n {n : Fin 4} {i : Nat} {x : Nat} (hdg : decode cc pc = .ok (.aload_n n, 1)) (hn : (n : Nat) = i) (hi : L[i]? = some (some (.ref x))) (k : Ev sd own cc nL ret d E (pc + 1) L (.ref x :: stk) σ) : Ev sd own cc nL ret d E pc L (stk) σ := by
  intro p l e s m args below meth c ad D cA A H locs ls C hP hD hS hl
  exact lv_aload_n C.1 C.2.1 hdg hn (hl.2.2 i _ hi) (k p l e s m args below meth c ad D cA A H locs ls C hP hD hS hl)
theorem ev_aload {i : Nat} {x : Nat} (hdg : decode cc pc = .ok (.aload i, 2)) (hi : L[i]? = some (some (.ref x))) (k : Ev sd own cc nL ret d E (pc + 2) L (.ref x :: stk) σ) : Ev sd own cc nL ret d E pc L (stk) σ := by
  intro p l e s m args below meth c ad D cA A H locs ls C hP hD hS hl
  exact lv_aload C.1 C.2.1 hdg (hl.2.2 i _ hi) (k p l e s m args below meth c ad D cA A H locs ls C hP hD hS hl)
theorem ev_istore_n {n : Fin 4} {i : Nat} {x : Int32} {L' : List (Option Value)} (hdg : decode cc pc = .ok (.istore_n n, 1)) (hn : (n : Nat) = i) (hi : i < nL) (hok : okst L i = true) (hL : L.set i (some (.int x)) = L') (k : Ev sd own cc nL ret d E (pc + 1) L' (stk) σ) : Ev sd own cc nL ret d E pc L (.int x :: stk) σ := by
  intro p l e s m args below meth c ad D cA A H locs ls C hP hD hS hl
  subst hL
  exact lv_istore_n C.1 C.2.1 hdg hn (lh_has hl) hi rfl (fun ls' hl' => k p l e s m args below meth c ad D cA A H locs ls' C hP hD hS (lh_store (v := .int x) hok hl'))
theorem ev_istore {i : Nat} {x : Int32} {L' : List (Option Value)} (hdg : decode cc pc = .ok (.istore i, 2)) (hi : i < nL) (hok : okst L i = true) (hL : L.set i (some (.int x)) = L') (k : Ev sd own cc nL ret d E (pc + 2) L' (stk) σ) : Ev sd own cc nL ret d E pc L (.int x :: stk) σ := by
  intro p l e s m args below meth c ad D cA A H locs ls C hP hD hS hl
  subst hL
  exact lv_istore C.1 C.2.1 hdg (lh_has hl) hi rfl (fun ls' hl' => k p l e s m args below meth c ad D cA A H locs ls' C hP hD hS (lh_store (v := .int x) hok hl'))
theorem ev_astore_n {n : Fin 4} {i : Nat} {x : Nat} {L' : List (Option Value)} (hdg : decode cc pc = .ok (.astore_n n, 1)) (hn : (n : Nat) = i) (hi : i < nL) (hok : okst L i = true) (hL : L.set i (some (.ref x)) = L') (k : Ev sd own cc nL ret d E (pc + 1) L' (stk) σ) : Ev sd own cc nL ret d E pc L (.ref x :: stk) σ := by
  intro p l e s m args below meth c ad D cA A H locs ls C hP hD hS hl
  subst hL
  exact lv_astore_n C.1 C.2.1 hdg hn (lh_has hl) hi rfl (fun ls' hl' => k p l e s m args below meth c ad D cA A H locs ls' C hP hD hS (lh_store (v := .ref x) hok hl'))
theorem ev_astore {i : Nat} {x : Nat} {L' : List (Option Value)} (hdg : decode cc pc = .ok (.astore i, 2)) (hi : i < nL) (hok : okst L i = true) (hL : L.set i (some (.ref x)) = L') (k : Ev sd own cc nL ret d E (pc + 2) L' (stk) σ) : Ev sd own cc nL ret d E pc L (.ref x :: stk) σ := by
  intro p l e s m args below meth c ad D cA A H locs ls C hP hD hS hl
  subst hL
  exact lv_astore C.1 C.2.1 hdg (lh_has hl) hi rfl (fun ls' hl' => k p l e s m args below meth c ad D cA A H locs ls' C hP hD hS (lh_store (v := .ref x) hok hl'))
theorem lh_store2 {ad : Nat → Nat} {ls : Array Slot} {nL : Nat} {L : List (Option Value)} {i : Nat} {x : Int64} (hok : okst L i = true)
    (h : lv_has ls nL ((i, Value.long x) :: (prs ad L).filter (fun q => !(q.1 == i) && (!(q.1 == i + 1) && !(q.1 + 1 == i && q.2.category == 2))))) : lh ad ls nL ((L.set i (some (.long x))).set (i + 1) none) := by
  refine ⟨h.1, h.2.1, fun j w hj => ?_⟩
  by_cases e1 : j = i + 1
  · subst e1
    by_cases hl : i + 1 < (L.set i (some (Value.long x))).length
    · rw [List.getElem?_set_self hl] at hj; cases hj
    · rw [List.getElem?_eq_none (by rw [List.length_set]; omega)] at hj; cases hj
  rw [List.getElem?_set_ne (fun q => e1 q.symm)] at hj
  by_cases e : j = i
  · subst e
    have hl : j < L.length := by
      have := (List.getElem?_eq_some_iff.mp hj).1
      rwa [List.length_set] at this
    rw [List.getElem?_set_self hl] at hj
    have := h.2.2 (j, Value.long x) List.mem_cons_self
    cases hj
    exact this
  · rw [List.getElem?_set_ne (fun q => e q.symm)] at hj
    refine h.2.2 (j, av ad w) (List.mem_cons_of_mem _ (List.mem_filter.mpr ⟨prs_mem.mpr ⟨w, hj, rfl⟩, ?_⟩))
    simp only [av_cat, Bool.and_eq_true, Bool.not_eq_true', beq_eq_false_iff_ne, ne_eq, e, e1, not_false_eq_true, true_and, Bool.and_eq_false_iff]
    by_cases e2 : j + 1 = i
    · subst e2
      right
      cases w <;> first | (intro q; cases q; done) | (simp [okst, hj] at hok; done)
    · left; exact e2
theorem ev_lstore_n {n : Fin 4} {i : Nat} {x : Int64} {L' : List (Option Value)} (hdg : decode cc pc = .ok (.lstore_n n, 1)) (hn : (n : Nat) = i) (hi : i + 1 < nL) (hok : okst L i = true) (hL : (L.set i (some (.long x))).set (i + 1) none = L') (k : Ev sd own cc nL ret d E (pc + 1) L' (stk) σ) : Ev sd own cc nL ret d E pc L (.long x :: stk) σ := by
  intro p l e s m args below meth c ad D cA A H locs ls C hP hD hS hl
  subst hL
  exact lv_lstore_n C.1 C.2.1 hdg hn (lh_has hl) hi rfl (fun ls' hl' => k p l e s m args below meth c ad D cA A H locs ls' C hP hD hS (lh_store2 hok hl'))
theorem ev_iinc {i : Nat} {n : Int} {x v : Int32} {L' : List (Option Value)} (hdg : decode cc pc = .ok (.iinc i n, 3)) (hx : L[i]? = some (some (.int x))) (hv : x + Int32.ofInt n = v) (hi : i < nL) (hok : okst L i = true) (hL : L.set i (some (.int v)) = L') (k : Ev sd own cc nL ret d E (pc + 3) L' (stk) σ) : Ev sd own cc nL ret d E pc L (stk) σ := by
  intro p l e s m args below meth c ad D cA A H locs ls C hP hD hS hl
  subst hL
  obtain ⟨kq, hkq⟩ := List.getElem?_of_mem (a := (i, av ad (.int x))) (l := prs ad L) (prs_mem.mpr ⟨.int x, hx, rfl⟩)
  exact lv_iinc (v := v) C.1 C.2.1 hdg (lh_has hl) hkq hv hi rfl (fun ls' hl' => k p l e s m args below meth c ad D cA A H locs ls' C hP hD hS (lh_store (v := .int v) hok hl'))
theorem ev_iadd {x y : Int32} (hdg : decode cc pc = .ok (.iadd, 1)) (k : Ev sd own cc nL ret d E (pc + 1) L (.int (x + y) :: stk) σ) : Ev sd own cc nL ret d E pc L (.int y :: .int x :: stk) σ := by
  intro p l e s m args below meth c ad D cA A H locs ls C hP hD hS hl
  exact lv_iadd C.1 C.2.1 hdg (k p l e s m args below meth c ad D cA A H locs ls C hP hD hS hl)
theorem ev_isub {x y : Int32} (hdg : decode cc pc = .ok (.isub, 1)) (k : Ev sd own cc nL ret d E (pc + 1) L (.int (x - y) :: stk) σ) : Ev sd own cc nL ret d E pc L (.int y :: .int x :: stk) σ := by
  intro p l e s m args below meth c ad D cA A H locs ls C hP hD hS hl
  exact lv_isub C.1 C.2.1 hdg (k p l e s m args below meth c ad D cA A H locs ls C hP hD hS hl)
theorem ev_imul {x y : Int32} (hdg : decode cc pc = .ok (.imul, 1)) (k : Ev sd own cc nL ret d E (pc + 1) L (.int (x * y) :: stk) σ) : Ev sd own cc nL ret d E pc L (.int y :: .int x :: stk) σ := by
  intro p l e s m args below meth c ad D cA A H locs ls C hP hD hS hl
  exact lv_imul C.1 C.2.1 hdg (k p l e s m args below meth c ad D cA A H locs ls C hP hD hS hl)
theorem ev_iand {x y : Int32} (hdg : decode cc pc = .ok (.iand, 1)) (k : Ev sd own cc nL ret d E (pc + 1) L (.int (x &&& y) :: stk) σ) : Ev sd own cc nL ret d E pc L (.int y :: .int x :: stk) σ := by
  intro p l e s m args below meth c ad D cA A H locs ls C hP hD hS hl
  exact lv_iand C.1 C.2.1 hdg (k p l e s m args below meth c ad D cA A H locs ls C hP hD hS hl)
theorem ev_ior {x y : Int32} (hdg : decode cc pc = .ok (.ior, 1)) (k : Ev sd own cc nL ret d E (pc + 1) L (.int (x ||| y) :: stk) σ) : Ev sd own cc nL ret d E pc L (.int y :: .int x :: stk) σ := by
  intro p l e s m args below meth c ad D cA A H locs ls C hP hD hS hl
  exact lv_ior C.1 C.2.1 hdg (k p l e s m args below meth c ad D cA A H locs ls C hP hD hS hl)
theorem ev_ishl {x y : Int32} (hdg : decode cc pc = .ok (.ishl, 1)) (k : Ev sd own cc nL ret d E (pc + 1) L (.int (x <<< (y &&& 31)) :: stk) σ) : Ev sd own cc nL ret d E pc L (.int y :: .int x :: stk) σ := by
  intro p l e s m args below meth c ad D cA A H locs ls C hP hD hS hl
  exact lv_ishl C.1 C.2.1 hdg (k p l e s m args below meth c ad D cA A H locs ls C hP hD hS hl)
theorem ev_ishr {x y : Int32} (hdg : decode cc pc = .ok (.ishr, 1)) (k : Ev sd own cc nL ret d E (pc + 1) L (.int (x >>> (y &&& 31)) :: stk) σ) : Ev sd own cc nL ret d E pc L (.int y :: .int x :: stk) σ := by
  intro p l e s m args below meth c ad D cA A H locs ls C hP hD hS hl
  exact lv_ishr C.1 C.2.1 hdg (k p l e s m args below meth c ad D cA A H locs ls C hP hD hS hl)
theorem ev_idiv {x y : Int32} (hdg : decode cc pc = .ok (.idiv, 1)) (hne : ¬ y = 0) (k : Ev sd own cc nL ret d E (pc + 1) L (.int (x / y) :: stk) σ) : Ev sd own cc nL ret d E pc L (.int y :: .int x :: stk) σ := by
  intro p l e s m args below meth c ad D cA A H locs ls C hP hD hS hl
  exact lv_idiv C.1 C.2.1 hdg hne (k p l e s m args below meth c ad D cA A H locs ls C hP hD hS hl)
theorem ev_irem {x y : Int32} (hdg : decode cc pc = .ok (.irem, 1)) (hne : ¬ y = 0) (k : Ev sd own cc nL ret d E (pc + 1) L (.int (x - x / y * y) :: stk) σ) : Ev sd own cc nL ret d E pc L (.int y :: .int x :: stk) σ := by
  intro p l e s m args below meth c ad D cA A H locs ls C hP hD hS hl
  exact lv_irem C.1 C.2.1 hdg hne (k p l e s m args below meth c ad D cA A H locs ls C hP hD hS hl)
theorem ev_iushr {x y : Int32} (hdg : decode cc pc = .ok (.iushr, 1)) (k : Ev sd own cc nL ret d E (pc + 1) L (.int (x.toUInt32 >>> (y.toUInt32 &&& Int32.toUInt32 31)).toInt32 :: stk) σ) : Ev sd own cc nL ret d E pc L (.int y :: .int x :: stk) σ := by
  intro p l e s m args below meth c ad D cA A H locs ls C hP hD hS hl
  exact lv_iushr C.1 C.2.1 hdg rfl (k p l e s m args below meth c ad D cA A H locs ls C hP hD hS hl)
theorem ev_ineg {x : Int32} (hdg : decode cc pc = .ok (.ineg, 1)) (k : Ev sd own cc nL ret d E (pc + 1) L (.int (-x) :: stk) σ) : Ev sd own cc nL ret d E pc L (.int x :: stk) σ := by
  intro p l e s m args below meth c ad D cA A H locs ls C hP hD hS hl
  exact lv_ineg C.1 C.2.1 hdg (k p l e s m args below meth c ad D cA A H locs ls C hP hD hS hl)
theorem ev_i2b {x : Int32} (hdg : decode cc pc = .ok (.i2b, 1)) (k : Ev sd own cc nL ret d E (pc + 1) L (.int x.toInt8.toInt32 :: stk) σ) : Ev sd own cc nL ret d E pc L (.int x :: stk) σ := by
  intro p l e s m args below meth c ad D cA A H locs ls C hP hD hS hl
  exact lv_i2b C.1 C.2.1 hdg rfl (k p l e s m args below meth c ad D cA A H locs ls C hP hD hS hl)
theorem ev_ladd {x y : Int64} (hdg : decode cc pc = .ok (.ladd, 1)) (k : Ev sd own cc nL ret d E (pc + 1) L (.long (x + y) :: stk) σ) : Ev sd own cc nL ret d E pc L (.long y :: .long x :: stk) σ := by
  intro p l e s m args below meth c ad D cA A H locs ls C hP hD hS hl
  exact lv_ladd C.1 C.2.1 hdg (k p l e s m args below meth c ad D cA A H locs ls C hP hD hS hl)
theorem ev_dup {v : Value} (hdg : decode cc pc = .ok (.dup, 1)) (hv : v.category = 1) (k : Ev sd own cc nL ret d E (pc + 1) L (v :: v :: stk) σ) : Ev sd own cc nL ret d E pc L (v :: stk) σ := by
  intro p l e s m args below meth c ad D cA A H locs ls C hP hD hS hl
  exact lv_dup C.1 C.2.1 hdg ((av_cat ad v).trans hv) (k p l e s m args below meth c ad D cA A H locs ls C hP hD hS hl)
theorem ev_pop {v : Value} (hdg : decode cc pc = .ok (.pop, 1)) (hv : v.category = 1) (k : Ev sd own cc nL ret d E (pc + 1) L (stk) σ) : Ev sd own cc nL ret d E pc L (v :: stk) σ := by
  intro p l e s m args below meth c ad D cA A H locs ls C hP hD hS hl
  exact lv_pop C.1 C.2.1 hdg ((av_cat ad v).trans hv) (k p l e s m args below meth c ad D cA A H locs ls C hP hD hS hl)
theorem ev_dup2 {v w : Value} (hdg : decode cc pc = .ok (.dup2, 1)) (hv : v.category = 1) (hw : w.category = 1) (k : Ev sd own cc nL ret d E (pc + 1) L (v :: w :: v :: w :: stk) σ) : Ev sd own cc nL ret d E pc L (v :: w :: stk) σ := by
  intro p l e s m args below meth c ad D cA A H locs ls C hP hD hS hl
  exact lv_dup2_11 C.1 C.2.1 hdg ((av_cat ad v).trans hv) ((av_cat ad w).trans hw) (k p l e s m args below meth c ad D cA A H locs ls C hP hD hS hl)
theorem ev_if_eq {x : Int32} {off : Int} {tgt : Nat} (hdg : decode cc pc = .ok (.ifCond .eq off, 3)) (ht : (pc : Int) + off = (tgt : Int)) (kt : x = 0 → Ev sd own cc nL ret d E tgt L (stk) σ) (kf : ¬ x = 0 → Ev sd own cc nL ret d E (pc + 3) L (stk) σ) : Ev sd own cc nL ret d E pc L (.int x :: stk) σ := by
  intro p l e s m args below meth c ad D cA A H locs ls C hP hD hS hl
  exact lv_if_eq C.1 C.2.1 hdg ht (fun q => kt q p l e s m args below meth c ad D cA A H locs ls C hP hD hS hl) (fun q => kf q p l e s m args below meth c ad D cA A H locs ls C hP hD hS hl)
theorem ev_if_ne {x : Int32} {off : Int} {tgt : Nat} (hdg : decode cc pc = .ok (.ifCond .ne off, 3)) (ht : (pc : Int) + off = (tgt : Int)) (kt : ¬ x = 0 → Ev sd own cc nL ret d E tgt L (stk) σ) (kf : x = 0 → Ev sd own cc nL ret d E (pc + 3) L (stk) σ) : Ev sd own cc nL ret d E pc L (.int x :: stk) σ := by
  intro p l e s m args below meth c ad D cA A H locs ls C hP hD hS hl
  exact lv_if_ne C.1 C.2.1 hdg ht (fun q => kt q p l e s m args below meth c ad D cA A H locs ls C hP hD hS hl) (fun q => kf q p l e s m args below meth c ad D cA A H locs ls C hP hD hS hl)
theorem ev_if_lt {x : Int32} {off : Int} {tgt : Nat} (hdg : decode cc pc = .ok (.ifCond .lt off, 3)) (ht : (pc : Int) + off = (tgt : Int)) (kt : x < 0 → Ev sd own cc nL ret d E tgt L (stk) σ) (kf : ¬ x < 0 → Ev sd own cc nL ret d E (pc + 3) L (stk) σ) : Ev sd own cc nL ret d E pc L (.int x :: stk) σ := by
  intro p l e s m args below meth c ad D cA A H locs ls C hP hD hS hl
  exact lv_if_lt C.1 C.2.1 hdg ht (fun q => kt q p l e s m args below meth c ad D cA A H locs ls C hP hD hS hl) (fun q => kf q p l e s m args below meth c ad D cA A H locs ls C hP hD hS hl)
theorem ev_if_ge {x : Int32} {off : Int} {tgt : Nat} (hdg : decode cc pc = .ok (.ifCond .ge off, 3)) (ht : (pc : Int) + off = (tgt : Int)) (kt : 0 ≤ x → Ev sd own cc nL ret d E tgt L (stk) σ) (kf : ¬ 0 ≤ x → Ev sd own cc nL ret d E (pc + 3) L (stk) σ) : Ev sd own cc nL ret d E pc L (.int x :: stk) σ := by
  intro p l e s m args below meth c ad D cA A H locs ls C hP hD hS hl
  exact lv_if_ge C.1 C.2.1 hdg ht (fun q => kt q p l e s m args below meth c ad D cA A H locs ls C hP hD hS hl) (fun q => kf q p l e s m args below meth c ad D cA A H locs ls C hP hD hS hl)
theorem ev_if_gt {x : Int32} {off : Int} {tgt : Nat} (hdg : decode cc pc = .ok (.ifCond .gt off, 3)) (ht : (pc : Int) + off = (tgt : Int)) (kt : 0 < x → Ev sd own cc nL ret d E tgt L (stk) σ) (kf : ¬ 0 < x → Ev sd own cc nL ret d E (pc + 3) L (stk) σ) : Ev sd own cc nL ret d E pc L (.int x :: stk) σ := by
  intro p l e s m args below meth c ad D cA A H locs ls C hP hD hS hl
  exact lv_if_gt C.1 C.2.1 hdg ht (fun q => kt q p l e s m args below meth c ad D cA A H locs ls C hP hD hS hl) (fun q => kf q p l e s m args below meth c ad D cA A H locs ls C hP hD hS hl)
theorem ev_if_le {x : Int32} {off : Int} {tgt : Nat} (hdg : decode cc pc = .ok (.ifCond .le off, 3)) (ht : (pc : Int) + off = (tgt : Int)) (kt : x ≤ 0 → Ev sd own cc nL ret d E tgt L (stk) σ) (kf : ¬ x ≤ 0 → Ev sd own cc nL ret d E (pc + 3) L (stk) σ) : Ev sd own cc nL ret d E pc L (.int x :: stk) σ := by
  intro p l e s m args below meth c ad D cA A H locs ls C hP hD hS hl
  exact lv_if_le C.1 C.2.1 hdg ht (fun q => kt q p l e s m args below meth c ad D cA A H locs ls C hP hD hS hl) (fun q => kf q p l e s m args below meth c ad D cA A H locs ls C hP hD hS hl)
theorem ev_icmp_eq {x y : Int32} {off : Int} {tgt : Nat} (hdg : decode cc pc = .ok (.if_icmp .eq off, 3)) (ht : (pc : Int) + off = (tgt : Int)) (kt : x = y → Ev sd own cc nL ret d E tgt L (stk) σ) (kf : ¬ x = y → Ev sd own cc nL ret d E (pc + 3) L (stk) σ) : Ev sd own cc nL ret d E pc L (.int y :: .int x :: stk) σ := by
  intro p l e s m args below meth c ad D cA A H locs ls C hP hD hS hl
  exact lv_icmp_eq C.1 C.2.1 hdg ht (fun q => kt q p l e s m args below meth c ad D cA A H locs ls C hP hD hS hl) (fun q => kf q p l e s m args below meth c ad D cA A H locs ls C hP hD hS hl)
theorem ev_icmp_ne {x y : Int32} {off : Int} {tgt : Nat} (hdg : decode cc pc = .ok (.if_icmp .ne off, 3)) (ht : (pc : Int) + off = (tgt : Int)) (kt : ¬ x = y → Ev sd own cc nL ret d E tgt L (stk) σ) (kf : x = y → Ev sd own cc nL ret d E (pc + 3) L (stk) σ) : Ev sd own cc nL ret d E pc L (.int y :: .int x :: stk) σ := by
  intro p l e s m args below meth c ad D cA A H locs ls C hP hD hS hl
  exact lv_icmp_ne C.1 C.2.1 hdg ht (fun q => kt q p l e s m args below meth c ad D cA A H locs ls C hP hD hS hl) (fun q => kf q p l e s m args below meth c ad D cA A H locs ls C hP hD hS hl)
theorem ev_icmp_lt {x y : Int32} {off : Int} {tgt : Nat} (hdg : decode cc pc = .ok (.if_icmp .lt off, 3)) (ht : (pc : Int) + off = (tgt : Int)) (kt : x < y → Ev sd own cc nL ret d E tgt L (stk) σ) (kf : ¬ x < y → Ev sd own cc nL ret d E (pc + 3) L (stk) σ) : Ev sd own cc nL ret d E pc L (.int y :: .int x :: stk) σ := by
  intro p l e s m args below meth c ad D cA A H locs ls C hP hD hS hl
  exact lv_icmp_lt C.1 C.2.1 hdg ht (fun q => kt q p l e s m args below meth c ad D cA A H locs ls C hP hD hS hl) (fun q => kf q p l e s m args below meth c ad D cA A H locs ls C hP hD hS hl)
theorem ev_icmp_ge {x y : Int32} {off : Int} {tgt : Nat} (hdg : decode cc pc = .ok (.if_icmp .ge off, 3)) (ht : (pc : Int) + off = (tgt : Int)) (kt : y ≤ x → Ev sd own cc nL ret d E tgt L (stk) σ) (kf : ¬ y ≤ x → Ev sd own cc nL ret d E (pc + 3) L (stk) σ) : Ev sd own cc nL ret d E pc L (.int y :: .int x :: stk) σ := by
  intro p l e s m args below meth c ad D cA A H locs ls C hP hD hS hl
  exact lv_icmp_ge C.1 C.2.1 hdg ht (fun q => kt q p l e s m args below meth c ad D cA A H locs ls C hP hD hS hl) (fun q => kf q p l e s m args below meth c ad D cA A H locs ls C hP hD hS hl)
theorem ev_icmp_gt {x y : Int32} {off : Int} {tgt : Nat} (hdg : decode cc pc = .ok (.if_icmp .gt off, 3)) (ht : (pc : Int) + off = (tgt : Int)) (kt : y < x → Ev sd own cc nL ret d E tgt L (stk) σ) (kf : ¬ y < x → Ev sd own cc nL ret d E (pc + 3) L (stk) σ) : Ev sd own cc nL ret d E pc L (.int y :: .int x :: stk) σ := by
  intro p l e s m args below meth c ad D cA A H locs ls C hP hD hS hl
  exact lv_icmp_gt C.1 C.2.1 hdg ht (fun q => kt q p l e s m args below meth c ad D cA A H locs ls C hP hD hS hl) (fun q => kf q p l e s m args below meth c ad D cA A H locs ls C hP hD hS hl)
theorem ev_icmp_le {x y : Int32} {off : Int} {tgt : Nat} (hdg : decode cc pc = .ok (.if_icmp .le off, 3)) (ht : (pc : Int) + off = (tgt : Int)) (kt : x ≤ y → Ev sd own cc nL ret d E tgt L (stk) σ) (kf : ¬ x ≤ y → Ev sd own cc nL ret d E (pc + 3) L (stk) σ) : Ev sd own cc nL ret d E pc L (.int y :: .int x :: stk) σ := by
  intro p l e s m args below meth c ad D cA A H locs ls C hP hD hS hl
  exact lv_icmp_le C.1 C.2.1 hdg ht (fun q => kt q p l e s m args below meth c ad D cA A H locs ls C hP hD hS hl) (fun q => kf q p l e s m args below meth c ad D cA A H locs ls C hP hD hS hl)
theorem ev_goto {off : Int} {tgt : Nat} (hdg : decode cc pc = .ok (.goto off, 3)) (ht : (pc : Int) + off = (tgt : Int)) (k : Ev sd own cc nL ret d E tgt L (stk) σ) : Ev sd own cc nL ret d E pc L (stk) σ := by
  intro p l e s m args below meth c ad D cA A H locs ls C hP hD hS hl
  exact lv_goto C.1 C.2.1 hdg ht (k p l e s m args below meth c ad D cA A H locs ls C hP hD hS hl)
theorem ev_mask (mk : List Bool) {L' : List (Option Value)} (hL : List.zipWith (fun (b : Bool) v => if b then v else none) mk L = L') (k : Ev sd own cc nL ret d E pc L' (stk) σ) : Ev sd own cc nL ret d E pc L (stk) σ := by
  intro p l e s m args below meth c ad D cA A H locs ls C hP hD hS hl
  subst hL
  exact k p l e s m args below meth c ad D cA A H locs ls C hP hD hS (lh_mask hl mk)
theorem ev_tabIn {dflt lo hi : Int} {offs : Array Int} {len : Nat} {x : Int32} {off : Int} {tgt : Nat} (hdg : decode cc pc = .ok (.tableswitch dflt lo hi offs, len)) (h1 : ¬ x.toInt < lo) (h2 : ¬ hi < x.toInt) (ho : offs[(x.toInt - lo).toNat]? = some off) (ht : (pc : Int) + off = (tgt : Int)) (k : Ev sd own cc nL ret d E tgt L (stk) σ) : Ev sd own cc nL ret d E pc L (.int x :: stk) σ := by
  intro p l e s m args below meth c ad D cA A H locs ls C hP hD hS hl
  exact lv_tableIn C.1 C.2.1 hdg h1 h2 ho ht (k p l e s m args below meth c ad D cA A H locs ls C hP hD hS hl)
theorem ev_tabOut {dflt lo hi : Int} {offs : Array Int} {len : Nat} {x : Int32} {tgt : Nat} (hdg : decode cc pc = .ok (.tableswitch dflt lo hi offs, len)) (h : x.toInt < lo ∨ hi < x.toInt) (ht : (pc : Int) + dflt = (tgt : Int)) (k : Ev sd own cc nL ret d E tgt L (stk) σ) : Ev sd own cc nL ret d E pc L (.int x :: stk) σ := by
  intro p l e s m args below meth c ad D cA A H locs ls C hP hD hS hl
  exact lv_tableOut C.1 C.2.1 hdg h ht (k p l e s m args below meth c ad D cA A H locs ls C hP hD hS hl)
theorem ev_look {dflt : Int} {ps : Array (Int × Int)} {len : Nat} {x : Int32} {off : Int} {tgt : Nat} (hdg : decode cc pc = .ok (.lookupswitch dflt ps, len)) (hp : (ps.toList.zip (ps.toList.drop 1)).all (fun (a, next) => a.1 < next.1) = true) (ho : Op.lookupswitch.offset ps.toList dflt x.toInt = off) (ht : (pc : Int) + off = (tgt : Int)) (k : Ev sd own cc nL ret d E tgt L (stk) σ) : Ev sd own cc nL ret d E pc L (.int x :: stk) σ := by
  intro p l e s m args below meth c ad D cA A H locs ls C hP hD hS hl
  exact lv_lookup C.1 C.2.1 hdg hp ho ht (k p l e s m args below meth c ad D cA A H locs ls C hP hD hS hl)
end EV
end
section
/-! Rows of Ev: fields, arrays, copies, calls, returns. -/
/-- a field's link: the field k of the objects of kind ci, as 'own' names it at 'index' -/
def FL (own : String) (index ci k : Nat) : Prop := ∃ (C : String) (T : u_T) (N : Nat) (ref : String), vwCl[ci]? = some (C, T, N) ∧ k < N ∧ Cond.fieldLink own index ref (T k).2.1 (T k).2.2.1 ∈ wsL_law ∧ (∀ w ∈ u_ws C T N, w ∈ wsL_law) ∧ (ref = (T k).1 ∨ Cond.sameField ref (T k).1 (T k).2.1 (T k).2.2.1 ∈ wsL_law)
/-- .. that may be written, of type ty -/
def FP (own : String) (index ci k : Nat) (ty : FieldType) : Prop := ∃ (C : String) (T : u_T) (N : Nat) (ref : String) (ty0 : Nat → FieldType), vwCl[ci]? = some (C, T, N) ∧ k < N ∧ Cond.fieldLink own index ref (T k).2.1 (T k).2.2.1 ∈ wsL_law ∧ (∀ w ∈ u_ws C T N, w ∈ wsL_law) ∧ (ref = (T k).1 ∨ Cond.sameField ref (T k).1 (T k).2.1 (T k).2.2.1 ∈ wsL_law) ∧
  (∀ k, k < N → parseFieldDescriptor (T k).2.2.1 = some (ty0 k)) ∧ (∀ a, a < N → ∀ b, b < N → a ≠ b → (T a).2.1 ≠ (T b).2.1) ∧ (T k).2.2.2 = false ∧ parseFieldDescriptor (T k).2.2.1 = some ty
theorem fl_same {ref o n ds : String} {args : Array Value} {s : State} (hts : ∀ w ∈ wsL_law, w.before args s = true) (h : ref = o ∨ Cond.sameField ref o n ds ∈ wsL_law) : ∀ x, s.fieldFound? o n ds = some x → s.fieldFound? ref n ds = some x := by
  intro x hx
  rcases h with h | h
  · rw [h]; exact hx
  · exact u_same (hts _ h) x hx
theorem ce_obj {ad : Nat → Nat} {cA : Nat → ClassId} {σ : St} {c ci n0 : Nat} {fs : List Nat} (hci : ci < 20) : ce ad cA σ c (ci, n0, fs) = .inr (ci, fs.zipIdx.map (fun r => av ad (fva σ c r.2 r.1))) := by
  unfold ce; exact if_pos hci
theorem fs_at {ad : Nat → Nat} {σ : St} {c k dd : Nat} {fs : List Nat} (h : fs[k]? = some dd) : (fs.zipIdx.map (fun r => av ad (fva σ c r.2 r.1)))[k]? = some (av ad (fva σ c k dd)) := by
  simp [List.getElem?_zipIdx, h]
theorem fs_put {ad : Nat → Nat} {σ τ : St} {c k : Nat} {fs : List Nat} {v : Value} (hk : k < fs.length) (hv : ∀ dd, fs[k]? = some dd → av ad (fva τ c k dd) = v) (ho : ∀ j dd, j ≠ k → fs[j]? = some dd → fva τ c j dd = fva σ c j dd) :
    (fs.zipIdx.map (fun r => av ad (fva σ c r.2 r.1))).set k v = fs.zipIdx.map (fun r => av ad (fva τ c r.2 r.1)) := by
  apply List.ext_getElem?
  intro j
  by_cases e : j = k
  · subst e
    rw [List.getElem?_set_self (by simpa using hk)]
    obtain ⟨dd, hd⟩ : ∃ dd, fs[j]? = some dd := ⟨_, List.getElem?_eq_getElem hk⟩
    rw [fs_at hd, hv dd hd]
  · rw [List.getElem?_set_ne (fun q => e q.symm)]
    cases hd : fs[j]? with
    | none => simp [List.getElem?_zipIdx, hd]
    | some dd => rw [fs_at hd, fs_at hd, ho j dd e hd]
theorem st_row_self (σ : St) (c : Nat) (g : Nat → Int32) : (st_row σ c g).1 c = g := if_pos rfl
theorem st_row_ne (σ : St) {c c' : Nat} (g : Nat → Int32) (h : c' ≠ c) : (st_row σ c g).1 c' = σ.1 c' := if_neg h
theorem st_row_2 (σ : St) (c : Nat) (g : Nat → Int32) : (st_row σ c g).2 = σ.2 := rfl
theorem ce_arr {ad : Nat → Nat} {cA : Nat → ClassId} {σ : St} {c kd n : Nat} (h : ¬ kd < 20) : ce ad cA σ c (kd, n, []) = .inl (cA (kd - 20), n, .inl (σ.1 c)) := by
  unfold ce; exact if_neg h
theorem ce_ref {ad : Nat → Nat} {cA : Nat → ClassId} {σ : St} {c kd n b : Nat} {bs : List Nat} (h : ¬ kd < 20) : ce ad cA σ c (kd, n, b :: bs) = .inl (cA (kd - 20), n, .inr (.inr (.inr (.inr (fun j => some (ad (b + j))))))) := by
  unfold ce; exact if_neg h
section EV2
variable {sd : Sd} {own : String} {cc : ByteArray} {nL : Nat} {ret : Option FieldType} {d : Nat} {E : End} {pc : Nat} {L : List (Option Value)} {stk : List Value} {σ : St}
theorem ev_get {index ci k c0 n0 dd : Nat} {fs : List Nat} {v : Value} (hF : FL own index ci k) (hsh : sd.1[c0]? = some (ci, n0, fs)) (hci : ci < 20) (hk : fs[k]? = some dd) (hv : fva σ c0 k dd = v) (hdg : decode cc pc = .ok (.getfield index, 3))
    (kk : Ev sd own cc nL ret d E (pc + 3) L (v :: stk) σ) : Ev sd own cc nL ret d E pc L (.ref c0 :: stk) σ := by
  intro p l e s m args below meth c ad D cA A H locs ls C hP hD hS hl
  obtain ⟨C0, T, N, ref, h1, h2, h3, h4, h5⟩ := hF
  have hts := C.2.2.2.2.2.1
  subst hv
  exact va_get C.1 C.2.1 hts h4 C.2.2.2.2.1 C.2.2.2.2.2.2.2.2 hP c0 ((wd_get hsh).trans (by rw [ce_obj hci])) h1 k h2 (hts _ h3) (fl_same hts h5) (fs_at hk) hdg (kk p l e s m args below meth c ad D cA A H locs ls C hP hD hS hl)
theorem ev_puti {index ci k c0 n0 : Nat} {fs : List Nat} {x : Int32} {ty : FieldType} (hF : FP own index ci k ty) (hsh : sd.1[c0]? = some (ci, n0, fs)) (hci : ci < 20) (hk : fs[k]? = some 0) (hn : narrow ty (.int x) = .int x) (hf : fits ty (.int x) = true) (hdg : decode cc pc = .ok (.putfield index, 3))
    (kk : Ev sd own cc nL ret d E (pc + 3) L stk (st_up σ c0 k x)) : Ev sd own cc nL ret d E pc L (.int x :: .ref c0 :: stk) σ := by
  intro p l e s m args below meth c ad D cA A H locs ls C hP hD hS hl
  obtain ⟨C0, T, N, ref, ty0, h1, h2, h3, h4, h5, h6, h7, h8, h9⟩ := hF
  have hts := C.2.2.2.2.2.1
  have hkl : k < fs.length := (List.getElem?_eq_some_iff.mp hk).1
  refine va_put C.1 C.2.1 hts h4 ty0 h6 h7 C.2.2.2.2.1 C.2.2.2.2.2.2.2.2 hP hD hS c0 ((wd_get hsh).trans (by rw [ce_obj hci])) h1 k h2 (hts _ h3) (fl_same hts h5) h8 h9 hn hf (by simpa using hkl) hdg (fun H1 locs1 hP1 hD1 hS1 => ?_)
  have hset := wd_set (sh := sd.1) (ad := ad) (cA := cA) (σ := σ) (τ := st_up σ c0 k x) hsh (x := .inr (ci, (fs.zipIdx.map (fun r => av ad (fva σ c0 r.2 r.1))).set k (av ad (.int x)))) (by
    rw [ce_obj hci]
    congr 2
    exact fs_put hkl (fun dd hd => by rw [hk] at hd; cases hd; simp [fva, st_up, st_row_self, upd, av]) (fun j dd hj hd => by
      match dd with
      | 0 => simp [fva, st_up, st_row_self, upd, hj]
      | 1 => rfl
      | t + 2 => rfl)) (fun c' hc' => ⟨st_row_ne σ _ hc', rfl⟩)
  rw [hset] at hP1 hD1
  exact kk p l e s m args below meth c ad D cA A H1 locs1 ls C hP1 hD1 hS1 hl
theorem ev_putl {index ci k c0 n0 : Nat} {fs : List Nat} {x : Int64} (hF : FP own index ci k .long) (hsh : sd.1[c0]? = some (ci, n0, fs)) (hci : ci < 20) (hk : fs[k]? = some 1) (ho : ∀ j, j ≠ k → fs[j]? ≠ some 1) (hdg : decode cc pc = .ok (.putfield index, 3))
    (kk : Ev sd own cc nL ret d E (pc + 3) L stk (st_lo σ c0 x)) : Ev sd own cc nL ret d E pc L (.long x :: .ref c0 :: stk) σ := by
  intro p l e s m args below meth c ad D cA A H locs ls C hP hD hS hl
  obtain ⟨C0, T, N, ref, ty0, h1, h2, h3, h4, h5, h6, h7, h8, h9⟩ := hF
  have hts := C.2.2.2.2.2.1
  have hkl : k < fs.length := (List.getElem?_eq_some_iff.mp hk).1
  refine va_put C.1 C.2.1 hts h4 ty0 h6 h7 C.2.2.2.2.1 C.2.2.2.2.2.2.2.2 hP hD hS c0 ((wd_get hsh).trans (by rw [ce_obj hci])) h1 k h2 (hts _ h3) (fl_same hts h5) h8 h9 rfl rfl (by simpa using hkl) hdg (fun H1 locs1 hP1 hD1 hS1 => ?_)
  have hset := wd_set (sh := sd.1) (ad := ad) (cA := cA) (σ := σ) (τ := st_lo σ c0 x) hsh (x := .inr (ci, (fs.zipIdx.map (fun r => av ad (fva σ c0 r.2 r.1))).set k (av ad (.long x)))) (by
    rw [ce_obj hci]
    congr 2
    exact fs_put hkl (fun dd hd => by rw [hk] at hd; cases hd; simp [fva, st_lo, av]) (fun j dd hj hd => by
      match dd, hd with
      | 0, _ => rfl
      | 1, hd => exact absurd hd (ho j hj)
      | t + 2, _ => rfl)) (fun c' hc' => ⟨rfl, if_neg hc'⟩)
  rw [hset] at hP1 hD1
  exact kk p l e s m args below meth c ad D cA A H1 locs1 ls C hP1 hD1 hS1 hl
theorem ev_iald {c0 j n : Nat} {i : Int32} (hsh : sd.1[c0]? = some (20, n, [])) (ht : sd.2[0]? = some .int) (hin : vp_in i n) (hj : i.toNatClampNeg = j) (hdg : decode cc pc = .ok (.iaload, 1))
    (kk : Ev sd own cc nL ret d E (pc + 1) L (.int (σ.1 c0 j) :: stk) σ) : Ev sd own cc nL ret d E pc L (.int i :: .ref c0 :: stk) σ := by
  subst hj
  intro p l e s m args below meth c ad D cA A H locs ls C hP hD hS hl
  exact va_iald C.1 C.2.1 C.2.2.2.2.2.2.2.2 hP c0 0 ((wd_get hsh).trans (by rw [ce_arr (by decide)])) (tyk_get ht) hin hdg (kk p l e s m args below meth c ad D cA A H locs ls C hP hD hS hl)
theorem ev_zald {c0 j n kd t : Nat} {i : Int32} (hsh : sd.1[c0]? = some (kd, n, [])) (hkd : kd = 20 + t) (ht : sd.2[t]? = some .boolean) (hin : vp_in i n) (hj : i.toNatClampNeg = j) (hdg : decode cc pc = .ok (.baload, 1))
    (kk : Ev sd own cc nL ret d E (pc + 1) L (.int (σ.1 c0 j) :: stk) σ) : Ev sd own cc nL ret d E pc L (.int i :: .ref c0 :: stk) σ := by
  subst hj
  intro p l e s m args below meth c ad D cA A H locs ls C hP hD hS hl
  have e1 : kd - 20 = t := by omega
  exact va_zald C.1 C.2.1 C.2.2.2.2.2.2.2.2 hP c0 t ((wd_get hsh).trans (by rw [ce_arr (by omega), e1])) (tyk_get ht) hin hdg (kk p l e s m args below meth c ad D cA A H locs ls C hP hD hS hl)
theorem ev_bald {c0 j n kd t : Nat} {i : Int32} (hsh : sd.1[c0]? = some (kd, n, [])) (hkd : kd = 20 + t) (ht : sd.2[t]? = some .byte) (hin : vp_in i n) (hj : i.toNatClampNeg = j) (hdg : decode cc pc = .ok (.baload, 1))
    (kk : Ev sd own cc nL ret d E (pc + 1) L (.int (σ.1 c0 j) :: stk) σ) : Ev sd own cc nL ret d E pc L (.int i :: .ref c0 :: stk) σ := by
  subst hj
  intro p l e s m args below meth c ad D cA A H locs ls C hP hD hS hl
  have e1 : kd - 20 = t := by omega
  exact va_bald C.1 C.2.1 C.2.2.2.2.2.2.2.2 hP c0 t ((wd_get hsh).trans (by rw [ce_arr (by omega), e1])) (tyk_get ht) hin hdg (kk p l e s m args below meth c ad D cA A H locs ls C hP hD hS hl)
theorem ev_iast {c0 j n : Nat} {i x : Int32} (hsh : sd.1[c0]? = some (20, n, [])) (ht : sd.2[0]? = some .int) (hin : vp_in i n) (hj : i.toNatClampNeg = j) (hdg : decode cc pc = .ok (.iastore, 1))
    (kk : Ev sd own cc nL ret d E (pc + 1) L stk (st_up σ c0 j x)) : Ev sd own cc nL ret d E pc L (.int x :: .int i :: .ref c0 :: stk) σ := by
  subst hj
  intro p l e s m args below meth c ad D cA A H locs ls C hP hD hS hl
  refine va_iast C.1 C.2.1 C.2.2.2.2.2.2.2.2 hP hD hS c0 0 ((wd_get hsh).trans (by rw [ce_arr (by decide)])) (tyk_get ht) hin hdg (fun H1 locs1 hP1 hD1 hS1 => ?_)
  have hset := wd_set (sh := sd.1) (ad := ad) (cA := cA) (σ := σ) (τ := st_up σ c0 i.toNatClampNeg x) hsh (x := .inl (cA (20 - 20), n, .inl (upd (σ.1 c0) i.toNatClampNeg x))) (by
    rw [ce_arr (by decide), st_up, st_row_self]) (fun c' hc' => ⟨st_row_ne σ _ hc', rfl⟩)
  rw [hset] at hP1 hD1
  exact kk p l e s m args below meth c ad D cA A H1 locs1 ls C hP1 hD1 hS1 hl
theorem ev_zast {c0 j n kd t : Nat} {i x x' : Int32} (hsh : sd.1[c0]? = some (kd, n, [])) (hkd : kd = 20 + t) (ht : sd.2[t]? = some .boolean) (hin : vp_in i n) (hj : i.toNatClampNeg = j) (hx : vp_nar .boolean x = x') (hdg : decode cc pc = .ok (.bastore, 1))
    (kk : Ev sd own cc nL ret d E (pc + 1) L stk (st_up σ c0 j x')) : Ev sd own cc nL ret d E pc L (.int x :: .int i :: .ref c0 :: stk) σ := by
  subst hx
  subst hj
  intro p l e s m args below meth c ad D cA A H locs ls C hP hD hS hl
  have e1 : kd - 20 = t := by omega
  refine va_zast C.1 C.2.1 C.2.2.2.2.2.2.2.2 hP hD hS c0 t ((wd_get hsh).trans (by rw [ce_arr (by omega), e1])) (tyk_get ht) hin hdg (fun H1 locs1 hP1 hD1 hS1 => ?_)
  have hset := wd_set (sh := sd.1) (ad := ad) (cA := cA) (σ := σ) (τ := st_up σ c0 i.toNatClampNeg (vp_nar .boolean x)) hsh (x := .inl (cA t, n, .inl (upd (σ.1 c0) i.toNatClampNeg (vp_nar .boolean x)))) (by
    rw [ce_arr (by omega), st_up, st_row_self, e1]) (fun c' hc' => ⟨st_row_ne σ _ hc', rfl⟩)
  rw [hset] at hP1 hD1
  exact kk p l e s m args below meth c ad D cA A H1 locs1 ls C hP1 hD1 hS1 hl
theorem ev_bast {c0 j n kd t : Nat} {i x x' : Int32} (hsh : sd.1[c0]? = some (kd, n, [])) (hkd : kd = 20 + t) (ht : sd.2[t]? = some .byte) (hin : vp_in i n) (hj : i.toNatClampNeg = j) (hx : vp_nar .byte x = x') (hdg : decode cc pc = .ok (.bastore, 1))
    (kk : Ev sd own cc nL ret d E (pc + 1) L stk (st_up σ c0 j x')) : Ev sd own cc nL ret d E pc L (.int x :: .int i :: .ref c0 :: stk) σ := by
  subst hx
  subst hj
  intro p l e s m args below meth c ad D cA A H locs ls C hP hD hS hl
  have e1 : kd - 20 = t := by omega
  refine va_bast C.1 C.2.1 C.2.2.2.2.2.2.2.2 hP hD hS c0 t ((wd_get hsh).trans (by rw [ce_arr (by omega), e1])) (tyk_get ht) hin hdg (fun H1 locs1 hP1 hD1 hS1 => ?_)
  have hset := wd_set (sh := sd.1) (ad := ad) (cA := cA) (σ := σ) (τ := st_up σ c0 i.toNatClampNeg (vp_nar .byte x)) hsh (x := .inl (cA t, n, .inl (upd (σ.1 c0) i.toNatClampNeg (vp_nar .byte x)))) (by
    rw [ce_arr (by omega), st_up, st_row_self, e1]) (fun c' hc' => ⟨st_row_ne σ _ hc', rfl⟩)
  rw [hset] at hP1 hD1
  exact kk p l e s m args below meth c ad D cA A H1 locs1 ls C hP1 hD1 hS1 hl
theorem ev_aald {c0 j n kd t b : Nat} {bs : List Nat} {ty : FieldType} {i : Int32} (hsh : sd.1[c0]? = some (kd, n, b :: bs)) (hkd : kd = 20 + t) (ht : sd.2[t]? = some ty) (hty : ty.isReference = true) (hin : vp_in i n) (hj : i.toNatClampNeg = j) (hdg : decode cc pc = .ok (.aaload, 1))
    (kk : Ev sd own cc nL ret d E (pc + 1) L (.ref (b + j) :: stk) σ) : Ev sd own cc nL ret d E pc L (.int i :: .ref c0 :: stk) σ := by
  subst hj
  intro p l e s m args below meth c ad D cA A H locs ls C hP hD hS hl
  have e1 : kd - 20 = t := by omega
  have hlt : i.toNatClampNeg < n := Nat.not_le.mp fun q => hin (Or.inr q)
  have ha : (wd sd.1 ad cA σ)[c0]? = some (ad c0, .inl (cA t, n, .inr (.inr (.inr (.inr (fun j => some (ad (b + j)))))))) := (wd_get hsh).trans (by rw [ce_ref (by omega), e1])
  exact W.aald (v := .ref (ad (b + i.toNatClampNeg))) (ty := ty) C.1 C.2.1 (hP c0 _ ha) ((C.2.2.2.2.2.2.2.2.2 t _ (tyk_get ht)).1 n (fun j => va_rf (some (ad (b + j))))) hty (fun q => by cases q) (by show ¬ (i < 0 ∨ (arrV _ _ _).slots.size ≤ _); rw [arrV_size]; exact hin) (by show (arrV _ _ _).slots[_]? = _; rw [arrV_read _ _ hlt]; rfl) rfl rfl hdg (kk p l e s m args below meth c ad D cA A H locs ls C hP hD hS hl)
theorem ev_alen {c0 n kd t : Nat} {ty : FieldType} {v : Int32} (hsh : sd.1[c0]? = some (kd, n, [])) (hkd : kd = 20 + t) (ht : sd.2[t]? = some ty) (hv : Int32.ofNat n = v) (hdg : decode cc pc = .ok (.arraylength, 1))
    (kk : Ev sd own cc nL ret d E (pc + 1) L (.int v :: stk) σ) : Ev sd own cc nL ret d E pc L (.ref c0 :: stk) σ := by
  intro p l e s m args below meth c ad D cA A H locs ls C hP hD hS hl
  have e1 : kd - 20 = t := by omega
  exact va_alen C.1 C.2.1 C.2.2.2.2.2.2.2.2 hP c0 t ((wd_get hsh).trans (by rw [ce_arr (by omega), e1])) (tyk_get ht) hv hdg (kk p l e s m args below meth c ad D cA A H locs ls C hP hD hS hl)
theorem ev_alenr {c0 n kd t b : Nat} {bs : List Nat} {ty : FieldType} {v : Int32} (hsh : sd.1[c0]? = some (kd, n, b :: bs)) (hkd : kd = 20 + t) (ht : sd.2[t]? = some ty) (hv : Int32.ofNat n = v) (hdg : decode cc pc = .ok (.arraylength, 1))
    (kk : Ev sd own cc nL ret d E (pc + 1) L (.int v :: stk) σ) : Ev sd own cc nL ret d E pc L (.ref c0 :: stk) σ := by
  intro p l e s m args below meth c ad D cA A H locs ls C hP hD hS hl
  have e1 : kd - 20 = t := by omega
  exact va_alen C.1 C.2.1 C.2.2.2.2.2.2.2.2 hP c0 t ((wd_get hsh).trans (by rw [ce_ref (by omega), e1])) (tyk_get ht) hv hdg (kk p l e s m args below meth c ad D cA A H locs ls C hP hD hS hl)
/-- the words of System.arraycopy as 'own' links it -/
def CP (own : String) (index : Nat) : Prop := Cond.methodLink own index arraycopyName ∈ wsL_law ∧ Cond.native arraycopyName ∈ wsL_law ∧ Cond.static arraycopyName ∈ wsL_law ∧ Cond.initialized "java/lang/System" ∈ wsL_law
theorem ev_copy {index c0 c1 n0 n1 js jd jn : Nat} {sp dp n : Int32} (hw : CP own index) (h0 : sd.1[c0]? = some (20, n0, [])) (h1 : sd.1[c1]? = some (20, n1, [])) (ht : sd.2[0]? = some .int) (hc : ¬ sp < 0 ∧ ¬ dp < 0 ∧ ¬ n < 0 ∧ sp.toNatClampNeg + n.toNatClampNeg ≤ n0 ∧ dp.toNatClampNeg + n.toNatClampNeg ≤ n1) (hjs : sp.toNatClampNeg = js) (hjd : dp.toNatClampNeg = jd) (hjn : n.toNatClampNeg = jn) (hd : 1 ≤ d) (hst : (stk.map fun v => v.category).sum ≤ 8) (hdg : decode cc pc = .ok (.invokestatic index, 3))
    (kk : Ev sd own cc nL ret d E (pc + 3) L stk (st_row σ c1 (va_cpy (σ.1 c0) (σ.1 c1) js jd jn))) : Ev sd own cc nL ret d E pc L (.int n :: .int dp :: .ref c1 :: .int sp :: .ref c0 :: stk) σ := by
  subst hjs
  subst hjd
  subst hjn
  intro p l e s m args below meth c ad D cA A H locs ls C hP hD hS hl
  have hts := C.2.2.2.2.2.1
  refine va_copyi C.1 C.2.1 (by rw [hl.1]; exact C.2.2.2.1) C.2.2.2.2.1 (hts _ hw.1) (hts _ hw.2.1) (hts _ hw.2.2.1) (hts _ hw.2.2.2) C.2.2.2.2.2.2.2.2 hP hD hS c0 c1 0 0 ((wd_get h0).trans (by rw [ce_arr (by decide)])) ((wd_get h1).trans (by rw [ce_arr (by decide)])) (tyk_get ht) (tyk_get ht) rfl hc.1 hc.2.1 hc.2.2.1 hc.2.2.2.1 hc.2.2.2.2 (fun _ _ => rfl) hd (by
      rw [av_cats]
      have : nativeFrameWords "java/lang/System" "arraycopy" 5 = 7 := by decide
      rw [this]
      show _ ≤ 40 * d
      omega) hdg (fun H1 locs1 hP1 hD1 hS1 => ?_)
  have hset := wd_set (sh := sd.1) (ad := ad) (cA := cA) (σ := σ) (τ := st_row σ c1 (va_cpy (σ.1 c0) (σ.1 c1) sp.toNatClampNeg dp.toNatClampNeg n.toNatClampNeg)) h1 (x := .inl (cA (20 - 20), n1, .inl (va_cpy (σ.1 c0) (σ.1 c1) sp.toNatClampNeg dp.toNatClampNeg n.toNatClampNeg))) (by
    rw [ce_arr (by decide), st_row_self]) (fun c' hc' => ⟨st_row_ne σ _ hc', rfl⟩)
  rw [hset] at hP1 hD1
  exact kk p l e s m args below meth c ad D cA A H1 locs1 ls C hP1 hD1 hS1 hl
/-- the words of Math.max and Math.min -/
def MX (own : String) (index : Nat) : Prop := Cond.methodLink own index Lib.Math.max.name ∈ wsL_law ∧ Cond.static Lib.Math.max.name ∈ wsL_law ∧ Cond.initialized "java/lang/Math" ∈ wsL_law ∧ Cond.code Lib.Math.max.name Lib.Math.max.code 2 (some .int) ∈ wsL_law
def MN (own : String) (index : Nat) : Prop := Cond.methodLink own index Lib.Math.min.name ∈ wsL_law ∧ Cond.static Lib.Math.min.name ∈ wsL_law ∧ Cond.initialized "java/lang/Math" ∈ wsL_law ∧ Cond.code Lib.Math.min.name Lib.Math.min.code 2 (some .int) ∈ wsL_law
theorem ev_max {index : Nat} {x y : Int32} (hw : MX own index) (hd : 1 ≤ d) (hst : (stk.map fun v => v.category).sum ≤ 8) (hdg : decode cc pc = .ok (.invokestatic index, 3))
    (kk : Ev sd own cc nL ret d E (pc + 3) L (.int (if x < y then y else x) :: stk) σ) : Ev sd own cc nL ret d E pc L (.int y :: .int x :: stk) σ := by
  intro p l e s m args below meth c ad D cA A H locs ls C hP hD hS hl
  have hts := C.2.2.2.2.2.1
  exact va_mmax C.1 C.2.1 (by rw [hl.1]; exact C.2.2.2.1) C.2.2.2.2.1 (hts _ hw.1) (hts _ hw.2.1) (hts _ hw.2.2.1) (hts _ hw.2.2.2) hd (by rw [av_cats]; show _ ≤ 40 * d; omega) (Nat.zero_le _) (Nat.zero_le _) hdg (kk p l e s m args below meth c ad D cA A H locs ls C hP hD hS hl)
theorem ev_min {index : Nat} {x y : Int32} (hw : MN own index) (hd : 1 ≤ d) (hst : (stk.map fun v => v.category).sum ≤ 8) (hdg : decode cc pc = .ok (.invokestatic index, 3))
    (kk : Ev sd own cc nL ret d E (pc + 3) L (.int (if y < x then y else x) :: stk) σ) : Ev sd own cc nL ret d E pc L (.int y :: .int x :: stk) σ := by
  intro p l e s m args below meth c ad D cA A H locs ls C hP hD hS hl
  have hts := C.2.2.2.2.2.1
  exact va_mmin C.1 C.2.1 (by rw [hl.1]; exact C.2.2.2.1) C.2.2.2.2.1 (hts _ hw.1) (hts _ hw.2.1) (hts _ hw.2.2.1) (hts _ hw.2.2.2) hd (by rw [av_cats]; show _ ≤ 40 * d; omega) (Nat.zero_le _) (Nat.zero_le _) hdg (kk p l e s m args below meth c ad D cA A H locs ls C hP hD hS hl)
theorem ev_iret {post : Int32 → St → Prop} {v : Int32} (hr : ret = some .int) (hdg : decode cc pc = .ok (.ireturn, 1)) (h : post v σ) : Ev sd own cc nL ret d (EQi sd post) pc L [.int v] σ := by
  intro p l e s m args below meth c ad D cA A H locs ls C hP hD hS hl
  refine W.iret C.1 C.2.1 (C.2.2.1.trans hr) (fun t ht hW => ⟨⟨v, σ, rfl, h, ?_, va_K.moved hW.alike C.2.2.2.2.2.2.2.2, hD⟩, hS.F ht⟩) hS.2.2 hdg (hlocks := C.2.2.2.2.2.2.1)
  rw [ht]; exact hP
theorem ev_zret {post : Int32 → St → Prop} {v : Int32} (hr : ret = some .boolean) (hdg : decode cc pc = .ok (.ireturn, 1)) (hv : narrow .boolean (.int v) = .int v) (h : post v σ) : Ev sd own cc nL ret d (EQi sd post) pc L [.int v] σ := by
  intro p l e s m args below meth c ad D cA A H locs ls C hP hD hS hl
  refine W.zret C.1 C.2.1 (C.2.2.1.trans hr) hv (fun t ht hW => ⟨⟨v, σ, rfl, h, ?_, va_K.moved hW.alike C.2.2.2.2.2.2.2.2, hD⟩, hS.F ht⟩) hS.2.2 hdg (hlocks := C.2.2.2.2.2.2.1)
  rw [ht]; exact hP
theorem ev_lret {post : Int64 → St → Prop} {v : Int64} (hr : ret = some .long) (hdg : decode cc pc = .ok (.lreturn, 1)) (h : post v σ) : Ev sd own cc nL ret d (EQl sd post) pc L [.long v] σ := by
  intro p l e s m args below meth c ad D cA A H locs ls C hP hD hS hl
  refine W.lret C.1 C.2.1 (C.2.2.1.trans hr) (fun t ht hW => ⟨⟨v, σ, rfl, h, ?_, va_K.moved hW.alike C.2.2.2.2.2.2.2.2, hD⟩, hS.F ht⟩) hS.2.2 hdg (hlocks := C.2.2.2.2.2.2.1)
  rw [ht]; exact hP
theorem ev_vret {post : St → Prop} (hr : ret = none) (hdg : decode cc pc = .ok (.return_, 1)) (h : post σ) : Ev sd own cc nL ret d (EQv sd post) pc L [] σ := by
  intro p l e s m args below meth c ad D cA A H locs ls C hP hD hS hl
  refine W.vret C.1 C.2.1 (C.2.2.1.trans hr) (fun t ht hW => ⟨⟨σ, rfl, h, ?_, va_K.moved hW.alike C.2.2.2.2.2.2.2.2, hD⟩, hS.F ht⟩) hS.2.2 hdg (hlocks := C.2.2.2.2.2.2.1)
  rw [ht]; exact hP
end EV2
end
section
/-! Rows of Ev: calls. -/
theorem wsL_good : GoodIn wsL_law wsL_law := fun w h => ⟨h, good_of_word (List.all_eq_true.mp (show wsL_law.all goodWord = true by decide +kernel) w h)⟩
def preB (sd : Sd) (ad : Nat → Nat) (D : va_G) (cA : Nat → ClassId) (sz : Nat) (σ : St) : State → Prop := fun U => U.heap.size = sz ∧ va_P D vwCl (wd sd.1 ad cA σ) U.heap ∧ va_K D vwCl (tyk cA sd.2) U ∧ va_D (fun _ => True) (wd sd.1 ad cA σ)
theorem preB_blind {sd : Sd} {ad : Nat → Nat} {D : va_G} {cA : Nat → ClassId} {sz : Nat} {σ : St} {avs : List Value} : FrameBlind (va_Pc avs (preB sd ad D cA sz σ)) := fun a U g mk q => by
  obtain ⟨q0, q1, qP, qK, qD⟩ := q
  exact ⟨q0, q1, qP, va_K.moved (u := U) (U := U.calling g mk a) (Vm.Alike.refl U.vm) qK, qD⟩
/-- the words of a call: what links it, what it selects, its code -/
def CWc (y : MethodName) (bytes : ByteArray) (maxL : Nat) (rt : Option FieldType) (n : Nat) : Prop := Cond.code y bytes maxL rt ∈ wsL_law ∧ Cond.initialized y.cls ∈ wsL_law ∧ (y.cls ≠ "java/lang/invoke/MethodHandle" ∧ y.cls ≠ "java/lang/invoke/VarHandle" ∧ (parseMethodDescriptor y.desc).map (fun d => d.parameters.length) = some n) ∧ maxL ≤ 21
def CWv (own : String) (index : Nat) (y : MethodName) (bytes : ByteArray) (maxL : Nat) (rt : Option FieldType) (n : Nat) : Prop := CWc y bytes maxL rt n ∧ Cond.methodLink own index y ∈ wsL_law ∧ Cond.instanceMethod y ∈ wsL_law ∧ Cond.selects y.cls y y ∈ wsL_law
def CWs (own : String) (index : Nat) (y : MethodName) (bytes : ByteArray) (maxL : Nat) (rt : Option FieldType) (n : Nat) : Prop := CWc y bytes maxL rt n ∧ Cond.methodLink own index y ∈ wsL_law ∧ Cond.static y ∈ wsL_law
theorem good_cons {w : Cond} (h : w ∈ wsL_law) {ws : List Cond} (hg : GoodIn wsL_law ws) : GoodIn wsL_law (w :: ws) := fun x hx => (List.mem_cons.mp hx).elim (fun e => e ▸ wsL_good w h) (hg x)
section EV3
variable {sd : Sd} {own : String} {cc : ByteArray} {nL : Nat} {ret : Option FieldType} {d : Nat} {E : End} {pc : Nat} {L : List (Option Value)} {stk stk0 : List Value} {σ : St}
/-- what a call asks of its caller's walk and gives back, whatever its kind -/
def Callee (sd : Sd) (own : String) (cc : ByteArray) (nL : Nat) (ret : Option FieldType) (d : Nat) (pc : Nat) (L : List (Option Value)) (stk0 stk : List Value) (σ : St) (E1 : End) : Prop :=
  ∀ (p : Program) (l : Launch) (e : Env) (s : State) (m : MethodId) (args : Array Value) (below : List Frame) (meth : Method) (c : Code) (ad : Nat → Nat) (D : va_G) (cA : Nat → ClassId) (A : Nat → Prop) (H : Heap) (locs : List Loc) (ls : Array Slot),
    Cx sd.2 own cc nL ret p s m args meth c D cA A → va_P D vwCl (wd sd.1 ad cA σ) H → va_D A (wd sd.1 ad cA σ) → va_S A s.heap H locs → lh ad ls nL L →
    ∃ a : Array Value, va_Run p l e (rmd d) s m args below meth c H locs 0 0 0 0 (F0 m pc ls (stk0.map (av ad))) (stk.map (av ad)) (E1 ad D cA (va_A (wd sd.1 ad cA σ) H.size) a) (va_A (wd sd.1 ad cA σ) H.size)
theorem wd_free {ad : Nat → Nat} {cA : Nat → ClassId} {A : Nat → Prop} {H0 H : Heap} {locs : List Loc} (hD : va_D A (wd sd.1 ad cA σ)) (hS : va_S A H0 H locs) (hA : ∀ q : Nat, H0.size ≤ q → A q) : ∀ q, va_A (wd sd.1 ad cA σ) H.size q → A q := by
  intro q hq
  rcases hq with ⟨k, e, hk⟩ | hq
  · exact hD.2 k _ hk
  · exact hA q (Nat.le_trans hS.1 hq)
theorem ev_calli {post : Int32 → St → Prop} (hc : Callee sd own cc nL ret d pc L stk0 stk σ (EQi sd post)) (kk : ∀ (r : Int32) (τ : St), post r τ → Ev sd own cc nL ret d E (pc + 3) L (.int r :: stk) τ) : Ev sd own cc nL ret d E pc L stk0 σ := by
  intro p l e s m args below meth c ad D cA A H locs ls C hP hD hS hl
  obtain ⟨a, hr⟩ := hc p l e s m args below meth c ad D cA A H locs ls C hP hD hS hl
  have hF := wd_free hD hS C.2.2.2.2.2.2.2.1
  refine va_calli hr hS (fun q _ h => hF q h) hF (fun r u t H1 locs1 ht hvm hw hB hz1 hk1 hS1 => ?_)
  obtain ⟨hP1, hK1, hD1⟩ := hB
  rw [ht] at hP1
  exact kk r u hw p l e s m args below meth c ad D cA A H1 locs1 ls C hP1 (hD1.weaken (fun _ _ _ h => hF _ h)) hS1 hl
theorem ev_calll {post : Int64 → St → Prop} (hc : Callee sd own cc nL ret d pc L stk0 stk σ (EQl sd post)) (kk : ∀ (r : Int64) (τ : St), post r τ → Ev sd own cc nL ret d E (pc + 3) L (.long r :: stk) τ) : Ev sd own cc nL ret d E pc L stk0 σ := by
  intro p l e s m args below meth c ad D cA A H locs ls C hP hD hS hl
  obtain ⟨a, hr⟩ := hc p l e s m args below meth c ad D cA A H locs ls C hP hD hS hl
  have hF := wd_free hD hS C.2.2.2.2.2.2.2.1
  refine va_calll hr hS (fun q _ h => hF q h) hF (fun r u t H1 locs1 ht hvm hw hB hz1 hk1 hS1 => ?_)
  obtain ⟨hP1, hK1, hD1⟩ := hB
  rw [ht] at hP1
  exact kk r u hw p l e s m args below meth c ad D cA A H1 locs1 ls C hP1 (hD1.weaken (fun _ _ _ h => hF _ h)) hS1 hl
theorem ev_callv {post : St → Prop} (hc : Callee sd own cc nL ret d pc L stk0 stk σ (EQv sd post)) (kk : ∀ (τ : St), post τ → Ev sd own cc nL ret d E (pc + 3) L stk τ) : Ev sd own cc nL ret d E pc L stk0 σ := by
  intro p l e s m args below meth c ad D cA A H locs ls C hP hD hS hl
  obtain ⟨a, hr⟩ := hc p l e s m args below meth c ad D cA A H locs ls C hP hD hS hl
  have hF := wd_free hD hS C.2.2.2.2.2.2.2.1
  refine va_callv hr hS (fun q _ h => hF q h) hF (fun u t H1 locs1 ht hvm hw hB hz1 hk1 hS1 => ?_)
  obtain ⟨hP1, hK1, hD1⟩ := hB
  rw [ht] at hP1
  exact kk u hw p l e s m args below meth c ad D cA A H1 locs1 ls C hP1 (hD1.weaken (fun _ _ _ h => hF _ h)) hS1 hl
theorem stk_sum {ad : Nat → Nat} (hst : (stk.map fun v => v.category).sum ≤ 8) : ((stk.map (av ad)).map fun v => v.category).sum ≤ 8 := by rw [av_cats]; exact hst
theorem map_rev {ad : Nat → Nat} {As : List Value} {b : Nat} (h : stk0 = As.reverse ++ .ref b :: stk) : stk0.map (av ad) = (As.map (av ad)).reverse ++ .ref (ad b) :: stk.map (av ad) := by
  rw [h, List.map_append, List.map_cons, List.map_reverse]; rfl
theorem map_revS {ad : Nat → Nat} {As : List Value} (h : stk0 = As.reverse ++ stk) : stk0.map (av ad) = (As.map (av ad)).reverse ++ stk.map (av ad) := by
  rw [h, List.map_append, List.map_reverse]
/-- the receiver's cell -/
theorem wd_recv {ad : Nat → Nat} {D : va_G} {cA : Nat → ClassId} {H : Heap} {s : State} {c0 ci n0 : Nat} {fs : List Nat} {q : vw_C} (hK : va_K D vwCl (tyk cA sd.2) s) (hP : va_P D vwCl (wd sd.1 ad cA σ) H) (hsh : sd.1[c0]? = some (ci, n0, fs)) (hci : ci < 20) (hq : vwCl[ci]? = some q) : ∃ cell : Cell, H[ad c0]? = some cell ∧ cell.vm.isStatics = false ∧ s.vm.findClass q.1 = some cell.cls :=
  va_recv hK hP hq ((wd_get hsh).trans (by rw [ce_obj hci]))
theorem ce_V {index c0 ci n0 n d1 maxL : Nat} {fs : List Nat} {y : MethodName} {bytes : ByteArray} {rt : Option FieldType} {As : List Value} {E1 : End} {T : u_T} {N : Nat} (hC : Ct sd y bytes maxL rt d1 E1 (.ref c0 :: As) σ) (hw : CWv own index y bytes maxL rt n) (hsh : sd.1[c0]? = some (ci, n0, fs)) (hci : ci < 20) (hq : vwCl[ci]? = some (y.cls, T, N)) (hd : d1 < d) (hn : As.length = n) (hst : (stk.map fun v => v.category).sum ≤ 8) (hs : stk0 = As.reverse ++ .ref c0 :: stk) (hdg : decode cc pc = .ok (.invokevirtual index, 3)) : Callee sd own cc nL ret d pc L stk0 stk σ E1 := by
  intro p l e s m args below meth c ad D cA A H locs ls C hP hD hS hl
  have hts := C.2.2.2.2.2.1
  have hK := C.2.2.2.2.2.2.2.2
  obtain ⟨⟨w1, w2, w3, w4⟩, w5, w6, w7⟩ := hw
  refine ⟨_, va_runV (As := As.map (av ad)) (rest := stk.map (av ad)) (C := y.cls) ⟨C.1, C.2.1, C.2.2.2.1, C.2.2.2.2.1, hts⟩ (hC l ad D cA H.size) (cwV n hts (good_cons w5 (good_cons w6 (good_cons w7 (good_cons w2 (good_cons w1 wsL_good))))) rfl rfl rfl ⟨rfl, w3⟩ ⟨hd, ?_⟩) ⟨preB_blind, wd_recv hK hP hsh hci hq, fun U hU hW => ⟨rfl, by rw [hU], by rw [hU]; exact hP, va_K.moved hW.alike hK, hD.weaken (fun _ _ _ _ => trivial)⟩⟩ rfl (by rw [List.length_map]; exact hn) hl.1 (map_rev hs) (lv_room (stk_sum hst)) hdg ⟨Nat.zero_le _, Nat.zero_le _⟩⟩
  show 8 + (maxL + 11) + 40 * d1 ≤ 40 * d
  omega
theorem ce_S {index n d1 maxL : Nat} {y : MethodName} {bytes : ByteArray} {rt : Option FieldType} {As : List Value} {E1 : End} (hC : Ct sd y bytes maxL rt d1 E1 As σ) (hw : CWs own index y bytes maxL rt n) (hd : d1 < d) (hn : As.length = n) (hst : (stk.map fun v => v.category).sum ≤ 8) (hs : stk0 = As.reverse ++ stk) (hdg : decode cc pc = .ok (.invokestatic index, 3)) : Callee sd own cc nL ret d pc L stk0 stk σ E1 := by
  intro p l e s m args below meth c ad D cA A H locs ls C hP hD hS hl
  have hts := C.2.2.2.2.2.1
  have hK := C.2.2.2.2.2.2.2.2
  obtain ⟨⟨w1, w2, w3, w4⟩, w5, w6⟩ := hw
  refine ⟨_, va_runS (As := As.map (av ad)) (rest := stk.map (av ad)) ⟨C.1, C.2.1, C.2.2.2.1, C.2.2.2.2.1, hts⟩ (hC l ad D cA H.size) (va_cwS n hts (good_cons w5 (good_cons w6 (good_cons w2 (good_cons w1 wsL_good)))) rfl rfl rfl w3 ⟨hd, ?_⟩) ⟨preB_blind, fun U hU hW => ⟨rfl, by rw [hU], by rw [hU]; exact hP, va_K.moved hW.alike hK, hD.weaken (fun _ _ _ _ => trivial)⟩⟩ rfl (by rw [List.length_map]; exact hn) hl.1 (map_revS hs) (lv_room (stk_sum hst)) hdg ⟨Nat.zero_le _, Nat.zero_le _⟩⟩
  show 8 + (maxL + 11) + 40 * d1 ≤ 40 * d
  omega
end EV3
/-! calls of super's method, and of a method that a kind below overrides -/
def CWu (own : String) (index : Nat) (y : MethodName) (bytes : ByteArray) (maxL : Nat) (rt : Option FieldType) (n : Nat) : Prop := CWc y bytes maxL rt n ∧ y.name ≠ "<init>" ∧ Cond.methodLink own index y ∈ wsL_law ∧ Cond.sameMethod y.cls y.cls y.name y.desc ∈ wsL_law ∧ Cond.superclass own y.cls ∈ wsL_law ∧ Cond.instanceMethod y ∈ wsL_law
def CWo (own : String) (index : Nat) (C : String) (x y : MethodName) (bytes : ByteArray) (maxL : Nat) (rt : Option FieldType) (n : Nat) : Prop := CWc y bytes maxL rt n ∧ (x.cls ≠ "java/lang/invoke/MethodHandle" ∧ x.cls ≠ "java/lang/invoke/VarHandle" ∧ (parseMethodDescriptor x.desc).map (fun d => d.parameters.length) = some n) ∧ Cond.methodLink own index x ∈ wsL_law ∧ Cond.sameMethod x.cls x.cls x.name x.desc ∈ wsL_law ∧ Cond.instanceMethod x ∈ wsL_law ∧ Cond.selects C x y ∈ wsL_law ∧ Cond.instanceMethod y ∈ wsL_law ∧ ∃ (b0 : ByteArray) (m0 : Nat) (r0 : Option FieldType), Cond.code x b0 m0 r0 ∈ wsL_law
section EV4
variable {sd : Sd} {own : String} {cc : ByteArray} {nL : Nat} {ret : Option FieldType} {d : Nat} {E : End} {pc : Nat} {L : List (Option Value)} {stk stk0 : List Value} {σ : St}
theorem ce_U {index c0 ci n0 n d1 maxL : Nat} {fs : List Nat} {y : MethodName} {bytes : ByteArray} {rt : Option FieldType} {As : List Value} {E1 : End} {q : vw_C} (hC : Ct sd y bytes maxL rt d1 E1 (.ref c0 :: As) σ) (hw : CWu own index y bytes maxL rt n) (hsh : sd.1[c0]? = some (ci, n0, fs)) (hci : ci < 20) (hq : vwCl[ci]? = some q) (hd : d1 < d) (hn : As.length = n) (hst : (stk.map fun v => v.category).sum ≤ 8) (hs : stk0 = As.reverse ++ .ref c0 :: stk) (hdg : decode cc pc = .ok (.invokespecial index, 3)) : Callee sd own cc nL ret d pc L stk0 stk σ E1 := by
  intro p l e s m args below meth c ad D cA A H locs ls C hP hD hS hl
  have hts := C.2.2.2.2.2.1
  have hK := C.2.2.2.2.2.2.2.2
  obtain ⟨⟨w1, w2, w3, w4⟩, w5, w6, w7, w8, w9⟩ := hw
  refine ⟨_, va_runSU (As := As.map (av ad)) (rest := stk.map (av ad)) (C := q.1) (hK.1 ci q hq).2 ⟨C.1, C.2.1, C.2.2.2.1, C.2.2.2.2.1, hts⟩ (hC l ad D cA H.size) (va_cwSU n hts (good_cons w6 (good_cons w7 (good_cons w8 (good_cons w9 (good_cons w2 (good_cons w1 wsL_good)))))) rfl rfl rfl ⟨w5, w3.2.2⟩ ⟨hd, ?_⟩) ⟨preB_blind, wd_recv hK hP hsh hci hq, fun U hU hW => ⟨rfl, by rw [hU], by rw [hU]; exact hP, va_K.moved hW.alike hK, hD.weaken (fun _ _ _ _ => trivial)⟩⟩ rfl (by rw [List.length_map]; exact hn) hl.1 (map_rev hs) (lv_room (stk_sum hst)) hdg ⟨Nat.zero_le _, Nat.zero_le _⟩⟩
  show 8 + (maxL + 11) + 40 * d1 ≤ 40 * d
  omega
theorem ce_O {index c0 ci n0 n d1 maxL : Nat} {fs : List Nat} {x y : MethodName} {bytes : ByteArray} {rt : Option FieldType} {As : List Value} {E1 : End} {q : vw_C} (hC : Ct sd y bytes maxL rt d1 E1 (.ref c0 :: As) σ) (hw : CWo own index q.1 x y bytes maxL rt n) (hsh : sd.1[c0]? = some (ci, n0, fs)) (hci : ci < 20) (hq : vwCl[ci]? = some q) (hd : d1 < d) (hn : As.length = n) (hst : (stk.map fun v => v.category).sum ≤ 8) (hs : stk0 = As.reverse ++ .ref c0 :: stk) (hdg : decode cc pc = .ok (.invokevirtual index, 3)) : Callee sd own cc nL ret d pc L stk0 stk σ E1 := by
  intro p l e s m args below meth c ad D cA A H locs ls C hP hD hS hl
  have hts := C.2.2.2.2.2.1
  have hK := C.2.2.2.2.2.2.2.2
  obtain ⟨⟨w1, w2, w3, w4⟩, w5, w6, w7, w8, w9, w10, b0, m0, r0, w11⟩ := hw
  refine ⟨_, va_runU (As := As.map (av ad)) (rest := stk.map (av ad)) (C := q.1) ⟨C.1, C.2.1, C.2.2.2.1, C.2.2.2.2.1, hts⟩ (hC l ad D cA H.size) (va_cwO (owner := x.cls) n hts (good_cons w6 (good_cons w7 (good_cons w8 (good_cons w9 (good_cons w10 (good_cons w2 (good_cons w1 wsL_good))))))) rfl rfl rfl w11 w5 ⟨hd, ?_⟩) ⟨preB_blind, wd_recv hK hP hsh hci hq, fun U hU hW => ⟨rfl, by rw [hU], by rw [hU]; exact hP, va_K.moved hW.alike hK, hD.weaken (fun _ _ _ _ => trivial)⟩⟩ rfl (by rw [List.length_map]; exact hn) hl.1 (map_rev hs) (lv_room (stk_sum hst)) hdg ⟨Nat.zero_le _, Nat.zero_le _⟩⟩
  show 8 + (maxL + 11) + 40 * d1 ≤ 40 * d
  omega
end EV4
theorem tab_out {x : Int32} (n : Nat) (hn : n < 2147483647) (h : ∀ k : Nat, k ≤ n → x ≠ Int32.ofNat k) : x.toInt < 0 ∨ (n : Int) < x.toInt := by
  by_cases h0 : x.toInt < 0
  · exact Or.inl h0
  · right
    have h1 : (n : Int) < x.toInt ∨ x.toInt ≤ n := by omega
    rcases h1 with h1 | h1
    · exact h1
    · exfalso
      refine h x.toInt.toNat (by omega) ?_
      apply Int32.toInt_inj.mp
      have : (Int32.ofNat x.toInt.toNat).toInt = ((x.toInt.toNat : Nat) : Int) := nI_toInt (n := x.toInt.toNat) (by omega)
      rw [this]
      omega
end
