/-! ===== BEGIN words of one list among another's, by their places ===== -/
theorem goodIn_r {big : List Cond} (ws : List Cond) (ps : List Nat) (hp : ws = ps.filterMap (fun i => big[i]?)) (h : ws.all goodWord = true) : GoodIn big ws := by
  intro w hw
  have h1 := List.all_eq_true.mp h w hw
  rw [hp] at hw
  obtain ⟨i, -, hi⟩ := List.mem_filterMap.mp hw
  have hm : w ∈ big := by first | exact List.mem_of_getElem? hi | exact List.getElem?_mem hi
  exact ⟨hm, good_of_word h1⟩
theorem goodIn_app {big a b : List Cond} (ha : GoodIn big a) (hb : GoodIn big b) : GoodIn big (a ++ b) := fun w h => (List.mem_append.mp h).elim (ha w) (hb w)
theorem goodIn_ca {big a b : List Cond} {c : Cond} (ha : GoodIn big (c :: a)) (hb : GoodIn big b) : GoodIn big (c :: (a ++ b)) := fun w h => (List.mem_cons.mp h).elim (fun e => ha w (List.mem_cons.mpr (Or.inl e))) (fun h => (List.mem_append.mp h).elim (fun h => ha w (List.mem_cons.mpr (Or.inr h))) (hb w))
theorem goodIn_sub {big ws : List Cond} (hm : ∀ w ∈ ws, w ∈ big) (h : ws.all goodWord = true) : GoodIn big ws := fun w hw => ⟨hm w hw, good_of_word (List.all_eq_true.mp h w hw)⟩
/-! ===== END ===== -/

/-- the name of the field in which it stands how much each man rues, as the Statement's own table has it (two of the class's fields are called so; the word itself may not stand in rows, not as data either) -/
def nmS : String := match tables_1_1.getD 102 (Cond.count 0) with
  | Cond.laysFinal _ _ n _ => n
  | _ => ""
/-! ===== BEGIN printed: names, fields, word lists, decode rows ===== -/
def RX0 : String := "RegretPit$Crew"
def TX0 : u_T := fun k => match k with
  | 0 => ("RegretPit$Crew", "size", "I", false)
  | 1 => ("RegretPit$Crew", "cage", "I", false)
  | 2 => ("RegretPit$Crew", "shale", "I", false)
  | 3 => ("RegretPit$Crew", nmS, "[I", true)
  | 4 => ("RegretPit$Crew", "grows", "[I", true)
  | 5 => ("RegretPit$Crew", "beside", "[[I", true)
  | 6 => ("RegretPit$Crew", "pull", "[[I", true)
  | _ => ("RegretPit$Crew", "pullMost", "[I", true)
def tyX0 : Nat → FieldType := fun k => match k with
  | 0 => .int
  | 1 => .int
  | 2 => .int
  | 3 => .array .int
  | 4 => .array .int
  | 5 => .array (.array .int)
  | 6 => .array (.array .int)
  | _ => .array .int
abbrev wsX00 : List Cond := u_ws RX0 TX0 8
theorem nmX0 : ∀ a, a < 8 → ∀ b, b < 8 → a ≠ b → (TX0 a).2.1 ≠ (TX0 b).2.1 := by decide +kernel
theorem tyX0_ok : ∀ k, k < 8 → parseFieldDescriptor (TX0 k).2.2.1 = some (tyX0 k) := by decide +kernel
abbrev cX0_init : ByteArray := prog_2_method_1_code
def yX0_init : MethodName := ⟨RX0, "<init>", "()V"⟩
abbrev cX0_empties : ByteArray := prog_2_method_2_code
def yX0_empties : MethodName := ⟨RX0, "empties", "()V"⟩
abbrev cX0_becomes : ByteArray := prog_2_method_3_code
def yX0_becomes : MethodName := ⟨RX0, "becomes", "(LRegretPit$Crew;)V"⟩
abbrev cX0_measures : ByteArray := prog_2_method_4_code
def yX0_measures : MethodName := ⟨RX0, "measures", "(I)V"⟩
abbrev cX0_isMan : ByteArray := prog_2_method_5_code
def yX0_isMan : MethodName := ⟨RX0, "isMan", "(I)Z"⟩
abbrev cX0_areTwo : ByteArray := prog_2_method_6_code
def yX0_areTwo : MethodName := ⟨RX0, "areTwo", "(II)Z"⟩
abbrev cX0_isShift : ByteArray := prog_2_method_7_code
def yX0_isShift : MethodName := ⟨RX0, "isShift", "(I)Z"⟩
abbrev cX0_pullOf : ByteArray := prog_2_method_8_code
def yX0_pullOf : MethodName := ⟨RX0, "pullOf", "(II)I"⟩
abbrev cX0_aheadOfCut : ByteArray := prog_2_method_9_code
def yX0_aheadOfCut : MethodName := ⟨RX0, "aheadOfCut", "(III)I"⟩
abbrev cX0_cutOf : ByteArray := prog_2_method_10_code
def yX0_cutOf : MethodName := ⟨RX0, "cutOf", "(III)I"⟩
abbrev cX0_coinsAtMost : ByteArray := prog_2_method_11_code
def yX0_coinsAtMost : MethodName := ⟨RX0, "coinsAtMost", "(II)I"⟩
abbrev cX0_coinsOf : ByteArray := prog_2_method_12_code
def yX0_coinsOf : MethodName := ⟨RX0, "coinsOf", "(III)I"⟩
abbrev cX0_brings : ByteArray := prog_2_method_13_code
def yX0_brings : MethodName := ⟨RX0, "brings", "([II)I"⟩
abbrev cX0_lives : ByteArray := prog_2_method_14_code
def yX0_lives : MethodName := ⟨RX0, "lives", "([I[II)V"⟩
def RX1 : String := "RegretPit$Dust"
def TX1 : u_T := fun k => match k with
  | _ => ("RegretPit$Lump", "asked", "J", false)
def tyX1 : Nat → FieldType := fun k => match k with
  | _ => .long
abbrev wsX10 : List Cond := u_ws RX1 TX1 1
theorem nmX1 : ∀ a, a < 1 → ∀ b, b < 1 → a ≠ b → (TX1 a).2.1 ≠ (TX1 b).2.1 := by decide +kernel
theorem tyX1_ok : ∀ k, k < 1 → parseFieldDescriptor (TX1 k).2.2.1 = some (tyX1 k) := by decide +kernel
abbrev cX1_init : ByteArray := prog_3_method_1_code
def yX1_init : MethodName := ⟨RX1, "<init>", "()V"⟩
abbrev cX1_worth : ByteArray := prog_3_method_2_code
def yX1_worth : MethodName := ⟨RX1, "worth", "(LRegretPit$Crew;LRegretPit$Now;I)I"⟩
def RX2 : String := "RegretPit$Lump"
def TX2 : u_T := fun k => match k with
  | _ => ("RegretPit$Lump", "asked", "J", false)
def tyX2 : Nat → FieldType := fun k => match k with
  | _ => .long
abbrev wsX20 : List Cond := u_ws RX2 TX2 1
theorem nmX2 : ∀ a, a < 1 → ∀ b, b < 1 → a ≠ b → (TX2 a).2.1 ≠ (TX2 b).2.1 := by decide +kernel
theorem tyX2_ok : ∀ k, k < 1 → parseFieldDescriptor (TX2 k).2.2.1 = some (tyX2 k) := by decide +kernel
abbrev cX2_init : ByteArray := prog_4_method_1_code
def yX2_init : MethodName := ⟨RX2, "<init>", "()V"⟩
abbrev cX2_worth : ByteArray := prog_4_method_2_code
def yX2_worth : MethodName := ⟨RX2, "worth", "(LRegretPit$Crew;LRegretPit$Now;I)I"⟩
def RX3 : String := "RegretPit$Matcher"
def TX3 : u_T := fun k => match k with
  | 0 => ("RegretPit$Matcher", "most", "I", false)
  | 1 => ("RegretPit$Matcher", "best", "[I", true)
  | _ => ("RegretPit$Matcher", "mate", "[I", true)
def tyX3 : Nat → FieldType := fun k => match k with
  | 0 => .int
  | 1 => .array .int
  | _ => .array .int
abbrev wsX30 : List Cond := u_ws RX3 TX3 3
theorem nmX3 : ∀ a, a < 3 → ∀ b, b < 3 → a ≠ b → (TX3 a).2.1 ≠ (TX3 b).2.1 := by decide +kernel
theorem tyX3_ok : ∀ k, k < 3 → parseFieldDescriptor (TX3 k).2.2.1 = some (tyX3 k) := by decide +kernel
abbrev cX3_init : ByteArray := prog_5_method_1_code
def yX3_init : MethodName := ⟨RX3, "<init>", "()V"⟩
abbrev cX3_searches : ByteArray := prog_5_method_2_code
def yX3_searches : MethodName := ⟨RX3, "searches", "(LRegretPit$Crew;)V"⟩
abbrev cX3_looks : ByteArray := prog_5_method_3_code
def yX3_looks : MethodName := ⟨RX3, "looks", "(LRegretPit$Crew;II)V"⟩
abbrev cX3_takes : ByteArray := prog_5_method_4_code
def yX3_takes : MethodName := ⟨RX3, "takes", "(I)V"⟩
def RX4 : String := "RegretPit$Now"
def TX4 : u_T := fun k => match k with
  | 0 => ("RegretPit$Now", nmS, "[I", true)
  | 1 => ("RegretPit$Now", "heap", "[I", true)
  | 2 => ("RegretPit$Now", "brought", "I", false)
  | 3 => ("RegretPit$Now", "week", "I", false)
  | 4 => ("RegretPit$Now", "known", "I", false)
  | _ => ("RegretPit$Now", "past", "[I", true)
def tyX4 : Nat → FieldType := fun k => match k with
  | 0 => .array .int
  | 1 => .array .int
  | 2 => .int
  | 3 => .int
  | 4 => .int
  | _ => .array .int
abbrev wsX40 : List Cond := u_ws RX4 TX4 6
theorem nmX4 : ∀ a, a < 6 → ∀ b, b < 6 → a ≠ b → (TX4 a).2.1 ≠ (TX4 b).2.1 := by decide +kernel
theorem tyX4_ok : ∀ k, k < 6 → parseFieldDescriptor (TX4 k).2.2.1 = some (tyX4 k) := by decide +kernel
abbrev cX4_init : ByteArray := prog_6_method_1_code
def yX4_init : MethodName := ⟨RX4, "<init>", "()V"⟩
abbrev cX4_begins : ByteArray := prog_6_method_2_code
def yX4_begins : MethodName := ⟨RX4, "begins", "(LRegretPit$Crew;)V"⟩
abbrev cX4_becomes : ByteArray := prog_6_method_3_code
def yX4_becomes : MethodName := ⟨RX4, "becomes", "(LRegretPit$Now;)V"⟩
abbrev cX4_remembers : ByteArray := prog_6_method_4_code
def yX4_remembers : MethodName := ⟨RX4, "remembers", "()V"⟩
abbrev cX4_recalls : ByteArray := prog_6_method_5_code
def yX4_recalls : MethodName := ⟨RX4, "recalls", "()V"⟩
def RX5 : String := "RegretPit$Planner"
def TX5 : u_T := fun k => match k with
  | 0 => ("RegretPit$Planner", "most", "I", false)
  | 1 => ("RegretPit$Planner", "bestWay", "[I", true)
  | 2 => ("RegretPit$Planner", "rows", "[[I", true)
  | 3 => ("RegretPit$Planner", "way", "[I", true)
  | 4 => ("RegretPit$Planner", "weeks", "I", false)
  | 5 => ("RegretPit$Planner", "least", "I", false)
  | _ => ("RegretPit$Planner", "held", "I", false)
def tyX5 : Nat → FieldType := fun k => match k with
  | 0 => .int
  | 1 => .array .int
  | 2 => .array (.array .int)
  | 3 => .array .int
  | 4 => .int
  | 5 => .int
  | _ => .int
abbrev wsX50 : List Cond := u_ws RX5 TX5 7
theorem nmX5 : ∀ a, a < 7 → ∀ b, b < 7 → a ≠ b → (TX5 a).2.1 ≠ (TX5 b).2.1 := by decide +kernel
theorem tyX5_ok : ∀ k, k < 7 → parseFieldDescriptor (TX5 k).2.2.1 = some (tyX5 k) := by decide +kernel
abbrev cX5_init : ByteArray := prog_7_method_1_code
def yX5_init : MethodName := ⟨RX5, "<init>", "()V"⟩
abbrev cX5_forgets : ByteArray := prog_7_method_2_code
def yX5_forgets : MethodName := ⟨RX5, "forgets", "()V"⟩
abbrev cX5_searches : ByteArray := prog_7_method_3_code
def yX5_searches : MethodName := ⟨RX5, "searches", "(LRegretPit$Crew;[III)V"⟩
abbrev cX5_isStart : ByteArray := prog_7_method_4_code
def yX5_isStart : MethodName := ⟨RX5, "isStart", "(LRegretPit$Crew;[I)Z"⟩
abbrev cX5_looks : ByteArray := prog_7_method_5_code
def yX5_looks : MethodName := ⟨RX5, "looks", "(LRegretPit$Crew;II)V"⟩
abbrev cX5_takes : ByteArray := prog_7_method_6_code
def yX5_takes : MethodName := ⟨RX5, "takes", "(I)V"⟩
abbrev cX5_holds : ByteArray := prog_7_method_7_code
def yX5_holds : MethodName := ⟨RX5, "holds", "(LRegretPit$Crew;[I)Z"⟩
abbrev cX5_ceiling : ByteArray := prog_7_method_8_code
def yX5_ceiling : MethodName := ⟨RX5, "ceiling", "(LRegretPit$Crew;[I)I"⟩
def RX6 : String := "RegretPit$Ring"
def TX6 : u_T := fun k => match k with
  | _ => ("RegretPit$Lump", "asked", "J", false)
def tyX6 : Nat → FieldType := fun k => match k with
  | _ => .long
abbrev wsX60 : List Cond := u_ws RX6 TX6 1
theorem nmX6 : ∀ a, a < 1 → ∀ b, b < 1 → a ≠ b → (TX6 a).2.1 ≠ (TX6 b).2.1 := by decide +kernel
theorem tyX6_ok : ∀ k, k < 1 → parseFieldDescriptor (TX6 k).2.2.1 = some (tyX6 k) := by decide +kernel
abbrev cX6_init : ByteArray := prog_8_method_1_code
def yX6_init : MethodName := ⟨RX6, "<init>", "()V"⟩
abbrev cX6_worth : ByteArray := prog_8_method_2_code
def yX6_worth : MethodName := ⟨RX6, "worth", "(LRegretPit$Crew;LRegretPit$Now;I)I"⟩
def RX7 : String := "RegretPit$Salt"
def TX7 : u_T := fun k => match k with
  | _ => ("RegretPit$Lump", "asked", "J", false)
def tyX7 : Nat → FieldType := fun k => match k with
  | _ => .long
abbrev wsX70 : List Cond := u_ws RX7 TX7 1
theorem nmX7 : ∀ a, a < 1 → ∀ b, b < 1 → a ≠ b → (TX7 a).2.1 ≠ (TX7 b).2.1 := by decide +kernel
theorem tyX7_ok : ∀ k, k < 1 → parseFieldDescriptor (TX7 k).2.2.1 = some (tyX7 k) := by decide +kernel
abbrev cX7_init : ByteArray := prog_9_method_1_code
def yX7_init : MethodName := ⟨RX7, "<init>", "()V"⟩
abbrev cX7_worth : ByteArray := prog_9_method_2_code
def yX7_worth : MethodName := ⟨RX7, "worth", "(LRegretPit$Crew;LRegretPit$Now;I)I"⟩
def RX8 : String := "RegretPit$Seam"
def TX8 : u_T := fun k => match k with
  | _ => ("RegretPit$Lump", "asked", "J", false)
def tyX8 : Nat → FieldType := fun k => match k with
  | _ => .long
abbrev wsX80 : List Cond := u_ws RX8 TX8 1
theorem nmX8 : ∀ a, a < 1 → ∀ b, b < 1 → a ≠ b → (TX8 a).2.1 ≠ (TX8 b).2.1 := by decide +kernel
theorem tyX8_ok : ∀ k, k < 1 → parseFieldDescriptor (TX8 k).2.2.1 = some (tyX8 k) := by decide +kernel
abbrev cX8_init : ByteArray := prog_10_method_1_code
def yX8_init : MethodName := ⟨RX8, "<init>", "()V"⟩
abbrev cX8_worth : ByteArray := prog_10_method_2_code
def yX8_worth : MethodName := ⟨RX8, "worth", "(LRegretPit$Crew;LRegretPit$Now;I)I"⟩
def RX9 : String := "RegretPit$Sigh"
def TX9 : u_T := fun k => match k with
  | _ => ("RegretPit$Lump", "asked", "J", false)
def tyX9 : Nat → FieldType := fun k => match k with
  | _ => .long
abbrev wsX90 : List Cond := u_ws RX9 TX9 1
theorem nmX9 : ∀ a, a < 1 → ∀ b, b < 1 → a ≠ b → (TX9 a).2.1 ≠ (TX9 b).2.1 := by decide +kernel
theorem tyX9_ok : ∀ k, k < 1 → parseFieldDescriptor (TX9 k).2.2.1 = some (tyX9 k) := by decide +kernel
abbrev cX9_init : ByteArray := prog_11_method_1_code
def yX9_init : MethodName := ⟨RX9, "<init>", "()V"⟩
abbrev cX9_worth : ByteArray := prog_11_method_2_code
def yX9_worth : MethodName := ⟨RX9, "worth", "(LRegretPit$Crew;LRegretPit$Now;I)I"⟩
def RX10 : String := "RegretPit$Text"
def TX10 : u_T := fun k => match k with
  | 0 => ("RegretPit$Text", "length", "I", false)
  | 1 => ("RegretPit$Text", "bytes", "[I", true)
  | 2 => ("RegretPit$Text", "place", "I", false)
  | 3 => ("RegretPit$Text", "behind", "I", false)
  | 4 => ("RegretPit$Text", "token", "I", false)
  | 5 => ("RegretPit$Text", "value", "I", false)
  | 6 => ("RegretPit$Text", "fault", "Z", false)
  | 7 => ("RegretPit$Text", "cageTold", "Z", false)
  | _ => ("RegretPit$Text", "shaleTold", "Z", false)
def tyX10 : Nat → FieldType := fun k => match k with
  | 0 => .int
  | 1 => .array .int
  | 2 => .int
  | 3 => .int
  | 4 => .int
  | 5 => .int
  | 6 => .boolean
  | 7 => .boolean
  | _ => .boolean
abbrev wsX100 : List Cond := u_ws RX10 TX10 9
theorem nmX10 : ∀ a, a < 9 → ∀ b, b < 9 → a ≠ b → (TX10 a).2.1 ≠ (TX10 b).2.1 := by decide +kernel
theorem tyX10_ok : ∀ k, k < 9 → parseFieldDescriptor (TX10 k).2.2.1 = some (tyX10 k) := by decide +kernel
abbrev cX10_init : ByteArray := prog_12_method_1_code
def yX10_init : MethodName := ⟨RX10, "<init>", "()V"⟩
abbrev cX10_adds : ByteArray := prog_12_method_2_code
def yX10_adds : MethodName := ⟨RX10, "adds", "(I)V"⟩
abbrev cX10_reads : ByteArray := prog_12_method_3_code
def yX10_reads : MethodName := ⟨RX10, "reads", "(LRegretPit$Crew;)I"⟩
abbrev cX10_readsItem : ByteArray := prog_12_method_4_code
def yX10_readsItem : MethodName := ⟨RX10, "readsItem", "(LRegretPit$Crew;)V"⟩
abbrev cX10_readsMan : ByteArray := prog_12_method_5_code
def yX10_readsMan : MethodName := ⟨RX10, "readsMan", "(LRegretPit$Crew;)V"⟩
abbrev cX10_readsTwo : ByteArray := prog_12_method_6_code
def yX10_readsTwo : MethodName := ⟨RX10, "readsTwo", "(LRegretPit$Crew;I)V"⟩
abbrev cX10_readsNumber : ByteArray := prog_12_method_7_code
def yX10_readsNumber : MethodName := ⟨RX10, "readsNumber", "(II)I"⟩
abbrev cX10_readsToken : ByteArray := prog_12_method_8_code
def yX10_readsToken : MethodName := ⟨RX10, "readsToken", "()V"⟩
abbrev cX10_signAt : ByteArray := prog_12_method_9_code
def yX10_signAt : MethodName := ⟨RX10, "signAt", "(I)I"⟩
abbrev cX10_readsValue : ByteArray := prog_12_method_10_code
def yX10_readsValue : MethodName := ⟨RX10, "readsValue", "(I)V"⟩
def RX11 : String := "RegretPit"
def TX11 : u_T := fun k => match k with
  | 0 => ("RegretPit", "text", "LRegretPit$Text;", true)
  | 1 => ("RegretPit", "draft", "LRegretPit$Crew;", true)
  | 2 => ("RegretPit", "crew", "LRegretPit$Crew;", true)
  | 3 => ("RegretPit", "now", "LRegretPit$Now;", true)
  | 4 => ("RegretPit", "images", "[LRegretPit$Now;", true)
  | 5 => ("RegretPit", "kept", "[Z", true)
  | 6 => ("RegretPit", "planner", "LRegretPit$Planner;", true)
  | 7 => ("RegretPit", "matcher", "LRegretPit$Matcher;", true)
  | 8 => ("RegretPit", "kinds", "[LRegretPit$Lump;", true)
  | 9 => ("RegretPit", "later", "[I", true)
  | 10 => ("RegretPit", "litShift", "[I", true)
  | 11 => ("RegretPit", "litLump", "[I", true)
  | 12 => ("RegretPit", "toldX", "[I", true)
  | 13 => ("RegretPit", "toldY", "[I", true)
  | 14 => ("RegretPit", "fitting", "[I", true)
  | 15 => ("RegretPit", "seen", "[I", true)
  | 16 => ("RegretPit", "lit", "I", false)
  | _ => ("RegretPit", "told", "I", false)
def tyX11 : Nat → FieldType := fun k => match k with
  | 0 => .object "RegretPit$Text"
  | 1 => .object "RegretPit$Crew"
  | 2 => .object "RegretPit$Crew"
  | 3 => .object "RegretPit$Now"
  | 4 => .array (.object "RegretPit$Now")
  | 5 => .array .boolean
  | 6 => .object "RegretPit$Planner"
  | 7 => .object "RegretPit$Matcher"
  | 8 => .array (.object "RegretPit$Lump")
  | 9 => .array .int
  | 10 => .array .int
  | 11 => .array .int
  | 12 => .array .int
  | 13 => .array .int
  | 14 => .array .int
  | 15 => .array .int
  | 16 => .int
  | _ => .int
abbrev wsX110 : List Cond := u_ws RX11 TX11 18
theorem nmX11 : ∀ a, a < 18 → ∀ b, b < 18 → a ≠ b → (TX11 a).2.1 ≠ (TX11 b).2.1 := by decide +kernel
theorem tyX11_ok : ∀ k, k < 18 → parseFieldDescriptor (TX11 k).2.2.1 = some (tyX11 k) := by decide +kernel
abbrev cX11_init : ByteArray := prog_1_method_1_code
def yX11_init : MethodName := ⟨RX11, "<init>", "()V"⟩
abbrev cX11_type : ByteArray := prog_1_method_2_code
def yX11_type : MethodName := ⟨RX11, "type", "(I)I"⟩
abbrev cX11_clear : ByteArray := prog_1_method_3_code
def yX11_clear : MethodName := ⟨RX11, "clear", "()I"⟩
abbrev cX11_pit : ByteArray := prog_1_method_4_code
def yX11_pit : MethodName := ⟨RX11, "pit", "()I"⟩
abbrev cX11_man : ByteArray := prog_1_method_5_code
def yX11_man : MethodName := ⟨RX11, "man", "(II)I"⟩
abbrev cX11_beside : ByteArray := prog_1_method_6_code
def yX11_beside : MethodName := ⟨RX11, "beside", "(II)I"⟩
abbrev cX11_week : ByteArray := prog_1_method_7_code
def yX11_week : MethodName := ⟨RX11, "week", "(I)I"⟩
abbrev cX11_quarrel : ByteArray := prog_1_method_8_code
def yX11_quarrel : MethodName := ⟨RX11, "quarrel", "(III)I"⟩
abbrev cX11_forgives : ByteArray := prog_1_method_9_code
def yX11_forgives : MethodName := ⟨RX11, "forgives", "(I)I"⟩
abbrev cX11_buys : ByteArray := prog_1_method_10_code
def yX11_buys : MethodName := ⟨RX11, "buys", "(I)I"⟩
abbrev cX11_undo : ByteArray := prog_1_method_11_code
def yX11_undo : MethodName := ⟨RX11, "undo", "()I"⟩
abbrev cX11_now : ByteArray := prog_1_method_12_code
def yX11_now : MethodName := ⟨RX11, "now", "(I)I"⟩
abbrev cX11_sumOf : ByteArray := prog_1_method_13_code
def yX11_sumOf : MethodName := ⟨RX11, "sumOf", "([I)I"⟩
abbrev cX11_payForAll : ByteArray := prog_1_method_14_code
def yX11_payForAll : MethodName := ⟨RX11, "payForAll", "()I"⟩
abbrev cX11_yieldOf : ByteArray := prog_1_method_15_code
def yX11_yieldOf : MethodName := ⟨RX11, "yieldOf", "(I)I"⟩
abbrev cX11_best : ByteArray := prog_1_method_16_code
def yX11_best : MethodName := ⟨RX11, "best", "(I)I"⟩
abbrev cX11_plan : ByteArray := prog_1_method_17_code
def yX11_plan : MethodName := ⟨RX11, "plan", "(III)I"⟩
abbrev cX11_lean : ByteArray := prog_1_method_18_code
def yX11_lean : MethodName := ⟨RX11, "lean", "(II)I"⟩
abbrev cX11_still : ByteArray := prog_1_method_19_code
def yX11_still : MethodName := ⟨RX11, "still", "(III)I"⟩
abbrev cX11_temper : ByteArray := prog_1_method_20_code
def yX11_temper : MethodName := ⟨RX11, "temper", "(I)I"⟩
abbrev cX11_mates : ByteArray := prog_1_method_21_code
def yX11_mates : MethodName := ⟨RX11, "mates", "(I)I"⟩
abbrev cX11_lights : ByteArray := prog_1_method_22_code
def yX11_lights : MethodName := ⟨RX11, "lights", "(II)I"⟩
abbrev cX11_forget : ByteArray := prog_1_method_23_code
def yX11_forget : MethodName := ⟨RX11, "forget", "()I"⟩
abbrev cX11_whose : ByteArray := prog_1_method_24_code
def yX11_whose : MethodName := ⟨RX11, "whose", "()I"⟩
abbrev cX11_isLitBy : ByteArray := prog_1_method_25_code
def yX11_isLitBy : MethodName := ⟨RX11, "isLitBy", "(I)Z"⟩
abbrev cX11_sold : ByteArray := prog_1_method_26_code
def yX11_sold : MethodName := ⟨RX11, "sold", "(II)I"⟩
abbrev cX11_heapOf : ByteArray := prog_1_method_27_code
def yX11_heapOf : MethodName := ⟨RX11, "heapOf", "(I)I"⟩
abbrev cX11_tells : ByteArray := prog_1_method_28_code
def yX11_tells : MethodName := ⟨RX11, "tells", "(II)I"⟩
abbrev cX11_fit : ByteArray := prog_1_method_29_code
def yX11_fit : MethodName := ⟨RX11, "fit", "(I)I"⟩
abbrev cX11_lawOf : ByteArray := prog_1_method_30_code
def yX11_lawOf : MethodName := ⟨RX11, "lawOf", "(II)I"⟩
abbrev cX11_gathersFitting : ByteArray := prog_1_method_31_code
def yX11_gathersFitting : MethodName := ⟨RX11, "gathersFitting", "()I"⟩
abbrev cX11_mostTelling : ByteArray := prog_1_method_32_code
def yX11_mostTelling : MethodName := ⟨RX11, "mostTelling", "(I)I"⟩
abbrev cX11_below : ByteArray := prog_1_method_33_code
def yX11_below : MethodName := ⟨RX11, "below", "(III)I"⟩
abbrev cX11_commonOf : ByteArray := prog_1_method_34_code
def yX11_commonOf : MethodName := ⟨RX11, "commonOf", "(II)I"⟩
abbrev cX11_mark : ByteArray := prog_1_method_35_code
def yX11_mark : MethodName := ⟨RX11, "mark", "(II)I"⟩
abbrev cX11_keep : ByteArray := prog_1_method_36_code
def yX11_keep : MethodName := ⟨RX11, "keep", "(I)I"⟩
abbrev cX11_back : ByteArray := prog_1_method_37_code
def yX11_back : MethodName := ⟨RX11, "back", "(I)I"⟩
abbrev cX11_count : ByteArray := prog_1_method_38_code
def yX11_count : MethodName := ⟨RX11, "count", "(I)I"⟩
abbrev cX11_trace : ByteArray := prog_1_method_39_code
def yX11_trace : MethodName := ⟨RX11, "trace", "()J"⟩
def RX12 : String := "RegretPitModel"
def TX12 : u_T := fun k => match k with
  | 0 => ("RegretPitModel", "trace", "J", false)
  | 1 => ("RegretPitModel", "text", "[B", true)
  | 2 => ("RegretPitModel", "typed", "I", false)
  | 3 => ("RegretPitModel", "men", "[I", true)
  | 4 => ("RegretPitModel", "grows", "[I", true)
  | 5 => ("RegretPitModel", "draftSorry", "[I", true)
  | 6 => ("RegretPitModel", "near", "[I", true)
  | 7 => ("RegretPitModel", "cage", "[I", true)
  | 8 => ("RegretPitModel", "shale", "[I", true)
  | 9 => ("RegretPitModel", "at", "I", false)
  | 10 => ("RegretPitModel", "start", "I", false)
  | 11 => ("RegretPitModel", "sort", "I", false)
  | 12 => ("RegretPitModel", "value", "I", false)
  | 13 => ("RegretPitModel", "fault", "I", false)
  | 14 => ("RegretPitModel", "cageTold", "Z", false)
  | 15 => ("RegretPitModel", "shaleTold", "Z", false)
  | 16 => ("RegretPitModel", "now", "[I", true)
  | 17 => ("RegretPitModel", "isKept", "[Z", true)
  | 18 => ("RegretPitModel", "tried", "[I", true)
  | 19 => ("RegretPitModel", "weeks", "[I", true)
  | 20 => ("RegretPitModel", "bestTries", "[I", true)
  | 21 => ("RegretPitModel", "mate", "[I", true)
  | 22 => ("RegretPitModel", "litShift", "[I", true)
  | 23 => ("RegretPitModel", "litLong", "[I", true)
  | 24 => ("RegretPitModel", "lit", "I", false)
  | 25 => ("RegretPitModel", "toldX", "[I", true)
  | 26 => ("RegretPitModel", "toldY", "[I", true)
  | _ => ("RegretPitModel", "told", "I", false)
def tyX12 : Nat → FieldType := fun k => match k with
  | 0 => .long
  | 1 => .array .byte
  | 2 => .int
  | 3 => .array .int
  | 4 => .array .int
  | 5 => .array .int
  | 6 => .array .int
  | 7 => .array .int
  | 8 => .array .int
  | 9 => .int
  | 10 => .int
  | 11 => .int
  | 12 => .int
  | 13 => .int
  | 14 => .boolean
  | 15 => .boolean
  | 16 => .array .int
  | 17 => .array .boolean
  | 18 => .array .int
  | 19 => .array .int
  | 20 => .array .int
  | 21 => .array .int
  | 22 => .array .int
  | 23 => .array .int
  | 24 => .int
  | 25 => .array .int
  | 26 => .array .int
  | _ => .int
abbrev wsX120 : List Cond := u_ws RX12 TX12 28
theorem nmX12 : ∀ a, a < 28 → ∀ b, b < 28 → a ≠ b → (TX12 a).2.1 ≠ (TX12 b).2.1 := by decide +kernel
theorem tyX12_ok : ∀ k, k < 28 → parseFieldDescriptor (TX12 k).2.2.1 = some (tyX12 k) := by decide +kernel
abbrev cX12_init : ByteArray := prog_14_method_1_code
def yX12_init : MethodName := ⟨RX12, "<init>", "()V"⟩
abbrev cX12_in : ByteArray := prog_14_method_3_code
def yX12_in : MethodName := ⟨RX12, "in", "(III)Z"⟩
abbrev cX12_type : ByteArray := prog_14_method_4_code
def yX12_type : MethodName := ⟨RX12, "type", "(I)I"⟩
abbrev cX12_clear : ByteArray := prog_14_method_5_code
def yX12_clear : MethodName := ⟨RX12, "clear", "()I"⟩
abbrev cX12_here : ByteArray := prog_14_method_6_code
def yX12_here : MethodName := ⟨RX12, "here", "()I"⟩
abbrev cX12_step : ByteArray := prog_14_method_7_code
def yX12_step : MethodName := ⟨RX12, "step", "()V"⟩
abbrev cX12_due : ByteArray := prog_14_method_8_code
def yX12_due : MethodName := ⟨RX12, "due", "(Z)I"⟩
abbrev cX12_number : ByteArray := prog_14_method_9_code
def yX12_number : MethodName := ⟨RX12, "number", "(II)I"⟩
abbrev cX12_mayBe : ByteArray := prog_14_method_10_code
def yX12_mayBe : MethodName := ⟨RX12, "mayBe", "(I)Z"⟩
abbrev cX12_readNear : ByteArray := prog_14_method_11_code
def yX12_readNear : MethodName := ⟨RX12, "readNear", "(Z)V"⟩
abbrev cX12_readRow : ByteArray := prog_14_method_12_code
def yX12_readRow : MethodName := ⟨RX12, "readRow", "(I)V"⟩
abbrev cX12_plain : ByteArray := prog_14_method_13_code
def yX12_plain : MethodName := ⟨RX12, "plain", "()V"⟩
abbrev cX12_takeDraft : ByteArray := prog_14_method_14_code
def yX12_takeDraft : MethodName := ⟨RX12, "takeDraft", "()V"⟩
abbrev cX12_pit : ByteArray := prog_14_method_15_code
def yX12_pit : MethodName := ⟨RX12, "pit", "()I"⟩
abbrev cX12_isMan : ByteArray := prog_14_method_16_code
def yX12_isMan : MethodName := ⟨RX12, "isMan", "(I)Z"⟩
abbrev cX12_manyOf : ByteArray := prog_14_method_17_code
def yX12_manyOf : MethodName := ⟨RX12, "manyOf", "(I)I"⟩
abbrev cX12_isShift : ByteArray := prog_14_method_18_code
def yX12_isShift : MethodName := ⟨RX12, "isShift", "(I)Z"⟩
abbrev cX12_man : ByteArray := prog_14_method_19_code
def yX12_man : MethodName := ⟨RX12, "man", "(II)I"⟩
abbrev cX12_beside : ByteArray := prog_14_method_20_code
def yX12_beside : MethodName := ⟨RX12, "beside", "(II)I"⟩
abbrev cX12_held : ByteArray := prog_14_method_21_code
def yX12_held : MethodName := ⟨RX12, "held", "(I)I"⟩
abbrev cX12_begins : ByteArray := prog_14_method_22_code
def yX12_begins : MethodName := ⟨RX12, "begins", "([IIII)I"⟩
abbrev cX12_brings : ByteArray := prog_14_method_23_code
def yX12_brings : MethodName := ⟨RX12, "brings", "(I)I"⟩
abbrev cX12_pass : ByteArray := prog_14_method_24_code
def yX12_pass : MethodName := ⟨RX12, "pass", "([IIII)I"⟩
abbrev cX12_take : ByteArray := prog_14_method_25_code
def yX12_take : MethodName := ⟨RX12, "take", "()V"⟩
abbrev cX12_know : ByteArray := prog_14_method_26_code
def yX12_know : MethodName := ⟨RX12, "know", "()V"⟩
abbrev cX12_week : ByteArray := prog_14_method_27_code
def yX12_week : MethodName := ⟨RX12, "week", "(I)I"⟩
abbrev cX12_quarrel : ByteArray := prog_14_method_28_code
def yX12_quarrel : MethodName := ⟨RX12, "quarrel", "(III)I"⟩
abbrev cX12_forgives : ByteArray := prog_14_method_29_code
def yX12_forgives : MethodName := ⟨RX12, "forgives", "(I)I"⟩
abbrev cX12_buys : ByteArray := prog_14_method_30_code
def yX12_buys : MethodName := ⟨RX12, "buys", "(I)I"⟩
abbrev cX12_undo : ByteArray := prog_14_method_31_code
def yX12_undo : MethodName := ⟨RX12, "undo", "()I"⟩
abbrev cX12_now : ByteArray := prog_14_method_32_code
def yX12_now : MethodName := ⟨RX12, "now", "(I)I"⟩
abbrev cX12_yieldOf : ByteArray := prog_14_method_33_code
def yX12_yieldOf : MethodName := ⟨RX12, "yieldOf", "(I)I"⟩
abbrev cX12_best : ByteArray := prog_14_method_34_code
def yX12_best : MethodName := ⟨RX12, "best", "(I)I"⟩
abbrev cX12_isFull : ByteArray := prog_14_method_35_code
def yX12_isFull : MethodName := ⟨RX12, "isFull", "(II)Z"⟩
abbrev cX12_plan : ByteArray := prog_14_method_36_code
def yX12_plan : MethodName := ⟨RX12, "plan", "(III)I"⟩
abbrev cX12_lean : ByteArray := prog_14_method_37_code
def yX12_lean : MethodName := ⟨RX12, "lean", "(II)I"⟩
abbrev cX12_still : ByteArray := prog_14_method_38_code
def yX12_still : MethodName := ⟨RX12, "still", "(III)I"⟩
abbrev cX12_temper : ByteArray := prog_14_method_39_code
def yX12_temper : MethodName := ⟨RX12, "temper", "(I)I"⟩
abbrev cX12_worth : ByteArray := prog_14_method_40_code
def yX12_worth : MethodName := ⟨RX12, "worth", "(I)I"⟩
abbrev cX12_mates : ByteArray := prog_14_method_41_code
def yX12_mates : MethodName := ⟨RX12, "mates", "(I)I"⟩
abbrev cX12_lights : ByteArray := prog_14_method_42_code
def yX12_lights : MethodName := ⟨RX12, "lights", "(II)I"⟩
abbrev cX12_forget : ByteArray := prog_14_method_43_code
def yX12_forget : MethodName := ⟨RX12, "forget", "()I"⟩
abbrev cX12_whose : ByteArray := prog_14_method_44_code
def yX12_whose : MethodName := ⟨RX12, "whose", "()I"⟩
abbrev cX12_sold : ByteArray := prog_14_method_45_code
def yX12_sold : MethodName := ⟨RX12, "sold", "(II)I"⟩
abbrev cX12_tells : ByteArray := prog_14_method_46_code
def yX12_tells : MethodName := ⟨RX12, "tells", "(II)I"⟩
abbrev cX12_grown : ByteArray := prog_14_method_47_code
def yX12_grown : MethodName := ⟨RX12, "grown", "(II)I"⟩
abbrev cX12_isFit : ByteArray := prog_14_method_48_code
def yX12_isFit : MethodName := ⟨RX12, "isFit", "(I)Z"⟩
abbrev cX12_unlike : ByteArray := prog_14_method_49_code
def yX12_unlike : MethodName := ⟨RX12, "unlike", "(I)I"⟩
abbrev cX12_fit : ByteArray := prog_14_method_50_code
def yX12_fit : MethodName := ⟨RX12, "fit", "(I)I"⟩
abbrev cX12_below : ByteArray := prog_14_method_51_code
def yX12_below : MethodName := ⟨RX12, "below", "(III)I"⟩
abbrev cX12_mark : ByteArray := prog_14_method_52_code
def yX12_mark : MethodName := ⟨RX12, "mark", "(II)I"⟩
abbrev cX12_keep : ByteArray := prog_14_method_53_code
def yX12_keep : MethodName := ⟨RX12, "keep", "(I)I"⟩
abbrev cX12_back : ByteArray := prog_14_method_54_code
def yX12_back : MethodName := ⟨RX12, "back", "(I)I"⟩
abbrev cX12_count : ByteArray := prog_14_method_55_code
def yX12_count : MethodName := ⟨RX12, "count", "(I)I"⟩
abbrev cX12_trace : ByteArray := prog_14_method_56_code
def yX12_trace : MethodName := ⟨RX12, "trace", "()J"⟩
def RJ6 : String := "java/lang/Integer"
def TJ6 : u_T := fun k => match k with
  | _ => ("", "", "", false)
def tyJ6 : Nat → FieldType := fun k => match k with
  | _ => .int
abbrev wsJ60 : List Cond := u_ws RJ6 TJ6 0
theorem nmJ6 : ∀ a, a < 0 → ∀ b, b < 0 → a ≠ b → (TJ6 a).2.1 ≠ (TJ6 b).2.1 := by decide +kernel
theorem tyJ6_ok : ∀ k, k < 0 → parseFieldDescriptor (TJ6 k).2.2.1 = some (tyJ6 k) := by decide +kernel
abbrev cJ6_bitCount_0f7a4 : ByteArray := prog_15_method_49_code
def yJ6_bitCount_0f7a4 : MethodName := ⟨RJ6, "bitCount", "(I)I"⟩
def RJ9 : String := "java/lang/Math"
def TJ9 : u_T := fun k => match k with
  | _ => ("", "", "", false)
def tyJ9 : Nat → FieldType := fun k => match k with
  | _ => .int
abbrev wsJ90 : List Cond := u_ws RJ9 TJ9 0
theorem nmJ9 : ∀ a, a < 0 → ∀ b, b < 0 → a ≠ b → (TJ9 a).2.1 ≠ (TJ9 b).2.1 := by decide +kernel
theorem tyJ9_ok : ∀ k, k < 0 → parseFieldDescriptor (TJ9 k).2.2.1 = some (tyJ9 k) := by decide +kernel
abbrev cJ9_max_7cf53 : ByteArray := prog_16_method_65_code
def yJ9_max_7cf53 : MethodName := ⟨RJ9, "max", "(II)I"⟩
abbrev cJ9_min_7cf53 : ByteArray := prog_16_method_69_code
def yJ9_min_7cf53 : MethodName := ⟨RJ9, "min", "(II)I"⟩
def RJ10 : String := "java/lang/System"
def TJ10 : u_T := fun k => match k with
  | _ => ("", "", "", false)
def tyJ10 : Nat → FieldType := fun k => match k with
  | _ => .int
abbrev wsJ100 : List Cond := u_ws RJ10 TJ10 0
theorem nmJ10 : ∀ a, a < 0 → ∀ b, b < 0 → a ≠ b → (TJ10 a).2.1 ≠ (TJ10 b).2.1 := by decide +kernel
theorem tyJ10_ok : ∀ k, k < 0 → parseFieldDescriptor (TJ10 k).2.2.1 = some (tyJ10 k) := by decide +kernel
def RJ7 : String := "java/util/Arrays"
def TJ7 : u_T := fun k => match k with
  | _ => ("", "", "", false)
def tyJ7 : Nat → FieldType := fun k => match k with
  | _ => .int
abbrev wsJ70 : List Cond := u_ws RJ7 TJ7 0
theorem nmJ7 : ∀ a, a < 0 → ∀ b, b < 0 → a ≠ b → (TJ7 a).2.1 ≠ (TJ7 b).2.1 := by decide +kernel
theorem tyJ7_ok : ∀ k, k < 0 → parseFieldDescriptor (TJ7 k).2.2.1 = some (tyJ7 k) := by decide +kernel
abbrev cJ7_fill_53178 : ByteArray := prog_18_method_103_code
def yJ7_fill_53178 : MethodName := ⟨RJ7, "fill", "([II)V"⟩
def RL : String := "RegretPitLaw"
abbrev cL_law : ByteArray := code
def yL_law : MethodName := ⟨RL, "law", "([I)Z"⟩
def wsL_law_r1 : List Cond := [Cond.classLink RL 7 RX11, Cond.instantiable RX11 18, Cond.initialized RX11, Cond.classLink RL 10 RX12, Cond.instantiable RX12 28, Cond.initialized RX12, Cond.methodLink RL 9 yX11_init, Cond.instanceMethod yX11_init, Cond.code yX11_init cX11_init 1 none, Cond.methodLink RX11 3 objectInit, Cond.instanceMethod objectInit, Cond.code objectInit ⟨#[0xb1]⟩ 1 none, Cond.classLink RX11 9 RX10, Cond.instantiable RX10 9, Cond.initialized RX10, Cond.fieldLink RX11 12 "RegretPit" "text" "LRegretPit$Text;", Cond.classLink RX11 16 RX0, Cond.instantiable RX0 8, Cond.initialized RX0, Cond.fieldLink RX11 19 "RegretPit" "draft" "LRegretPit$Crew;", Cond.fieldLink RX11 23 "RegretPit" "crew" "LRegretPit$Crew;", Cond.classLink RX11 26 RX4, Cond.instantiable RX4 6, Cond.initialized RX4]
def wsL_law_r2 : List Cond := [Cond.fieldLink RX11 29 "RegretPit" "now" "LRegretPit$Now;", Cond.fieldLink RX11 33 "RegretPit" "images" "[LRegretPit$Now;", Cond.arrayClass .boolean, Cond.fieldLink RX11 37 "RegretPit" "kept" "[Z", Cond.classLink RX11 41 RX5, Cond.instantiable RX5 7, Cond.initialized RX5, Cond.fieldLink RX11 44 "RegretPit" "planner" "LRegretPit$Planner;", Cond.classLink RX11 48 RX3, Cond.instantiable RX3 3, Cond.initialized RX3, Cond.fieldLink RX11 51 "RegretPit" "matcher" "LRegretPit$Matcher;", Cond.classLink RX11 55 RX2, Cond.instantiable RX2 1, Cond.initialized RX2, Cond.classLink RX11 58 RX9, Cond.instantiable RX9 1, Cond.initialized RX9, Cond.classLink RX11 61 RX6, Cond.instantiable RX6 1, Cond.initialized RX6, Cond.classLink RX11 64 RX7, Cond.instantiable RX7 1, Cond.initialized RX7]
def wsL_law_r3 : List Cond := [Cond.classLink RX11 67 RX8, Cond.instantiable RX8 1, Cond.initialized RX8, Cond.classLink RX11 70 RX1, Cond.instantiable RX1 1, Cond.initialized RX1, Cond.fieldLink RX11 73 "RegretPit" "kinds" "[LRegretPit$Lump;", Cond.arrayClass .int, Cond.fieldLink RX11 77 "RegretPit" "later" "[I", Cond.fieldLink RX11 81 "RegretPit" "litShift" "[I", Cond.fieldLink RX11 84 "RegretPit" "litLump" "[I", Cond.fieldLink RX11 87 "RegretPit" "toldX" "[I", Cond.fieldLink RX11 90 "RegretPit" "toldY" "[I", Cond.fieldLink RX11 93 "RegretPit" "fitting" "[I", Cond.fieldLink RX11 96 "RegretPit" "seen" "[I", Cond.instanceMethod yX10_init, Cond.code yX10_init cX10_init 1 none, Cond.methodLink RX10 3 objectInit, Cond.fieldLink RX10 9 "RegretPit$Text" "bytes" "[I", Cond.instanceMethod yX0_init, Cond.code yX0_init cX0_init 1 none, Cond.methodLink RX0 3 objectInit, Cond.fieldLink RX0 9 "RegretPit$Crew" "cage" "I", Cond.fieldLink RX0 15 "RegretPit$Crew" "shale" "I"]
def wsL_law_r4 : List Cond := [Cond.fieldLink RX0 18 "RegretPit$Crew" nmS "[I", Cond.fieldLink RX0 22 "RegretPit$Crew" "grows" "[I", Cond.classLink RX0 25 "[[I", Cond.fieldLink RX0 27 "RegretPit$Crew" "beside" "[[I", Cond.fieldLink RX0 30 "RegretPit$Crew" "pull" "[[I", Cond.fieldLink RX0 33 "RegretPit$Crew" "pullMost" "[I", Cond.instanceMethod yX4_init, Cond.code yX4_init cX4_init 1 none, Cond.methodLink RX4 3 objectInit, Cond.fieldLink RX4 9 "RegretPit$Now" nmS "[I", Cond.fieldLink RX4 15 "RegretPit$Now" "heap" "[I", Cond.fieldLink RX4 18 "RegretPit$Now" "past" "[I", Cond.instanceMethod yX5_init, Cond.code yX5_init cX5_init 1 none, Cond.methodLink RX5 3 objectInit, Cond.fieldLink RX5 9 "RegretPit$Planner" "bestWay" "[I", Cond.classLink RX5 15 "[[I", Cond.fieldLink RX5 17 "RegretPit$Planner" "rows" "[[I", Cond.fieldLink RX5 20 "RegretPit$Planner" "way" "[I", Cond.instanceMethod yX3_init, Cond.code yX3_init cX3_init 1 none, Cond.methodLink RX3 3 objectInit, Cond.fieldLink RX3 9 "RegretPit$Matcher" "best" "[I", Cond.fieldLink RX3 15 "RegretPit$Matcher" "mate" "[I"]
def wsL_law_r5 : List Cond := [Cond.instanceMethod yX2_init, Cond.code yX2_init cX2_init 1 none, Cond.methodLink RX2 1 objectInit, Cond.instanceMethod yX9_init, Cond.code yX9_init cX9_init 1 none, Cond.instanceMethod yX6_init, Cond.code yX6_init cX6_init 1 none, Cond.instanceMethod yX7_init, Cond.code yX7_init cX7_init 1 none, Cond.instanceMethod yX8_init, Cond.code yX8_init cX8_init 1 none, Cond.instanceMethod yX1_init, Cond.code yX1_init cX1_init 1 none, Cond.methodLink RL 12 yX12_init, Cond.instanceMethod yX12_init, Cond.code yX12_init cX12_init 1 none, Cond.methodLink RX12 1 objectInit, Cond.arrayClass .byte, Cond.fieldLink RX12 7 "RegretPitModel" "text" "[B", Cond.fieldLink RX12 13 "RegretPitModel" "men" "[I", Cond.fieldLink RX12 17 "RegretPitModel" "grows" "[I", Cond.fieldLink RX12 20 "RegretPitModel" "draftSorry" "[I", Cond.fieldLink RX12 23 "RegretPitModel" "near" "[I", Cond.fieldLink RX12 26 "RegretPitModel" "cage" "[I"]
def wsL_law_r6 : List Cond := [Cond.fieldLink RX12 29 "RegretPitModel" "shale" "[I", Cond.fieldLink RX12 32 "RegretPitModel" "now" "[I", Cond.fieldLink RX12 35 "RegretPitModel" "isKept" "[Z", Cond.fieldLink RX12 39 "RegretPitModel" "tried" "[I", Cond.fieldLink RX12 42 "RegretPitModel" "weeks" "[I", Cond.fieldLink RX12 45 "RegretPitModel" "bestTries" "[I", Cond.fieldLink RX12 48 "RegretPitModel" "mate" "[I", Cond.fieldLink RX12 51 "RegretPitModel" "litShift" "[I", Cond.fieldLink RX12 54 "RegretPitModel" "litLong" "[I", Cond.fieldLink RX12 57 "RegretPitModel" "toldX" "[I", Cond.fieldLink RX12 60 "RegretPitModel" "toldY" "[I", Cond.methodLink RX12 63 yX12_plain, Cond.instanceMethod yX12_plain, Cond.selects RX12 yX12_plain yX12_plain, Cond.code yX12_plain cX12_plain 2 none, Cond.fieldLink RX12 103 "RegretPitModel" "cageTold" "Z", Cond.fieldLink RX12 107 "RegretPitModel" "shaleTold" "Z", Cond.methodLink RX12 66 yX12_takeDraft, Cond.instanceMethod yX12_takeDraft, Cond.selects RX12 yX12_takeDraft yX12_takeDraft, Cond.code yX12_takeDraft cX12_takeDraft 2 none, Cond.fieldLink RX12 118 "RegretPitModel" "lit" "I", Cond.fieldLink RX12 121 "RegretPitModel" "told" "I", Cond.methodLink RL 13 yX11_type]
def wsL_law_r7 : List Cond := [Cond.instanceMethod yX11_type, Cond.selects RX11 yX11_type yX11_type, Cond.code yX11_type cX11_type 2 (some .int), Cond.fieldLink RX11 99 "RegretPit$Text" "length" "I", Cond.methodLink RX11 103 yX10_adds, Cond.instanceMethod yX10_adds, Cond.selects RX10 yX10_adds yX10_adds, Cond.code yX10_adds cX10_adds 2 none, Cond.fieldLink RX10 15 "RegretPit$Text" "length" "I", Cond.methodLink RL 17 yX12_type, Cond.instanceMethod yX12_type, Cond.selects RX12 yX12_type yX12_type, Cond.code yX12_type cX12_type 2 (some .int), Cond.fieldLink RX12 73 "RegretPitModel" "typed" "I", Cond.methodLink RX12 69 yX12_in, Cond.static yX12_in, Cond.code yX12_in cX12_in 3 (some .boolean), Cond.methodLink RL 18 yX11_clear, Cond.instanceMethod yX11_clear, Cond.selects RX11 yX11_clear yX11_clear, Cond.code yX11_clear cX11_clear 2 (some .int), Cond.methodLink RL 22 yX12_clear, Cond.instanceMethod yX12_clear, Cond.selects RX12 yX12_clear yX12_clear]
def wsL_law_r8 : List Cond := [Cond.code yX12_clear cX12_clear 2 (some .int), Cond.methodLink RL 23 yX11_pit, Cond.instanceMethod yX11_pit, Cond.selects RX11 yX11_pit yX11_pit, Cond.code yX11_pit cX11_pit 3 (some .int), Cond.fieldLink RX11 121 "RegretPit" "lit" "I", Cond.fieldLink RX11 124 "RegretPit" "told" "I", Cond.methodLink RX11 107 yX10_reads, Cond.instanceMethod yX10_reads, Cond.selects RX10 yX10_reads yX10_reads, Cond.code yX10_reads cX10_reads 3 (some .int), Cond.fieldLink RX10 24 "RegretPit$Text" "behind" "I", Cond.fieldLink RX10 27 "RegretPit$Text" "fault" "Z", Cond.fieldLink RX10 31 "RegretPit$Text" "cageTold" "Z", Cond.fieldLink RX10 34 "RegretPit$Text" "shaleTold" "Z", Cond.fieldLink RX10 40 "RegretPit$Text" "token" "I", Cond.fieldLink RX10 47 "RegretPit$Text" "place" "I", Cond.methodLink RX10 19 yX0_empties, Cond.instanceMethod yX0_empties, Cond.selects RX0 yX0_empties yX0_empties, Cond.code yX0_empties cX0_empties 2 none, Cond.fieldLink RX0 36 "RegretPit$Crew" "size" "I", Cond.methodLink RX0 39 yJ7_fill_53178, Cond.static yJ7_fill_53178]
def wsL_law_r9 : List Cond := [Cond.initialized RJ7, Cond.code yJ7_fill_53178 cJ7_fill_53178 4 none, Cond.methodLink RX10 37 yX10_readsToken, Cond.instanceMethod yX10_readsToken, Cond.selects RX10 yX10_readsToken yX10_readsToken, Cond.code yX10_readsToken cX10_readsToken 1 none, Cond.methodLink RX10 83 yX10_signAt, Cond.instanceMethod yX10_signAt, Cond.selects RX10 yX10_signAt yX10_signAt, Cond.code yX10_signAt cX10_signAt 3 (some .int), Cond.methodLink RX10 87 yX10_readsValue, Cond.instanceMethod yX10_readsValue, Cond.selects RX10 yX10_readsValue yX10_readsValue, Cond.code yX10_readsValue cX10_readsValue 2 none, Cond.fieldLink RX10 50 "RegretPit$Text" "value" "I", Cond.methodLink RX10 43 yX10_readsItem, Cond.instanceMethod yX10_readsItem, Cond.selects RX10 yX10_readsItem yX10_readsItem, Cond.code yX10_readsItem cX10_readsItem 2 none, Cond.fieldLink RX10 64 "RegretPit$Crew" "cage" "I", Cond.fieldLink RX10 67 "RegretPit$Crew" "shale" "I", Cond.methodLink RX10 53 yX10_readsMan, Cond.instanceMethod yX10_readsMan, Cond.selects RX10 yX10_readsMan yX10_readsMan]
def wsL_law_r10 : List Cond := [Cond.code yX10_readsMan cX10_readsMan 4 none, Cond.fieldLink RX10 70 "RegretPit$Crew" "size" "I", Cond.fieldLink RX10 73 "RegretPit$Crew" nmS "[I", Cond.fieldLink RX10 76 "RegretPit$Crew" "grows" "[I", Cond.methodLink RX10 60 yX10_readsNumber, Cond.instanceMethod yX10_readsNumber, Cond.selects RX10 yX10_readsNumber yX10_readsNumber, Cond.code yX10_readsNumber cX10_readsNumber 3 (some .int), Cond.methodLink RX10 56 yX10_readsTwo, Cond.instanceMethod yX10_readsTwo, Cond.selects RX10 yX10_readsTwo yX10_readsTwo, Cond.code yX10_readsTwo cX10_readsTwo 6 none, Cond.fieldLink RX10 79 "RegretPit$Crew" "beside" "[[I", Cond.methodLink RX11 111 yX0_becomes, Cond.instanceMethod yX0_becomes, Cond.selects RX0 yX0_becomes yX0_becomes, Cond.code yX0_becomes cX0_becomes 3 none, Cond.methodLink RX0 45 arraycopyName, Cond.native arraycopyName, Cond.static arraycopyName, Cond.initialized "java/lang/System", Cond.methodLink RX0 51 yX0_measures, Cond.instanceMethod yX0_measures, Cond.selects RX0 yX0_measures yX0_measures]
def wsL_law_r11 : List Cond := [Cond.code yX0_measures cX0_measures 5 none, Cond.methodLink RX0 59 Lib.Math.max.name, Cond.static Lib.Math.max.name, Cond.initialized "java/lang/Math", Cond.code Lib.Math.max.name Lib.Math.max.code 2 (some .int), Cond.methodLink RX0 55 yX0_isShift, Cond.instanceMethod yX0_isShift, Cond.selects RX0 yX0_isShift yX0_isShift, Cond.code yX0_isShift cX0_isShift 2 (some .boolean), Cond.methodLink RX0 68 yJ6_bitCount_0f7a4, Cond.static yJ6_bitCount_0f7a4, Cond.initialized RJ6, Cond.code yJ6_bitCount_0f7a4 cJ6_bitCount_0f7a4 1 (some .int), Cond.constant RJ6 265 (1431655765), Cond.constant RJ6 266 (858993459), Cond.constant RJ6 267 (252645135), Cond.methodLink RX11 115 yX5_forgets, Cond.instanceMethod yX5_forgets, Cond.selects RX5 yX5_forgets yX5_forgets, Cond.code yX5_forgets cX5_forgets 1 none, Cond.fieldLink RX5 23 "RegretPit$Planner" "weeks" "I", Cond.methodLink RX11 118 yX4_begins, Cond.instanceMethod yX4_begins, Cond.selects RX4 yX4_begins yX4_begins]
def wsL_law_r12 : List Cond := [Cond.code yX4_begins cX4_begins 2 none, Cond.fieldLink RX4 21 "RegretPit$Crew" nmS "[I", Cond.methodLink RX4 24 arraycopyName, Cond.fieldLink RX4 36 "RegretPit$Now" "brought" "I", Cond.fieldLink RX4 40 "RegretPit$Now" "week" "I", Cond.fieldLink RX4 43 "RegretPit$Now" "known" "I", Cond.methodLink RX4 30 yJ7_fill_53178, Cond.methodLink RL 26 yX12_pit, Cond.instanceMethod yX12_pit, Cond.selects RX12 yX12_pit yX12_pit, Cond.code yX12_pit cX12_pit 3 (some .int), Cond.fieldLink RX12 77 "RegretPitModel" "at" "I", Cond.fieldLink RX12 93 "RegretPitModel" "fault" "I", Cond.fieldLink RX12 90 "RegretPitModel" "sort" "I", Cond.methodLink RX12 96 yX12_step, Cond.instanceMethod yX12_step, Cond.selects RX12 yX12_step yX12_step, Cond.code yX12_step cX12_step 2 none, Cond.fieldLink RX12 84 "RegretPitModel" "start" "I", Cond.fieldLink RX12 87 "RegretPitModel" "value" "I", Cond.methodLink RX12 80 yX12_here, Cond.instanceMethod yX12_here, Cond.selects RX12 yX12_here yX12_here, Cond.code yX12_here cX12_here 1 (some .int)]
def wsL_law_r13 : List Cond := [Cond.methodLink RX12 124 yX12_mayBe, Cond.instanceMethod yX12_mayBe, Cond.selects RX12 yX12_mayBe yX12_mayBe, Cond.code yX12_mayBe cX12_mayBe 2 (some .boolean), Cond.methodLink RX12 99 yX12_due, Cond.instanceMethod yX12_due, Cond.selects RX12 yX12_due yX12_due, Cond.code yX12_due cX12_due 3 (some .int), Cond.methodLink RX12 128 yX12_readRow, Cond.instanceMethod yX12_readRow, Cond.selects RX12 yX12_readRow yX12_readRow, Cond.code yX12_readRow cX12_readRow 2 none, Cond.methodLink RX12 110 yX12_number, Cond.instanceMethod yX12_number, Cond.selects RX12 yX12_number yX12_number, Cond.code yX12_number cX12_number 3 (some .int), Cond.methodLink RX12 114 yX12_readNear, Cond.instanceMethod yX12_readNear, Cond.selects RX12 yX12_readNear yX12_readNear, Cond.code yX12_readNear cX12_readNear 5 none, Cond.methodLink RL 27 yX11_man, Cond.instanceMethod yX11_man, Cond.selects RX11 yX11_man yX11_man, Cond.code yX11_man cX11_man 3 (some .int)]
def wsL_law_r14 : List Cond := [Cond.fieldLink RX11 131 "RegretPit$Now" nmS "[I", Cond.fieldLink RX11 134 "RegretPit$Crew" "grows" "[I", Cond.fieldLink RX11 137 "RegretPit$Now" "heap" "[I", Cond.methodLink RX11 127 yX0_isMan, Cond.instanceMethod yX0_isMan, Cond.selects RX0 yX0_isMan yX0_isMan, Cond.code yX0_isMan cX0_isMan 2 (some .boolean), Cond.methodLink RL 31 yX12_man, Cond.instanceMethod yX12_man, Cond.selects RX12 yX12_man yX12_man, Cond.code yX12_man cX12_man 3 (some .int), Cond.methodLink RX12 136 yX12_isMan, Cond.instanceMethod yX12_isMan, Cond.selects RX12 yX12_isMan yX12_isMan, Cond.code yX12_isMan cX12_isMan 2 (some .boolean), Cond.methodLink RL 32 yX11_beside, Cond.instanceMethod yX11_beside, Cond.selects RX11 yX11_beside yX11_beside, Cond.code yX11_beside cX11_beside 3 (some .int), Cond.fieldLink RX11 144 "RegretPit$Crew" "beside" "[[I", Cond.constant RX11 148 (-1000000), Cond.methodLink RX11 140 yX0_areTwo, Cond.instanceMethod yX0_areTwo, Cond.selects RX0 yX0_areTwo yX0_areTwo]
def wsL_law_r15 : List Cond := [Cond.code yX0_areTwo cX0_areTwo 3 (some .boolean), Cond.methodLink RX0 65 yX0_isMan, Cond.methodLink RL 35 yX12_beside, Cond.instanceMethod yX12_beside, Cond.selects RX12 yX12_beside yX12_beside, Cond.code yX12_beside cX12_beside 3 (some .int), Cond.constant RX12 139 (-1000000), Cond.methodLink RL 36 yX11_week, Cond.instanceMethod yX11_week, Cond.selects RX11 yX11_week yX11_week, Cond.code yX11_week cX11_week 5 (some .int), Cond.fieldLink RX11 152 "RegretPit$Now" "week" "I", Cond.fieldLink RX11 158 "RegretPit$Crew" "size" "I", Cond.constant RX11 169 (999999), Cond.fieldLink RX11 170 "RegretPit$Now" "brought" "I", Cond.methodLink RX11 173 Lib.Math.min.name, Cond.static Lib.Math.min.name, Cond.code Lib.Math.min.name Lib.Math.min.code 2 (some .int), Cond.methodLink RX11 149 yX0_isShift, Cond.methodLink RX11 155 yX4_remembers, Cond.instanceMethod yX4_remembers, Cond.selects RX4 yX4_remembers yX4_remembers, Cond.code yX4_remembers cX4_remembers 2 none, Cond.methodLink RX11 161 yX0_coinsOf]
def wsL_law_r16 : List Cond := [Cond.instanceMethod yX0_coinsOf, Cond.selects RX0 yX0_coinsOf yX0_coinsOf, Cond.code yX0_coinsOf cX0_coinsOf 5 (some .int), Cond.methodLink RX0 74 yX0_aheadOfCut, Cond.instanceMethod yX0_aheadOfCut, Cond.selects RX0 yX0_aheadOfCut yX0_aheadOfCut, Cond.code yX0_aheadOfCut cX0_aheadOfCut 5 (some .int), Cond.methodLink RX11 165 yX0_lives, Cond.instanceMethod yX0_lives, Cond.selects RX0 yX0_lives yX0_lives, Cond.code yX0_lives cX0_lives 6 none, Cond.methodLink RX0 78 Lib.Math.min.name, Cond.methodLink RL 39 yX12_week, Cond.instanceMethod yX12_week, Cond.selects RX12 yX12_week yX12_week, Cond.code yX12_week cX12_week 4 (some .int), Cond.constant RX12 162 (999999), Cond.methodLink RX12 150 yX12_isShift, Cond.instanceMethod yX12_isShift, Cond.selects RX12 yX12_isShift yX12_isShift, Cond.code yX12_isShift cX12_isShift 2 (some .boolean), Cond.methodLink RX12 132 yX12_manyOf, Cond.static yX12_manyOf, Cond.code yX12_manyOf cX12_manyOf 3 (some .int)]
def wsL_law_r17 : List Cond := [Cond.methodLink RX12 153 yX12_know, Cond.instanceMethod yX12_know, Cond.selects RX12 yX12_know yX12_know, Cond.code yX12_know cX12_know 2 none, Cond.methodLink RX12 156 yX12_take, Cond.instanceMethod yX12_take, Cond.selects RX12 yX12_take yX12_take, Cond.code yX12_take cX12_take 2 none, Cond.methodLink RX12 143 yX12_begins, Cond.instanceMethod yX12_begins, Cond.selects RX12 yX12_begins yX12_begins, Cond.code yX12_begins cX12_begins 7 (some .int), Cond.methodLink RX12 140 yX12_held, Cond.static yX12_held, Cond.code yX12_held cX12_held 1 (some .int), Cond.methodLink RX12 147 yX12_brings, Cond.instanceMethod yX12_brings, Cond.selects RX12 yX12_brings yX12_brings, Cond.code yX12_brings cX12_brings 2 (some .int), Cond.methodLink RX12 159 yX12_pass, Cond.instanceMethod yX12_pass, Cond.selects RX12 yX12_pass yX12_pass, Cond.code yX12_pass cX12_pass 8 (some .int), Cond.methodLink RL 40 yX11_quarrel]
def wsL_law_r18 : List Cond := [Cond.instanceMethod yX11_quarrel, Cond.selects RX11 yX11_quarrel yX11_quarrel, Cond.code yX11_quarrel cX11_quarrel 4 (some .int), Cond.methodLink RL 44 yX12_quarrel, Cond.instanceMethod yX12_quarrel, Cond.selects RX12 yX12_quarrel yX12_quarrel, Cond.code yX12_quarrel cX12_quarrel 4 (some .int), Cond.methodLink RL 45 yX11_forgives, Cond.instanceMethod yX11_forgives, Cond.selects RX11 yX11_forgives yX11_forgives, Cond.code yX11_forgives cX11_forgives 3 (some .int), Cond.methodLink RL 48 yX12_forgives, Cond.instanceMethod yX12_forgives, Cond.selects RX12 yX12_forgives yX12_forgives, Cond.code yX12_forgives cX12_forgives 3 (some .int), Cond.methodLink RL 49 yX11_buys, Cond.instanceMethod yX11_buys, Cond.selects RX11 yX11_buys yX11_buys, Cond.code yX11_buys cX11_buys 3 (some .int), Cond.methodLink RL 52 yX12_buys, Cond.instanceMethod yX12_buys, Cond.selects RX12 yX12_buys yX12_buys, Cond.code yX12_buys cX12_buys 3 (some .int), Cond.methodLink RL 53 yX11_undo]
def wsL_law_r19 : List Cond := [Cond.instanceMethod yX11_undo, Cond.selects RX11 yX11_undo yX11_undo, Cond.code yX11_undo cX11_undo 1 (some .int), Cond.fieldLink RX11 179 "RegretPit$Now" "known" "I", Cond.methodLink RX11 182 yX4_recalls, Cond.instanceMethod yX4_recalls, Cond.selects RX4 yX4_recalls yX4_recalls, Cond.code yX4_recalls cX4_recalls 2 none, Cond.methodLink RL 56 yX12_undo, Cond.instanceMethod yX12_undo, Cond.selects RX12 yX12_undo yX12_undo, Cond.code yX12_undo cX12_undo 2 (some .int), Cond.methodLink RL 57 yX11_now, Cond.instanceMethod yX11_now, Cond.selects RX11 yX11_now yX11_now, Cond.code yX11_now cX11_now 2 (some .int), Cond.methodLink RX11 185 yX11_sumOf, Cond.instanceMethod yX11_sumOf, Cond.selects RX11 yX11_sumOf yX11_sumOf, Cond.code yX11_sumOf cX11_sumOf 4 (some .int), Cond.methodLink RX11 189 yX11_payForAll, Cond.instanceMethod yX11_payForAll, Cond.selects RX11 yX11_payForAll yX11_payForAll, Cond.code yX11_payForAll cX11_payForAll 3 (some .int)]
def wsL_law_r20 : List Cond := [Cond.methodLink RX11 193 Lib.Math.max.name, Cond.methodLink RL 60 yX12_now, Cond.instanceMethod yX12_now, Cond.selects RX12 yX12_now yX12_now, Cond.code yX12_now cX12_now 6 (some .int), Cond.methodLink RL 61 yX11_yieldOf, Cond.instanceMethod yX11_yieldOf, Cond.selects RX11 yX11_yieldOf yX11_yieldOf, Cond.code yX11_yieldOf cX11_yieldOf 2 (some .int), Cond.methodLink RX11 196 yX0_brings, Cond.instanceMethod yX0_brings, Cond.selects RX0 yX0_brings yX0_brings, Cond.code yX0_brings cX0_brings 5 (some .int), Cond.methodLink RX0 81 yX0_coinsOf, Cond.methodLink RL 64 yX12_yieldOf, Cond.instanceMethod yX12_yieldOf, Cond.selects RX12 yX12_yieldOf yX12_yieldOf, Cond.code yX12_yieldOf cX12_yieldOf 2 (some .int), Cond.methodLink RL 65 yX11_best, Cond.instanceMethod yX11_best, Cond.selects RX11 yX11_best yX11_best, Cond.code yX11_best cX11_best 6 (some .int), Cond.methodLink RL 68 yX12_best, Cond.instanceMethod yX12_best]
def wsL_law_r21 : List Cond := [Cond.selects RX12 yX12_best yX12_best, Cond.code yX12_best cX12_best 6 (some .int), Cond.methodLink RX12 163 yX12_yieldOf, Cond.methodLink RL 69 yX11_plan, Cond.instanceMethod yX11_plan, Cond.selects RX11 yX11_plan yX11_plan, Cond.code yX11_plan cX11_plan 4 (some .int), Cond.fieldLink RX11 204 "RegretPit$Planner" "most" "I", Cond.fieldLink RX11 207 "RegretPit$Planner" "bestWay" "[I", Cond.methodLink RX11 200 yX5_searches, Cond.instanceMethod yX5_searches, Cond.selects RX5 yX5_searches yX5_searches, Cond.code yX5_searches cX5_searches 6 none, Cond.fieldLink RX5 27 "RegretPit$Planner" "least" "I", Cond.fieldLink RX5 34 "RegretPit$Planner" "most" "I", Cond.fieldLink RX5 37 "RegretPit$Planner" "held" "I", Cond.fieldLink RX5 40 "RegretPit$Crew" "size" "I", Cond.methodLink RX5 30 yX5_isStart, Cond.instanceMethod yX5_isStart, Cond.selects RX5 yX5_isStart yX5_isStart, Cond.code yX5_isStart cX5_isStart 4 (some .boolean), Cond.methodLink RX5 45 yX5_looks, Cond.instanceMethod yX5_looks, Cond.selects RX5 yX5_looks yX5_looks]
def wsL_law_r22 : List Cond := [Cond.code yX5_looks cX5_looks 7 none, Cond.methodLink RX5 49 yX5_takes, Cond.instanceMethod yX5_takes, Cond.selects RX5 yX5_takes yX5_takes, Cond.code yX5_takes cX5_takes 2 none, Cond.methodLink RX5 72 arraycopyName, Cond.methodLink RX5 53 yX5_ceiling, Cond.instanceMethod yX5_ceiling, Cond.selects RX5 yX5_ceiling yX5_ceiling, Cond.code yX5_ceiling cX5_ceiling 10 (some .int), Cond.fieldLink RX5 78 "RegretPit$Crew" "cage" "I", Cond.methodLink RX5 81 yX0_coinsAtMost, Cond.instanceMethod yX0_coinsAtMost, Cond.selects RX0 yX0_coinsAtMost yX0_coinsAtMost, Cond.code yX0_coinsAtMost cX0_coinsAtMost 4 (some .int), Cond.methodLink RX5 57 yX0_isShift, Cond.methodLink RX5 61 yX0_brings, Cond.methodLink RX5 65 yX0_lives, Cond.methodLink RX5 69 yX5_holds, Cond.instanceMethod yX5_holds, Cond.selects RX5 yX5_holds yX5_holds, Cond.code yX5_holds cX5_holds 4 (some .boolean), Cond.methodLink RL 72 yX12_plan, Cond.instanceMethod yX12_plan]
def wsL_law_r23 : List Cond := [Cond.selects RX12 yX12_plan yX12_plan, Cond.code yX12_plan cX12_plan 14 (some .int), Cond.methodLink RX12 166 yX12_isFull, Cond.instanceMethod yX12_isFull, Cond.selects RX12 yX12_isFull yX12_isFull, Cond.code yX12_isFull cX12_isFull 5 (some .boolean), Cond.methodLink RL 73 yX11_lean, Cond.instanceMethod yX11_lean, Cond.selects RX11 yX11_lean yX11_lean, Cond.code yX11_lean cX11_lean 4 (some .int), Cond.methodLink RX11 210 arraycopyName, Cond.methodLink RL 76 yX12_lean, Cond.instanceMethod yX12_lean, Cond.selects RX12 yX12_lean yX12_lean, Cond.code yX12_lean cX12_lean 4 (some .int), Cond.methodLink RL 77 yX11_still, Cond.instanceMethod yX11_still, Cond.selects RX11 yX11_still yX11_still, Cond.code yX11_still cX11_still 5 (some .int), Cond.methodLink RL 80 yX12_still, Cond.instanceMethod yX12_still, Cond.selects RX12 yX12_still yX12_still, Cond.code yX12_still cX12_still 5 (some .int), Cond.methodLink RL 81 yX11_temper]
def wsL_law_r24 : List Cond := [Cond.instanceMethod yX11_temper, Cond.selects RX11 yX11_temper yX11_temper, Cond.code yX11_temper cX11_temper 4 (some .int), Cond.methodLink RX11 216 yX0_pullOf, Cond.instanceMethod yX0_pullOf, Cond.selects RX0 yX0_pullOf yX0_pullOf, Cond.code yX0_pullOf cX0_pullOf 3 (some .int), Cond.methodLink RL 84 yX12_temper, Cond.instanceMethod yX12_temper, Cond.selects RX12 yX12_temper yX12_temper, Cond.code yX12_temper cX12_temper 5 (some .int), Cond.methodLink RL 85 yX11_mates, Cond.instanceMethod yX11_mates, Cond.selects RX11 yX11_mates yX11_mates, Cond.code yX11_mates cX11_mates 2 (some .int), Cond.fieldLink RX11 221 "RegretPit$Matcher" "most" "I", Cond.fieldLink RX11 222 "RegretPit$Matcher" "best" "[I", Cond.methodLink RX11 219 yX3_searches, Cond.instanceMethod yX3_searches, Cond.selects RX3 yX3_searches yX3_searches, Cond.code yX3_searches cX3_searches 2 none, Cond.fieldLink RX3 18 "RegretPit$Matcher" "most" "I", Cond.methodLink RX3 22 yJ7_fill_53178, Cond.methodLink RX3 28 yX3_looks]
def wsL_law_r25 : List Cond := [Cond.instanceMethod yX3_looks, Cond.selects RX3 yX3_looks yX3_looks, Cond.code yX3_looks cX3_looks 5 none, Cond.fieldLink RX3 32 "RegretPit$Crew" "size" "I", Cond.fieldLink RX3 41 "RegretPit$Crew" "beside" "[[I", Cond.methodLink RX3 37 yX3_takes, Cond.instanceMethod yX3_takes, Cond.selects RX3 yX3_takes yX3_takes, Cond.code yX3_takes cX3_takes 2 none, Cond.methodLink RX3 45 arraycopyName, Cond.methodLink RL 88 yX12_mates, Cond.instanceMethod yX12_mates, Cond.selects RX12 yX12_mates yX12_mates, Cond.code yX12_mates cX12_mates 7 (some .int), Cond.methodLink RX12 170 yX12_worth, Cond.instanceMethod yX12_worth, Cond.selects RX12 yX12_worth yX12_worth, Cond.code yX12_worth cX12_worth 6 (some .int), Cond.methodLink RL 89 yX11_lights, Cond.instanceMethod yX11_lights, Cond.selects RX11 yX11_lights yX11_lights, Cond.code yX11_lights cX11_lights 3 (some .int), Cond.methodLink RL 92 yX12_lights, Cond.instanceMethod yX12_lights]
def wsL_law_r26 : List Cond := [Cond.selects RX12 yX12_lights yX12_lights, Cond.code yX12_lights cX12_lights 3 (some .int), Cond.methodLink RL 93 yX11_forget, Cond.instanceMethod yX11_forget, Cond.selects RX11 yX11_forget yX11_forget, Cond.code yX11_forget cX11_forget 2 (some .int), Cond.methodLink RL 96 yX12_forget, Cond.instanceMethod yX12_forget, Cond.selects RX12 yX12_forget yX12_forget, Cond.code yX12_forget cX12_forget 2 (some .int), Cond.methodLink RL 97 yX11_whose, Cond.instanceMethod yX11_whose, Cond.selects RX11 yX11_whose yX11_whose, Cond.code yX11_whose cX11_whose 3 (some .int), Cond.methodLink RX11 225 yX11_isLitBy, Cond.instanceMethod yX11_isLitBy, Cond.selects RX11 yX11_isLitBy yX11_isLitBy, Cond.code yX11_isLitBy cX11_isLitBy 4 (some .boolean), Cond.methodLink RX11 228 yX0_cutOf, Cond.instanceMethod yX0_cutOf, Cond.selects RX0 yX0_cutOf yX0_cutOf, Cond.code yX0_cutOf cX0_cutOf 4 (some .int), Cond.methodLink RL 100 yX12_whose, Cond.instanceMethod yX12_whose]
def wsL_law_r27 : List Cond := [Cond.selects RX12 yX12_whose yX12_whose, Cond.code yX12_whose cX12_whose 5 (some .int), Cond.methodLink RL 101 yX11_sold, Cond.instanceMethod yX11_sold, Cond.selects RX11 yX11_sold yX11_sold, Cond.code yX11_sold cX11_sold 7 (some .int), Cond.methodLink RX11 231 yX11_heapOf, Cond.instanceMethod yX11_heapOf, Cond.selects RX11 yX11_heapOf yX11_heapOf, Cond.code yX11_heapOf cX11_heapOf 4 (some .int), Cond.methodLink RL 104 yX12_sold, Cond.instanceMethod yX12_sold, Cond.selects RX12 yX12_sold yX12_sold, Cond.code yX12_sold cX12_sold 8 (some .int), Cond.methodLink RL 105 yX11_tells, Cond.instanceMethod yX11_tells, Cond.selects RX11 yX11_tells yX11_tells, Cond.code yX11_tells cX11_tells 3 (some .int), Cond.methodLink RL 108 yX12_tells, Cond.instanceMethod yX12_tells, Cond.selects RX12 yX12_tells yX12_tells, Cond.code yX12_tells cX12_tells 3 (some .int), Cond.methodLink RL 109 yX11_fit, Cond.instanceMethod yX11_fit]
def wsL_law_r28 : List Cond := [Cond.selects RX11 yX11_fit yX11_fit, Cond.code yX11_fit cX11_fit 3 (some .int), Cond.methodLink RX11 235 yX11_gathersFitting, Cond.instanceMethod yX11_gathersFitting, Cond.selects RX11 yX11_gathersFitting yX11_gathersFitting, Cond.code yX11_gathersFitting cX11_gathersFitting 5 (some .int), Cond.methodLink RX11 241 yX11_lawOf, Cond.static yX11_lawOf, Cond.code yX11_lawOf cX11_lawOf 2 (some .int), Cond.methodLink RX11 238 yX11_mostTelling, Cond.instanceMethod yX11_mostTelling, Cond.selects RX11 yX11_mostTelling yX11_mostTelling, Cond.code yX11_mostTelling cX11_mostTelling 8 (some .int), Cond.methodLink RX11 244 yJ7_fill_53178, Cond.methodLink RL 112 yX12_fit, Cond.instanceMethod yX12_fit, Cond.selects RX12 yX12_fit yX12_fit, Cond.code yX12_fit cX12_fit 8 (some .int), Cond.methodLink RX12 176 yX12_isFit, Cond.instanceMethod yX12_isFit, Cond.selects RX12 yX12_isFit yX12_isFit, Cond.code yX12_isFit cX12_isFit 4 (some .boolean), Cond.methodLink RX12 173 yX12_grown, Cond.static yX12_grown]
def wsL_law_r29 : List Cond := [Cond.code yX12_grown cX12_grown 2 (some .int), Cond.methodLink RX12 179 yX12_unlike, Cond.instanceMethod yX12_unlike, Cond.selects RX12 yX12_unlike yX12_unlike, Cond.code yX12_unlike cX12_unlike 6 (some .int), Cond.methodLink RL 113 yX11_below, Cond.instanceMethod yX11_below, Cond.selects RX11 yX11_below yX11_below, Cond.code yX11_below cX11_below 7 (some .int), Cond.methodLink RX11 250 yX11_commonOf, Cond.static yX11_commonOf, Cond.code yX11_commonOf cX11_commonOf 6 (some .int), Cond.methodLink RL 116 yX12_below, Cond.instanceMethod yX12_below, Cond.selects RX12 yX12_below yX12_below, Cond.code yX12_below cX12_below 9 (some .int), Cond.methodLink RL 117 yX11_mark, Cond.instanceMethod yX11_mark, Cond.selects RX11 yX11_mark yX11_mark, Cond.code yX11_mark cX11_mark 3 (some .int), Cond.methodLink RX11 253 ⟨"RegretPit$Lump", "worth", "(LRegretPit$Crew;LRegretPit$Now;I)I"⟩, Cond.sameMethod "RegretPit$Lump" "RegretPit$Lump" "worth" "(LRegretPit$Crew;LRegretPit$Now;I)I", Cond.instanceMethod ⟨"RegretPit$Lump", "worth", "(LRegretPit$Crew;LRegretPit$Now;I)I"⟩, Cond.selects RX1 ⟨"RegretPit$Lump", "worth", "(LRegretPit$Crew;LRegretPit$Now;I)I"⟩ yX1_worth]
def wsL_law_r30 : List Cond := [Cond.instanceMethod yX1_worth, Cond.code yX1_worth cX1_worth 4 (some .int), Cond.fieldLink RX1 7 "RegretPit$Dust" "asked" "J", Cond.sameField "RegretPit$Dust" "RegretPit$Lump" "asked" "J", Cond.constantLong RX1 13 (100000), Cond.fieldLink RX1 19 "RegretPit$Now" "week" "I", Cond.methodLink RX1 15 yX2_worth, Cond.superclass RX1 RX2, Cond.instanceMethod yX2_worth, Cond.code yX2_worth cX2_worth 4 (some .int), Cond.fieldLink RX2 7 "RegretPit$Lump" "asked" "J", Cond.fieldLink RX2 13 "RegretPit$Now" nmS "[I", Cond.methodLink RX11 253 yX2_worth, Cond.selects RX2 yX2_worth yX2_worth, Cond.selects RX6 ⟨"RegretPit$Lump", "worth", "(LRegretPit$Crew;LRegretPit$Now;I)I"⟩ yX6_worth, Cond.instanceMethod yX6_worth, Cond.code yX6_worth cX6_worth 4 (some .int), Cond.fieldLink RX6 7 "RegretPit$Ring" "asked" "J", Cond.sameField "RegretPit$Ring" "RegretPit$Lump" "asked" "J", Cond.constantLong RX6 13 (100), Cond.fieldLink RX6 19 "RegretPit$Now" "heap" "[I", Cond.methodLink RX6 15 yX2_worth, Cond.superclass RX6 RX2, Cond.selects RX7 ⟨"RegretPit$Lump", "worth", "(LRegretPit$Crew;LRegretPit$Now;I)I"⟩ yX7_worth]
def wsL_law_r31 : List Cond := [Cond.instanceMethod yX7_worth, Cond.code yX7_worth cX7_worth 4 (some .int), Cond.fieldLink RX7 7 "RegretPit$Salt" "asked" "J", Cond.sameField "RegretPit$Salt" "RegretPit$Lump" "asked" "J", Cond.constantLong RX7 13 (1000), Cond.methodLink RX7 15 yX9_worth, Cond.sameMethod "RegretPit$Sigh" "RegretPit$Sigh" "worth" "(LRegretPit$Crew;LRegretPit$Now;I)I", Cond.superclass RX7 RX9, Cond.instanceMethod yX9_worth, Cond.code yX9_worth cX9_worth 4 (some .int), Cond.fieldLink RX9 7 "RegretPit$Sigh" "asked" "J", Cond.sameField "RegretPit$Sigh" "RegretPit$Lump" "asked" "J", Cond.constantLong RX9 13 (10), Cond.fieldLink RX9 19 "RegretPit$Crew" "grows" "[I", Cond.methodLink RX9 15 yX2_worth, Cond.superclass RX9 RX2, Cond.selects RX8 ⟨"RegretPit$Lump", "worth", "(LRegretPit$Crew;LRegretPit$Now;I)I"⟩ yX8_worth, Cond.instanceMethod yX8_worth, Cond.code yX8_worth cX8_worth 4 (some .int), Cond.fieldLink RX8 7 "RegretPit$Seam" "asked" "J", Cond.sameField "RegretPit$Seam" "RegretPit$Lump" "asked" "J", Cond.constantLong RX8 13 (10000), Cond.fieldLink RX8 19 "RegretPit$Crew" "size" "I", Cond.methodLink RX8 15 yX6_worth]
def wsL_law_r32 : List Cond := [Cond.sameMethod "RegretPit$Ring" "RegretPit$Ring" "worth" "(LRegretPit$Crew;LRegretPit$Now;I)I", Cond.superclass RX8 RX6, Cond.methodLink RX8 25 yX0_pullOf, Cond.selects RX9 ⟨"RegretPit$Lump", "worth", "(LRegretPit$Crew;LRegretPit$Now;I)I"⟩ yX9_worth, Cond.methodLink RL 120 yX12_mark, Cond.instanceMethod yX12_mark, Cond.selects RX12 yX12_mark yX12_mark, Cond.code yX12_mark cX12_mark 7 (some .int), Cond.fieldLink RX12 182 "RegretPitModel" "trace" "J", Cond.constantLong RX12 186 (11), Cond.constantLong RX12 188 (101), Cond.constantLong RX12 190 (1011), Cond.constantLong RX12 192 (10101), Cond.constantLong RX12 194 (100001), Cond.methodLink RL 121 yX11_keep, Cond.instanceMethod yX11_keep, Cond.selects RX11 yX11_keep yX11_keep, Cond.code yX11_keep cX11_keep 2 (some .int), Cond.methodLink RX11 257 yX4_becomes, Cond.instanceMethod yX4_becomes, Cond.selects RX4 yX4_becomes yX4_becomes, Cond.code yX4_becomes cX4_becomes 2 none, Cond.methodLink RL 124 yX12_keep, Cond.instanceMethod yX12_keep]
def wsL_law_r33 : List Cond := [Cond.selects RX12 yX12_keep yX12_keep, Cond.code yX12_keep cX12_keep 3 (some .int), Cond.methodLink RL 125 yX11_back, Cond.instanceMethod yX11_back, Cond.selects RX11 yX11_back yX11_back, Cond.code yX11_back cX11_back 2 (some .int), Cond.methodLink RL 128 yX12_back, Cond.instanceMethod yX12_back, Cond.selects RX12 yX12_back yX12_back, Cond.code yX12_back cX12_back 3 (some .int), Cond.methodLink RL 129 yX11_count, Cond.instanceMethod yX11_count, Cond.selects RX11 yX11_count yX11_count, Cond.code yX11_count cX11_count 2 (some .int), Cond.fieldLink RX11 260 "RegretPit$Crew" "cage" "I", Cond.fieldLink RX11 263 "RegretPit$Crew" "shale" "I", Cond.methodLink RL 132 yX12_count, Cond.instanceMethod yX12_count, Cond.selects RX12 yX12_count yX12_count, Cond.code yX12_count cX12_count 2 (some .int), Cond.methodLink RL 133 yX11_trace, Cond.instanceMethod yX11_trace, Cond.selects RX11 yX11_trace yX11_trace, Cond.code yX11_trace cX11_trace 4 (some .long)]
def wsL_law_r34 : List Cond := [Cond.fieldLink RX11 266 "RegretPit$Lump" "asked" "J", Cond.methodLink RL 137 yX12_trace, Cond.instanceMethod yX12_trace, Cond.selects RX12 yX12_trace yX12_trace, Cond.code yX12_trace cX12_trace 1 (some .long)]
def wsL_law : List Cond := (wsL_law_r1 ++ (wsL_law_r2 ++ (wsL_law_r3 ++ (wsL_law_r4 ++ (wsL_law_r5 ++ (wsL_law_r6 ++ (wsL_law_r7 ++ (wsL_law_r8 ++ (wsL_law_r9 ++ (wsL_law_r10 ++ (wsL_law_r11 ++ (wsL_law_r12 ++ (wsL_law_r13 ++ (wsL_law_r14 ++ (wsL_law_r15 ++ (wsL_law_r16 ++ (wsL_law_r17 ++ (wsL_law_r18 ++ (wsL_law_r19 ++ (wsL_law_r20 ++ (wsL_law_r21 ++ (wsL_law_r22 ++ (wsL_law_r23 ++ (wsL_law_r24 ++ (wsL_law_r25 ++ (wsL_law_r26 ++ (wsL_law_r27 ++ (wsL_law_r28 ++ (wsL_law_r29 ++ (wsL_law_r30 ++ (wsL_law_r31 ++ (wsL_law_r32 ++ (wsL_law_r33 ++ wsL_law_r34))))))))))))))))))))))))))))))))) ++ wsX110 ++ wsX120 ++ wsX100 ++ wsX00 ++ wsX40 ++ wsX50 ++ wsX30 ++ wsX20 ++ wsX90 ++ wsX60 ++ wsX70 ++ wsX80 ++ wsX10 ++ ([] : List Cond)
theorem inlX0 : ∀ w ∈ wsX00, w ∈ wsL_law := fun _ h => List.mem_append_left _ (List.mem_append_left _ (List.mem_append_left _ (List.mem_append_left _ (List.mem_append_left _ (List.mem_append_left _ (List.mem_append_left _ (List.mem_append_left _ (List.mem_append_left _ (List.mem_append_left _ (List.mem_append_right _ h))))))))))
theorem inlX1 : ∀ w ∈ wsX10, w ∈ wsL_law := fun _ h => List.mem_append_left _ (List.mem_append_right _ h)
theorem inlX2 : ∀ w ∈ wsX20, w ∈ wsL_law := fun _ h => List.mem_append_left _ (List.mem_append_left _ (List.mem_append_left _ (List.mem_append_left _ (List.mem_append_left _ (List.mem_append_left _ (List.mem_append_right _ h))))))
theorem inlX3 : ∀ w ∈ wsX30, w ∈ wsL_law := fun _ h => List.mem_append_left _ (List.mem_append_left _ (List.mem_append_left _ (List.mem_append_left _ (List.mem_append_left _ (List.mem_append_left _ (List.mem_append_left _ (List.mem_append_right _ h)))))))
theorem inlX4 : ∀ w ∈ wsX40, w ∈ wsL_law := fun _ h => List.mem_append_left _ (List.mem_append_left _ (List.mem_append_left _ (List.mem_append_left _ (List.mem_append_left _ (List.mem_append_left _ (List.mem_append_left _ (List.mem_append_left _ (List.mem_append_left _ (List.mem_append_right _ h)))))))))
theorem inlX5 : ∀ w ∈ wsX50, w ∈ wsL_law := fun _ h => List.mem_append_left _ (List.mem_append_left _ (List.mem_append_left _ (List.mem_append_left _ (List.mem_append_left _ (List.mem_append_left _ (List.mem_append_left _ (List.mem_append_left _ (List.mem_append_right _ h))))))))
theorem inlX6 : ∀ w ∈ wsX60, w ∈ wsL_law := fun _ h => List.mem_append_left _ (List.mem_append_left _ (List.mem_append_left _ (List.mem_append_left _ (List.mem_append_right _ h))))
theorem inlX7 : ∀ w ∈ wsX70, w ∈ wsL_law := fun _ h => List.mem_append_left _ (List.mem_append_left _ (List.mem_append_left _ (List.mem_append_right _ h)))
theorem inlX8 : ∀ w ∈ wsX80, w ∈ wsL_law := fun _ h => List.mem_append_left _ (List.mem_append_left _ (List.mem_append_right _ h))
theorem inlX9 : ∀ w ∈ wsX90, w ∈ wsL_law := fun _ h => List.mem_append_left _ (List.mem_append_left _ (List.mem_append_left _ (List.mem_append_left _ (List.mem_append_left _ (List.mem_append_right _ h)))))
theorem inlX10 : ∀ w ∈ wsX100, w ∈ wsL_law := fun _ h => List.mem_append_left _ (List.mem_append_left _ (List.mem_append_left _ (List.mem_append_left _ (List.mem_append_left _ (List.mem_append_left _ (List.mem_append_left _ (List.mem_append_left _ (List.mem_append_left _ (List.mem_append_left _ (List.mem_append_left _ (List.mem_append_right _ h)))))))))))
theorem inlX11 : ∀ w ∈ wsX110, w ∈ wsL_law := fun _ h => List.mem_append_left _ (List.mem_append_left _ (List.mem_append_left _ (List.mem_append_left _ (List.mem_append_left _ (List.mem_append_left _ (List.mem_append_left _ (List.mem_append_left _ (List.mem_append_left _ (List.mem_append_left _ (List.mem_append_left _ (List.mem_append_left _ (List.mem_append_left _ (List.mem_append_right _ h)))))))))))))
theorem inlX12 : ∀ w ∈ wsX120, w ∈ wsL_law := fun _ h => List.mem_append_left _ (List.mem_append_left _ (List.mem_append_left _ (List.mem_append_left _ (List.mem_append_left _ (List.mem_append_left _ (List.mem_append_left _ (List.mem_append_left _ (List.mem_append_left _ (List.mem_append_left _ (List.mem_append_left _ (List.mem_append_left _ (List.mem_append_right _ h))))))))))))
abbrev vwCl : List vw_C := [(RX0, TX0, 8), (RX1, TX1, 1), (RX2, TX2, 1), (RX3, TX3, 3), (RX4, TX4, 6), (RX5, TX5, 7), (RX6, TX6, 1), (RX7, TX7, 1), (RX8, TX8, 1), (RX9, TX9, 1), (RX10, TX10, 9), (RX11, TX11, 18), (RX12, TX12, 28)]
