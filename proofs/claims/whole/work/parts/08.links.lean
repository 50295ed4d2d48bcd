/-! the two sides: their cells; links; constants -/
def SX : Sd := ([(11, 0, [3, 5, 23, 41, 45, 54, 55, 63, 66, 73, 74, 75, 76, 77, 78, 79, 0, 0]), (10, 0, [0, 4, 0, 0, 0, 0, 0, 0, 0]), (20, 150, []), (0, 0, [0, 0, 0, 6, 7, 8, 15, 22]), (20, 6, []), (20, 6, []), (24, 6, [7]), (20, 6, []), (20, 6, []), (20, 6, []), (20, 6, []), (20, 6, []), (20, 6, []), (24, 6, [14]), (20, 64, []), (20, 64, []), (20, 64, []), (20, 64, []), (20, 64, []), (20, 64, []), (20, 6, []), (0, 0, [0, 0, 0, 24, 25, 26, 33, 40]), (20, 6, []), (20, 6, []), (24, 6, [25]), (20, 6, []), (20, 6, []), (20, 6, []), (20, 6, []), (20, 6, []), (20, 6, []), (24, 6, [32]), (20, 64, []), (20, 64, []), (20, 64, []), (20, 64, []), (20, 64, []), (20, 64, []), (20, 6, []), (4, 0, [42, 43, 0, 0, 0, 44]), (20, 6, []), (20, 6, []), (20, 140, []), (22, 2, [44]), (4, 0, [48, 49, 0, 0, 0, 50]), (4, 0, [51, 52, 0, 0, 0, 53]), (20, 6, []), (20, 6, []), (20, 140, []), (20, 6, []), (20, 6, []), (20, 140, []), (21, 2, []), (5, 0, [0, 56, 57, 62, 0, 0, 0]), (20, 3, []), (24, 4, [56]), (20, 6, []), (20, 6, []), (20, 6, []), (20, 6, []), (20, 3, []), (3, 0, [0, 64, 65]), (20, 6, []), (20, 6, []), (23, 6, [65]), (2, 0, [1]), (9, 0, [1]), (6, 0, [1]), (7, 0, [1]), (8, 0, [1]), (1, 0, [1]), (20, 6, []), (20, 6, []), (20, 6, []), (20, 6, []), (20, 6, []), (20, 100, []), (20, 300, [])], [.int, .boolean, .object "RegretPit$Now", .object "RegretPit$Lump", .array .int])
def SM : Sd := ([(12, 0, [1, 3, 0, 4, 5, 6, 7, 8, 9, 0, 0, 0, 0, 0, 0, 0, 10, 11, 12, 13, 14, 15, 16, 17, 0, 18, 19, 0]), (21, 150, []), (20, 2, []), (20, 12, []), (20, 6, []), (20, 72, []), (20, 2, []), (20, 2, []), (20, 465, []), (22, 2, []), (20, 24, []), (20, 36, []), (20, 3, []), (20, 6, []), (20, 6, []), (20, 6, []), (20, 6, []), (20, 6, [])], [.int, .byte, .boolean])
theorem nb_n {x : Int32} (h : x = 0 ∨ x = 1) : narrow .boolean (.int x) = .int x := by rcases h with rfl | rfl <;> rfl
theorem nb_f {x : Int32} (h : x = 0 ∨ x = 1) : fits .boolean (.int x) = true := by rcases h with rfl | rfl <;> rfl
theorem int_ne {x v : Int32} {k : Int} (h : ¬ x = v) (hk : v.toInt = k) : x.toInt ≠ k := fun e => h (Int32.toInt_inj.mp (e.trans hk.symm))
theorem look_out {ps : List (Int × Int)} {dflt k : Int} (h : ∀ q ∈ ps, k ≠ q.1) : Op.lookupswitch.offset ps dflt k = dflt := by
  apply Op.lookupswitch.offset_none
  rw [List.find?_eq_none]
  intro q hq e
  exact h q hq (by simpa using e : q.1 = k).symm
theorem kc_m1 : Int32.ofInt (-1) = (-1) := by decide
theorem ks_255 : (Int16.ofInt (255)).toInt32 = (255) := by decide
theorem fl_X11_12_11_0 : FL RX11 12 11 0 := ⟨RX11, TX11, 18, "RegretPit", rfl, by decide, List.mem_of_getElem? (i := 15) (by decide +kernel), inlX11, Or.inl rfl⟩
theorem fl_X11_99_10_0 : FL RX11 99 10 0 := ⟨RX10, TX10, 9, "RegretPit$Text", rfl, by decide, List.mem_of_getElem? (i := 147) (by decide +kernel), inlX10, Or.inl rfl⟩
theorem ks_150 : (Int16.ofInt (150)).toInt32 = (150) := by decide
theorem fl_X10_15_10_0 : FL RX10 15 10 0 := ⟨RX10, TX10, 9, "RegretPit$Text", rfl, by decide, List.mem_of_getElem? (i := 152) (by decide +kernel), inlX10, Or.inl rfl⟩
theorem fl_X10_9_10_1 : FL RX10 9 10 1 := ⟨RX10, TX10, 9, "RegretPit$Text", rfl, by decide, List.mem_of_getElem? (i := 66) (by decide +kernel), inlX10, Or.inl rfl⟩
theorem kc_1 : Int32.ofInt (1) = (1) := by decide
theorem fp_X10_15_10_0 : FP RX10 15 10 0 .int := ⟨RX10, TX10, 9, "RegretPit$Text", tyX10, rfl, by decide, List.mem_of_getElem? (i := 152) (by decide +kernel), inlX10, Or.inl rfl, tyX10_ok, nmX10, rfl, by decide +kernel⟩
theorem wc_X10_adds : CWc yX10_adds cX10_adds 2 none 1 := ⟨List.mem_of_getElem? (i := 151) (by decide +kernel), List.mem_of_getElem? (i := 14) (by decide +kernel), by decide +kernel, by decide⟩
theorem wv_X11_103_X10_adds : CWv RX11 103 yX10_adds cX10_adds 2 none 1 := ⟨wc_X10_adds, List.mem_of_getElem? (i := 148) (by decide +kernel), List.mem_of_getElem? (i := 149) (by decide +kernel), List.mem_of_getElem? (i := 150) (by decide +kernel)⟩
theorem kb_m3 : (Int8.ofInt (-3)).toInt32 = (-3) := by decide
theorem kc_0 : Int32.ofInt (0) = (0) := by decide
theorem fp_X11_99_10_0 : FP RX11 99 10 0 .int := ⟨RX10, TX10, 9, "RegretPit$Text", tyX10, rfl, by decide, List.mem_of_getElem? (i := 147) (by decide +kernel), inlX10, Or.inl rfl, tyX10_ok, nmX10, rfl, by decide +kernel⟩
theorem fl_X11_19_11_1 : FL RX11 19 11 1 := ⟨RX11, TX11, 18, "RegretPit", rfl, by decide, List.mem_of_getElem? (i := 19) (by decide +kernel), inlX11, Or.inl rfl⟩
theorem fp_X0_36_0_0 : FP RX0 36 0 0 .int := ⟨RX0, TX0, 8, "RegretPit$Crew", tyX0, rfl, by decide, List.mem_of_getElem? (i := 189) (by decide +kernel), inlX0, Or.inl rfl, tyX0_ok, nmX0, rfl, by decide +kernel⟩
theorem kc_3 : Int32.ofInt (3) = (3) := by decide
theorem fp_X0_9_0_1 : FP RX0 9 0 1 .int := ⟨RX0, TX0, 8, "RegretPit$Crew", tyX0, rfl, by decide, List.mem_of_getElem? (i := 70) (by decide +kernel), inlX0, Or.inl rfl, tyX0_ok, nmX0, rfl, by decide +kernel⟩
theorem kc_5 : Int32.ofInt (5) = (5) := by decide
theorem fp_X0_15_0_2 : FP RX0 15 0 2 .int := ⟨RX0, TX0, 8, "RegretPit$Crew", tyX0, rfl, by decide, List.mem_of_getElem? (i := 71) (by decide +kernel), inlX0, Or.inl rfl, tyX0_ok, nmX0, rfl, by decide +kernel⟩
theorem kb_6 : (Int8.ofInt (6)).toInt32 = (6) := by decide
theorem fl_X0_27_0_5 : FL RX0 27 0 5 := ⟨RX0, TX0, 8, "RegretPit$Crew", rfl, by decide, List.mem_of_getElem? (i := 75) (by decide +kernel), inlX0, Or.inl rfl⟩
theorem kr_X_6 {i : Int32} (h : vp_in i 6) : SX.1[7 + i.toNatClampNeg]? = some (20, 6, []) := by
  have hlt : i.toNatClampNeg < 6 := Nat.not_le.mp fun q => h (Or.inr q)
  generalize i.toNatClampNeg = k at hlt ⊢
  match k, hlt with
  | 0, _ => rfl
  | 1, _ => rfl
  | 2, _ => rfl
  | 3, _ => rfl
  | 4, _ => rfl
  | 5, _ => rfl
theorem wc_J7_fill_53178 : CWc yJ7_fill_53178 cJ7_fill_53178 4 none 2 := ⟨List.mem_of_getElem? (i := 193) (by decide +kernel), List.mem_of_getElem? (i := 192) (by decide +kernel), by decide +kernel, by decide⟩
theorem wt_X0_39_J7_fill_53178 : CWs RX0 39 yJ7_fill_53178 cJ7_fill_53178 4 none 2 := ⟨wc_J7_fill_53178, List.mem_of_getElem? (i := 190) (by decide +kernel), List.mem_of_getElem? (i := 191) (by decide +kernel)⟩
theorem wc_X0_empties : CWc yX0_empties cX0_empties 2 none 0 := ⟨List.mem_of_getElem? (i := 188) (by decide +kernel), List.mem_of_getElem? (i := 18) (by decide +kernel), by decide +kernel, by decide⟩
theorem wv_X10_19_X0_empties : CWv RX10 19 yX0_empties cX0_empties 2 none 0 := ⟨wc_X0_empties, List.mem_of_getElem? (i := 185) (by decide +kernel), List.mem_of_getElem? (i := 186) (by decide +kernel), List.mem_of_getElem? (i := 187) (by decide +kernel)⟩
theorem fp_X10_24_10_3 : FP RX10 24 10 3 .int := ⟨RX10, TX10, 9, "RegretPit$Text", tyX10, rfl, by decide, List.mem_of_getElem? (i := 179) (by decide +kernel), inlX10, Or.inl rfl, tyX10_ok, nmX10, rfl, by decide +kernel⟩
theorem fp_X10_27_10_6 : FP RX10 27 10 6 .boolean := ⟨RX10, TX10, 9, "RegretPit$Text", tyX10, rfl, by decide, List.mem_of_getElem? (i := 180) (by decide +kernel), inlX10, Or.inl rfl, tyX10_ok, nmX10, rfl, by decide +kernel⟩
theorem fp_X10_31_10_7 : FP RX10 31 10 7 .boolean := ⟨RX10, TX10, 9, "RegretPit$Text", tyX10, rfl, by decide, List.mem_of_getElem? (i := 181) (by decide +kernel), inlX10, Or.inl rfl, tyX10_ok, nmX10, rfl, by decide +kernel⟩
theorem fp_X10_34_10_8 : FP RX10 34 10 8 .boolean := ⟨RX10, TX10, 9, "RegretPit$Text", tyX10, rfl, by decide, List.mem_of_getElem? (i := 182) (by decide +kernel), inlX10, Or.inl rfl, tyX10_ok, nmX10, rfl, by decide +kernel⟩
theorem kb_m10 : (Int8.ofInt (-10)).toInt32 = (-10) := by decide
theorem fl_X10_24_10_3 : FL RX10 24 10 3 := ⟨RX10, TX10, 9, "RegretPit$Text", rfl, by decide, List.mem_of_getElem? (i := 179) (by decide +kernel), inlX10, Or.inl rfl⟩
theorem kb_32 : (Int8.ofInt (32)).toInt32 = (32) := by decide
theorem fp_X10_47_10_2 : FP RX10 47 10 2 .int := ⟨RX10, TX10, 9, "RegretPit$Text", tyX10, rfl, by decide, List.mem_of_getElem? (i := 184) (by decide +kernel), inlX10, Or.inl rfl, tyX10_ok, nmX10, rfl, by decide +kernel⟩
theorem fl_X10_47_10_2 : FL RX10 47 10 2 := ⟨RX10, TX10, 9, "RegretPit$Text", rfl, by decide, List.mem_of_getElem? (i := 184) (by decide +kernel), inlX10, Or.inl rfl⟩
theorem kb_97 : (Int8.ofInt (97)).toInt32 = (97) := by decide
theorem kb_48 : (Int8.ofInt (48)).toInt32 = (48) := by decide
theorem kb_59 : (Int8.ofInt (59)).toInt32 = (59) := by decide
theorem kc_4 : Int32.ofInt (4) = (4) := by decide
theorem kb_57 : (Int8.ofInt (57)).toInt32 = (57) := by decide
theorem kc_2 : Int32.ofInt (2) = (2) := by decide
theorem kb_122 : (Int8.ofInt (122)).toInt32 = (122) := by decide
theorem wc_X10_signAt : CWc yX10_signAt cX10_signAt 3 (some .int) 1 := ⟨List.mem_of_getElem? (i := 201) (by decide +kernel), List.mem_of_getElem? (i := 14) (by decide +kernel), by decide +kernel, by decide⟩
theorem wv_X10_83_X10_signAt : CWv RX10 83 yX10_signAt cX10_signAt 3 (some .int) 1 := ⟨wc_X10_signAt, List.mem_of_getElem? (i := 198) (by decide +kernel), List.mem_of_getElem? (i := 199) (by decide +kernel), List.mem_of_getElem? (i := 200) (by decide +kernel)⟩
theorem fp_X10_40_10_4 : FP RX10 40 10 4 .int := ⟨RX10, TX10, 9, "RegretPit$Text", tyX10, rfl, by decide, List.mem_of_getElem? (i := 183) (by decide +kernel), inlX10, Or.inl rfl, tyX10_ok, nmX10, rfl, by decide +kernel⟩
theorem fl_X10_40_10_4 : FL RX10 40 10 4 := ⟨RX10, TX10, 9, "RegretPit$Text", rfl, by decide, List.mem_of_getElem? (i := 183) (by decide +kernel), inlX10, Or.inl rfl⟩
theorem kb_10 : (Int8.ofInt (10)).toInt32 = (10) := by decide
theorem fp_X10_50_10_5 : FP RX10 50 10 5 .int := ⟨RX10, TX10, 9, "RegretPit$Text", tyX10, rfl, by decide, List.mem_of_getElem? (i := 206) (by decide +kernel), inlX10, Or.inl rfl, tyX10_ok, nmX10, rfl, by decide +kernel⟩
theorem wc_X10_readsValue : CWc yX10_readsValue cX10_readsValue 2 none 1 := ⟨List.mem_of_getElem? (i := 205) (by decide +kernel), List.mem_of_getElem? (i := 14) (by decide +kernel), by decide +kernel, by decide⟩
theorem wv_X10_87_X10_readsValue : CWv RX10 87 yX10_readsValue cX10_readsValue 2 none 1 := ⟨wc_X10_readsValue, List.mem_of_getElem? (i := 202) (by decide +kernel), List.mem_of_getElem? (i := 203) (by decide +kernel), List.mem_of_getElem? (i := 204) (by decide +kernel)⟩
theorem wc_X10_readsToken : CWc yX10_readsToken cX10_readsToken 1 none 0 := ⟨List.mem_of_getElem? (i := 197) (by decide +kernel), List.mem_of_getElem? (i := 14) (by decide +kernel), by decide +kernel, by decide⟩
theorem wv_X10_37_X10_readsToken : CWv RX10 37 yX10_readsToken cX10_readsToken 1 none 0 := ⟨wc_X10_readsToken, List.mem_of_getElem? (i := 194) (by decide +kernel), List.mem_of_getElem? (i := 195) (by decide +kernel), List.mem_of_getElem? (i := 196) (by decide +kernel)⟩
theorem fl_X10_31_10_7 : FL RX10 31 10 7 := ⟨RX10, TX10, 9, "RegretPit$Text", rfl, by decide, List.mem_of_getElem? (i := 181) (by decide +kernel), inlX10, Or.inl rfl⟩
theorem fl_X10_27_10_6 : FL RX10 27 10 6 := ⟨RX10, TX10, 9, "RegretPit$Text", rfl, by decide, List.mem_of_getElem? (i := 180) (by decide +kernel), inlX10, Or.inl rfl⟩
theorem fl_X10_50_10_5 : FL RX10 50 10 5 := ⟨RX10, TX10, 9, "RegretPit$Text", rfl, by decide, List.mem_of_getElem? (i := 206) (by decide +kernel), inlX10, Or.inl rfl⟩
theorem wc_X10_readsNumber : CWc yX10_readsNumber cX10_readsNumber 3 (some .int) 2 := ⟨List.mem_of_getElem? (i := 223) (by decide +kernel), List.mem_of_getElem? (i := 14) (by decide +kernel), by decide +kernel, by decide⟩
theorem wv_X10_60_X10_readsNumber : CWv RX10 60 yX10_readsNumber cX10_readsNumber 3 (some .int) 2 := ⟨wc_X10_readsNumber, List.mem_of_getElem? (i := 220) (by decide +kernel), List.mem_of_getElem? (i := 221) (by decide +kernel), List.mem_of_getElem? (i := 222) (by decide +kernel)⟩
theorem fp_X10_64_0_1 : FP RX10 64 0 1 .int := ⟨RX0, TX0, 8, "RegretPit$Crew", tyX0, rfl, by decide, List.mem_of_getElem? (i := 211) (by decide +kernel), inlX0, Or.inl rfl, tyX0_ok, nmX0, rfl, by decide +kernel⟩
theorem fl_X10_70_0_0 : FL RX10 70 0 0 := ⟨RX0, TX0, 8, "RegretPit$Crew", rfl, by decide, List.mem_of_getElem? (i := 217) (by decide +kernel), inlX0, Or.inl rfl⟩
theorem kb_9 : (Int8.ofInt (9)).toInt32 = (9) := by decide
theorem fl_X10_79_0_5 : FL RX10 79 0 5 := ⟨RX0, TX0, 8, "RegretPit$Crew", rfl, by decide, List.mem_of_getElem? (i := 228) (by decide +kernel), inlX0, Or.inl rfl⟩
theorem wc_X10_readsTwo : CWc yX10_readsTwo cX10_readsTwo 6 none 2 := ⟨List.mem_of_getElem? (i := 227) (by decide +kernel), List.mem_of_getElem? (i := 14) (by decide +kernel), by decide +kernel, by decide⟩
theorem wv_X10_56_X10_readsTwo : CWv RX10 56 yX10_readsTwo cX10_readsTwo 6 none 2 := ⟨wc_X10_readsTwo, List.mem_of_getElem? (i := 224) (by decide +kernel), List.mem_of_getElem? (i := 225) (by decide +kernel), List.mem_of_getElem? (i := 226) (by decide +kernel)⟩
theorem kb_99 : (Int8.ofInt (99)).toInt32 = (99) := by decide
theorem fl_X10_73_0_3 : FL RX10 73 0 3 := ⟨RX0, TX0, 8, "RegretPit$Crew", rfl, by decide, List.mem_of_getElem? (i := 218) (by decide +kernel), inlX0, Or.inl rfl⟩
theorem fl_X10_76_0_4 : FL RX10 76 0 4 := ⟨RX0, TX0, 8, "RegretPit$Crew", rfl, by decide, List.mem_of_getElem? (i := 219) (by decide +kernel), inlX0, Or.inl rfl⟩
theorem fp_X10_70_0_0 : FP RX10 70 0 0 .int := ⟨RX0, TX0, 8, "RegretPit$Crew", tyX0, rfl, by decide, List.mem_of_getElem? (i := 217) (by decide +kernel), inlX0, Or.inl rfl, tyX0_ok, nmX0, rfl, by decide +kernel⟩
theorem wc_X10_readsMan : CWc yX10_readsMan cX10_readsMan 4 none 1 := ⟨List.mem_of_getElem? (i := 216) (by decide +kernel), List.mem_of_getElem? (i := 14) (by decide +kernel), by decide +kernel, by decide⟩
theorem wv_X10_53_X10_readsMan : CWv RX10 53 yX10_readsMan cX10_readsMan 4 none 1 := ⟨wc_X10_readsMan, List.mem_of_getElem? (i := 213) (by decide +kernel), List.mem_of_getElem? (i := 214) (by decide +kernel), List.mem_of_getElem? (i := 215) (by decide +kernel)⟩
theorem fl_X10_34_10_8 : FL RX10 34 10 8 := ⟨RX10, TX10, 9, "RegretPit$Text", rfl, by decide, List.mem_of_getElem? (i := 182) (by decide +kernel), inlX10, Or.inl rfl⟩
theorem kb_50 : (Int8.ofInt (50)).toInt32 = (50) := by decide
theorem fp_X10_67_0_2 : FP RX10 67 0 2 .int := ⟨RX0, TX0, 8, "RegretPit$Crew", tyX0, rfl, by decide, List.mem_of_getElem? (i := 212) (by decide +kernel), inlX0, Or.inl rfl, tyX0_ok, nmX0, rfl, by decide +kernel⟩
theorem wc_X10_readsItem : CWc yX10_readsItem cX10_readsItem 2 none 1 := ⟨List.mem_of_getElem? (i := 210) (by decide +kernel), List.mem_of_getElem? (i := 14) (by decide +kernel), by decide +kernel, by decide⟩
theorem wv_X10_43_X10_readsItem : CWv RX10 43 yX10_readsItem cX10_readsItem 2 none 1 := ⟨wc_X10_readsItem, List.mem_of_getElem? (i := 207) (by decide +kernel), List.mem_of_getElem? (i := 208) (by decide +kernel), List.mem_of_getElem? (i := 209) (by decide +kernel)⟩
theorem wc_X10_reads : CWc yX10_reads cX10_reads 3 (some .int) 1 := ⟨List.mem_of_getElem? (i := 178) (by decide +kernel), List.mem_of_getElem? (i := 14) (by decide +kernel), by decide +kernel, by decide⟩
theorem wv_X11_107_X10_reads : CWv RX11 107 yX10_reads cX10_reads 3 (some .int) 1 := ⟨wc_X10_reads, List.mem_of_getElem? (i := 175) (by decide +kernel), List.mem_of_getElem? (i := 176) (by decide +kernel), List.mem_of_getElem? (i := 177) (by decide +kernel)⟩
theorem fl_X11_23_11_2 : FL RX11 23 11 2 := ⟨RX11, TX11, 18, "RegretPit", rfl, by decide, List.mem_of_getElem? (i := 20) (by decide +kernel), inlX11, Or.inl rfl⟩
theorem fl_X0_36_0_0 : FL RX0 36 0 0 := ⟨RX0, TX0, 8, "RegretPit$Crew", rfl, by decide, List.mem_of_getElem? (i := 189) (by decide +kernel), inlX0, Or.inl rfl⟩
theorem fl_X0_9_0_1 : FL RX0 9 0 1 := ⟨RX0, TX0, 8, "RegretPit$Crew", rfl, by decide, List.mem_of_getElem? (i := 70) (by decide +kernel), inlX0, Or.inl rfl⟩
theorem fl_X0_15_0_2 : FL RX0 15 0 2 := ⟨RX0, TX0, 8, "RegretPit$Crew", rfl, by decide, List.mem_of_getElem? (i := 71) (by decide +kernel), inlX0, Or.inl rfl⟩
theorem fl_X0_18_0_3 : FL RX0 18 0 3 := ⟨RX0, TX0, 8, "RegretPit$Crew", rfl, by decide, List.mem_of_getElem? (i := 72) (by decide +kernel), inlX0, Or.inl rfl⟩
theorem kn_0 : ((0) : Int32).toNatClampNeg = 0 := by decide
theorem kn_6 : ((6) : Int32).toNatClampNeg = 6 := by decide
theorem wcp_X0_45 : CP RX0 45 := ⟨List.mem_of_getElem? (i := 233) (by decide +kernel), List.mem_of_getElem? (i := 234) (by decide +kernel), List.mem_of_getElem? (i := 235) (by decide +kernel), List.mem_of_getElem? (i := 236) (by decide +kernel)⟩
theorem fl_X0_22_0_4 : FL RX0 22 0 4 := ⟨RX0, TX0, 8, "RegretPit$Crew", rfl, by decide, List.mem_of_getElem? (i := 73) (by decide +kernel), inlX0, Or.inl rfl⟩
theorem kr_X_24 {i : Int32} (h : vp_in i 6) : SX.1[25 + i.toNatClampNeg]? = some (20, 6, []) := by
  have hlt : i.toNatClampNeg < 6 := Nat.not_le.mp fun q => h (Or.inr q)
  generalize i.toNatClampNeg = k at hlt ⊢
  match k, hlt with
  | 0, _ => rfl
  | 1, _ => rfl
  | 2, _ => rfl
  | 3, _ => rfl
  | 4, _ => rfl
  | 5, _ => rfl
theorem fl_X0_33_0_7 : FL RX0 33 0 7 := ⟨RX0, TX0, 8, "RegretPit$Crew", rfl, by decide, List.mem_of_getElem? (i := 77) (by decide +kernel), inlX0, Or.inl rfl⟩
theorem fl_X0_30_0_6 : FL RX0 30 0 6 := ⟨RX0, TX0, 8, "RegretPit$Crew", rfl, by decide, List.mem_of_getElem? (i := 76) (by decide +kernel), inlX0, Or.inl rfl⟩
theorem kr_X_31 {i : Int32} (h : vp_in i 6) : SX.1[32 + i.toNatClampNeg]? = some (20, 64, []) := by
  have hlt : i.toNatClampNeg < 6 := Nat.not_le.mp fun q => h (Or.inr q)
  generalize i.toNatClampNeg = k at hlt ⊢
  match k, hlt with
  | 0, _ => rfl
  | 1, _ => rfl
  | 2, _ => rfl
  | 3, _ => rfl
  | 4, _ => rfl
  | 5, _ => rfl
theorem wk_J6_265 : Cond.constant RJ6 265 (1431655765) ∈ wsL_law := List.mem_of_getElem? (i := 253) (by decide +kernel)
theorem wk_J6_266 : Cond.constant RJ6 266 (858993459) ∈ wsL_law := List.mem_of_getElem? (i := 254) (by decide +kernel)
theorem wk_J6_267 : Cond.constant RJ6 267 (252645135) ∈ wsL_law := List.mem_of_getElem? (i := 255) (by decide +kernel)
theorem kb_8 : (Int8.ofInt (8)).toInt32 = (8) := by decide
theorem kb_16 : (Int8.ofInt (16)).toInt32 = (16) := by decide
theorem kb_63 : (Int8.ofInt (63)).toInt32 = (63) := by decide
theorem wc_J6_bitCount_0f7a4 : CWc yJ6_bitCount_0f7a4 cJ6_bitCount_0f7a4 1 (some .int) 1 := ⟨List.mem_of_getElem? (i := 252) (by decide +kernel), List.mem_of_getElem? (i := 251) (by decide +kernel), by decide +kernel, by decide⟩
theorem wt_X0_68_J6_bitCount_0f7a4 : CWs RX0 68 yJ6_bitCount_0f7a4 cJ6_bitCount_0f7a4 1 (some .int) 1 := ⟨wc_J6_bitCount_0f7a4, List.mem_of_getElem? (i := 249) (by decide +kernel), List.mem_of_getElem? (i := 250) (by decide +kernel)⟩
theorem wc_X0_isShift : CWc yX0_isShift cX0_isShift 2 (some .boolean) 1 := ⟨List.mem_of_getElem? (i := 248) (by decide +kernel), List.mem_of_getElem? (i := 18) (by decide +kernel), by decide +kernel, by decide⟩
theorem wv_X0_55_X0_isShift : CWv RX0 55 yX0_isShift cX0_isShift 2 (some .boolean) 1 := ⟨wc_X0_isShift, List.mem_of_getElem? (i := 245) (by decide +kernel), List.mem_of_getElem? (i := 246) (by decide +kernel), List.mem_of_getElem? (i := 247) (by decide +kernel)⟩
theorem wmax_X0_59 : MX RX0 59 := ⟨List.mem_of_getElem? (i := 241) (by decide +kernel), List.mem_of_getElem? (i := 242) (by decide +kernel), List.mem_of_getElem? (i := 243) (by decide +kernel), List.mem_of_getElem? (i := 244) (by decide +kernel)⟩
theorem wc_X0_measures : CWc yX0_measures cX0_measures 5 none 1 := ⟨List.mem_of_getElem? (i := 240) (by decide +kernel), List.mem_of_getElem? (i := 18) (by decide +kernel), by decide +kernel, by decide⟩
theorem wv_X0_51_X0_measures : CWv RX0 51 yX0_measures cX0_measures 5 none 1 := ⟨wc_X0_measures, List.mem_of_getElem? (i := 237) (by decide +kernel), List.mem_of_getElem? (i := 238) (by decide +kernel), List.mem_of_getElem? (i := 239) (by decide +kernel)⟩
theorem wc_X0_becomes : CWc yX0_becomes cX0_becomes 3 none 1 := ⟨List.mem_of_getElem? (i := 232) (by decide +kernel), List.mem_of_getElem? (i := 18) (by decide +kernel), by decide +kernel, by decide⟩
theorem wv_X11_111_X0_becomes : CWv RX11 111 yX0_becomes cX0_becomes 3 none 1 := ⟨wc_X0_becomes, List.mem_of_getElem? (i := 229) (by decide +kernel), List.mem_of_getElem? (i := 230) (by decide +kernel), List.mem_of_getElem? (i := 231) (by decide +kernel)⟩
theorem fl_X11_44_11_6 : FL RX11 44 11 6 := ⟨RX11, TX11, 18, "RegretPit", rfl, by decide, List.mem_of_getElem? (i := 31) (by decide +kernel), inlX11, Or.inl rfl⟩
theorem fp_X5_23_5_4 : FP RX5 23 5 4 .int := ⟨RX5, TX5, 7, "RegretPit$Planner", tyX5, rfl, by decide, List.mem_of_getElem? (i := 260) (by decide +kernel), inlX5, Or.inl rfl, tyX5_ok, nmX5, rfl, by decide +kernel⟩
theorem wc_X5_forgets : CWc yX5_forgets cX5_forgets 1 none 0 := ⟨List.mem_of_getElem? (i := 259) (by decide +kernel), List.mem_of_getElem? (i := 30) (by decide +kernel), by decide +kernel, by decide⟩
theorem wv_X11_115_X5_forgets : CWv RX11 115 yX5_forgets cX5_forgets 1 none 0 := ⟨wc_X5_forgets, List.mem_of_getElem? (i := 256) (by decide +kernel), List.mem_of_getElem? (i := 257) (by decide +kernel), List.mem_of_getElem? (i := 258) (by decide +kernel)⟩
theorem fl_X11_29_11_3 : FL RX11 29 11 3 := ⟨RX11, TX11, 18, "RegretPit", rfl, by decide, List.mem_of_getElem? (i := 24) (by decide +kernel), inlX11, Or.inl rfl⟩
theorem fl_X4_21_0_3 : FL RX4 21 0 3 := ⟨RX0, TX0, 8, "RegretPit$Crew", rfl, by decide, List.mem_of_getElem? (i := 265) (by decide +kernel), inlX0, Or.inl rfl⟩
theorem fl_X4_9_4_0 : FL RX4 9 4 0 := ⟨RX4, TX4, 6, "RegretPit$Now", rfl, by decide, List.mem_of_getElem? (i := 81) (by decide +kernel), inlX4, Or.inl rfl⟩
theorem wcp_X4_24 : CP RX4 24 := ⟨List.mem_of_getElem? (i := 266) (by decide +kernel), List.mem_of_getElem? (i := 234) (by decide +kernel), List.mem_of_getElem? (i := 235) (by decide +kernel), List.mem_of_getElem? (i := 236) (by decide +kernel)⟩
theorem fl_X4_15_4_1 : FL RX4 15 4 1 := ⟨RX4, TX4, 6, "RegretPit$Now", rfl, by decide, List.mem_of_getElem? (i := 82) (by decide +kernel), inlX4, Or.inl rfl⟩
theorem wt_X4_30_J7_fill_53178 : CWs RX4 30 yJ7_fill_53178 cJ7_fill_53178 4 none 2 := ⟨wc_J7_fill_53178, List.mem_of_getElem? (i := 270) (by decide +kernel), List.mem_of_getElem? (i := 191) (by decide +kernel)⟩
theorem fp_X4_36_4_2 : FP RX4 36 4 2 .int := ⟨RX4, TX4, 6, "RegretPit$Now", tyX4, rfl, by decide, List.mem_of_getElem? (i := 267) (by decide +kernel), inlX4, Or.inl rfl, tyX4_ok, nmX4, rfl, by decide +kernel⟩
theorem fp_X4_40_4_3 : FP RX4 40 4 3 .int := ⟨RX4, TX4, 6, "RegretPit$Now", tyX4, rfl, by decide, List.mem_of_getElem? (i := 268) (by decide +kernel), inlX4, Or.inl rfl, tyX4_ok, nmX4, rfl, by decide +kernel⟩
theorem fp_X4_43_4_4 : FP RX4 43 4 4 .int := ⟨RX4, TX4, 6, "RegretPit$Now", tyX4, rfl, by decide, List.mem_of_getElem? (i := 269) (by decide +kernel), inlX4, Or.inl rfl, tyX4_ok, nmX4, rfl, by decide +kernel⟩
theorem wc_X4_begins : CWc yX4_begins cX4_begins 2 none 1 := ⟨List.mem_of_getElem? (i := 264) (by decide +kernel), List.mem_of_getElem? (i := 23) (by decide +kernel), by decide +kernel, by decide⟩
theorem wv_X11_118_X4_begins : CWv RX11 118 yX4_begins cX4_begins 2 none 1 := ⟨wc_X4_begins, List.mem_of_getElem? (i := 261) (by decide +kernel), List.mem_of_getElem? (i := 262) (by decide +kernel), List.mem_of_getElem? (i := 263) (by decide +kernel)⟩
theorem fp_X11_121_11_16 : FP RX11 121 11 16 .int := ⟨RX11, TX11, 18, "RegretPit", tyX11, rfl, by decide, List.mem_of_getElem? (i := 173) (by decide +kernel), inlX11, Or.inl rfl, tyX11_ok, nmX11, rfl, by decide +kernel⟩
theorem fp_X11_124_11_17 : FP RX11 124 11 17 .int := ⟨RX11, TX11, 18, "RegretPit", tyX11, rfl, by decide, List.mem_of_getElem? (i := 174) (by decide +kernel), inlX11, Or.inl rfl, tyX11_ok, nmX11, rfl, by decide +kernel⟩
theorem fl_X11_37_11_5 : FL RX11 37 11 5 := ⟨RX11, TX11, 18, "RegretPit", rfl, by decide, List.mem_of_getElem? (i := 27) (by decide +kernel), inlX11, Or.inl rfl⟩
theorem wc_X0_isMan : CWc yX0_isMan cX0_isMan 2 (some .boolean) 1 := ⟨List.mem_of_getElem? (i := 318) (by decide +kernel), List.mem_of_getElem? (i := 18) (by decide +kernel), by decide +kernel, by decide⟩
theorem wv_X11_127_X0_isMan : CWv RX11 127 yX0_isMan cX0_isMan 2 (some .boolean) 1 := ⟨wc_X0_isMan, List.mem_of_getElem? (i := 315) (by decide +kernel), List.mem_of_getElem? (i := 316) (by decide +kernel), List.mem_of_getElem? (i := 317) (by decide +kernel)⟩
theorem fl_X11_131_4_0 : FL RX11 131 4 0 := ⟨RX4, TX4, 6, "RegretPit$Now", rfl, by decide, List.mem_of_getElem? (i := 312) (by decide +kernel), inlX4, Or.inl rfl⟩
theorem fl_X11_134_0_4 : FL RX11 134 0 4 := ⟨RX0, TX0, 8, "RegretPit$Crew", rfl, by decide, List.mem_of_getElem? (i := 313) (by decide +kernel), inlX0, Or.inl rfl⟩
theorem fl_X11_137_4_1 : FL RX11 137 4 1 := ⟨RX4, TX4, 6, "RegretPit$Now", rfl, by decide, List.mem_of_getElem? (i := 314) (by decide +kernel), inlX4, Or.inl rfl⟩
theorem wv_X0_65_X0_isMan : CWv RX0 65 yX0_isMan cX0_isMan 2 (some .boolean) 1 := ⟨wc_X0_isMan, List.mem_of_getElem? (i := 337) (by decide +kernel), List.mem_of_getElem? (i := 316) (by decide +kernel), List.mem_of_getElem? (i := 317) (by decide +kernel)⟩
theorem wc_X0_areTwo : CWc yX0_areTwo cX0_areTwo 3 (some .boolean) 2 := ⟨List.mem_of_getElem? (i := 336) (by decide +kernel), List.mem_of_getElem? (i := 18) (by decide +kernel), by decide +kernel, by decide⟩
theorem wv_X11_140_X0_areTwo : CWv RX11 140 yX0_areTwo cX0_areTwo 3 (some .boolean) 2 := ⟨wc_X0_areTwo, List.mem_of_getElem? (i := 333) (by decide +kernel), List.mem_of_getElem? (i := 334) (by decide +kernel), List.mem_of_getElem? (i := 335) (by decide +kernel)⟩
theorem wk_X11_148 : Cond.constant RX11 148 (-1000000) ∈ wsL_law := List.mem_of_getElem? (i := 332) (by decide +kernel)
theorem fl_X11_144_0_5 : FL RX11 144 0 5 := ⟨RX0, TX0, 8, "RegretPit$Crew", rfl, by decide, List.mem_of_getElem? (i := 331) (by decide +kernel), inlX0, Or.inl rfl⟩
theorem wv_X11_149_X0_isShift : CWv RX11 149 yX0_isShift cX0_isShift 2 (some .boolean) 1 := ⟨wc_X0_isShift, List.mem_of_getElem? (i := 354) (by decide +kernel), List.mem_of_getElem? (i := 246) (by decide +kernel), List.mem_of_getElem? (i := 247) (by decide +kernel)⟩
theorem fl_X11_152_4_3 : FL RX11 152 4 3 := ⟨RX4, TX4, 6, "RegretPit$Now", rfl, by decide, List.mem_of_getElem? (i := 347) (by decide +kernel), inlX4, Or.inl rfl⟩
theorem ks_300 : (Int16.ofInt (300)).toInt32 = (300) := by decide
theorem fl_X4_43_4_4 : FL RX4 43 4 4 := ⟨RX4, TX4, 6, "RegretPit$Now", rfl, by decide, List.mem_of_getElem? (i := 269) (by decide +kernel), inlX4, Or.inl rfl⟩
theorem kb_14 : (Int8.ofInt (14)).toInt32 = (14) := by decide
theorem fl_X4_18_4_5 : FL RX4 18 4 5 := ⟨RX4, TX4, 6, "RegretPit$Now", rfl, by decide, List.mem_of_getElem? (i := 83) (by decide +kernel), inlX4, Or.inl rfl⟩
theorem fl_X4_36_4_2 : FL RX4 36 4 2 := ⟨RX4, TX4, 6, "RegretPit$Now", rfl, by decide, List.mem_of_getElem? (i := 267) (by decide +kernel), inlX4, Or.inl rfl⟩
theorem fl_X4_40_4_3 : FL RX4 40 4 3 := ⟨RX4, TX4, 6, "RegretPit$Now", rfl, by decide, List.mem_of_getElem? (i := 268) (by decide +kernel), inlX4, Or.inl rfl⟩
theorem kn_14 : ((14) : Int32).toNatClampNeg = 14 := by decide
theorem wc_X4_remembers : CWc yX4_remembers cX4_remembers 2 none 0 := ⟨List.mem_of_getElem? (i := 358) (by decide +kernel), List.mem_of_getElem? (i := 23) (by decide +kernel), by decide +kernel, by decide⟩
theorem wv_X11_155_X4_remembers : CWv RX11 155 yX4_remembers cX4_remembers 2 none 0 := ⟨wc_X4_remembers, List.mem_of_getElem? (i := 355) (by decide +kernel), List.mem_of_getElem? (i := 356) (by decide +kernel), List.mem_of_getElem? (i := 357) (by decide +kernel)⟩
theorem fl_X11_158_0_0 : FL RX11 158 0 0 := ⟨RX0, TX0, 8, "RegretPit$Crew", rfl, by decide, List.mem_of_getElem? (i := 348) (by decide +kernel), inlX0, Or.inl rfl⟩
theorem ks_999 : (Int16.ofInt (999)).toInt32 = (999) := by decide
theorem wc_X0_aheadOfCut : CWc yX0_aheadOfCut cX0_aheadOfCut 5 (some .int) 3 := ⟨List.mem_of_getElem? (i := 366) (by decide +kernel), List.mem_of_getElem? (i := 18) (by decide +kernel), by decide +kernel, by decide⟩
theorem wv_X0_74_X0_aheadOfCut : CWv RX0 74 yX0_aheadOfCut cX0_aheadOfCut 5 (some .int) 3 := ⟨wc_X0_aheadOfCut, List.mem_of_getElem? (i := 363) (by decide +kernel), List.mem_of_getElem? (i := 364) (by decide +kernel), List.mem_of_getElem? (i := 365) (by decide +kernel)⟩
theorem wc_X0_coinsOf : CWc yX0_coinsOf cX0_coinsOf 5 (some .int) 3 := ⟨List.mem_of_getElem? (i := 362) (by decide +kernel), List.mem_of_getElem? (i := 18) (by decide +kernel), by decide +kernel, by decide⟩
theorem wv_X11_161_X0_coinsOf : CWv RX11 161 yX0_coinsOf cX0_coinsOf 5 (some .int) 3 := ⟨wc_X0_coinsOf, List.mem_of_getElem? (i := 359) (by decide +kernel), List.mem_of_getElem? (i := 360) (by decide +kernel), List.mem_of_getElem? (i := 361) (by decide +kernel)⟩
theorem wmin_X0_78 : MN RX0 78 := ⟨List.mem_of_getElem? (i := 371) (by decide +kernel), List.mem_of_getElem? (i := 352) (by decide +kernel), List.mem_of_getElem? (i := 243) (by decide +kernel), List.mem_of_getElem? (i := 353) (by decide +kernel)⟩
theorem wc_X0_lives : CWc yX0_lives cX0_lives 6 none 3 := ⟨List.mem_of_getElem? (i := 370) (by decide +kernel), List.mem_of_getElem? (i := 18) (by decide +kernel), by decide +kernel, by decide⟩
theorem wv_X11_165_X0_lives : CWv RX11 165 yX0_lives cX0_lives 6 none 3 := ⟨wc_X0_lives, List.mem_of_getElem? (i := 367) (by decide +kernel), List.mem_of_getElem? (i := 368) (by decide +kernel), List.mem_of_getElem? (i := 369) (by decide +kernel)⟩
theorem wk_X11_169 : Cond.constant RX11 169 (999999) ∈ wsL_law := List.mem_of_getElem? (i := 349) (by decide +kernel)
theorem fl_X11_170_4_2 : FL RX11 170 4 2 := ⟨RX4, TX4, 6, "RegretPit$Now", rfl, by decide, List.mem_of_getElem? (i := 350) (by decide +kernel), inlX4, Or.inl rfl⟩
theorem wmin_X11_173 : MN RX11 173 := ⟨List.mem_of_getElem? (i := 351) (by decide +kernel), List.mem_of_getElem? (i := 352) (by decide +kernel), List.mem_of_getElem? (i := 243) (by decide +kernel), List.mem_of_getElem? (i := 353) (by decide +kernel)⟩
theorem fp_X11_170_4_2 : FP RX11 170 4 2 .int := ⟨RX4, TX4, 6, "RegretPit$Now", tyX4, rfl, by decide, List.mem_of_getElem? (i := 350) (by decide +kernel), inlX4, Or.inl rfl, tyX4_ok, nmX4, rfl, by decide +kernel⟩
theorem fp_X11_152_4_3 : FP RX11 152 4 3 .int := ⟨RX4, TX4, 6, "RegretPit$Now", tyX4, rfl, by decide, List.mem_of_getElem? (i := 347) (by decide +kernel), inlX4, Or.inl rfl, tyX4_ok, nmX4, rfl, by decide +kernel⟩
theorem kb_m2 : (Int8.ofInt (-2)).toInt32 = (-2) := by decide
theorem fl_X11_179_4_4 : FL RX11 179 4 4 := ⟨RX4, TX4, 6, "RegretPit$Now", rfl, by decide, List.mem_of_getElem? (i := 435) (by decide +kernel), inlX4, Or.inl rfl⟩
theorem wc_X4_recalls : CWc yX4_recalls cX4_recalls 2 none 0 := ⟨List.mem_of_getElem? (i := 439) (by decide +kernel), List.mem_of_getElem? (i := 23) (by decide +kernel), by decide +kernel, by decide⟩
theorem wv_X11_182_X4_recalls : CWv RX11 182 yX4_recalls cX4_recalls 2 none 0 := ⟨wc_X4_recalls, List.mem_of_getElem? (i := 436) (by decide +kernel), List.mem_of_getElem? (i := 437) (by decide +kernel), List.mem_of_getElem? (i := 438) (by decide +kernel)⟩
theorem wc_X11_sumOf : CWc yX11_sumOf cX11_sumOf 4 (some .int) 1 := ⟨List.mem_of_getElem? (i := 451) (by decide +kernel), List.mem_of_getElem? (i := 2) (by decide +kernel), by decide +kernel, by decide⟩
theorem wv_X11_185_X11_sumOf : CWv RX11 185 yX11_sumOf cX11_sumOf 4 (some .int) 1 := ⟨wc_X11_sumOf, List.mem_of_getElem? (i := 448) (by decide +kernel), List.mem_of_getElem? (i := 449) (by decide +kernel), List.mem_of_getElem? (i := 450) (by decide +kernel)⟩
theorem wmax_X11_193 : MX RX11 193 := ⟨List.mem_of_getElem? (i := 456) (by decide +kernel), List.mem_of_getElem? (i := 242) (by decide +kernel), List.mem_of_getElem? (i := 243) (by decide +kernel), List.mem_of_getElem? (i := 244) (by decide +kernel)⟩
theorem wc_X11_payForAll : CWc yX11_payForAll cX11_payForAll 3 (some .int) 0 := ⟨List.mem_of_getElem? (i := 455) (by decide +kernel), List.mem_of_getElem? (i := 2) (by decide +kernel), by decide +kernel, by decide⟩
theorem wv_X11_189_X11_payForAll : CWv RX11 189 yX11_payForAll cX11_payForAll 3 (some .int) 0 := ⟨wc_X11_payForAll, List.mem_of_getElem? (i := 452) (by decide +kernel), List.mem_of_getElem? (i := 453) (by decide +kernel), List.mem_of_getElem? (i := 454) (by decide +kernel)⟩
theorem wv_X0_81_X0_coinsOf : CWv RX0 81 yX0_coinsOf cX0_coinsOf 5 (some .int) 3 := ⟨wc_X0_coinsOf, List.mem_of_getElem? (i := 469) (by decide +kernel), List.mem_of_getElem? (i := 360) (by decide +kernel), List.mem_of_getElem? (i := 361) (by decide +kernel)⟩
theorem wc_X0_brings : CWc yX0_brings cX0_brings 5 (some .int) 2 := ⟨List.mem_of_getElem? (i := 468) (by decide +kernel), List.mem_of_getElem? (i := 18) (by decide +kernel), by decide +kernel, by decide⟩
theorem wv_X11_196_X0_brings : CWv RX11 196 yX0_brings cX0_brings 5 (some .int) 2 := ⟨wc_X0_brings, List.mem_of_getElem? (i := 465) (by decide +kernel), List.mem_of_getElem? (i := 466) (by decide +kernel), List.mem_of_getElem? (i := 467) (by decide +kernel)⟩
theorem fl_X5_23_5_4 : FL RX5 23 5 4 := ⟨RX5, TX5, 7, "RegretPit$Planner", rfl, by decide, List.mem_of_getElem? (i := 260) (by decide +kernel), inlX5, Or.inl rfl⟩
theorem fp_X5_27_5_5 : FP RX5 27 5 5 .int := ⟨RX5, TX5, 7, "RegretPit$Planner", tyX5, rfl, by decide, List.mem_of_getElem? (i := 493) (by decide +kernel), inlX5, Or.inl rfl, tyX5_ok, nmX5, rfl, by decide +kernel⟩
theorem fp_X5_34_5_0 : FP RX5 34 5 0 .int := ⟨RX5, TX5, 7, "RegretPit$Planner", tyX5, rfl, by decide, List.mem_of_getElem? (i := 494) (by decide +kernel), inlX5, Or.inl rfl, tyX5_ok, nmX5, rfl, by decide +kernel⟩
theorem fp_X5_37_5_6 : FP RX5 37 5 6 .int := ⟨RX5, TX5, 7, "RegretPit$Planner", tyX5, rfl, by decide, List.mem_of_getElem? (i := 495) (by decide +kernel), inlX5, Or.inl rfl, tyX5_ok, nmX5, rfl, by decide +kernel⟩
theorem fl_X5_40_0_0 : FL RX5 40 0 0 := ⟨RX0, TX0, 8, "RegretPit$Crew", rfl, by decide, List.mem_of_getElem? (i := 496) (by decide +kernel), inlX0, Or.inl rfl⟩
theorem fl_X5_17_5_2 : FL RX5 17 5 2 := ⟨RX5, TX5, 7, "RegretPit$Planner", rfl, by decide, List.mem_of_getElem? (i := 89) (by decide +kernel), inlX5, Or.inl rfl⟩
theorem ki_0_4 : vp_in (0) 4 := by unfold vp_in; decide
theorem fl_X5_37_5_6 : FL RX5 37 5 6 := ⟨RX5, TX5, 7, "RegretPit$Planner", rfl, by decide, List.mem_of_getElem? (i := 495) (by decide +kernel), inlX5, Or.inl rfl⟩
theorem fl_X5_34_5_0 : FL RX5 34 5 0 := ⟨RX5, TX5, 7, "RegretPit$Planner", rfl, by decide, List.mem_of_getElem? (i := 494) (by decide +kernel), inlX5, Or.inl rfl⟩
theorem fl_X5_20_5_3 : FL RX5 20 5 3 := ⟨RX5, TX5, 7, "RegretPit$Planner", rfl, by decide, List.mem_of_getElem? (i := 90) (by decide +kernel), inlX5, Or.inl rfl⟩
theorem fl_X5_9_5_1 : FL RX5 9 5 1 := ⟨RX5, TX5, 7, "RegretPit$Planner", rfl, by decide, List.mem_of_getElem? (i := 87) (by decide +kernel), inlX5, Or.inl rfl⟩
theorem kn_3 : ((3) : Int32).toNatClampNeg = 3 := by decide
theorem wcp_X5_72 : CP RX5 72 := ⟨List.mem_of_getElem? (i := 509) (by decide +kernel), List.mem_of_getElem? (i := 234) (by decide +kernel), List.mem_of_getElem? (i := 235) (by decide +kernel), List.mem_of_getElem? (i := 236) (by decide +kernel)⟩
theorem wc_X5_takes : CWc yX5_takes cX5_takes 2 none 1 := ⟨List.mem_of_getElem? (i := 508) (by decide +kernel), List.mem_of_getElem? (i := 30) (by decide +kernel), by decide +kernel, by decide⟩
theorem wv_X5_49_X5_takes : CWv RX5 49 yX5_takes cX5_takes 2 none 1 := ⟨wc_X5_takes, List.mem_of_getElem? (i := 505) (by decide +kernel), List.mem_of_getElem? (i := 506) (by decide +kernel), List.mem_of_getElem? (i := 507) (by decide +kernel)⟩
theorem wv_X5_57_X0_isShift : CWv RX5 57 yX0_isShift cX0_isShift 2 (some .boolean) 1 := ⟨wc_X0_isShift, List.mem_of_getElem? (i := 519) (by decide +kernel), List.mem_of_getElem? (i := 246) (by decide +kernel), List.mem_of_getElem? (i := 247) (by decide +kernel)⟩
theorem kr_X_55 {i : Int32} (h : vp_in i 4) : SX.1[56 + i.toNatClampNeg]? = some (20, 6, []) := by
  have hlt : i.toNatClampNeg < 4 := Nat.not_le.mp fun q => h (Or.inr q)
  generalize i.toNatClampNeg = k at hlt ⊢
  match k, hlt with
  | 0, _ => rfl
  | 1, _ => rfl
  | 2, _ => rfl
  | 3, _ => rfl
theorem wv_X5_61_X0_brings : CWv RX5 61 yX0_brings cX0_brings 5 (some .int) 2 := ⟨wc_X0_brings, List.mem_of_getElem? (i := 520) (by decide +kernel), List.mem_of_getElem? (i := 466) (by decide +kernel), List.mem_of_getElem? (i := 467) (by decide +kernel)⟩
theorem wv_X5_65_X0_lives : CWv RX5 65 yX0_lives cX0_lives 6 none 3 := ⟨wc_X0_lives, List.mem_of_getElem? (i := 521) (by decide +kernel), List.mem_of_getElem? (i := 368) (by decide +kernel), List.mem_of_getElem? (i := 369) (by decide +kernel)⟩
theorem fl_X5_27_5_5 : FL RX5 27 5 5 := ⟨RX5, TX5, 7, "RegretPit$Planner", rfl, by decide, List.mem_of_getElem? (i := 493) (by decide +kernel), inlX5, Or.inl rfl⟩
theorem wc_X5_holds : CWc yX5_holds cX5_holds 4 (some .boolean) 2 := ⟨List.mem_of_getElem? (i := 525) (by decide +kernel), List.mem_of_getElem? (i := 30) (by decide +kernel), by decide +kernel, by decide⟩
theorem wv_X5_69_X5_holds : CWv RX5 69 yX5_holds cX5_holds 4 (some .boolean) 2 := ⟨wc_X5_holds, List.mem_of_getElem? (i := 522) (by decide +kernel), List.mem_of_getElem? (i := 523) (by decide +kernel), List.mem_of_getElem? (i := 524) (by decide +kernel)⟩
theorem wc_X5_looks : CWc yX5_looks cX5_looks 7 none 3 := ⟨List.mem_of_getElem? (i := 504) (by decide +kernel), List.mem_of_getElem? (i := 30) (by decide +kernel), by decide +kernel, by decide⟩
theorem wv_X5_45_X5_looks : CWv RX5 45 yX5_looks cX5_looks 7 none 3 := ⟨wc_X5_looks, List.mem_of_getElem? (i := 501) (by decide +kernel), List.mem_of_getElem? (i := 502) (by decide +kernel), List.mem_of_getElem? (i := 503) (by decide +kernel)⟩
theorem fl_X5_78_0_1 : FL RX5 78 0 1 := ⟨RX0, TX0, 8, "RegretPit$Crew", rfl, by decide, List.mem_of_getElem? (i := 514) (by decide +kernel), inlX0, Or.inl rfl⟩
theorem wc_X0_coinsAtMost : CWc yX0_coinsAtMost cX0_coinsAtMost 4 (some .int) 2 := ⟨List.mem_of_getElem? (i := 518) (by decide +kernel), List.mem_of_getElem? (i := 18) (by decide +kernel), by decide +kernel, by decide⟩
theorem wv_X5_81_X0_coinsAtMost : CWv RX5 81 yX0_coinsAtMost cX0_coinsAtMost 4 (some .int) 2 := ⟨wc_X0_coinsAtMost, List.mem_of_getElem? (i := 515) (by decide +kernel), List.mem_of_getElem? (i := 516) (by decide +kernel), List.mem_of_getElem? (i := 517) (by decide +kernel)⟩
theorem wc_X5_ceiling : CWc yX5_ceiling cX5_ceiling 10 (some .int) 2 := ⟨List.mem_of_getElem? (i := 513) (by decide +kernel), List.mem_of_getElem? (i := 30) (by decide +kernel), by decide +kernel, by decide⟩
theorem wv_X5_53_X5_ceiling : CWv RX5 53 yX5_ceiling cX5_ceiling 10 (some .int) 2 := ⟨wc_X5_ceiling, List.mem_of_getElem? (i := 510) (by decide +kernel), List.mem_of_getElem? (i := 511) (by decide +kernel), List.mem_of_getElem? (i := 512) (by decide +kernel)⟩
theorem wc_X5_isStart : CWc yX5_isStart cX5_isStart 4 (some .boolean) 2 := ⟨List.mem_of_getElem? (i := 500) (by decide +kernel), List.mem_of_getElem? (i := 30) (by decide +kernel), by decide +kernel, by decide⟩
theorem wv_X5_30_X5_isStart : CWv RX5 30 yX5_isStart cX5_isStart 4 (some .boolean) 2 := ⟨wc_X5_isStart, List.mem_of_getElem? (i := 497) (by decide +kernel), List.mem_of_getElem? (i := 498) (by decide +kernel), List.mem_of_getElem? (i := 499) (by decide +kernel)⟩
theorem wc_X5_searches : CWc yX5_searches cX5_searches 6 none 4 := ⟨List.mem_of_getElem? (i := 492) (by decide +kernel), List.mem_of_getElem? (i := 30) (by decide +kernel), by decide +kernel, by decide⟩
theorem wv_X11_200_X5_searches : CWv RX11 200 yX5_searches cX5_searches 6 none 4 := ⟨wc_X5_searches, List.mem_of_getElem? (i := 489) (by decide +kernel), List.mem_of_getElem? (i := 490) (by decide +kernel), List.mem_of_getElem? (i := 491) (by decide +kernel)⟩
theorem fl_X11_207_5_1 : FL RX11 207 5 1 := ⟨RX5, TX5, 7, "RegretPit$Planner", rfl, by decide, List.mem_of_getElem? (i := 488) (by decide +kernel), inlX5, Or.inl rfl⟩
theorem fl_X11_204_5_0 : FL RX11 204 5 0 := ⟨RX5, TX5, 7, "RegretPit$Planner", rfl, by decide, List.mem_of_getElem? (i := 487) (by decide +kernel), inlX5, Or.inl rfl⟩
theorem kb_m9 : (Int8.ofInt (-9)).toInt32 = (-9) := by decide
theorem fl_X11_77_11_9 : FL RX11 77 11 9 := ⟨RX11, TX11, 18, "RegretPit", rfl, by decide, List.mem_of_getElem? (i := 56) (by decide +kernel), inlX11, Or.inl rfl⟩
theorem wcp_X11_210 : CP RX11 210 := ⟨List.mem_of_getElem? (i := 538) (by decide +kernel), List.mem_of_getElem? (i := 234) (by decide +kernel), List.mem_of_getElem? (i := 235) (by decide +kernel), List.mem_of_getElem? (i := 236) (by decide +kernel)⟩
theorem kb_60 : (Int8.ofInt (60)).toInt32 = (60) := by decide
theorem wc_X0_pullOf : CWc yX0_pullOf cX0_pullOf 3 (some .int) 2 := ⟨List.mem_of_getElem? (i := 558) (by decide +kernel), List.mem_of_getElem? (i := 18) (by decide +kernel), by decide +kernel, by decide⟩
theorem wv_X11_216_X0_pullOf : CWv RX11 216 yX0_pullOf cX0_pullOf 3 (some .int) 2 := ⟨wc_X0_pullOf, List.mem_of_getElem? (i := 555) (by decide +kernel), List.mem_of_getElem? (i := 556) (by decide +kernel), List.mem_of_getElem? (i := 557) (by decide +kernel)⟩
theorem fl_X11_51_11_7 : FL RX11 51 11 7 := ⟨RX11, TX11, 18, "RegretPit", rfl, by decide, List.mem_of_getElem? (i := 35) (by decide +kernel), inlX11, Or.inl rfl⟩
theorem fp_X3_18_3_0 : FP RX3 18 3 0 .int := ⟨RX3, TX3, 3, "RegretPit$Matcher", tyX3, rfl, by decide, List.mem_of_getElem? (i := 573) (by decide +kernel), inlX3, Or.inl rfl, tyX3_ok, nmX3, rfl, by decide +kernel⟩
theorem fl_X3_15_3_2 : FL RX3 15 3 2 := ⟨RX3, TX3, 3, "RegretPit$Matcher", rfl, by decide, List.mem_of_getElem? (i := 95) (by decide +kernel), inlX3, Or.inl rfl⟩
theorem wt_X3_22_J7_fill_53178 : CWs RX3 22 yJ7_fill_53178 cJ7_fill_53178 4 none 2 := ⟨wc_J7_fill_53178, List.mem_of_getElem? (i := 574) (by decide +kernel), List.mem_of_getElem? (i := 191) (by decide +kernel)⟩
theorem fl_X3_32_0_0 : FL RX3 32 0 0 := ⟨RX0, TX0, 8, "RegretPit$Crew", rfl, by decide, List.mem_of_getElem? (i := 579) (by decide +kernel), inlX0, Or.inl rfl⟩
theorem fl_X3_18_3_0 : FL RX3 18 3 0 := ⟨RX3, TX3, 3, "RegretPit$Matcher", rfl, by decide, List.mem_of_getElem? (i := 573) (by decide +kernel), inlX3, Or.inl rfl⟩
theorem fl_X3_9_3_1 : FL RX3 9 3 1 := ⟨RX3, TX3, 3, "RegretPit$Matcher", rfl, by decide, List.mem_of_getElem? (i := 94) (by decide +kernel), inlX3, Or.inl rfl⟩
theorem wcp_X3_45 : CP RX3 45 := ⟨List.mem_of_getElem? (i := 585) (by decide +kernel), List.mem_of_getElem? (i := 234) (by decide +kernel), List.mem_of_getElem? (i := 235) (by decide +kernel), List.mem_of_getElem? (i := 236) (by decide +kernel)⟩
theorem wc_X3_takes : CWc yX3_takes cX3_takes 2 none 1 := ⟨List.mem_of_getElem? (i := 584) (by decide +kernel), List.mem_of_getElem? (i := 34) (by decide +kernel), by decide +kernel, by decide⟩
theorem wv_X3_37_X3_takes : CWv RX3 37 yX3_takes cX3_takes 2 none 1 := ⟨wc_X3_takes, List.mem_of_getElem? (i := 581) (by decide +kernel), List.mem_of_getElem? (i := 582) (by decide +kernel), List.mem_of_getElem? (i := 583) (by decide +kernel)⟩
theorem wc_X3_looks : CWc yX3_looks cX3_looks 5 none 3 := ⟨List.mem_of_getElem? (i := 578) (by decide +kernel), List.mem_of_getElem? (i := 34) (by decide +kernel), by decide +kernel, by decide⟩
theorem wv_X3_28_X3_looks : CWv RX3 28 yX3_looks cX3_looks 5 none 3 := ⟨wc_X3_looks, List.mem_of_getElem? (i := 575) (by decide +kernel), List.mem_of_getElem? (i := 576) (by decide +kernel), List.mem_of_getElem? (i := 577) (by decide +kernel)⟩
theorem fl_X3_41_0_5 : FL RX3 41 0 5 := ⟨RX0, TX0, 8, "RegretPit$Crew", rfl, by decide, List.mem_of_getElem? (i := 580) (by decide +kernel), inlX0, Or.inl rfl⟩
theorem wc_X3_searches : CWc yX3_searches cX3_searches 2 none 1 := ⟨List.mem_of_getElem? (i := 572) (by decide +kernel), List.mem_of_getElem? (i := 34) (by decide +kernel), by decide +kernel, by decide⟩
theorem wv_X11_219_X3_searches : CWv RX11 219 yX3_searches cX3_searches 2 none 1 := ⟨wc_X3_searches, List.mem_of_getElem? (i := 569) (by decide +kernel), List.mem_of_getElem? (i := 570) (by decide +kernel), List.mem_of_getElem? (i := 571) (by decide +kernel)⟩
theorem fl_X11_222_3_1 : FL RX11 222 3 1 := ⟨RX3, TX3, 3, "RegretPit$Matcher", rfl, by decide, List.mem_of_getElem? (i := 568) (by decide +kernel), inlX3, Or.inl rfl⟩
theorem fl_X11_221_3_0 : FL RX11 221 3 0 := ⟨RX3, TX3, 3, "RegretPit$Matcher", rfl, by decide, List.mem_of_getElem? (i := 567) (by decide +kernel), inlX3, Or.inl rfl⟩
theorem ks_499 : (Int16.ofInt (499)).toInt32 = (499) := by decide
theorem fl_X11_121_11_16 : FL RX11 121 11 16 := ⟨RX11, TX11, 18, "RegretPit", rfl, by decide, List.mem_of_getElem? (i := 173) (by decide +kernel), inlX11, Or.inl rfl⟩
theorem fl_X11_81_11_10 : FL RX11 81 11 10 := ⟨RX11, TX11, 18, "RegretPit", rfl, by decide, List.mem_of_getElem? (i := 57) (by decide +kernel), inlX11, Or.inl rfl⟩
theorem fl_X11_84_11_11 : FL RX11 84 11 11 := ⟨RX11, TX11, 18, "RegretPit", rfl, by decide, List.mem_of_getElem? (i := 58) (by decide +kernel), inlX11, Or.inl rfl⟩
theorem fl_X11_124_11_17 : FL RX11 124 11 17 := ⟨RX11, TX11, 18, "RegretPit", rfl, by decide, List.mem_of_getElem? (i := 174) (by decide +kernel), inlX11, Or.inl rfl⟩
theorem wc_X0_cutOf : CWc yX0_cutOf cX0_cutOf 4 (some .int) 3 := ⟨List.mem_of_getElem? (i := 621) (by decide +kernel), List.mem_of_getElem? (i := 18) (by decide +kernel), by decide +kernel, by decide⟩
theorem wv_X11_228_X0_cutOf : CWv RX11 228 yX0_cutOf cX0_cutOf 4 (some .int) 3 := ⟨wc_X0_cutOf, List.mem_of_getElem? (i := 618) (by decide +kernel), List.mem_of_getElem? (i := 619) (by decide +kernel), List.mem_of_getElem? (i := 620) (by decide +kernel)⟩
theorem wc_X11_isLitBy : CWc yX11_isLitBy cX11_isLitBy 4 (some .boolean) 1 := ⟨List.mem_of_getElem? (i := 617) (by decide +kernel), List.mem_of_getElem? (i := 2) (by decide +kernel), by decide +kernel, by decide⟩
theorem wv_X11_225_X11_isLitBy : CWv RX11 225 yX11_isLitBy cX11_isLitBy 4 (some .boolean) 1 := ⟨wc_X11_isLitBy, List.mem_of_getElem? (i := 614) (by decide +kernel), List.mem_of_getElem? (i := 615) (by decide +kernel), List.mem_of_getElem? (i := 616) (by decide +kernel)⟩
theorem wc_X11_heapOf : CWc yX11_heapOf cX11_heapOf 4 (some .int) 1 := ⟨List.mem_of_getElem? (i := 633) (by decide +kernel), List.mem_of_getElem? (i := 2) (by decide +kernel), by decide +kernel, by decide⟩
theorem wv_X11_231_X11_heapOf : CWv RX11 231 yX11_heapOf cX11_heapOf 4 (some .int) 1 := ⟨wc_X11_heapOf, List.mem_of_getElem? (i := 630) (by decide +kernel), List.mem_of_getElem? (i := 631) (by decide +kernel), List.mem_of_getElem? (i := 632) (by decide +kernel)⟩
theorem ks_299 : (Int16.ofInt (299)).toInt32 = (299) := by decide
theorem fl_X11_87_11_12 : FL RX11 87 11 12 := ⟨RX11, TX11, 18, "RegretPit", rfl, by decide, List.mem_of_getElem? (i := 59) (by decide +kernel), inlX11, Or.inl rfl⟩
theorem fl_X11_90_11_13 : FL RX11 90 11 13 := ⟨RX11, TX11, 18, "RegretPit", rfl, by decide, List.mem_of_getElem? (i := 60) (by decide +kernel), inlX11, Or.inl rfl⟩
theorem kb_100 : (Int8.ofInt (100)).toInt32 = (100) := by decide
theorem wc_X11_lawOf : CWc yX11_lawOf cX11_lawOf 2 (some .int) 2 := ⟨List.mem_of_getElem? (i := 656) (by decide +kernel), List.mem_of_getElem? (i := 2) (by decide +kernel), by decide +kernel, by decide⟩
theorem wt_X11_241_X11_lawOf : CWs RX11 241 yX11_lawOf cX11_lawOf 2 (some .int) 2 := ⟨wc_X11_lawOf, List.mem_of_getElem? (i := 654) (by decide +kernel), List.mem_of_getElem? (i := 655) (by decide +kernel)⟩
theorem fl_X11_93_11_14 : FL RX11 93 11 14 := ⟨RX11, TX11, 18, "RegretPit", rfl, by decide, List.mem_of_getElem? (i := 61) (by decide +kernel), inlX11, Or.inl rfl⟩
theorem wc_X11_gathersFitting : CWc yX11_gathersFitting cX11_gathersFitting 5 (some .int) 0 := ⟨List.mem_of_getElem? (i := 653) (by decide +kernel), List.mem_of_getElem? (i := 2) (by decide +kernel), by decide +kernel, by decide⟩
theorem wv_X11_235_X11_gathersFitting : CWv RX11 235 yX11_gathersFitting cX11_gathersFitting 5 (some .int) 0 := ⟨wc_X11_gathersFitting, List.mem_of_getElem? (i := 650) (by decide +kernel), List.mem_of_getElem? (i := 651) (by decide +kernel), List.mem_of_getElem? (i := 652) (by decide +kernel)⟩
theorem fl_X11_96_11_15 : FL RX11 96 11 15 := ⟨RX11, TX11, 18, "RegretPit", rfl, by decide, List.mem_of_getElem? (i := 62) (by decide +kernel), inlX11, Or.inl rfl⟩
theorem wt_X11_244_J7_fill_53178 : CWs RX11 244 yJ7_fill_53178 cJ7_fill_53178 4 none 2 := ⟨wc_J7_fill_53178, List.mem_of_getElem? (i := 661) (by decide +kernel), List.mem_of_getElem? (i := 191) (by decide +kernel)⟩
theorem wc_X11_mostTelling : CWc yX11_mostTelling cX11_mostTelling 8 (some .int) 1 := ⟨List.mem_of_getElem? (i := 660) (by decide +kernel), List.mem_of_getElem? (i := 2) (by decide +kernel), by decide +kernel, by decide⟩
theorem wv_X11_238_X11_mostTelling : CWv RX11 238 yX11_mostTelling cX11_mostTelling 8 (some .int) 1 := ⟨wc_X11_mostTelling, List.mem_of_getElem? (i := 657) (by decide +kernel), List.mem_of_getElem? (i := 658) (by decide +kernel), List.mem_of_getElem? (i := 659) (by decide +kernel)⟩
theorem ki_0_100 : vp_in (0) 100 := by unfold vp_in; decide
theorem kb_64 : (Int8.ofInt (64)).toInt32 = (64) := by decide
theorem wc_X11_commonOf : CWc yX11_commonOf cX11_commonOf 6 (some .int) 2 := ⟨List.mem_of_getElem? (i := 683) (by decide +kernel), List.mem_of_getElem? (i := 2) (by decide +kernel), by decide +kernel, by decide⟩
theorem wt_X11_250_X11_commonOf : CWs RX11 250 yX11_commonOf cX11_commonOf 6 (some .int) 2 := ⟨wc_X11_commonOf, List.mem_of_getElem? (i := 681) (by decide +kernel), List.mem_of_getElem? (i := 682) (by decide +kernel)⟩
theorem fl_X11_73_11_8 : FL RX11 73 11 8 := ⟨RX11, TX11, 18, "RegretPit", rfl, by decide, List.mem_of_getElem? (i := 54) (by decide +kernel), inlX11, Or.inl rfl⟩
theorem kx_6 {i : Int32} (h : vp_in i 6) : i = 0 ∨ i = 1 ∨ i = 2 ∨ i = 3 ∨ i = 4 ∨ i = 5 := by
  obtain ⟨k, hk, rfl⟩ := vp_in_of h (by decide)
  match k, hk with
  | 0, _ => exact Or.inl rfl
  | 1, _ => exact Or.inr (Or.inl rfl)
  | 2, _ => exact Or.inr (Or.inr (Or.inl rfl))
  | 3, _ => exact Or.inr (Or.inr (Or.inr (Or.inl rfl)))
  | 4, _ => exact Or.inr (Or.inr (Or.inr (Or.inr (Or.inl rfl))))
  | 5, _ => exact Or.inr (Or.inr (Or.inr (Or.inr (Or.inr (rfl)))))
theorem fl_X2_7_2_0 : FL RX2 7 2 0 := ⟨RX2, TX2, 1, "RegretPit$Lump", rfl, by decide, List.mem_of_getElem? (i := 706) (by decide +kernel), inlX2, Or.inl rfl⟩
theorem fp_X2_7_2_0 : FP RX2 7 2 0 .long := ⟨RX2, TX2, 1, "RegretPit$Lump", tyX2, rfl, by decide, List.mem_of_getElem? (i := 706) (by decide +kernel), inlX2, Or.inl rfl, tyX2_ok, nmX2, rfl, by decide +kernel⟩
theorem ko_1_0_1 : ∀ j, j ≠ 0 → ([1] : List Nat)[j]? ≠ some 1 := by
  intro j hj h
  have hl : j < 1 := (List.getElem?_eq_some_iff.mp h).1
  match j, hl, hj, h with
  | 0, _, hj, h => exact hj rfl
theorem fl_X2_13_4_0 : FL RX2 13 4 0 := ⟨RX4, TX4, 6, "RegretPit$Now", rfl, by decide, List.mem_of_getElem? (i := 707) (by decide +kernel), inlX4, Or.inl rfl⟩
theorem wc_X2_worth : CWc yX2_worth cX2_worth 4 (some .int) 3 := ⟨List.mem_of_getElem? (i := 705) (by decide +kernel), List.mem_of_getElem? (i := 38) (by decide +kernel), by decide +kernel, by decide⟩
theorem wv_X11_253_X2_worth : CWv RX11 253 yX2_worth cX2_worth 4 (some .int) 3 := ⟨wc_X2_worth, List.mem_of_getElem? (i := 708) (by decide +kernel), List.mem_of_getElem? (i := 704) (by decide +kernel), List.mem_of_getElem? (i := 709) (by decide +kernel)⟩
theorem fl_X9_7_9_0 : FL RX9 7 9 0 := ⟨RX9, TX9, 1, "RegretPit$Sigh", rfl, by decide, List.mem_of_getElem? (i := 730) (by decide +kernel), inlX9, Or.inr (List.mem_of_getElem? (i := 731) (by decide +kernel))⟩
theorem wl_X9_13 : Cond.constantLong RX9 13 (10) ∈ wsL_law := List.mem_of_getElem? (i := 732) (by decide +kernel)
theorem fp_X9_7_9_0 : FP RX9 7 9 0 .long := ⟨RX9, TX9, 1, "RegretPit$Sigh", tyX9, rfl, by decide, List.mem_of_getElem? (i := 730) (by decide +kernel), inlX9, Or.inr (List.mem_of_getElem? (i := 731) (by decide +kernel)), tyX9_ok, nmX9, rfl, by decide +kernel⟩
theorem fl_X2_7_9_0 : FL RX2 7 9 0 := ⟨RX9, TX9, 1, "RegretPit$Lump", rfl, by decide, List.mem_of_getElem? (i := 706) (by decide +kernel), inlX9, Or.inl rfl⟩
theorem fp_X2_7_9_0 : FP RX2 7 9 0 .long := ⟨RX9, TX9, 1, "RegretPit$Lump", tyX9, rfl, by decide, List.mem_of_getElem? (i := 706) (by decide +kernel), inlX9, Or.inl rfl, tyX9_ok, nmX9, rfl, by decide +kernel⟩
theorem wu_X9_15_X2_worth : CWu RX9 15 yX2_worth cX2_worth 4 (some .int) 3 := ⟨wc_X2_worth, by decide, List.mem_of_getElem? (i := 734) (by decide +kernel), List.mem_of_getElem? (i := 693) (by decide +kernel), List.mem_of_getElem? (i := 735) (by decide +kernel), List.mem_of_getElem? (i := 704) (by decide +kernel)⟩
theorem fl_X9_19_0_4 : FL RX9 19 0 4 := ⟨RX0, TX0, 8, "RegretPit$Crew", rfl, by decide, List.mem_of_getElem? (i := 733) (by decide +kernel), inlX0, Or.inl rfl⟩
theorem wc_X9_worth : CWc yX9_worth cX9_worth 4 (some .int) 3 := ⟨List.mem_of_getElem? (i := 729) (by decide +kernel), List.mem_of_getElem? (i := 41) (by decide +kernel), by decide +kernel, by decide⟩
theorem wo_X11_253_X9_worth : CWo RX11 253 RX9 yX2_worth yX9_worth cX9_worth 4 (some .int) 3 := ⟨wc_X9_worth, by decide +kernel, List.mem_of_getElem? (i := 708) (by decide +kernel), List.mem_of_getElem? (i := 693) (by decide +kernel), List.mem_of_getElem? (i := 704) (by decide +kernel), List.mem_of_getElem? (i := 747) (by decide +kernel), List.mem_of_getElem? (i := 728) (by decide +kernel), cX2_worth, 4, (some .int), List.mem_of_getElem? (i := 705) (by decide +kernel)⟩
theorem fl_X6_7_6_0 : FL RX6 7 6 0 := ⟨RX6, TX6, 1, "RegretPit$Ring", rfl, by decide, List.mem_of_getElem? (i := 713) (by decide +kernel), inlX6, Or.inr (List.mem_of_getElem? (i := 714) (by decide +kernel))⟩
theorem wl_X6_13 : Cond.constantLong RX6 13 (100) ∈ wsL_law := List.mem_of_getElem? (i := 715) (by decide +kernel)
theorem fp_X6_7_6_0 : FP RX6 7 6 0 .long := ⟨RX6, TX6, 1, "RegretPit$Ring", tyX6, rfl, by decide, List.mem_of_getElem? (i := 713) (by decide +kernel), inlX6, Or.inr (List.mem_of_getElem? (i := 714) (by decide +kernel)), tyX6_ok, nmX6, rfl, by decide +kernel⟩
theorem fl_X2_7_6_0 : FL RX2 7 6 0 := ⟨RX6, TX6, 1, "RegretPit$Lump", rfl, by decide, List.mem_of_getElem? (i := 706) (by decide +kernel), inlX6, Or.inl rfl⟩
theorem fp_X2_7_6_0 : FP RX2 7 6 0 .long := ⟨RX6, TX6, 1, "RegretPit$Lump", tyX6, rfl, by decide, List.mem_of_getElem? (i := 706) (by decide +kernel), inlX6, Or.inl rfl, tyX6_ok, nmX6, rfl, by decide +kernel⟩
theorem wu_X6_15_X2_worth : CWu RX6 15 yX2_worth cX2_worth 4 (some .int) 3 := ⟨wc_X2_worth, by decide, List.mem_of_getElem? (i := 717) (by decide +kernel), List.mem_of_getElem? (i := 693) (by decide +kernel), List.mem_of_getElem? (i := 718) (by decide +kernel), List.mem_of_getElem? (i := 704) (by decide +kernel)⟩
theorem fl_X6_19_4_1 : FL RX6 19 4 1 := ⟨RX4, TX4, 6, "RegretPit$Now", rfl, by decide, List.mem_of_getElem? (i := 716) (by decide +kernel), inlX4, Or.inl rfl⟩
theorem wc_X6_worth : CWc yX6_worth cX6_worth 4 (some .int) 3 := ⟨List.mem_of_getElem? (i := 712) (by decide +kernel), List.mem_of_getElem? (i := 44) (by decide +kernel), by decide +kernel, by decide⟩
theorem wo_X11_253_X6_worth : CWo RX11 253 RX6 yX2_worth yX6_worth cX6_worth 4 (some .int) 3 := ⟨wc_X6_worth, by decide +kernel, List.mem_of_getElem? (i := 708) (by decide +kernel), List.mem_of_getElem? (i := 693) (by decide +kernel), List.mem_of_getElem? (i := 704) (by decide +kernel), List.mem_of_getElem? (i := 710) (by decide +kernel), List.mem_of_getElem? (i := 711) (by decide +kernel), cX2_worth, 4, (some .int), List.mem_of_getElem? (i := 705) (by decide +kernel)⟩
theorem fl_X7_7_7_0 : FL RX7 7 7 0 := ⟨RX7, TX7, 1, "RegretPit$Salt", rfl, by decide, List.mem_of_getElem? (i := 722) (by decide +kernel), inlX7, Or.inr (List.mem_of_getElem? (i := 723) (by decide +kernel))⟩
theorem wl_X7_13 : Cond.constantLong RX7 13 (1000) ∈ wsL_law := List.mem_of_getElem? (i := 724) (by decide +kernel)
theorem fp_X7_7_7_0 : FP RX7 7 7 0 .long := ⟨RX7, TX7, 1, "RegretPit$Salt", tyX7, rfl, by decide, List.mem_of_getElem? (i := 722) (by decide +kernel), inlX7, Or.inr (List.mem_of_getElem? (i := 723) (by decide +kernel)), tyX7_ok, nmX7, rfl, by decide +kernel⟩
theorem fl_X9_7_7_0 : FL RX9 7 7 0 := ⟨RX7, TX7, 1, "RegretPit$Sigh", rfl, by decide, List.mem_of_getElem? (i := 730) (by decide +kernel), inlX7, Or.inr (List.mem_of_getElem? (i := 731) (by decide +kernel))⟩
theorem fp_X9_7_7_0 : FP RX9 7 7 0 .long := ⟨RX7, TX7, 1, "RegretPit$Sigh", tyX7, rfl, by decide, List.mem_of_getElem? (i := 730) (by decide +kernel), inlX7, Or.inr (List.mem_of_getElem? (i := 731) (by decide +kernel)), tyX7_ok, nmX7, rfl, by decide +kernel⟩
theorem fl_X2_7_7_0 : FL RX2 7 7 0 := ⟨RX7, TX7, 1, "RegretPit$Lump", rfl, by decide, List.mem_of_getElem? (i := 706) (by decide +kernel), inlX7, Or.inl rfl⟩
theorem fp_X2_7_7_0 : FP RX2 7 7 0 .long := ⟨RX7, TX7, 1, "RegretPit$Lump", tyX7, rfl, by decide, List.mem_of_getElem? (i := 706) (by decide +kernel), inlX7, Or.inl rfl, tyX7_ok, nmX7, rfl, by decide +kernel⟩
theorem wu_X7_15_X9_worth : CWu RX7 15 yX9_worth cX9_worth 4 (some .int) 3 := ⟨wc_X9_worth, by decide, List.mem_of_getElem? (i := 725) (by decide +kernel), List.mem_of_getElem? (i := 726) (by decide +kernel), List.mem_of_getElem? (i := 727) (by decide +kernel), List.mem_of_getElem? (i := 728) (by decide +kernel)⟩
theorem wc_X7_worth : CWc yX7_worth cX7_worth 4 (some .int) 3 := ⟨List.mem_of_getElem? (i := 721) (by decide +kernel), List.mem_of_getElem? (i := 47) (by decide +kernel), by decide +kernel, by decide⟩
theorem wo_X11_253_X7_worth : CWo RX11 253 RX7 yX2_worth yX7_worth cX7_worth 4 (some .int) 3 := ⟨wc_X7_worth, by decide +kernel, List.mem_of_getElem? (i := 708) (by decide +kernel), List.mem_of_getElem? (i := 693) (by decide +kernel), List.mem_of_getElem? (i := 704) (by decide +kernel), List.mem_of_getElem? (i := 719) (by decide +kernel), List.mem_of_getElem? (i := 720) (by decide +kernel), cX2_worth, 4, (some .int), List.mem_of_getElem? (i := 705) (by decide +kernel)⟩
theorem fl_X8_7_8_0 : FL RX8 7 8 0 := ⟨RX8, TX8, 1, "RegretPit$Seam", rfl, by decide, List.mem_of_getElem? (i := 739) (by decide +kernel), inlX8, Or.inr (List.mem_of_getElem? (i := 740) (by decide +kernel))⟩
theorem wl_X8_13 : Cond.constantLong RX8 13 (10000) ∈ wsL_law := List.mem_of_getElem? (i := 741) (by decide +kernel)
theorem fp_X8_7_8_0 : FP RX8 7 8 0 .long := ⟨RX8, TX8, 1, "RegretPit$Seam", tyX8, rfl, by decide, List.mem_of_getElem? (i := 739) (by decide +kernel), inlX8, Or.inr (List.mem_of_getElem? (i := 740) (by decide +kernel)), tyX8_ok, nmX8, rfl, by decide +kernel⟩
theorem fl_X6_7_8_0 : FL RX6 7 8 0 := ⟨RX8, TX8, 1, "RegretPit$Ring", rfl, by decide, List.mem_of_getElem? (i := 713) (by decide +kernel), inlX8, Or.inr (List.mem_of_getElem? (i := 714) (by decide +kernel))⟩
theorem fp_X6_7_8_0 : FP RX6 7 8 0 .long := ⟨RX8, TX8, 1, "RegretPit$Ring", tyX8, rfl, by decide, List.mem_of_getElem? (i := 713) (by decide +kernel), inlX8, Or.inr (List.mem_of_getElem? (i := 714) (by decide +kernel)), tyX8_ok, nmX8, rfl, by decide +kernel⟩
theorem fl_X2_7_8_0 : FL RX2 7 8 0 := ⟨RX8, TX8, 1, "RegretPit$Lump", rfl, by decide, List.mem_of_getElem? (i := 706) (by decide +kernel), inlX8, Or.inl rfl⟩
theorem fp_X2_7_8_0 : FP RX2 7 8 0 .long := ⟨RX8, TX8, 1, "RegretPit$Lump", tyX8, rfl, by decide, List.mem_of_getElem? (i := 706) (by decide +kernel), inlX8, Or.inl rfl, tyX8_ok, nmX8, rfl, by decide +kernel⟩
theorem wu_X8_15_X6_worth : CWu RX8 15 yX6_worth cX6_worth 4 (some .int) 3 := ⟨wc_X6_worth, by decide, List.mem_of_getElem? (i := 743) (by decide +kernel), List.mem_of_getElem? (i := 744) (by decide +kernel), List.mem_of_getElem? (i := 745) (by decide +kernel), List.mem_of_getElem? (i := 711) (by decide +kernel)⟩
theorem fl_X8_19_0_0 : FL RX8 19 0 0 := ⟨RX0, TX0, 8, "RegretPit$Crew", rfl, by decide, List.mem_of_getElem? (i := 742) (by decide +kernel), inlX0, Or.inl rfl⟩
theorem wv_X8_25_X0_pullOf : CWv RX8 25 yX0_pullOf cX0_pullOf 3 (some .int) 2 := ⟨wc_X0_pullOf, List.mem_of_getElem? (i := 746) (by decide +kernel), List.mem_of_getElem? (i := 556) (by decide +kernel), List.mem_of_getElem? (i := 557) (by decide +kernel)⟩
theorem wc_X8_worth : CWc yX8_worth cX8_worth 4 (some .int) 3 := ⟨List.mem_of_getElem? (i := 738) (by decide +kernel), List.mem_of_getElem? (i := 50) (by decide +kernel), by decide +kernel, by decide⟩
theorem wo_X11_253_X8_worth : CWo RX11 253 RX8 yX2_worth yX8_worth cX8_worth 4 (some .int) 3 := ⟨wc_X8_worth, by decide +kernel, List.mem_of_getElem? (i := 708) (by decide +kernel), List.mem_of_getElem? (i := 693) (by decide +kernel), List.mem_of_getElem? (i := 704) (by decide +kernel), List.mem_of_getElem? (i := 736) (by decide +kernel), List.mem_of_getElem? (i := 737) (by decide +kernel), cX2_worth, 4, (some .int), List.mem_of_getElem? (i := 705) (by decide +kernel)⟩
theorem fl_X1_7_1_0 : FL RX1 7 1 0 := ⟨RX1, TX1, 1, "RegretPit$Dust", rfl, by decide, List.mem_of_getElem? (i := 698) (by decide +kernel), inlX1, Or.inr (List.mem_of_getElem? (i := 699) (by decide +kernel))⟩
theorem wl_X1_13 : Cond.constantLong RX1 13 (100000) ∈ wsL_law := List.mem_of_getElem? (i := 700) (by decide +kernel)
theorem fp_X1_7_1_0 : FP RX1 7 1 0 .long := ⟨RX1, TX1, 1, "RegretPit$Dust", tyX1, rfl, by decide, List.mem_of_getElem? (i := 698) (by decide +kernel), inlX1, Or.inr (List.mem_of_getElem? (i := 699) (by decide +kernel)), tyX1_ok, nmX1, rfl, by decide +kernel⟩
theorem fl_X2_7_1_0 : FL RX2 7 1 0 := ⟨RX1, TX1, 1, "RegretPit$Lump", rfl, by decide, List.mem_of_getElem? (i := 706) (by decide +kernel), inlX1, Or.inl rfl⟩
theorem fp_X2_7_1_0 : FP RX2 7 1 0 .long := ⟨RX1, TX1, 1, "RegretPit$Lump", tyX1, rfl, by decide, List.mem_of_getElem? (i := 706) (by decide +kernel), inlX1, Or.inl rfl, tyX1_ok, nmX1, rfl, by decide +kernel⟩
theorem wu_X1_15_X2_worth : CWu RX1 15 yX2_worth cX2_worth 4 (some .int) 3 := ⟨wc_X2_worth, by decide, List.mem_of_getElem? (i := 702) (by decide +kernel), List.mem_of_getElem? (i := 693) (by decide +kernel), List.mem_of_getElem? (i := 703) (by decide +kernel), List.mem_of_getElem? (i := 704) (by decide +kernel)⟩
theorem fl_X1_19_4_3 : FL RX1 19 4 3 := ⟨RX4, TX4, 6, "RegretPit$Now", rfl, by decide, List.mem_of_getElem? (i := 701) (by decide +kernel), inlX4, Or.inl rfl⟩
theorem wc_X1_worth : CWc yX1_worth cX1_worth 4 (some .int) 3 := ⟨List.mem_of_getElem? (i := 697) (by decide +kernel), List.mem_of_getElem? (i := 53) (by decide +kernel), by decide +kernel, by decide⟩
theorem wo_X11_253_X1_worth : CWo RX11 253 RX1 yX2_worth yX1_worth cX1_worth 4 (some .int) 3 := ⟨wc_X1_worth, by decide +kernel, List.mem_of_getElem? (i := 708) (by decide +kernel), List.mem_of_getElem? (i := 693) (by decide +kernel), List.mem_of_getElem? (i := 704) (by decide +kernel), List.mem_of_getElem? (i := 695) (by decide +kernel), List.mem_of_getElem? (i := 696) (by decide +kernel), cX2_worth, 4, (some .int), List.mem_of_getElem? (i := 705) (by decide +kernel)⟩
theorem fl_X11_33_11_4 : FL RX11 33 11 4 := ⟨RX11, TX11, 18, "RegretPit", rfl, by decide, List.mem_of_getElem? (i := 25) (by decide +kernel), inlX11, Or.inl rfl⟩
theorem kx_2 {i : Int32} (h : vp_in i 2) : i = 0 ∨ i = 1 := by
  obtain ⟨k, hk, rfl⟩ := vp_in_of h (by decide)
  match k, hk with
  | 0, _ => exact Or.inl rfl
  | 1, _ => exact Or.inr (rfl)
theorem kn_140 : ((140) : Int32).toNatClampNeg = 140 := by decide
theorem wc_X4_becomes : CWc yX4_becomes cX4_becomes 2 none 1 := ⟨List.mem_of_getElem? (i := 765) (by decide +kernel), List.mem_of_getElem? (i := 23) (by decide +kernel), by decide +kernel, by decide⟩
theorem wv_X11_257_X4_becomes : CWv RX11 257 yX4_becomes cX4_becomes 2 none 1 := ⟨wc_X4_becomes, List.mem_of_getElem? (i := 762) (by decide +kernel), List.mem_of_getElem? (i := 763) (by decide +kernel), List.mem_of_getElem? (i := 764) (by decide +kernel)⟩
theorem fl_X11_260_0_1 : FL RX11 260 0 1 := ⟨RX0, TX0, 8, "RegretPit$Crew", rfl, by decide, List.mem_of_getElem? (i := 782) (by decide +kernel), inlX0, Or.inl rfl⟩
theorem fl_X11_263_0_2 : FL RX11 263 0 2 := ⟨RX0, TX0, 8, "RegretPit$Crew", rfl, by decide, List.mem_of_getElem? (i := 783) (by decide +kernel), inlX0, Or.inl rfl⟩
theorem fl_X11_266_2_0 : FL RX11 266 2 0 := ⟨RX2, TX2, 1, "RegretPit$Lump", rfl, by decide, List.mem_of_getElem? (i := 792) (by decide +kernel), inlX2, Or.inl rfl⟩
theorem fl_X11_266_9_0 : FL RX11 266 9 0 := ⟨RX9, TX9, 1, "RegretPit$Lump", rfl, by decide, List.mem_of_getElem? (i := 792) (by decide +kernel), inlX9, Or.inl rfl⟩
theorem fl_X11_266_6_0 : FL RX11 266 6 0 := ⟨RX6, TX6, 1, "RegretPit$Lump", rfl, by decide, List.mem_of_getElem? (i := 792) (by decide +kernel), inlX6, Or.inl rfl⟩
theorem fl_X11_266_7_0 : FL RX11 266 7 0 := ⟨RX7, TX7, 1, "RegretPit$Lump", rfl, by decide, List.mem_of_getElem? (i := 792) (by decide +kernel), inlX7, Or.inl rfl⟩
theorem fl_X11_266_8_0 : FL RX11 266 8 0 := ⟨RX8, TX8, 1, "RegretPit$Lump", rfl, by decide, List.mem_of_getElem? (i := 792) (by decide +kernel), inlX8, Or.inl rfl⟩
theorem fl_X11_266_1_0 : FL RX11 266 1 0 := ⟨RX1, TX1, 1, "RegretPit$Lump", rfl, by decide, List.mem_of_getElem? (i := 792) (by decide +kernel), inlX1, Or.inl rfl⟩
theorem wc_X12_in : CWc yX12_in cX12_in 3 (some .boolean) 3 := ⟨List.mem_of_getElem? (i := 160) (by decide +kernel), List.mem_of_getElem? (i := 5) (by decide +kernel), by decide +kernel, by decide⟩
theorem wt_X12_69_X12_in : CWs RX12 69 yX12_in cX12_in 3 (some .boolean) 3 := ⟨wc_X12_in, List.mem_of_getElem? (i := 158) (by decide +kernel), List.mem_of_getElem? (i := 159) (by decide +kernel)⟩
theorem fl_X12_73_12_2 : FL RX12 73 12 2 := ⟨RX12, TX12, 28, "RegretPitModel", rfl, by decide, List.mem_of_getElem? (i := 157) (by decide +kernel), inlX12, Or.inl rfl⟩
theorem fl_X12_7_12_1 : FL RX12 7 12 1 := ⟨RX12, TX12, 28, "RegretPitModel", rfl, by decide, List.mem_of_getElem? (i := 114) (by decide +kernel), inlX12, Or.inl rfl⟩
theorem fp_X12_73_12_2 : FP RX12 73 12 2 .int := ⟨RX12, TX12, 28, "RegretPitModel", tyX12, rfl, by decide, List.mem_of_getElem? (i := 157) (by decide +kernel), inlX12, Or.inl rfl, tyX12_ok, nmX12, rfl, by decide +kernel⟩
theorem fp_X12_77_12_9 : FP RX12 77 12 9 .int := ⟨RX12, TX12, 28, "RegretPitModel", tyX12, rfl, by decide, List.mem_of_getElem? (i := 275) (by decide +kernel), inlX12, Or.inl rfl, tyX12_ok, nmX12, rfl, by decide +kernel⟩
theorem fp_X12_93_12_13 : FP RX12 93 12 13 .int := ⟨RX12, TX12, 28, "RegretPitModel", tyX12, rfl, by decide, List.mem_of_getElem? (i := 276) (by decide +kernel), inlX12, Or.inl rfl, tyX12_ok, nmX12, rfl, by decide +kernel⟩
theorem fl_X12_13_12_3 : FL RX12 13 12 3 := ⟨RX12, TX12, 28, "RegretPitModel", rfl, by decide, List.mem_of_getElem? (i := 115) (by decide +kernel), inlX12, Or.inl rfl⟩
theorem kn_1 : ((1) : Int32).toNatClampNeg = 1 := by decide
theorem ki_1_2 : vp_in (1) 2 := by unfold vp_in; decide
theorem fl_X12_26_12_7 : FL RX12 26 12 7 := ⟨RX12, TX12, 28, "RegretPitModel", rfl, by decide, List.mem_of_getElem? (i := 119) (by decide +kernel), inlX12, Or.inl rfl⟩
theorem fl_X12_29_12_8 : FL RX12 29 12 8 := ⟨RX12, TX12, 28, "RegretPitModel", rfl, by decide, List.mem_of_getElem? (i := 120) (by decide +kernel), inlX12, Or.inl rfl⟩
theorem fp_X12_103_12_14 : FP RX12 103 12 14 .boolean := ⟨RX12, TX12, 28, "RegretPitModel", tyX12, rfl, by decide, List.mem_of_getElem? (i := 135) (by decide +kernel), inlX12, Or.inl rfl, tyX12_ok, nmX12, rfl, by decide +kernel⟩
theorem fp_X12_107_12_15 : FP RX12 107 12 15 .boolean := ⟨RX12, TX12, 28, "RegretPitModel", tyX12, rfl, by decide, List.mem_of_getElem? (i := 136) (by decide +kernel), inlX12, Or.inl rfl, tyX12_ok, nmX12, rfl, by decide +kernel⟩
theorem kb_36 : (Int8.ofInt (36)).toInt32 = (36) := by decide
theorem fl_X12_23_12_6 : FL RX12 23 12 6 := ⟨RX12, TX12, 28, "RegretPitModel", rfl, by decide, List.mem_of_getElem? (i := 118) (by decide +kernel), inlX12, Or.inl rfl⟩
theorem wc_X12_plain : CWc yX12_plain cX12_plain 2 none 0 := ⟨List.mem_of_getElem? (i := 134) (by decide +kernel), List.mem_of_getElem? (i := 5) (by decide +kernel), by decide +kernel, by decide⟩
theorem wv_X12_63_X12_plain : CWv RX12 63 yX12_plain cX12_plain 2 none 0 := ⟨wc_X12_plain, List.mem_of_getElem? (i := 131) (by decide +kernel), List.mem_of_getElem? (i := 132) (by decide +kernel), List.mem_of_getElem? (i := 133) (by decide +kernel)⟩
theorem fl_X12_77_12_9 : FL RX12 77 12 9 := ⟨RX12, TX12, 28, "RegretPitModel", rfl, by decide, List.mem_of_getElem? (i := 275) (by decide +kernel), inlX12, Or.inl rfl⟩
theorem wc_X12_here : CWc yX12_here cX12_here 1 (some .int) 0 := ⟨List.mem_of_getElem? (i := 287) (by decide +kernel), List.mem_of_getElem? (i := 5) (by decide +kernel), by decide +kernel, by decide⟩
theorem wv_X12_80_X12_here : CWv RX12 80 yX12_here cX12_here 1 (some .int) 0 := ⟨wc_X12_here, List.mem_of_getElem? (i := 284) (by decide +kernel), List.mem_of_getElem? (i := 285) (by decide +kernel), List.mem_of_getElem? (i := 286) (by decide +kernel)⟩
theorem fp_X12_84_12_10 : FP RX12 84 12 10 .int := ⟨RX12, TX12, 28, "RegretPitModel", tyX12, rfl, by decide, List.mem_of_getElem? (i := 282) (by decide +kernel), inlX12, Or.inl rfl, tyX12_ok, nmX12, rfl, by decide +kernel⟩
theorem fp_X12_87_12_12 : FP RX12 87 12 12 .int := ⟨RX12, TX12, 28, "RegretPitModel", tyX12, rfl, by decide, List.mem_of_getElem? (i := 283) (by decide +kernel), inlX12, Or.inl rfl, tyX12_ok, nmX12, rfl, by decide +kernel⟩
theorem fp_X12_90_12_11 : FP RX12 90 12 11 .int := ⟨RX12, TX12, 28, "RegretPitModel", tyX12, rfl, by decide, List.mem_of_getElem? (i := 277) (by decide +kernel), inlX12, Or.inl rfl, tyX12_ok, nmX12, rfl, by decide +kernel⟩
theorem fl_X12_87_12_12 : FL RX12 87 12 12 := ⟨RX12, TX12, 28, "RegretPitModel", rfl, by decide, List.mem_of_getElem? (i := 283) (by decide +kernel), inlX12, Or.inl rfl⟩
theorem fl_X12_84_12_10 : FL RX12 84 12 10 := ⟨RX12, TX12, 28, "RegretPitModel", rfl, by decide, List.mem_of_getElem? (i := 282) (by decide +kernel), inlX12, Or.inl rfl⟩
theorem wc_X12_step : CWc yX12_step cX12_step 2 none 0 := ⟨List.mem_of_getElem? (i := 281) (by decide +kernel), List.mem_of_getElem? (i := 5) (by decide +kernel), by decide +kernel, by decide⟩
theorem wv_X12_96_X12_step : CWv RX12 96 yX12_step cX12_step 2 none 0 := ⟨wc_X12_step, List.mem_of_getElem? (i := 278) (by decide +kernel), List.mem_of_getElem? (i := 279) (by decide +kernel), List.mem_of_getElem? (i := 280) (by decide +kernel)⟩
theorem fl_X12_93_12_13 : FL RX12 93 12 13 := ⟨RX12, TX12, 28, "RegretPitModel", rfl, by decide, List.mem_of_getElem? (i := 276) (by decide +kernel), inlX12, Or.inl rfl⟩
theorem fl_X12_90_12_11 : FL RX12 90 12 11 := ⟨RX12, TX12, 28, "RegretPitModel", rfl, by decide, List.mem_of_getElem? (i := 277) (by decide +kernel), inlX12, Or.inl rfl⟩
theorem fl_X12_103_12_14 : FL RX12 103 12 14 := ⟨RX12, TX12, 28, "RegretPitModel", rfl, by decide, List.mem_of_getElem? (i := 135) (by decide +kernel), inlX12, Or.inl rfl⟩
theorem fl_X12_107_12_15 : FL RX12 107 12 15 := ⟨RX12, TX12, 28, "RegretPitModel", rfl, by decide, List.mem_of_getElem? (i := 136) (by decide +kernel), inlX12, Or.inl rfl⟩
theorem wc_X12_mayBe : CWc yX12_mayBe cX12_mayBe 2 (some .boolean) 1 := ⟨List.mem_of_getElem? (i := 291) (by decide +kernel), List.mem_of_getElem? (i := 5) (by decide +kernel), by decide +kernel, by decide⟩
theorem wv_X12_124_X12_mayBe : CWv RX12 124 yX12_mayBe cX12_mayBe 2 (some .boolean) 1 := ⟨wc_X12_mayBe, List.mem_of_getElem? (i := 288) (by decide +kernel), List.mem_of_getElem? (i := 289) (by decide +kernel), List.mem_of_getElem? (i := 290) (by decide +kernel)⟩
theorem wc_X12_due : CWc yX12_due cX12_due 3 (some .int) 1 := ⟨List.mem_of_getElem? (i := 295) (by decide +kernel), List.mem_of_getElem? (i := 5) (by decide +kernel), by decide +kernel, by decide⟩
theorem wv_X12_99_X12_due : CWv RX12 99 yX12_due cX12_due 3 (some .int) 1 := ⟨wc_X12_due, List.mem_of_getElem? (i := 292) (by decide +kernel), List.mem_of_getElem? (i := 293) (by decide +kernel), List.mem_of_getElem? (i := 294) (by decide +kernel)⟩
theorem wc_X12_number : CWc yX12_number cX12_number 3 (some .int) 2 := ⟨List.mem_of_getElem? (i := 303) (by decide +kernel), List.mem_of_getElem? (i := 5) (by decide +kernel), by decide +kernel, by decide⟩
theorem wv_X12_110_X12_number : CWv RX12 110 yX12_number cX12_number 3 (some .int) 2 := ⟨wc_X12_number, List.mem_of_getElem? (i := 300) (by decide +kernel), List.mem_of_getElem? (i := 301) (by decide +kernel), List.mem_of_getElem? (i := 302) (by decide +kernel)⟩
theorem kb_101 : (Int8.ofInt (101)).toInt32 = (101) := by decide
theorem wc_X12_readNear : CWc yX12_readNear cX12_readNear 5 none 1 := ⟨List.mem_of_getElem? (i := 307) (by decide +kernel), List.mem_of_getElem? (i := 5) (by decide +kernel), by decide +kernel, by decide⟩
theorem wv_X12_114_X12_readNear : CWv RX12 114 yX12_readNear cX12_readNear 5 none 1 := ⟨wc_X12_readNear, List.mem_of_getElem? (i := 304) (by decide +kernel), List.mem_of_getElem? (i := 305) (by decide +kernel), List.mem_of_getElem? (i := 306) (by decide +kernel)⟩
theorem fl_X12_20_12_5 : FL RX12 20 12 5 := ⟨RX12, TX12, 28, "RegretPitModel", rfl, by decide, List.mem_of_getElem? (i := 117) (by decide +kernel), inlX12, Or.inl rfl⟩
theorem fl_X12_17_12_4 : FL RX12 17 12 4 := ⟨RX12, TX12, 28, "RegretPitModel", rfl, by decide, List.mem_of_getElem? (i := 116) (by decide +kernel), inlX12, Or.inl rfl⟩
theorem wc_X12_readRow : CWc yX12_readRow cX12_readRow 2 none 1 := ⟨List.mem_of_getElem? (i := 299) (by decide +kernel), List.mem_of_getElem? (i := 5) (by decide +kernel), by decide +kernel, by decide⟩
theorem wv_X12_128_X12_readRow : CWv RX12 128 yX12_readRow cX12_readRow 2 none 1 := ⟨wc_X12_readRow, List.mem_of_getElem? (i := 296) (by decide +kernel), List.mem_of_getElem? (i := 297) (by decide +kernel), List.mem_of_getElem? (i := 298) (by decide +kernel)⟩
theorem ki_0_2 : vp_in (0) 2 := by unfold vp_in; decide
theorem fl_X12_32_12_16 : FL RX12 32 12 16 := ⟨RX12, TX12, 28, "RegretPitModel", rfl, by decide, List.mem_of_getElem? (i := 121) (by decide +kernel), inlX12, Or.inl rfl⟩
theorem ki_14_465 : vp_in (14) 465 := by unfold vp_in; decide
theorem fp_X12_118_12_24 : FP RX12 118 12 24 .int := ⟨RX12, TX12, 28, "RegretPitModel", tyX12, rfl, by decide, List.mem_of_getElem? (i := 141) (by decide +kernel), inlX12, Or.inl rfl, tyX12_ok, nmX12, rfl, by decide +kernel⟩
theorem fp_X12_121_12_27 : FP RX12 121 12 27 .int := ⟨RX12, TX12, 28, "RegretPitModel", tyX12, rfl, by decide, List.mem_of_getElem? (i := 142) (by decide +kernel), inlX12, Or.inl rfl, tyX12_ok, nmX12, rfl, by decide +kernel⟩
theorem fl_X12_35_12_17 : FL RX12 35 12 17 := ⟨RX12, TX12, 28, "RegretPitModel", rfl, by decide, List.mem_of_getElem? (i := 122) (by decide +kernel), inlX12, Or.inl rfl⟩
theorem wc_X12_takeDraft : CWc yX12_takeDraft cX12_takeDraft 2 none 0 := ⟨List.mem_of_getElem? (i := 140) (by decide +kernel), List.mem_of_getElem? (i := 5) (by decide +kernel), by decide +kernel, by decide⟩
theorem wv_X12_66_X12_takeDraft : CWv RX12 66 yX12_takeDraft cX12_takeDraft 2 none 0 := ⟨wc_X12_takeDraft, List.mem_of_getElem? (i := 137) (by decide +kernel), List.mem_of_getElem? (i := 138) (by decide +kernel), List.mem_of_getElem? (i := 139) (by decide +kernel)⟩
theorem wc_X12_isMan : CWc yX12_isMan cX12_isMan 2 (some .boolean) 1 := ⟨List.mem_of_getElem? (i := 326) (by decide +kernel), List.mem_of_getElem? (i := 5) (by decide +kernel), by decide +kernel, by decide⟩
theorem wv_X12_136_X12_isMan : CWv RX12 136 yX12_isMan cX12_isMan 2 (some .boolean) 1 := ⟨wc_X12_isMan, List.mem_of_getElem? (i := 323) (by decide +kernel), List.mem_of_getElem? (i := 324) (by decide +kernel), List.mem_of_getElem? (i := 325) (by decide +kernel)⟩
theorem wk_X12_139 : Cond.constant RX12 139 (-1000000) ∈ wsL_law := List.mem_of_getElem? (i := 342) (by decide +kernel)
theorem wc_X12_manyOf : CWc yX12_manyOf cX12_manyOf 3 (some .int) 1 := ⟨List.mem_of_getElem? (i := 383) (by decide +kernel), List.mem_of_getElem? (i := 5) (by decide +kernel), by decide +kernel, by decide⟩
theorem wt_X12_132_X12_manyOf : CWs RX12 132 yX12_manyOf cX12_manyOf 3 (some .int) 1 := ⟨wc_X12_manyOf, List.mem_of_getElem? (i := 381) (by decide +kernel), List.mem_of_getElem? (i := 382) (by decide +kernel)⟩
theorem wc_X12_isShift : CWc yX12_isShift cX12_isShift 2 (some .boolean) 1 := ⟨List.mem_of_getElem? (i := 380) (by decide +kernel), List.mem_of_getElem? (i := 5) (by decide +kernel), by decide +kernel, by decide⟩
theorem wv_X12_150_X12_isShift : CWv RX12 150 yX12_isShift cX12_isShift 2 (some .boolean) 1 := ⟨wc_X12_isShift, List.mem_of_getElem? (i := 377) (by decide +kernel), List.mem_of_getElem? (i := 378) (by decide +kernel), List.mem_of_getElem? (i := 379) (by decide +kernel)⟩
theorem kb_13 : (Int8.ofInt (13)).toInt32 = (13) := by decide
theorem kn_13 : ((13) : Int32).toNatClampNeg = 13 := by decide
theorem ki_13_465 : vp_in (13) 465 := by unfold vp_in; decide
theorem kb_15 : (Int8.ofInt (15)).toInt32 = (15) := by decide
theorem kb_126 : (Int8.ofInt (126)).toInt32 = (126) := by decide
theorem kb_29 : (Int8.ofInt (29)).toInt32 = (29) := by decide
theorem wc_X12_know : CWc yX12_know cX12_know 2 none 0 := ⟨List.mem_of_getElem? (i := 387) (by decide +kernel), List.mem_of_getElem? (i := 5) (by decide +kernel), by decide +kernel, by decide⟩
theorem wv_X12_153_X12_know : CWv RX12 153 yX12_know cX12_know 2 none 0 := ⟨wc_X12_know, List.mem_of_getElem? (i := 384) (by decide +kernel), List.mem_of_getElem? (i := 385) (by decide +kernel), List.mem_of_getElem? (i := 386) (by decide +kernel)⟩
theorem fl_X12_39_12_18 : FL RX12 39 12 18 := ⟨RX12, TX12, 28, "RegretPitModel", rfl, by decide, List.mem_of_getElem? (i := 123) (by decide +kernel), inlX12, Or.inl rfl⟩
theorem wc_X12_take : CWc yX12_take cX12_take 2 none 0 := ⟨List.mem_of_getElem? (i := 391) (by decide +kernel), List.mem_of_getElem? (i := 5) (by decide +kernel), by decide +kernel, by decide⟩
theorem wv_X12_156_X12_take : CWv RX12 156 yX12_take cX12_take 2 none 0 := ⟨wc_X12_take, List.mem_of_getElem? (i := 388) (by decide +kernel), List.mem_of_getElem? (i := 389) (by decide +kernel), List.mem_of_getElem? (i := 390) (by decide +kernel)⟩
theorem wc_X12_held : CWc yX12_held cX12_held 1 (some .int) 1 := ⟨List.mem_of_getElem? (i := 398) (by decide +kernel), List.mem_of_getElem? (i := 5) (by decide +kernel), by decide +kernel, by decide⟩
theorem wt_X12_140_X12_held : CWs RX12 140 yX12_held cX12_held 1 (some .int) 1 := ⟨wc_X12_held, List.mem_of_getElem? (i := 396) (by decide +kernel), List.mem_of_getElem? (i := 397) (by decide +kernel)⟩
theorem wc_X12_begins : CWc yX12_begins cX12_begins 7 (some .int) 4 := ⟨List.mem_of_getElem? (i := 395) (by decide +kernel), List.mem_of_getElem? (i := 5) (by decide +kernel), by decide +kernel, by decide⟩
theorem wv_X12_143_X12_begins : CWv RX12 143 yX12_begins cX12_begins 7 (some .int) 4 := ⟨wc_X12_begins, List.mem_of_getElem? (i := 392) (by decide +kernel), List.mem_of_getElem? (i := 393) (by decide +kernel), List.mem_of_getElem? (i := 394) (by decide +kernel)⟩
theorem wc_X12_brings : CWc yX12_brings cX12_brings 2 (some .int) 1 := ⟨List.mem_of_getElem? (i := 402) (by decide +kernel), List.mem_of_getElem? (i := 5) (by decide +kernel), by decide +kernel, by decide⟩
theorem wv_X12_147_X12_brings : CWv RX12 147 yX12_brings cX12_brings 2 (some .int) 1 := ⟨wc_X12_brings, List.mem_of_getElem? (i := 399) (by decide +kernel), List.mem_of_getElem? (i := 400) (by decide +kernel), List.mem_of_getElem? (i := 401) (by decide +kernel)⟩
theorem wc_X12_pass : CWc yX12_pass cX12_pass 8 (some .int) 4 := ⟨List.mem_of_getElem? (i := 406) (by decide +kernel), List.mem_of_getElem? (i := 5) (by decide +kernel), by decide +kernel, by decide⟩
theorem wv_X12_159_X12_pass : CWv RX12 159 yX12_pass cX12_pass 8 (some .int) 4 := ⟨wc_X12_pass, List.mem_of_getElem? (i := 403) (by decide +kernel), List.mem_of_getElem? (i := 404) (by decide +kernel), List.mem_of_getElem? (i := 405) (by decide +kernel)⟩
theorem kb_12 : (Int8.ofInt (12)).toInt32 = (12) := by decide
theorem kn_12 : ((12) : Int32).toNatClampNeg = 12 := by decide
theorem ki_12_465 : vp_in (12) 465 := by unfold vp_in; decide
theorem wk_X12_162 : Cond.constant RX12 162 (999999) ∈ wsL_law := List.mem_of_getElem? (i := 376) (by decide +kernel)
theorem wc_X12_yieldOf : CWc yX12_yieldOf cX12_yieldOf 2 (some .int) 1 := ⟨List.mem_of_getElem? (i := 473) (by decide +kernel), List.mem_of_getElem? (i := 5) (by decide +kernel), by decide +kernel, by decide⟩
theorem wv_X12_163_X12_yieldOf : CWv RX12 163 yX12_yieldOf cX12_yieldOf 2 (some .int) 1 := ⟨wc_X12_yieldOf, List.mem_of_getElem? (i := 482) (by decide +kernel), List.mem_of_getElem? (i := 471) (by decide +kernel), List.mem_of_getElem? (i := 472) (by decide +kernel)⟩
theorem fl_X12_42_12_19 : FL RX12 42 12 19 := ⟨RX12, TX12, 28, "RegretPitModel", rfl, by decide, List.mem_of_getElem? (i := 124) (by decide +kernel), inlX12, Or.inl rfl⟩
theorem wc_X12_isFull : CWc yX12_isFull cX12_isFull 5 (some .boolean) 2 := ⟨List.mem_of_getElem? (i := 533) (by decide +kernel), List.mem_of_getElem? (i := 5) (by decide +kernel), by decide +kernel, by decide⟩
theorem wv_X12_166_X12_isFull : CWv RX12 166 yX12_isFull cX12_isFull 5 (some .boolean) 2 := ⟨wc_X12_isFull, List.mem_of_getElem? (i := 530) (by decide +kernel), List.mem_of_getElem? (i := 531) (by decide +kernel), List.mem_of_getElem? (i := 532) (by decide +kernel)⟩
theorem fl_X12_45_12_20 : FL RX12 45 12 20 := ⟨RX12, TX12, 28, "RegretPitModel", rfl, by decide, List.mem_of_getElem? (i := 125) (by decide +kernel), inlX12, Or.inl rfl⟩
theorem ki_0_3 : vp_in (0) 3 := by unfold vp_in; decide
theorem ki_1_3 : vp_in (1) 3 := by unfold vp_in; decide
theorem kn_2 : ((2) : Int32).toNatClampNeg = 2 := by decide
theorem ki_2_3 : vp_in (2) 3 := by unfold vp_in; decide
theorem kb_18 : (Int8.ofInt (18)).toInt32 = (18) := by decide
theorem kb_7 : (Int8.ofInt (7)).toInt32 = (7) := by decide
theorem fl_X12_48_12_21 : FL RX12 48 12 21 := ⟨RX12, TX12, 28, "RegretPitModel", rfl, by decide, List.mem_of_getElem? (i := 126) (by decide +kernel), inlX12, Or.inl rfl⟩
theorem wc_X12_worth : CWc yX12_worth cX12_worth 6 (some .int) 1 := ⟨List.mem_of_getElem? (i := 593) (by decide +kernel), List.mem_of_getElem? (i := 5) (by decide +kernel), by decide +kernel, by decide⟩
theorem wv_X12_170_X12_worth : CWv RX12 170 yX12_worth cX12_worth 6 (some .int) 1 := ⟨wc_X12_worth, List.mem_of_getElem? (i := 590) (by decide +kernel), List.mem_of_getElem? (i := 591) (by decide +kernel), List.mem_of_getElem? (i := 592) (by decide +kernel)⟩
theorem fl_X12_118_12_24 : FL RX12 118 12 24 := ⟨RX12, TX12, 28, "RegretPitModel", rfl, by decide, List.mem_of_getElem? (i := 141) (by decide +kernel), inlX12, Or.inl rfl⟩
theorem fl_X12_51_12_22 : FL RX12 51 12 22 := ⟨RX12, TX12, 28, "RegretPitModel", rfl, by decide, List.mem_of_getElem? (i := 127) (by decide +kernel), inlX12, Or.inl rfl⟩
theorem fl_X12_54_12_23 : FL RX12 54 12 23 := ⟨RX12, TX12, 28, "RegretPitModel", rfl, by decide, List.mem_of_getElem? (i := 128) (by decide +kernel), inlX12, Or.inl rfl⟩
theorem fl_X12_121_12_27 : FL RX12 121 12 27 := ⟨RX12, TX12, 28, "RegretPitModel", rfl, by decide, List.mem_of_getElem? (i := 142) (by decide +kernel), inlX12, Or.inl rfl⟩
theorem fl_X12_57_12_25 : FL RX12 57 12 25 := ⟨RX12, TX12, 28, "RegretPitModel", rfl, by decide, List.mem_of_getElem? (i := 129) (by decide +kernel), inlX12, Or.inl rfl⟩
theorem fl_X12_60_12_26 : FL RX12 60 12 26 := ⟨RX12, TX12, 28, "RegretPitModel", rfl, by decide, List.mem_of_getElem? (i := 130) (by decide +kernel), inlX12, Or.inl rfl⟩
theorem wc_X12_grown : CWc yX12_grown cX12_grown 2 (some .int) 2 := ⟨List.mem_of_getElem? (i := 672) (by decide +kernel), List.mem_of_getElem? (i := 5) (by decide +kernel), by decide +kernel, by decide⟩
theorem wt_X12_173_X12_grown : CWs RX12 173 yX12_grown cX12_grown 2 (some .int) 2 := ⟨wc_X12_grown, List.mem_of_getElem? (i := 670) (by decide +kernel), List.mem_of_getElem? (i := 671) (by decide +kernel)⟩
theorem wc_X12_isFit : CWc yX12_isFit cX12_isFit 4 (some .boolean) 1 := ⟨List.mem_of_getElem? (i := 669) (by decide +kernel), List.mem_of_getElem? (i := 5) (by decide +kernel), by decide +kernel, by decide⟩
theorem wv_X12_176_X12_isFit : CWv RX12 176 yX12_isFit cX12_isFit 4 (some .boolean) 1 := ⟨wc_X12_isFit, List.mem_of_getElem? (i := 666) (by decide +kernel), List.mem_of_getElem? (i := 667) (by decide +kernel), List.mem_of_getElem? (i := 668) (by decide +kernel)⟩
theorem wc_X12_unlike : CWc yX12_unlike cX12_unlike 6 (some .int) 1 := ⟨List.mem_of_getElem? (i := 676) (by decide +kernel), List.mem_of_getElem? (i := 5) (by decide +kernel), by decide +kernel, by decide⟩
theorem wv_X12_179_X12_unlike : CWv RX12 179 yX12_unlike cX12_unlike 6 (some .int) 1 := ⟨wc_X12_unlike, List.mem_of_getElem? (i := 673) (by decide +kernel), List.mem_of_getElem? (i := 674) (by decide +kernel), List.mem_of_getElem? (i := 675) (by decide +kernel)⟩
theorem fl_X12_182_12_0 : FL RX12 182 12 0 := ⟨RX12, TX12, 28, "RegretPitModel", rfl, by decide, List.mem_of_getElem? (i := 752) (by decide +kernel), inlX12, Or.inl rfl⟩
theorem fp_X12_182_12_0 : FP RX12 182 12 0 .long := ⟨RX12, TX12, 28, "RegretPitModel", tyX12, rfl, by decide, List.mem_of_getElem? (i := 752) (by decide +kernel), inlX12, Or.inl rfl, tyX12_ok, nmX12, rfl, by decide +kernel⟩
theorem ko_28_0_1_3_0_4_5_6_7_8_9_0_0_0_0_0_0_0_10_11_12 : ∀ j, j ≠ 0 → ([1, 3, 0, 4, 5, 6, 7, 8, 9, 0, 0, 0, 0, 0, 0, 0, 10, 11, 12, 13, 14, 15, 16, 17, 0, 18, 19, 0] : List Nat)[j]? ≠ some 1 := by
  intro j hj h
  have hl : j < 28 := (List.getElem?_eq_some_iff.mp h).1
  match j, hl, hj, h with
  | 0, _, hj, h => exact hj rfl
  | 1, _, hj, h => exact absurd h (by decide)
  | 2, _, hj, h => exact absurd h (by decide)
  | 3, _, hj, h => exact absurd h (by decide)
  | 4, _, hj, h => exact absurd h (by decide)
  | 5, _, hj, h => exact absurd h (by decide)
  | 6, _, hj, h => exact absurd h (by decide)
  | 7, _, hj, h => exact absurd h (by decide)
  | 8, _, hj, h => exact absurd h (by decide)
  | 9, _, hj, h => exact absurd h (by decide)
  | 10, _, hj, h => exact absurd h (by decide)
  | 11, _, hj, h => exact absurd h (by decide)
  | 12, _, hj, h => exact absurd h (by decide)
  | 13, _, hj, h => exact absurd h (by decide)
  | 14, _, hj, h => exact absurd h (by decide)
  | 15, _, hj, h => exact absurd h (by decide)
  | 16, _, hj, h => exact absurd h (by decide)
  | 17, _, hj, h => exact absurd h (by decide)
  | 18, _, hj, h => exact absurd h (by decide)
  | 19, _, hj, h => exact absurd h (by decide)
  | 20, _, hj, h => exact absurd h (by decide)
  | 21, _, hj, h => exact absurd h (by decide)
  | 22, _, hj, h => exact absurd h (by decide)
  | 23, _, hj, h => exact absurd h (by decide)
  | 24, _, hj, h => exact absurd h (by decide)
  | 25, _, hj, h => exact absurd h (by decide)
  | 26, _, hj, h => exact absurd h (by decide)
  | 27, _, hj, h => exact absurd h (by decide)
theorem wl_X12_186 : Cond.constantLong RX12 186 (11) ∈ wsL_law := List.mem_of_getElem? (i := 753) (by decide +kernel)
theorem wl_X12_188 : Cond.constantLong RX12 188 (101) ∈ wsL_law := List.mem_of_getElem? (i := 754) (by decide +kernel)
theorem wl_X12_190 : Cond.constantLong RX12 190 (1011) ∈ wsL_law := List.mem_of_getElem? (i := 755) (by decide +kernel)
theorem wl_X12_192 : Cond.constantLong RX12 192 (10101) ∈ wsL_law := List.mem_of_getElem? (i := 756) (by decide +kernel)
theorem wl_X12_194 : Cond.constantLong RX12 194 (100001) ∈ wsL_law := List.mem_of_getElem? (i := 757) (by decide +kernel)
theorem ks_155 : (Int16.ofInt (155)).toInt32 = (155) := by decide
