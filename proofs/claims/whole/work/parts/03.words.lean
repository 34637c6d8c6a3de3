-- names, fields, lays
def cn_RN : String := "RoundedNumbers"
def ft_RN : u_T := fun k => match k with
  | 0 => ("RoundedNumbers", "precisions", "[I", true)
  | 1 => ("RoundedNumbers", "registers", "[LRoundedNumbers$Value;", true)
  | 2 => ("RoundedNumbers", "loaded", "LRoundedNumbers$Value;", true)
  | 3 => ("RoundedNumbers", "product", "LRoundedNumbers$Value;", true)
  | 4 => ("RoundedNumbers", "exact", "LRoundedNumbers$Exact;", true)
  | 5 => ("RoundedNumbers", "remainder", "LRoundedNumbers$Wide;", true)
  | 6 => ("RoundedNumbers", "divisor", "LRoundedNumbers$Wide;", true)
  | _ => ("RoundedNumbers", "root", "LRoundedNumbers$Wide;", true)
def fy_RN : Nat → FieldType := fun k => match k with
  | 0 => .array .int
  | 1 => .array (.object "RoundedNumbers$Value")
  | 2 => .object "RoundedNumbers$Value"
  | 3 => .object "RoundedNumbers$Value"
  | 4 => .object "RoundedNumbers$Exact"
  | 5 => .object "RoundedNumbers$Wide"
  | 6 => .object "RoundedNumbers$Wide"
  | _ => .object "RoundedNumbers$Wide"
theorem ft_RN_n : ∀ a, a < 8 → ∀ b, b < 8 → a ≠ b → (ft_RN a).2.1 ≠ (ft_RN b).2.1 := by decide +kernel
theorem fy_RN_ok : ∀ k, k < 8 → parseFieldDescriptor (ft_RN k).2.2.1 = some (fy_RN k) := by decide +kernel
theorem ly_RN_0 : ∀ w ∈ u_ws cn_RN ft_RN 8, w ∈ tables_1 ∧ goodWord w = true := by decide +kernel
theorem ly_RN : ∀ w ∈ u_ws cn_RN ft_RN 8, w ∈ ct_T := fun w h => ct_in (ly_RN_0 w h).1 (ly_RN_0 w h).2
def cn_RV : String := "RoundedNumbers$Value"
def ft_RV : u_T := fun k => match k with
  | 0 => ("RoundedNumbers$Value", "limbs", "[I", true)
  | 1 => ("RoundedNumbers$Value", "kind", "I", false)
  | 2 => ("RoundedNumbers$Value", "sign", "I", false)
  | _ => ("RoundedNumbers$Value", "low", "I", false)
def fy_RV : Nat → FieldType := fun k => match k with
  | 0 => .array .int
  | 1 => .int
  | 2 => .int
  | _ => .int
theorem ft_RV_n : ∀ a, a < 4 → ∀ b, b < 4 → a ≠ b → (ft_RV a).2.1 ≠ (ft_RV b).2.1 := by decide +kernel
theorem fy_RV_ok : ∀ k, k < 4 → parseFieldDescriptor (ft_RV k).2.2.1 = some (fy_RV k) := by decide +kernel
theorem ly_RV_0 : ∀ w ∈ u_ws cn_RV ft_RV 4, w ∈ tables_1 ∧ goodWord w = true := by decide +kernel
theorem ly_RV : ∀ w ∈ u_ws cn_RV ft_RV 4, w ∈ ct_T := fun w h => ct_in (ly_RV_0 w h).1 (ly_RV_0 w h).2
def cn_RE : String := "RoundedNumbers$Exact"
def ft_RE : u_T := fun k => match k with
  | _ => ("RoundedNumbers$Exact", "limbs", "[I", true)
def fy_RE : Nat → FieldType := fun k => match k with
  | _ => .array .int
theorem ft_RE_n : ∀ a, a < 1 → ∀ b, b < 1 → a ≠ b → (ft_RE a).2.1 ≠ (ft_RE b).2.1 := by decide +kernel
theorem fy_RE_ok : ∀ k, k < 1 → parseFieldDescriptor (ft_RE k).2.2.1 = some (fy_RE k) := by decide +kernel
theorem ly_RE_0 : ∀ w ∈ u_ws cn_RE ft_RE 1, w ∈ tables_1 ∧ goodWord w = true := by decide +kernel
theorem ly_RE : ∀ w ∈ u_ws cn_RE ft_RE 1, w ∈ ct_T := fun w h => ct_in (ly_RE_0 w h).1 (ly_RE_0 w h).2
def cn_RW : String := "RoundedNumbers$Wide"
def ft_RW : u_T := fun k => match k with
  | 0 => ("RoundedNumbers$Wide", "high", "J", false)
  | _ => ("RoundedNumbers$Wide", "low", "J", false)
def fy_RW : Nat → FieldType := fun k => match k with
  | 0 => .long
  | _ => .long
theorem ft_RW_n : ∀ a, a < 2 → ∀ b, b < 2 → a ≠ b → (ft_RW a).2.1 ≠ (ft_RW b).2.1 := by decide +kernel
theorem fy_RW_ok : ∀ k, k < 2 → parseFieldDescriptor (ft_RW k).2.2.1 = some (fy_RW k) := by decide +kernel
theorem ly_RW_0 : ∀ w ∈ u_ws cn_RW ft_RW 2, w ∈ tables_1 ∧ goodWord w = true := by decide +kernel
theorem ly_RW : ∀ w ∈ u_ws cn_RW ft_RW 2, w ∈ ct_T := fun w h => ct_in (ly_RW_0 w h).1 (ly_RW_0 w h).2
def cn_RM : String := "RoundedNumbersModel"
def ft_RM : u_T := fun k => match k with
  | 0 => ("RoundedNumbersModel", "precisions", "[I", true)
  | 1 => ("RoundedNumbersModel", "kinds", "[I", true)
  | 2 => ("RoundedNumbersModel", "signs", "[I", true)
  | 3 => ("RoundedNumbersModel", "exponents", "[I", true)
  | 4 => ("RoundedNumbersModel", "bits", "[I", true)
  | 5 => ("RoundedNumbersModel", "row", "[I", true)
  | 6 => ("RoundedNumbersModel", "other", "[I", true)
  | 7 => ("RoundedNumbersModel", "rest", "[I", true)
  | 8 => ("RoundedNumbersModel", "part", "[I", true)
  | _ => ("RoundedNumbersModel", "root", "[I", true)
def fy_RM : Nat → FieldType := fun k => match k with
  | 0 => .array .int
  | 1 => .array .int
  | 2 => .array .int
  | 3 => .array .int
  | 4 => .array .int
  | 5 => .array .int
  | 6 => .array .int
  | 7 => .array .int
  | 8 => .array .int
  | _ => .array .int
theorem ft_RM_n : ∀ a, a < 10 → ∀ b, b < 10 → a ≠ b → (ft_RM a).2.1 ≠ (ft_RM b).2.1 := by decide +kernel
theorem fy_RM_ok : ∀ k, k < 10 → parseFieldDescriptor (ft_RM k).2.2.1 = some (fy_RM k) := by decide +kernel
theorem ly_RM_0 : ∀ w ∈ u_ws cn_RM ft_RM 10, w ∈ tables_1 ∧ goodWord w = true := by decide +kernel
theorem ly_RM : ∀ w ∈ u_ws cn_RM ft_RM 10, w ∈ ct_T := fun w h => ct_in (ly_RM_0 w h).1 (ly_RM_0 w h).2
abbrev vwCl : List vw_C := [(cn_RN, ft_RN, 8), (cn_RV, ft_RV, 4), (cn_RE, ft_RE, 1), (cn_RW, ft_RW, 2), (cn_RM, ft_RM, 10)]
set_option maxRecDepth 100000 in
theorem mw_0 : Cond.fieldLink "RoundedNumbers$Value" 15 "RoundedNumbers$Value" "kind" "I" ∈ ct_T := ct_in (List.mem_of_getElem? (i := 27) (by decide +kernel)) rfl
set_option maxRecDepth 100000 in
theorem mw_1 : Cond.fieldLink "RoundedNumbers$Value" 19 "RoundedNumbers$Value" "sign" "I" ∈ ct_T := ct_in (List.mem_of_getElem? (i := 30) (by decide +kernel)) rfl
set_option maxRecDepth 100000 in
theorem mw_2 : Cond.code ⟨"RoundedNumbers", "isRegister", "(I)Z"⟩ prog_1_method_19_code 1 (some .boolean) ∈ ct_T := ct_in (List.mem_of_getElem? (i := 107) rfl) rfl
set_option maxRecDepth 100000 in
theorem mw_3 : Cond.methodLink "RoundedNumbers" 64 ⟨"RoundedNumbers", "isRegister", "(I)Z"⟩ ∈ ct_T := ct_in (List.mem_of_getElem? (i := 105) (by decide +kernel)) rfl
set_option maxRecDepth 100000 in
theorem mw_4 : Cond.static ⟨"RoundedNumbers", "isRegister", "(I)Z"⟩ ∈ ct_T := ct_in (List.mem_of_getElem? (i := 106) (by decide +kernel)) rfl
set_option maxRecDepth 100000 in
theorem mw_5 : Cond.initialized "RoundedNumbers" ∈ ct_T := ct_in (List.mem_of_getElem? (i := 1) (by decide +kernel)) rfl
set_option maxRecDepth 100000 in
theorem mw_6 : Cond.fieldLink "RoundedNumbers" 9 "RoundedNumbers" "precisions" "[I" ∈ ct_T := ct_in (List.mem_of_getElem? (i := 76) (by decide +kernel)) rfl
set_option maxRecDepth 100000 in
theorem mw_7 : Cond.fieldLink "RoundedNumbers" 15 "RoundedNumbers" "registers" "[LRoundedNumbers$Value;" ∈ ct_T := ct_in (List.mem_of_getElem? (i := 77) (by decide +kernel)) rfl
set_option maxRecDepth 100000 in
theorem mw_8 : Cond.code ⟨"RoundedNumbers$Value", "become", "(II)V"⟩ prog_3_method_2_code 3 none ∈ ct_T := ct_in (List.mem_of_getElem? (i := 111) rfl) rfl
set_option maxRecDepth 100000 in
theorem mw_9 : Cond.methodLink "RoundedNumbers" 68 ⟨"RoundedNumbers$Value", "become", "(II)V"⟩ ∈ ct_T := ct_in (List.mem_of_getElem? (i := 108) (by decide +kernel)) rfl
set_option maxRecDepth 100000 in
theorem mw_10 : Cond.instanceMethod ⟨"RoundedNumbers$Value", "become", "(II)V"⟩ ∈ ct_T := ct_in (List.mem_of_getElem? (i := 109) (by decide +kernel)) rfl
set_option maxRecDepth 100000 in
theorem mw_11 : Cond.selects "RoundedNumbers$Value" ⟨"RoundedNumbers$Value", "become", "(II)V"⟩ ⟨"RoundedNumbers$Value", "become", "(II)V"⟩ ∈ ct_T := ct_in (List.mem_of_getElem? (i := 110) (by decide +kernel)) rfl
set_option maxRecDepth 100000 in
theorem mw_12 : Cond.initialized "RoundedNumbers$Value" ∈ ct_T := ct_in (List.mem_of_getElem? (i := 2) (by decide +kernel)) rfl
set_option maxRecDepth 100000 in
theorem mw_13 : Cond.methodLink "RoundedNumbers$Value" 22 ⟨"RoundedNumbers$Value", "become", "(II)V"⟩ ∈ ct_T := ct_in (List.mem_of_getElem? (i := 127) (by decide +kernel)) rfl
set_option maxRecDepth 100000 in
theorem mw_14 : Cond.fieldLink "RoundedNumbers$Value" 27 "RoundedNumbers$Value" "low" "I" ∈ ct_T := ct_in (List.mem_of_getElem? (i := 33) (by decide +kernel)) rfl
set_option maxRecDepth 100000 in
theorem mw_15 : Cond.fieldLink "RoundedNumbers$Value" 9 "RoundedNumbers$Value" "limbs" "[I" ∈ ct_T := ct_in (List.mem_of_getElem? (i := 24) (by decide +kernel)) rfl
set_option maxRecDepth 100000 in
theorem mw_16 : Cond.constant "RoundedNumbers$Value" 26 2147483647 ∈ ct_T := ct_in (List.mem_of_getElem? (i := 128) (by decide +kernel)) rfl
set_option maxRecDepth 100000 in
theorem mw_17 : Cond.fieldLink "RoundedNumbers$Exact" 9 "RoundedNumbers$Exact" "limbs" "[I" ∈ ct_T := ct_in (List.mem_of_getElem? (i := 50) (by decide +kernel)) rfl
set_option maxRecDepth 100000 in
theorem mw_18 : Cond.code ⟨"java/util/Arrays", "fill", "([II)V"⟩ prog_9_method_103_code 4 none ∈ ct_T := ct_in (List.mem_of_getElem? (i := 75) rfl) rfl
set_option maxRecDepth 100000 in
theorem mw_19 : Cond.methodLink "RoundedNumbers$Exact" 15 ⟨"java/util/Arrays", "fill", "([II)V"⟩ ∈ ct_T := ct_in (List.mem_of_getElem? (i := 141) (by decide +kernel)) rfl
set_option maxRecDepth 100000 in
theorem mw_20 : Cond.static ⟨"java/util/Arrays", "fill", "([II)V"⟩ ∈ ct_T := ct_in (List.mem_of_getElem? (i := 74) (by decide +kernel)) rfl
set_option maxRecDepth 100000 in
theorem mw_21 : Cond.initialized "java/util/Arrays" ∈ ct_T := ct_in (List.mem_of_getElem? (i := 6) (by decide +kernel)) rfl
set_option maxRecDepth 100000 in
theorem mw_22 : Cond.fieldLink "RoundedNumbers$Exact" 21 "RoundedNumbers$Value" "kind" "I" ∈ ct_T := ct_in (List.mem_of_getElem? (i := 28) (by decide +kernel)) rfl
set_option maxRecDepth 100000 in
theorem mw_23 : Cond.fieldLink "RoundedNumbers$Exact" 27 "RoundedNumbers$Value" "low" "I" ∈ ct_T := ct_in (List.mem_of_getElem? (i := 32) (by decide +kernel)) rfl
set_option maxRecDepth 100000 in
theorem mw_24 : Cond.methodLink "RoundedNumbers$Exact" 30 ⟨"java/lang/Math", "max", "(II)I"⟩ ∈ ct_T := ct_in (List.mem_of_getElem? (i := 146) (by decide +kernel)) rfl
set_option maxRecDepth 100000 in
theorem mw_25 : Cond.static ⟨"java/lang/Math", "max", "(II)I"⟩ ∈ ct_T := ct_in (List.mem_of_getElem? (i := 71) (by decide +kernel)) rfl
set_option maxRecDepth 100000 in
theorem mw_26 : Cond.initialized "java/lang/Math" ∈ ct_T := ct_in (List.mem_of_getElem? (i := 5) (by decide +kernel)) rfl
set_option maxRecDepth 100000 in
theorem mw_27 : Cond.code ⟨"java/lang/Math", "max", "(II)I"⟩ prog_8_method_65_code 2 (some .int) ∈ ct_T := ct_in (List.mem_of_getElem? (i := 72) rfl) rfl
set_option maxRecDepth 100000 in
theorem mw_28 : Cond.fieldLink "RoundedNumbers$Exact" 36 "RoundedNumbers$Value" "limbs" "[I" ∈ ct_T := ct_in (List.mem_of_getElem? (i := 26) (by decide +kernel)) rfl
set_option maxRecDepth 100000 in
theorem mw_29 : Cond.constant "RoundedNumbers$Exact" 37 2147483647 ∈ ct_T := ct_in (List.mem_of_getElem? (i := 147) (by decide +kernel)) rfl
set_option maxRecDepth 100000 in
theorem mw_30 : Cond.constant "java/lang/Integer" 264 65536 ∈ ct_T := ct_in (List.mem_of_getElem? (i := 162) (by decide +kernel)) rfl
set_option maxRecDepth 100000 in
theorem mw_31 : Cond.code ⟨"java/lang/Integer", "numberOfLeadingZeros", "(I)I"⟩ prog_7_method_47_code 2 (some .int) ∈ ct_T := ct_in (List.mem_of_getElem? (i := 161) rfl) rfl
set_option maxRecDepth 100000 in
theorem mw_32 : Cond.methodLink "RoundedNumbers$Exact" 45 ⟨"java/lang/Integer", "numberOfLeadingZeros", "(I)I"⟩ ∈ ct_T := ct_in (List.mem_of_getElem? (i := 159) (by decide +kernel)) rfl
set_option maxRecDepth 100000 in
theorem mw_33 : Cond.static ⟨"java/lang/Integer", "numberOfLeadingZeros", "(I)I"⟩ ∈ ct_T := ct_in (List.mem_of_getElem? (i := 160) (by decide +kernel)) rfl
set_option maxRecDepth 100000 in
theorem mw_34 : Cond.initialized "java/lang/Integer" ∈ ct_T := ct_in (List.mem_of_getElem? (i := 8) (by decide +kernel)) rfl
set_option maxRecDepth 100000 in
theorem mw_35 : Cond.code ⟨"RoundedNumbers$Exact", "lowestBits", "(I)I"⟩ prog_2_method_13_code 1 (some .int) ∈ ct_T := ct_in (List.mem_of_getElem? (i := 174) rfl) rfl
set_option maxRecDepth 100000 in
theorem mw_36 : Cond.methodLink "RoundedNumbers$Exact" 58 ⟨"RoundedNumbers$Exact", "lowestBits", "(I)I"⟩ ∈ ct_T := ct_in (List.mem_of_getElem? (i := 172) (by decide +kernel)) rfl
set_option maxRecDepth 100000 in
theorem mw_37 : Cond.static ⟨"RoundedNumbers$Exact", "lowestBits", "(I)I"⟩ ∈ ct_T := ct_in (List.mem_of_getElem? (i := 173) (by decide +kernel)) rfl
set_option maxRecDepth 100000 in
theorem mw_38 : Cond.initialized "RoundedNumbers$Exact" ∈ ct_T := ct_in (List.mem_of_getElem? (i := 3) (by decide +kernel)) rfl
set_option maxRecDepth 100000 in
theorem mw_39 : Cond.code ⟨"RoundedNumbers$Exact", "topWeight", "()I"⟩ prog_2_method_7_code 3 (some .int) ∈ ct_T := ct_in (List.mem_of_getElem? (i := 158) rfl) rfl
set_option maxRecDepth 100000 in
theorem mw_40 : Cond.methodLink "RoundedNumbers$Exact" 41 ⟨"RoundedNumbers$Exact", "topWeight", "()I"⟩ ∈ ct_T := ct_in (List.mem_of_getElem? (i := 167) (by decide +kernel)) rfl
set_option maxRecDepth 100000 in
theorem mw_41 : Cond.instanceMethod ⟨"RoundedNumbers$Exact", "topWeight", "()I"⟩ ∈ ct_T := ct_in (List.mem_of_getElem? (i := 156) (by decide +kernel)) rfl
set_option maxRecDepth 100000 in
theorem mw_42 : Cond.selects "RoundedNumbers$Exact" ⟨"RoundedNumbers$Exact", "topWeight", "()I"⟩ ⟨"RoundedNumbers$Exact", "topWeight", "()I"⟩ ∈ ct_T := ct_in (List.mem_of_getElem? (i := 157) (by decide +kernel)) rfl
set_option maxRecDepth 100000 in
theorem mw_43 : Cond.code ⟨"RoundedNumbers$Exact", "hasBelow", "(I)Z"⟩ prog_2_method_11_code 4 (some .boolean) ∈ ct_T := ct_in (List.mem_of_getElem? (i := 171) rfl) rfl
set_option maxRecDepth 100000 in
theorem mw_44 : Cond.methodLink "RoundedNumbers$Exact" 54 ⟨"RoundedNumbers$Exact", "hasBelow", "(I)Z"⟩ ∈ ct_T := ct_in (List.mem_of_getElem? (i := 168) (by decide +kernel)) rfl
set_option maxRecDepth 100000 in
theorem mw_45 : Cond.instanceMethod ⟨"RoundedNumbers$Exact", "hasBelow", "(I)Z"⟩ ∈ ct_T := ct_in (List.mem_of_getElem? (i := 170) (by decide +kernel)) rfl
theorem mw_46 : Cond.selects "RoundedNumbers$Exact" ⟨"RoundedNumbers$Exact", "hasBelow", "(I)Z"⟩ ⟨"RoundedNumbers$Exact", "hasBelow", "(I)Z"⟩ ∈ ct_T := ct_ins (List.mem_of_getElem? (i := 4) (by decide +kernel)) rfl
set_option maxRecDepth 100000 in
theorem mw_47 : Cond.code ⟨"RoundedNumbers$Exact", "limb", "(I)I"⟩ prog_2_method_9_code 2 (some .int) ∈ ct_T := ct_in (List.mem_of_getElem? (i := 185) rfl) rfl
set_option maxRecDepth 100000 in
theorem mw_48 : Cond.methodLink "RoundedNumbers$Exact" 51 ⟨"RoundedNumbers$Exact", "limb", "(I)I"⟩ ∈ ct_T := ct_in (List.mem_of_getElem? (i := 182) (by decide +kernel)) rfl
set_option maxRecDepth 100000 in
theorem mw_49 : Cond.instanceMethod ⟨"RoundedNumbers$Exact", "limb", "(I)I"⟩ ∈ ct_T := ct_in (List.mem_of_getElem? (i := 184) (by decide +kernel)) rfl
theorem mw_50 : Cond.selects "RoundedNumbers$Exact" ⟨"RoundedNumbers$Exact", "limb", "(I)I"⟩ ⟨"RoundedNumbers$Exact", "limb", "(I)I"⟩ ∈ ct_T := ct_ins (List.mem_of_getElem? (i := 5) (by decide +kernel)) rfl
set_option maxRecDepth 100000 in
theorem mw_51 : Cond.code ⟨"RoundedNumbers$Exact", "cutBelow", "(I)V"⟩ prog_2_method_12_code 4 none ∈ ct_T := ct_in (List.mem_of_getElem? (i := 194) rfl) rfl
set_option maxRecDepth 100000 in
theorem mw_52 : Cond.methodLink "RoundedNumbers$Exact" 64 ⟨"RoundedNumbers$Exact", "cutBelow", "(I)V"⟩ ∈ ct_T := ct_in (List.mem_of_getElem? (i := 191) (by decide +kernel)) rfl
set_option maxRecDepth 100000 in
theorem mw_53 : Cond.instanceMethod ⟨"RoundedNumbers$Exact", "cutBelow", "(I)V"⟩ ∈ ct_T := ct_in (List.mem_of_getElem? (i := 193) (by decide +kernel)) rfl
theorem mw_54 : Cond.selects "RoundedNumbers$Exact" ⟨"RoundedNumbers$Exact", "cutBelow", "(I)V"⟩ ⟨"RoundedNumbers$Exact", "cutBelow", "(I)V"⟩ ∈ ct_T := ct_ins (List.mem_of_getElem? (i := 6) (by decide +kernel)) rfl
set_option maxRecDepth 100000 in
theorem mw_55 : Cond.code ⟨"RoundedNumbers$Exact", "addPower", "(II)V"⟩ prog_2_method_4_code 7 none ∈ ct_T := ct_in (List.mem_of_getElem? (i := 198) rfl) rfl
set_option maxRecDepth 100000 in
theorem mw_56 : Cond.methodLink "RoundedNumbers$Exact" 68 ⟨"RoundedNumbers$Exact", "addPower", "(II)V"⟩ ∈ ct_T := ct_in (List.mem_of_getElem? (i := 195) (by decide +kernel)) rfl
set_option maxRecDepth 100000 in
theorem mw_57 : Cond.instanceMethod ⟨"RoundedNumbers$Exact", "addPower", "(II)V"⟩ ∈ ct_T := ct_in (List.mem_of_getElem? (i := 196) (by decide +kernel)) rfl
set_option maxRecDepth 100000 in
theorem mw_58 : Cond.selects "RoundedNumbers$Exact" ⟨"RoundedNumbers$Exact", "addPower", "(II)V"⟩ ⟨"RoundedNumbers$Exact", "addPower", "(II)V"⟩ ∈ ct_T := ct_in (List.mem_of_getElem? (i := 197) (by decide +kernel)) rfl
set_option maxRecDepth 100000 in
theorem mw_59 : Cond.code ⟨"RoundedNumbers$Exact", "bit", "(I)I"⟩ prog_2_method_8_code 3 (some .int) ∈ ct_T := ct_in (List.mem_of_getElem? (i := 181) rfl) rfl
set_option maxRecDepth 100000 in
theorem mw_60 : Cond.methodLink "RoundedNumbers$Exact" 61 ⟨"RoundedNumbers$Exact", "bit", "(I)I"⟩ ∈ ct_T := ct_in (List.mem_of_getElem? (i := 190) (by decide +kernel)) rfl
set_option maxRecDepth 100000 in
theorem mw_61 : Cond.instanceMethod ⟨"RoundedNumbers$Exact", "bit", "(I)I"⟩ ∈ ct_T := ct_in (List.mem_of_getElem? (i := 179) (by decide +kernel)) rfl
set_option maxRecDepth 100000 in
theorem mw_62 : Cond.selects "RoundedNumbers$Exact" ⟨"RoundedNumbers$Exact", "bit", "(I)I"⟩ ⟨"RoundedNumbers$Exact", "bit", "(I)I"⟩ ∈ ct_T := ct_in (List.mem_of_getElem? (i := 180) (by decide +kernel)) rfl
set_option maxRecDepth 100000 in
theorem mw_63 : Cond.methodLink "RoundedNumbers$Exact" 72 ⟨"RoundedNumbers$Value", "become", "(II)V"⟩ ∈ ct_T := ct_in (List.mem_of_getElem? (i := 208) (by decide +kernel)) rfl
set_option maxRecDepth 100000 in
theorem mw_64 : Cond.fieldLink "RoundedNumbers" 32 "RoundedNumbers" "exact" "LRoundedNumbers$Exact;" ∈ ct_T := ct_in (List.mem_of_getElem? (i := 80) (by decide +kernel)) rfl
set_option maxRecDepth 100000 in
theorem mw_65 : Cond.code ⟨"RoundedNumbers$Exact", "clear", "()V"⟩ prog_2_method_2_code 1 none ∈ ct_T := ct_in (List.mem_of_getElem? (i := 140) rfl) rfl
set_option maxRecDepth 100000 in
theorem mw_66 : Cond.methodLink "RoundedNumbers" 125 ⟨"RoundedNumbers$Exact", "clear", "()V"⟩ ∈ ct_T := ct_in (List.mem_of_getElem? (i := 137) (by decide +kernel)) rfl
set_option maxRecDepth 100000 in
theorem mw_67 : Cond.instanceMethod ⟨"RoundedNumbers$Exact", "clear", "()V"⟩ ∈ ct_T := ct_in (List.mem_of_getElem? (i := 138) (by decide +kernel)) rfl
set_option maxRecDepth 100000 in
theorem mw_68 : Cond.selects "RoundedNumbers$Exact" ⟨"RoundedNumbers$Exact", "clear", "()V"⟩ ⟨"RoundedNumbers$Exact", "clear", "()V"⟩ ∈ ct_T := ct_in (List.mem_of_getElem? (i := 139) (by decide +kernel)) rfl
set_option maxRecDepth 100000 in
theorem mw_69 : Cond.methodLink "RoundedNumbers" 188 ⟨"RoundedNumbers$Exact", "addPower", "(II)V"⟩ ∈ ct_T := ct_in (List.mem_of_getElem? (i := 203) (by decide +kernel)) rfl
set_option maxRecDepth 100000 in
theorem mw_70 : Cond.code ⟨"RoundedNumbers$Exact", "storeInto", "(LRoundedNumbers$Value;I)V"⟩ prog_2_method_16_code 10 none ∈ ct_T := ct_in (List.mem_of_getElem? (i := 207) rfl) rfl
set_option maxRecDepth 100000 in
theorem mw_71 : Cond.methodLink "RoundedNumbers" 185 ⟨"RoundedNumbers$Exact", "storeInto", "(LRoundedNumbers$Value;I)V"⟩ ∈ ct_T := ct_in (List.mem_of_getElem? (i := 204) (by decide +kernel)) rfl
set_option maxRecDepth 100000 in
theorem mw_72 : Cond.instanceMethod ⟨"RoundedNumbers$Exact", "storeInto", "(LRoundedNumbers$Value;I)V"⟩ ∈ ct_T := ct_in (List.mem_of_getElem? (i := 205) (by decide +kernel)) rfl
set_option maxRecDepth 100000 in
theorem mw_73 : Cond.selects "RoundedNumbers$Exact" ⟨"RoundedNumbers$Exact", "storeInto", "(LRoundedNumbers$Value;I)V"⟩ ⟨"RoundedNumbers$Exact", "storeInto", "(LRoundedNumbers$Value;I)V"⟩ ∈ ct_T := ct_in (List.mem_of_getElem? (i := 206) (by decide +kernel)) rfl
set_option maxRecDepth 100000 in
theorem mw_74 : Cond.code ⟨"RoundedNumbers", "modeOnSize", "(II)I"⟩ prog_1_method_22_code 2 (some .int) ∈ ct_T := ct_in (List.mem_of_getElem? (i := 154) rfl) rfl
set_option maxRecDepth 100000 in
theorem mw_75 : Cond.methodLink "RoundedNumbers" 149 ⟨"RoundedNumbers", "modeOnSize", "(II)I"⟩ ∈ ct_T := ct_in (List.mem_of_getElem? (i := 152) (by decide +kernel)) rfl
set_option maxRecDepth 100000 in
theorem mw_76 : Cond.static ⟨"RoundedNumbers", "modeOnSize", "(II)I"⟩ ∈ ct_T := ct_in (List.mem_of_getElem? (i := 153) (by decide +kernel)) rfl
set_option maxRecDepth 100000 in
theorem mw_77 : Cond.methodLink "RoundedNumbers" 170 ⟨"RoundedNumbers$Exact", "topWeight", "()I"⟩ ∈ ct_T := ct_in (List.mem_of_getElem? (i := 155) (by decide +kernel)) rfl
set_option maxRecDepth 100000 in
theorem mw_78 : Cond.code ⟨"RoundedNumbers$Exact", "isAbovePower", "(I)Z"⟩ prog_2_method_10_code 3 (some .boolean) ∈ ct_T := ct_in (List.mem_of_getElem? (i := 166) rfl) rfl
set_option maxRecDepth 100000 in
theorem mw_79 : Cond.methodLink "RoundedNumbers" 173 ⟨"RoundedNumbers$Exact", "isAbovePower", "(I)Z"⟩ ∈ ct_T := ct_in (List.mem_of_getElem? (i := 163) (by decide +kernel)) rfl
set_option maxRecDepth 100000 in
theorem mw_80 : Cond.instanceMethod ⟨"RoundedNumbers$Exact", "isAbovePower", "(I)Z"⟩ ∈ ct_T := ct_in (List.mem_of_getElem? (i := 164) (by decide +kernel)) rfl
set_option maxRecDepth 100000 in
theorem mw_81 : Cond.selects "RoundedNumbers$Exact" ⟨"RoundedNumbers$Exact", "isAbovePower", "(I)Z"⟩ ⟨"RoundedNumbers$Exact", "isAbovePower", "(I)Z"⟩ ∈ ct_T := ct_in (List.mem_of_getElem? (i := 165) (by decide +kernel)) rfl
set_option maxRecDepth 100000 in
theorem mw_82 : Cond.methodLink "RoundedNumbers" 152 ⟨"RoundedNumbers$Exact", "bit", "(I)I"⟩ ∈ ct_T := ct_in (List.mem_of_getElem? (i := 178) (by decide +kernel)) rfl
set_option maxRecDepth 100000 in
theorem mw_83 : Cond.code ⟨"RoundedNumbers$Exact", "roundAt", "(IIZ)I"⟩ prog_2_method_14_code 5 (some .int) ∈ ct_T := ct_in (List.mem_of_getElem? (i := 189) rfl) rfl
set_option maxRecDepth 100000 in
theorem mw_84 : Cond.methodLink "RoundedNumbers" 155 ⟨"RoundedNumbers$Exact", "roundAt", "(IIZ)I"⟩ ∈ ct_T := ct_in (List.mem_of_getElem? (i := 186) (by decide +kernel)) rfl
set_option maxRecDepth 100000 in
theorem mw_85 : Cond.instanceMethod ⟨"RoundedNumbers$Exact", "roundAt", "(IIZ)I"⟩ ∈ ct_T := ct_in (List.mem_of_getElem? (i := 187) (by decide +kernel)) rfl
set_option maxRecDepth 100000 in
theorem mw_86 : Cond.selects "RoundedNumbers$Exact" ⟨"RoundedNumbers$Exact", "roundAt", "(IIZ)I"⟩ ⟨"RoundedNumbers$Exact", "roundAt", "(IIZ)I"⟩ ∈ ct_T := ct_in (List.mem_of_getElem? (i := 188) (by decide +kernel)) rfl
set_option maxRecDepth 100000 in
theorem mw_87 : Cond.code ⟨"RoundedNumbers", "storeTiny", "(IIZ)I"⟩ prog_1_method_33_code 4 (some .int) ∈ ct_T := ct_in (List.mem_of_getElem? (i := 212) rfl) rfl
set_option maxRecDepth 100000 in
theorem mw_88 : Cond.methodLink "RoundedNumbers" 182 ⟨"RoundedNumbers", "storeTiny", "(IIZ)I"⟩ ∈ ct_T := ct_in (List.mem_of_getElem? (i := 209) (by decide +kernel)) rfl
set_option maxRecDepth 100000 in
theorem mw_89 : Cond.instanceMethod ⟨"RoundedNumbers", "storeTiny", "(IIZ)I"⟩ ∈ ct_T := ct_in (List.mem_of_getElem? (i := 211) (by decide +kernel)) rfl
theorem mw_90 : Cond.selects "RoundedNumbers" ⟨"RoundedNumbers", "storeTiny", "(IIZ)I"⟩ ⟨"RoundedNumbers", "storeTiny", "(IIZ)I"⟩ ∈ ct_T := ct_ins (List.mem_of_getElem? (i := 8) (by decide +kernel)) rfl
set_option maxRecDepth 100000 in
theorem mw_91 : Cond.code ⟨"RoundedNumbers", "storeHuge", "(III)I"⟩ prog_1_method_32_code 4 (some .int) ∈ ct_T := ct_in (List.mem_of_getElem? (i := 202) rfl) rfl
set_option maxRecDepth 100000 in
theorem mw_92 : Cond.methodLink "RoundedNumbers" 179 ⟨"RoundedNumbers", "storeHuge", "(III)I"⟩ ∈ ct_T := ct_in (List.mem_of_getElem? (i := 199) (by decide +kernel)) rfl
set_option maxRecDepth 100000 in
theorem mw_93 : Cond.instanceMethod ⟨"RoundedNumbers", "storeHuge", "(III)I"⟩ ∈ ct_T := ct_in (List.mem_of_getElem? (i := 201) (by decide +kernel)) rfl
theorem mw_94 : Cond.selects "RoundedNumbers" ⟨"RoundedNumbers", "storeHuge", "(III)I"⟩ ⟨"RoundedNumbers", "storeHuge", "(III)I"⟩ ∈ ct_T := ct_ins (List.mem_of_getElem? (i := 7) (by decide +kernel)) rfl
set_option maxRecDepth 100000 in
theorem mw_95 : Cond.code ⟨"RoundedNumbers", "isOdd", "(I)Z"⟩ prog_1_method_31_code 1 (some .boolean) ∈ ct_T := ct_in (List.mem_of_getElem? (i := 177) rfl) rfl
set_option maxRecDepth 100000 in
theorem mw_96 : Cond.methodLink "RoundedNumbers" 176 ⟨"RoundedNumbers", "isOdd", "(I)Z"⟩ ∈ ct_T := ct_in (List.mem_of_getElem? (i := 175) (by decide +kernel)) rfl
set_option maxRecDepth 100000 in
theorem mw_97 : Cond.static ⟨"RoundedNumbers", "isOdd", "(I)Z"⟩ ∈ ct_T := ct_in (List.mem_of_getElem? (i := 176) (by decide +kernel)) rfl
set_option maxRecDepth 100000 in
theorem mw_98 : Cond.fieldLink "RoundedNumbers" 96 "RoundedNumbers$Value" "kind" "I" ∈ ct_T := ct_in (List.mem_of_getElem? (i := 29) (by decide +kernel)) rfl
set_option maxRecDepth 100000 in
theorem mw_99 : Cond.code ⟨"RoundedNumbers$Exact", "gather", "(LRoundedNumbers$Value;I)V"⟩ prog_2_method_3_code 11 none ∈ ct_T := ct_in (List.mem_of_getElem? (i := 145) rfl) rfl
set_option maxRecDepth 100000 in
theorem mw_100 : Cond.methodLink "RoundedNumbers" 128 ⟨"RoundedNumbers$Exact", "gather", "(LRoundedNumbers$Value;I)V"⟩ ∈ ct_T := ct_in (List.mem_of_getElem? (i := 142) (by decide +kernel)) rfl
set_option maxRecDepth 100000 in
theorem mw_101 : Cond.instanceMethod ⟨"RoundedNumbers$Exact", "gather", "(LRoundedNumbers$Value;I)V"⟩ ∈ ct_T := ct_in (List.mem_of_getElem? (i := 143) (by decide +kernel)) rfl
set_option maxRecDepth 100000 in
theorem mw_102 : Cond.selects "RoundedNumbers$Exact" ⟨"RoundedNumbers$Exact", "gather", "(LRoundedNumbers$Value;I)V"⟩ ⟨"RoundedNumbers$Exact", "gather", "(LRoundedNumbers$Value;I)V"⟩ ∈ ct_T := ct_in (List.mem_of_getElem? (i := 144) (by decide +kernel)) rfl
set_option maxRecDepth 100000 in
theorem mw_103 : Cond.code ⟨"RoundedNumbers", "storeExact", "(III)I"⟩ prog_1_method_30_code 12 (some .int) ∈ ct_T := ct_in (List.mem_of_getElem? (i := 151) rfl) rfl
set_option maxRecDepth 100000 in
theorem mw_104 : Cond.methodLink "RoundedNumbers" 109 ⟨"RoundedNumbers", "storeExact", "(III)I"⟩ ∈ ct_T := ct_in (List.mem_of_getElem? (i := 148) (by decide +kernel)) rfl
set_option maxRecDepth 100000 in
theorem mw_105 : Cond.instanceMethod ⟨"RoundedNumbers", "storeExact", "(III)I"⟩ ∈ ct_T := ct_in (List.mem_of_getElem? (i := 150) (by decide +kernel)) rfl
theorem mw_106 : Cond.selects "RoundedNumbers" ⟨"RoundedNumbers", "storeExact", "(III)I"⟩ ⟨"RoundedNumbers", "storeExact", "(III)I"⟩ ∈ ct_T := ct_ins (List.mem_of_getElem? (i := 3) (by decide +kernel)) rfl
set_option maxRecDepth 100000 in
theorem mw_107 : Cond.code ⟨"RoundedNumbers", "storePlain", "(III)I"⟩ prog_1_method_26_code 4 (some .int) ∈ ct_T := ct_in (List.mem_of_getElem? (i := 136) rfl) rfl
set_option maxRecDepth 100000 in
theorem mw_108 : Cond.methodLink "RoundedNumbers" 102 ⟨"RoundedNumbers", "storePlain", "(III)I"⟩ ∈ ct_T := ct_in (List.mem_of_getElem? (i := 133) (by decide +kernel)) rfl
set_option maxRecDepth 100000 in
theorem mw_109 : Cond.instanceMethod ⟨"RoundedNumbers", "storePlain", "(III)I"⟩ ∈ ct_T := ct_in (List.mem_of_getElem? (i := 135) (by decide +kernel)) rfl
theorem mw_110 : Cond.selects "RoundedNumbers" ⟨"RoundedNumbers", "storePlain", "(III)I"⟩ ⟨"RoundedNumbers", "storePlain", "(III)I"⟩ ∈ ct_T := ct_ins (List.mem_of_getElem? (i := 2) (by decide +kernel)) rfl
set_option maxRecDepth 100000 in
theorem mw_111 : Cond.fieldLink "RoundedNumbers" 22 "RoundedNumbers" "loaded" "LRoundedNumbers$Value;" ∈ ct_T := ct_in (List.mem_of_getElem? (i := 78) (by decide +kernel)) rfl
set_option maxRecDepth 100000 in
theorem mw_112 : Cond.code ⟨"RoundedNumbers$Value", "takeScaled", "(JI)V"⟩ prog_3_method_3_code 7 none ∈ ct_T := ct_in (List.mem_of_getElem? (i := 126) rfl) rfl
set_option maxRecDepth 100000 in
theorem mw_113 : Cond.methodLink "RoundedNumbers" 163 ⟨"RoundedNumbers$Value", "takeScaled", "(JI)V"⟩ ∈ ct_T := ct_in (List.mem_of_getElem? (i := 123) (by decide +kernel)) rfl
set_option maxRecDepth 100000 in
theorem mw_114 : Cond.instanceMethod ⟨"RoundedNumbers$Value", "takeScaled", "(JI)V"⟩ ∈ ct_T := ct_in (List.mem_of_getElem? (i := 124) (by decide +kernel)) rfl
set_option maxRecDepth 100000 in
theorem mw_115 : Cond.selects "RoundedNumbers$Value" ⟨"RoundedNumbers$Value", "takeScaled", "(JI)V"⟩ ⟨"RoundedNumbers$Value", "takeScaled", "(JI)V"⟩ ∈ ct_T := ct_in (List.mem_of_getElem? (i := 125) (by decide +kernel)) rfl
set_option maxRecDepth 100000 in
theorem mw_116 : Cond.fieldLink "RoundedNumbers" 80 "RoundedNumbers$Value" "sign" "I" ∈ ct_T := ct_in (List.mem_of_getElem? (i := 31) (by decide +kernel)) rfl
set_option maxRecDepth 100000 in
theorem mw_117 : Cond.code ⟨"RoundedNumbers", "storeValue", "(ILRoundedNumbers$Value;II)I"⟩ prog_1_method_28_code 5 (some .int) ∈ ct_T := ct_in (List.mem_of_getElem? (i := 132) rfl) rfl
set_option maxRecDepth 100000 in
theorem mw_118 : Cond.methodLink "RoundedNumbers" 84 ⟨"RoundedNumbers", "storeValue", "(ILRoundedNumbers$Value;II)I"⟩ ∈ ct_T := ct_in (List.mem_of_getElem? (i := 129) (by decide +kernel)) rfl
set_option maxRecDepth 100000 in
theorem mw_119 : Cond.instanceMethod ⟨"RoundedNumbers", "storeValue", "(ILRoundedNumbers$Value;II)I"⟩ ∈ ct_T := ct_in (List.mem_of_getElem? (i := 131) (by decide +kernel)) rfl
theorem mw_120 : Cond.selects "RoundedNumbers" ⟨"RoundedNumbers", "storeValue", "(ILRoundedNumbers$Value;II)I"⟩ ⟨"RoundedNumbers", "storeValue", "(ILRoundedNumbers$Value;II)I"⟩ ∈ ct_T := ct_ins (List.mem_of_getElem? (i := 1) (by decide +kernel)) rfl
set_option maxRecDepth 100000 in
theorem mw_121 : Cond.code ⟨"RoundedNumbers", "isTarget", "(II)Z"⟩ prog_1_method_20_code 2 (some .boolean) ∈ ct_T := ct_in (List.mem_of_getElem? (i := 118) rfl) rfl
set_option maxRecDepth 100000 in
theorem mw_122 : Cond.methodLink "RoundedNumbers" 72 ⟨"RoundedNumbers", "isTarget", "(II)Z"⟩ ∈ ct_T := ct_in (List.mem_of_getElem? (i := 116) (by decide +kernel)) rfl
set_option maxRecDepth 100000 in
theorem mw_123 : Cond.static ⟨"RoundedNumbers", "isTarget", "(II)Z"⟩ ∈ ct_T := ct_in (List.mem_of_getElem? (i := 117) (by decide +kernel)) rfl
set_option maxRecDepth 100000 in
theorem mw_124 : Cond.code ⟨"RoundedNumbers", "storeLoaded", "(IJII)I"⟩ prog_1_method_27_code 6 (some .int) ∈ ct_T := ct_in (List.mem_of_getElem? (i := 122) rfl) rfl
set_option maxRecDepth 100000 in
theorem mw_125 : Cond.methodLink "RoundedNumbers" 76 ⟨"RoundedNumbers", "storeLoaded", "(IJII)I"⟩ ∈ ct_T := ct_in (List.mem_of_getElem? (i := 119) (by decide +kernel)) rfl
set_option maxRecDepth 100000 in
theorem mw_126 : Cond.instanceMethod ⟨"RoundedNumbers", "storeLoaded", "(IJII)I"⟩ ∈ ct_T := ct_in (List.mem_of_getElem? (i := 121) (by decide +kernel)) rfl
theorem mw_127 : Cond.selects "RoundedNumbers" ⟨"RoundedNumbers", "storeLoaded", "(IJII)I"⟩ ⟨"RoundedNumbers", "storeLoaded", "(IJII)I"⟩ ∈ ct_T := ct_ins (List.mem_of_getElem? (i := 0) (by decide +kernel)) rfl
set_option maxRecDepth 100000 in
theorem mw_128 : Cond.code ⟨"RoundedNumbers$Exact", "turnSign", "()V"⟩ prog_2_method_6_code 4 none ∈ ct_T := ct_in (List.mem_of_getElem? (i := 243) rfl) rfl
set_option maxRecDepth 100000 in
theorem mw_129 : Cond.methodLink "RoundedNumbers$Exact" 38 ⟨"RoundedNumbers$Exact", "turnSign", "()V"⟩ ∈ ct_T := ct_in (List.mem_of_getElem? (i := 240) (by decide +kernel)) rfl
set_option maxRecDepth 100000 in
theorem mw_130 : Cond.instanceMethod ⟨"RoundedNumbers$Exact", "turnSign", "()V"⟩ ∈ ct_T := ct_in (List.mem_of_getElem? (i := 242) (by decide +kernel)) rfl
theorem mw_131 : Cond.selects "RoundedNumbers$Exact" ⟨"RoundedNumbers$Exact", "turnSign", "()V"⟩ ⟨"RoundedNumbers$Exact", "turnSign", "()V"⟩ ∈ ct_T := ct_ins (List.mem_of_getElem? (i := 10) (by decide +kernel)) rfl
set_option maxRecDepth 100000 in
theorem mw_132 : Cond.code ⟨"RoundedNumbers$Exact", "splitSign", "()I"⟩ prog_2_method_5_code 1 (some .int) ∈ ct_T := ct_in (List.mem_of_getElem? (i := 239) rfl) rfl
set_option maxRecDepth 100000 in
theorem mw_133 : Cond.methodLink "RoundedNumbers" 132 ⟨"RoundedNumbers$Exact", "splitSign", "()I"⟩ ∈ ct_T := ct_in (List.mem_of_getElem? (i := 236) (by decide +kernel)) rfl
set_option maxRecDepth 100000 in
theorem mw_134 : Cond.instanceMethod ⟨"RoundedNumbers$Exact", "splitSign", "()I"⟩ ∈ ct_T := ct_in (List.mem_of_getElem? (i := 237) (by decide +kernel)) rfl
set_option maxRecDepth 100000 in
theorem mw_135 : Cond.selects "RoundedNumbers$Exact" ⟨"RoundedNumbers$Exact", "splitSign", "()I"⟩ ⟨"RoundedNumbers$Exact", "splitSign", "()I"⟩ ∈ ct_T := ct_in (List.mem_of_getElem? (i := 238) (by decide +kernel)) rfl
set_option maxRecDepth 100000 in
theorem mw_136 : Cond.code ⟨"RoundedNumbers", "signOfNothing", "(I)I"⟩ prog_1_method_25_code 1 (some .int) ∈ ct_T := ct_in (List.mem_of_getElem? (i := 235) rfl) rfl
set_option maxRecDepth 100000 in
theorem mw_137 : Cond.methodLink "RoundedNumbers" 167 ⟨"RoundedNumbers", "signOfNothing", "(I)I"⟩ ∈ ct_T := ct_in (List.mem_of_getElem? (i := 233) (by decide +kernel)) rfl
set_option maxRecDepth 100000 in
theorem mw_138 : Cond.static ⟨"RoundedNumbers", "signOfNothing", "(I)I"⟩ ∈ ct_T := ct_in (List.mem_of_getElem? (i := 234) (by decide +kernel)) rfl
set_option maxRecDepth 100000 in
theorem mw_139 : Cond.code ⟨"RoundedNumbers", "storeSum", "(ILRoundedNumbers$Value;LRoundedNumbers$Value;II)I"⟩ prog_1_method_29_code 7 (some .int) ∈ ct_T := ct_in (List.mem_of_getElem? (i := 232) rfl) rfl
set_option maxRecDepth 100000 in
theorem mw_140 : Cond.methodLink "RoundedNumbers" 88 ⟨"RoundedNumbers", "storeSum", "(ILRoundedNumbers$Value;LRoundedNumbers$Value;II)I"⟩ ∈ ct_T := ct_in (List.mem_of_getElem? (i := 229) (by decide +kernel)) rfl
set_option maxRecDepth 100000 in
theorem mw_141 : Cond.instanceMethod ⟨"RoundedNumbers", "storeSum", "(ILRoundedNumbers$Value;LRoundedNumbers$Value;II)I"⟩ ∈ ct_T := ct_in (List.mem_of_getElem? (i := 231) (by decide +kernel)) rfl
theorem mw_142 : Cond.selects "RoundedNumbers" ⟨"RoundedNumbers", "storeSum", "(ILRoundedNumbers$Value;LRoundedNumbers$Value;II)I"⟩ ⟨"RoundedNumbers", "storeSum", "(ILRoundedNumbers$Value;LRoundedNumbers$Value;II)I"⟩ ∈ ct_T := ct_ins (List.mem_of_getElem? (i := 9) (by decide +kernel)) rfl
set_option maxRecDepth 100000 in
theorem mw_143 : Cond.code ⟨"RoundedNumbers", "productKind", "(II)I"⟩ prog_1_method_23_code 2 (some .int) ∈ ct_T := ct_in (List.mem_of_getElem? (i := 258) rfl) rfl
set_option maxRecDepth 100000 in
theorem mw_144 : Cond.static ⟨"RoundedNumbers", "productKind", "(II)I"⟩ ∈ ct_T := ct_in (List.mem_of_getElem? (i := 257) (by decide +kernel)) rfl
set_option maxRecDepth 100000 in
theorem mw_145 : Cond.methodLink "RoundedNumbers$Value" 34 ⟨"java/util/Arrays", "fill", "([II)V"⟩ ∈ ct_T := ct_in (List.mem_of_getElem? (i := 259) (by decide +kernel)) rfl
set_option maxRecDepth 100000 in
theorem mw_146 : Cond.fieldLink "RoundedNumbers" 26 "RoundedNumbers" "product" "LRoundedNumbers$Value;" ∈ ct_T := ct_in (List.mem_of_getElem? (i := 79) (by decide +kernel)) rfl
set_option maxRecDepth 100000 in
theorem mw_147 : Cond.code ⟨"RoundedNumbers$Value", "takeProduct", "(LRoundedNumbers$Value;LRoundedNumbers$Value;)V"⟩ prog_3_method_4_code 7 none ∈ ct_T := ct_in (List.mem_of_getElem? (i := 255) rfl) rfl
set_option maxRecDepth 100000 in
theorem mw_148 : Cond.methodLink "RoundedNumbers" 92 ⟨"RoundedNumbers$Value", "takeProduct", "(LRoundedNumbers$Value;LRoundedNumbers$Value;)V"⟩ ∈ ct_T := ct_in (List.mem_of_getElem? (i := 252) (by decide +kernel)) rfl
set_option maxRecDepth 100000 in
theorem mw_149 : Cond.instanceMethod ⟨"RoundedNumbers$Value", "takeProduct", "(LRoundedNumbers$Value;LRoundedNumbers$Value;)V"⟩ ∈ ct_T := ct_in (List.mem_of_getElem? (i := 253) (by decide +kernel)) rfl
set_option maxRecDepth 100000 in
theorem mw_150 : Cond.selects "RoundedNumbers$Value" ⟨"RoundedNumbers$Value", "takeProduct", "(LRoundedNumbers$Value;LRoundedNumbers$Value;)V"⟩ ⟨"RoundedNumbers$Value", "takeProduct", "(LRoundedNumbers$Value;LRoundedNumbers$Value;)V"⟩ ∈ ct_T := ct_in (List.mem_of_getElem? (i := 254) (by decide +kernel)) rfl
set_option maxRecDepth 100000 in
theorem mw_151 : Cond.fieldLink "RoundedNumbers$Wide" 18 "RoundedNumbers$Value" "limbs" "[I" ∈ ct_T := ct_in (List.mem_of_getElem? (i := 25) (by decide +kernel)) rfl
set_option maxRecDepth 100000 in
theorem mw_152 : Cond.fieldLink "RoundedNumbers$Wide" 11 "RoundedNumbers$Wide" "high" "J" ∈ ct_T := ct_in (List.mem_of_getElem? (i := 60) (by decide +kernel)) rfl
set_option maxRecDepth 100000 in
theorem mw_153 : Cond.fieldLink "RoundedNumbers$Wide" 15 "RoundedNumbers$Wide" "low" "J" ∈ ct_T := ct_in (List.mem_of_getElem? (i := 61) (by decide +kernel)) rfl
set_option maxRecDepth 100000 in
theorem mw_154 : Cond.constantLong "RoundedNumbers$Wide" 26 4611686018427387904 ∈ ct_T := ct_in (List.mem_of_getElem? (i := 287) (by decide +kernel)) rfl
set_option maxRecDepth 100000 in
theorem mw_155 : Cond.constantLong "RoundedNumbers$Wide" 24 4611686018427387903 ∈ ct_T := ct_in (List.mem_of_getElem? (i := 292) (by decide +kernel)) rfl
set_option maxRecDepth 100000 in
theorem mw_156 : Cond.fieldLink "RoundedNumbers" 39 "RoundedNumbers" "remainder" "LRoundedNumbers$Wide;" ∈ ct_T := ct_in (List.mem_of_getElem? (i := 81) (by decide +kernel)) rfl
set_option maxRecDepth 100000 in
theorem mw_157 : Cond.code ⟨"RoundedNumbers$Wide", "isNothing", "()Z"⟩ prog_4_method_8_code 1 (some .boolean) ∈ ct_T := ct_in (List.mem_of_getElem? (i := 300) rfl) rfl
set_option maxRecDepth 100000 in
theorem mw_158 : Cond.methodLink "RoundedNumbers" 212 ⟨"RoundedNumbers$Wide", "isNothing", "()Z"⟩ ∈ ct_T := ct_in (List.mem_of_getElem? (i := 297) (by decide +kernel)) rfl
set_option maxRecDepth 100000 in
theorem mw_159 : Cond.instanceMethod ⟨"RoundedNumbers$Wide", "isNothing", "()Z"⟩ ∈ ct_T := ct_in (List.mem_of_getElem? (i := 298) (by decide +kernel)) rfl
set_option maxRecDepth 100000 in
theorem mw_160 : Cond.selects "RoundedNumbers$Wide" ⟨"RoundedNumbers$Wide", "isNothing", "()Z"⟩ ⟨"RoundedNumbers$Wide", "isNothing", "()Z"⟩ ∈ ct_T := ct_in (List.mem_of_getElem? (i := 299) (by decide +kernel)) rfl
set_option maxRecDepth 100000 in
theorem mw_161 : Cond.initialized "RoundedNumbers$Wide" ∈ ct_T := ct_in (List.mem_of_getElem? (i := 4) (by decide +kernel)) rfl
set_option maxRecDepth 100000 in
theorem mw_162 : Cond.code ⟨"RoundedNumbers$Value", "exponent", "()I"⟩ prog_3_method_6_code 1 (some .int) ∈ ct_T := ct_in (List.mem_of_getElem? (i := 274) rfl) rfl
set_option maxRecDepth 100000 in
theorem mw_163 : Cond.methodLink "RoundedNumbers" 138 ⟨"RoundedNumbers$Value", "exponent", "()I"⟩ ∈ ct_T := ct_in (List.mem_of_getElem? (i := 271) (by decide +kernel)) rfl
set_option maxRecDepth 100000 in
theorem mw_164 : Cond.instanceMethod ⟨"RoundedNumbers$Value", "exponent", "()I"⟩ ∈ ct_T := ct_in (List.mem_of_getElem? (i := 272) (by decide +kernel)) rfl
set_option maxRecDepth 100000 in
theorem mw_165 : Cond.selects "RoundedNumbers$Value" ⟨"RoundedNumbers$Value", "exponent", "()I"⟩ ⟨"RoundedNumbers$Value", "exponent", "()I"⟩ ∈ ct_T := ct_in (List.mem_of_getElem? (i := 273) (by decide +kernel)) rfl
set_option maxRecDepth 100000 in
theorem mw_166 : Cond.code ⟨"RoundedNumbers$Wide", "take", "(LRoundedNumbers$Value;)V"⟩ prog_4_method_3_code 2 none ∈ ct_T := ct_in (List.mem_of_getElem? (i := 278) rfl) rfl
set_option maxRecDepth 100000 in
theorem mw_167 : Cond.methodLink "RoundedNumbers" 191 ⟨"RoundedNumbers$Wide", "take", "(LRoundedNumbers$Value;)V"⟩ ∈ ct_T := ct_in (List.mem_of_getElem? (i := 275) (by decide +kernel)) rfl
set_option maxRecDepth 100000 in
theorem mw_168 : Cond.instanceMethod ⟨"RoundedNumbers$Wide", "take", "(LRoundedNumbers$Value;)V"⟩ ∈ ct_T := ct_in (List.mem_of_getElem? (i := 276) (by decide +kernel)) rfl
set_option maxRecDepth 100000 in
theorem mw_169 : Cond.selects "RoundedNumbers$Wide" ⟨"RoundedNumbers$Wide", "take", "(LRoundedNumbers$Value;)V"⟩ ⟨"RoundedNumbers$Wide", "take", "(LRoundedNumbers$Value;)V"⟩ ∈ ct_T := ct_in (List.mem_of_getElem? (i := 277) (by decide +kernel)) rfl
set_option maxRecDepth 100000 in
theorem mw_170 : Cond.fieldLink "RoundedNumbers" 43 "RoundedNumbers" "divisor" "LRoundedNumbers$Wide;" ∈ ct_T := ct_in (List.mem_of_getElem? (i := 82) (by decide +kernel)) rfl
set_option maxRecDepth 100000 in
theorem mw_171 : Cond.code ⟨"RoundedNumbers", "markRemainder", "(I)V"⟩ prog_1_method_36_code 2 none ∈ ct_T := ct_in (List.mem_of_getElem? (i := 296) rfl) rfl
set_option maxRecDepth 100000 in
theorem mw_172 : Cond.methodLink "RoundedNumbers" 205 ⟨"RoundedNumbers", "markRemainder", "(I)V"⟩ ∈ ct_T := ct_in (List.mem_of_getElem? (i := 293) (by decide +kernel)) rfl
set_option maxRecDepth 100000 in
theorem mw_173 : Cond.instanceMethod ⟨"RoundedNumbers", "markRemainder", "(I)V"⟩ ∈ ct_T := ct_in (List.mem_of_getElem? (i := 295) (by decide +kernel)) rfl
theorem mw_174 : Cond.selects "RoundedNumbers" ⟨"RoundedNumbers", "markRemainder", "(I)V"⟩ ⟨"RoundedNumbers", "markRemainder", "(I)V"⟩ ∈ ct_T := ct_ins (List.mem_of_getElem? (i := 12) (by decide +kernel)) rfl
set_option maxRecDepth 100000 in
theorem mw_175 : Cond.code ⟨"RoundedNumbers$Wide", "reaches", "(LRoundedNumbers$Wide;)Z"⟩ prog_4_method_6_code 2 (some .boolean) ∈ ct_T := ct_in (List.mem_of_getElem? (i := 282) rfl) rfl
set_option maxRecDepth 100000 in
theorem mw_176 : Cond.methodLink "RoundedNumbers" 194 ⟨"RoundedNumbers$Wide", "reaches", "(LRoundedNumbers$Wide;)Z"⟩ ∈ ct_T := ct_in (List.mem_of_getElem? (i := 279) (by decide +kernel)) rfl
set_option maxRecDepth 100000 in
theorem mw_177 : Cond.instanceMethod ⟨"RoundedNumbers$Wide", "reaches", "(LRoundedNumbers$Wide;)Z"⟩ ∈ ct_T := ct_in (List.mem_of_getElem? (i := 280) (by decide +kernel)) rfl
set_option maxRecDepth 100000 in
theorem mw_178 : Cond.selects "RoundedNumbers$Wide" ⟨"RoundedNumbers$Wide", "reaches", "(LRoundedNumbers$Wide;)Z"⟩ ⟨"RoundedNumbers$Wide", "reaches", "(LRoundedNumbers$Wide;)Z"⟩ ∈ ct_T := ct_in (List.mem_of_getElem? (i := 281) (by decide +kernel)) rfl
set_option maxRecDepth 100000 in
theorem mw_179 : Cond.code ⟨"RoundedNumbers$Wide", "shift", "(II)V"⟩ prog_4_method_5_code 3 none ∈ ct_T := ct_in (List.mem_of_getElem? (i := 291) rfl) rfl
set_option maxRecDepth 100000 in
theorem mw_180 : Cond.methodLink "RoundedNumbers" 202 ⟨"RoundedNumbers$Wide", "shift", "(II)V"⟩ ∈ ct_T := ct_in (List.mem_of_getElem? (i := 288) (by decide +kernel)) rfl
set_option maxRecDepth 100000 in
theorem mw_181 : Cond.instanceMethod ⟨"RoundedNumbers$Wide", "shift", "(II)V"⟩ ∈ ct_T := ct_in (List.mem_of_getElem? (i := 289) (by decide +kernel)) rfl
set_option maxRecDepth 100000 in
theorem mw_182 : Cond.selects "RoundedNumbers$Wide" ⟨"RoundedNumbers$Wide", "shift", "(II)V"⟩ ⟨"RoundedNumbers$Wide", "shift", "(II)V"⟩ ∈ ct_T := ct_in (List.mem_of_getElem? (i := 290) (by decide +kernel)) rfl
set_option maxRecDepth 100000 in
theorem mw_183 : Cond.code ⟨"RoundedNumbers$Wide", "lessen", "(LRoundedNumbers$Wide;)V"⟩ prog_4_method_7_code 2 none ∈ ct_T := ct_in (List.mem_of_getElem? (i := 286) rfl) rfl
set_option maxRecDepth 100000 in
theorem mw_184 : Cond.methodLink "RoundedNumbers" 198 ⟨"RoundedNumbers$Wide", "lessen", "(LRoundedNumbers$Wide;)V"⟩ ∈ ct_T := ct_in (List.mem_of_getElem? (i := 283) (by decide +kernel)) rfl
set_option maxRecDepth 100000 in
theorem mw_185 : Cond.instanceMethod ⟨"RoundedNumbers$Wide", "lessen", "(LRoundedNumbers$Wide;)V"⟩ ∈ ct_T := ct_in (List.mem_of_getElem? (i := 284) (by decide +kernel)) rfl
set_option maxRecDepth 100000 in
theorem mw_186 : Cond.selects "RoundedNumbers$Wide" ⟨"RoundedNumbers$Wide", "lessen", "(LRoundedNumbers$Wide;)V"⟩ ⟨"RoundedNumbers$Wide", "lessen", "(LRoundedNumbers$Wide;)V"⟩ ∈ ct_T := ct_in (List.mem_of_getElem? (i := 285) (by decide +kernel)) rfl
set_option maxRecDepth 100000 in
theorem mw_187 : Cond.code ⟨"RoundedNumbers", "quotientKind", "(II)I"⟩ prog_1_method_24_code 2 (some .int) ∈ ct_T := ct_in (List.mem_of_getElem? (i := 266) rfl) rfl
set_option maxRecDepth 100000 in
theorem mw_188 : Cond.methodLink "RoundedNumbers" 99 ⟨"RoundedNumbers", "quotientKind", "(II)I"⟩ ∈ ct_T := ct_in (List.mem_of_getElem? (i := 264) (by decide +kernel)) rfl
set_option maxRecDepth 100000 in
theorem mw_189 : Cond.static ⟨"RoundedNumbers", "quotientKind", "(II)I"⟩ ∈ ct_T := ct_in (List.mem_of_getElem? (i := 265) (by decide +kernel)) rfl
set_option maxRecDepth 100000 in
theorem mw_190 : Cond.code ⟨"RoundedNumbers", "workOutQuotient", "(LRoundedNumbers$Value;LRoundedNumbers$Value;)V"⟩ prog_1_method_34_code 5 none ∈ ct_T := ct_in (List.mem_of_getElem? (i := 270) rfl) rfl
set_option maxRecDepth 100000 in
theorem mw_191 : Cond.methodLink "RoundedNumbers" 106 ⟨"RoundedNumbers", "workOutQuotient", "(LRoundedNumbers$Value;LRoundedNumbers$Value;)V"⟩ ∈ ct_T := ct_in (List.mem_of_getElem? (i := 267) (by decide +kernel)) rfl
set_option maxRecDepth 100000 in
theorem mw_192 : Cond.instanceMethod ⟨"RoundedNumbers", "workOutQuotient", "(LRoundedNumbers$Value;LRoundedNumbers$Value;)V"⟩ ∈ ct_T := ct_in (List.mem_of_getElem? (i := 269) (by decide +kernel)) rfl
theorem mw_193 : Cond.selects "RoundedNumbers" ⟨"RoundedNumbers", "workOutQuotient", "(LRoundedNumbers$Value;LRoundedNumbers$Value;)V"⟩ ⟨"RoundedNumbers", "workOutQuotient", "(LRoundedNumbers$Value;LRoundedNumbers$Value;)V"⟩ ∈ ct_T := ct_ins (List.mem_of_getElem? (i := 11) (by decide +kernel)) rfl
set_option maxRecDepth 100000 in
theorem mw_194 : Cond.code ⟨"RoundedNumbers$Wide", "clear", "()V"⟩ prog_4_method_2_code 1 none ∈ ct_T := ct_in (List.mem_of_getElem? (i := 312) rfl) rfl
set_option maxRecDepth 100000 in
theorem mw_195 : Cond.methodLink "RoundedNumbers" 208 ⟨"RoundedNumbers$Wide", "clear", "()V"⟩ ∈ ct_T := ct_in (List.mem_of_getElem? (i := 309) (by decide +kernel)) rfl
set_option maxRecDepth 100000 in
theorem mw_196 : Cond.instanceMethod ⟨"RoundedNumbers$Wide", "clear", "()V"⟩ ∈ ct_T := ct_in (List.mem_of_getElem? (i := 310) (by decide +kernel)) rfl
set_option maxRecDepth 100000 in
theorem mw_197 : Cond.selects "RoundedNumbers$Wide" ⟨"RoundedNumbers$Wide", "clear", "()V"⟩ ⟨"RoundedNumbers$Wide", "clear", "()V"⟩ ∈ ct_T := ct_in (List.mem_of_getElem? (i := 311) (by decide +kernel)) rfl
set_option maxRecDepth 100000 in
theorem mw_198 : Cond.fieldLink "RoundedNumbers" 46 "RoundedNumbers" "root" "LRoundedNumbers$Wide;" ∈ ct_T := ct_in (List.mem_of_getElem? (i := 83) (by decide +kernel)) rfl
set_option maxRecDepth 100000 in
theorem mw_199 : Cond.code ⟨"RoundedNumbers$Value", "bitFromTop", "(I)I"⟩ prog_3_method_7_code 3 (some .int) ∈ ct_T := ct_in (List.mem_of_getElem? (i := 316) rfl) rfl
set_option maxRecDepth 100000 in
theorem mw_200 : Cond.methodLink "RoundedNumbers" 141 ⟨"RoundedNumbers$Value", "bitFromTop", "(I)I"⟩ ∈ ct_T := ct_in (List.mem_of_getElem? (i := 313) (by decide +kernel)) rfl
set_option maxRecDepth 100000 in
theorem mw_201 : Cond.instanceMethod ⟨"RoundedNumbers$Value", "bitFromTop", "(I)I"⟩ ∈ ct_T := ct_in (List.mem_of_getElem? (i := 314) (by decide +kernel)) rfl
set_option maxRecDepth 100000 in
theorem mw_202 : Cond.selects "RoundedNumbers$Value" ⟨"RoundedNumbers$Value", "bitFromTop", "(I)I"⟩ ⟨"RoundedNumbers$Value", "bitFromTop", "(I)I"⟩ ∈ ct_T := ct_in (List.mem_of_getElem? (i := 315) (by decide +kernel)) rfl
set_option maxRecDepth 100000 in
theorem mw_203 : Cond.code ⟨"RoundedNumbers$Wide", "takeSame", "(LRoundedNumbers$Wide;)V"⟩ prog_4_method_4_code 2 none ∈ ct_T := ct_in (List.mem_of_getElem? (i := 320) rfl) rfl
set_option maxRecDepth 100000 in
theorem mw_204 : Cond.methodLink "RoundedNumbers" 209 ⟨"RoundedNumbers$Wide", "takeSame", "(LRoundedNumbers$Wide;)V"⟩ ∈ ct_T := ct_in (List.mem_of_getElem? (i := 317) (by decide +kernel)) rfl
set_option maxRecDepth 100000 in
theorem mw_205 : Cond.instanceMethod ⟨"RoundedNumbers$Wide", "takeSame", "(LRoundedNumbers$Wide;)V"⟩ ∈ ct_T := ct_in (List.mem_of_getElem? (i := 318) (by decide +kernel)) rfl
set_option maxRecDepth 100000 in
theorem mw_206 : Cond.selects "RoundedNumbers$Wide" ⟨"RoundedNumbers$Wide", "takeSame", "(LRoundedNumbers$Wide;)V"⟩ ⟨"RoundedNumbers$Wide", "takeSame", "(LRoundedNumbers$Wide;)V"⟩ ∈ ct_T := ct_in (List.mem_of_getElem? (i := 319) (by decide +kernel)) rfl
set_option maxRecDepth 100000 in
theorem mw_207 : Cond.code ⟨"RoundedNumbers", "workOutRoot", "(LRoundedNumbers$Value;)V"⟩ prog_1_method_35_code 7 none ∈ ct_T := ct_in (List.mem_of_getElem? (i := 308) rfl) rfl
set_option maxRecDepth 100000 in
theorem mw_208 : Cond.methodLink "RoundedNumbers" 112 ⟨"RoundedNumbers", "workOutRoot", "(LRoundedNumbers$Value;)V"⟩ ∈ ct_T := ct_in (List.mem_of_getElem? (i := 305) (by decide +kernel)) rfl
set_option maxRecDepth 100000 in
theorem mw_209 : Cond.instanceMethod ⟨"RoundedNumbers", "workOutRoot", "(LRoundedNumbers$Value;)V"⟩ ∈ ct_T := ct_in (List.mem_of_getElem? (i := 307) (by decide +kernel)) rfl
theorem mw_210 : Cond.selects "RoundedNumbers" ⟨"RoundedNumbers", "workOutRoot", "(LRoundedNumbers$Value;)V"⟩ ⟨"RoundedNumbers", "workOutRoot", "(LRoundedNumbers$Value;)V"⟩ ∈ ct_T := ct_ins (List.mem_of_getElem? (i := 13) (by decide +kernel)) rfl
set_option maxRecDepth 100000 in
theorem mw_211 : Cond.code ⟨"RoundedNumbers$Value", "infiniteSign", "()I"⟩ prog_3_method_5_code 1 (some .int) ∈ ct_T := ct_in (List.mem_of_getElem? (i := 332) rfl) rfl
set_option maxRecDepth 100000 in
theorem mw_212 : Cond.methodLink "RoundedNumbers" 116 ⟨"RoundedNumbers$Value", "infiniteSign", "()I"⟩ ∈ ct_T := ct_in (List.mem_of_getElem? (i := 329) (by decide +kernel)) rfl
set_option maxRecDepth 100000 in
theorem mw_213 : Cond.instanceMethod ⟨"RoundedNumbers$Value", "infiniteSign", "()I"⟩ ∈ ct_T := ct_in (List.mem_of_getElem? (i := 330) (by decide +kernel)) rfl
set_option maxRecDepth 100000 in
theorem mw_214 : Cond.selects "RoundedNumbers$Value" ⟨"RoundedNumbers$Value", "infiniteSign", "()I"⟩ ⟨"RoundedNumbers$Value", "infiniteSign", "()I"⟩ ∈ ct_T := ct_in (List.mem_of_getElem? (i := 331) (by decide +kernel)) rfl
set_option maxRecDepth 100000 in
theorem mw_215 : Cond.code ⟨"java/lang/Integer", "compare", "(II)I"⟩ prog_7_method_40_code 2 (some .int) ∈ ct_T := ct_in (List.mem_of_getElem? (i := 335) rfl) rfl
set_option maxRecDepth 100000 in
theorem mw_216 : Cond.methodLink "RoundedNumbers" 120 ⟨"java/lang/Integer", "compare", "(II)I"⟩ ∈ ct_T := ct_in (List.mem_of_getElem? (i := 333) (by decide +kernel)) rfl
set_option maxRecDepth 100000 in
theorem mw_217 : Cond.static ⟨"java/lang/Integer", "compare", "(II)I"⟩ ∈ ct_T := ct_in (List.mem_of_getElem? (i := 334) (by decide +kernel)) rfl
set_option maxRecDepth 100000 in
theorem mw_218 : Cond.code ⟨"RoundedNumbers", "isRegular", "(I)Z"⟩ prog_1_method_21_code 2 (some .boolean) ∈ ct_T := ct_in (List.mem_of_getElem? (i := 351) rfl) rfl
set_option maxRecDepth 100000 in
theorem mw_219 : Cond.methodLink "RoundedNumbers" 135 ⟨"RoundedNumbers", "isRegular", "(I)Z"⟩ ∈ ct_T := ct_in (List.mem_of_getElem? (i := 348) (by decide +kernel)) rfl
set_option maxRecDepth 100000 in
theorem mw_220 : Cond.instanceMethod ⟨"RoundedNumbers", "isRegular", "(I)Z"⟩ ∈ ct_T := ct_in (List.mem_of_getElem? (i := 350) (by decide +kernel)) rfl
theorem mw_221 : Cond.selects "RoundedNumbers" ⟨"RoundedNumbers", "isRegular", "(I)Z"⟩ ⟨"RoundedNumbers", "isRegular", "(I)Z"⟩ ∈ ct_T := ct_ins (List.mem_of_getElem? (i := 14) (by decide +kernel)) rfl
set_option maxRecDepth 100000 in
theorem mw_222 : Cond.constantLong "RoundedNumbers" 147 (-9223372036854775808) ∈ ct_T := ct_in (List.mem_of_getElem? (i := 361) (by decide +kernel)) rfl
set_option maxRecDepth 100000 in
theorem mw_223 : Cond.constantLong "RoundedNumbers" 145 9223372036854775807 ∈ ct_T := ct_in (List.mem_of_getElem? (i := 360) (by decide +kernel)) rfl
set_option maxRecDepth 100000 in
theorem mw_224 : Cond.code ⟨"RoundedNumbers$Exact", "wholePart", "()J"⟩ prog_2_method_15_code 1 (some .long) ∈ ct_T := ct_in (List.mem_of_getElem? (i := 365) rfl) rfl
set_option maxRecDepth 100000 in
theorem mw_225 : Cond.methodLink "RoundedNumbers" 159 ⟨"RoundedNumbers$Exact", "wholePart", "()J"⟩ ∈ ct_T := ct_in (List.mem_of_getElem? (i := 362) (by decide +kernel)) rfl
set_option maxRecDepth 100000 in
theorem mw_226 : Cond.instanceMethod ⟨"RoundedNumbers$Exact", "wholePart", "()J"⟩ ∈ ct_T := ct_in (List.mem_of_getElem? (i := 363) (by decide +kernel)) rfl
set_option maxRecDepth 100000 in
theorem mw_227 : Cond.selects "RoundedNumbers$Exact" ⟨"RoundedNumbers$Exact", "wholePart", "()J"⟩ ⟨"RoundedNumbers$Exact", "wholePart", "()J"⟩ ∈ ct_T := ct_in (List.mem_of_getElem? (i := 364) (by decide +kernel)) rfl
set_option maxRecDepth 100000 in
theorem mw_228 : Cond.methodLink "RoundedNumbers$Value" 3 ⟨"java/lang/Object", "<init>", "()V"⟩ ∈ ct_T := ct_in (List.mem_of_getElem? (i := 23) (by decide +kernel)) rfl
set_option maxRecDepth 100000 in
theorem mw_229 : Cond.instanceMethod ⟨"java/lang/Object", "<init>", "()V"⟩ ∈ ct_T := ct_in (List.mem_of_getElem? (i := 15) (by decide +kernel)) rfl
set_option maxRecDepth 100000 in
theorem mw_230 : Cond.code ⟨"java/lang/Object", "<init>", "()V"⟩ object_method_1_code 1 none ∈ ct_T := ct_in (List.mem_of_getElem? (i := 16) rfl) rfl
set_option maxRecDepth 100000 in
theorem mw_231 : Cond.arrayClass .int ∈ ct_T := ct_in (List.mem_of_getElem? (i := 43) (by decide +kernel)) rfl
set_option maxRecDepth 100000 in
theorem mw_232 : Cond.methodLink "RoundedNumbers$Exact" 3 ⟨"java/lang/Object", "<init>", "()V"⟩ ∈ ct_T := ct_in (List.mem_of_getElem? (i := 49) (by decide +kernel)) rfl
set_option maxRecDepth 100000 in
theorem mw_233 : Cond.methodLink "RoundedNumbers$Wide" 5 ⟨"java/lang/Object", "<init>", "()V"⟩ ∈ ct_T := ct_in (List.mem_of_getElem? (i := 59) (by decide +kernel)) rfl
set_option maxRecDepth 100000 in
theorem mw_234 : Cond.methodLink "RoundedNumbers" 3 ⟨"java/lang/Object", "<init>", "()V"⟩ ∈ ct_T := ct_in (List.mem_of_getElem? (i := 14) (by decide +kernel)) rfl
set_option maxRecDepth 100000 in
theorem mw_235 : Cond.classLink "RoundedNumbers" 13 "RoundedNumbers$Value" ∈ ct_T := ct_in (List.mem_of_getElem? (i := 17) (by decide +kernel)) rfl
set_option maxRecDepth 100000 in
theorem mw_236 : Cond.instantiable "RoundedNumbers$Value" 4 ∈ ct_T := ct_in (List.mem_of_getElem? (i := 19) (by decide +kernel)) rfl
set_option maxRecDepth 100000 in
theorem mw_237 : Cond.code ⟨"RoundedNumbers$Value", "<init>", "(I)V"⟩ prog_3_method_1_code 2 none ∈ ct_T := ct_in (List.mem_of_getElem? (i := 22) rfl) rfl
set_option maxRecDepth 100000 in
theorem mw_238 : Cond.methodLink "RoundedNumbers" 19 ⟨"RoundedNumbers$Value", "<init>", "(I)V"⟩ ∈ ct_T := ct_in (List.mem_of_getElem? (i := 20) (by decide +kernel)) rfl
set_option maxRecDepth 100000 in
theorem mw_239 : Cond.instanceMethod ⟨"RoundedNumbers$Value", "<init>", "(I)V"⟩ ∈ ct_T := ct_in (List.mem_of_getElem? (i := 21) (by decide +kernel)) rfl
set_option maxRecDepth 100000 in
theorem mw_240 : Cond.classLink "RoundedNumbers" 29 "RoundedNumbers$Exact" ∈ ct_T := ct_in (List.mem_of_getElem? (i := 44) (by decide +kernel)) rfl
set_option maxRecDepth 100000 in
theorem mw_241 : Cond.instantiable "RoundedNumbers$Exact" 1 ∈ ct_T := ct_in (List.mem_of_getElem? (i := 45) (by decide +kernel)) rfl
set_option maxRecDepth 100000 in
theorem mw_242 : Cond.code ⟨"RoundedNumbers$Exact", "<init>", "()V"⟩ prog_2_method_1_code 1 none ∈ ct_T := ct_in (List.mem_of_getElem? (i := 48) rfl) rfl
set_option maxRecDepth 100000 in
theorem mw_243 : Cond.methodLink "RoundedNumbers" 31 ⟨"RoundedNumbers$Exact", "<init>", "()V"⟩ ∈ ct_T := ct_in (List.mem_of_getElem? (i := 46) (by decide +kernel)) rfl
set_option maxRecDepth 100000 in
theorem mw_244 : Cond.instanceMethod ⟨"RoundedNumbers$Exact", "<init>", "()V"⟩ ∈ ct_T := ct_in (List.mem_of_getElem? (i := 47) (by decide +kernel)) rfl
set_option maxRecDepth 100000 in
theorem mw_245 : Cond.classLink "RoundedNumbers" 36 "RoundedNumbers$Wide" ∈ ct_T := ct_in (List.mem_of_getElem? (i := 54) (by decide +kernel)) rfl
set_option maxRecDepth 100000 in
theorem mw_246 : Cond.instantiable "RoundedNumbers$Wide" 2 ∈ ct_T := ct_in (List.mem_of_getElem? (i := 55) (by decide +kernel)) rfl
set_option maxRecDepth 100000 in
theorem mw_247 : Cond.code ⟨"RoundedNumbers$Wide", "<init>", "()V"⟩ prog_4_method_1_code 1 none ∈ ct_T := ct_in (List.mem_of_getElem? (i := 58) rfl) rfl
set_option maxRecDepth 100000 in
theorem mw_248 : Cond.methodLink "RoundedNumbers" 38 ⟨"RoundedNumbers$Wide", "<init>", "()V"⟩ ∈ ct_T := ct_in (List.mem_of_getElem? (i := 56) (by decide +kernel)) rfl
set_option maxRecDepth 100000 in
theorem mw_249 : Cond.instanceMethod ⟨"RoundedNumbers$Wide", "<init>", "()V"⟩ ∈ ct_T := ct_in (List.mem_of_getElem? (i := 57) (by decide +kernel)) rfl
set_option maxRecDepth 100000 in
theorem mw_250 : Cond.methodLink "RoundedNumbers" 49 ⟨"java/lang/Math", "min", "(II)I"⟩ ∈ ct_T := ct_in (List.mem_of_getElem? (i := 67) (by decide +kernel)) rfl
set_option maxRecDepth 100000 in
theorem mw_251 : Cond.static ⟨"java/lang/Math", "min", "(II)I"⟩ ∈ ct_T := ct_in (List.mem_of_getElem? (i := 68) (by decide +kernel)) rfl
set_option maxRecDepth 100000 in
theorem mw_252 : Cond.code ⟨"java/lang/Math", "min", "(II)I"⟩ prog_8_method_69_code 2 (some .int) ∈ ct_T := ct_in (List.mem_of_getElem? (i := 69) rfl) rfl
set_option maxRecDepth 100000 in
theorem mw_253 : Cond.methodLink "RoundedNumbers" 55 ⟨"java/lang/Math", "max", "(II)I"⟩ ∈ ct_T := ct_in (List.mem_of_getElem? (i := 70) (by decide +kernel)) rfl
set_option maxRecDepth 100000 in
theorem mw_254 : Cond.methodLink "RoundedNumbers" 58 ⟨"java/util/Arrays", "fill", "([II)V"⟩ ∈ ct_T := ct_in (List.mem_of_getElem? (i := 73) (by decide +kernel)) rfl
theorem kc_RN_64 {R : Room} {s : State} {args : Array Value} {c0 : Cond} (hts : ∀ w ∈ c0 :: ct_T, w.before args s = true) (hR : ({ frames := 0, cells := 0, slots := 0, locals := 0 } : Room).frames + 1 ≤ R.frames ∧ 8 + (1 + 11) + ({ frames := 0, cells := 0, slots := 0, locals := 0 } : Room).locals ≤ R.locals) : CallB R s args "RoundedNumbers" 64 ⟨"RoundedNumbers", "isRegister", "(I)Z"⟩ prog_1_method_19_code 1 (some .boolean) (.code ⟨"RoundedNumbers", "isRegister", "(I)Z"⟩ prog_1_method_19_code 1 (some .boolean) :: ct_T) { frames := 0, cells := 0, slots := 0, locals := 0 } 0 0 1 ∧ (Cond.static ⟨"RoundedNumbers", "isRegister", "(I)Z"⟩).before args s = true := va_cwS 1 hts (ct_giS mw_3 mw_4 mw_5 mw_2) rfl rfl rfl ⟨by decide, by decide, by decide +kernel⟩ hR
theorem kc_RN_68 {R : Room} {s : State} {args : Array Value} {c0 : Cond} (hts : ∀ w ∈ c0 :: ct_T, w.before args s = true) (hR : ({ frames := 0, cells := 0, slots := 0, locals := 0 } : Room).frames + 1 ≤ R.frames ∧ 8 + (3 + 11) + ({ frames := 0, cells := 0, slots := 0, locals := 0 } : Room).locals ≤ R.locals) : CallW R s args "RoundedNumbers" "RoundedNumbers$Value" 68 ⟨"RoundedNumbers$Value", "become", "(II)V"⟩ prog_3_method_2_code 3 none (.code ⟨"RoundedNumbers$Value", "become", "(II)V"⟩ prog_3_method_2_code 3 none :: ct_T) { frames := 0, cells := 0, slots := 0, locals := 0 } 0 0 2 := cwV 2 hts (ct_giV mw_9 mw_10 mw_11 mw_12 mw_8) rfl rfl rfl ⟨rfl, by decide, by decide, by decide +kernel⟩ hR
theorem kc_RV_22 {R : Room} {s : State} {args : Array Value} {c0 : Cond} (hts : ∀ w ∈ c0 :: ct_T, w.before args s = true) (hR : ({ frames := 0, cells := 0, slots := 0, locals := 0 } : Room).frames + 1 ≤ R.frames ∧ 8 + (3 + 11) + ({ frames := 0, cells := 0, slots := 0, locals := 0 } : Room).locals ≤ R.locals) : CallW R s args "RoundedNumbers$Value" "RoundedNumbers$Value" 22 ⟨"RoundedNumbers$Value", "become", "(II)V"⟩ prog_3_method_2_code 3 none (.code ⟨"RoundedNumbers$Value", "become", "(II)V"⟩ prog_3_method_2_code 3 none :: ct_T) { frames := 0, cells := 0, slots := 0, locals := 0 } 0 0 2 := cwV 2 hts (ct_giV mw_13 mw_10 mw_11 mw_12 mw_8) rfl rfl rfl ⟨rfl, by decide, by decide, by decide +kernel⟩ hR
theorem kc_RE_15 {R : Room} {s : State} {args : Array Value} {c0 : Cond} (hts : ∀ w ∈ c0 :: ct_T, w.before args s = true) (hR : ({ frames := 0, cells := 0, slots := 0, locals := 0 } : Room).frames + 1 ≤ R.frames ∧ 8 + (4 + 11) + ({ frames := 0, cells := 0, slots := 0, locals := 0 } : Room).locals ≤ R.locals) : CallB R s args "RoundedNumbers$Exact" 15 ⟨"java/util/Arrays", "fill", "([II)V"⟩ prog_9_method_103_code 4 none (.code ⟨"java/util/Arrays", "fill", "([II)V"⟩ prog_9_method_103_code 4 none :: ct_T) { frames := 0, cells := 0, slots := 0, locals := 0 } 0 0 2 ∧ (Cond.static ⟨"java/util/Arrays", "fill", "([II)V"⟩).before args s = true := va_cwS 2 hts (ct_giS mw_19 mw_20 mw_21 mw_18) rfl rfl rfl ⟨by decide, by decide, by decide +kernel⟩ hR
theorem kc_RE_45 {R : Room} {s : State} {args : Array Value} {c0 : Cond} (hts : ∀ w ∈ c0 :: ct_T, w.before args s = true) (hR : ({ frames := 0, cells := 0, slots := 0, locals := 0 } : Room).frames + 1 ≤ R.frames ∧ 8 + (2 + 11) + ({ frames := 0, cells := 0, slots := 0, locals := 0 } : Room).locals ≤ R.locals) : CallB R s args "RoundedNumbers$Exact" 45 ⟨"java/lang/Integer", "numberOfLeadingZeros", "(I)I"⟩ prog_7_method_47_code 2 (some .int) (.code ⟨"java/lang/Integer", "numberOfLeadingZeros", "(I)I"⟩ prog_7_method_47_code 2 (some .int) :: ct_T) { frames := 0, cells := 0, slots := 0, locals := 0 } 0 0 1 ∧ (Cond.static ⟨"java/lang/Integer", "numberOfLeadingZeros", "(I)I"⟩).before args s = true := va_cwS 1 hts (ct_giS mw_32 mw_33 mw_34 mw_31) rfl rfl rfl ⟨by decide, by decide, by decide +kernel⟩ hR
theorem kc_RE_58 {R : Room} {s : State} {args : Array Value} {c0 : Cond} (hts : ∀ w ∈ c0 :: ct_T, w.before args s = true) (hR : ({ frames := 0, cells := 0, slots := 0, locals := 0 } : Room).frames + 1 ≤ R.frames ∧ 8 + (1 + 11) + ({ frames := 0, cells := 0, slots := 0, locals := 0 } : Room).locals ≤ R.locals) : CallB R s args "RoundedNumbers$Exact" 58 ⟨"RoundedNumbers$Exact", "lowestBits", "(I)I"⟩ prog_2_method_13_code 1 (some .int) (.code ⟨"RoundedNumbers$Exact", "lowestBits", "(I)I"⟩ prog_2_method_13_code 1 (some .int) :: ct_T) { frames := 0, cells := 0, slots := 0, locals := 0 } 0 0 1 ∧ (Cond.static ⟨"RoundedNumbers$Exact", "lowestBits", "(I)I"⟩).before args s = true := va_cwS 1 hts (ct_giS mw_36 mw_37 mw_38 mw_35) rfl rfl rfl ⟨by decide, by decide, by decide +kernel⟩ hR
theorem kc_RE_41 {R : Room} {s : State} {args : Array Value} {c0 : Cond} (hts : ∀ w ∈ c0 :: ct_T, w.before args s = true) (hR : ({ frames := 1, cells := 0, slots := 0, locals := 21 } : Room).frames + 1 ≤ R.frames ∧ 8 + (3 + 11) + ({ frames := 1, cells := 0, slots := 0, locals := 21 } : Room).locals ≤ R.locals) : CallW R s args "RoundedNumbers$Exact" "RoundedNumbers$Exact" 41 ⟨"RoundedNumbers$Exact", "topWeight", "()I"⟩ prog_2_method_7_code 3 (some .int) (.code ⟨"RoundedNumbers$Exact", "topWeight", "()I"⟩ prog_2_method_7_code 3 (some .int) :: ct_T) { frames := 1, cells := 0, slots := 0, locals := 21 } 0 0 0 := cwV 0 hts (ct_giV mw_40 mw_41 mw_42 mw_38 mw_39) rfl rfl rfl ⟨rfl, by decide, by decide, by decide +kernel⟩ hR
theorem kc_RE_54 {R : Room} {s : State} {args : Array Value} {c0 : Cond} (hts : ∀ w ∈ c0 :: ct_T, w.before args s = true) (hR : ({ frames := 1, cells := 0, slots := 0, locals := 20 } : Room).frames + 1 ≤ R.frames ∧ 8 + (4 + 11) + ({ frames := 1, cells := 0, slots := 0, locals := 20 } : Room).locals ≤ R.locals) : CallW R s args "RoundedNumbers$Exact" "RoundedNumbers$Exact" 54 ⟨"RoundedNumbers$Exact", "hasBelow", "(I)Z"⟩ prog_2_method_11_code 4 (some .boolean) (.code ⟨"RoundedNumbers$Exact", "hasBelow", "(I)Z"⟩ prog_2_method_11_code 4 (some .boolean) :: ct_T) { frames := 1, cells := 0, slots := 0, locals := 20 } 0 0 1 := cwV 1 hts (ct_giV mw_44 mw_45 mw_46 mw_38 mw_43) rfl rfl rfl ⟨rfl, by decide, by decide, by decide +kernel⟩ hR
theorem kc_RE_51 {R : Room} {s : State} {args : Array Value} {c0 : Cond} (hts : ∀ w ∈ c0 :: ct_T, w.before args s = true) (hR : ({ frames := 0, cells := 0, slots := 0, locals := 0 } : Room).frames + 1 ≤ R.frames ∧ 8 + (2 + 11) + ({ frames := 0, cells := 0, slots := 0, locals := 0 } : Room).locals ≤ R.locals) : CallW R s args "RoundedNumbers$Exact" "RoundedNumbers$Exact" 51 ⟨"RoundedNumbers$Exact", "limb", "(I)I"⟩ prog_2_method_9_code 2 (some .int) (.code ⟨"RoundedNumbers$Exact", "limb", "(I)I"⟩ prog_2_method_9_code 2 (some .int) :: ct_T) { frames := 0, cells := 0, slots := 0, locals := 0 } 0 0 1 := cwV 1 hts (ct_giV mw_48 mw_49 mw_50 mw_38 mw_47) rfl rfl rfl ⟨rfl, by decide, by decide, by decide +kernel⟩ hR
theorem kc_RE_64 {R : Room} {s : State} {args : Array Value} {c0 : Cond} (hts : ∀ w ∈ c0 :: ct_T, w.before args s = true) (hR : ({ frames := 1, cells := 0, slots := 0, locals := 20 } : Room).frames + 1 ≤ R.frames ∧ 8 + (4 + 11) + ({ frames := 1, cells := 0, slots := 0, locals := 20 } : Room).locals ≤ R.locals) : CallW R s args "RoundedNumbers$Exact" "RoundedNumbers$Exact" 64 ⟨"RoundedNumbers$Exact", "cutBelow", "(I)V"⟩ prog_2_method_12_code 4 none (.code ⟨"RoundedNumbers$Exact", "cutBelow", "(I)V"⟩ prog_2_method_12_code 4 none :: ct_T) { frames := 1, cells := 0, slots := 0, locals := 20 } 0 0 1 := cwV 1 hts (ct_giV mw_52 mw_53 mw_54 mw_38 mw_51) rfl rfl rfl ⟨rfl, by decide, by decide, by decide +kernel⟩ hR
theorem kc_RE_68 {R : Room} {s : State} {args : Array Value} {c0 : Cond} (hts : ∀ w ∈ c0 :: ct_T, w.before args s = true) (hR : ({ frames := 1, cells := 0, slots := 0, locals := 21 } : Room).frames + 1 ≤ R.frames ∧ 8 + (7 + 11) + ({ frames := 1, cells := 0, slots := 0, locals := 21 } : Room).locals ≤ R.locals) : CallW R s args "RoundedNumbers$Exact" "RoundedNumbers$Exact" 68 ⟨"RoundedNumbers$Exact", "addPower", "(II)V"⟩ prog_2_method_4_code 7 none (.code ⟨"RoundedNumbers$Exact", "addPower", "(II)V"⟩ prog_2_method_4_code 7 none :: ct_T) { frames := 1, cells := 0, slots := 0, locals := 21 } 0 0 2 := cwV 2 hts (ct_giV mw_56 mw_57 mw_58 mw_38 mw_55) rfl rfl rfl ⟨rfl, by decide, by decide, by decide +kernel⟩ hR
theorem kc_RE_61 {R : Room} {s : State} {args : Array Value} {c0 : Cond} (hts : ∀ w ∈ c0 :: ct_T, w.before args s = true) (hR : ({ frames := 1, cells := 0, slots := 0, locals := 21 } : Room).frames + 1 ≤ R.frames ∧ 8 + (3 + 11) + ({ frames := 1, cells := 0, slots := 0, locals := 21 } : Room).locals ≤ R.locals) : CallW R s args "RoundedNumbers$Exact" "RoundedNumbers$Exact" 61 ⟨"RoundedNumbers$Exact", "bit", "(I)I"⟩ prog_2_method_8_code 3 (some .int) (.code ⟨"RoundedNumbers$Exact", "bit", "(I)I"⟩ prog_2_method_8_code 3 (some .int) :: ct_T) { frames := 1, cells := 0, slots := 0, locals := 21 } 0 0 1 := cwV 1 hts (ct_giV mw_60 mw_61 mw_62 mw_38 mw_59) rfl rfl rfl ⟨rfl, by decide, by decide, by decide +kernel⟩ hR
theorem kc_RE_72 {R : Room} {s : State} {args : Array Value} {c0 : Cond} (hts : ∀ w ∈ c0 :: ct_T, w.before args s = true) (hR : ({ frames := 0, cells := 0, slots := 0, locals := 0 } : Room).frames + 1 ≤ R.frames ∧ 8 + (3 + 11) + ({ frames := 0, cells := 0, slots := 0, locals := 0 } : Room).locals ≤ R.locals) : CallW R s args "RoundedNumbers$Exact" "RoundedNumbers$Value" 72 ⟨"RoundedNumbers$Value", "become", "(II)V"⟩ prog_3_method_2_code 3 none (.code ⟨"RoundedNumbers$Value", "become", "(II)V"⟩ prog_3_method_2_code 3 none :: ct_T) { frames := 0, cells := 0, slots := 0, locals := 0 } 0 0 2 := cwV 2 hts (ct_giV mw_63 mw_10 mw_11 mw_12 mw_8) rfl rfl rfl ⟨rfl, by decide, by decide, by decide +kernel⟩ hR
theorem kc_RN_125 {R : Room} {s : State} {args : Array Value} {c0 : Cond} (hts : ∀ w ∈ c0 :: ct_T, w.before args s = true) (hR : ({ frames := 1, cells := 0, slots := 0, locals := 23 } : Room).frames + 1 ≤ R.frames ∧ 8 + (1 + 11) + ({ frames := 1, cells := 0, slots := 0, locals := 23 } : Room).locals ≤ R.locals) : CallW R s args "RoundedNumbers" "RoundedNumbers$Exact" 125 ⟨"RoundedNumbers$Exact", "clear", "()V"⟩ prog_2_method_2_code 1 none (.code ⟨"RoundedNumbers$Exact", "clear", "()V"⟩ prog_2_method_2_code 1 none :: ct_T) { frames := 1, cells := 0, slots := 0, locals := 23 } 0 0 0 := cwV 0 hts (ct_giV mw_66 mw_67 mw_68 mw_38 mw_65) rfl rfl rfl ⟨rfl, by decide, by decide, by decide +kernel⟩ hR
theorem kc_RN_188 {R : Room} {s : State} {args : Array Value} {c0 : Cond} (hts : ∀ w ∈ c0 :: ct_T, w.before args s = true) (hR : ({ frames := 1, cells := 0, slots := 0, locals := 21 } : Room).frames + 1 ≤ R.frames ∧ 8 + (7 + 11) + ({ frames := 1, cells := 0, slots := 0, locals := 21 } : Room).locals ≤ R.locals) : CallW R s args "RoundedNumbers" "RoundedNumbers$Exact" 188 ⟨"RoundedNumbers$Exact", "addPower", "(II)V"⟩ prog_2_method_4_code 7 none (.code ⟨"RoundedNumbers$Exact", "addPower", "(II)V"⟩ prog_2_method_4_code 7 none :: ct_T) { frames := 1, cells := 0, slots := 0, locals := 21 } 0 0 2 := cwV 2 hts (ct_giV mw_69 mw_57 mw_58 mw_38 mw_55) rfl rfl rfl ⟨rfl, by decide, by decide, by decide +kernel⟩ hR
theorem kc_RN_185 {R : Room} {s : State} {args : Array Value} {c0 : Cond} (hts : ∀ w ∈ c0 :: ct_T, w.before args s = true) (hR : ({ frames := 2, cells := 0, slots := 0, locals := 43 } : Room).frames + 1 ≤ R.frames ∧ 8 + (10 + 11) + ({ frames := 2, cells := 0, slots := 0, locals := 43 } : Room).locals ≤ R.locals) : CallW R s args "RoundedNumbers" "RoundedNumbers$Exact" 185 ⟨"RoundedNumbers$Exact", "storeInto", "(LRoundedNumbers$Value;I)V"⟩ prog_2_method_16_code 10 none (.code ⟨"RoundedNumbers$Exact", "storeInto", "(LRoundedNumbers$Value;I)V"⟩ prog_2_method_16_code 10 none :: ct_T) { frames := 2, cells := 0, slots := 0, locals := 43 } 0 0 2 := cwV 2 hts (ct_giV mw_71 mw_72 mw_73 mw_38 mw_70) rfl rfl rfl ⟨rfl, by decide, by decide, by decide +kernel⟩ hR
theorem kc_RN_149 {R : Room} {s : State} {args : Array Value} {c0 : Cond} (hts : ∀ w ∈ c0 :: ct_T, w.before args s = true) (hR : ({ frames := 0, cells := 0, slots := 0, locals := 0 } : Room).frames + 1 ≤ R.frames ∧ 8 + (2 + 11) + ({ frames := 0, cells := 0, slots := 0, locals := 0 } : Room).locals ≤ R.locals) : CallB R s args "RoundedNumbers" 149 ⟨"RoundedNumbers", "modeOnSize", "(II)I"⟩ prog_1_method_22_code 2 (some .int) (.code ⟨"RoundedNumbers", "modeOnSize", "(II)I"⟩ prog_1_method_22_code 2 (some .int) :: ct_T) { frames := 0, cells := 0, slots := 0, locals := 0 } 0 0 2 ∧ (Cond.static ⟨"RoundedNumbers", "modeOnSize", "(II)I"⟩).before args s = true := va_cwS 2 hts (ct_giS mw_75 mw_76 mw_5 mw_74) rfl rfl rfl ⟨by decide, by decide, by decide +kernel⟩ hR
theorem kc_RN_170 {R : Room} {s : State} {args : Array Value} {c0 : Cond} (hts : ∀ w ∈ c0 :: ct_T, w.before args s = true) (hR : ({ frames := 1, cells := 0, slots := 0, locals := 21 } : Room).frames + 1 ≤ R.frames ∧ 8 + (3 + 11) + ({ frames := 1, cells := 0, slots := 0, locals := 21 } : Room).locals ≤ R.locals) : CallW R s args "RoundedNumbers" "RoundedNumbers$Exact" 170 ⟨"RoundedNumbers$Exact", "topWeight", "()I"⟩ prog_2_method_7_code 3 (some .int) (.code ⟨"RoundedNumbers$Exact", "topWeight", "()I"⟩ prog_2_method_7_code 3 (some .int) :: ct_T) { frames := 1, cells := 0, slots := 0, locals := 21 } 0 0 0 := cwV 0 hts (ct_giV mw_77 mw_41 mw_42 mw_38 mw_39) rfl rfl rfl ⟨rfl, by decide, by decide, by decide +kernel⟩ hR
theorem kc_RN_173 {R : Room} {s : State} {args : Array Value} {c0 : Cond} (hts : ∀ w ∈ c0 :: ct_T, w.before args s = true) (hR : ({ frames := 2, cells := 0, slots := 0, locals := 43 } : Room).frames + 1 ≤ R.frames ∧ 8 + (3 + 11) + ({ frames := 2, cells := 0, slots := 0, locals := 43 } : Room).locals ≤ R.locals) : CallW R s args "RoundedNumbers" "RoundedNumbers$Exact" 173 ⟨"RoundedNumbers$Exact", "isAbovePower", "(I)Z"⟩ prog_2_method_10_code 3 (some .boolean) (.code ⟨"RoundedNumbers$Exact", "isAbovePower", "(I)Z"⟩ prog_2_method_10_code 3 (some .boolean) :: ct_T) { frames := 2, cells := 0, slots := 0, locals := 43 } 0 0 1 := cwV 1 hts (ct_giV mw_79 mw_80 mw_81 mw_38 mw_78) rfl rfl rfl ⟨rfl, by decide, by decide, by decide +kernel⟩ hR
theorem kc_RN_152 {R : Room} {s : State} {args : Array Value} {c0 : Cond} (hts : ∀ w ∈ c0 :: ct_T, w.before args s = true) (hR : ({ frames := 1, cells := 0, slots := 0, locals := 21 } : Room).frames + 1 ≤ R.frames ∧ 8 + (3 + 11) + ({ frames := 1, cells := 0, slots := 0, locals := 21 } : Room).locals ≤ R.locals) : CallW R s args "RoundedNumbers" "RoundedNumbers$Exact" 152 ⟨"RoundedNumbers$Exact", "bit", "(I)I"⟩ prog_2_method_8_code 3 (some .int) (.code ⟨"RoundedNumbers$Exact", "bit", "(I)I"⟩ prog_2_method_8_code 3 (some .int) :: ct_T) { frames := 1, cells := 0, slots := 0, locals := 21 } 0 0 1 := cwV 1 hts (ct_giV mw_82 mw_61 mw_62 mw_38 mw_59) rfl rfl rfl ⟨rfl, by decide, by decide, by decide +kernel⟩ hR
theorem kc_RN_155 {R : Room} {s : State} {args : Array Value} {c0 : Cond} (hts : ∀ w ∈ c0 :: ct_T, w.before args s = true) (hR : ({ frames := 2, cells := 0, slots := 0, locals := 47 } : Room).frames + 1 ≤ R.frames ∧ 8 + (5 + 11) + ({ frames := 2, cells := 0, slots := 0, locals := 47 } : Room).locals ≤ R.locals) : CallW R s args "RoundedNumbers" "RoundedNumbers$Exact" 155 ⟨"RoundedNumbers$Exact", "roundAt", "(IIZ)I"⟩ prog_2_method_14_code 5 (some .int) (.code ⟨"RoundedNumbers$Exact", "roundAt", "(IIZ)I"⟩ prog_2_method_14_code 5 (some .int) :: ct_T) { frames := 2, cells := 0, slots := 0, locals := 47 } 0 0 3 := cwV 3 hts (ct_giV mw_84 mw_85 mw_86 mw_38 mw_83) rfl rfl rfl ⟨rfl, by decide, by decide, by decide +kernel⟩ hR
theorem kc_RN_182 {R : Room} {s : State} {args : Array Value} {c0 : Cond} (hts : ∀ w ∈ c0 :: ct_T, w.before args s = true) (hR : ({ frames := 3, cells := 0, slots := 0, locals := 72 } : Room).frames + 1 ≤ R.frames ∧ 8 + (4 + 11) + ({ frames := 3, cells := 0, slots := 0, locals := 72 } : Room).locals ≤ R.locals) : CallW R s args "RoundedNumbers" "RoundedNumbers" 182 ⟨"RoundedNumbers", "storeTiny", "(IIZ)I"⟩ prog_1_method_33_code 4 (some .int) (.code ⟨"RoundedNumbers", "storeTiny", "(IIZ)I"⟩ prog_1_method_33_code 4 (some .int) :: ct_T) { frames := 3, cells := 0, slots := 0, locals := 72 } 0 0 3 := cwV 3 hts (ct_giV mw_88 mw_89 mw_90 mw_5 mw_87) rfl rfl rfl ⟨rfl, by decide, by decide, by decide +kernel⟩ hR
theorem kc_RN_179 {R : Room} {s : State} {args : Array Value} {c0 : Cond} (hts : ∀ w ∈ c0 :: ct_T, w.before args s = true) (hR : ({ frames := 3, cells := 0, slots := 0, locals := 72 } : Room).frames + 1 ≤ R.frames ∧ 8 + (4 + 11) + ({ frames := 3, cells := 0, slots := 0, locals := 72 } : Room).locals ≤ R.locals) : CallW R s args "RoundedNumbers" "RoundedNumbers" 179 ⟨"RoundedNumbers", "storeHuge", "(III)I"⟩ prog_1_method_32_code 4 (some .int) (.code ⟨"RoundedNumbers", "storeHuge", "(III)I"⟩ prog_1_method_32_code 4 (some .int) :: ct_T) { frames := 3, cells := 0, slots := 0, locals := 72 } 0 0 3 := cwV 3 hts (ct_giV mw_92 mw_93 mw_94 mw_5 mw_91) rfl rfl rfl ⟨rfl, by decide, by decide, by decide +kernel⟩ hR
theorem kc_RN_176 {R : Room} {s : State} {args : Array Value} {c0 : Cond} (hts : ∀ w ∈ c0 :: ct_T, w.before args s = true) (hR : ({ frames := 0, cells := 0, slots := 0, locals := 0 } : Room).frames + 1 ≤ R.frames ∧ 8 + (1 + 11) + ({ frames := 0, cells := 0, slots := 0, locals := 0 } : Room).locals ≤ R.locals) : CallB R s args "RoundedNumbers" 176 ⟨"RoundedNumbers", "isOdd", "(I)Z"⟩ prog_1_method_31_code 1 (some .boolean) (.code ⟨"RoundedNumbers", "isOdd", "(I)Z"⟩ prog_1_method_31_code 1 (some .boolean) :: ct_T) { frames := 0, cells := 0, slots := 0, locals := 0 } 0 0 1 ∧ (Cond.static ⟨"RoundedNumbers", "isOdd", "(I)Z"⟩).before args s = true := va_cwS 1 hts (ct_giS mw_96 mw_97 mw_5 mw_95) rfl rfl rfl ⟨by decide, by decide, by decide +kernel⟩ hR
theorem kc_RN_128 {R : Room} {s : State} {args : Array Value} {c0 : Cond} (hts : ∀ w ∈ c0 :: ct_T, w.before args s = true) (hR : ({ frames := 1, cells := 0, slots := 0, locals := 21 } : Room).frames + 1 ≤ R.frames ∧ 8 + (11 + 11) + ({ frames := 1, cells := 0, slots := 0, locals := 21 } : Room).locals ≤ R.locals) : CallW R s args "RoundedNumbers" "RoundedNumbers$Exact" 128 ⟨"RoundedNumbers$Exact", "gather", "(LRoundedNumbers$Value;I)V"⟩ prog_2_method_3_code 11 none (.code ⟨"RoundedNumbers$Exact", "gather", "(LRoundedNumbers$Value;I)V"⟩ prog_2_method_3_code 11 none :: ct_T) { frames := 1, cells := 0, slots := 0, locals := 21 } 0 0 2 := cwV 2 hts (ct_giV mw_100 mw_101 mw_102 mw_38 mw_99) rfl rfl rfl ⟨rfl, by decide, by decide, by decide +kernel⟩ hR
theorem kc_RN_109 {R : Room} {s : State} {args : Array Value} {c0 : Cond} (hts : ∀ w ∈ c0 :: ct_T, w.before args s = true) (hR : ({ frames := 4, cells := 0, slots := 0, locals := 95 } : Room).frames + 1 ≤ R.frames ∧ 8 + (12 + 11) + ({ frames := 4, cells := 0, slots := 0, locals := 95 } : Room).locals ≤ R.locals) : CallW R s args "RoundedNumbers" "RoundedNumbers" 109 ⟨"RoundedNumbers", "storeExact", "(III)I"⟩ prog_1_method_30_code 12 (some .int) (.code ⟨"RoundedNumbers", "storeExact", "(III)I"⟩ prog_1_method_30_code 12 (some .int) :: ct_T) { frames := 4, cells := 0, slots := 0, locals := 95 } 0 0 3 := cwV 3 hts (ct_giV mw_104 mw_105 mw_106 mw_5 mw_103) rfl rfl rfl ⟨rfl, by decide, by decide, by decide +kernel⟩ hR
theorem kc_RN_102 {R : Room} {s : State} {args : Array Value} {c0 : Cond} (hts : ∀ w ∈ c0 :: ct_T, w.before args s = true) (hR : ({ frames := 1, cells := 0, slots := 0, locals := 22 } : Room).frames + 1 ≤ R.frames ∧ 8 + (4 + 11) + ({ frames := 1, cells := 0, slots := 0, locals := 22 } : Room).locals ≤ R.locals) : CallW R s args "RoundedNumbers" "RoundedNumbers" 102 ⟨"RoundedNumbers", "storePlain", "(III)I"⟩ prog_1_method_26_code 4 (some .int) (.code ⟨"RoundedNumbers", "storePlain", "(III)I"⟩ prog_1_method_26_code 4 (some .int) :: ct_T) { frames := 1, cells := 0, slots := 0, locals := 22 } 0 0 3 := cwV 3 hts (ct_giV mw_108 mw_109 mw_110 mw_5 mw_107) rfl rfl rfl ⟨rfl, by decide, by decide, by decide +kernel⟩ hR
theorem kc_RN_163 {R : Room} {s : State} {args : Array Value} {c0 : Cond} (hts : ∀ w ∈ c0 :: ct_T, w.before args s = true) (hR : ({ frames := 1, cells := 0, slots := 0, locals := 22 } : Room).frames + 1 ≤ R.frames ∧ 8 + (7 + 11) + ({ frames := 1, cells := 0, slots := 0, locals := 22 } : Room).locals ≤ R.locals) : CallW R s args "RoundedNumbers" "RoundedNumbers$Value" 163 ⟨"RoundedNumbers$Value", "takeScaled", "(JI)V"⟩ prog_3_method_3_code 7 none (.code ⟨"RoundedNumbers$Value", "takeScaled", "(JI)V"⟩ prog_3_method_3_code 7 none :: ct_T) { frames := 1, cells := 0, slots := 0, locals := 22 } 0 0 2 := cwV 2 hts (ct_giV mw_113 mw_114 mw_115 mw_12 mw_112) rfl rfl rfl ⟨rfl, by decide, by decide, by decide +kernel⟩ hR
theorem kc_RN_84 {R : Room} {s : State} {args : Array Value} {c0 : Cond} (hts : ∀ w ∈ c0 :: ct_T, w.before args s = true) (hR : ({ frames := 5, cells := 0, slots := 0, locals := 126 } : Room).frames + 1 ≤ R.frames ∧ 8 + (5 + 11) + ({ frames := 5, cells := 0, slots := 0, locals := 126 } : Room).locals ≤ R.locals) : CallW R s args "RoundedNumbers" "RoundedNumbers" 84 ⟨"RoundedNumbers", "storeValue", "(ILRoundedNumbers$Value;II)I"⟩ prog_1_method_28_code 5 (some .int) (.code ⟨"RoundedNumbers", "storeValue", "(ILRoundedNumbers$Value;II)I"⟩ prog_1_method_28_code 5 (some .int) :: ct_T) { frames := 5, cells := 0, slots := 0, locals := 126 } 0 0 4 := cwV 4 hts (ct_giV mw_118 mw_119 mw_120 mw_5 mw_117) rfl rfl rfl ⟨rfl, by decide, by decide, by decide +kernel⟩ hR
theorem kc_RN_72 {R : Room} {s : State} {args : Array Value} {c0 : Cond} (hts : ∀ w ∈ c0 :: ct_T, w.before args s = true) (hR : ({ frames := 1, cells := 0, slots := 0, locals := 20 } : Room).frames + 1 ≤ R.frames ∧ 8 + (2 + 11) + ({ frames := 1, cells := 0, slots := 0, locals := 20 } : Room).locals ≤ R.locals) : CallB R s args "RoundedNumbers" 72 ⟨"RoundedNumbers", "isTarget", "(II)Z"⟩ prog_1_method_20_code 2 (some .boolean) (.code ⟨"RoundedNumbers", "isTarget", "(II)Z"⟩ prog_1_method_20_code 2 (some .boolean) :: ct_T) { frames := 1, cells := 0, slots := 0, locals := 20 } 0 0 2 ∧ (Cond.static ⟨"RoundedNumbers", "isTarget", "(II)Z"⟩).before args s = true := va_cwS 2 hts (ct_giS mw_122 mw_123 mw_5 mw_121) rfl rfl rfl ⟨by decide, by decide, by decide +kernel⟩ hR
theorem kc_RN_76 {R : Room} {s : State} {args : Array Value} {c0 : Cond} (hts : ∀ w ∈ c0 :: ct_T, w.before args s = true) (hR : ({ frames := 6, cells := 0, slots := 0, locals := 150 } : Room).frames + 1 ≤ R.frames ∧ 8 + (6 + 11) + ({ frames := 6, cells := 0, slots := 0, locals := 150 } : Room).locals ≤ R.locals) : CallW R s args "RoundedNumbers" "RoundedNumbers" 76 ⟨"RoundedNumbers", "storeLoaded", "(IJII)I"⟩ prog_1_method_27_code 6 (some .int) (.code ⟨"RoundedNumbers", "storeLoaded", "(IJII)I"⟩ prog_1_method_27_code 6 (some .int) :: ct_T) { frames := 6, cells := 0, slots := 0, locals := 150 } 0 0 4 := cwV 4 hts (ct_giV mw_125 mw_126 mw_127 mw_5 mw_124) rfl rfl rfl ⟨rfl, by decide, by decide, by decide +kernel⟩ hR
theorem kc_RE_38 {R : Room} {s : State} {args : Array Value} {c0 : Cond} (hts : ∀ w ∈ c0 :: ct_T, w.before args s = true) (hR : ({ frames := 0, cells := 0, slots := 0, locals := 0 } : Room).frames + 1 ≤ R.frames ∧ 8 + (4 + 11) + ({ frames := 0, cells := 0, slots := 0, locals := 0 } : Room).locals ≤ R.locals) : CallW R s args "RoundedNumbers$Exact" "RoundedNumbers$Exact" 38 ⟨"RoundedNumbers$Exact", "turnSign", "()V"⟩ prog_2_method_6_code 4 none (.code ⟨"RoundedNumbers$Exact", "turnSign", "()V"⟩ prog_2_method_6_code 4 none :: ct_T) { frames := 0, cells := 0, slots := 0, locals := 0 } 0 0 0 := cwV 0 hts (ct_giV mw_129 mw_130 mw_131 mw_38 mw_128) rfl rfl rfl ⟨rfl, by decide, by decide, by decide +kernel⟩ hR
theorem kc_RN_132 {R : Room} {s : State} {args : Array Value} {c0 : Cond} (hts : ∀ w ∈ c0 :: ct_T, w.before args s = true) (hR : ({ frames := 2, cells := 0, slots := 0, locals := 43 } : Room).frames + 1 ≤ R.frames ∧ 8 + (1 + 11) + ({ frames := 2, cells := 0, slots := 0, locals := 43 } : Room).locals ≤ R.locals) : CallW R s args "RoundedNumbers" "RoundedNumbers$Exact" 132 ⟨"RoundedNumbers$Exact", "splitSign", "()I"⟩ prog_2_method_5_code 1 (some .int) (.code ⟨"RoundedNumbers$Exact", "splitSign", "()I"⟩ prog_2_method_5_code 1 (some .int) :: ct_T) { frames := 2, cells := 0, slots := 0, locals := 43 } 0 0 0 := cwV 0 hts (ct_giV mw_133 mw_134 mw_135 mw_38 mw_132) rfl rfl rfl ⟨rfl, by decide, by decide, by decide +kernel⟩ hR
theorem kc_RN_167 {R : Room} {s : State} {args : Array Value} {c0 : Cond} (hts : ∀ w ∈ c0 :: ct_T, w.before args s = true) (hR : ({ frames := 0, cells := 0, slots := 0, locals := 0 } : Room).frames + 1 ≤ R.frames ∧ 8 + (1 + 11) + ({ frames := 0, cells := 0, slots := 0, locals := 0 } : Room).locals ≤ R.locals) : CallB R s args "RoundedNumbers" 167 ⟨"RoundedNumbers", "signOfNothing", "(I)I"⟩ prog_1_method_25_code 1 (some .int) (.code ⟨"RoundedNumbers", "signOfNothing", "(I)I"⟩ prog_1_method_25_code 1 (some .int) :: ct_T) { frames := 0, cells := 0, slots := 0, locals := 0 } 0 0 1 ∧ (Cond.static ⟨"RoundedNumbers", "signOfNothing", "(I)I"⟩).before args s = true := va_cwS 1 hts (ct_giS mw_137 mw_138 mw_5 mw_136) rfl rfl rfl ⟨by decide, by decide, by decide +kernel⟩ hR
theorem kc_RN_88 {R : Room} {s : State} {args : Array Value} {c0 : Cond} (hts : ∀ w ∈ c0 :: ct_T, w.before args s = true) (hR : ({ frames := 5, cells := 0, slots := 0, locals := 126 } : Room).frames + 1 ≤ R.frames ∧ 8 + (7 + 11) + ({ frames := 5, cells := 0, slots := 0, locals := 126 } : Room).locals ≤ R.locals) : CallW R s args "RoundedNumbers" "RoundedNumbers" 88 ⟨"RoundedNumbers", "storeSum", "(ILRoundedNumbers$Value;LRoundedNumbers$Value;II)I"⟩ prog_1_method_29_code 7 (some .int) (.code ⟨"RoundedNumbers", "storeSum", "(ILRoundedNumbers$Value;LRoundedNumbers$Value;II)I"⟩ prog_1_method_29_code 7 (some .int) :: ct_T) { frames := 5, cells := 0, slots := 0, locals := 126 } 0 0 5 := cwV 5 hts (ct_giV mw_140 mw_141 mw_142 mw_5 mw_139) rfl rfl rfl ⟨rfl, by decide, by decide, by decide +kernel⟩ hR
theorem kc_RV_30_m : Cond.methodLinkNest "RoundedNumbers$Value" 30 ⟨"RoundedNumbers", "productKind", "(II)I"⟩ "RoundedNumbers" ∈ lw_tbl := List.mem_append_right _ (List.mem_of_getElem? (i := 256) (by decide +kernel))
theorem kc_RV_30 {R : Room} {s : State} {args : Array Value} {c0 : Cond} (hts : ∀ w ∈ c0 :: ct_T, w.before args s = true) (hN : ct_nw s) (hR : ({ frames := 0, cells := 0, slots := 0, locals := 0 } : Room).frames + 1 ≤ R.frames ∧ 8 + (2 + 11) + ({ frames := 0, cells := 0, slots := 0, locals := 0 } : Room).locals ≤ R.locals) : va_CN R s args "RoundedNumbers$Value" 30 ⟨"RoundedNumbers", "productKind", "(II)I"⟩ "RoundedNumbers" prog_1_method_23_code 2 (some .int) (.code ⟨"RoundedNumbers", "productKind", "(II)I"⟩ prog_1_method_23_code 2 (some .int) :: ct_T) { frames := 0, cells := 0, slots := 0, locals := 0 } 0 0 2 ∧ (Cond.static ⟨"RoundedNumbers", "productKind", "(II)I"⟩).before args s = true ∧ True := ⟨va_cnB 2 hts (ct_giN mw_143) rfl rfl rfl (hN _ kc_RV_30_m rfl) (hts _ (List.mem_cons_of_mem _ mw_5)) ⟨by decide, by decide, by decide +kernel⟩ hR, hts _ (List.mem_cons_of_mem _ mw_144), trivial⟩
theorem kc_RV_34 {R : Room} {s : State} {args : Array Value} {c0 : Cond} (hts : ∀ w ∈ c0 :: ct_T, w.before args s = true) (hR : ({ frames := 0, cells := 0, slots := 0, locals := 0 } : Room).frames + 1 ≤ R.frames ∧ 8 + (4 + 11) + ({ frames := 0, cells := 0, slots := 0, locals := 0 } : Room).locals ≤ R.locals) : CallB R s args "RoundedNumbers$Value" 34 ⟨"java/util/Arrays", "fill", "([II)V"⟩ prog_9_method_103_code 4 none (.code ⟨"java/util/Arrays", "fill", "([II)V"⟩ prog_9_method_103_code 4 none :: ct_T) { frames := 0, cells := 0, slots := 0, locals := 0 } 0 0 2 ∧ (Cond.static ⟨"java/util/Arrays", "fill", "([II)V"⟩).before args s = true := va_cwS 2 hts (ct_giS mw_145 mw_20 mw_21 mw_18) rfl rfl rfl ⟨by decide, by decide, by decide +kernel⟩ hR
theorem kc_RN_92 {R : Room} {s : State} {args : Array Value} {c0 : Cond} (hts : ∀ w ∈ c0 :: ct_T, w.before args s = true) (hR : ({ frames := 1, cells := 0, slots := 0, locals := 23 } : Room).frames + 1 ≤ R.frames ∧ 8 + (7 + 11) + ({ frames := 1, cells := 0, slots := 0, locals := 23 } : Room).locals ≤ R.locals) : CallW R s args "RoundedNumbers" "RoundedNumbers$Value" 92 ⟨"RoundedNumbers$Value", "takeProduct", "(LRoundedNumbers$Value;LRoundedNumbers$Value;)V"⟩ prog_3_method_4_code 7 none (.code ⟨"RoundedNumbers$Value", "takeProduct", "(LRoundedNumbers$Value;LRoundedNumbers$Value;)V"⟩ prog_3_method_4_code 7 none :: ct_T) { frames := 1, cells := 0, slots := 0, locals := 23 } 0 0 2 := cwV 2 hts (ct_giV mw_148 mw_149 mw_150 mw_12 mw_147) rfl rfl rfl ⟨rfl, by decide, by decide, by decide +kernel⟩ hR
theorem kc_RN_212 {R : Room} {s : State} {args : Array Value} {c0 : Cond} (hts : ∀ w ∈ c0 :: ct_T, w.before args s = true) (hR : ({ frames := 0, cells := 0, slots := 0, locals := 0 } : Room).frames + 1 ≤ R.frames ∧ 8 + (1 + 11) + ({ frames := 0, cells := 0, slots := 0, locals := 0 } : Room).locals ≤ R.locals) : CallW R s args "RoundedNumbers" "RoundedNumbers$Wide" 212 ⟨"RoundedNumbers$Wide", "isNothing", "()Z"⟩ prog_4_method_8_code 1 (some .boolean) (.code ⟨"RoundedNumbers$Wide", "isNothing", "()Z"⟩ prog_4_method_8_code 1 (some .boolean) :: ct_T) { frames := 0, cells := 0, slots := 0, locals := 0 } 0 0 0 := cwV 0 hts (ct_giV mw_158 mw_159 mw_160 mw_161 mw_157) rfl rfl rfl ⟨rfl, by decide, by decide, by decide +kernel⟩ hR
theorem kc_RN_138 {R : Room} {s : State} {args : Array Value} {c0 : Cond} (hts : ∀ w ∈ c0 :: ct_T, w.before args s = true) (hR : ({ frames := 0, cells := 0, slots := 0, locals := 0 } : Room).frames + 1 ≤ R.frames ∧ 8 + (1 + 11) + ({ frames := 0, cells := 0, slots := 0, locals := 0 } : Room).locals ≤ R.locals) : CallW R s args "RoundedNumbers" "RoundedNumbers$Value" 138 ⟨"RoundedNumbers$Value", "exponent", "()I"⟩ prog_3_method_6_code 1 (some .int) (.code ⟨"RoundedNumbers$Value", "exponent", "()I"⟩ prog_3_method_6_code 1 (some .int) :: ct_T) { frames := 0, cells := 0, slots := 0, locals := 0 } 0 0 0 := cwV 0 hts (ct_giV mw_163 mw_164 mw_165 mw_12 mw_162) rfl rfl rfl ⟨rfl, by decide, by decide, by decide +kernel⟩ hR
theorem kc_RN_191 {R : Room} {s : State} {args : Array Value} {c0 : Cond} (hts : ∀ w ∈ c0 :: ct_T, w.before args s = true) (hR : ({ frames := 0, cells := 0, slots := 0, locals := 0 } : Room).frames + 1 ≤ R.frames ∧ 8 + (2 + 11) + ({ frames := 0, cells := 0, slots := 0, locals := 0 } : Room).locals ≤ R.locals) : CallW R s args "RoundedNumbers" "RoundedNumbers$Wide" 191 ⟨"RoundedNumbers$Wide", "take", "(LRoundedNumbers$Value;)V"⟩ prog_4_method_3_code 2 none (.code ⟨"RoundedNumbers$Wide", "take", "(LRoundedNumbers$Value;)V"⟩ prog_4_method_3_code 2 none :: ct_T) { frames := 0, cells := 0, slots := 0, locals := 0 } 0 0 1 := cwV 1 hts (ct_giV mw_167 mw_168 mw_169 mw_161 mw_166) rfl rfl rfl ⟨rfl, by decide, by decide, by decide +kernel⟩ hR
theorem kc_RN_205 {R : Room} {s : State} {args : Array Value} {c0 : Cond} (hts : ∀ w ∈ c0 :: ct_T, w.before args s = true) (hR : ({ frames := 2, cells := 0, slots := 0, locals := 47 } : Room).frames + 1 ≤ R.frames ∧ 8 + (2 + 11) + ({ frames := 2, cells := 0, slots := 0, locals := 47 } : Room).locals ≤ R.locals) : CallW R s args "RoundedNumbers" "RoundedNumbers" 205 ⟨"RoundedNumbers", "markRemainder", "(I)V"⟩ prog_1_method_36_code 2 none (.code ⟨"RoundedNumbers", "markRemainder", "(I)V"⟩ prog_1_method_36_code 2 none :: ct_T) { frames := 2, cells := 0, slots := 0, locals := 47 } 0 0 1 := cwV 1 hts (ct_giV mw_172 mw_173 mw_174 mw_5 mw_171) rfl rfl rfl ⟨rfl, by decide, by decide, by decide +kernel⟩ hR
theorem kc_RN_194 {R : Room} {s : State} {args : Array Value} {c0 : Cond} (hts : ∀ w ∈ c0 :: ct_T, w.before args s = true) (hR : ({ frames := 0, cells := 0, slots := 0, locals := 0 } : Room).frames + 1 ≤ R.frames ∧ 8 + (2 + 11) + ({ frames := 0, cells := 0, slots := 0, locals := 0 } : Room).locals ≤ R.locals) : CallW R s args "RoundedNumbers" "RoundedNumbers$Wide" 194 ⟨"RoundedNumbers$Wide", "reaches", "(LRoundedNumbers$Wide;)Z"⟩ prog_4_method_6_code 2 (some .boolean) (.code ⟨"RoundedNumbers$Wide", "reaches", "(LRoundedNumbers$Wide;)Z"⟩ prog_4_method_6_code 2 (some .boolean) :: ct_T) { frames := 0, cells := 0, slots := 0, locals := 0 } 0 0 1 := cwV 1 hts (ct_giV mw_176 mw_177 mw_178 mw_161 mw_175) rfl rfl rfl ⟨rfl, by decide, by decide, by decide +kernel⟩ hR
theorem kc_RN_202 {R : Room} {s : State} {args : Array Value} {c0 : Cond} (hts : ∀ w ∈ c0 :: ct_T, w.before args s = true) (hR : ({ frames := 0, cells := 0, slots := 0, locals := 0 } : Room).frames + 1 ≤ R.frames ∧ 8 + (3 + 11) + ({ frames := 0, cells := 0, slots := 0, locals := 0 } : Room).locals ≤ R.locals) : CallW R s args "RoundedNumbers" "RoundedNumbers$Wide" 202 ⟨"RoundedNumbers$Wide", "shift", "(II)V"⟩ prog_4_method_5_code 3 none (.code ⟨"RoundedNumbers$Wide", "shift", "(II)V"⟩ prog_4_method_5_code 3 none :: ct_T) { frames := 0, cells := 0, slots := 0, locals := 0 } 0 0 2 := cwV 2 hts (ct_giV mw_180 mw_181 mw_182 mw_161 mw_179) rfl rfl rfl ⟨rfl, by decide, by decide, by decide +kernel⟩ hR
theorem kc_RN_198 {R : Room} {s : State} {args : Array Value} {c0 : Cond} (hts : ∀ w ∈ c0 :: ct_T, w.before args s = true) (hR : ({ frames := 0, cells := 0, slots := 0, locals := 0 } : Room).frames + 1 ≤ R.frames ∧ 8 + (2 + 11) + ({ frames := 0, cells := 0, slots := 0, locals := 0 } : Room).locals ≤ R.locals) : CallW R s args "RoundedNumbers" "RoundedNumbers$Wide" 198 ⟨"RoundedNumbers$Wide", "lessen", "(LRoundedNumbers$Wide;)V"⟩ prog_4_method_7_code 2 none (.code ⟨"RoundedNumbers$Wide", "lessen", "(LRoundedNumbers$Wide;)V"⟩ prog_4_method_7_code 2 none :: ct_T) { frames := 0, cells := 0, slots := 0, locals := 0 } 0 0 1 := cwV 1 hts (ct_giV mw_184 mw_185 mw_186 mw_161 mw_183) rfl rfl rfl ⟨rfl, by decide, by decide, by decide +kernel⟩ hR
theorem kc_RN_99 {R : Room} {s : State} {args : Array Value} {c0 : Cond} (hts : ∀ w ∈ c0 :: ct_T, w.before args s = true) (hR : ({ frames := 0, cells := 0, slots := 0, locals := 0 } : Room).frames + 1 ≤ R.frames ∧ 8 + (2 + 11) + ({ frames := 0, cells := 0, slots := 0, locals := 0 } : Room).locals ≤ R.locals) : CallB R s args "RoundedNumbers" 99 ⟨"RoundedNumbers", "quotientKind", "(II)I"⟩ prog_1_method_24_code 2 (some .int) (.code ⟨"RoundedNumbers", "quotientKind", "(II)I"⟩ prog_1_method_24_code 2 (some .int) :: ct_T) { frames := 0, cells := 0, slots := 0, locals := 0 } 0 0 2 ∧ (Cond.static ⟨"RoundedNumbers", "quotientKind", "(II)I"⟩).before args s = true := va_cwS 2 hts (ct_giS mw_188 mw_189 mw_5 mw_187) rfl rfl rfl ⟨by decide, by decide, by decide +kernel⟩ hR
theorem kc_RN_106 {R : Room} {s : State} {args : Array Value} {c0 : Cond} (hts : ∀ w ∈ c0 :: ct_T, w.before args s = true) (hR : ({ frames := 3, cells := 0, slots := 0, locals := 68 } : Room).frames + 1 ≤ R.frames ∧ 8 + (5 + 11) + ({ frames := 3, cells := 0, slots := 0, locals := 68 } : Room).locals ≤ R.locals) : CallW R s args "RoundedNumbers" "RoundedNumbers" 106 ⟨"RoundedNumbers", "workOutQuotient", "(LRoundedNumbers$Value;LRoundedNumbers$Value;)V"⟩ prog_1_method_34_code 5 none (.code ⟨"RoundedNumbers", "workOutQuotient", "(LRoundedNumbers$Value;LRoundedNumbers$Value;)V"⟩ prog_1_method_34_code 5 none :: ct_T) { frames := 3, cells := 0, slots := 0, locals := 68 } 0 0 2 := cwV 2 hts (ct_giV mw_191 mw_192 mw_193 mw_5 mw_190) rfl rfl rfl ⟨rfl, by decide, by decide, by decide +kernel⟩ hR
theorem kc_RN_208 {R : Room} {s : State} {args : Array Value} {c0 : Cond} (hts : ∀ w ∈ c0 :: ct_T, w.before args s = true) (hR : ({ frames := 0, cells := 0, slots := 0, locals := 0 } : Room).frames + 1 ≤ R.frames ∧ 8 + (1 + 11) + ({ frames := 0, cells := 0, slots := 0, locals := 0 } : Room).locals ≤ R.locals) : CallW R s args "RoundedNumbers" "RoundedNumbers$Wide" 208 ⟨"RoundedNumbers$Wide", "clear", "()V"⟩ prog_4_method_2_code 1 none (.code ⟨"RoundedNumbers$Wide", "clear", "()V"⟩ prog_4_method_2_code 1 none :: ct_T) { frames := 0, cells := 0, slots := 0, locals := 0 } 0 0 0 := cwV 0 hts (ct_giV mw_195 mw_196 mw_197 mw_161 mw_194) rfl rfl rfl ⟨rfl, by decide, by decide, by decide +kernel⟩ hR
theorem kc_RN_141 {R : Room} {s : State} {args : Array Value} {c0 : Cond} (hts : ∀ w ∈ c0 :: ct_T, w.before args s = true) (hR : ({ frames := 0, cells := 0, slots := 0, locals := 0 } : Room).frames + 1 ≤ R.frames ∧ 8 + (3 + 11) + ({ frames := 0, cells := 0, slots := 0, locals := 0 } : Room).locals ≤ R.locals) : CallW R s args "RoundedNumbers" "RoundedNumbers$Value" 141 ⟨"RoundedNumbers$Value", "bitFromTop", "(I)I"⟩ prog_3_method_7_code 3 (some .int) (.code ⟨"RoundedNumbers$Value", "bitFromTop", "(I)I"⟩ prog_3_method_7_code 3 (some .int) :: ct_T) { frames := 0, cells := 0, slots := 0, locals := 0 } 0 0 1 := cwV 1 hts (ct_giV mw_200 mw_201 mw_202 mw_12 mw_199) rfl rfl rfl ⟨rfl, by decide, by decide, by decide +kernel⟩ hR
theorem kc_RN_209 {R : Room} {s : State} {args : Array Value} {c0 : Cond} (hts : ∀ w ∈ c0 :: ct_T, w.before args s = true) (hR : ({ frames := 0, cells := 0, slots := 0, locals := 0 } : Room).frames + 1 ≤ R.frames ∧ 8 + (2 + 11) + ({ frames := 0, cells := 0, slots := 0, locals := 0 } : Room).locals ≤ R.locals) : CallW R s args "RoundedNumbers" "RoundedNumbers$Wide" 209 ⟨"RoundedNumbers$Wide", "takeSame", "(LRoundedNumbers$Wide;)V"⟩ prog_4_method_4_code 2 none (.code ⟨"RoundedNumbers$Wide", "takeSame", "(LRoundedNumbers$Wide;)V"⟩ prog_4_method_4_code 2 none :: ct_T) { frames := 0, cells := 0, slots := 0, locals := 0 } 0 0 1 := cwV 1 hts (ct_giV mw_204 mw_205 mw_206 mw_161 mw_203) rfl rfl rfl ⟨rfl, by decide, by decide, by decide +kernel⟩ hR
theorem kc_RN_112 {R : Room} {s : State} {args : Array Value} {c0 : Cond} (hts : ∀ w ∈ c0 :: ct_T, w.before args s = true) (hR : ({ frames := 3, cells := 0, slots := 0, locals := 68 } : Room).frames + 1 ≤ R.frames ∧ 8 + (7 + 11) + ({ frames := 3, cells := 0, slots := 0, locals := 68 } : Room).locals ≤ R.locals) : CallW R s args "RoundedNumbers" "RoundedNumbers" 112 ⟨"RoundedNumbers", "workOutRoot", "(LRoundedNumbers$Value;)V"⟩ prog_1_method_35_code 7 none (.code ⟨"RoundedNumbers", "workOutRoot", "(LRoundedNumbers$Value;)V"⟩ prog_1_method_35_code 7 none :: ct_T) { frames := 3, cells := 0, slots := 0, locals := 68 } 0 0 1 := cwV 1 hts (ct_giV mw_208 mw_209 mw_210 mw_5 mw_207) rfl rfl rfl ⟨rfl, by decide, by decide, by decide +kernel⟩ hR
theorem kc_RN_116 {R : Room} {s : State} {args : Array Value} {c0 : Cond} (hts : ∀ w ∈ c0 :: ct_T, w.before args s = true) (hR : ({ frames := 0, cells := 0, slots := 0, locals := 0 } : Room).frames + 1 ≤ R.frames ∧ 8 + (1 + 11) + ({ frames := 0, cells := 0, slots := 0, locals := 0 } : Room).locals ≤ R.locals) : CallW R s args "RoundedNumbers" "RoundedNumbers$Value" 116 ⟨"RoundedNumbers$Value", "infiniteSign", "()I"⟩ prog_3_method_5_code 1 (some .int) (.code ⟨"RoundedNumbers$Value", "infiniteSign", "()I"⟩ prog_3_method_5_code 1 (some .int) :: ct_T) { frames := 0, cells := 0, slots := 0, locals := 0 } 0 0 0 := cwV 0 hts (ct_giV mw_212 mw_213 mw_214 mw_12 mw_211) rfl rfl rfl ⟨rfl, by decide, by decide, by decide +kernel⟩ hR
theorem kc_RN_120 {R : Room} {s : State} {args : Array Value} {c0 : Cond} (hts : ∀ w ∈ c0 :: ct_T, w.before args s = true) (hR : ({ frames := 0, cells := 0, slots := 0, locals := 0 } : Room).frames + 1 ≤ R.frames ∧ 8 + (2 + 11) + ({ frames := 0, cells := 0, slots := 0, locals := 0 } : Room).locals ≤ R.locals) : CallB R s args "RoundedNumbers" 120 ⟨"java/lang/Integer", "compare", "(II)I"⟩ prog_7_method_40_code 2 (some .int) (.code ⟨"java/lang/Integer", "compare", "(II)I"⟩ prog_7_method_40_code 2 (some .int) :: ct_T) { frames := 0, cells := 0, slots := 0, locals := 0 } 0 0 2 ∧ (Cond.static ⟨"java/lang/Integer", "compare", "(II)I"⟩).before args s = true := va_cwS 2 hts (ct_giS mw_216 mw_217 mw_34 mw_215) rfl rfl rfl ⟨by decide, by decide, by decide +kernel⟩ hR
theorem kc_RN_135 {R : Room} {s : State} {args : Array Value} {c0 : Cond} (hts : ∀ w ∈ c0 :: ct_T, w.before args s = true) (hR : ({ frames := 1, cells := 0, slots := 0, locals := 20 } : Room).frames + 1 ≤ R.frames ∧ 8 + (2 + 11) + ({ frames := 1, cells := 0, slots := 0, locals := 20 } : Room).locals ≤ R.locals) : CallW R s args "RoundedNumbers" "RoundedNumbers" 135 ⟨"RoundedNumbers", "isRegular", "(I)Z"⟩ prog_1_method_21_code 2 (some .boolean) (.code ⟨"RoundedNumbers", "isRegular", "(I)Z"⟩ prog_1_method_21_code 2 (some .boolean) :: ct_T) { frames := 1, cells := 0, slots := 0, locals := 20 } 0 0 1 := cwV 1 hts (ct_giV mw_219 mw_220 mw_221 mw_5 mw_218) rfl rfl rfl ⟨rfl, by decide, by decide, by decide +kernel⟩ hR
theorem kc_RN_159 {R : Room} {s : State} {args : Array Value} {c0 : Cond} (hts : ∀ w ∈ c0 :: ct_T, w.before args s = true) (hR : ({ frames := 0, cells := 0, slots := 0, locals := 0 } : Room).frames + 1 ≤ R.frames ∧ 8 + (1 + 11) + ({ frames := 0, cells := 0, slots := 0, locals := 0 } : Room).locals ≤ R.locals) : CallW R s args "RoundedNumbers" "RoundedNumbers$Exact" 159 ⟨"RoundedNumbers$Exact", "wholePart", "()J"⟩ prog_2_method_15_code 1 (some .long) (.code ⟨"RoundedNumbers$Exact", "wholePart", "()J"⟩ prog_2_method_15_code 1 (some .long) :: ct_T) { frames := 0, cells := 0, slots := 0, locals := 0 } 0 0 0 := cwV 0 hts (ct_giV mw_225 mw_226 mw_227 mw_38 mw_224) rfl rfl rfl ⟨rfl, by decide, by decide, by decide +kernel⟩ hR
