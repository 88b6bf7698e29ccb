def RX0 : String := "IncidentKinds$Changes"
def TX0 : u_T := fun k => match k with
  | 0 => ("IncidentKinds$Changes", "newest", "[I", true)
  | 1 => ("IncidentKinds$Changes", "toldBefore", "[I", true)
  | 2 => ("IncidentKinds$Changes", "days", "[I", true)
  | 3 => ("IncidentKinds$Changes", "hows", "[I", true)
  | 4 => ("IncidentKinds$Changes", "values", "[I", true)
  | _ => ("IncidentKinds$Changes", "size", "I", false)
def tyX0 : Nat → FieldType := fun k => match k with
  | 0 => .array .int
  | 1 => .array .int
  | 2 => .array .int
  | 3 => .array .int
  | 4 => .array .int
  | _ => .int
theorem nmX0 : ∀ a, a < 6 → ∀ b, b < 6 → a ≠ b → (TX0 a).2.1 ≠ (TX0 b).2.1 := by decide +kernel
theorem tyX0_ok : ∀ k, k < 6 → parseFieldDescriptor (TX0 k).2.2.1 = some (tyX0 k) := by decide +kernel
def RX1 : String := "IncidentKinds$Rows"
def TX1 : u_T := fun k => match k with
  | 0 => ("IncidentKinds$Rows", "columns", "I", true)
  | 1 => ("IncidentKinds$Rows", "targets", "[I", true)
  | _ => ("IncidentKinds$Rows", "size", "I", false)
def tyX1 : Nat → FieldType := fun k => match k with
  | 0 => .int
  | 1 => .array .int
  | _ => .int
theorem nmX1 : ∀ a, a < 3 → ∀ b, b < 3 → a ≠ b → (TX1 a).2.1 ≠ (TX1 b).2.1 := by decide +kernel
theorem tyX1_ok : ∀ k, k < 3 → parseFieldDescriptor (TX1 k).2.2.1 = some (tyX1 k) := by decide +kernel
def RX2 : String := "IncidentKinds"
def TX2 : u_T := fun k => match k with
  | 0 => ("IncidentKinds", "kinds", "I", false)
  | 1 => ("IncidentKinds", "parentOf", "[I", true)
  | 2 => ("IncidentKinds", "closedFrom", "[I", true)
  | 3 => ("IncidentKinds", "changes", "LIncidentKinds$Changes;", true)
  | 4 => ("IncidentKinds", "areaRows", "LIncidentKinds$Rows;", true)
  | 5 => ("IncidentKinds", "upgradeRows", "LIncidentKinds$Rows;", true)
  | 6 => ("IncidentKinds", "incidents", "I", false)
  | 7 => ("IncidentKinds", "kindOf", "[I", true)
  | 8 => ("IncidentKinds", "areaOf", "[I", true)
  | 9 => ("IncidentKinds", "becameAnother", "[I", true)
  | 10 => ("IncidentKinds", "sent", "[I", true)
  | _ => ("IncidentKinds", "skillsOf", "[I", true)
def tyX2 : Nat → FieldType := fun k => match k with
  | 0 => .int
  | 1 => .array .int
  | 2 => .array .int
  | 3 => .object "IncidentKinds$Changes"
  | 4 => .object "IncidentKinds$Rows"
  | 5 => .object "IncidentKinds$Rows"
  | 6 => .int
  | 7 => .array .int
  | 8 => .array .int
  | 9 => .array .int
  | 10 => .array .int
  | _ => .array .int
theorem nmX2 : ∀ a, a < 12 → ∀ b, b < 12 → a ≠ b → (TX2 a).2.1 ≠ (TX2 b).2.1 := by decide +kernel
theorem tyX2_ok : ∀ k, k < 12 → parseFieldDescriptor (TX2 k).2.2.1 = some (tyX2 k) := by decide +kernel
def RX3 : String := "IncidentKindsModel"
def TX3 : u_T := fun k => match k with
  | 0 => ("IncidentKindsModel", "thrown", "I", false)
  | 1 => ("IncidentKindsModel", "kinds", "I", false)
  | 2 => ("IncidentKindsModel", "parent", "[I", true)
  | 3 => ("IncidentKindsModel", "closed", "[I", true)
  | 4 => ("IncidentKindsModel", "changes", "I", false)
  | 5 => ("IncidentKindsModel", "changeKind", "[I", true)
  | 6 => ("IncidentKindsModel", "changeWhat", "[I", true)
  | 7 => ("IncidentKindsModel", "changeDay", "[I", true)
  | 8 => ("IncidentKindsModel", "changeValue", "[I", true)
  | 9 => ("IncidentKindsModel", "changeHow", "[I", true)
  | 10 => ("IncidentKindsModel", "rows", "[I", true)
  | 11 => ("IncidentKindsModel", "upgrades", "[I", true)
  | 12 => ("IncidentKindsModel", "incidents", "I", false)
  | 13 => ("IncidentKindsModel", "kindOf", "[I", true)
  | 14 => ("IncidentKindsModel", "areaOf", "[I", true)
  | 15 => ("IncidentKindsModel", "turns", "[I", true)
  | 16 => ("IncidentKindsModel", "sent", "[I", true)
  | _ => ("IncidentKindsModel", "skills", "[I", true)
def tyX3 : Nat → FieldType := fun k => match k with
  | 0 => .int
  | 1 => .int
  | 2 => .array .int
  | 3 => .array .int
  | 4 => .int
  | 5 => .array .int
  | 6 => .array .int
  | 7 => .array .int
  | 8 => .array .int
  | 9 => .array .int
  | 10 => .array .int
  | 11 => .array .int
  | 12 => .int
  | 13 => .array .int
  | 14 => .array .int
  | 15 => .array .int
  | 16 => .array .int
  | _ => .array .int
theorem nmX3 : ∀ a, a < 18 → ∀ b, b < 18 → a ≠ b → (TX3 a).2.1 ≠ (TX3 b).2.1 := by decide +kernel
theorem tyX3_ok : ∀ k, k < 18 → parseFieldDescriptor (TX3 k).2.2.1 = some (tyX3 k) := by decide +kernel
def RL : String := "IncidentKindsLaw"
def RA : String := "java/util/Arrays"
def vwCl : List vw_C := [(RX0, TX0, 6), (RX1, TX1, 3), (RX2, TX2, 12), (RX3, TX3, 18)]
abbrev cX0_init : ByteArray := prog_2_method_1_code
def yX0_init : MethodName := ⟨RX0, "<init>", "()V"⟩
abbrev cX0_hasRoom : ByteArray := prog_2_method_2_code
def yX0_hasRoom : MethodName := ⟨RX0, "hasRoom", "()Z"⟩
abbrev cX0_tell : ByteArray := prog_2_method_3_code
def yX0_tell : MethodName := ⟨RX0, "tell", "(IIIII)V"⟩
abbrev cX0_latest : ByteArray := prog_2_method_4_code
def yX0_latest : MethodName := ⟨RX0, "latest", "(III)I"⟩
abbrev cX1_init : ByteArray := prog_3_method_1_code
def yX1_init : MethodName := ⟨RX1, "<init>", "(I)V"⟩
abbrev cX1_target : ByteArray := prog_3_method_2_code
def yX1_target : MethodName := ⟨RX1, "target", "(II)I"⟩
abbrev cX1_put : ByteArray := prog_3_method_3_code
def yX1_put : MethodName := ⟨RX1, "put", "(III)V"⟩
abbrev cX2_init : ByteArray := prog_1_method_1_code
def yX2_init : MethodName := ⟨RX2, "<init>", "()V"⟩
abbrev cX2_kind : ByteArray := prog_1_method_2_code
def yX2_kind : MethodName := ⟨RX2, "kind", "(I)I"⟩
abbrev cX2_parent : ByteArray := prog_1_method_3_code
def yX2_parent : MethodName := ⟨RX2, "parent", "(II)V"⟩
abbrev cX2_says : ByteArray := prog_1_method_4_code
def yX2_says : MethodName := ⟨RX2, "says", "(IIII)V"⟩
abbrev cX2_need : ByteArray := prog_1_method_5_code
def yX2_need : MethodName := ⟨RX2, "need", "(IIIII)V"⟩
abbrev cX2_close : ByteArray := prog_1_method_6_code
def yX2_close : MethodName := ⟨RX2, "close", "(II)V"⟩
abbrev cX2_area : ByteArray := prog_1_method_7_code
def yX2_area : MethodName := ⟨RX2, "area", "(III)V"⟩
abbrev cX2_upgrade : ByteArray := prog_1_method_8_code
def yX2_upgrade : MethodName := ⟨RX2, "upgrade", "(III)V"⟩
abbrev cX2_has : ByteArray := prog_1_method_9_code
def yX2_has : MethodName := ⟨RX2, "has", "(III)I"⟩
abbrev cX2_in : ByteArray := prog_1_method_10_code
def yX2_in : MethodName := ⟨RX2, "in", "(II)I"⟩
abbrev cX2_open : ByteArray := prog_1_method_11_code
def yX2_open : MethodName := ⟨RX2, "open", "(III)I"⟩
abbrev cX2_found : ByteArray := prog_1_method_12_code
def yX2_found : MethodName := ⟨RX2, "found", "(III)I"⟩
abbrev cX2_send : ByteArray := prog_1_method_13_code
def yX2_send : MethodName := ⟨RX2, "send", "(III)I"⟩
abbrev cX2_missing : ByteArray := prog_1_method_14_code
def yX2_missing : MethodName := ⟨RX2, "missing", "(III)I"⟩
abbrev cX2_incident : ByteArray := prog_1_method_15_code
def yX2_incident : MethodName := ⟨RX2, "incident", "(II)I"⟩
abbrev cX2_unit : ByteArray := prog_1_method_16_code
def yX2_unit : MethodName := ⟨RX2, "unit", "(II)V"⟩
abbrev cX2_uncovered : ByteArray := prog_1_method_17_code
def yX2_uncovered : MethodName := ⟨RX2, "uncovered", "(II)I"⟩
abbrev cX2_coded : ByteArray := prog_1_method_18_code
def yX2_coded : MethodName := ⟨RX2, "coded", "(II)I"⟩
abbrev cX2_count : ByteArray := prog_1_method_19_code
def yX2_count : MethodName := ⟨RX2, "count", "(I)I"⟩
abbrev cX2_checkKnown : ByteArray := prog_1_method_20_code
def yX2_checkKnown : MethodName := ⟨RX2, "checkKnown", "(Z)V"⟩
abbrev cX2_checkRange : ByteArray := prog_1_method_21_code
def yX2_checkRange : MethodName := ⟨RX2, "checkRange", "(Z)V"⟩
abbrev cX2_checkState : ByteArray := prog_1_method_22_code
def yX2_checkState : MethodName := ⟨RX2, "checkState", "(Z)V"⟩
abbrev cX2_checkRoom : ByteArray := prog_1_method_23_code
def yX2_checkRoom : MethodName := ⟨RX2, "checkRoom", "(Z)V"⟩
abbrev cX2_isKind : ByteArray := prog_1_method_24_code
def yX2_isKind : MethodName := ⟨RX2, "isKind", "(I)Z"⟩
abbrev cX2_isKindOrNone : ByteArray := prog_1_method_25_code
def yX2_isKindOrNone : MethodName := ⟨RX2, "isKindOrNone", "(I)Z"⟩
abbrev cX2_isIncident : ByteArray := prog_1_method_26_code
def yX2_isIncident : MethodName := ⟨RX2, "isIncident", "(I)Z"⟩
abbrev cX2_isDay : ByteArray := prog_1_method_27_code
def yX2_isDay : MethodName := ⟨RX2, "isDay", "(I)Z"⟩
abbrev cX2_isNeed : ByteArray := prog_1_method_28_code
def yX2_isNeed : MethodName := ⟨RX2, "isNeed", "(I)Z"⟩
abbrev cX2_isBelow : ByteArray := prog_1_method_29_code
def yX2_isBelow : MethodName := ⟨RX2, "isBelow", "(II)Z"⟩
abbrev cX2_isSameOrAbove : ByteArray := prog_1_method_30_code
def yX2_isSameOrAbove : MethodName := ⟨RX2, "isSameOrAbove", "(II)Z"⟩
abbrev cX2_depth : ByteArray := prog_1_method_31_code
def yX2_depth : MethodName := ⟨RX2, "depth", "(I)I"⟩
abbrev cX2_isClosed : ByteArray := prog_1_method_32_code
def yX2_isClosed : MethodName := ⟨RX2, "isClosed", "(II)Z"⟩
abbrev cX2_wordOf : ByteArray := prog_1_method_33_code
def yX2_wordOf : MethodName := ⟨RX2, "wordOf", "(III)I"⟩
abbrev cX2_needOf : ByteArray := prog_1_method_34_code
def yX2_needOf : MethodName := ⟨RX2, "needOf", "(III)I"⟩
abbrev cX2_inherited : ByteArray := prog_1_method_35_code
def yX2_inherited : MethodName := ⟨RX2, "inherited", "(IIII)I"⟩
abbrev cX2_kindInArea : ByteArray := prog_1_method_36_code
def yX2_kindInArea : MethodName := ⟨RX2, "kindInArea", "(II)I"⟩
abbrev cX2_leadsTo : ByteArray := prog_1_method_37_code
def yX2_leadsTo : MethodName := ⟨RX2, "leadsTo", "(III)Z"⟩
abbrev cX2_upgradeOf : ByteArray := prog_1_method_38_code
def yX2_upgradeOf : MethodName := ⟨RX2, "upgradeOf", "(II)I"⟩
abbrev cX2_skillsOfAllUnits : ByteArray := prog_1_method_39_code
def yX2_skillsOfAllUnits : MethodName := ⟨RX2, "skillsOfAllUnits", "()I"⟩
abbrev cX2_needsOneOf : ByteArray := prog_1_method_40_code
def yX2_needsOneOf : MethodName := ⟨RX2, "needsOneOf", "(III)Z"⟩
abbrev cX3_init : ByteArray := prog_5_method_1_code
def yX3_init : MethodName := ⟨RX3, "<init>", "()V"⟩
abbrev cX3_thrown : ByteArray := prog_5_method_2_code
def yX3_thrown : MethodName := ⟨RX3, "thrown", "()I"⟩
abbrev cX3_throwing : ByteArray := prog_5_method_3_code
def yX3_throwing : MethodName := ⟨RX3, "throwing", "(ZZZZ)Z"⟩
abbrev cX3_between : ByteArray := prog_5_method_4_code
def yX3_between : MethodName := ⟨RX3, "between", "(III)Z"⟩
abbrev cX3_isKind : ByteArray := prog_5_method_5_code
def yX3_isKind : MethodName := ⟨RX3, "isKind", "(I)Z"⟩
abbrev cX3_isIncident : ByteArray := prog_5_method_6_code
def yX3_isIncident : MethodName := ⟨RX3, "isIncident", "(I)Z"⟩
abbrev cX3_isDay : ByteArray := prog_5_method_7_code
def yX3_isDay : MethodName := ⟨RX3, "isDay", "(I)Z"⟩
abbrev cX3_isArea : ByteArray := prog_5_method_8_code
def yX3_isArea : MethodName := ⟨RX3, "isArea", "(I)Z"⟩
abbrev cX3_kind : ByteArray := prog_5_method_9_code
def yX3_kind : MethodName := ⟨RX3, "kind", "(I)I"⟩
abbrev cX3_isAbove : ByteArray := prog_5_method_10_code
def yX3_isAbove : MethodName := ⟨RX3, "isAbove", "(II)Z"⟩
abbrev cX3_parent : ByteArray := prog_5_method_11_code
def yX3_parent : MethodName := ⟨RX3, "parent", "(II)V"⟩
abbrev cX3_change : ByteArray := prog_5_method_12_code
def yX3_change : MethodName := ⟨RX3, "change", "(IIIII)V"⟩
abbrev cX3_most : ByteArray := prog_5_method_13_code
def yX3_most : MethodName := ⟨RX3, "most", "(I)I"⟩
abbrev cX3_says : ByteArray := prog_5_method_14_code
def yX3_says : MethodName := ⟨RX3, "says", "(IIII)V"⟩
abbrev cX3_need : ByteArray := prog_5_method_15_code
def yX3_need : MethodName := ⟨RX3, "need", "(IIIII)V"⟩
abbrev cX3_close : ByteArray := prog_5_method_16_code
def yX3_close : MethodName := ⟨RX3, "close", "(II)V"⟩
abbrev cX3_counting : ByteArray := prog_5_method_17_code
def yX3_counting : MethodName := ⟨RX3, "counting", "(III)I"⟩
abbrev cX3_told : ByteArray := prog_5_method_18_code
def yX3_told : MethodName := ⟨RX3, "told", "(III)I"⟩
abbrev cX3_needs : ByteArray := prog_5_method_19_code
def yX3_needs : MethodName := ⟨RX3, "needs", "(III)I"⟩
abbrev cX3_isClosed : ByteArray := prog_5_method_20_code
def yX3_isClosed : MethodName := ⟨RX3, "isClosed", "(II)Z"⟩
abbrev cX3_depth : ByteArray := prog_5_method_21_code
def yX3_depth : MethodName := ⟨RX3, "depth", "(I)I"⟩
abbrev cX3_has : ByteArray := prog_5_method_22_code
def yX3_has : MethodName := ⟨RX3, "has", "(III)I"⟩
abbrev cX3_follow : ByteArray := prog_5_method_23_code
def yX3_follow : MethodName := ⟨RX3, "follow", "(II)I"⟩
abbrev cX3_area : ByteArray := prog_5_method_24_code
def yX3_area : MethodName := ⟨RX3, "area", "(III)V"⟩
abbrev cX3_in : ByteArray := prog_5_method_25_code
def yX3_in : MethodName := ⟨RX3, "in", "(II)I"⟩
abbrev cX3_rowsOf : ByteArray := prog_5_method_26_code
def yX3_rowsOf : MethodName := ⟨RX3, "rowsOf", "(Z)I"⟩
abbrev cX3_upgrade : ByteArray := prog_5_method_27_code
def yX3_upgrade : MethodName := ⟨RX3, "upgrade", "(III)V"⟩
abbrev cX3_open : ByteArray := prog_5_method_28_code
def yX3_open : MethodName := ⟨RX3, "open", "(III)I"⟩
abbrev cX3_found : ByteArray := prog_5_method_29_code
def yX3_found : MethodName := ⟨RX3, "found", "(III)I"⟩
abbrev cX3_send : ByteArray := prog_5_method_30_code
def yX3_send : MethodName := ⟨RX3, "send", "(III)I"⟩
abbrev cX3_missing : ByteArray := prog_5_method_31_code
def yX3_missing : MethodName := ⟨RX3, "missing", "(III)I"⟩
abbrev cX3_incident : ByteArray := prog_5_method_32_code
def yX3_incident : MethodName := ⟨RX3, "incident", "(II)I"⟩
abbrev cX3_unit : ByteArray := prog_5_method_33_code
def yX3_unit : MethodName := ⟨RX3, "unit", "(II)V"⟩
abbrev cX3_isCovered : ByteArray := prog_5_method_34_code
def yX3_isCovered : MethodName := ⟨RX3, "isCovered", "(II)Z"⟩
abbrev cX3_uncovered : ByteArray := prog_5_method_35_code
def yX3_uncovered : MethodName := ⟨RX3, "uncovered", "(II)I"⟩
abbrev cX3_coded : ByteArray := prog_5_method_36_code
def yX3_coded : MethodName := ⟨RX3, "coded", "(II)I"⟩
abbrev cX3_count : ByteArray := prog_5_method_37_code
def yX3_count : MethodName := ⟨RX3, "count", "(I)I"⟩
abbrev cL_kind : ByteArray := method_3_code
def yL_kind : MethodName := ⟨RL, "kind", "(LIncidentKinds;I[J)I"⟩
abbrev cL_parent : ByteArray := method_4_code
def yL_parent : MethodName := ⟨RL, "parent", "(LIncidentKinds;II)I"⟩
abbrev cL_says : ByteArray := method_5_code
def yL_says : MethodName := ⟨RL, "says", "(LIncidentKinds;IIII)I"⟩
abbrev cL_need : ByteArray := method_6_code
def yL_need : MethodName := ⟨RL, "need", "(LIncidentKinds;IIIII)I"⟩
abbrev cL_close : ByteArray := method_7_code
def yL_close : MethodName := ⟨RL, "close", "(LIncidentKinds;II)I"⟩
abbrev cL_area : ByteArray := method_8_code
def yL_area : MethodName := ⟨RL, "area", "(LIncidentKinds;III)I"⟩
abbrev cL_upgrade : ByteArray := method_9_code
def yL_upgrade : MethodName := ⟨RL, "upgrade", "(LIncidentKinds;III)I"⟩
abbrev cL_has : ByteArray := method_10_code
def yL_has : MethodName := ⟨RL, "has", "(LIncidentKinds;III[J)I"⟩
abbrev cL_in : ByteArray := method_11_code
def yL_in : MethodName := ⟨RL, "in", "(LIncidentKinds;II[J)I"⟩
abbrev cL_open : ByteArray := method_12_code
def yL_open : MethodName := ⟨RL, "open", "(LIncidentKinds;III[J)I"⟩
abbrev cL_found : ByteArray := method_13_code
def yL_found : MethodName := ⟨RL, "found", "(LIncidentKinds;III[J)I"⟩
abbrev cL_send : ByteArray := method_14_code
def yL_send : MethodName := ⟨RL, "send", "(LIncidentKinds;III[J)I"⟩
abbrev cL_missing : ByteArray := method_15_code
def yL_missing : MethodName := ⟨RL, "missing", "(LIncidentKinds;III[J)I"⟩
abbrev cL_incident : ByteArray := method_16_code
def yL_incident : MethodName := ⟨RL, "incident", "(LIncidentKinds;II[J)I"⟩
abbrev cL_unit : ByteArray := method_17_code
def yL_unit : MethodName := ⟨RL, "unit", "(LIncidentKinds;II)I"⟩
abbrev cL_uncovered : ByteArray := method_18_code
def yL_uncovered : MethodName := ⟨RL, "uncovered", "(LIncidentKinds;II[J)I"⟩
abbrev cL_coded : ByteArray := method_19_code
def yL_coded : MethodName := ⟨RL, "coded", "(LIncidentKinds;II[J)I"⟩
abbrev cL_count : ByteArray := method_20_code
def yL_count : MethodName := ⟨RL, "count", "(LIncidentKinds;I[J)I"⟩
abbrev cL_law : ByteArray := code
abbrev cA_fill : ByteArray := prog_15_method_103_code
def yA_fill : MethodName := ⟨RA, "fill", "([II)V"⟩
/-- all words of the tables that stay: every method is given all of them, behind its own code -/
def mm_all : List Cond := lw_tbl.filter goodWord
theorem mm_w {w : Cond} (i : Nat) (h : tables_1[i]? = some w) (g : goodWord w = true) : w ∈ mm_all := List.mem_filter.mpr ⟨List.mem_append_right _ (List.mem_of_getElem? h), g⟩
theorem mm_wc {x w : Cond} (h : w ∈ mm_all) : w ∈ x :: mm_all := List.mem_cons_of_mem _ h
theorem mm_wp (i : Nat) {q : MethodName × Nat} (h : lw_privs[i]? = some q) (g : goodWord (Cond.selects q.1.cls q.1 q.1) = true) : Cond.selects q.1.cls q.1 q.1 ∈ mm_all := List.mem_filter.mpr ⟨List.mem_append_left _ (List.mem_map.mpr ⟨q, List.mem_of_getElem? h, rfl⟩), g⟩
theorem mm_good {w : Cond} (h : w ∈ mm_all) : goodWord w = true := (List.mem_filter.mp h).2
theorem mm_gd {x : Cond} {ws : List Cond} (h : ∀ w ∈ ws, w ∈ mm_all) : GoodIn (x :: mm_all) ws := fun w hw => ⟨List.mem_cons_of_mem _ (h w hw), good_of_word (mm_good (h w hw))⟩
theorem mm_gs {x c : Cond} (hc : c ∈ mm_all) : GoodIn (x :: mm_all) (c :: mm_all) := mm_gd (fun w hw => (List.mem_cons.mp hw).elim (fun e => by rw [e]; exact hc) id)
theorem mm_gV {x c : Cond} {own C : String} {idx : Nat} {y : MethodName} (h1 : Cond.methodLink own idx y ∈ mm_all) (h2 : Cond.instanceMethod y ∈ mm_all) (h3 : Cond.selects C y y ∈ mm_all) (h4 : Cond.initialized C ∈ mm_all) (hc : c ∈ mm_all) : GoodIn (x :: mm_all) (wsV own idx C y (c :: mm_all)) := mm_gd (fun w hw => by
  simp only [wsV, List.cons_append, List.nil_append, List.mem_cons] at hw
  rcases hw with rfl | rfl | rfl | rfl | rfl | hw
  · exact h1
  · exact h2
  · exact h3
  · exact h4
  · exact hc
  · exact hw)
theorem mm_gS {x c : Cond} {own : String} {idx : Nat} {y : MethodName} (h1 : Cond.methodLink own idx y ∈ mm_all) (h2 : Cond.static y ∈ mm_all) (h3 : Cond.initialized y.cls ∈ mm_all) (hc : c ∈ mm_all) : GoodIn (x :: mm_all) (va_wsS own idx y (c :: mm_all)) := mm_gd (fun w hw => by
  simp only [va_wsS, List.cons_append, List.nil_append, List.mem_cons] at hw
  rcases hw with rfl | rfl | rfl | rfl | hw
  · exact h1
  · exact h2
  · exact h3
  · exact hc
  · exact hw)
theorem tw0 : (Jvm.Cond.initialized "IncidentKindsLaw") ∈ mm_all := mm_w 0 rfl rfl
theorem tw1 : (Jvm.Cond.initialized "IncidentKinds") ∈ mm_all := mm_w 1 rfl rfl
theorem tw2 : (Jvm.Cond.initialized "IncidentKinds$Changes") ∈ mm_all := mm_w 2 rfl rfl
theorem tw3 : (Jvm.Cond.initialized "java/util/Arrays") ∈ mm_all := mm_w 3 rfl rfl
theorem tw4 : (Jvm.Cond.initialized "IncidentKinds$Rows") ∈ mm_all := mm_w 4 rfl rfl
theorem tw5 : (Jvm.Cond.initialized "IncidentKindsModel") ∈ mm_all := mm_w 5 rfl rfl
theorem tw6 : (Jvm.Cond.initialized "java/lang/Throwable") ∈ mm_all := mm_w 6 rfl rfl
theorem tw7 : (Jvm.Cond.initialized "java/lang/Exception") ∈ mm_all := mm_w 7 rfl rfl
theorem tw8 : (Jvm.Cond.initialized "java/lang/RuntimeException") ∈ mm_all := mm_w 8 rfl rfl
theorem tw9 : (Jvm.Cond.initialized "java/lang/IllegalArgumentException") ∈ mm_all := mm_w 9 rfl rfl
theorem tw10 : (Jvm.Cond.initialized "java/lang/UnsupportedOperationException") ∈ mm_all := mm_w 10 rfl rfl
theorem tw11 : (Jvm.Cond.initialized "java/lang/IllegalStateException") ∈ mm_all := mm_w 11 rfl rfl
theorem tw12 : (Jvm.Cond.initialized "java/lang/IndexOutOfBoundsException") ∈ mm_all := mm_w 12 rfl rfl
theorem tw13 : (Jvm.Cond.initialized "java/lang/Math") ∈ mm_all := mm_w 13 rfl rfl
theorem tw14 : (Jvm.Cond.classLink "IncidentKindsLaw" (8 : Nat) "IncidentKinds") ∈ mm_all := mm_w 14 rfl rfl
theorem tw15 : (Jvm.Cond.instantiable "IncidentKinds" (12 : Nat)) ∈ mm_all := mm_w 15 rfl rfl
theorem tw16 : (Jvm.Cond.methodLink "IncidentKindsLaw" (78 : Nat) ({ cls := "IncidentKinds", name := "<init>", desc := "()V" } : Jvm.MethodName)) ∈ mm_all := mm_w 16 rfl rfl
theorem tw17 : (Jvm.Cond.instanceMethod ({ cls := "IncidentKinds", name := "<init>", desc := "()V" } : Jvm.MethodName)) ∈ mm_all := mm_w 17 rfl rfl
theorem tw18 : (Jvm.Cond.code ({ cls := "IncidentKinds", name := "<init>", desc := "()V" } : Jvm.MethodName) prog_1_method_1_code (1 : Nat) (Option.none : Option Jvm.ClassFile.FieldType)) ∈ mm_all := mm_w 18 rfl rfl
theorem tw19 : (Jvm.Cond.methodLink "IncidentKinds" (3 : Nat) ({ cls := "java/lang/Object", name := "<init>", desc := "()V" } : Jvm.MethodName)) ∈ mm_all := mm_w 19 rfl rfl
theorem tw20 : (Jvm.Cond.instanceMethod ({ cls := "java/lang/Object", name := "<init>", desc := "()V" } : Jvm.MethodName)) ∈ mm_all := mm_w 20 rfl rfl
theorem tw21 : (Jvm.Cond.code ({ cls := "java/lang/Object", name := "<init>", desc := "()V" } : Jvm.MethodName) object_method_1_code (1 : Nat) (Option.none : Option Jvm.ClassFile.FieldType)) ∈ mm_all := mm_w 21 rfl rfl
theorem tw22 : (Jvm.Cond.classLink "IncidentKinds" (16 : Nat) "IncidentKinds$Changes") ∈ mm_all := mm_w 22 rfl rfl
theorem tw23 : (Jvm.Cond.instantiable "IncidentKinds$Changes" (6 : Nat)) ∈ mm_all := mm_w 23 rfl rfl
theorem tw25 : (Jvm.Cond.instanceMethod ({ cls := "IncidentKinds$Changes", name := "<init>", desc := "()V" } : Jvm.MethodName)) ∈ mm_all := mm_w 25 rfl rfl
theorem tw26 : (Jvm.Cond.code ({ cls := "IncidentKinds$Changes", name := "<init>", desc := "()V" } : Jvm.MethodName) prog_2_method_1_code (1 : Nat) (Option.none : Option Jvm.ClassFile.FieldType)) ∈ mm_all := mm_w 26 rfl rfl
theorem tw27 : (Jvm.Cond.methodLink "IncidentKinds$Changes" (3 : Nat) ({ cls := "java/lang/Object", name := "<init>", desc := "()V" } : Jvm.MethodName)) ∈ mm_all := mm_w 27 rfl rfl
theorem tw28 : (Jvm.Cond.methodLink "IncidentKinds$Changes" (27 : Nat) ({ cls := "java/util/Arrays", name := "fill", desc := "([II)V" } : Jvm.MethodName)) ∈ mm_all := mm_w 28 rfl rfl
theorem tw29 : (Jvm.Cond.static ({ cls := "java/util/Arrays", name := "fill", desc := "([II)V" } : Jvm.MethodName)) ∈ mm_all := mm_w 29 rfl rfl
theorem tw30 : (Jvm.Cond.code ({ cls := "java/util/Arrays", name := "fill", desc := "([II)V" } : Jvm.MethodName) prog_15_method_103_code (4 : Nat) (Option.none : Option Jvm.ClassFile.FieldType)) ∈ mm_all := mm_w 30 rfl rfl
theorem tw31 : (Jvm.Cond.fieldLink "IncidentKinds$Changes" (9 : Nat) "IncidentKinds$Changes" "newest" "[I") ∈ mm_all := mm_w 31 rfl rfl
theorem tw32 : (Jvm.Cond.fieldLink "IncidentKinds$Changes" (15 : Nat) "IncidentKinds$Changes" "toldBefore" "[I") ∈ mm_all := mm_w 32 rfl rfl
theorem tw33 : (Jvm.Cond.fieldLink "IncidentKinds$Changes" (18 : Nat) "IncidentKinds$Changes" "days" "[I") ∈ mm_all := mm_w 33 rfl rfl
theorem tw34 : (Jvm.Cond.fieldLink "IncidentKinds$Changes" (21 : Nat) "IncidentKinds$Changes" "hows" "[I") ∈ mm_all := mm_w 34 rfl rfl
theorem tw36 : (Jvm.Cond.fieldLink "IncidentKinds$Changes" (24 : Nat) "IncidentKinds$Changes" "values" "[I") ∈ mm_all := mm_w 36 rfl rfl
theorem tw38 : (Jvm.Cond.fieldLink "IncidentKinds$Changes" (33 : Nat) "IncidentKinds$Changes" "size" "I") ∈ mm_all := mm_w 38 rfl rfl
theorem tw53 : (Jvm.Cond.arrayClass Jvm.ClassFile.FieldType.int) ∈ mm_all := mm_w 53 rfl rfl
theorem tw54 : (Jvm.Cond.classLink "IncidentKinds" (23 : Nat) "IncidentKinds$Rows") ∈ mm_all := mm_w 54 rfl rfl
theorem tw55 : (Jvm.Cond.instantiable "IncidentKinds$Rows" (3 : Nat)) ∈ mm_all := mm_w 55 rfl rfl
theorem tw57 : (Jvm.Cond.instanceMethod ({ cls := "IncidentKinds$Rows", name := "<init>", desc := "(I)V" } : Jvm.MethodName)) ∈ mm_all := mm_w 57 rfl rfl
theorem tw58 : (Jvm.Cond.code ({ cls := "IncidentKinds$Rows", name := "<init>", desc := "(I)V" } : Jvm.MethodName) prog_3_method_1_code (2 : Nat) (Option.none : Option Jvm.ClassFile.FieldType)) ∈ mm_all := mm_w 58 rfl rfl
theorem tw59 : (Jvm.Cond.methodLink "IncidentKinds$Rows" (3 : Nat) ({ cls := "java/lang/Object", name := "<init>", desc := "()V" } : Jvm.MethodName)) ∈ mm_all := mm_w 59 rfl rfl
theorem tw60 : (Jvm.Cond.methodLink "IncidentKinds$Rows" (19 : Nat) ({ cls := "java/util/Arrays", name := "fill", desc := "([II)V" } : Jvm.MethodName)) ∈ mm_all := mm_w 60 rfl rfl
theorem tw61 : (Jvm.Cond.fieldLink "IncidentKinds$Rows" (9 : Nat) "IncidentKinds$Rows" "columns" "I") ∈ mm_all := mm_w 61 rfl rfl
theorem tw62 : (Jvm.Cond.fieldLink "IncidentKinds$Rows" (15 : Nat) "IncidentKinds$Rows" "targets" "[I") ∈ mm_all := mm_w 62 rfl rfl
theorem tw63 : (Jvm.Cond.fieldLink "IncidentKinds$Rows" (25 : Nat) "IncidentKinds$Rows" "size" "I") ∈ mm_all := mm_w 63 rfl rfl
theorem tw72 : (Jvm.Cond.fieldLink "IncidentKinds" (58 : Nat) "IncidentKinds" "kinds" "I") ∈ mm_all := mm_w 72 rfl rfl
theorem tw73 : (Jvm.Cond.fieldLink "IncidentKinds" (9 : Nat) "IncidentKinds" "parentOf" "[I") ∈ mm_all := mm_w 73 rfl rfl
theorem tw74 : (Jvm.Cond.fieldLink "IncidentKinds" (13 : Nat) "IncidentKinds" "closedFrom" "[I") ∈ mm_all := mm_w 74 rfl rfl
theorem tw75 : (Jvm.Cond.fieldLink "IncidentKinds" (19 : Nat) "IncidentKinds" "changes" "LIncidentKinds$Changes;") ∈ mm_all := mm_w 75 rfl rfl
theorem tw76 : (Jvm.Cond.fieldLink "IncidentKinds" (28 : Nat) "IncidentKinds" "areaRows" "LIncidentKinds$Rows;") ∈ mm_all := mm_w 76 rfl rfl
theorem tw77 : (Jvm.Cond.fieldLink "IncidentKinds" (32 : Nat) "IncidentKinds" "upgradeRows" "LIncidentKinds$Rows;") ∈ mm_all := mm_w 77 rfl rfl
theorem tw78 : (Jvm.Cond.fieldLink "IncidentKinds" (130 : Nat) "IncidentKinds" "incidents" "I") ∈ mm_all := mm_w 78 rfl rfl
theorem tw79 : (Jvm.Cond.fieldLink "IncidentKinds" (35 : Nat) "IncidentKinds" "kindOf" "[I") ∈ mm_all := mm_w 79 rfl rfl
theorem tw80 : (Jvm.Cond.fieldLink "IncidentKinds" (38 : Nat) "IncidentKinds" "areaOf" "[I") ∈ mm_all := mm_w 80 rfl rfl
theorem tw81 : (Jvm.Cond.fieldLink "IncidentKinds" (41 : Nat) "IncidentKinds" "becameAnother" "[I") ∈ mm_all := mm_w 81 rfl rfl
theorem tw82 : (Jvm.Cond.fieldLink "IncidentKinds" (44 : Nat) "IncidentKinds" "sent" "[I") ∈ mm_all := mm_w 82 rfl rfl
theorem tw83 : (Jvm.Cond.fieldLink "IncidentKinds" (47 : Nat) "IncidentKinds" "skillsOf" "[I") ∈ mm_all := mm_w 83 rfl rfl
theorem tw109 : (Jvm.Cond.methodLink "IncidentKindsLaw" (82 : Nat) ({ cls := "IncidentKindsLaw", name := "kind", desc := "(LIncidentKinds;I[J)I" } : Jvm.MethodName)) ∈ mm_all := mm_w 109 rfl rfl
theorem tw110 : (Jvm.Cond.static ({ cls := "IncidentKindsLaw", name := "kind", desc := "(LIncidentKinds;I[J)I" } : Jvm.MethodName)) ∈ mm_all := mm_w 110 rfl rfl
theorem tw111 : (Jvm.Cond.codeWith ({ cls := "IncidentKindsLaw", name := "kind", desc := "(LIncidentKinds;I[J)I" } : Jvm.MethodName) method_3_code (4 : Nat) (Option.some Jvm.ClassFile.FieldType.int) [((0 : Nat), (9 : Nat), (12 : Nat), (13 : Nat)), ((0 : Nat), (9 : Nat), (15 : Nat), (15 : Nat))]) ∈ mm_all := mm_w 111 rfl rfl
theorem tw112 : (Jvm.Cond.classLink "IncidentKindsLaw" (13 : Nat) "java/lang/IllegalArgumentException") ∈ mm_all := mm_w 112 rfl rfl
theorem tw113 : (Jvm.Cond.classLink "IncidentKindsLaw" (15 : Nat) "java/lang/UnsupportedOperationException") ∈ mm_all := mm_w 113 rfl rfl
theorem tw114 : (Jvm.Cond.methodLink "IncidentKindsLaw" (7 : Nat) ({ cls := "IncidentKinds", name := "kind", desc := "(I)I" } : Jvm.MethodName)) ∈ mm_all := mm_w 114 rfl rfl
theorem tw115 : (Jvm.Cond.instanceMethod ({ cls := "IncidentKinds", name := "kind", desc := "(I)I" } : Jvm.MethodName)) ∈ mm_all := mm_w 115 rfl rfl
theorem tw116 : (Jvm.Cond.selects "IncidentKinds" ({ cls := "IncidentKinds", name := "kind", desc := "(I)I" } : Jvm.MethodName) ({ cls := "IncidentKinds", name := "kind", desc := "(I)I" } : Jvm.MethodName)) ∈ mm_all := mm_w 116 rfl rfl
theorem tw117 : (Jvm.Cond.code ({ cls := "IncidentKinds", name := "kind", desc := "(I)I" } : Jvm.MethodName) prog_1_method_2_code (3 : Nat) (Option.some Jvm.ClassFile.FieldType.int)) ∈ mm_all := mm_w 117 rfl rfl
theorem tw118 : (Jvm.Cond.methodLink "IncidentKinds" (50 : Nat) ({ cls := "IncidentKinds", name := "isKindOrNone", desc := "(I)Z" } : Jvm.MethodName)) ∈ mm_all := mm_w 118 rfl rfl
theorem tw120 : (Jvm.Cond.instanceMethod ({ cls := "IncidentKinds", name := "isKindOrNone", desc := "(I)Z" } : Jvm.MethodName)) ∈ mm_all := mm_w 120 rfl rfl
theorem tw121 : (Jvm.Cond.code ({ cls := "IncidentKinds", name := "isKindOrNone", desc := "(I)Z" } : Jvm.MethodName) prog_1_method_25_code (2 : Nat) (Option.some Jvm.ClassFile.FieldType.boolean)) ∈ mm_all := mm_w 121 rfl rfl
theorem tw122 : (Jvm.Cond.methodLink "IncidentKinds" (65 : Nat) ({ cls := "IncidentKinds", name := "isKind", desc := "(I)Z" } : Jvm.MethodName)) ∈ mm_all := mm_w 122 rfl rfl
theorem tw124 : (Jvm.Cond.instanceMethod ({ cls := "IncidentKinds", name := "isKind", desc := "(I)Z" } : Jvm.MethodName)) ∈ mm_all := mm_w 124 rfl rfl
theorem tw125 : (Jvm.Cond.code ({ cls := "IncidentKinds", name := "isKind", desc := "(I)Z" } : Jvm.MethodName) prog_1_method_24_code (2 : Nat) (Option.some Jvm.ClassFile.FieldType.boolean)) ∈ mm_all := mm_w 125 rfl rfl
theorem tw126 : (Jvm.Cond.methodLink "IncidentKinds" (75 : Nat) ({ cls := "IncidentKinds", name := "isBelow", desc := "(II)Z" } : Jvm.MethodName)) ∈ mm_all := mm_w 126 rfl rfl
theorem tw127 : (Jvm.Cond.static ({ cls := "IncidentKinds", name := "isBelow", desc := "(II)Z" } : Jvm.MethodName)) ∈ mm_all := mm_w 127 rfl rfl
theorem tw128 : (Jvm.Cond.code ({ cls := "IncidentKinds", name := "isBelow", desc := "(II)Z" } : Jvm.MethodName) prog_1_method_29_code (2 : Nat) (Option.some Jvm.ClassFile.FieldType.boolean)) ∈ mm_all := mm_w 128 rfl rfl
theorem tw129 : (Jvm.Cond.methodLink "IncidentKinds" (54 : Nat) ({ cls := "IncidentKinds", name := "checkKnown", desc := "(Z)V" } : Jvm.MethodName)) ∈ mm_all := mm_w 129 rfl rfl
theorem tw130 : (Jvm.Cond.static ({ cls := "IncidentKinds", name := "checkKnown", desc := "(Z)V" } : Jvm.MethodName)) ∈ mm_all := mm_w 130 rfl rfl
theorem tw131 : (Jvm.Cond.code ({ cls := "IncidentKinds", name := "checkKnown", desc := "(Z)V" } : Jvm.MethodName) prog_1_method_20_code (1 : Nat) (Option.none : Option Jvm.ClassFile.FieldType)) ∈ mm_all := mm_w 131 rfl rfl
theorem tw132 : (Jvm.Cond.classLink "IncidentKinds" (153 : Nat) "java/lang/IllegalArgumentException") ∈ mm_all := mm_w 132 rfl rfl
theorem tw133 : (Jvm.Cond.instantiable "java/lang/IllegalArgumentException" (6 : Nat)) ∈ mm_all := mm_w 133 rfl rfl
theorem tw141 : (Jvm.Cond.selects "java/lang/IllegalArgumentException" ({ cls := "java/lang/Throwable", name := "fillInStackTrace", desc := "(I)Ljava/lang/Throwable;" } : Jvm.MethodName) ({ cls := "java/lang/Throwable", name := "fillInStackTrace", desc := "(I)Ljava/lang/Throwable;" } : Jvm.MethodName)) ∈ mm_all := mm_w 141 rfl rfl
theorem tw142 : (Jvm.Cond.selects "java/lang/IllegalArgumentException" ({ cls := "java/lang/Throwable", name := "fillInStackTrace", desc := "()Ljava/lang/Throwable;" } : Jvm.MethodName) ({ cls := "java/lang/Throwable", name := "fillInStackTrace", desc := "()Ljava/lang/Throwable;" } : Jvm.MethodName)) ∈ mm_all := mm_w 142 rfl rfl
theorem tw153 : (Jvm.Cond.fieldLink "java/lang/Throwable" (198 : Nat) "java/lang/Throwable" "backtrace" "Ljava/lang/Object;") ∈ mm_all := mm_w 153 rfl rfl
theorem tw155 : (Jvm.Cond.instanceMethod ({ cls := "java/lang/Throwable", name := "<init>", desc := "()V" } : Jvm.MethodName)) ∈ mm_all := mm_w 155 rfl rfl
theorem tw156 : (Jvm.Cond.code ({ cls := "java/lang/Throwable", name := "<init>", desc := "()V" } : Jvm.MethodName) prog_13_method_1_code (1 : Nat) (Option.none : Option Jvm.ClassFile.FieldType)) ∈ mm_all := mm_w 156 rfl rfl
theorem tw157 : (Jvm.Cond.methodLink "java/lang/Throwable" (1 : Nat) ({ cls := "java/lang/Object", name := "<init>", desc := "()V" } : Jvm.MethodName)) ∈ mm_all := mm_w 157 rfl rfl
theorem tw158 : (Jvm.Cond.fieldLink "java/lang/Throwable" (13 : Nat) "java/lang/Throwable" "UNASSIGNED_STACK" "[Ljava/lang/StackTraceElement;") ∈ mm_all := mm_w 158 rfl rfl
theorem tw160 : (Jvm.Cond.fieldLink "java/lang/Throwable" (20 : Nat) "java/lang/Throwable" "SUPPRESSED_SENTINEL" "Ljava/util/List;") ∈ mm_all := mm_w 160 rfl rfl
theorem tw162 : (Jvm.Cond.methodLink "java/lang/Throwable" (27 : Nat) ({ cls := "java/lang/Throwable", name := "fillInStackTrace", desc := "()Ljava/lang/Throwable;" } : Jvm.MethodName)) ∈ mm_all := mm_w 162 rfl rfl
theorem tw163 : (Jvm.Cond.instanceMethod ({ cls := "java/lang/Throwable", name := "fillInStackTrace", desc := "()Ljava/lang/Throwable;" } : Jvm.MethodName)) ∈ mm_all := mm_w 163 rfl rfl
theorem tw165 : (Jvm.Cond.selects "java/lang/IllegalStateException" ({ cls := "java/lang/Throwable", name := "fillInStackTrace", desc := "()Ljava/lang/Throwable;" } : Jvm.MethodName) ({ cls := "java/lang/Throwable", name := "fillInStackTrace", desc := "()Ljava/lang/Throwable;" } : Jvm.MethodName)) ∈ mm_all := mm_w 165 rfl rfl
theorem tw166 : (Jvm.Cond.selects "java/lang/IndexOutOfBoundsException" ({ cls := "java/lang/Throwable", name := "fillInStackTrace", desc := "()Ljava/lang/Throwable;" } : Jvm.MethodName) ({ cls := "java/lang/Throwable", name := "fillInStackTrace", desc := "()Ljava/lang/Throwable;" } : Jvm.MethodName)) ∈ mm_all := mm_w 166 rfl rfl
theorem tw167 : (Jvm.Cond.selects "java/lang/UnsupportedOperationException" ({ cls := "java/lang/Throwable", name := "fillInStackTrace", desc := "()Ljava/lang/Throwable;" } : Jvm.MethodName) ({ cls := "java/lang/Throwable", name := "fillInStackTrace", desc := "()Ljava/lang/Throwable;" } : Jvm.MethodName)) ∈ mm_all := mm_w 167 rfl rfl
theorem tw169 : (Jvm.Cond.methodLink "java/lang/Throwable" (202 : Nat) ({ cls := "java/lang/Throwable", name := "fillInStackTrace", desc := "(I)Ljava/lang/Throwable;" } : Jvm.MethodName)) ∈ mm_all := mm_w 169 rfl rfl
theorem tw171 : (Jvm.Cond.instanceMethod ({ cls := "java/lang/Throwable", name := "fillInStackTrace", desc := "(I)Ljava/lang/Throwable;" } : Jvm.MethodName)) ∈ mm_all := mm_w 171 rfl rfl
theorem tw172 : (Jvm.Cond.instantiable "java/lang/Throwable" (6 : Nat)) ∈ mm_all := mm_w 172 rfl rfl
theorem tw175 : (Jvm.Cond.methodLink "IncidentKinds" (157 : Nat) ({ cls := "java/lang/IllegalArgumentException", name := "<init>", desc := "(Ljava/lang/String;)V" } : Jvm.MethodName)) ∈ mm_all := mm_w 175 rfl rfl
theorem tw176 : (Jvm.Cond.instanceMethod ({ cls := "java/lang/IllegalArgumentException", name := "<init>", desc := "(Ljava/lang/String;)V" } : Jvm.MethodName)) ∈ mm_all := mm_w 176 rfl rfl
theorem tw177 : (Jvm.Cond.code ({ cls := "java/lang/IllegalArgumentException", name := "<init>", desc := "(Ljava/lang/String;)V" } : Jvm.MethodName) prog_7_method_2_code (2 : Nat) (Option.none : Option Jvm.ClassFile.FieldType)) ∈ mm_all := mm_w 177 rfl rfl
theorem tw178 : (Jvm.Cond.methodLink "java/lang/IllegalArgumentException" (7 : Nat) ({ cls := "java/lang/RuntimeException", name := "<init>", desc := "(Ljava/lang/String;)V" } : Jvm.MethodName)) ∈ mm_all := mm_w 178 rfl rfl
theorem tw179 : (Jvm.Cond.instanceMethod ({ cls := "java/lang/RuntimeException", name := "<init>", desc := "(Ljava/lang/String;)V" } : Jvm.MethodName)) ∈ mm_all := mm_w 179 rfl rfl
theorem tw180 : (Jvm.Cond.code ({ cls := "java/lang/RuntimeException", name := "<init>", desc := "(Ljava/lang/String;)V" } : Jvm.MethodName) prog_11_method_2_code (2 : Nat) (Option.none : Option Jvm.ClassFile.FieldType)) ∈ mm_all := mm_w 180 rfl rfl
theorem tw181 : (Jvm.Cond.methodLink "java/lang/RuntimeException" (7 : Nat) ({ cls := "java/lang/Exception", name := "<init>", desc := "(Ljava/lang/String;)V" } : Jvm.MethodName)) ∈ mm_all := mm_w 181 rfl rfl
theorem tw182 : (Jvm.Cond.instanceMethod ({ cls := "java/lang/Exception", name := "<init>", desc := "(Ljava/lang/String;)V" } : Jvm.MethodName)) ∈ mm_all := mm_w 182 rfl rfl
theorem tw183 : (Jvm.Cond.code ({ cls := "java/lang/Exception", name := "<init>", desc := "(Ljava/lang/String;)V" } : Jvm.MethodName) prog_6_method_2_code (2 : Nat) (Option.none : Option Jvm.ClassFile.FieldType)) ∈ mm_all := mm_w 183 rfl rfl
theorem tw184 : (Jvm.Cond.methodLink "java/lang/Exception" (7 : Nat) ({ cls := "java/lang/Throwable", name := "<init>", desc := "(Ljava/lang/String;)V" } : Jvm.MethodName)) ∈ mm_all := mm_w 184 rfl rfl
theorem tw185 : (Jvm.Cond.instanceMethod ({ cls := "java/lang/Throwable", name := "<init>", desc := "(Ljava/lang/String;)V" } : Jvm.MethodName)) ∈ mm_all := mm_w 185 rfl rfl
theorem tw186 : (Jvm.Cond.code ({ cls := "java/lang/Throwable", name := "<init>", desc := "(Ljava/lang/String;)V" } : Jvm.MethodName) prog_13_method_2_code (2 : Nat) (Option.none : Option Jvm.ClassFile.FieldType)) ∈ mm_all := mm_w 186 rfl rfl
theorem tw187 : (Jvm.Cond.fieldLink "java/lang/Throwable" (198 : Nat) "java/lang/Throwable" "backtrace" "Ljava/lang/Object;") ∈ mm_all := mm_w 187 rfl rfl
theorem tw188 : (Jvm.Cond.fieldLink "java/lang/Throwable" (31 : Nat) "java/lang/Throwable" "detailMessage" "Ljava/lang/String;") ∈ mm_all := mm_w 188 rfl rfl
theorem tw189 : (Jvm.Cond.fieldLink "java/lang/Throwable" (7 : Nat) "java/lang/Throwable" "cause" "Ljava/lang/Throwable;") ∈ mm_all := mm_w 189 rfl rfl
theorem tw190 : (Jvm.Cond.fieldLink "java/lang/Throwable" (17 : Nat) "java/lang/Throwable" "stackTrace" "[Ljava/lang/StackTraceElement;") ∈ mm_all := mm_w 190 rfl rfl
theorem tw191 : (Jvm.Cond.fieldLink "java/lang/Throwable" (24 : Nat) "java/lang/Throwable" "suppressedExceptions" "Ljava/util/List;") ∈ mm_all := mm_w 191 rfl rfl
theorem tw200 : (Jvm.Cond.arrayClass Jvm.ClassFile.FieldType.byte) ∈ mm_all := mm_w 200 rfl rfl
theorem tw201 : (Jvm.Cond.methodLink "IncidentKinds" (62 : Nat) ({ cls := "IncidentKinds", name := "checkRoom", desc := "(Z)V" } : Jvm.MethodName)) ∈ mm_all := mm_w 201 rfl rfl
theorem tw202 : (Jvm.Cond.static ({ cls := "IncidentKinds", name := "checkRoom", desc := "(Z)V" } : Jvm.MethodName)) ∈ mm_all := mm_w 202 rfl rfl
theorem tw203 : (Jvm.Cond.code ({ cls := "IncidentKinds", name := "checkRoom", desc := "(Z)V" } : Jvm.MethodName) prog_1_method_23_code (1 : Nat) (Option.none : Option Jvm.ClassFile.FieldType)) ∈ mm_all := mm_w 203 rfl rfl
theorem tw204 : (Jvm.Cond.classLink "IncidentKinds" (170 : Nat) "java/lang/UnsupportedOperationException") ∈ mm_all := mm_w 204 rfl rfl
theorem tw205 : (Jvm.Cond.instantiable "java/lang/UnsupportedOperationException" (6 : Nat)) ∈ mm_all := mm_w 205 rfl rfl
theorem tw207 : (Jvm.Cond.selects "java/lang/UnsupportedOperationException" ({ cls := "java/lang/Throwable", name := "fillInStackTrace", desc := "(I)Ljava/lang/Throwable;" } : Jvm.MethodName) ({ cls := "java/lang/Throwable", name := "fillInStackTrace", desc := "(I)Ljava/lang/Throwable;" } : Jvm.MethodName)) ∈ mm_all := mm_w 207 rfl rfl
theorem tw214 : (Jvm.Cond.methodLink "IncidentKinds" (174 : Nat) ({ cls := "java/lang/UnsupportedOperationException", name := "<init>", desc := "(Ljava/lang/String;)V" } : Jvm.MethodName)) ∈ mm_all := mm_w 214 rfl rfl
theorem tw215 : (Jvm.Cond.instanceMethod ({ cls := "java/lang/UnsupportedOperationException", name := "<init>", desc := "(Ljava/lang/String;)V" } : Jvm.MethodName)) ∈ mm_all := mm_w 215 rfl rfl
theorem tw216 : (Jvm.Cond.code ({ cls := "java/lang/UnsupportedOperationException", name := "<init>", desc := "(Ljava/lang/String;)V" } : Jvm.MethodName) prog_14_method_2_code (2 : Nat) (Option.none : Option Jvm.ClassFile.FieldType)) ∈ mm_all := mm_w 216 rfl rfl
theorem tw217 : (Jvm.Cond.methodLink "java/lang/UnsupportedOperationException" (7 : Nat) ({ cls := "java/lang/RuntimeException", name := "<init>", desc := "(Ljava/lang/String;)V" } : Jvm.MethodName)) ∈ mm_all := mm_w 217 rfl rfl
theorem tw220 : (Jvm.Cond.methodLink "IncidentKindsLaw" (92 : Nat) ({ cls := "IncidentKindsLaw", name := "parent", desc := "(LIncidentKinds;II)I" } : Jvm.MethodName)) ∈ mm_all := mm_w 220 rfl rfl
theorem tw221 : (Jvm.Cond.static ({ cls := "IncidentKindsLaw", name := "parent", desc := "(LIncidentKinds;II)I" } : Jvm.MethodName)) ∈ mm_all := mm_w 221 rfl rfl
theorem tw222 : (Jvm.Cond.codeWith ({ cls := "IncidentKindsLaw", name := "parent", desc := "(LIncidentKinds;II)I" } : Jvm.MethodName) method_4_code (4 : Nat) (Option.some Jvm.ClassFile.FieldType.int) [((0 : Nat), (6 : Nat), (9 : Nat), (13 : Nat)), ((0 : Nat), (6 : Nat), (12 : Nat), (21 : Nat))]) ∈ mm_all := mm_w 222 rfl rfl
theorem tw223 : (Jvm.Cond.classLink "IncidentKindsLaw" (21 : Nat) "java/lang/IllegalStateException") ∈ mm_all := mm_w 223 rfl rfl
theorem tw224 : (Jvm.Cond.methodLink "IncidentKindsLaw" (17 : Nat) ({ cls := "IncidentKinds", name := "parent", desc := "(II)V" } : Jvm.MethodName)) ∈ mm_all := mm_w 224 rfl rfl
theorem tw225 : (Jvm.Cond.instanceMethod ({ cls := "IncidentKinds", name := "parent", desc := "(II)V" } : Jvm.MethodName)) ∈ mm_all := mm_w 225 rfl rfl
theorem tw226 : (Jvm.Cond.selects "IncidentKinds" ({ cls := "IncidentKinds", name := "parent", desc := "(II)V" } : Jvm.MethodName) ({ cls := "IncidentKinds", name := "parent", desc := "(II)V" } : Jvm.MethodName)) ∈ mm_all := mm_w 226 rfl rfl
theorem tw227 : (Jvm.Cond.code ({ cls := "IncidentKinds", name := "parent", desc := "(II)V" } : Jvm.MethodName) prog_1_method_3_code (3 : Nat) (Option.none : Option Jvm.ClassFile.FieldType)) ∈ mm_all := mm_w 227 rfl rfl
theorem tw228 : (Jvm.Cond.methodLink "IncidentKinds" (68 : Nat) ({ cls := "IncidentKinds", name := "isSameOrAbove", desc := "(II)Z" } : Jvm.MethodName)) ∈ mm_all := mm_w 228 rfl rfl
theorem tw230 : (Jvm.Cond.instanceMethod ({ cls := "IncidentKinds", name := "isSameOrAbove", desc := "(II)Z" } : Jvm.MethodName)) ∈ mm_all := mm_w 230 rfl rfl
theorem tw231 : (Jvm.Cond.code ({ cls := "IncidentKinds", name := "isSameOrAbove", desc := "(II)Z" } : Jvm.MethodName) prog_1_method_30_code (5 : Nat) (Option.some Jvm.ClassFile.FieldType.boolean)) ∈ mm_all := mm_w 231 rfl rfl
theorem tw232 : (Jvm.Cond.methodLink "IncidentKinds" (72 : Nat) ({ cls := "IncidentKinds", name := "checkState", desc := "(Z)V" } : Jvm.MethodName)) ∈ mm_all := mm_w 232 rfl rfl
theorem tw233 : (Jvm.Cond.static ({ cls := "IncidentKinds", name := "checkState", desc := "(Z)V" } : Jvm.MethodName)) ∈ mm_all := mm_w 233 rfl rfl
theorem tw234 : (Jvm.Cond.code ({ cls := "IncidentKinds", name := "checkState", desc := "(Z)V" } : Jvm.MethodName) prog_1_method_22_code (1 : Nat) (Option.none : Option Jvm.ClassFile.FieldType)) ∈ mm_all := mm_w 234 rfl rfl
theorem tw235 : (Jvm.Cond.classLink "IncidentKinds" (165 : Nat) "java/lang/IllegalStateException") ∈ mm_all := mm_w 235 rfl rfl
theorem tw236 : (Jvm.Cond.instantiable "java/lang/IllegalStateException" (6 : Nat)) ∈ mm_all := mm_w 236 rfl rfl
theorem tw238 : (Jvm.Cond.selects "java/lang/IllegalStateException" ({ cls := "java/lang/Throwable", name := "fillInStackTrace", desc := "(I)Ljava/lang/Throwable;" } : Jvm.MethodName) ({ cls := "java/lang/Throwable", name := "fillInStackTrace", desc := "(I)Ljava/lang/Throwable;" } : Jvm.MethodName)) ∈ mm_all := mm_w 238 rfl rfl
theorem tw245 : (Jvm.Cond.methodLink "IncidentKinds" (169 : Nat) ({ cls := "java/lang/IllegalStateException", name := "<init>", desc := "(Ljava/lang/String;)V" } : Jvm.MethodName)) ∈ mm_all := mm_w 245 rfl rfl
theorem tw246 : (Jvm.Cond.instanceMethod ({ cls := "java/lang/IllegalStateException", name := "<init>", desc := "(Ljava/lang/String;)V" } : Jvm.MethodName)) ∈ mm_all := mm_w 246 rfl rfl
theorem tw247 : (Jvm.Cond.code ({ cls := "java/lang/IllegalStateException", name := "<init>", desc := "(Ljava/lang/String;)V" } : Jvm.MethodName) prog_8_method_2_code (2 : Nat) (Option.none : Option Jvm.ClassFile.FieldType)) ∈ mm_all := mm_w 247 rfl rfl
theorem tw248 : (Jvm.Cond.methodLink "java/lang/IllegalStateException" (7 : Nat) ({ cls := "java/lang/RuntimeException", name := "<init>", desc := "(Ljava/lang/String;)V" } : Jvm.MethodName)) ∈ mm_all := mm_w 248 rfl rfl
theorem tw251 : (Jvm.Cond.methodLink "IncidentKindsLaw" (96 : Nat) ({ cls := "IncidentKindsLaw", name := "says", desc := "(LIncidentKinds;IIII)I" } : Jvm.MethodName)) ∈ mm_all := mm_w 251 rfl rfl
theorem tw252 : (Jvm.Cond.static ({ cls := "IncidentKindsLaw", name := "says", desc := "(LIncidentKinds;IIII)I" } : Jvm.MethodName)) ∈ mm_all := mm_w 252 rfl rfl
theorem tw253 : (Jvm.Cond.codeWith ({ cls := "IncidentKindsLaw", name := "says", desc := "(LIncidentKinds;IIII)I" } : Jvm.MethodName) method_5_code (6 : Nat) (Option.some Jvm.ClassFile.FieldType.int) [((0 : Nat), (9 : Nat), (12 : Nat), (13 : Nat)), ((0 : Nat), (9 : Nat), (16 : Nat), (27 : Nat)), ((0 : Nat), (9 : Nat), (20 : Nat), (15 : Nat))]) ∈ mm_all := mm_w 253 rfl rfl
theorem tw254 : (Jvm.Cond.classLink "IncidentKindsLaw" (27 : Nat) "java/lang/IndexOutOfBoundsException") ∈ mm_all := mm_w 254 rfl rfl
theorem tw255 : (Jvm.Cond.methodLink "IncidentKindsLaw" (23 : Nat) ({ cls := "IncidentKinds", name := "says", desc := "(IIII)V" } : Jvm.MethodName)) ∈ mm_all := mm_w 255 rfl rfl
theorem tw256 : (Jvm.Cond.instanceMethod ({ cls := "IncidentKinds", name := "says", desc := "(IIII)V" } : Jvm.MethodName)) ∈ mm_all := mm_w 256 rfl rfl
theorem tw257 : (Jvm.Cond.selects "IncidentKinds" ({ cls := "IncidentKinds", name := "says", desc := "(IIII)V" } : Jvm.MethodName) ({ cls := "IncidentKinds", name := "says", desc := "(IIII)V" } : Jvm.MethodName)) ∈ mm_all := mm_w 257 rfl rfl
theorem tw258 : (Jvm.Cond.code ({ cls := "IncidentKinds", name := "says", desc := "(IIII)V" } : Jvm.MethodName) prog_1_method_4_code (5 : Nat) (Option.none : Option Jvm.ClassFile.FieldType)) ∈ mm_all := mm_w 258 rfl rfl
theorem tw259 : (Jvm.Cond.methodLink "IncidentKinds" (78 : Nat) ({ cls := "IncidentKinds", name := "isDay", desc := "(I)Z" } : Jvm.MethodName)) ∈ mm_all := mm_w 259 rfl rfl
theorem tw260 : (Jvm.Cond.static ({ cls := "IncidentKinds", name := "isDay", desc := "(I)Z" } : Jvm.MethodName)) ∈ mm_all := mm_w 260 rfl rfl
theorem tw261 : (Jvm.Cond.code ({ cls := "IncidentKinds", name := "isDay", desc := "(I)Z" } : Jvm.MethodName) prog_1_method_27_code (1 : Nat) (Option.some Jvm.ClassFile.FieldType.boolean)) ∈ mm_all := mm_w 261 rfl rfl
theorem tw262 : (Jvm.Cond.fieldLink "IncidentKinds" (81 : Nat) "IncidentKinds" "GREATEST_WORD" "[I") ∈ mm_all := mm_w 262 rfl rfl
theorem tw264 : (Jvm.Cond.methodLink "IncidentKinds" (84 : Nat) ({ cls := "IncidentKinds", name := "checkRange", desc := "(Z)V" } : Jvm.MethodName)) ∈ mm_all := mm_w 264 rfl rfl
theorem tw265 : (Jvm.Cond.static ({ cls := "IncidentKinds", name := "checkRange", desc := "(Z)V" } : Jvm.MethodName)) ∈ mm_all := mm_w 265 rfl rfl
theorem tw266 : (Jvm.Cond.code ({ cls := "IncidentKinds", name := "checkRange", desc := "(Z)V" } : Jvm.MethodName) prog_1_method_21_code (1 : Nat) (Option.none : Option Jvm.ClassFile.FieldType)) ∈ mm_all := mm_w 266 rfl rfl
theorem tw267 : (Jvm.Cond.classLink "IncidentKinds" (160 : Nat) "java/lang/IndexOutOfBoundsException") ∈ mm_all := mm_w 267 rfl rfl
theorem tw268 : (Jvm.Cond.instantiable "java/lang/IndexOutOfBoundsException" (6 : Nat)) ∈ mm_all := mm_w 268 rfl rfl
theorem tw270 : (Jvm.Cond.selects "java/lang/IndexOutOfBoundsException" ({ cls := "java/lang/Throwable", name := "fillInStackTrace", desc := "(I)Ljava/lang/Throwable;" } : Jvm.MethodName) ({ cls := "java/lang/Throwable", name := "fillInStackTrace", desc := "(I)Ljava/lang/Throwable;" } : Jvm.MethodName)) ∈ mm_all := mm_w 270 rfl rfl
theorem tw277 : (Jvm.Cond.methodLink "IncidentKinds" (164 : Nat) ({ cls := "java/lang/IndexOutOfBoundsException", name := "<init>", desc := "(Ljava/lang/String;)V" } : Jvm.MethodName)) ∈ mm_all := mm_w 277 rfl rfl
theorem tw278 : (Jvm.Cond.instanceMethod ({ cls := "java/lang/IndexOutOfBoundsException", name := "<init>", desc := "(Ljava/lang/String;)V" } : Jvm.MethodName)) ∈ mm_all := mm_w 278 rfl rfl
theorem tw279 : (Jvm.Cond.code ({ cls := "java/lang/IndexOutOfBoundsException", name := "<init>", desc := "(Ljava/lang/String;)V" } : Jvm.MethodName) prog_9_method_2_code (2 : Nat) (Option.none : Option Jvm.ClassFile.FieldType)) ∈ mm_all := mm_w 279 rfl rfl
theorem tw280 : (Jvm.Cond.methodLink "java/lang/IndexOutOfBoundsException" (7 : Nat) ({ cls := "java/lang/RuntimeException", name := "<init>", desc := "(Ljava/lang/String;)V" } : Jvm.MethodName)) ∈ mm_all := mm_w 280 rfl rfl
theorem tw285 : (Jvm.Cond.instanceMethod ({ cls := "IncidentKinds$Changes", name := "hasRoom", desc := "()Z" } : Jvm.MethodName)) ∈ mm_all := mm_w 285 rfl rfl
theorem tw286 : (Jvm.Cond.code ({ cls := "IncidentKinds$Changes", name := "hasRoom", desc := "()Z" } : Jvm.MethodName) prog_2_method_2_code (1 : Nat) (Option.some Jvm.ClassFile.FieldType.boolean)) ∈ mm_all := mm_w 286 rfl rfl
theorem tw289 : (Jvm.Cond.instanceMethod ({ cls := "IncidentKinds$Changes", name := "tell", desc := "(IIIII)V" } : Jvm.MethodName)) ∈ mm_all := mm_w 289 rfl rfl
theorem tw290 : (Jvm.Cond.code ({ cls := "IncidentKinds$Changes", name := "tell", desc := "(IIIII)V" } : Jvm.MethodName) prog_2_method_3_code (7 : Nat) (Option.none : Option Jvm.ClassFile.FieldType)) ∈ mm_all := mm_w 290 rfl rfl
theorem tw291 : (Jvm.Cond.methodLink "IncidentKindsLaw" (100 : Nat) ({ cls := "IncidentKindsLaw", name := "need", desc := "(LIncidentKinds;IIIII)I" } : Jvm.MethodName)) ∈ mm_all := mm_w 291 rfl rfl
theorem tw292 : (Jvm.Cond.static ({ cls := "IncidentKindsLaw", name := "need", desc := "(LIncidentKinds;IIIII)I" } : Jvm.MethodName)) ∈ mm_all := mm_w 292 rfl rfl
theorem tw293 : (Jvm.Cond.codeWith ({ cls := "IncidentKindsLaw", name := "need", desc := "(LIncidentKinds;IIIII)I" } : Jvm.MethodName) method_6_code (7 : Nat) (Option.some Jvm.ClassFile.FieldType.int) [((0 : Nat), (11 : Nat), (14 : Nat), (13 : Nat)), ((0 : Nat), (11 : Nat), (18 : Nat), (27 : Nat)), ((0 : Nat), (11 : Nat), (22 : Nat), (15 : Nat))]) ∈ mm_all := mm_w 293 rfl rfl
theorem tw294 : (Jvm.Cond.methodLink "IncidentKindsLaw" (29 : Nat) ({ cls := "IncidentKinds", name := "need", desc := "(IIIII)V" } : Jvm.MethodName)) ∈ mm_all := mm_w 294 rfl rfl
theorem tw295 : (Jvm.Cond.instanceMethod ({ cls := "IncidentKinds", name := "need", desc := "(IIIII)V" } : Jvm.MethodName)) ∈ mm_all := mm_w 295 rfl rfl
theorem tw296 : (Jvm.Cond.selects "IncidentKinds" ({ cls := "IncidentKinds", name := "need", desc := "(IIIII)V" } : Jvm.MethodName) ({ cls := "IncidentKinds", name := "need", desc := "(IIIII)V" } : Jvm.MethodName)) ∈ mm_all := mm_w 296 rfl rfl
theorem tw297 : (Jvm.Cond.code ({ cls := "IncidentKinds", name := "need", desc := "(IIIII)V" } : Jvm.MethodName) prog_1_method_5_code (6 : Nat) (Option.none : Option Jvm.ClassFile.FieldType)) ∈ mm_all := mm_w 297 rfl rfl
theorem tw298 : (Jvm.Cond.methodLink "IncidentKindsLaw" (104 : Nat) ({ cls := "IncidentKindsLaw", name := "close", desc := "(LIncidentKinds;II)I" } : Jvm.MethodName)) ∈ mm_all := mm_w 298 rfl rfl
theorem tw299 : (Jvm.Cond.static ({ cls := "IncidentKindsLaw", name := "close", desc := "(LIncidentKinds;II)I" } : Jvm.MethodName)) ∈ mm_all := mm_w 299 rfl rfl
theorem tw300 : (Jvm.Cond.codeWith ({ cls := "IncidentKindsLaw", name := "close", desc := "(LIncidentKinds;II)I" } : Jvm.MethodName) method_7_code (4 : Nat) (Option.some Jvm.ClassFile.FieldType.int) [((0 : Nat), (6 : Nat), (9 : Nat), (13 : Nat)), ((0 : Nat), (6 : Nat), (12 : Nat), (27 : Nat))]) ∈ mm_all := mm_w 300 rfl rfl
theorem tw301 : (Jvm.Cond.methodLink "IncidentKindsLaw" (33 : Nat) ({ cls := "IncidentKinds", name := "close", desc := "(II)V" } : Jvm.MethodName)) ∈ mm_all := mm_w 301 rfl rfl
theorem tw302 : (Jvm.Cond.instanceMethod ({ cls := "IncidentKinds", name := "close", desc := "(II)V" } : Jvm.MethodName)) ∈ mm_all := mm_w 302 rfl rfl
theorem tw303 : (Jvm.Cond.selects "IncidentKinds" ({ cls := "IncidentKinds", name := "close", desc := "(II)V" } : Jvm.MethodName) ({ cls := "IncidentKinds", name := "close", desc := "(II)V" } : Jvm.MethodName)) ∈ mm_all := mm_w 303 rfl rfl
theorem tw304 : (Jvm.Cond.code ({ cls := "IncidentKinds", name := "close", desc := "(II)V" } : Jvm.MethodName) prog_1_method_6_code (3 : Nat) (Option.none : Option Jvm.ClassFile.FieldType)) ∈ mm_all := mm_w 304 rfl rfl
theorem tw305 : (Jvm.Cond.methodLink "IncidentKindsLaw" (107 : Nat) ({ cls := "IncidentKindsLaw", name := "area", desc := "(LIncidentKinds;III)I" } : Jvm.MethodName)) ∈ mm_all := mm_w 305 rfl rfl
theorem tw306 : (Jvm.Cond.static ({ cls := "IncidentKindsLaw", name := "area", desc := "(LIncidentKinds;III)I" } : Jvm.MethodName)) ∈ mm_all := mm_w 306 rfl rfl
theorem tw307 : (Jvm.Cond.codeWith ({ cls := "IncidentKindsLaw", name := "area", desc := "(LIncidentKinds;III)I" } : Jvm.MethodName) method_8_code (5 : Nat) (Option.some Jvm.ClassFile.FieldType.int) [((0 : Nat), (7 : Nat), (10 : Nat), (13 : Nat)), ((0 : Nat), (7 : Nat), (14 : Nat), (27 : Nat)), ((0 : Nat), (7 : Nat), (18 : Nat), (21 : Nat))]) ∈ mm_all := mm_w 307 rfl rfl
theorem tw308 : (Jvm.Cond.methodLink "IncidentKindsLaw" (36 : Nat) ({ cls := "IncidentKinds", name := "area", desc := "(III)V" } : Jvm.MethodName)) ∈ mm_all := mm_w 308 rfl rfl
theorem tw309 : (Jvm.Cond.instanceMethod ({ cls := "IncidentKinds", name := "area", desc := "(III)V" } : Jvm.MethodName)) ∈ mm_all := mm_w 309 rfl rfl
theorem tw310 : (Jvm.Cond.selects "IncidentKinds" ({ cls := "IncidentKinds", name := "area", desc := "(III)V" } : Jvm.MethodName) ({ cls := "IncidentKinds", name := "area", desc := "(III)V" } : Jvm.MethodName)) ∈ mm_all := mm_w 310 rfl rfl
theorem tw311 : (Jvm.Cond.code ({ cls := "IncidentKinds", name := "area", desc := "(III)V" } : Jvm.MethodName) prog_1_method_7_code (4 : Nat) (Option.none : Option Jvm.ClassFile.FieldType)) ∈ mm_all := mm_w 311 rfl rfl
theorem tw312 : (Jvm.Cond.methodLink "IncidentKinds" (95 : Nat) ({ cls := "IncidentKinds", name := "leadsTo", desc := "(III)Z" } : Jvm.MethodName)) ∈ mm_all := mm_w 312 rfl rfl
theorem tw314 : (Jvm.Cond.instanceMethod ({ cls := "IncidentKinds", name := "leadsTo", desc := "(III)Z" } : Jvm.MethodName)) ∈ mm_all := mm_w 314 rfl rfl
theorem tw315 : (Jvm.Cond.code ({ cls := "IncidentKinds", name := "leadsTo", desc := "(III)Z" } : Jvm.MethodName) prog_1_method_37_code (6 : Nat) (Option.some Jvm.ClassFile.FieldType.boolean)) ∈ mm_all := mm_w 315 rfl rfl
theorem tw318 : (Jvm.Cond.instanceMethod ({ cls := "IncidentKinds$Rows", name := "target", desc := "(II)I" } : Jvm.MethodName)) ∈ mm_all := mm_w 318 rfl rfl
theorem tw319 : (Jvm.Cond.code ({ cls := "IncidentKinds$Rows", name := "target", desc := "(II)I" } : Jvm.MethodName) prog_3_method_2_code (3 : Nat) (Option.some Jvm.ClassFile.FieldType.int)) ∈ mm_all := mm_w 319 rfl rfl
theorem tw322 : (Jvm.Cond.instanceMethod ({ cls := "IncidentKinds$Rows", name := "put", desc := "(III)V" } : Jvm.MethodName)) ∈ mm_all := mm_w 322 rfl rfl
theorem tw323 : (Jvm.Cond.code ({ cls := "IncidentKinds$Rows", name := "put", desc := "(III)V" } : Jvm.MethodName) prog_3_method_3_code (5 : Nat) (Option.none : Option Jvm.ClassFile.FieldType)) ∈ mm_all := mm_w 323 rfl rfl
theorem tw324 : (Jvm.Cond.methodLink "IncidentKindsLaw" (111 : Nat) ({ cls := "IncidentKindsLaw", name := "upgrade", desc := "(LIncidentKinds;III)I" } : Jvm.MethodName)) ∈ mm_all := mm_w 324 rfl rfl
theorem tw325 : (Jvm.Cond.static ({ cls := "IncidentKindsLaw", name := "upgrade", desc := "(LIncidentKinds;III)I" } : Jvm.MethodName)) ∈ mm_all := mm_w 325 rfl rfl
theorem tw326 : (Jvm.Cond.codeWith ({ cls := "IncidentKindsLaw", name := "upgrade", desc := "(LIncidentKinds;III)I" } : Jvm.MethodName) method_9_code (5 : Nat) (Option.some Jvm.ClassFile.FieldType.int) [((0 : Nat), (7 : Nat), (10 : Nat), (13 : Nat)), ((0 : Nat), (7 : Nat), (14 : Nat), (27 : Nat)), ((0 : Nat), (7 : Nat), (18 : Nat), (21 : Nat)), ((0 : Nat), (7 : Nat), (22 : Nat), (15 : Nat))]) ∈ mm_all := mm_w 326 rfl rfl
theorem tw327 : (Jvm.Cond.methodLink "IncidentKindsLaw" (40 : Nat) ({ cls := "IncidentKinds", name := "upgrade", desc := "(III)V" } : Jvm.MethodName)) ∈ mm_all := mm_w 327 rfl rfl
theorem tw328 : (Jvm.Cond.instanceMethod ({ cls := "IncidentKinds", name := "upgrade", desc := "(III)V" } : Jvm.MethodName)) ∈ mm_all := mm_w 328 rfl rfl
theorem tw329 : (Jvm.Cond.selects "IncidentKinds" ({ cls := "IncidentKinds", name := "upgrade", desc := "(III)V" } : Jvm.MethodName) ({ cls := "IncidentKinds", name := "upgrade", desc := "(III)V" } : Jvm.MethodName)) ∈ mm_all := mm_w 329 rfl rfl
theorem tw330 : (Jvm.Cond.code ({ cls := "IncidentKinds", name := "upgrade", desc := "(III)V" } : Jvm.MethodName) prog_1_method_8_code (4 : Nat) (Option.none : Option Jvm.ClassFile.FieldType)) ∈ mm_all := mm_w 330 rfl rfl
theorem tw331 : (Jvm.Cond.methodLink "IncidentKindsLaw" (114 : Nat) ({ cls := "IncidentKindsLaw", name := "has", desc := "(LIncidentKinds;III[J)I" } : Jvm.MethodName)) ∈ mm_all := mm_w 331 rfl rfl
theorem tw332 : (Jvm.Cond.static ({ cls := "IncidentKindsLaw", name := "has", desc := "(LIncidentKinds;III[J)I" } : Jvm.MethodName)) ∈ mm_all := mm_w 332 rfl rfl
theorem tw333 : (Jvm.Cond.codeWith ({ cls := "IncidentKindsLaw", name := "has", desc := "(LIncidentKinds;III[J)I" } : Jvm.MethodName) method_10_code (6 : Nat) (Option.some Jvm.ClassFile.FieldType.int) [((0 : Nat), (12 : Nat), (15 : Nat), (13 : Nat)), ((0 : Nat), (12 : Nat), (19 : Nat), (27 : Nat))]) ∈ mm_all := mm_w 333 rfl rfl
theorem tw334 : (Jvm.Cond.methodLink "IncidentKindsLaw" (43 : Nat) ({ cls := "IncidentKinds", name := "has", desc := "(III)I" } : Jvm.MethodName)) ∈ mm_all := mm_w 334 rfl rfl
theorem tw335 : (Jvm.Cond.instanceMethod ({ cls := "IncidentKinds", name := "has", desc := "(III)I" } : Jvm.MethodName)) ∈ mm_all := mm_w 335 rfl rfl
theorem tw336 : (Jvm.Cond.selects "IncidentKinds" ({ cls := "IncidentKinds", name := "has", desc := "(III)I" } : Jvm.MethodName) ({ cls := "IncidentKinds", name := "has", desc := "(III)I" } : Jvm.MethodName)) ∈ mm_all := mm_w 336 rfl rfl
theorem tw337 : (Jvm.Cond.code ({ cls := "IncidentKinds", name := "has", desc := "(III)I" } : Jvm.MethodName) prog_1_method_9_code (4 : Nat) (Option.some Jvm.ClassFile.FieldType.int)) ∈ mm_all := mm_w 337 rfl rfl
theorem tw338 : (Jvm.Cond.methodLink "IncidentKinds" (110 : Nat) ({ cls := "IncidentKinds", name := "isNeed", desc := "(I)Z" } : Jvm.MethodName)) ∈ mm_all := mm_w 338 rfl rfl
theorem tw339 : (Jvm.Cond.static ({ cls := "IncidentKinds", name := "isNeed", desc := "(I)Z" } : Jvm.MethodName)) ∈ mm_all := mm_w 339 rfl rfl
theorem tw340 : (Jvm.Cond.code ({ cls := "IncidentKinds", name := "isNeed", desc := "(I)Z" } : Jvm.MethodName) prog_1_method_28_code (1 : Nat) (Option.some Jvm.ClassFile.FieldType.boolean)) ∈ mm_all := mm_w 340 rfl rfl
theorem tw341 : (Jvm.Cond.methodLink "IncidentKinds" (113 : Nat) ({ cls := "IncidentKinds", name := "isClosed", desc := "(II)Z" } : Jvm.MethodName)) ∈ mm_all := mm_w 341 rfl rfl
theorem tw343 : (Jvm.Cond.instanceMethod ({ cls := "IncidentKinds", name := "isClosed", desc := "(II)Z" } : Jvm.MethodName)) ∈ mm_all := mm_w 343 rfl rfl
theorem tw344 : (Jvm.Cond.code ({ cls := "IncidentKinds", name := "isClosed", desc := "(II)Z" } : Jvm.MethodName) prog_1_method_32_code (5 : Nat) (Option.some Jvm.ClassFile.FieldType.boolean)) ∈ mm_all := mm_w 344 rfl rfl
theorem tw345 : (Jvm.Cond.methodLink "IncidentKinds" (116 : Nat) ({ cls := "IncidentKinds", name := "depth", desc := "(I)I" } : Jvm.MethodName)) ∈ mm_all := mm_w 345 rfl rfl
theorem tw347 : (Jvm.Cond.instanceMethod ({ cls := "IncidentKinds", name := "depth", desc := "(I)I" } : Jvm.MethodName)) ∈ mm_all := mm_w 347 rfl rfl
theorem tw348 : (Jvm.Cond.code ({ cls := "IncidentKinds", name := "depth", desc := "(I)I" } : Jvm.MethodName) prog_1_method_31_code (5 : Nat) (Option.some Jvm.ClassFile.FieldType.int)) ∈ mm_all := mm_w 348 rfl rfl
theorem tw349 : (Jvm.Cond.methodLink "IncidentKinds" (120 : Nat) ({ cls := "IncidentKinds", name := "wordOf", desc := "(III)I" } : Jvm.MethodName)) ∈ mm_all := mm_w 349 rfl rfl
theorem tw351 : (Jvm.Cond.instanceMethod ({ cls := "IncidentKinds", name := "wordOf", desc := "(III)I" } : Jvm.MethodName)) ∈ mm_all := mm_w 351 rfl rfl
theorem tw352 : (Jvm.Cond.code ({ cls := "IncidentKinds", name := "wordOf", desc := "(III)I" } : Jvm.MethodName) prog_1_method_33_code (4 : Nat) (Option.some Jvm.ClassFile.FieldType.int)) ∈ mm_all := mm_w 352 rfl rfl
theorem tw353 : (Jvm.Cond.fieldLink "IncidentKinds" (175 : Nat) "IncidentKinds" "WORD_WHEN_NOBODY_SAYS_IT" "[I") ∈ mm_all := mm_w 353 rfl rfl
theorem tw355 : (Jvm.Cond.methodLink "IncidentKinds" (178 : Nat) ({ cls := "IncidentKinds", name := "inherited", desc := "(IIII)I" } : Jvm.MethodName)) ∈ mm_all := mm_w 355 rfl rfl
theorem tw357 : (Jvm.Cond.instanceMethod ({ cls := "IncidentKinds", name := "inherited", desc := "(IIII)I" } : Jvm.MethodName)) ∈ mm_all := mm_w 357 rfl rfl
theorem tw358 : (Jvm.Cond.code ({ cls := "IncidentKinds", name := "inherited", desc := "(IIII)I" } : Jvm.MethodName) prog_1_method_35_code (9 : Nat) (Option.some Jvm.ClassFile.FieldType.int)) ∈ mm_all := mm_w 358 rfl rfl
theorem tw361 : (Jvm.Cond.instanceMethod ({ cls := "IncidentKinds$Changes", name := "latest", desc := "(III)I" } : Jvm.MethodName)) ∈ mm_all := mm_w 361 rfl rfl
theorem tw362 : (Jvm.Cond.code ({ cls := "IncidentKinds$Changes", name := "latest", desc := "(III)I" } : Jvm.MethodName) prog_2_method_4_code (7 : Nat) (Option.some Jvm.ClassFile.FieldType.int)) ∈ mm_all := mm_w 362 rfl rfl
theorem tw363 : (Jvm.Cond.methodLink "IncidentKinds" (139 : Nat) ({ cls := "java/lang/Math", name := "max", desc := "(II)I" } : Jvm.MethodName)) ∈ mm_all := mm_w 363 rfl rfl
theorem tw364 : (Jvm.Cond.static ({ cls := "java/lang/Math", name := "max", desc := "(II)I" } : Jvm.MethodName)) ∈ mm_all := mm_w 364 rfl rfl
theorem tw365 : (Jvm.Cond.code ({ cls := "java/lang/Math", name := "max", desc := "(II)I" } : Jvm.MethodName) prog_10_method_65_code (2 : Nat) (Option.some Jvm.ClassFile.FieldType.int)) ∈ mm_all := mm_w 365 rfl rfl
theorem tw366 : (Jvm.Cond.methodLink "IncidentKinds" (124 : Nat) ({ cls := "IncidentKinds", name := "needOf", desc := "(III)I" } : Jvm.MethodName)) ∈ mm_all := mm_w 366 rfl rfl
theorem tw368 : (Jvm.Cond.instanceMethod ({ cls := "IncidentKinds", name := "needOf", desc := "(III)I" } : Jvm.MethodName)) ∈ mm_all := mm_w 368 rfl rfl
theorem tw369 : (Jvm.Cond.code ({ cls := "IncidentKinds", name := "needOf", desc := "(III)I" } : Jvm.MethodName) prog_1_method_34_code (4 : Nat) (Option.some Jvm.ClassFile.FieldType.int)) ∈ mm_all := mm_w 369 rfl rfl
theorem tw370 : (Jvm.Cond.methodLink "IncidentKindsLaw" (118 : Nat) ({ cls := "IncidentKindsLaw", name := "in", desc := "(LIncidentKinds;II[J)I" } : Jvm.MethodName)) ∈ mm_all := mm_w 370 rfl rfl
theorem tw371 : (Jvm.Cond.static ({ cls := "IncidentKindsLaw", name := "in", desc := "(LIncidentKinds;II[J)I" } : Jvm.MethodName)) ∈ mm_all := mm_w 371 rfl rfl
theorem tw372 : (Jvm.Cond.codeWith ({ cls := "IncidentKindsLaw", name := "in", desc := "(LIncidentKinds;II[J)I" } : Jvm.MethodName) method_11_code (5 : Nat) (Option.some Jvm.ClassFile.FieldType.int) [((0 : Nat), (10 : Nat), (13 : Nat), (13 : Nat)), ((0 : Nat), (10 : Nat), (17 : Nat), (27 : Nat))]) ∈ mm_all := mm_w 372 rfl rfl
theorem tw373 : (Jvm.Cond.methodLink "IncidentKindsLaw" (47 : Nat) ({ cls := "IncidentKinds", name := "in", desc := "(II)I" } : Jvm.MethodName)) ∈ mm_all := mm_w 373 rfl rfl
theorem tw374 : (Jvm.Cond.instanceMethod ({ cls := "IncidentKinds", name := "in", desc := "(II)I" } : Jvm.MethodName)) ∈ mm_all := mm_w 374 rfl rfl
theorem tw375 : (Jvm.Cond.selects "IncidentKinds" ({ cls := "IncidentKinds", name := "in", desc := "(II)I" } : Jvm.MethodName) ({ cls := "IncidentKinds", name := "in", desc := "(II)I" } : Jvm.MethodName)) ∈ mm_all := mm_w 375 rfl rfl
theorem tw376 : (Jvm.Cond.code ({ cls := "IncidentKinds", name := "in", desc := "(II)I" } : Jvm.MethodName) prog_1_method_10_code (3 : Nat) (Option.some Jvm.ClassFile.FieldType.int)) ∈ mm_all := mm_w 376 rfl rfl
theorem tw377 : (Jvm.Cond.methodLink "IncidentKinds" (127 : Nat) ({ cls := "IncidentKinds", name := "kindInArea", desc := "(II)I" } : Jvm.MethodName)) ∈ mm_all := mm_w 377 rfl rfl
theorem tw379 : (Jvm.Cond.instanceMethod ({ cls := "IncidentKinds", name := "kindInArea", desc := "(II)I" } : Jvm.MethodName)) ∈ mm_all := mm_w 379 rfl rfl
theorem tw380 : (Jvm.Cond.code ({ cls := "IncidentKinds", name := "kindInArea", desc := "(II)I" } : Jvm.MethodName) prog_1_method_36_code (6 : Nat) (Option.some Jvm.ClassFile.FieldType.int)) ∈ mm_all := mm_w 380 rfl rfl
theorem tw381 : (Jvm.Cond.methodLink "IncidentKindsLaw" (122 : Nat) ({ cls := "IncidentKindsLaw", name := "open", desc := "(LIncidentKinds;III[J)I" } : Jvm.MethodName)) ∈ mm_all := mm_w 381 rfl rfl
theorem tw382 : (Jvm.Cond.static ({ cls := "IncidentKindsLaw", name := "open", desc := "(LIncidentKinds;III[J)I" } : Jvm.MethodName)) ∈ mm_all := mm_w 382 rfl rfl
theorem tw383 : (Jvm.Cond.codeWith ({ cls := "IncidentKindsLaw", name := "open", desc := "(LIncidentKinds;III[J)I" } : Jvm.MethodName) method_12_code (6 : Nat) (Option.some Jvm.ClassFile.FieldType.int) [((0 : Nat), (12 : Nat), (15 : Nat), (13 : Nat)), ((0 : Nat), (12 : Nat), (19 : Nat), (27 : Nat)), ((0 : Nat), (12 : Nat), (23 : Nat), (21 : Nat)), ((0 : Nat), (12 : Nat), (27 : Nat), (15 : Nat))]) ∈ mm_all := mm_w 383 rfl rfl
theorem tw384 : (Jvm.Cond.methodLink "IncidentKindsLaw" (51 : Nat) ({ cls := "IncidentKinds", name := "open", desc := "(III)I" } : Jvm.MethodName)) ∈ mm_all := mm_w 384 rfl rfl
theorem tw385 : (Jvm.Cond.instanceMethod ({ cls := "IncidentKinds", name := "open", desc := "(III)I" } : Jvm.MethodName)) ∈ mm_all := mm_w 385 rfl rfl
theorem tw386 : (Jvm.Cond.selects "IncidentKinds" ({ cls := "IncidentKinds", name := "open", desc := "(III)I" } : Jvm.MethodName) ({ cls := "IncidentKinds", name := "open", desc := "(III)I" } : Jvm.MethodName)) ∈ mm_all := mm_w 386 rfl rfl
theorem tw387 : (Jvm.Cond.code ({ cls := "IncidentKinds", name := "open", desc := "(III)I" } : Jvm.MethodName) prog_1_method_11_code (6 : Nat) (Option.some Jvm.ClassFile.FieldType.int)) ∈ mm_all := mm_w 387 rfl rfl
theorem tw388 : (Jvm.Cond.methodLink "IncidentKindsLaw" (125 : Nat) ({ cls := "IncidentKindsLaw", name := "found", desc := "(LIncidentKinds;III[J)I" } : Jvm.MethodName)) ∈ mm_all := mm_w 388 rfl rfl
theorem tw389 : (Jvm.Cond.static ({ cls := "IncidentKindsLaw", name := "found", desc := "(LIncidentKinds;III[J)I" } : Jvm.MethodName)) ∈ mm_all := mm_w 389 rfl rfl
theorem tw390 : (Jvm.Cond.codeWith ({ cls := "IncidentKindsLaw", name := "found", desc := "(LIncidentKinds;III[J)I" } : Jvm.MethodName) method_13_code (6 : Nat) (Option.some Jvm.ClassFile.FieldType.int) [((0 : Nat), (12 : Nat), (15 : Nat), (13 : Nat)), ((0 : Nat), (12 : Nat), (19 : Nat), (27 : Nat)), ((0 : Nat), (12 : Nat), (23 : Nat), (21 : Nat))]) ∈ mm_all := mm_w 390 rfl rfl
theorem tw391 : (Jvm.Cond.methodLink "IncidentKindsLaw" (54 : Nat) ({ cls := "IncidentKinds", name := "found", desc := "(III)I" } : Jvm.MethodName)) ∈ mm_all := mm_w 391 rfl rfl
theorem tw392 : (Jvm.Cond.instanceMethod ({ cls := "IncidentKinds", name := "found", desc := "(III)I" } : Jvm.MethodName)) ∈ mm_all := mm_w 392 rfl rfl
theorem tw393 : (Jvm.Cond.selects "IncidentKinds" ({ cls := "IncidentKinds", name := "found", desc := "(III)I" } : Jvm.MethodName) ({ cls := "IncidentKinds", name := "found", desc := "(III)I" } : Jvm.MethodName)) ∈ mm_all := mm_w 393 rfl rfl
theorem tw394 : (Jvm.Cond.code ({ cls := "IncidentKinds", name := "found", desc := "(III)I" } : Jvm.MethodName) prog_1_method_12_code (5 : Nat) (Option.some Jvm.ClassFile.FieldType.int)) ∈ mm_all := mm_w 394 rfl rfl
theorem tw395 : (Jvm.Cond.methodLink "IncidentKinds" (133 : Nat) ({ cls := "IncidentKinds", name := "isIncident", desc := "(I)Z" } : Jvm.MethodName)) ∈ mm_all := mm_w 395 rfl rfl
theorem tw397 : (Jvm.Cond.instanceMethod ({ cls := "IncidentKinds", name := "isIncident", desc := "(I)Z" } : Jvm.MethodName)) ∈ mm_all := mm_w 397 rfl rfl
theorem tw398 : (Jvm.Cond.code ({ cls := "IncidentKinds", name := "isIncident", desc := "(I)Z" } : Jvm.MethodName) prog_1_method_26_code (2 : Nat) (Option.some Jvm.ClassFile.FieldType.boolean)) ∈ mm_all := mm_w 398 rfl rfl
theorem tw399 : (Jvm.Cond.methodLink "IncidentKinds" (136 : Nat) ({ cls := "IncidentKinds", name := "upgradeOf", desc := "(II)I" } : Jvm.MethodName)) ∈ mm_all := mm_w 399 rfl rfl
set_option maxRecDepth 100000 in
theorem tw401 : (Jvm.Cond.instanceMethod ({ cls := "IncidentKinds", name := "upgradeOf", desc := "(II)I" } : Jvm.MethodName)) ∈ mm_all := mm_w 401 rfl rfl
set_option maxRecDepth 100000 in
theorem tw402 : (Jvm.Cond.code ({ cls := "IncidentKinds", name := "upgradeOf", desc := "(II)I" } : Jvm.MethodName) prog_1_method_38_code (6 : Nat) (Option.some Jvm.ClassFile.FieldType.int)) ∈ mm_all := mm_w 402 rfl rfl
set_option maxRecDepth 100000 in
theorem tw403 : (Jvm.Cond.methodLink "IncidentKindsLaw" (128 : Nat) ({ cls := "IncidentKindsLaw", name := "send", desc := "(LIncidentKinds;III[J)I" } : Jvm.MethodName)) ∈ mm_all := mm_w 403 rfl rfl
set_option maxRecDepth 100000 in
theorem tw404 : (Jvm.Cond.static ({ cls := "IncidentKindsLaw", name := "send", desc := "(LIncidentKinds;III[J)I" } : Jvm.MethodName)) ∈ mm_all := mm_w 404 rfl rfl
set_option maxRecDepth 100000 in
theorem tw405 : (Jvm.Cond.codeWith ({ cls := "IncidentKindsLaw", name := "send", desc := "(LIncidentKinds;III[J)I" } : Jvm.MethodName) method_14_code (6 : Nat) (Option.some Jvm.ClassFile.FieldType.int) [((0 : Nat), (12 : Nat), (15 : Nat), (13 : Nat)), ((0 : Nat), (12 : Nat), (19 : Nat), (27 : Nat)), ((0 : Nat), (12 : Nat), (23 : Nat), (15 : Nat))]) ∈ mm_all := mm_w 405 rfl rfl
set_option maxRecDepth 100000 in
theorem tw406 : (Jvm.Cond.methodLink "IncidentKindsLaw" (57 : Nat) ({ cls := "IncidentKinds", name := "send", desc := "(III)I" } : Jvm.MethodName)) ∈ mm_all := mm_w 406 rfl rfl
set_option maxRecDepth 100000 in
theorem tw407 : (Jvm.Cond.instanceMethod ({ cls := "IncidentKinds", name := "send", desc := "(III)I" } : Jvm.MethodName)) ∈ mm_all := mm_w 407 rfl rfl
set_option maxRecDepth 100000 in
theorem tw408 : (Jvm.Cond.selects "IncidentKinds" ({ cls := "IncidentKinds", name := "send", desc := "(III)I" } : Jvm.MethodName) ({ cls := "IncidentKinds", name := "send", desc := "(III)I" } : Jvm.MethodName)) ∈ mm_all := mm_w 408 rfl rfl
set_option maxRecDepth 100000 in
theorem tw409 : (Jvm.Cond.code ({ cls := "IncidentKinds", name := "send", desc := "(III)I" } : Jvm.MethodName) prog_1_method_13_code (5 : Nat) (Option.some Jvm.ClassFile.FieldType.int)) ∈ mm_all := mm_w 409 rfl rfl
set_option maxRecDepth 100000 in
theorem tw410 : (Jvm.Cond.methodLink "IncidentKindsLaw" (131 : Nat) ({ cls := "IncidentKindsLaw", name := "missing", desc := "(LIncidentKinds;III[J)I" } : Jvm.MethodName)) ∈ mm_all := mm_w 410 rfl rfl
set_option maxRecDepth 100000 in
theorem tw411 : (Jvm.Cond.static ({ cls := "IncidentKindsLaw", name := "missing", desc := "(LIncidentKinds;III[J)I" } : Jvm.MethodName)) ∈ mm_all := mm_w 411 rfl rfl
set_option maxRecDepth 100000 in
theorem tw412 : (Jvm.Cond.codeWith ({ cls := "IncidentKindsLaw", name := "missing", desc := "(LIncidentKinds;III[J)I" } : Jvm.MethodName) method_15_code (6 : Nat) (Option.some Jvm.ClassFile.FieldType.int) [((0 : Nat), (12 : Nat), (15 : Nat), (13 : Nat)), ((0 : Nat), (12 : Nat), (19 : Nat), (27 : Nat))]) ∈ mm_all := mm_w 412 rfl rfl
set_option maxRecDepth 100000 in
theorem tw413 : (Jvm.Cond.methodLink "IncidentKindsLaw" (60 : Nat) ({ cls := "IncidentKinds", name := "missing", desc := "(III)I" } : Jvm.MethodName)) ∈ mm_all := mm_w 413 rfl rfl
set_option maxRecDepth 100000 in
theorem tw414 : (Jvm.Cond.instanceMethod ({ cls := "IncidentKinds", name := "missing", desc := "(III)I" } : Jvm.MethodName)) ∈ mm_all := mm_w 414 rfl rfl
set_option maxRecDepth 100000 in
theorem tw415 : (Jvm.Cond.selects "IncidentKinds" ({ cls := "IncidentKinds", name := "missing", desc := "(III)I" } : Jvm.MethodName) ({ cls := "IncidentKinds", name := "missing", desc := "(III)I" } : Jvm.MethodName)) ∈ mm_all := mm_w 415 rfl rfl
set_option maxRecDepth 100000 in
theorem tw416 : (Jvm.Cond.code ({ cls := "IncidentKinds", name := "missing", desc := "(III)I" } : Jvm.MethodName) prog_1_method_14_code (4 : Nat) (Option.some Jvm.ClassFile.FieldType.int)) ∈ mm_all := mm_w 416 rfl rfl
set_option maxRecDepth 100000 in
theorem tw417 : (Jvm.Cond.methodLink "IncidentKindsLaw" (134 : Nat) ({ cls := "IncidentKindsLaw", name := "incident", desc := "(LIncidentKinds;II[J)I" } : Jvm.MethodName)) ∈ mm_all := mm_w 417 rfl rfl
set_option maxRecDepth 100000 in
theorem tw418 : (Jvm.Cond.static ({ cls := "IncidentKindsLaw", name := "incident", desc := "(LIncidentKinds;II[J)I" } : Jvm.MethodName)) ∈ mm_all := mm_w 418 rfl rfl
set_option maxRecDepth 100000 in
theorem tw419 : (Jvm.Cond.codeWith ({ cls := "IncidentKindsLaw", name := "incident", desc := "(LIncidentKinds;II[J)I" } : Jvm.MethodName) method_16_code (5 : Nat) (Option.some Jvm.ClassFile.FieldType.int) [((0 : Nat), (10 : Nat), (13 : Nat), (13 : Nat))]) ∈ mm_all := mm_w 419 rfl rfl
set_option maxRecDepth 100000 in
theorem tw420 : (Jvm.Cond.methodLink "IncidentKindsLaw" (63 : Nat) ({ cls := "IncidentKinds", name := "incident", desc := "(II)I" } : Jvm.MethodName)) ∈ mm_all := mm_w 420 rfl rfl
set_option maxRecDepth 100000 in
theorem tw421 : (Jvm.Cond.instanceMethod ({ cls := "IncidentKinds", name := "incident", desc := "(II)I" } : Jvm.MethodName)) ∈ mm_all := mm_w 421 rfl rfl
set_option maxRecDepth 100000 in
theorem tw422 : (Jvm.Cond.selects "IncidentKinds" ({ cls := "IncidentKinds", name := "incident", desc := "(II)I" } : Jvm.MethodName) ({ cls := "IncidentKinds", name := "incident", desc := "(II)I" } : Jvm.MethodName)) ∈ mm_all := mm_w 422 rfl rfl
set_option maxRecDepth 100000 in
theorem tw423 : (Jvm.Cond.code ({ cls := "IncidentKinds", name := "incident", desc := "(II)I" } : Jvm.MethodName) prog_1_method_15_code (3 : Nat) (Option.some Jvm.ClassFile.FieldType.int)) ∈ mm_all := mm_w 423 rfl rfl
set_option maxRecDepth 100000 in
theorem tw424 : (Jvm.Cond.methodLink "IncidentKindsLaw" (137 : Nat) ({ cls := "IncidentKindsLaw", name := "unit", desc := "(LIncidentKinds;II)I" } : Jvm.MethodName)) ∈ mm_all := mm_w 424 rfl rfl
set_option maxRecDepth 100000 in
theorem tw425 : (Jvm.Cond.static ({ cls := "IncidentKindsLaw", name := "unit", desc := "(LIncidentKinds;II)I" } : Jvm.MethodName)) ∈ mm_all := mm_w 425 rfl rfl
set_option maxRecDepth 100000 in
theorem tw426 : (Jvm.Cond.codeWith ({ cls := "IncidentKindsLaw", name := "unit", desc := "(LIncidentKinds;II)I" } : Jvm.MethodName) method_17_code (4 : Nat) (Option.some Jvm.ClassFile.FieldType.int) [((0 : Nat), (6 : Nat), (9 : Nat), (13 : Nat)), ((0 : Nat), (6 : Nat), (12 : Nat), (27 : Nat))]) ∈ mm_all := mm_w 426 rfl rfl
set_option maxRecDepth 100000 in
theorem tw427 : (Jvm.Cond.methodLink "IncidentKindsLaw" (66 : Nat) ({ cls := "IncidentKinds", name := "unit", desc := "(II)V" } : Jvm.MethodName)) ∈ mm_all := mm_w 427 rfl rfl
set_option maxRecDepth 100000 in
theorem tw428 : (Jvm.Cond.instanceMethod ({ cls := "IncidentKinds", name := "unit", desc := "(II)V" } : Jvm.MethodName)) ∈ mm_all := mm_w 428 rfl rfl
set_option maxRecDepth 100000 in
theorem tw429 : (Jvm.Cond.selects "IncidentKinds" ({ cls := "IncidentKinds", name := "unit", desc := "(II)V" } : Jvm.MethodName) ({ cls := "IncidentKinds", name := "unit", desc := "(II)V" } : Jvm.MethodName)) ∈ mm_all := mm_w 429 rfl rfl
set_option maxRecDepth 100000 in
theorem tw430 : (Jvm.Cond.code ({ cls := "IncidentKinds", name := "unit", desc := "(II)V" } : Jvm.MethodName) prog_1_method_16_code (3 : Nat) (Option.none : Option Jvm.ClassFile.FieldType)) ∈ mm_all := mm_w 430 rfl rfl
set_option maxRecDepth 100000 in
theorem tw431 : (Jvm.Cond.constant "IncidentKinds" (144 : Nat) (65535 : Int32)) ∈ mm_all := mm_w 431 rfl rfl
set_option maxRecDepth 100000 in
theorem tw432 : (Jvm.Cond.methodLink "IncidentKindsLaw" (140 : Nat) ({ cls := "IncidentKindsLaw", name := "uncovered", desc := "(LIncidentKinds;II[J)I" } : Jvm.MethodName)) ∈ mm_all := mm_w 432 rfl rfl
set_option maxRecDepth 100000 in
theorem tw433 : (Jvm.Cond.static ({ cls := "IncidentKindsLaw", name := "uncovered", desc := "(LIncidentKinds;II[J)I" } : Jvm.MethodName)) ∈ mm_all := mm_w 433 rfl rfl
set_option maxRecDepth 100000 in
theorem tw434 : (Jvm.Cond.codeWith ({ cls := "IncidentKindsLaw", name := "uncovered", desc := "(LIncidentKinds;II[J)I" } : Jvm.MethodName) method_18_code (5 : Nat) (Option.some Jvm.ClassFile.FieldType.int) [((0 : Nat), (10 : Nat), (13 : Nat), (27 : Nat))]) ∈ mm_all := mm_w 434 rfl rfl
set_option maxRecDepth 100000 in
theorem tw435 : (Jvm.Cond.methodLink "IncidentKindsLaw" (69 : Nat) ({ cls := "IncidentKinds", name := "uncovered", desc := "(II)I" } : Jvm.MethodName)) ∈ mm_all := mm_w 435 rfl rfl
set_option maxRecDepth 100000 in
theorem tw436 : (Jvm.Cond.instanceMethod ({ cls := "IncidentKinds", name := "uncovered", desc := "(II)I" } : Jvm.MethodName)) ∈ mm_all := mm_w 436 rfl rfl
set_option maxRecDepth 100000 in
theorem tw437 : (Jvm.Cond.selects "IncidentKinds" ({ cls := "IncidentKinds", name := "uncovered", desc := "(II)I" } : Jvm.MethodName) ({ cls := "IncidentKinds", name := "uncovered", desc := "(II)I" } : Jvm.MethodName)) ∈ mm_all := mm_w 437 rfl rfl
set_option maxRecDepth 100000 in
theorem tw438 : (Jvm.Cond.code ({ cls := "IncidentKinds", name := "uncovered", desc := "(II)I" } : Jvm.MethodName) prog_1_method_17_code (6 : Nat) (Option.some Jvm.ClassFile.FieldType.int)) ∈ mm_all := mm_w 438 rfl rfl
set_option maxRecDepth 100000 in
theorem tw439 : (Jvm.Cond.methodLink "IncidentKinds" (145 : Nat) ({ cls := "IncidentKinds", name := "skillsOfAllUnits", desc := "()I" } : Jvm.MethodName)) ∈ mm_all := mm_w 439 rfl rfl
set_option maxRecDepth 100000 in
theorem tw441 : (Jvm.Cond.instanceMethod ({ cls := "IncidentKinds", name := "skillsOfAllUnits", desc := "()I" } : Jvm.MethodName)) ∈ mm_all := mm_w 441 rfl rfl
set_option maxRecDepth 100000 in
theorem tw442 : (Jvm.Cond.code ({ cls := "IncidentKinds", name := "skillsOfAllUnits", desc := "()I" } : Jvm.MethodName) prog_1_method_39_code (3 : Nat) (Option.some Jvm.ClassFile.FieldType.int)) ∈ mm_all := mm_w 442 rfl rfl
set_option maxRecDepth 100000 in
theorem tw443 : (Jvm.Cond.methodLink "IncidentKinds" (149 : Nat) ({ cls := "IncidentKinds", name := "needsOneOf", desc := "(III)Z" } : Jvm.MethodName)) ∈ mm_all := mm_w 443 rfl rfl
set_option maxRecDepth 100000 in
theorem tw445 : (Jvm.Cond.instanceMethod ({ cls := "IncidentKinds", name := "needsOneOf", desc := "(III)Z" } : Jvm.MethodName)) ∈ mm_all := mm_w 445 rfl rfl
set_option maxRecDepth 100000 in
theorem tw446 : (Jvm.Cond.code ({ cls := "IncidentKinds", name := "needsOneOf", desc := "(III)Z" } : Jvm.MethodName) prog_1_method_40_code (5 : Nat) (Option.some Jvm.ClassFile.FieldType.boolean)) ∈ mm_all := mm_w 446 rfl rfl
set_option maxRecDepth 100000 in
theorem tw447 : (Jvm.Cond.methodLink "IncidentKindsLaw" (143 : Nat) ({ cls := "IncidentKindsLaw", name := "coded", desc := "(LIncidentKinds;II[J)I" } : Jvm.MethodName)) ∈ mm_all := mm_w 447 rfl rfl
set_option maxRecDepth 100000 in
theorem tw448 : (Jvm.Cond.static ({ cls := "IncidentKindsLaw", name := "coded", desc := "(LIncidentKinds;II[J)I" } : Jvm.MethodName)) ∈ mm_all := mm_w 448 rfl rfl
set_option maxRecDepth 100000 in
theorem tw449 : (Jvm.Cond.codeWith ({ cls := "IncidentKindsLaw", name := "coded", desc := "(LIncidentKinds;II[J)I" } : Jvm.MethodName) method_19_code (5 : Nat) (Option.some Jvm.ClassFile.FieldType.int) [((0 : Nat), (10 : Nat), (13 : Nat), (27 : Nat))]) ∈ mm_all := mm_w 449 rfl rfl
set_option maxRecDepth 100000 in
theorem tw450 : (Jvm.Cond.methodLink "IncidentKindsLaw" (72 : Nat) ({ cls := "IncidentKinds", name := "coded", desc := "(II)I" } : Jvm.MethodName)) ∈ mm_all := mm_w 450 rfl rfl
set_option maxRecDepth 100000 in
theorem tw451 : (Jvm.Cond.instanceMethod ({ cls := "IncidentKinds", name := "coded", desc := "(II)I" } : Jvm.MethodName)) ∈ mm_all := mm_w 451 rfl rfl
set_option maxRecDepth 100000 in
theorem tw452 : (Jvm.Cond.selects "IncidentKinds" ({ cls := "IncidentKinds", name := "coded", desc := "(II)I" } : Jvm.MethodName) ({ cls := "IncidentKinds", name := "coded", desc := "(II)I" } : Jvm.MethodName)) ∈ mm_all := mm_w 452 rfl rfl
set_option maxRecDepth 100000 in
theorem tw453 : (Jvm.Cond.code ({ cls := "IncidentKinds", name := "coded", desc := "(II)I" } : Jvm.MethodName) prog_1_method_18_code (5 : Nat) (Option.some Jvm.ClassFile.FieldType.int)) ∈ mm_all := mm_w 453 rfl rfl
set_option maxRecDepth 100000 in
theorem tw454 : (Jvm.Cond.methodLink "IncidentKindsLaw" (146 : Nat) ({ cls := "IncidentKindsLaw", name := "count", desc := "(LIncidentKinds;I[J)I" } : Jvm.MethodName)) ∈ mm_all := mm_w 454 rfl rfl
set_option maxRecDepth 100000 in
theorem tw455 : (Jvm.Cond.static ({ cls := "IncidentKindsLaw", name := "count", desc := "(LIncidentKinds;I[J)I" } : Jvm.MethodName)) ∈ mm_all := mm_w 455 rfl rfl
set_option maxRecDepth 100000 in
theorem tw456 : (Jvm.Cond.codeWith ({ cls := "IncidentKindsLaw", name := "count", desc := "(LIncidentKinds;I[J)I" } : Jvm.MethodName) method_20_code (4 : Nat) (Option.some Jvm.ClassFile.FieldType.int) [((0 : Nat), (9 : Nat), (12 : Nat), (13 : Nat))]) ∈ mm_all := mm_w 456 rfl rfl
set_option maxRecDepth 100000 in
theorem tw457 : (Jvm.Cond.methodLink "IncidentKindsLaw" (75 : Nat) ({ cls := "IncidentKinds", name := "count", desc := "(I)I" } : Jvm.MethodName)) ∈ mm_all := mm_w 457 rfl rfl
set_option maxRecDepth 100000 in
theorem tw458 : (Jvm.Cond.instanceMethod ({ cls := "IncidentKinds", name := "count", desc := "(I)I" } : Jvm.MethodName)) ∈ mm_all := mm_w 458 rfl rfl
set_option maxRecDepth 100000 in
theorem tw459 : (Jvm.Cond.selects "IncidentKinds" ({ cls := "IncidentKinds", name := "count", desc := "(I)I" } : Jvm.MethodName) ({ cls := "IncidentKinds", name := "count", desc := "(I)I" } : Jvm.MethodName)) ∈ mm_all := mm_w 459 rfl rfl
set_option maxRecDepth 100000 in
theorem tw460 : (Jvm.Cond.code ({ cls := "IncidentKinds", name := "count", desc := "(I)I" } : Jvm.MethodName) prog_1_method_19_code (2 : Nat) (Option.some Jvm.ClassFile.FieldType.int)) ∈ mm_all := mm_w 460 rfl rfl
set_option maxRecDepth 100000 in
theorem tw461 : (Jvm.Cond.classLink "IncidentKindsLaw" (79 : Nat) "IncidentKindsModel") ∈ mm_all := mm_w 461 rfl rfl
set_option maxRecDepth 100000 in
theorem tw462 : (Jvm.Cond.instantiable "IncidentKindsModel" (18 : Nat)) ∈ mm_all := mm_w 462 rfl rfl
set_option maxRecDepth 100000 in
theorem tw463 : (Jvm.Cond.methodLink "IncidentKindsLaw" (81 : Nat) ({ cls := "IncidentKindsModel", name := "<init>", desc := "()V" } : Jvm.MethodName)) ∈ mm_all := mm_w 463 rfl rfl
set_option maxRecDepth 100000 in
theorem tw464 : (Jvm.Cond.instanceMethod ({ cls := "IncidentKindsModel", name := "<init>", desc := "()V" } : Jvm.MethodName)) ∈ mm_all := mm_w 464 rfl rfl
set_option maxRecDepth 100000 in
theorem tw465 : (Jvm.Cond.code ({ cls := "IncidentKindsModel", name := "<init>", desc := "()V" } : Jvm.MethodName) prog_5_method_1_code (2 : Nat) (Option.none : Option Jvm.ClassFile.FieldType)) ∈ mm_all := mm_w 465 rfl rfl
set_option maxRecDepth 100000 in
theorem tw466 : (Jvm.Cond.methodLink "IncidentKindsModel" (1 : Nat) ({ cls := "java/lang/Object", name := "<init>", desc := "()V" } : Jvm.MethodName)) ∈ mm_all := mm_w 466 rfl rfl
set_option maxRecDepth 100000 in
theorem tw467 : (Jvm.Cond.fieldLink "IncidentKindsModel" (52 : Nat) "IncidentKindsModel" "thrown" "I") ∈ mm_all := mm_w 467 rfl rfl
set_option maxRecDepth 100000 in
theorem tw468 : (Jvm.Cond.fieldLink "IncidentKindsModel" (56 : Nat) "IncidentKindsModel" "kinds" "I") ∈ mm_all := mm_w 468 rfl rfl
set_option maxRecDepth 100000 in
theorem tw469 : (Jvm.Cond.fieldLink "IncidentKindsModel" (7 : Nat) "IncidentKindsModel" "parent" "[I") ∈ mm_all := mm_w 469 rfl rfl
set_option maxRecDepth 100000 in
theorem tw470 : (Jvm.Cond.fieldLink "IncidentKindsModel" (13 : Nat) "IncidentKindsModel" "closed" "[I") ∈ mm_all := mm_w 470 rfl rfl
set_option maxRecDepth 100000 in
theorem tw471 : (Jvm.Cond.fieldLink "IncidentKindsModel" (78 : Nat) "IncidentKindsModel" "changes" "I") ∈ mm_all := mm_w 471 rfl rfl
set_option maxRecDepth 100000 in
theorem tw472 : (Jvm.Cond.fieldLink "IncidentKindsModel" (16 : Nat) "IncidentKindsModel" "changeKind" "[I") ∈ mm_all := mm_w 472 rfl rfl
set_option maxRecDepth 100000 in
theorem tw473 : (Jvm.Cond.fieldLink "IncidentKindsModel" (19 : Nat) "IncidentKindsModel" "changeWhat" "[I") ∈ mm_all := mm_w 473 rfl rfl
set_option maxRecDepth 100000 in
theorem tw474 : (Jvm.Cond.fieldLink "IncidentKindsModel" (22 : Nat) "IncidentKindsModel" "changeDay" "[I") ∈ mm_all := mm_w 474 rfl rfl
set_option maxRecDepth 100000 in
theorem tw475 : (Jvm.Cond.fieldLink "IncidentKindsModel" (25 : Nat) "IncidentKindsModel" "changeValue" "[I") ∈ mm_all := mm_w 475 rfl rfl
set_option maxRecDepth 100000 in
theorem tw476 : (Jvm.Cond.fieldLink "IncidentKindsModel" (28 : Nat) "IncidentKindsModel" "changeHow" "[I") ∈ mm_all := mm_w 476 rfl rfl
set_option maxRecDepth 100000 in
theorem tw477 : (Jvm.Cond.fieldLink "IncidentKindsModel" (31 : Nat) "IncidentKindsModel" "rows" "[I") ∈ mm_all := mm_w 477 rfl rfl
set_option maxRecDepth 100000 in
theorem tw478 : (Jvm.Cond.fieldLink "IncidentKindsModel" (34 : Nat) "IncidentKindsModel" "upgrades" "[I") ∈ mm_all := mm_w 478 rfl rfl
set_option maxRecDepth 100000 in
theorem tw479 : (Jvm.Cond.fieldLink "IncidentKindsModel" (63 : Nat) "IncidentKindsModel" "incidents" "I") ∈ mm_all := mm_w 479 rfl rfl
set_option maxRecDepth 100000 in
theorem tw480 : (Jvm.Cond.fieldLink "IncidentKindsModel" (37 : Nat) "IncidentKindsModel" "kindOf" "[I") ∈ mm_all := mm_w 480 rfl rfl
set_option maxRecDepth 100000 in
theorem tw481 : (Jvm.Cond.fieldLink "IncidentKindsModel" (40 : Nat) "IncidentKindsModel" "areaOf" "[I") ∈ mm_all := mm_w 481 rfl rfl
set_option maxRecDepth 100000 in
theorem tw482 : (Jvm.Cond.fieldLink "IncidentKindsModel" (43 : Nat) "IncidentKindsModel" "turns" "[I") ∈ mm_all := mm_w 482 rfl rfl
set_option maxRecDepth 100000 in
theorem tw483 : (Jvm.Cond.fieldLink "IncidentKindsModel" (46 : Nat) "IncidentKindsModel" "sent" "[I") ∈ mm_all := mm_w 483 rfl rfl
set_option maxRecDepth 100000 in
theorem tw484 : (Jvm.Cond.fieldLink "IncidentKindsModel" (49 : Nat) "IncidentKindsModel" "skills" "[I") ∈ mm_all := mm_w 484 rfl rfl
set_option maxRecDepth 100000 in
theorem tw522 : (Jvm.Cond.methodLink "IncidentKindsLaw" (88 : Nat) ({ cls := "IncidentKindsModel", name := "thrown", desc := "()I" } : Jvm.MethodName)) ∈ mm_all := mm_w 522 rfl rfl
set_option maxRecDepth 100000 in
theorem tw523 : (Jvm.Cond.instanceMethod ({ cls := "IncidentKindsModel", name := "thrown", desc := "()I" } : Jvm.MethodName)) ∈ mm_all := mm_w 523 rfl rfl
set_option maxRecDepth 100000 in
theorem tw524 : (Jvm.Cond.selects "IncidentKindsModel" ({ cls := "IncidentKindsModel", name := "thrown", desc := "()I" } : Jvm.MethodName) ({ cls := "IncidentKindsModel", name := "thrown", desc := "()I" } : Jvm.MethodName)) ∈ mm_all := mm_w 524 rfl rfl
set_option maxRecDepth 100000 in
theorem tw525 : (Jvm.Cond.code ({ cls := "IncidentKindsModel", name := "thrown", desc := "()I" } : Jvm.MethodName) prog_5_method_2_code (1 : Nat) (Option.some Jvm.ClassFile.FieldType.int)) ∈ mm_all := mm_w 525 rfl rfl
set_option maxRecDepth 100000 in
theorem tw526 : (Jvm.Cond.methodLink "IncidentKindsLaw" (87 : Nat) ({ cls := "IncidentKindsModel", name := "kind", desc := "(I)I" } : Jvm.MethodName)) ∈ mm_all := mm_w 526 rfl rfl
set_option maxRecDepth 100000 in
theorem tw527 : (Jvm.Cond.instanceMethod ({ cls := "IncidentKindsModel", name := "kind", desc := "(I)I" } : Jvm.MethodName)) ∈ mm_all := mm_w 527 rfl rfl
set_option maxRecDepth 100000 in
theorem tw528 : (Jvm.Cond.selects "IncidentKindsModel" ({ cls := "IncidentKindsModel", name := "kind", desc := "(I)I" } : Jvm.MethodName) ({ cls := "IncidentKindsModel", name := "kind", desc := "(I)I" } : Jvm.MethodName)) ∈ mm_all := mm_w 528 rfl rfl
set_option maxRecDepth 100000 in
theorem tw529 : (Jvm.Cond.code ({ cls := "IncidentKindsModel", name := "kind", desc := "(I)I" } : Jvm.MethodName) prog_5_method_9_code (3 : Nat) (Option.some Jvm.ClassFile.FieldType.int)) ∈ mm_all := mm_w 529 rfl rfl
set_option maxRecDepth 100000 in
theorem tw530 : (Jvm.Cond.methodLink "IncidentKindsModel" (66 : Nat) ({ cls := "IncidentKindsModel", name := "isKind", desc := "(I)Z" } : Jvm.MethodName)) ∈ mm_all := mm_w 530 rfl rfl
set_option maxRecDepth 100000 in
theorem tw532 : (Jvm.Cond.instanceMethod ({ cls := "IncidentKindsModel", name := "isKind", desc := "(I)Z" } : Jvm.MethodName)) ∈ mm_all := mm_w 532 rfl rfl
set_option maxRecDepth 100000 in
theorem tw533 : (Jvm.Cond.code ({ cls := "IncidentKindsModel", name := "isKind", desc := "(I)Z" } : Jvm.MethodName) prog_5_method_5_code (2 : Nat) (Option.some Jvm.ClassFile.FieldType.boolean)) ∈ mm_all := mm_w 533 rfl rfl
set_option maxRecDepth 100000 in
theorem tw534 : (Jvm.Cond.methodLink "IncidentKindsModel" (59 : Nat) ({ cls := "IncidentKindsModel", name := "between", desc := "(III)Z" } : Jvm.MethodName)) ∈ mm_all := mm_w 534 rfl rfl
set_option maxRecDepth 100000 in
theorem tw535 : (Jvm.Cond.static ({ cls := "IncidentKindsModel", name := "between", desc := "(III)Z" } : Jvm.MethodName)) ∈ mm_all := mm_w 535 rfl rfl
set_option maxRecDepth 100000 in
theorem tw536 : (Jvm.Cond.code ({ cls := "IncidentKindsModel", name := "between", desc := "(III)Z" } : Jvm.MethodName) prog_5_method_4_code (3 : Nat) (Option.some Jvm.ClassFile.FieldType.boolean)) ∈ mm_all := mm_w 536 rfl rfl
set_option maxRecDepth 100000 in
theorem tw537 : (Jvm.Cond.methodLink "IncidentKindsModel" (70 : Nat) ({ cls := "IncidentKindsModel", name := "throwing", desc := "(ZZZZ)Z" } : Jvm.MethodName)) ∈ mm_all := mm_w 537 rfl rfl
set_option maxRecDepth 100000 in
theorem tw539 : (Jvm.Cond.instanceMethod ({ cls := "IncidentKindsModel", name := "throwing", desc := "(ZZZZ)Z" } : Jvm.MethodName)) ∈ mm_all := mm_w 539 rfl rfl
set_option maxRecDepth 100000 in
theorem tw540 : (Jvm.Cond.code ({ cls := "IncidentKindsModel", name := "throwing", desc := "(ZZZZ)Z" } : Jvm.MethodName) prog_5_method_3_code (5 : Nat) (Option.some Jvm.ClassFile.FieldType.boolean)) ∈ mm_all := mm_w 540 rfl rfl
set_option maxRecDepth 100000 in
theorem tw541 : (Jvm.Cond.methodLink "IncidentKindsLaw" (95 : Nat) ({ cls := "IncidentKindsModel", name := "parent", desc := "(II)V" } : Jvm.MethodName)) ∈ mm_all := mm_w 541 rfl rfl
set_option maxRecDepth 100000 in
theorem tw542 : (Jvm.Cond.instanceMethod ({ cls := "IncidentKindsModel", name := "parent", desc := "(II)V" } : Jvm.MethodName)) ∈ mm_all := mm_w 542 rfl rfl
set_option maxRecDepth 100000 in
theorem tw543 : (Jvm.Cond.selects "IncidentKindsModel" ({ cls := "IncidentKindsModel", name := "parent", desc := "(II)V" } : Jvm.MethodName) ({ cls := "IncidentKindsModel", name := "parent", desc := "(II)V" } : Jvm.MethodName)) ∈ mm_all := mm_w 543 rfl rfl
set_option maxRecDepth 100000 in
theorem tw544 : (Jvm.Cond.code ({ cls := "IncidentKindsModel", name := "parent", desc := "(II)V" } : Jvm.MethodName) prog_5_method_11_code (4 : Nat) (Option.none : Option Jvm.ClassFile.FieldType)) ∈ mm_all := mm_w 544 rfl rfl
set_option maxRecDepth 100000 in
theorem tw545 : (Jvm.Cond.methodLink "IncidentKindsModel" (74 : Nat) ({ cls := "IncidentKindsModel", name := "isAbove", desc := "(II)Z" } : Jvm.MethodName)) ∈ mm_all := mm_w 545 rfl rfl
set_option maxRecDepth 100000 in
theorem tw547 : (Jvm.Cond.instanceMethod ({ cls := "IncidentKindsModel", name := "isAbove", desc := "(II)Z" } : Jvm.MethodName)) ∈ mm_all := mm_w 547 rfl rfl
set_option maxRecDepth 100000 in
theorem tw548 : (Jvm.Cond.code ({ cls := "IncidentKindsModel", name := "isAbove", desc := "(II)Z" } : Jvm.MethodName) prog_5_method_10_code (4 : Nat) (Option.some Jvm.ClassFile.FieldType.boolean)) ∈ mm_all := mm_w 548 rfl rfl
set_option maxRecDepth 100000 in
theorem tw549 : (Jvm.Cond.methodLink "IncidentKindsLaw" (99 : Nat) ({ cls := "IncidentKindsModel", name := "says", desc := "(IIII)V" } : Jvm.MethodName)) ∈ mm_all := mm_w 549 rfl rfl
set_option maxRecDepth 100000 in
theorem tw550 : (Jvm.Cond.instanceMethod ({ cls := "IncidentKindsModel", name := "says", desc := "(IIII)V" } : Jvm.MethodName)) ∈ mm_all := mm_w 550 rfl rfl
set_option maxRecDepth 100000 in
theorem tw551 : (Jvm.Cond.selects "IncidentKindsModel" ({ cls := "IncidentKindsModel", name := "says", desc := "(IIII)V" } : Jvm.MethodName) ({ cls := "IncidentKindsModel", name := "says", desc := "(IIII)V" } : Jvm.MethodName)) ∈ mm_all := mm_w 551 rfl rfl
set_option maxRecDepth 100000 in
theorem tw552 : (Jvm.Cond.code ({ cls := "IncidentKindsModel", name := "says", desc := "(IIII)V" } : Jvm.MethodName) prog_5_method_14_code (7 : Nat) (Option.none : Option Jvm.ClassFile.FieldType)) ∈ mm_all := mm_w 552 rfl rfl
set_option maxRecDepth 100000 in
theorem tw553 : (Jvm.Cond.methodLink "IncidentKindsModel" (81 : Nat) ({ cls := "IncidentKindsModel", name := "isDay", desc := "(I)Z" } : Jvm.MethodName)) ∈ mm_all := mm_w 553 rfl rfl
set_option maxRecDepth 100000 in
theorem tw554 : (Jvm.Cond.static ({ cls := "IncidentKindsModel", name := "isDay", desc := "(I)Z" } : Jvm.MethodName)) ∈ mm_all := mm_w 554 rfl rfl
set_option maxRecDepth 100000 in
theorem tw555 : (Jvm.Cond.code ({ cls := "IncidentKindsModel", name := "isDay", desc := "(I)Z" } : Jvm.MethodName) prog_5_method_7_code (1 : Nat) (Option.some Jvm.ClassFile.FieldType.boolean)) ∈ mm_all := mm_w 555 rfl rfl
set_option maxRecDepth 100000 in
theorem tw556 : (Jvm.Cond.methodLink "IncidentKindsModel" (84 : Nat) ({ cls := "IncidentKindsModel", name := "most", desc := "(I)I" } : Jvm.MethodName)) ∈ mm_all := mm_w 556 rfl rfl
set_option maxRecDepth 100000 in
theorem tw557 : (Jvm.Cond.static ({ cls := "IncidentKindsModel", name := "most", desc := "(I)I" } : Jvm.MethodName)) ∈ mm_all := mm_w 557 rfl rfl
set_option maxRecDepth 100000 in
theorem tw558 : (Jvm.Cond.code ({ cls := "IncidentKindsModel", name := "most", desc := "(I)I" } : Jvm.MethodName) prog_5_method_13_code (1 : Nat) (Option.some Jvm.ClassFile.FieldType.int)) ∈ mm_all := mm_w 558 rfl rfl
set_option maxRecDepth 100000 in
theorem tw559 : (Jvm.Cond.methodLink "IncidentKindsModel" (88 : Nat) ({ cls := "IncidentKindsModel", name := "change", desc := "(IIIII)V" } : Jvm.MethodName)) ∈ mm_all := mm_w 559 rfl rfl
set_option maxRecDepth 100000 in
theorem tw561 : (Jvm.Cond.instanceMethod ({ cls := "IncidentKindsModel", name := "change", desc := "(IIIII)V" } : Jvm.MethodName)) ∈ mm_all := mm_w 561 rfl rfl
set_option maxRecDepth 100000 in
theorem tw562 : (Jvm.Cond.code ({ cls := "IncidentKindsModel", name := "change", desc := "(IIIII)V" } : Jvm.MethodName) prog_5_method_12_code (6 : Nat) (Option.none : Option Jvm.ClassFile.FieldType)) ∈ mm_all := mm_w 562 rfl rfl
set_option maxRecDepth 100000 in
theorem tw563 : (Jvm.Cond.methodLink "IncidentKindsLaw" (103 : Nat) ({ cls := "IncidentKindsModel", name := "need", desc := "(IIIII)V" } : Jvm.MethodName)) ∈ mm_all := mm_w 563 rfl rfl
set_option maxRecDepth 100000 in
theorem tw564 : (Jvm.Cond.instanceMethod ({ cls := "IncidentKindsModel", name := "need", desc := "(IIIII)V" } : Jvm.MethodName)) ∈ mm_all := mm_w 564 rfl rfl
set_option maxRecDepth 100000 in
theorem tw565 : (Jvm.Cond.selects "IncidentKindsModel" ({ cls := "IncidentKindsModel", name := "need", desc := "(IIIII)V" } : Jvm.MethodName) ({ cls := "IncidentKindsModel", name := "need", desc := "(IIIII)V" } : Jvm.MethodName)) ∈ mm_all := mm_w 565 rfl rfl
set_option maxRecDepth 100000 in
theorem tw566 : (Jvm.Cond.code ({ cls := "IncidentKindsModel", name := "need", desc := "(IIIII)V" } : Jvm.MethodName) prog_5_method_15_code (8 : Nat) (Option.none : Option Jvm.ClassFile.FieldType)) ∈ mm_all := mm_w 566 rfl rfl
set_option maxRecDepth 100000 in
theorem tw567 : (Jvm.Cond.methodLink "IncidentKindsLaw" (106 : Nat) ({ cls := "IncidentKindsModel", name := "close", desc := "(II)V" } : Jvm.MethodName)) ∈ mm_all := mm_w 567 rfl rfl
set_option maxRecDepth 100000 in
theorem tw568 : (Jvm.Cond.instanceMethod ({ cls := "IncidentKindsModel", name := "close", desc := "(II)V" } : Jvm.MethodName)) ∈ mm_all := mm_w 568 rfl rfl
set_option maxRecDepth 100000 in
theorem tw569 : (Jvm.Cond.selects "IncidentKindsModel" ({ cls := "IncidentKindsModel", name := "close", desc := "(II)V" } : Jvm.MethodName) ({ cls := "IncidentKindsModel", name := "close", desc := "(II)V" } : Jvm.MethodName)) ∈ mm_all := mm_w 569 rfl rfl
set_option maxRecDepth 100000 in
theorem tw570 : (Jvm.Cond.code ({ cls := "IncidentKindsModel", name := "close", desc := "(II)V" } : Jvm.MethodName) prog_5_method_16_code (3 : Nat) (Option.none : Option Jvm.ClassFile.FieldType)) ∈ mm_all := mm_w 570 rfl rfl
set_option maxRecDepth 100000 in
theorem tw571 : (Jvm.Cond.methodLink "IncidentKindsLaw" (117 : Nat) ({ cls := "IncidentKindsModel", name := "has", desc := "(III)I" } : Jvm.MethodName)) ∈ mm_all := mm_w 571 rfl rfl
set_option maxRecDepth 100000 in
theorem tw572 : (Jvm.Cond.instanceMethod ({ cls := "IncidentKindsModel", name := "has", desc := "(III)I" } : Jvm.MethodName)) ∈ mm_all := mm_w 572 rfl rfl
set_option maxRecDepth 100000 in
theorem tw573 : (Jvm.Cond.selects "IncidentKindsModel" ({ cls := "IncidentKindsModel", name := "has", desc := "(III)I" } : Jvm.MethodName) ({ cls := "IncidentKindsModel", name := "has", desc := "(III)I" } : Jvm.MethodName)) ∈ mm_all := mm_w 573 rfl rfl
set_option maxRecDepth 100000 in
theorem tw574 : (Jvm.Cond.code ({ cls := "IncidentKindsModel", name := "has", desc := "(III)I" } : Jvm.MethodName) prog_5_method_22_code (4 : Nat) (Option.some Jvm.ClassFile.FieldType.int)) ∈ mm_all := mm_w 574 rfl rfl
set_option maxRecDepth 100000 in
theorem tw575 : (Jvm.Cond.methodLink "IncidentKindsModel" (96 : Nat) ({ cls := "IncidentKindsModel", name := "told", desc := "(III)I" } : Jvm.MethodName)) ∈ mm_all := mm_w 575 rfl rfl
set_option maxRecDepth 100000 in
theorem tw577 : (Jvm.Cond.instanceMethod ({ cls := "IncidentKindsModel", name := "told", desc := "(III)I" } : Jvm.MethodName)) ∈ mm_all := mm_w 577 rfl rfl
set_option maxRecDepth 100000 in
theorem tw578 : (Jvm.Cond.code ({ cls := "IncidentKindsModel", name := "told", desc := "(III)I" } : Jvm.MethodName) prog_5_method_18_code (6 : Nat) (Option.some Jvm.ClassFile.FieldType.int)) ∈ mm_all := mm_w 578 rfl rfl
set_option maxRecDepth 100000 in
theorem tw579 : (Jvm.Cond.methodLink "IncidentKindsModel" (92 : Nat) ({ cls := "IncidentKindsModel", name := "counting", desc := "(III)I" } : Jvm.MethodName)) ∈ mm_all := mm_w 579 rfl rfl
set_option maxRecDepth 100000 in
theorem tw581 : (Jvm.Cond.instanceMethod ({ cls := "IncidentKindsModel", name := "counting", desc := "(III)I" } : Jvm.MethodName)) ∈ mm_all := mm_w 581 rfl rfl
set_option maxRecDepth 100000 in
theorem tw582 : (Jvm.Cond.code ({ cls := "IncidentKindsModel", name := "counting", desc := "(III)I" } : Jvm.MethodName) prog_5_method_17_code (7 : Nat) (Option.some Jvm.ClassFile.FieldType.int)) ∈ mm_all := mm_w 582 rfl rfl
set_option maxRecDepth 100000 in
theorem tw583 : (Jvm.Cond.methodLink "IncidentKindsModel" (99 : Nat) ({ cls := "IncidentKindsModel", name := "isClosed", desc := "(II)Z" } : Jvm.MethodName)) ∈ mm_all := mm_w 583 rfl rfl
set_option maxRecDepth 100000 in
theorem tw585 : (Jvm.Cond.instanceMethod ({ cls := "IncidentKindsModel", name := "isClosed", desc := "(II)Z" } : Jvm.MethodName)) ∈ mm_all := mm_w 585 rfl rfl
set_option maxRecDepth 100000 in
theorem tw586 : (Jvm.Cond.code ({ cls := "IncidentKindsModel", name := "isClosed", desc := "(II)Z" } : Jvm.MethodName) prog_5_method_20_code (5 : Nat) (Option.some Jvm.ClassFile.FieldType.boolean)) ∈ mm_all := mm_w 586 rfl rfl
set_option maxRecDepth 100000 in
theorem tw587 : (Jvm.Cond.methodLink "IncidentKindsModel" (102 : Nat) ({ cls := "IncidentKindsModel", name := "depth", desc := "(I)I" } : Jvm.MethodName)) ∈ mm_all := mm_w 587 rfl rfl
set_option maxRecDepth 100000 in
theorem tw589 : (Jvm.Cond.instanceMethod ({ cls := "IncidentKindsModel", name := "depth", desc := "(I)I" } : Jvm.MethodName)) ∈ mm_all := mm_w 589 rfl rfl
set_option maxRecDepth 100000 in
theorem tw590 : (Jvm.Cond.code ({ cls := "IncidentKindsModel", name := "depth", desc := "(I)I" } : Jvm.MethodName) prog_5_method_21_code (4 : Nat) (Option.some Jvm.ClassFile.FieldType.int)) ∈ mm_all := mm_w 590 rfl rfl
set_option maxRecDepth 100000 in
theorem tw591 : (Jvm.Cond.methodLink "IncidentKindsModel" (105 : Nat) ({ cls := "IncidentKindsModel", name := "needs", desc := "(III)I" } : Jvm.MethodName)) ∈ mm_all := mm_w 591 rfl rfl
set_option maxRecDepth 100000 in
theorem tw593 : (Jvm.Cond.instanceMethod ({ cls := "IncidentKindsModel", name := "needs", desc := "(III)I" } : Jvm.MethodName)) ∈ mm_all := mm_w 593 rfl rfl
set_option maxRecDepth 100000 in
theorem tw594 : (Jvm.Cond.code ({ cls := "IncidentKindsModel", name := "needs", desc := "(III)I" } : Jvm.MethodName) prog_5_method_19_code (8 : Nat) (Option.some Jvm.ClassFile.FieldType.int)) ∈ mm_all := mm_w 594 rfl rfl
set_option maxRecDepth 100000 in
theorem tw595 : (Jvm.Cond.methodLink "IncidentKindsLaw" (110 : Nat) ({ cls := "IncidentKindsModel", name := "area", desc := "(III)V" } : Jvm.MethodName)) ∈ mm_all := mm_w 595 rfl rfl
set_option maxRecDepth 100000 in
theorem tw596 : (Jvm.Cond.instanceMethod ({ cls := "IncidentKindsModel", name := "area", desc := "(III)V" } : Jvm.MethodName)) ∈ mm_all := mm_w 596 rfl rfl
set_option maxRecDepth 100000 in
theorem tw597 : (Jvm.Cond.selects "IncidentKindsModel" ({ cls := "IncidentKindsModel", name := "area", desc := "(III)V" } : Jvm.MethodName) ({ cls := "IncidentKindsModel", name := "area", desc := "(III)V" } : Jvm.MethodName)) ∈ mm_all := mm_w 597 rfl rfl
set_option maxRecDepth 100000 in
theorem tw598 : (Jvm.Cond.code ({ cls := "IncidentKindsModel", name := "area", desc := "(III)V" } : Jvm.MethodName) prog_5_method_24_code (7 : Nat) (Option.none : Option Jvm.ClassFile.FieldType)) ∈ mm_all := mm_w 598 rfl rfl
set_option maxRecDepth 100000 in
theorem tw599 : (Jvm.Cond.methodLink "IncidentKindsModel" (108 : Nat) ({ cls := "IncidentKindsModel", name := "isArea", desc := "(I)Z" } : Jvm.MethodName)) ∈ mm_all := mm_w 599 rfl rfl
set_option maxRecDepth 100000 in
theorem tw600 : (Jvm.Cond.static ({ cls := "IncidentKindsModel", name := "isArea", desc := "(I)Z" } : Jvm.MethodName)) ∈ mm_all := mm_w 600 rfl rfl
set_option maxRecDepth 100000 in
theorem tw601 : (Jvm.Cond.code ({ cls := "IncidentKindsModel", name := "isArea", desc := "(I)Z" } : Jvm.MethodName) prog_5_method_8_code (1 : Nat) (Option.some Jvm.ClassFile.FieldType.boolean)) ∈ mm_all := mm_w 601 rfl rfl
set_option maxRecDepth 100000 in
theorem tw602 : (Jvm.Cond.methodLink "IncidentKindsLaw" (121 : Nat) ({ cls := "IncidentKindsModel", name := "in", desc := "(II)I" } : Jvm.MethodName)) ∈ mm_all := mm_w 602 rfl rfl
set_option maxRecDepth 100000 in
theorem tw603 : (Jvm.Cond.instanceMethod ({ cls := "IncidentKindsModel", name := "in", desc := "(II)I" } : Jvm.MethodName)) ∈ mm_all := mm_w 603 rfl rfl
set_option maxRecDepth 100000 in
theorem tw604 : (Jvm.Cond.selects "IncidentKindsModel" ({ cls := "IncidentKindsModel", name := "in", desc := "(II)I" } : Jvm.MethodName) ({ cls := "IncidentKindsModel", name := "in", desc := "(II)I" } : Jvm.MethodName)) ∈ mm_all := mm_w 604 rfl rfl
set_option maxRecDepth 100000 in
theorem tw605 : (Jvm.Cond.code ({ cls := "IncidentKindsModel", name := "in", desc := "(II)I" } : Jvm.MethodName) prog_5_method_25_code (3 : Nat) (Option.some Jvm.ClassFile.FieldType.int)) ∈ mm_all := mm_w 605 rfl rfl
set_option maxRecDepth 100000 in
theorem tw606 : (Jvm.Cond.methodLink "IncidentKindsModel" (111 : Nat) ({ cls := "IncidentKindsModel", name := "follow", desc := "(II)I" } : Jvm.MethodName)) ∈ mm_all := mm_w 606 rfl rfl
set_option maxRecDepth 100000 in
theorem tw608 : (Jvm.Cond.instanceMethod ({ cls := "IncidentKindsModel", name := "follow", desc := "(II)I" } : Jvm.MethodName)) ∈ mm_all := mm_w 608 rfl rfl
set_option maxRecDepth 100000 in
theorem tw609 : (Jvm.Cond.code ({ cls := "IncidentKindsModel", name := "follow", desc := "(II)I" } : Jvm.MethodName) prog_5_method_23_code (4 : Nat) (Option.some Jvm.ClassFile.FieldType.int)) ∈ mm_all := mm_w 609 rfl rfl
set_option maxRecDepth 100000 in
theorem tw610 : (Jvm.Cond.methodLink "IncidentKindsLaw" (113 : Nat) ({ cls := "IncidentKindsModel", name := "upgrade", desc := "(III)V" } : Jvm.MethodName)) ∈ mm_all := mm_w 610 rfl rfl
set_option maxRecDepth 100000 in
theorem tw611 : (Jvm.Cond.instanceMethod ({ cls := "IncidentKindsModel", name := "upgrade", desc := "(III)V" } : Jvm.MethodName)) ∈ mm_all := mm_w 611 rfl rfl
set_option maxRecDepth 100000 in
theorem tw612 : (Jvm.Cond.selects "IncidentKindsModel" ({ cls := "IncidentKindsModel", name := "upgrade", desc := "(III)V" } : Jvm.MethodName) ({ cls := "IncidentKindsModel", name := "upgrade", desc := "(III)V" } : Jvm.MethodName)) ∈ mm_all := mm_w 612 rfl rfl
set_option maxRecDepth 100000 in
theorem tw613 : (Jvm.Cond.code ({ cls := "IncidentKindsModel", name := "upgrade", desc := "(III)V" } : Jvm.MethodName) prog_5_method_27_code (7 : Nat) (Option.none : Option Jvm.ClassFile.FieldType)) ∈ mm_all := mm_w 613 rfl rfl
set_option maxRecDepth 100000 in
theorem tw614 : (Jvm.Cond.methodLink "IncidentKindsModel" (115 : Nat) ({ cls := "IncidentKindsModel", name := "rowsOf", desc := "(Z)I" } : Jvm.MethodName)) ∈ mm_all := mm_w 614 rfl rfl
set_option maxRecDepth 100000 in
theorem tw616 : (Jvm.Cond.instanceMethod ({ cls := "IncidentKindsModel", name := "rowsOf", desc := "(Z)I" } : Jvm.MethodName)) ∈ mm_all := mm_w 616 rfl rfl
set_option maxRecDepth 100000 in
theorem tw617 : (Jvm.Cond.code ({ cls := "IncidentKindsModel", name := "rowsOf", desc := "(Z)I" } : Jvm.MethodName) prog_5_method_26_code (4 : Nat) (Option.some Jvm.ClassFile.FieldType.int)) ∈ mm_all := mm_w 617 rfl rfl
set_option maxRecDepth 100000 in
theorem tw618 : (Jvm.Cond.methodLink "IncidentKindsLaw" (124 : Nat) ({ cls := "IncidentKindsModel", name := "open", desc := "(III)I" } : Jvm.MethodName)) ∈ mm_all := mm_w 618 rfl rfl
set_option maxRecDepth 100000 in
theorem tw619 : (Jvm.Cond.instanceMethod ({ cls := "IncidentKindsModel", name := "open", desc := "(III)I" } : Jvm.MethodName)) ∈ mm_all := mm_w 619 rfl rfl
set_option maxRecDepth 100000 in
theorem tw620 : (Jvm.Cond.selects "IncidentKindsModel" ({ cls := "IncidentKindsModel", name := "open", desc := "(III)I" } : Jvm.MethodName) ({ cls := "IncidentKindsModel", name := "open", desc := "(III)I" } : Jvm.MethodName)) ∈ mm_all := mm_w 620 rfl rfl
set_option maxRecDepth 100000 in
theorem tw621 : (Jvm.Cond.code ({ cls := "IncidentKindsModel", name := "open", desc := "(III)I" } : Jvm.MethodName) prog_5_method_28_code (7 : Nat) (Option.some Jvm.ClassFile.FieldType.int)) ∈ mm_all := mm_w 621 rfl rfl
set_option maxRecDepth 100000 in
theorem tw622 : (Jvm.Cond.methodLink "IncidentKindsLaw" (127 : Nat) ({ cls := "IncidentKindsModel", name := "found", desc := "(III)I" } : Jvm.MethodName)) ∈ mm_all := mm_w 622 rfl rfl
set_option maxRecDepth 100000 in
theorem tw623 : (Jvm.Cond.instanceMethod ({ cls := "IncidentKindsModel", name := "found", desc := "(III)I" } : Jvm.MethodName)) ∈ mm_all := mm_w 623 rfl rfl
set_option maxRecDepth 100000 in
theorem tw624 : (Jvm.Cond.selects "IncidentKindsModel" ({ cls := "IncidentKindsModel", name := "found", desc := "(III)I" } : Jvm.MethodName) ({ cls := "IncidentKindsModel", name := "found", desc := "(III)I" } : Jvm.MethodName)) ∈ mm_all := mm_w 624 rfl rfl
set_option maxRecDepth 100000 in
theorem tw625 : (Jvm.Cond.code ({ cls := "IncidentKindsModel", name := "found", desc := "(III)I" } : Jvm.MethodName) prog_5_method_29_code (8 : Nat) (Option.some Jvm.ClassFile.FieldType.int)) ∈ mm_all := mm_w 625 rfl rfl
set_option maxRecDepth 100000 in
theorem tw626 : (Jvm.Cond.methodLink "IncidentKindsModel" (119 : Nat) ({ cls := "IncidentKindsModel", name := "isIncident", desc := "(I)Z" } : Jvm.MethodName)) ∈ mm_all := mm_w 626 rfl rfl
set_option maxRecDepth 100000 in
theorem tw628 : (Jvm.Cond.instanceMethod ({ cls := "IncidentKindsModel", name := "isIncident", desc := "(I)Z" } : Jvm.MethodName)) ∈ mm_all := mm_w 628 rfl rfl
set_option maxRecDepth 100000 in
theorem tw629 : (Jvm.Cond.code ({ cls := "IncidentKindsModel", name := "isIncident", desc := "(I)Z" } : Jvm.MethodName) prog_5_method_6_code (2 : Nat) (Option.some Jvm.ClassFile.FieldType.boolean)) ∈ mm_all := mm_w 629 rfl rfl
set_option maxRecDepth 100000 in
theorem tw630 : (Jvm.Cond.methodLink "IncidentKindsLaw" (130 : Nat) ({ cls := "IncidentKindsModel", name := "send", desc := "(III)I" } : Jvm.MethodName)) ∈ mm_all := mm_w 630 rfl rfl
set_option maxRecDepth 100000 in
theorem tw631 : (Jvm.Cond.instanceMethod ({ cls := "IncidentKindsModel", name := "send", desc := "(III)I" } : Jvm.MethodName)) ∈ mm_all := mm_w 631 rfl rfl
set_option maxRecDepth 100000 in
theorem tw632 : (Jvm.Cond.selects "IncidentKindsModel" ({ cls := "IncidentKindsModel", name := "send", desc := "(III)I" } : Jvm.MethodName) ({ cls := "IncidentKindsModel", name := "send", desc := "(III)I" } : Jvm.MethodName)) ∈ mm_all := mm_w 632 rfl rfl
set_option maxRecDepth 100000 in
theorem tw633 : (Jvm.Cond.code ({ cls := "IncidentKindsModel", name := "send", desc := "(III)I" } : Jvm.MethodName) prog_5_method_30_code (6 : Nat) (Option.some Jvm.ClassFile.FieldType.int)) ∈ mm_all := mm_w 633 rfl rfl
set_option maxRecDepth 100000 in
theorem tw634 : (Jvm.Cond.methodLink "IncidentKindsLaw" (133 : Nat) ({ cls := "IncidentKindsModel", name := "missing", desc := "(III)I" } : Jvm.MethodName)) ∈ mm_all := mm_w 634 rfl rfl
set_option maxRecDepth 100000 in
theorem tw635 : (Jvm.Cond.instanceMethod ({ cls := "IncidentKindsModel", name := "missing", desc := "(III)I" } : Jvm.MethodName)) ∈ mm_all := mm_w 635 rfl rfl
set_option maxRecDepth 100000 in
theorem tw636 : (Jvm.Cond.selects "IncidentKindsModel" ({ cls := "IncidentKindsModel", name := "missing", desc := "(III)I" } : Jvm.MethodName) ({ cls := "IncidentKindsModel", name := "missing", desc := "(III)I" } : Jvm.MethodName)) ∈ mm_all := mm_w 636 rfl rfl
set_option maxRecDepth 100000 in
theorem tw637 : (Jvm.Cond.code ({ cls := "IncidentKindsModel", name := "missing", desc := "(III)I" } : Jvm.MethodName) prog_5_method_31_code (6 : Nat) (Option.some Jvm.ClassFile.FieldType.int)) ∈ mm_all := mm_w 637 rfl rfl
set_option maxRecDepth 100000 in
theorem tw638 : (Jvm.Cond.methodLink "IncidentKindsLaw" (136 : Nat) ({ cls := "IncidentKindsModel", name := "incident", desc := "(II)I" } : Jvm.MethodName)) ∈ mm_all := mm_w 638 rfl rfl
set_option maxRecDepth 100000 in
theorem tw639 : (Jvm.Cond.instanceMethod ({ cls := "IncidentKindsModel", name := "incident", desc := "(II)I" } : Jvm.MethodName)) ∈ mm_all := mm_w 639 rfl rfl
set_option maxRecDepth 100000 in
theorem tw640 : (Jvm.Cond.selects "IncidentKindsModel" ({ cls := "IncidentKindsModel", name := "incident", desc := "(II)I" } : Jvm.MethodName) ({ cls := "IncidentKindsModel", name := "incident", desc := "(II)I" } : Jvm.MethodName)) ∈ mm_all := mm_w 640 rfl rfl
set_option maxRecDepth 100000 in
theorem tw641 : (Jvm.Cond.code ({ cls := "IncidentKindsModel", name := "incident", desc := "(II)I" } : Jvm.MethodName) prog_5_method_32_code (3 : Nat) (Option.some Jvm.ClassFile.FieldType.int)) ∈ mm_all := mm_w 641 rfl rfl
set_option maxRecDepth 100000 in
theorem tw642 : (Jvm.Cond.methodLink "IncidentKindsLaw" (139 : Nat) ({ cls := "IncidentKindsModel", name := "unit", desc := "(II)V" } : Jvm.MethodName)) ∈ mm_all := mm_w 642 rfl rfl
set_option maxRecDepth 100000 in
theorem tw643 : (Jvm.Cond.instanceMethod ({ cls := "IncidentKindsModel", name := "unit", desc := "(II)V" } : Jvm.MethodName)) ∈ mm_all := mm_w 643 rfl rfl
set_option maxRecDepth 100000 in
theorem tw644 : (Jvm.Cond.selects "IncidentKindsModel" ({ cls := "IncidentKindsModel", name := "unit", desc := "(II)V" } : Jvm.MethodName) ({ cls := "IncidentKindsModel", name := "unit", desc := "(II)V" } : Jvm.MethodName)) ∈ mm_all := mm_w 644 rfl rfl
set_option maxRecDepth 100000 in
theorem tw645 : (Jvm.Cond.code ({ cls := "IncidentKindsModel", name := "unit", desc := "(II)V" } : Jvm.MethodName) prog_5_method_33_code (3 : Nat) (Option.none : Option Jvm.ClassFile.FieldType)) ∈ mm_all := mm_w 645 rfl rfl
set_option maxRecDepth 100000 in
theorem tw646 : (Jvm.Cond.constant "IncidentKindsModel" (122 : Nat) (65535 : Int32)) ∈ mm_all := mm_w 646 rfl rfl
set_option maxRecDepth 100000 in
theorem tw647 : (Jvm.Cond.methodLink "IncidentKindsLaw" (142 : Nat) ({ cls := "IncidentKindsModel", name := "uncovered", desc := "(II)I" } : Jvm.MethodName)) ∈ mm_all := mm_w 647 rfl rfl
set_option maxRecDepth 100000 in
theorem tw648 : (Jvm.Cond.instanceMethod ({ cls := "IncidentKindsModel", name := "uncovered", desc := "(II)I" } : Jvm.MethodName)) ∈ mm_all := mm_w 648 rfl rfl
set_option maxRecDepth 100000 in
theorem tw649 : (Jvm.Cond.selects "IncidentKindsModel" ({ cls := "IncidentKindsModel", name := "uncovered", desc := "(II)I" } : Jvm.MethodName) ({ cls := "IncidentKindsModel", name := "uncovered", desc := "(II)I" } : Jvm.MethodName)) ∈ mm_all := mm_w 649 rfl rfl
set_option maxRecDepth 100000 in
theorem tw650 : (Jvm.Cond.code ({ cls := "IncidentKindsModel", name := "uncovered", desc := "(II)I" } : Jvm.MethodName) prog_5_method_35_code (5 : Nat) (Option.some Jvm.ClassFile.FieldType.int)) ∈ mm_all := mm_w 650 rfl rfl
set_option maxRecDepth 100000 in
theorem tw651 : (Jvm.Cond.methodLink "IncidentKindsModel" (123 : Nat) ({ cls := "IncidentKindsModel", name := "isCovered", desc := "(II)Z" } : Jvm.MethodName)) ∈ mm_all := mm_w 651 rfl rfl
set_option maxRecDepth 100000 in
theorem tw653 : (Jvm.Cond.instanceMethod ({ cls := "IncidentKindsModel", name := "isCovered", desc := "(II)Z" } : Jvm.MethodName)) ∈ mm_all := mm_w 653 rfl rfl
set_option maxRecDepth 100000 in
theorem tw654 : (Jvm.Cond.code ({ cls := "IncidentKindsModel", name := "isCovered", desc := "(II)Z" } : Jvm.MethodName) prog_5_method_34_code (6 : Nat) (Option.some Jvm.ClassFile.FieldType.boolean)) ∈ mm_all := mm_w 654 rfl rfl
set_option maxRecDepth 100000 in
theorem tw655 : (Jvm.Cond.methodLink "IncidentKindsLaw" (145 : Nat) ({ cls := "IncidentKindsModel", name := "coded", desc := "(II)I" } : Jvm.MethodName)) ∈ mm_all := mm_w 655 rfl rfl
set_option maxRecDepth 100000 in
theorem tw656 : (Jvm.Cond.instanceMethod ({ cls := "IncidentKindsModel", name := "coded", desc := "(II)I" } : Jvm.MethodName)) ∈ mm_all := mm_w 656 rfl rfl
set_option maxRecDepth 100000 in
theorem tw657 : (Jvm.Cond.selects "IncidentKindsModel" ({ cls := "IncidentKindsModel", name := "coded", desc := "(II)I" } : Jvm.MethodName) ({ cls := "IncidentKindsModel", name := "coded", desc := "(II)I" } : Jvm.MethodName)) ∈ mm_all := mm_w 657 rfl rfl
set_option maxRecDepth 100000 in
theorem tw658 : (Jvm.Cond.code ({ cls := "IncidentKindsModel", name := "coded", desc := "(II)I" } : Jvm.MethodName) prog_5_method_36_code (5 : Nat) (Option.some Jvm.ClassFile.FieldType.int)) ∈ mm_all := mm_w 658 rfl rfl
set_option maxRecDepth 100000 in
theorem tw659 : (Jvm.Cond.methodLink "IncidentKindsLaw" (148 : Nat) ({ cls := "IncidentKindsModel", name := "count", desc := "(I)I" } : Jvm.MethodName)) ∈ mm_all := mm_w 659 rfl rfl
set_option maxRecDepth 100000 in
theorem tw660 : (Jvm.Cond.instanceMethod ({ cls := "IncidentKindsModel", name := "count", desc := "(I)I" } : Jvm.MethodName)) ∈ mm_all := mm_w 660 rfl rfl
set_option maxRecDepth 100000 in
theorem tw661 : (Jvm.Cond.selects "IncidentKindsModel" ({ cls := "IncidentKindsModel", name := "count", desc := "(I)I" } : Jvm.MethodName) ({ cls := "IncidentKindsModel", name := "count", desc := "(I)I" } : Jvm.MethodName)) ∈ mm_all := mm_w 661 rfl rfl
set_option maxRecDepth 100000 in
theorem tw662 : (Jvm.Cond.code ({ cls := "IncidentKindsModel", name := "count", desc := "(I)I" } : Jvm.MethodName) prog_5_method_37_code (2 : Nat) (Option.some Jvm.ClassFile.FieldType.int)) ∈ mm_all := mm_w 662 rfl rfl
set_option maxRecDepth 100000 in
theorem tw663 : (Jvm.Cond.arrayClass Jvm.ClassFile.FieldType.long) ∈ mm_all := mm_w 663 rfl rfl
def mm_nw : List Cond := [(Jvm.Cond.methodLinkNest "IncidentKinds" (18 : Nat) ({ cls := "IncidentKinds$Changes", name := "<init>", desc := "()V" } : Jvm.MethodName) "IncidentKinds"), (Jvm.Cond.fieldLinkNest "IncidentKinds" (185 : Nat) "IncidentKinds$Changes" "hows" "[I" "IncidentKinds"), (Jvm.Cond.fieldLinkNest "IncidentKinds" (188 : Nat) "IncidentKinds$Changes" "values" "[I" "IncidentKinds"), (Jvm.Cond.fieldLinkNest "IncidentKinds" (152 : Nat) "IncidentKinds$Changes" "size" "I" "IncidentKinds"), (Jvm.Cond.methodLinkNest "IncidentKinds" (25 : Nat) ({ cls := "IncidentKinds$Rows", name := "<init>", desc := "(I)V" } : Jvm.MethodName) "IncidentKinds"), (Jvm.Cond.fieldLinkNest "IncidentKinds" (107 : Nat) "IncidentKinds$Rows" "size" "I" "IncidentKinds"), (Jvm.Cond.castable "java/lang/IllegalArgumentException" "java/lang/IllegalArgumentException"), (Jvm.Cond.declares ({ cls := "java/lang/RuntimeException", name := "<init>", desc := "()V" } : Jvm.MethodName)), (Jvm.Cond.declares ({ cls := "java/lang/RuntimeException", name := "<init>", desc := "(Ljava/lang/String;)V" } : Jvm.MethodName)), (Jvm.Cond.declares ({ cls := "java/lang/Exception", name := "<init>", desc := "()V" } : Jvm.MethodName)), (Jvm.Cond.declares ({ cls := "java/lang/Exception", name := "<init>", desc := "(Ljava/lang/String;)V" } : Jvm.MethodName)), (Jvm.Cond.declares ({ cls := "java/lang/Throwable", name := "<init>", desc := "()V" } : Jvm.MethodName)), (Jvm.Cond.declares ({ cls := "java/lang/Throwable", name := "<init>", desc := "(Ljava/lang/String;)V" } : Jvm.MethodName)), (Jvm.Cond.castable "java/lang/UnsupportedOperationException" "java/lang/UnsupportedOperationException"), (Jvm.Cond.castable "java/lang/IllegalStateException" "java/lang/IllegalStateException"), (Jvm.Cond.castable "java/lang/IndexOutOfBoundsException" "java/lang/IndexOutOfBoundsException"), (Jvm.Cond.methodLinkNest "IncidentKinds" (87 : Nat) ({ cls := "IncidentKinds$Changes", name := "hasRoom", desc := "()Z" } : Jvm.MethodName) "IncidentKinds"), (Jvm.Cond.methodLinkNest "IncidentKinds" (91 : Nat) ({ cls := "IncidentKinds$Changes", name := "tell", desc := "(IIIII)V" } : Jvm.MethodName) "IncidentKinds"), (Jvm.Cond.methodLinkNest "IncidentKinds" (103 : Nat) ({ cls := "IncidentKinds$Rows", name := "target", desc := "(II)I" } : Jvm.MethodName) "IncidentKinds"), (Jvm.Cond.methodLinkNest "IncidentKinds" (99 : Nat) ({ cls := "IncidentKinds$Rows", name := "put", desc := "(III)V" } : Jvm.MethodName) "IncidentKinds"), (Jvm.Cond.methodLinkNest "IncidentKinds" (182 : Nat) ({ cls := "IncidentKinds$Changes", name := "latest", desc := "(III)I" } : Jvm.MethodName) "IncidentKinds")]
theorem inX0 : ∀ w ∈ u_ws RX0 TX0 6, w ∈ mm_all := by
  have h : ∀ w ∈ u_ws RX0 TX0 6, w ∈ tables_1 ∧ goodWord w = true := by decide +kernel
  exact fun w hw => List.mem_filter.mpr ⟨List.mem_append_right _ (h w hw).1, (h w hw).2⟩
theorem inX1 : ∀ w ∈ u_ws RX1 TX1 3, w ∈ mm_all := by
  have h : ∀ w ∈ u_ws RX1 TX1 3, w ∈ tables_1 ∧ goodWord w = true := by decide +kernel
  exact fun w hw => List.mem_filter.mpr ⟨List.mem_append_right _ (h w hw).1, (h w hw).2⟩
theorem inX2 : ∀ w ∈ u_ws RX2 TX2 12, w ∈ mm_all := by
  have h : ∀ w ∈ u_ws RX2 TX2 12, w ∈ tables_1 ∧ goodWord w = true := by decide +kernel
  exact fun w hw => List.mem_filter.mpr ⟨List.mem_append_right _ (h w hw).1, (h w hw).2⟩
theorem inX3 : ∀ w ∈ u_ws RX3 TX3 18, w ∈ mm_all := by
  have h : ∀ w ∈ u_ws RX3 TX3 18, w ∈ tables_1 ∧ goodWord w = true := by decide +kernel
  exact fun w hw => List.mem_filter.mpr ⟨List.mem_append_right _ (h w hw).1, (h w hw).2⟩
