abbrev R_Law : String := "FaultRulesLaw"
abbrev R_java_util_Arrays : String := "java/util/Arrays"
abbrev R_java_lang_Integer : String := "java/lang/Integer"
abbrev R_LeftOut : String := "FaultRules$LeftOut"
def T_LeftOut : u_T := fun k => match k with
  | 0 => ("FaultRules$LeftOut", "minutes", "[I", true)
  | _ => ("FaultRules$LeftOut", "count", "I", false)
def ty_LeftOut : Nat → FieldType := fun k => match k with
  | 0 => .array .int
  | _ => .int
theorem n_LeftOut : ∀ a, a < 2 → ∀ b, b < 2 → a ≠ b → (T_LeftOut a).2.1 ≠ (T_LeftOut b).2.1 := by decide +kernel
theorem ty_LeftOut_ok : ∀ k, k < 2 → parseFieldDescriptor (T_LeftOut k).2.2.1 = some (ty_LeftOut k) := by decide +kernel
abbrev R_Reader : String := "FaultRules$Reader"
def T_Reader : u_T := fun k => match k with
  | 0 => ("FaultRules$Reader", "due", "I", false)
  | _ => ("FaultRules$Reader", "isNegative", "Z", false)
def ty_Reader : Nat → FieldType := fun k => match k with
  | 0 => .int
  | _ => .boolean
theorem n_Reader : ∀ a, a < 2 → ∀ b, b < 2 → a ≠ b → (T_Reader a).2.1 ≠ (T_Reader b).2.1 := by decide +kernel
theorem ty_Reader_ok : ∀ k, k < 2 → parseFieldDescriptor (T_Reader k).2.2.1 = some (ty_Reader k) := by decide +kernel
abbrev R_Rows : String := "FaultRules$Rows"
def T_Rows : u_T := fun k => match k with
  | 0 => ("FaultRules$Rows", "minutes", "[I", true)
  | 1 => ("FaultRules$Rows", "values", "[I", true)
  | 2 => ("FaultRules$Rows", "starts", "[I", true)
  | _ => ("FaultRules$Rows", "seen", "[I", true)
def ty_Rows : Nat → FieldType := fun k => match k with
  | 0 => .array .int
  | 1 => .array .int
  | 2 => .array .int
  | _ => .array .int
theorem n_Rows : ∀ a, a < 4 → ∀ b, b < 4 → a ≠ b → (T_Rows a).2.1 ≠ (T_Rows b).2.1 := by decide +kernel
theorem ty_Rows_ok : ∀ k, k < 4 → parseFieldDescriptor (T_Rows k).2.2.1 = some (ty_Rows k) := by decide +kernel
abbrev R_RuleSet : String := "FaultRules$RuleSet"
def T_RuleSet : u_T := fun k => match k with
  | 0 => ("FaultRules$RuleSet", "names", "[J", true)
  | 1 => ("FaultRules$RuleSet", "spans", "[I", true)
  | 2 => ("FaultRules$RuleSet", "costs", "[I", true)
  | 3 => ("FaultRules$RuleSet", "sizes", "[I", true)
  | 4 => ("FaultRules$RuleSet", "kinds", "[I", true)
  | 5 => ("FaultRules$RuleSet", "firsts", "[I", true)
  | 6 => ("FaultRules$RuleSet", "seconds", "[I", true)
  | 7 => ("FaultRules$RuleSet", "numbers", "[I", true)
  | _ => ("FaultRules$RuleSet", "count", "I", false)
def ty_RuleSet : Nat → FieldType := fun k => match k with
  | 0 => .array .long
  | 1 => .array .int
  | 2 => .array .int
  | 3 => .array .int
  | 4 => .array .int
  | 5 => .array .int
  | 6 => .array .int
  | 7 => .array .int
  | _ => .int
theorem n_RuleSet : ∀ a, a < 9 → ∀ b, b < 9 → a ≠ b → (T_RuleSet a).2.1 ≠ (T_RuleSet b).2.1 := by decide +kernel
theorem ty_RuleSet_ok : ∀ k, k < 9 → parseFieldDescriptor (T_RuleSet k).2.2.1 = some (ty_RuleSet k) := by decide +kernel
abbrev R_Run : String := "FaultRules$Run"
def T_Run : u_T := fun k => match k with
  | 0 => ("FaultRules$Run", "isThere", "Z", false)
  | 1 => ("FaultRules$Run", "count", "I", false)
  | 2 => ("FaultRules$Run", "total", "I", false)
  | 3 => ("FaultRules$Run", "faultyRules", "I", false)
  | 4 => ("FaultRules$Run", "minutesHeld", "[I", true)
  | 5 => ("FaultRules$Run", "since", "[I", true)
  | 6 => ("FaultRules$Run", "faultRules", "[I", true)
  | 7 => ("FaultRules$Run", "begins", "[I", true)
  | 8 => ("FaultRules$Run", "ends", "[I", true)
  | _ => ("FaultRules$Run", "faultCosts", "[I", true)
def ty_Run : Nat → FieldType := fun k => match k with
  | 0 => .boolean
  | 1 => .int
  | 2 => .int
  | 3 => .int
  | 4 => .array .int
  | 5 => .array .int
  | 6 => .array .int
  | 7 => .array .int
  | 8 => .array .int
  | _ => .array .int
theorem n_Run : ∀ a, a < 10 → ∀ b, b < 10 → a ≠ b → (T_Run a).2.1 ≠ (T_Run b).2.1 := by decide +kernel
theorem ty_Run_ok : ∀ k, k < 10 → parseFieldDescriptor (T_Run k).2.2.1 = some (ty_Run k) := by decide +kernel
abbrev R_Text : String := "FaultRules$Text"
def T_Text : u_T := fun k => match k with
  | 0 => ("FaultRules$Text", "signs", "[C", true)
  | 1 => ("FaultRules$Text", "size", "I", false)
  | 2 => ("FaultRules$Text", "at", "I", false)
  | 3 => ("FaultRules$Text", "kind", "I", false)
  | 4 => ("FaultRules$Text", "amount", "I", false)
  | _ => ("FaultRules$Text", "letters", "J", false)
def ty_Text : Nat → FieldType := fun k => match k with
  | 0 => .array .char
  | 1 => .int
  | 2 => .int
  | 3 => .int
  | 4 => .int
  | _ => .long
theorem n_Text : ∀ a, a < 6 → ∀ b, b < 6 → a ≠ b → (T_Text a).2.1 ≠ (T_Text b).2.1 := by decide +kernel
theorem ty_Text_ok : ∀ k, k < 6 → parseFieldDescriptor (T_Text k).2.2.1 = some (ty_Text k) := by decide +kernel
abbrev R_FaultRules : String := "FaultRules"
def T_FaultRules : u_T := fun k => match k with
  | 0 => ("FaultRules", "rows", "LFaultRules$Rows;", true)
  | 1 => ("FaultRules", "text", "LFaultRules$Text;", true)
  | 2 => ("FaultRules", "reader", "LFaultRules$Reader;", true)
  | 3 => ("FaultRules", "found", "LFaultRules$Run;", true)
  | 4 => ("FaultRules", "leftOut", "LFaultRules$LeftOut;", true)
  | 5 => ("FaultRules", "brought", "[I", true)
  | 6 => ("FaultRules", "ruleSet", "LFaultRules$RuleSet;", false)
  | _ => ("FaultRules", "draft", "LFaultRules$RuleSet;", false)
def ty_FaultRules : Nat → FieldType := fun k => match k with
  | 0 => .object "FaultRules$Rows"
  | 1 => .object "FaultRules$Text"
  | 2 => .object "FaultRules$Reader"
  | 3 => .object "FaultRules$Run"
  | 4 => .object "FaultRules$LeftOut"
  | 5 => .array .int
  | 6 => .object "FaultRules$RuleSet"
  | _ => .object "FaultRules$RuleSet"
theorem n_FaultRules : ∀ a, a < 8 → ∀ b, b < 8 → a ≠ b → (T_FaultRules a).2.1 ≠ (T_FaultRules b).2.1 := by decide +kernel
theorem ty_FaultRules_ok : ∀ k, k < 8 → parseFieldDescriptor (T_FaultRules k).2.2.1 = some (ty_FaultRules k) := by decide +kernel
abbrev R_Model : String := "FaultRulesModel"
def T_Model : u_T := fun k => match k with
  | 0 => ("FaultRulesModel", "thrown", "I", false)
  | 1 => ("FaultRulesModel", "rows", "I", false)
  | 2 => ("FaultRulesModel", "rowPoint", "[I", true)
  | 3 => ("FaultRulesModel", "rowMinute", "[I", true)
  | 4 => ("FaultRulesModel", "rowValue", "[I", true)
  | 5 => ("FaultRulesModel", "text", "[I", true)
  | 6 => ("FaultRulesModel", "size", "I", false)
  | 7 => ("FaultRulesModel", "kinds", "[I", true)
  | 8 => ("FaultRulesModel", "values", "[J", true)
  | 9 => ("FaultRulesModel", "words", "I", false)
  | 10 => ("FaultRulesModel", "at", "I", false)
  | 11 => ("FaultRulesModel", "names", "[J", true)
  | 12 => ("FaultRulesModel", "testCounts", "[I", true)
  | 13 => ("FaultRulesModel", "minutes", "[I", true)
  | 14 => ("FaultRulesModel", "costs", "[I", true)
  | 15 => ("FaultRulesModel", "sorts", "[I", true)
  | 16 => ("FaultRulesModel", "firsts", "[I", true)
  | 17 => ("FaultRulesModel", "seconds", "[I", true)
  | 18 => ("FaultRulesModel", "relations", "[I", true)
  | 19 => ("FaultRulesModel", "numbers", "[I", true)
  | 20 => ("FaultRulesModel", "ruleCount", "I", false)
  | 21 => ("FaultRulesModel", "last", "[I", true)
  | 22 => ("FaultRulesModel", "before", "[I", true)
  | 23 => ("FaultRulesModel", "ran", "Z", false)
  | 24 => ("FaultRulesModel", "heldCounts", "[I", true)
  | 25 => ("FaultRulesModel", "streaks", "[I", true)
  | 26 => ("FaultRulesModel", "faults", "I", false)
  | 27 => ("FaultRulesModel", "faultRule", "[I", true)
  | 28 => ("FaultRulesModel", "faultBegin", "[I", true)
  | 29 => ("FaultRulesModel", "faultEnd", "[I", true)
  | 30 => ("FaultRulesModel", "order", "[I", true)
  | 31 => ("FaultRulesModel", "left", "[I", true)
  | 32 => ("FaultRulesModel", "leftCount", "I", false)
  | _ => ("FaultRulesModel", "brings", "[I", true)
def ty_Model : Nat → FieldType := fun k => match k with
  | 0 => .int
  | 1 => .int
  | 2 => .array .int
  | 3 => .array .int
  | 4 => .array .int
  | 5 => .array .int
  | 6 => .int
  | 7 => .array .int
  | 8 => .array .long
  | 9 => .int
  | 10 => .int
  | 11 => .array .long
  | 12 => .array .int
  | 13 => .array .int
  | 14 => .array .int
  | 15 => .array .int
  | 16 => .array .int
  | 17 => .array .int
  | 18 => .array .int
  | 19 => .array .int
  | 20 => .int
  | 21 => .array .int
  | 22 => .array .int
  | 23 => .boolean
  | 24 => .array .int
  | 25 => .array .int
  | 26 => .int
  | 27 => .array .int
  | 28 => .array .int
  | 29 => .array .int
  | 30 => .array .int
  | 31 => .array .int
  | 32 => .int
  | _ => .array .int
theorem n_Model : ∀ a, a < 34 → ∀ b, b < 34 → a ≠ b → (T_Model a).2.1 ≠ (T_Model b).2.1 := by decide +kernel
theorem ty_Model_ok : ∀ k, k < 34 → parseFieldDescriptor (T_Model k).2.2.1 = some (ty_Model k) := by decide +kernel
abbrev vwCl : List vw_C := [(R_LeftOut, T_LeftOut, 2), (R_Reader, T_Reader, 2), (R_Rows, T_Rows, 4), (R_RuleSet, T_RuleSet, 9), (R_Run, T_Run, 10), (R_Text, T_Text, 6), (R_FaultRules, T_FaultRules, 8), (R_Model, T_Model, 34)]
abbrev y_Rows_isFull : MethodName := { cls := "FaultRules$Rows", name := "isFull", desc := "()Z" }
theorem kC_Rows_isFull : Cond.code ({ cls := "FaultRules$Rows", name := "isFull", desc := "()Z" } : Jvm.MethodName) prog_4_method_2_code (1 : Nat) (Option.some Jvm.ClassFile.FieldType.boolean) ∈ xT := x_t2 rfl (i := 190) rfl
theorem hd_Rows_isFull : y_Rows_isFull.cls ≠ "java/lang/invoke/MethodHandle" ∧ y_Rows_isFull.cls ≠ "java/lang/invoke/VarHandle" ∧ (parseMethodDescriptor y_Rows_isFull.desc).map (fun d => d.parameters.length) = some 0 := by decide +kernel
theorem d_Rows_isFull_0 : decode prog_4_method_2_code 0 = .ok (.aload_n 0, 1) := by decide +kernel
theorem d_Rows_isFull_1 : decode prog_4_method_2_code 1 = .ok (.getfield 18, 3) := by decide +kernel
theorem d_Rows_isFull_4 : decode prog_4_method_2_code 4 = .ok (.bipush 16, 2) := by decide +kernel
theorem d_Rows_isFull_6 : decode prog_4_method_2_code 6 = .ok (.iaload, 1) := by decide +kernel
theorem d_Rows_isFull_7 : decode prog_4_method_2_code 7 = .ok (.bipush 120, 2) := by decide +kernel
theorem d_Rows_isFull_9 : decode prog_4_method_2_code 9 = .ok (.if_icmp .lt 7, 3) := by decide +kernel
theorem d_Rows_isFull_12 : decode prog_4_method_2_code 12 = .ok (.iconst 1, 1) := by decide +kernel
theorem d_Rows_isFull_13 : decode prog_4_method_2_code 13 = .ok (.goto 4, 3) := by decide +kernel
theorem d_Rows_isFull_16 : decode prog_4_method_2_code 16 = .ok (.iconst 0, 1) := by decide +kernel
theorem d_Rows_isFull_17 : decode prog_4_method_2_code 17 = .ok (.ireturn, 1) := by decide +kernel
theorem kF_Rows_18 : Cond.fieldLink "FaultRules$Rows" (18 : Nat) "FaultRules$Rows" "starts" "[I" ∈ xT := x_t1 rfl (i := 34) rfl
abbrev y_Rows_isBehindLast : MethodName := { cls := "FaultRules$Rows", name := "isBehindLast", desc := "(II)Z" }
theorem kC_Rows_isBehindLast : Cond.code ({ cls := "FaultRules$Rows", name := "isBehindLast", desc := "(II)Z" } : Jvm.MethodName) prog_4_method_3_code (4 : Nat) (Option.some Jvm.ClassFile.FieldType.boolean) ∈ xT := x_t2 rfl (i := 194) rfl
theorem hd_Rows_isBehindLast : y_Rows_isBehindLast.cls ≠ "java/lang/invoke/MethodHandle" ∧ y_Rows_isBehindLast.cls ≠ "java/lang/invoke/VarHandle" ∧ (parseMethodDescriptor y_Rows_isBehindLast.desc).map (fun d => d.parameters.length) = some 2 := by decide +kernel
theorem d_Rows_isBehindLast_0 : decode prog_4_method_3_code 0 = .ok (.aload_n 0, 1) := by decide +kernel
theorem d_Rows_isBehindLast_1 : decode prog_4_method_3_code 1 = .ok (.getfield 18, 3) := by decide +kernel
theorem d_Rows_isBehindLast_4 : decode prog_4_method_3_code 4 = .ok (.iload_n 1, 1) := by decide +kernel
theorem d_Rows_isBehindLast_5 : decode prog_4_method_3_code 5 = .ok (.iconst 1, 1) := by decide +kernel
theorem d_Rows_isBehindLast_6 : decode prog_4_method_3_code 6 = .ok (.iadd, 1) := by decide +kernel
theorem d_Rows_isBehindLast_7 : decode prog_4_method_3_code 7 = .ok (.iaload, 1) := by decide +kernel
theorem d_Rows_isBehindLast_8 : decode prog_4_method_3_code 8 = .ok (.istore_n 3, 1) := by decide +kernel
theorem d_Rows_isBehindLast_9 : decode prog_4_method_3_code 9 = .ok (.iload_n 3, 1) := by decide +kernel
theorem d_Rows_isBehindLast_10 : decode prog_4_method_3_code 10 = .ok (.aload_n 0, 1) := by decide +kernel
theorem d_Rows_isBehindLast_11 : decode prog_4_method_3_code 11 = .ok (.getfield 18, 3) := by decide +kernel
theorem d_Rows_isBehindLast_14 : decode prog_4_method_3_code 14 = .ok (.iload_n 1, 1) := by decide +kernel
theorem d_Rows_isBehindLast_15 : decode prog_4_method_3_code 15 = .ok (.iaload, 1) := by decide +kernel
theorem d_Rows_isBehindLast_16 : decode prog_4_method_3_code 16 = .ok (.if_icmp .eq 15, 3) := by decide +kernel
theorem d_Rows_isBehindLast_19 : decode prog_4_method_3_code 19 = .ok (.aload_n 0, 1) := by decide +kernel
theorem d_Rows_isBehindLast_20 : decode prog_4_method_3_code 20 = .ok (.getfield 9, 3) := by decide +kernel
theorem d_Rows_isBehindLast_23 : decode prog_4_method_3_code 23 = .ok (.iload_n 3, 1) := by decide +kernel
theorem d_Rows_isBehindLast_24 : decode prog_4_method_3_code 24 = .ok (.iconst 1, 1) := by decide +kernel
theorem d_Rows_isBehindLast_25 : decode prog_4_method_3_code 25 = .ok (.isub, 1) := by decide +kernel
theorem d_Rows_isBehindLast_26 : decode prog_4_method_3_code 26 = .ok (.iaload, 1) := by decide +kernel
theorem d_Rows_isBehindLast_27 : decode prog_4_method_3_code 27 = .ok (.iload_n 2, 1) := by decide +kernel
theorem d_Rows_isBehindLast_28 : decode prog_4_method_3_code 28 = .ok (.if_icmp .ge 7, 3) := by decide +kernel
theorem d_Rows_isBehindLast_31 : decode prog_4_method_3_code 31 = .ok (.iconst 1, 1) := by decide +kernel
theorem d_Rows_isBehindLast_32 : decode prog_4_method_3_code 32 = .ok (.goto 4, 3) := by decide +kernel
theorem d_Rows_isBehindLast_35 : decode prog_4_method_3_code 35 = .ok (.iconst 0, 1) := by decide +kernel
theorem d_Rows_isBehindLast_36 : decode prog_4_method_3_code 36 = .ok (.ireturn, 1) := by decide +kernel
theorem kF_Rows_9 : Cond.fieldLink "FaultRules$Rows" (9 : Nat) "FaultRules$Rows" "minutes" "[I" ∈ xT := x_t1 rfl (i := 32) rfl
abbrev y_Rows_add : MethodName := { cls := "FaultRules$Rows", name := "add", desc := "(III)I" }
theorem kC_Rows_add : Cond.code ({ cls := "FaultRules$Rows", name := "add", desc := "(III)I" } : Jvm.MethodName) prog_4_method_4_code (7 : Nat) (Option.some Jvm.ClassFile.FieldType.int) ∈ xT := x_t2 rfl (i := 214) rfl
theorem hd_Rows_add : y_Rows_add.cls ≠ "java/lang/invoke/MethodHandle" ∧ y_Rows_add.cls ≠ "java/lang/invoke/VarHandle" ∧ (parseMethodDescriptor y_Rows_add.desc).map (fun d => d.parameters.length) = some 3 := by decide +kernel
theorem d_Rows_add_0 : decode prog_4_method_4_code 0 = .ok (.aload_n 0, 1) := by decide +kernel
theorem d_Rows_add_1 : decode prog_4_method_4_code 1 = .ok (.getfield 18, 3) := by decide +kernel
theorem d_Rows_add_4 : decode prog_4_method_4_code 4 = .ok (.iload_n 1, 1) := by decide +kernel
theorem d_Rows_add_5 : decode prog_4_method_4_code 5 = .ok (.iconst 1, 1) := by decide +kernel
theorem d_Rows_add_6 : decode prog_4_method_4_code 6 = .ok (.iadd, 1) := by decide +kernel
theorem d_Rows_add_7 : decode prog_4_method_4_code 7 = .ok (.iaload, 1) := by decide +kernel
theorem d_Rows_add_8 : decode prog_4_method_4_code 8 = .ok (.istore 4, 2) := by decide +kernel
theorem d_Rows_add_10 : decode prog_4_method_4_code 10 = .ok (.aload_n 0, 1) := by decide +kernel
theorem d_Rows_add_11 : decode prog_4_method_4_code 11 = .ok (.getfield 18, 3) := by decide +kernel
theorem d_Rows_add_14 : decode prog_4_method_4_code 14 = .ok (.bipush 16, 2) := by decide +kernel
theorem d_Rows_add_16 : decode prog_4_method_4_code 16 = .ok (.iaload, 1) := by decide +kernel
theorem d_Rows_add_17 : decode prog_4_method_4_code 17 = .ok (.iload 4, 2) := by decide +kernel
theorem d_Rows_add_19 : decode prog_4_method_4_code 19 = .ok (.isub, 1) := by decide +kernel
theorem d_Rows_add_20 : decode prog_4_method_4_code 20 = .ok (.istore 5, 2) := by decide +kernel
theorem d_Rows_add_22 : decode prog_4_method_4_code 22 = .ok (.aload_n 0, 1) := by decide +kernel
theorem d_Rows_add_23 : decode prog_4_method_4_code 23 = .ok (.getfield 9, 3) := by decide +kernel
theorem d_Rows_add_26 : decode prog_4_method_4_code 26 = .ok (.iload 4, 2) := by decide +kernel
theorem d_Rows_add_28 : decode prog_4_method_4_code 28 = .ok (.aload_n 0, 1) := by decide +kernel
theorem d_Rows_add_29 : decode prog_4_method_4_code 29 = .ok (.getfield 9, 3) := by decide +kernel
theorem d_Rows_add_32 : decode prog_4_method_4_code 32 = .ok (.iload 4, 2) := by decide +kernel
theorem d_Rows_add_34 : decode prog_4_method_4_code 34 = .ok (.iconst 1, 1) := by decide +kernel
theorem d_Rows_add_35 : decode prog_4_method_4_code 35 = .ok (.iadd, 1) := by decide +kernel
theorem d_Rows_add_36 : decode prog_4_method_4_code 36 = .ok (.iload 5, 2) := by decide +kernel
theorem d_Rows_add_38 : decode prog_4_method_4_code 38 = .ok (.invokestatic 24, 3) := by decide +kernel
theorem d_Rows_add_41 : decode prog_4_method_4_code 41 = .ok (.aload_n 0, 1) := by decide +kernel
theorem d_Rows_add_42 : decode prog_4_method_4_code 42 = .ok (.getfield 15, 3) := by decide +kernel
theorem d_Rows_add_45 : decode prog_4_method_4_code 45 = .ok (.iload 4, 2) := by decide +kernel
theorem d_Rows_add_47 : decode prog_4_method_4_code 47 = .ok (.aload_n 0, 1) := by decide +kernel
theorem d_Rows_add_48 : decode prog_4_method_4_code 48 = .ok (.getfield 15, 3) := by decide +kernel
theorem d_Rows_add_51 : decode prog_4_method_4_code 51 = .ok (.iload 4, 2) := by decide +kernel
theorem d_Rows_add_53 : decode prog_4_method_4_code 53 = .ok (.iconst 1, 1) := by decide +kernel
theorem d_Rows_add_54 : decode prog_4_method_4_code 54 = .ok (.iadd, 1) := by decide +kernel
theorem d_Rows_add_55 : decode prog_4_method_4_code 55 = .ok (.iload 5, 2) := by decide +kernel
theorem d_Rows_add_57 : decode prog_4_method_4_code 57 = .ok (.invokestatic 24, 3) := by decide +kernel
theorem d_Rows_add_60 : decode prog_4_method_4_code 60 = .ok (.aload_n 0, 1) := by decide +kernel
theorem d_Rows_add_61 : decode prog_4_method_4_code 61 = .ok (.getfield 9, 3) := by decide +kernel
theorem d_Rows_add_64 : decode prog_4_method_4_code 64 = .ok (.iload 4, 2) := by decide +kernel
theorem d_Rows_add_66 : decode prog_4_method_4_code 66 = .ok (.iload_n 2, 1) := by decide +kernel
theorem d_Rows_add_67 : decode prog_4_method_4_code 67 = .ok (.iastore, 1) := by decide +kernel
theorem d_Rows_add_68 : decode prog_4_method_4_code 68 = .ok (.aload_n 0, 1) := by decide +kernel
theorem d_Rows_add_69 : decode prog_4_method_4_code 69 = .ok (.getfield 15, 3) := by decide +kernel
theorem d_Rows_add_72 : decode prog_4_method_4_code 72 = .ok (.iload 4, 2) := by decide +kernel
theorem d_Rows_add_74 : decode prog_4_method_4_code 74 = .ok (.iload_n 3, 1) := by decide +kernel
theorem d_Rows_add_75 : decode prog_4_method_4_code 75 = .ok (.iastore, 1) := by decide +kernel
theorem d_Rows_add_76 : decode prog_4_method_4_code 76 = .ok (.iload_n 1, 1) := by decide +kernel
theorem d_Rows_add_77 : decode prog_4_method_4_code 77 = .ok (.iconst 1, 1) := by decide +kernel
theorem d_Rows_add_78 : decode prog_4_method_4_code 78 = .ok (.iadd, 1) := by decide +kernel
theorem d_Rows_add_79 : decode prog_4_method_4_code 79 = .ok (.istore 6, 2) := by decide +kernel
theorem d_Rows_add_81 : decode prog_4_method_4_code 81 = .ok (.iload 6, 2) := by decide +kernel
theorem d_Rows_add_83 : decode prog_4_method_4_code 83 = .ok (.bipush 16, 2) := by decide +kernel
theorem d_Rows_add_85 : decode prog_4_method_4_code 85 = .ok (.if_icmp .gt 20, 3) := by decide +kernel
theorem d_Rows_add_88 : decode prog_4_method_4_code 88 = .ok (.aload_n 0, 1) := by decide +kernel
theorem d_Rows_add_89 : decode prog_4_method_4_code 89 = .ok (.getfield 18, 3) := by decide +kernel
theorem d_Rows_add_92 : decode prog_4_method_4_code 92 = .ok (.iload 6, 2) := by decide +kernel
theorem d_Rows_add_94 : decode prog_4_method_4_code 94 = .ok (.dup2, 1) := by decide +kernel
theorem d_Rows_add_95 : decode prog_4_method_4_code 95 = .ok (.iaload, 1) := by decide +kernel
theorem d_Rows_add_96 : decode prog_4_method_4_code 96 = .ok (.iconst 1, 1) := by decide +kernel
theorem d_Rows_add_97 : decode prog_4_method_4_code 97 = .ok (.iadd, 1) := by decide +kernel
theorem d_Rows_add_98 : decode prog_4_method_4_code 98 = .ok (.iastore, 1) := by decide +kernel
theorem d_Rows_add_99 : decode prog_4_method_4_code 99 = .ok (.iinc 6 1, 3) := by decide +kernel
theorem d_Rows_add_102 : decode prog_4_method_4_code 102 = .ok (.goto (-21), 3) := by decide +kernel
theorem d_Rows_add_105 : decode prog_4_method_4_code 105 = .ok (.aload_n 0, 1) := by decide +kernel
theorem d_Rows_add_106 : decode prog_4_method_4_code 106 = .ok (.getfield 18, 3) := by decide +kernel
theorem d_Rows_add_109 : decode prog_4_method_4_code 109 = .ok (.iload_n 1, 1) := by decide +kernel
theorem d_Rows_add_110 : decode prog_4_method_4_code 110 = .ok (.iconst 1, 1) := by decide +kernel
theorem d_Rows_add_111 : decode prog_4_method_4_code 111 = .ok (.iadd, 1) := by decide +kernel
theorem d_Rows_add_112 : decode prog_4_method_4_code 112 = .ok (.iaload, 1) := by decide +kernel
theorem d_Rows_add_113 : decode prog_4_method_4_code 113 = .ok (.aload_n 0, 1) := by decide +kernel
theorem d_Rows_add_114 : decode prog_4_method_4_code 114 = .ok (.getfield 18, 3) := by decide +kernel
theorem d_Rows_add_117 : decode prog_4_method_4_code 117 = .ok (.iload_n 1, 1) := by decide +kernel
theorem d_Rows_add_118 : decode prog_4_method_4_code 118 = .ok (.iaload, 1) := by decide +kernel
theorem d_Rows_add_119 : decode prog_4_method_4_code 119 = .ok (.isub, 1) := by decide +kernel
theorem d_Rows_add_120 : decode prog_4_method_4_code 120 = .ok (.ireturn, 1) := by decide +kernel
theorem kM_Rows_24 : Cond.methodLink "FaultRules$Rows" (24 : Nat) ({ cls := "java/lang/System", name := "arraycopy", desc := "(Ljava/lang/Object;ILjava/lang/Object;II)V" } : Jvm.MethodName) ∈ xT := x_t2 rfl (i := 215) rfl
theorem kV_copy : Cond.native ({ cls := "java/lang/System", name := "arraycopy", desc := "(Ljava/lang/Object;ILjava/lang/Object;II)V" } : Jvm.MethodName) ∈ xT := x_t2 rfl (i := 217) rfl
theorem kT_copy : Cond.static ({ cls := "java/lang/System", name := "arraycopy", desc := "(Ljava/lang/Object;ILjava/lang/Object;II)V" } : Jvm.MethodName) ∈ xT := x_t2 rfl (i := 216) rfl
theorem kN_System : Cond.initialized "java/lang/System" ∈ xT := x_t1 rfl (i := 14) rfl
theorem kF_Rows_15 : Cond.fieldLink "FaultRules$Rows" (15 : Nat) "FaultRules$Rows" "values" "[I" ∈ xT := x_t1 rfl (i := 33) rfl
abbrev y_java_util_Arrays_fill : MethodName := { cls := "java/util/Arrays", name := "fill", desc := "([II)V" }
theorem kC_java_util_Arrays_fill : Cond.code ({ cls := "java/util/Arrays", name := "fill", desc := "([II)V" } : Jvm.MethodName) prog_19_method_103_code (4 : Nat) (Option.none : Option Jvm.ClassFile.FieldType) ∈ xT := x_t2 rfl (i := 232) rfl
theorem hd_java_util_Arrays_fill : y_java_util_Arrays_fill.cls ≠ "java/lang/invoke/MethodHandle" ∧ y_java_util_Arrays_fill.cls ≠ "java/lang/invoke/VarHandle" ∧ (parseMethodDescriptor y_java_util_Arrays_fill.desc).map (fun d => d.parameters.length) = some 2 := by decide +kernel
theorem d_java_util_Arrays_fill_0 : decode prog_19_method_103_code 0 = .ok (.iconst 0, 1) := by decide +kernel
theorem d_java_util_Arrays_fill_1 : decode prog_19_method_103_code 1 = .ok (.istore_n 2, 1) := by decide +kernel
theorem d_java_util_Arrays_fill_2 : decode prog_19_method_103_code 2 = .ok (.aload_n 0, 1) := by decide +kernel
theorem d_java_util_Arrays_fill_3 : decode prog_19_method_103_code 3 = .ok (.arraylength, 1) := by decide +kernel
theorem d_java_util_Arrays_fill_4 : decode prog_19_method_103_code 4 = .ok (.istore_n 3, 1) := by decide +kernel
theorem d_java_util_Arrays_fill_5 : decode prog_19_method_103_code 5 = .ok (.iload_n 2, 1) := by decide +kernel
theorem d_java_util_Arrays_fill_6 : decode prog_19_method_103_code 6 = .ok (.iload_n 3, 1) := by decide +kernel
theorem d_java_util_Arrays_fill_7 : decode prog_19_method_103_code 7 = .ok (.if_icmp .ge 13, 3) := by decide +kernel
theorem d_java_util_Arrays_fill_10 : decode prog_19_method_103_code 10 = .ok (.aload_n 0, 1) := by decide +kernel
theorem d_java_util_Arrays_fill_11 : decode prog_19_method_103_code 11 = .ok (.iload_n 2, 1) := by decide +kernel
theorem d_java_util_Arrays_fill_12 : decode prog_19_method_103_code 12 = .ok (.iload_n 1, 1) := by decide +kernel
theorem d_java_util_Arrays_fill_13 : decode prog_19_method_103_code 13 = .ok (.iastore, 1) := by decide +kernel
theorem d_java_util_Arrays_fill_14 : decode prog_19_method_103_code 14 = .ok (.iinc 2 1, 3) := by decide +kernel
theorem d_java_util_Arrays_fill_17 : decode prog_19_method_103_code 17 = .ok (.goto (-12), 3) := by decide +kernel
theorem d_java_util_Arrays_fill_20 : decode prog_19_method_103_code 20 = .ok (.return_, 1) := by decide +kernel
abbrev y_Rows_rewind : MethodName := { cls := "FaultRules$Rows", name := "rewind", desc := "()V" }
theorem kC_Rows_rewind : Cond.code ({ cls := "FaultRules$Rows", name := "rewind", desc := "()V" } : Jvm.MethodName) prog_4_method_5_code (1 : Nat) (Option.none : Option Jvm.ClassFile.FieldType) ∈ xT := x_t2 rfl (i := 229) rfl
theorem hd_Rows_rewind : y_Rows_rewind.cls ≠ "java/lang/invoke/MethodHandle" ∧ y_Rows_rewind.cls ≠ "java/lang/invoke/VarHandle" ∧ (parseMethodDescriptor y_Rows_rewind.desc).map (fun d => d.parameters.length) = some 0 := by decide +kernel
theorem d_Rows_rewind_0 : decode prog_4_method_5_code 0 = .ok (.aload_n 0, 1) := by decide +kernel
theorem d_Rows_rewind_1 : decode prog_4_method_5_code 1 = .ok (.getfield 21, 3) := by decide +kernel
theorem d_Rows_rewind_4 : decode prog_4_method_5_code 4 = .ok (.iconst 0, 1) := by decide +kernel
theorem d_Rows_rewind_5 : decode prog_4_method_5_code 5 = .ok (.invokestatic 30, 3) := by decide +kernel
theorem d_Rows_rewind_8 : decode prog_4_method_5_code 8 = .ok (.return_, 1) := by decide +kernel
theorem kF_Rows_21 : Cond.fieldLink "FaultRules$Rows" (21 : Nat) "FaultRules$Rows" "seen" "[I" ∈ xT := x_t1 rfl (i := 35) rfl
theorem kM_Rows_30 : Cond.methodLink "FaultRules$Rows" (30 : Nat) ({ cls := "java/util/Arrays", name := "fill", desc := "([II)V" } : Jvm.MethodName) ∈ xT := x_t2 rfl (i := 230) rfl
theorem kN_java_util_Arrays : Cond.initialized "java/util/Arrays" ∈ xT := x_t1 rfl (i := 15) rfl
theorem kT_java_util_Arrays_fill : Cond.static ({ cls := "java/util/Arrays", name := "fill", desc := "([II)V" } : Jvm.MethodName) ∈ xT := x_t2 rfl (i := 231) rfl
abbrev y_Rows_advance : MethodName := { cls := "FaultRules$Rows", name := "advance", desc := "(I)V" }
theorem kC_Rows_advance : Cond.code ({ cls := "FaultRules$Rows", name := "advance", desc := "(I)V" } : Jvm.MethodName) prog_4_method_6_code (4 : Nat) (Option.none : Option Jvm.ClassFile.FieldType) ∈ xT := x_t2 rfl (i := 236) rfl
theorem hd_Rows_advance : y_Rows_advance.cls ≠ "java/lang/invoke/MethodHandle" ∧ y_Rows_advance.cls ≠ "java/lang/invoke/VarHandle" ∧ (parseMethodDescriptor y_Rows_advance.desc).map (fun d => d.parameters.length) = some 1 := by decide +kernel
theorem d_Rows_advance_0 : decode prog_4_method_6_code 0 = .ok (.iconst 0, 1) := by decide +kernel
theorem d_Rows_advance_1 : decode prog_4_method_6_code 1 = .ok (.istore_n 2, 1) := by decide +kernel
theorem d_Rows_advance_2 : decode prog_4_method_6_code 2 = .ok (.iload_n 2, 1) := by decide +kernel
theorem d_Rows_advance_3 : decode prog_4_method_6_code 3 = .ok (.bipush 16, 2) := by decide +kernel
theorem d_Rows_advance_5 : decode prog_4_method_6_code 5 = .ok (.if_icmp .ge 65, 3) := by decide +kernel
theorem d_Rows_advance_8 : decode prog_4_method_6_code 8 = .ok (.aload_n 0, 1) := by decide +kernel
theorem d_Rows_advance_9 : decode prog_4_method_6_code 9 = .ok (.getfield 18, 3) := by decide +kernel
theorem d_Rows_advance_12 : decode prog_4_method_6_code 12 = .ok (.iload_n 2, 1) := by decide +kernel
theorem d_Rows_advance_13 : decode prog_4_method_6_code 13 = .ok (.iaload, 1) := by decide +kernel
theorem d_Rows_advance_14 : decode prog_4_method_6_code 14 = .ok (.aload_n 0, 1) := by decide +kernel
theorem d_Rows_advance_15 : decode prog_4_method_6_code 15 = .ok (.getfield 21, 3) := by decide +kernel
theorem d_Rows_advance_18 : decode prog_4_method_6_code 18 = .ok (.iload_n 2, 1) := by decide +kernel
theorem d_Rows_advance_19 : decode prog_4_method_6_code 19 = .ok (.iaload, 1) := by decide +kernel
theorem d_Rows_advance_20 : decode prog_4_method_6_code 20 = .ok (.iadd, 1) := by decide +kernel
theorem d_Rows_advance_21 : decode prog_4_method_6_code 21 = .ok (.istore_n 3, 1) := by decide +kernel
theorem d_Rows_advance_22 : decode prog_4_method_6_code 22 = .ok (.iload_n 3, 1) := by decide +kernel
theorem d_Rows_advance_23 : decode prog_4_method_6_code 23 = .ok (.aload_n 0, 1) := by decide +kernel
theorem d_Rows_advance_24 : decode prog_4_method_6_code 24 = .ok (.getfield 18, 3) := by decide +kernel
theorem d_Rows_advance_27 : decode prog_4_method_6_code 27 = .ok (.iload_n 2, 1) := by decide +kernel
theorem d_Rows_advance_28 : decode prog_4_method_6_code 28 = .ok (.iconst 1, 1) := by decide +kernel
theorem d_Rows_advance_29 : decode prog_4_method_6_code 29 = .ok (.iadd, 1) := by decide +kernel
theorem d_Rows_advance_30 : decode prog_4_method_6_code 30 = .ok (.iaload, 1) := by decide +kernel
theorem d_Rows_advance_31 : decode prog_4_method_6_code 31 = .ok (.if_icmp .ge 19, 3) := by decide +kernel
theorem d_Rows_advance_34 : decode prog_4_method_6_code 34 = .ok (.aload_n 0, 1) := by decide +kernel
theorem d_Rows_advance_35 : decode prog_4_method_6_code 35 = .ok (.getfield 9, 3) := by decide +kernel
theorem d_Rows_advance_38 : decode prog_4_method_6_code 38 = .ok (.iload_n 3, 1) := by decide +kernel
theorem d_Rows_advance_39 : decode prog_4_method_6_code 39 = .ok (.iaload, 1) := by decide +kernel
theorem d_Rows_advance_40 : decode prog_4_method_6_code 40 = .ok (.iload_n 1, 1) := by decide +kernel
theorem d_Rows_advance_41 : decode prog_4_method_6_code 41 = .ok (.if_icmp .gt 9, 3) := by decide +kernel
theorem d_Rows_advance_44 : decode prog_4_method_6_code 44 = .ok (.iinc 3 1, 3) := by decide +kernel
theorem d_Rows_advance_47 : decode prog_4_method_6_code 47 = .ok (.goto (-25), 3) := by decide +kernel
theorem d_Rows_advance_50 : decode prog_4_method_6_code 50 = .ok (.aload_n 0, 1) := by decide +kernel
theorem d_Rows_advance_51 : decode prog_4_method_6_code 51 = .ok (.getfield 21, 3) := by decide +kernel
theorem d_Rows_advance_54 : decode prog_4_method_6_code 54 = .ok (.iload_n 2, 1) := by decide +kernel
theorem d_Rows_advance_55 : decode prog_4_method_6_code 55 = .ok (.iload_n 3, 1) := by decide +kernel
theorem d_Rows_advance_56 : decode prog_4_method_6_code 56 = .ok (.aload_n 0, 1) := by decide +kernel
theorem d_Rows_advance_57 : decode prog_4_method_6_code 57 = .ok (.getfield 18, 3) := by decide +kernel
theorem d_Rows_advance_60 : decode prog_4_method_6_code 60 = .ok (.iload_n 2, 1) := by decide +kernel
theorem d_Rows_advance_61 : decode prog_4_method_6_code 61 = .ok (.iaload, 1) := by decide +kernel
theorem d_Rows_advance_62 : decode prog_4_method_6_code 62 = .ok (.isub, 1) := by decide +kernel
theorem d_Rows_advance_63 : decode prog_4_method_6_code 63 = .ok (.iastore, 1) := by decide +kernel
theorem d_Rows_advance_64 : decode prog_4_method_6_code 64 = .ok (.iinc 2 1, 3) := by decide +kernel
theorem d_Rows_advance_67 : decode prog_4_method_6_code 67 = .ok (.goto (-65), 3) := by decide +kernel
theorem d_Rows_advance_70 : decode prog_4_method_6_code 70 = .ok (.return_, 1) := by decide +kernel
abbrev y_Rows_has : MethodName := { cls := "FaultRules$Rows", name := "has", desc := "(I)Z" }
theorem kC_Rows_has : Cond.code ({ cls := "FaultRules$Rows", name := "has", desc := "(I)Z" } : Jvm.MethodName) prog_4_method_7_code (2 : Nat) (Option.some Jvm.ClassFile.FieldType.boolean) ∈ xT := x_t3 rfl (i := 0) rfl
theorem hd_Rows_has : y_Rows_has.cls ≠ "java/lang/invoke/MethodHandle" ∧ y_Rows_has.cls ≠ "java/lang/invoke/VarHandle" ∧ (parseMethodDescriptor y_Rows_has.desc).map (fun d => d.parameters.length) = some 1 := by decide +kernel
theorem d_Rows_has_0 : decode prog_4_method_7_code 0 = .ok (.aload_n 0, 1) := by decide +kernel
theorem d_Rows_has_1 : decode prog_4_method_7_code 1 = .ok (.getfield 21, 3) := by decide +kernel
theorem d_Rows_has_4 : decode prog_4_method_7_code 4 = .ok (.iload_n 1, 1) := by decide +kernel
theorem d_Rows_has_5 : decode prog_4_method_7_code 5 = .ok (.iaload, 1) := by decide +kernel
theorem d_Rows_has_6 : decode prog_4_method_7_code 6 = .ok (.ifCond .le 7, 3) := by decide +kernel
theorem d_Rows_has_9 : decode prog_4_method_7_code 9 = .ok (.iconst 1, 1) := by decide +kernel
theorem d_Rows_has_10 : decode prog_4_method_7_code 10 = .ok (.goto 4, 3) := by decide +kernel
theorem d_Rows_has_13 : decode prog_4_method_7_code 13 = .ok (.iconst 0, 1) := by decide +kernel
theorem d_Rows_has_14 : decode prog_4_method_7_code 14 = .ok (.ireturn, 1) := by decide +kernel
abbrev y_Rows_latestValue : MethodName := { cls := "FaultRules$Rows", name := "latestValue", desc := "(I)I" }
theorem kC_Rows_latestValue : Cond.code ({ cls := "FaultRules$Rows", name := "latestValue", desc := "(I)I" } : Jvm.MethodName) prog_4_method_8_code (2 : Nat) (Option.some Jvm.ClassFile.FieldType.int) ∈ xT := x_t3 rfl (i := 5) rfl
theorem hd_Rows_latestValue : y_Rows_latestValue.cls ≠ "java/lang/invoke/MethodHandle" ∧ y_Rows_latestValue.cls ≠ "java/lang/invoke/VarHandle" ∧ (parseMethodDescriptor y_Rows_latestValue.desc).map (fun d => d.parameters.length) = some 1 := by decide +kernel
theorem d_Rows_latestValue_0 : decode prog_4_method_8_code 0 = .ok (.aload_n 0, 1) := by decide +kernel
theorem d_Rows_latestValue_1 : decode prog_4_method_8_code 1 = .ok (.getfield 15, 3) := by decide +kernel
theorem d_Rows_latestValue_4 : decode prog_4_method_8_code 4 = .ok (.aload_n 0, 1) := by decide +kernel
theorem d_Rows_latestValue_5 : decode prog_4_method_8_code 5 = .ok (.getfield 18, 3) := by decide +kernel
theorem d_Rows_latestValue_8 : decode prog_4_method_8_code 8 = .ok (.iload_n 1, 1) := by decide +kernel
theorem d_Rows_latestValue_9 : decode prog_4_method_8_code 9 = .ok (.iaload, 1) := by decide +kernel
theorem d_Rows_latestValue_10 : decode prog_4_method_8_code 10 = .ok (.aload_n 0, 1) := by decide +kernel
theorem d_Rows_latestValue_11 : decode prog_4_method_8_code 11 = .ok (.getfield 21, 3) := by decide +kernel
theorem d_Rows_latestValue_14 : decode prog_4_method_8_code 14 = .ok (.iload_n 1, 1) := by decide +kernel
theorem d_Rows_latestValue_15 : decode prog_4_method_8_code 15 = .ok (.iaload, 1) := by decide +kernel
theorem d_Rows_latestValue_16 : decode prog_4_method_8_code 16 = .ok (.iadd, 1) := by decide +kernel
theorem d_Rows_latestValue_17 : decode prog_4_method_8_code 17 = .ok (.iconst 1, 1) := by decide +kernel
theorem d_Rows_latestValue_18 : decode prog_4_method_8_code 18 = .ok (.isub, 1) := by decide +kernel
theorem d_Rows_latestValue_19 : decode prog_4_method_8_code 19 = .ok (.iaload, 1) := by decide +kernel
theorem d_Rows_latestValue_20 : decode prog_4_method_8_code 20 = .ok (.ireturn, 1) := by decide +kernel
abbrev y_Rows_age : MethodName := { cls := "FaultRules$Rows", name := "age", desc := "(II)I" }
theorem kC_Rows_age : Cond.code ({ cls := "FaultRules$Rows", name := "age", desc := "(II)I" } : Jvm.MethodName) prog_4_method_9_code (3 : Nat) (Option.some Jvm.ClassFile.FieldType.int) ∈ xT := x_t3 rfl (i := 62) rfl
theorem hd_Rows_age : y_Rows_age.cls ≠ "java/lang/invoke/MethodHandle" ∧ y_Rows_age.cls ≠ "java/lang/invoke/VarHandle" ∧ (parseMethodDescriptor y_Rows_age.desc).map (fun d => d.parameters.length) = some 2 := by decide +kernel
theorem d_Rows_age_0 : decode prog_4_method_9_code 0 = .ok (.iload_n 2, 1) := by decide +kernel
theorem d_Rows_age_1 : decode prog_4_method_9_code 1 = .ok (.aload_n 0, 1) := by decide +kernel
theorem d_Rows_age_2 : decode prog_4_method_9_code 2 = .ok (.getfield 9, 3) := by decide +kernel
theorem d_Rows_age_5 : decode prog_4_method_9_code 5 = .ok (.aload_n 0, 1) := by decide +kernel
theorem d_Rows_age_6 : decode prog_4_method_9_code 6 = .ok (.getfield 18, 3) := by decide +kernel
theorem d_Rows_age_9 : decode prog_4_method_9_code 9 = .ok (.iload_n 1, 1) := by decide +kernel
theorem d_Rows_age_10 : decode prog_4_method_9_code 10 = .ok (.iaload, 1) := by decide +kernel
theorem d_Rows_age_11 : decode prog_4_method_9_code 11 = .ok (.aload_n 0, 1) := by decide +kernel
theorem d_Rows_age_12 : decode prog_4_method_9_code 12 = .ok (.getfield 21, 3) := by decide +kernel
theorem d_Rows_age_15 : decode prog_4_method_9_code 15 = .ok (.iload_n 1, 1) := by decide +kernel
theorem d_Rows_age_16 : decode prog_4_method_9_code 16 = .ok (.iaload, 1) := by decide +kernel
theorem d_Rows_age_17 : decode prog_4_method_9_code 17 = .ok (.iadd, 1) := by decide +kernel
theorem d_Rows_age_18 : decode prog_4_method_9_code 18 = .ok (.iconst 1, 1) := by decide +kernel
theorem d_Rows_age_19 : decode prog_4_method_9_code 19 = .ok (.isub, 1) := by decide +kernel
theorem d_Rows_age_20 : decode prog_4_method_9_code 20 = .ok (.iaload, 1) := by decide +kernel
theorem d_Rows_age_21 : decode prog_4_method_9_code 21 = .ok (.isub, 1) := by decide +kernel
theorem d_Rows_age_22 : decode prog_4_method_9_code 22 = .ok (.ireturn, 1) := by decide +kernel
abbrev y_Rows_lastStep : MethodName := { cls := "FaultRules$Rows", name := "lastStep", desc := "(I)I" }
theorem kC_Rows_lastStep : Cond.code ({ cls := "FaultRules$Rows", name := "lastStep", desc := "(I)I" } : Jvm.MethodName) prog_4_method_10_code (3 : Nat) (Option.some Jvm.ClassFile.FieldType.int) ∈ xT := x_t3 rfl (i := 66) rfl
theorem hd_Rows_lastStep : y_Rows_lastStep.cls ≠ "java/lang/invoke/MethodHandle" ∧ y_Rows_lastStep.cls ≠ "java/lang/invoke/VarHandle" ∧ (parseMethodDescriptor y_Rows_lastStep.desc).map (fun d => d.parameters.length) = some 1 := by decide +kernel
theorem d_Rows_lastStep_0 : decode prog_4_method_10_code 0 = .ok (.aload_n 0, 1) := by decide +kernel
theorem d_Rows_lastStep_1 : decode prog_4_method_10_code 1 = .ok (.getfield 21, 3) := by decide +kernel
theorem d_Rows_lastStep_4 : decode prog_4_method_10_code 4 = .ok (.iload_n 1, 1) := by decide +kernel
theorem d_Rows_lastStep_5 : decode prog_4_method_10_code 5 = .ok (.iaload, 1) := by decide +kernel
theorem d_Rows_lastStep_6 : decode prog_4_method_10_code 6 = .ok (.iconst 2, 1) := by decide +kernel
theorem d_Rows_lastStep_7 : decode prog_4_method_10_code 7 = .ok (.if_icmp .ge 5, 3) := by decide +kernel
theorem d_Rows_lastStep_10 : decode prog_4_method_10_code 10 = .ok (.iconst 0, 1) := by decide +kernel
theorem d_Rows_lastStep_11 : decode prog_4_method_10_code 11 = .ok (.ireturn, 1) := by decide +kernel
theorem d_Rows_lastStep_12 : decode prog_4_method_10_code 12 = .ok (.aload_n 0, 1) := by decide +kernel
theorem d_Rows_lastStep_13 : decode prog_4_method_10_code 13 = .ok (.getfield 18, 3) := by decide +kernel
theorem d_Rows_lastStep_16 : decode prog_4_method_10_code 16 = .ok (.iload_n 1, 1) := by decide +kernel
theorem d_Rows_lastStep_17 : decode prog_4_method_10_code 17 = .ok (.iaload, 1) := by decide +kernel
theorem d_Rows_lastStep_18 : decode prog_4_method_10_code 18 = .ok (.aload_n 0, 1) := by decide +kernel
theorem d_Rows_lastStep_19 : decode prog_4_method_10_code 19 = .ok (.getfield 21, 3) := by decide +kernel
theorem d_Rows_lastStep_22 : decode prog_4_method_10_code 22 = .ok (.iload_n 1, 1) := by decide +kernel
theorem d_Rows_lastStep_23 : decode prog_4_method_10_code 23 = .ok (.iaload, 1) := by decide +kernel
theorem d_Rows_lastStep_24 : decode prog_4_method_10_code 24 = .ok (.iadd, 1) := by decide +kernel
theorem d_Rows_lastStep_25 : decode prog_4_method_10_code 25 = .ok (.iconst 1, 1) := by decide +kernel
theorem d_Rows_lastStep_26 : decode prog_4_method_10_code 26 = .ok (.isub, 1) := by decide +kernel
theorem d_Rows_lastStep_27 : decode prog_4_method_10_code 27 = .ok (.istore_n 2, 1) := by decide +kernel
theorem d_Rows_lastStep_28 : decode prog_4_method_10_code 28 = .ok (.aload_n 0, 1) := by decide +kernel
theorem d_Rows_lastStep_29 : decode prog_4_method_10_code 29 = .ok (.getfield 15, 3) := by decide +kernel
theorem d_Rows_lastStep_32 : decode prog_4_method_10_code 32 = .ok (.iload_n 2, 1) := by decide +kernel
theorem d_Rows_lastStep_33 : decode prog_4_method_10_code 33 = .ok (.iaload, 1) := by decide +kernel
theorem d_Rows_lastStep_34 : decode prog_4_method_10_code 34 = .ok (.aload_n 0, 1) := by decide +kernel
theorem d_Rows_lastStep_35 : decode prog_4_method_10_code 35 = .ok (.getfield 15, 3) := by decide +kernel
theorem d_Rows_lastStep_38 : decode prog_4_method_10_code 38 = .ok (.iload_n 2, 1) := by decide +kernel
theorem d_Rows_lastStep_39 : decode prog_4_method_10_code 39 = .ok (.iconst 1, 1) := by decide +kernel
theorem d_Rows_lastStep_40 : decode prog_4_method_10_code 40 = .ok (.isub, 1) := by decide +kernel
theorem d_Rows_lastStep_41 : decode prog_4_method_10_code 41 = .ok (.iaload, 1) := by decide +kernel
theorem d_Rows_lastStep_42 : decode prog_4_method_10_code 42 = .ok (.isub, 1) := by decide +kernel
theorem d_Rows_lastStep_43 : decode prog_4_method_10_code 43 = .ok (.invokestatic 36, 3) := by decide +kernel
theorem d_Rows_lastStep_46 : decode prog_4_method_10_code 46 = .ok (.ireturn, 1) := by decide +kernel
theorem kM_Rows_36 : Cond.methodLink "FaultRules$Rows" (36 : Nat) ({ cls := "java/lang/Math", name := "abs", desc := "(I)I" } : Jvm.MethodName) ∈ xT := x_t3 rfl (i := 67) rfl
theorem kT_absI : Cond.static ({ cls := "java/lang/Math", name := "abs", desc := "(I)I" } : Jvm.MethodName) ∈ xT := x_t3 rfl (i := 68) rfl
theorem kN_Math : Cond.initialized "java/lang/Math" ∈ xT := x_t1 rfl (i := 16) rfl
theorem kC_absI : Cond.code ({ cls := "java/lang/Math", name := "abs", desc := "(I)I" } : Jvm.MethodName) prog_14_method_59_code (1 : Nat) (Option.some Jvm.ClassFile.FieldType.int) ∈ xT := x_t3 rfl (i := 69) rfl
abbrev y_LeftOut_isFull : MethodName := { cls := "FaultRules$LeftOut", name := "isFull", desc := "()Z" }
theorem kC_LeftOut_isFull : Cond.code ({ cls := "FaultRules$LeftOut", name := "isFull", desc := "()Z" } : Jvm.MethodName) prog_2_method_2_code (1 : Nat) (Option.some Jvm.ClassFile.FieldType.boolean) ∈ xT := x_t3 rfl (i := 173) rfl
theorem hd_LeftOut_isFull : y_LeftOut_isFull.cls ≠ "java/lang/invoke/MethodHandle" ∧ y_LeftOut_isFull.cls ≠ "java/lang/invoke/VarHandle" ∧ (parseMethodDescriptor y_LeftOut_isFull.desc).map (fun d => d.parameters.length) = some 0 := by decide +kernel
theorem d_LeftOut_isFull_0 : decode prog_2_method_2_code 0 = .ok (.aload_n 0, 1) := by decide +kernel
theorem d_LeftOut_isFull_1 : decode prog_2_method_2_code 1 = .ok (.getfield 15, 3) := by decide +kernel
theorem d_LeftOut_isFull_4 : decode prog_2_method_2_code 4 = .ok (.bipush 100, 2) := by decide +kernel
theorem d_LeftOut_isFull_6 : decode prog_2_method_2_code 6 = .ok (.if_icmp .lt 7, 3) := by decide +kernel
theorem d_LeftOut_isFull_9 : decode prog_2_method_2_code 9 = .ok (.iconst 1, 1) := by decide +kernel
theorem d_LeftOut_isFull_10 : decode prog_2_method_2_code 10 = .ok (.goto 4, 3) := by decide +kernel
theorem d_LeftOut_isFull_13 : decode prog_2_method_2_code 13 = .ok (.iconst 0, 1) := by decide +kernel
theorem d_LeftOut_isFull_14 : decode prog_2_method_2_code 14 = .ok (.ireturn, 1) := by decide +kernel
theorem kF_LeftOut_15 : Cond.fieldLink "FaultRules$LeftOut" (15 : Nat) "FaultRules$LeftOut" "count" "I" ∈ xT := x_t1 rfl (i := 138) rfl
abbrev y_LeftOut_placeOf : MethodName := { cls := "FaultRules$LeftOut", name := "placeOf", desc := "(I)I" }
theorem kC_LeftOut_placeOf : Cond.code ({ cls := "FaultRules$LeftOut", name := "placeOf", desc := "(I)I" } : Jvm.MethodName) prog_2_method_6_code (3 : Nat) (Option.some Jvm.ClassFile.FieldType.int) ∈ xT := x_t3 rfl (i := 152) rfl
theorem hd_LeftOut_placeOf : y_LeftOut_placeOf.cls ≠ "java/lang/invoke/MethodHandle" ∧ y_LeftOut_placeOf.cls ≠ "java/lang/invoke/VarHandle" ∧ (parseMethodDescriptor y_LeftOut_placeOf.desc).map (fun d => d.parameters.length) = some 1 := by decide +kernel
theorem d_LeftOut_placeOf_0 : decode prog_2_method_6_code 0 = .ok (.iconst 0, 1) := by decide +kernel
theorem d_LeftOut_placeOf_1 : decode prog_2_method_6_code 1 = .ok (.istore_n 2, 1) := by decide +kernel
theorem d_LeftOut_placeOf_2 : decode prog_2_method_6_code 2 = .ok (.iload_n 2, 1) := by decide +kernel
theorem d_LeftOut_placeOf_3 : decode prog_2_method_6_code 3 = .ok (.aload_n 0, 1) := by decide +kernel
theorem d_LeftOut_placeOf_4 : decode prog_2_method_6_code 4 = .ok (.getfield 15, 3) := by decide +kernel
theorem d_LeftOut_placeOf_7 : decode prog_2_method_6_code 7 = .ok (.if_icmp .ge 21, 3) := by decide +kernel
theorem d_LeftOut_placeOf_10 : decode prog_2_method_6_code 10 = .ok (.aload_n 0, 1) := by decide +kernel
theorem d_LeftOut_placeOf_11 : decode prog_2_method_6_code 11 = .ok (.getfield 9, 3) := by decide +kernel
theorem d_LeftOut_placeOf_14 : decode prog_2_method_6_code 14 = .ok (.iload_n 2, 1) := by decide +kernel
theorem d_LeftOut_placeOf_15 : decode prog_2_method_6_code 15 = .ok (.iaload, 1) := by decide +kernel
theorem d_LeftOut_placeOf_16 : decode prog_2_method_6_code 16 = .ok (.iload_n 1, 1) := by decide +kernel
theorem d_LeftOut_placeOf_17 : decode prog_2_method_6_code 17 = .ok (.if_icmp .ne 5, 3) := by decide +kernel
theorem d_LeftOut_placeOf_20 : decode prog_2_method_6_code 20 = .ok (.iload_n 2, 1) := by decide +kernel
theorem d_LeftOut_placeOf_21 : decode prog_2_method_6_code 21 = .ok (.ireturn, 1) := by decide +kernel
theorem d_LeftOut_placeOf_22 : decode prog_2_method_6_code 22 = .ok (.iinc 2 1, 3) := by decide +kernel
theorem d_LeftOut_placeOf_25 : decode prog_2_method_6_code 25 = .ok (.goto (-23), 3) := by decide +kernel
theorem d_LeftOut_placeOf_28 : decode prog_2_method_6_code 28 = .ok (.iconst (-1), 1) := by decide +kernel
theorem d_LeftOut_placeOf_29 : decode prog_2_method_6_code 29 = .ok (.ireturn, 1) := by decide +kernel
theorem kF_LeftOut_9 : Cond.fieldLink "FaultRules$LeftOut" (9 : Nat) "FaultRules$LeftOut" "minutes" "[I" ∈ xT := x_t1 rfl (i := 137) rfl
abbrev y_LeftOut_has : MethodName := { cls := "FaultRules$LeftOut", name := "has", desc := "(I)Z" }
theorem kC_LeftOut_has : Cond.code ({ cls := "FaultRules$LeftOut", name := "has", desc := "(I)Z" } : Jvm.MethodName) prog_2_method_3_code (2 : Nat) (Option.some Jvm.ClassFile.FieldType.boolean) ∈ xT := x_t3 rfl (i := 148) rfl
theorem hd_LeftOut_has : y_LeftOut_has.cls ≠ "java/lang/invoke/MethodHandle" ∧ y_LeftOut_has.cls ≠ "java/lang/invoke/VarHandle" ∧ (parseMethodDescriptor y_LeftOut_has.desc).map (fun d => d.parameters.length) = some 1 := by decide +kernel
theorem d_LeftOut_has_0 : decode prog_2_method_3_code 0 = .ok (.aload_n 0, 1) := by decide +kernel
theorem d_LeftOut_has_1 : decode prog_2_method_3_code 1 = .ok (.iload_n 1, 1) := by decide +kernel
theorem d_LeftOut_has_2 : decode prog_2_method_3_code 2 = .ok (.invokevirtual 19, 3) := by decide +kernel
theorem d_LeftOut_has_5 : decode prog_2_method_3_code 5 = .ok (.iconst (-1), 1) := by decide +kernel
theorem d_LeftOut_has_6 : decode prog_2_method_3_code 6 = .ok (.if_icmp .eq 7, 3) := by decide +kernel
theorem d_LeftOut_has_9 : decode prog_2_method_3_code 9 = .ok (.iconst 1, 1) := by decide +kernel
theorem d_LeftOut_has_10 : decode prog_2_method_3_code 10 = .ok (.goto 4, 3) := by decide +kernel
theorem d_LeftOut_has_13 : decode prog_2_method_3_code 13 = .ok (.iconst 0, 1) := by decide +kernel
theorem d_LeftOut_has_14 : decode prog_2_method_3_code 14 = .ok (.ireturn, 1) := by decide +kernel
theorem kM_LeftOut_19 : Cond.methodLink "FaultRules$LeftOut" (19 : Nat) ({ cls := "FaultRules$LeftOut", name := "placeOf", desc := "(I)I" } : Jvm.MethodName) ∈ xT := x_t3 rfl (i := 149) rfl
theorem kN_LeftOut : Cond.initialized "FaultRules$LeftOut" ∈ xT := x_t1 rfl (i := 6) rfl
theorem kI_LeftOut_placeOf : Cond.instanceMethod ({ cls := "FaultRules$LeftOut", name := "placeOf", desc := "(I)I" } : Jvm.MethodName) ∈ xT := x_t3 rfl (i := 151) rfl
theorem kS_33 : Cond.selects "FaultRules$LeftOut" ({ cls := "FaultRules$LeftOut", name := "placeOf", desc := "(I)I" } : Jvm.MethodName) ({ cls := "FaultRules$LeftOut", name := "placeOf", desc := "(I)I" } : Jvm.MethodName) ∈ xT := x_tp rfl (i := 28) rfl
abbrev y_LeftOut_add : MethodName := { cls := "FaultRules$LeftOut", name := "add", desc := "(I)V" }
theorem kC_LeftOut_add : Cond.code ({ cls := "FaultRules$LeftOut", name := "add", desc := "(I)V" } : Jvm.MethodName) prog_2_method_4_code (2 : Nat) (Option.none : Option Jvm.ClassFile.FieldType) ∈ xT := x_t3 rfl (i := 178) rfl
theorem hd_LeftOut_add : y_LeftOut_add.cls ≠ "java/lang/invoke/MethodHandle" ∧ y_LeftOut_add.cls ≠ "java/lang/invoke/VarHandle" ∧ (parseMethodDescriptor y_LeftOut_add.desc).map (fun d => d.parameters.length) = some 1 := by decide +kernel
theorem d_LeftOut_add_0 : decode prog_2_method_4_code 0 = .ok (.aload_n 0, 1) := by decide +kernel
theorem d_LeftOut_add_1 : decode prog_2_method_4_code 1 = .ok (.getfield 9, 3) := by decide +kernel
theorem d_LeftOut_add_4 : decode prog_2_method_4_code 4 = .ok (.aload_n 0, 1) := by decide +kernel
theorem d_LeftOut_add_5 : decode prog_2_method_4_code 5 = .ok (.getfield 15, 3) := by decide +kernel
theorem d_LeftOut_add_8 : decode prog_2_method_4_code 8 = .ok (.iload_n 1, 1) := by decide +kernel
theorem d_LeftOut_add_9 : decode prog_2_method_4_code 9 = .ok (.iastore, 1) := by decide +kernel
theorem d_LeftOut_add_10 : decode prog_2_method_4_code 10 = .ok (.aload_n 0, 1) := by decide +kernel
theorem d_LeftOut_add_11 : decode prog_2_method_4_code 11 = .ok (.dup, 1) := by decide +kernel
theorem d_LeftOut_add_12 : decode prog_2_method_4_code 12 = .ok (.getfield 15, 3) := by decide +kernel
theorem d_LeftOut_add_15 : decode prog_2_method_4_code 15 = .ok (.iconst 1, 1) := by decide +kernel
theorem d_LeftOut_add_16 : decode prog_2_method_4_code 16 = .ok (.iadd, 1) := by decide +kernel
theorem d_LeftOut_add_17 : decode prog_2_method_4_code 17 = .ok (.putfield 15, 3) := by decide +kernel
theorem d_LeftOut_add_20 : decode prog_2_method_4_code 20 = .ok (.return_, 1) := by decide +kernel
abbrev y_LeftOut_remove : MethodName := { cls := "FaultRules$LeftOut", name := "remove", desc := "(I)V" }
theorem kC_LeftOut_remove : Cond.code ({ cls := "FaultRules$LeftOut", name := "remove", desc := "(I)V" } : Jvm.MethodName) prog_2_method_5_code (3 : Nat) (Option.none : Option Jvm.ClassFile.FieldType) ∈ xT := x_t3 rfl (i := 182) rfl
theorem hd_LeftOut_remove : y_LeftOut_remove.cls ≠ "java/lang/invoke/MethodHandle" ∧ y_LeftOut_remove.cls ≠ "java/lang/invoke/VarHandle" ∧ (parseMethodDescriptor y_LeftOut_remove.desc).map (fun d => d.parameters.length) = some 1 := by decide +kernel
theorem d_LeftOut_remove_0 : decode prog_2_method_5_code 0 = .ok (.aload_n 0, 1) := by decide +kernel
theorem d_LeftOut_remove_1 : decode prog_2_method_5_code 1 = .ok (.iload_n 1, 1) := by decide +kernel
theorem d_LeftOut_remove_2 : decode prog_2_method_5_code 2 = .ok (.invokevirtual 19, 3) := by decide +kernel
theorem d_LeftOut_remove_5 : decode prog_2_method_5_code 5 = .ok (.istore_n 2, 1) := by decide +kernel
theorem d_LeftOut_remove_6 : decode prog_2_method_5_code 6 = .ok (.iload_n 2, 1) := by decide +kernel
theorem d_LeftOut_remove_7 : decode prog_2_method_5_code 7 = .ok (.iconst (-1), 1) := by decide +kernel
theorem d_LeftOut_remove_8 : decode prog_2_method_5_code 8 = .ok (.if_icmp .eq 28, 3) := by decide +kernel
theorem d_LeftOut_remove_11 : decode prog_2_method_5_code 11 = .ok (.aload_n 0, 1) := by decide +kernel
theorem d_LeftOut_remove_12 : decode prog_2_method_5_code 12 = .ok (.dup, 1) := by decide +kernel
theorem d_LeftOut_remove_13 : decode prog_2_method_5_code 13 = .ok (.getfield 15, 3) := by decide +kernel
theorem d_LeftOut_remove_16 : decode prog_2_method_5_code 16 = .ok (.iconst 1, 1) := by decide +kernel
theorem d_LeftOut_remove_17 : decode prog_2_method_5_code 17 = .ok (.isub, 1) := by decide +kernel
theorem d_LeftOut_remove_18 : decode prog_2_method_5_code 18 = .ok (.putfield 15, 3) := by decide +kernel
theorem d_LeftOut_remove_21 : decode prog_2_method_5_code 21 = .ok (.aload_n 0, 1) := by decide +kernel
theorem d_LeftOut_remove_22 : decode prog_2_method_5_code 22 = .ok (.getfield 9, 3) := by decide +kernel
theorem d_LeftOut_remove_25 : decode prog_2_method_5_code 25 = .ok (.iload_n 2, 1) := by decide +kernel
theorem d_LeftOut_remove_26 : decode prog_2_method_5_code 26 = .ok (.aload_n 0, 1) := by decide +kernel
theorem d_LeftOut_remove_27 : decode prog_2_method_5_code 27 = .ok (.getfield 9, 3) := by decide +kernel
theorem d_LeftOut_remove_30 : decode prog_2_method_5_code 30 = .ok (.aload_n 0, 1) := by decide +kernel
theorem d_LeftOut_remove_31 : decode prog_2_method_5_code 31 = .ok (.getfield 15, 3) := by decide +kernel
theorem d_LeftOut_remove_34 : decode prog_2_method_5_code 34 = .ok (.iaload, 1) := by decide +kernel
theorem d_LeftOut_remove_35 : decode prog_2_method_5_code 35 = .ok (.iastore, 1) := by decide +kernel
theorem d_LeftOut_remove_36 : decode prog_2_method_5_code 36 = .ok (.return_, 1) := by decide +kernel
abbrev y_Text_append : MethodName := { cls := "FaultRules$Text", name := "append", desc := "(J)V" }
theorem kC_Text_append : Cond.code ({ cls := "FaultRules$Text", name := "append", desc := "(J)V" } : Jvm.MethodName) prog_7_method_2_code (5 : Nat) (Option.none : Option Jvm.ClassFile.FieldType) ∈ xT := x_t3 rfl (i := 18) rfl
theorem hd_Text_append : y_Text_append.cls ≠ "java/lang/invoke/MethodHandle" ∧ y_Text_append.cls ≠ "java/lang/invoke/VarHandle" ∧ (parseMethodDescriptor y_Text_append.desc).map (fun d => d.parameters.length) = some 1 := by decide +kernel
theorem d_Text_append_0 : decode prog_7_method_2_code 0 = .ok (.bipush 56, 2) := by decide +kernel
theorem d_Text_append_2 : decode prog_7_method_2_code 2 = .ok (.istore_n 3, 1) := by decide +kernel
theorem d_Text_append_3 : decode prog_7_method_2_code 3 = .ok (.iload_n 3, 1) := by decide +kernel
theorem d_Text_append_4 : decode prog_7_method_2_code 4 = .ok (.ifCond .lt 56, 3) := by decide +kernel
theorem d_Text_append_7 : decode prog_7_method_2_code 7 = .ok (.lload_n 1, 1) := by decide +kernel
theorem d_Text_append_8 : decode prog_7_method_2_code 8 = .ok (.iload_n 3, 1) := by decide +kernel
theorem d_Text_append_9 : decode prog_7_method_2_code 9 = .ok (.lushr, 1) := by decide +kernel
theorem d_Text_append_10 : decode prog_7_method_2_code 10 = .ok (.l2i, 1) := by decide +kernel
theorem d_Text_append_11 : decode prog_7_method_2_code 11 = .ok (.sipush 255, 3) := by decide +kernel
theorem d_Text_append_14 : decode prog_7_method_2_code 14 = .ok (.iand, 1) := by decide +kernel
theorem d_Text_append_15 : decode prog_7_method_2_code 15 = .ok (.istore 4, 2) := by decide +kernel
theorem d_Text_append_17 : decode prog_7_method_2_code 17 = .ok (.iload 4, 2) := by decide +kernel
theorem d_Text_append_19 : decode prog_7_method_2_code 19 = .ok (.ifCond .eq 35, 3) := by decide +kernel
theorem d_Text_append_22 : decode prog_7_method_2_code 22 = .ok (.aload_n 0, 1) := by decide +kernel
theorem d_Text_append_23 : decode prog_7_method_2_code 23 = .ok (.getfield 15, 3) := by decide +kernel
theorem d_Text_append_26 : decode prog_7_method_2_code 26 = .ok (.sipush 1000, 3) := by decide +kernel
theorem d_Text_append_29 : decode prog_7_method_2_code 29 = .ok (.if_icmp .ge 25, 3) := by decide +kernel
theorem d_Text_append_32 : decode prog_7_method_2_code 32 = .ok (.aload_n 0, 1) := by decide +kernel
theorem d_Text_append_33 : decode prog_7_method_2_code 33 = .ok (.getfield 9, 3) := by decide +kernel
theorem d_Text_append_36 : decode prog_7_method_2_code 36 = .ok (.aload_n 0, 1) := by decide +kernel
theorem d_Text_append_37 : decode prog_7_method_2_code 37 = .ok (.getfield 15, 3) := by decide +kernel
theorem d_Text_append_40 : decode prog_7_method_2_code 40 = .ok (.iload 4, 2) := by decide +kernel
theorem d_Text_append_42 : decode prog_7_method_2_code 42 = .ok (.i2c, 1) := by decide +kernel
theorem d_Text_append_43 : decode prog_7_method_2_code 43 = .ok (.castore, 1) := by decide +kernel
theorem d_Text_append_44 : decode prog_7_method_2_code 44 = .ok (.aload_n 0, 1) := by decide +kernel
theorem d_Text_append_45 : decode prog_7_method_2_code 45 = .ok (.dup, 1) := by decide +kernel
theorem d_Text_append_46 : decode prog_7_method_2_code 46 = .ok (.getfield 15, 3) := by decide +kernel
theorem d_Text_append_49 : decode prog_7_method_2_code 49 = .ok (.iconst 1, 1) := by decide +kernel
theorem d_Text_append_50 : decode prog_7_method_2_code 50 = .ok (.iadd, 1) := by decide +kernel
theorem d_Text_append_51 : decode prog_7_method_2_code 51 = .ok (.putfield 15, 3) := by decide +kernel
theorem d_Text_append_54 : decode prog_7_method_2_code 54 = .ok (.iinc 3 (-8), 3) := by decide +kernel
theorem d_Text_append_57 : decode prog_7_method_2_code 57 = .ok (.goto (-54), 3) := by decide +kernel
theorem d_Text_append_60 : decode prog_7_method_2_code 60 = .ok (.return_, 1) := by decide +kernel
theorem kF_Text_15 : Cond.fieldLink "FaultRules$Text" (15 : Nat) "FaultRules$Text" "size" "I" ∈ xT := x_t1 rfl (i := 53) rfl
theorem kF_Text_9 : Cond.fieldLink "FaultRules$Text" (9 : Nat) "FaultRules$Text" "signs" "[C" ∈ xT := x_t1 rfl (i := 52) rfl
abbrev y_Text_signAt : MethodName := { cls := "FaultRules$Text", name := "signAt", desc := "(I)C" }
theorem kC_Text_signAt : Cond.code ({ cls := "FaultRules$Text", name := "signAt", desc := "(I)C" } : Jvm.MethodName) prog_7_method_5_code (2 : Nat) (Option.some Jvm.ClassFile.FieldType.char) ∈ xT := x_t1 rfl (i := 238) rfl
theorem hd_Text_signAt : y_Text_signAt.cls ≠ "java/lang/invoke/MethodHandle" ∧ y_Text_signAt.cls ≠ "java/lang/invoke/VarHandle" ∧ (parseMethodDescriptor y_Text_signAt.desc).map (fun d => d.parameters.length) = some 1 := by decide +kernel
theorem d_Text_signAt_0 : decode prog_7_method_5_code 0 = .ok (.iload_n 1, 1) := by decide +kernel
theorem d_Text_signAt_1 : decode prog_7_method_5_code 1 = .ok (.aload_n 0, 1) := by decide +kernel
theorem d_Text_signAt_2 : decode prog_7_method_5_code 2 = .ok (.getfield 15, 3) := by decide +kernel
theorem d_Text_signAt_5 : decode prog_7_method_5_code 5 = .ok (.if_icmp .ge 12, 3) := by decide +kernel
theorem d_Text_signAt_8 : decode prog_7_method_5_code 8 = .ok (.aload_n 0, 1) := by decide +kernel
theorem d_Text_signAt_9 : decode prog_7_method_5_code 9 = .ok (.getfield 9, 3) := by decide +kernel
theorem d_Text_signAt_12 : decode prog_7_method_5_code 12 = .ok (.iload_n 1, 1) := by decide +kernel
theorem d_Text_signAt_13 : decode prog_7_method_5_code 13 = .ok (.caload, 1) := by decide +kernel
theorem d_Text_signAt_14 : decode prog_7_method_5_code 14 = .ok (.goto 5, 3) := by decide +kernel
theorem d_Text_signAt_17 : decode prog_7_method_5_code 17 = .ok (.bipush 32, 2) := by decide +kernel
theorem d_Text_signAt_19 : decode prog_7_method_5_code 19 = .ok (.ireturn, 1) := by decide +kernel
abbrev y_Text_isLetter : MethodName := { cls := "FaultRules$Text", name := "isLetter", desc := "(C)Z" }
theorem kC_Text_isLetter : Cond.code ({ cls := "FaultRules$Text", name := "isLetter", desc := "(C)Z" } : Jvm.MethodName) prog_7_method_13_code (1 : Nat) (Option.some Jvm.ClassFile.FieldType.boolean) ∈ xT := x_t2 rfl (i := 1) rfl
theorem hd_Text_isLetter : y_Text_isLetter.cls ≠ "java/lang/invoke/MethodHandle" ∧ y_Text_isLetter.cls ≠ "java/lang/invoke/VarHandle" ∧ (parseMethodDescriptor y_Text_isLetter.desc).map (fun d => d.parameters.length) = some 1 := by decide +kernel
theorem d_Text_isLetter_0 : decode prog_7_method_13_code 0 = .ok (.iload_n 0, 1) := by decide +kernel
theorem d_Text_isLetter_1 : decode prog_7_method_13_code 1 = .ok (.bipush 97, 2) := by decide +kernel
theorem d_Text_isLetter_3 : decode prog_7_method_13_code 3 = .ok (.if_icmp .lt 13, 3) := by decide +kernel
theorem d_Text_isLetter_6 : decode prog_7_method_13_code 6 = .ok (.iload_n 0, 1) := by decide +kernel
theorem d_Text_isLetter_7 : decode prog_7_method_13_code 7 = .ok (.bipush 122, 2) := by decide +kernel
theorem d_Text_isLetter_9 : decode prog_7_method_13_code 9 = .ok (.if_icmp .gt 7, 3) := by decide +kernel
theorem d_Text_isLetter_12 : decode prog_7_method_13_code 12 = .ok (.iconst 1, 1) := by decide +kernel
theorem d_Text_isLetter_13 : decode prog_7_method_13_code 13 = .ok (.goto 4, 3) := by decide +kernel
theorem d_Text_isLetter_16 : decode prog_7_method_13_code 16 = .ok (.iconst 0, 1) := by decide +kernel
theorem d_Text_isLetter_17 : decode prog_7_method_13_code 17 = .ok (.ireturn, 1) := by decide +kernel
abbrev y_Text_isDigit : MethodName := { cls := "FaultRules$Text", name := "isDigit", desc := "(C)Z" }
theorem kC_Text_isDigit : Cond.code ({ cls := "FaultRules$Text", name := "isDigit", desc := "(C)Z" } : Jvm.MethodName) prog_7_method_14_code (1 : Nat) (Option.some Jvm.ClassFile.FieldType.boolean) ∈ xT := x_t2 rfl (i := 12) rfl
theorem hd_Text_isDigit : y_Text_isDigit.cls ≠ "java/lang/invoke/MethodHandle" ∧ y_Text_isDigit.cls ≠ "java/lang/invoke/VarHandle" ∧ (parseMethodDescriptor y_Text_isDigit.desc).map (fun d => d.parameters.length) = some 1 := by decide +kernel
theorem d_Text_isDigit_0 : decode prog_7_method_14_code 0 = .ok (.iload_n 0, 1) := by decide +kernel
theorem d_Text_isDigit_1 : decode prog_7_method_14_code 1 = .ok (.bipush 48, 2) := by decide +kernel
theorem d_Text_isDigit_3 : decode prog_7_method_14_code 3 = .ok (.if_icmp .lt 13, 3) := by decide +kernel
theorem d_Text_isDigit_6 : decode prog_7_method_14_code 6 = .ok (.iload_n 0, 1) := by decide +kernel
theorem d_Text_isDigit_7 : decode prog_7_method_14_code 7 = .ok (.bipush 57, 2) := by decide +kernel
theorem d_Text_isDigit_9 : decode prog_7_method_14_code 9 = .ok (.if_icmp .gt 7, 3) := by decide +kernel
theorem d_Text_isDigit_12 : decode prog_7_method_14_code 12 = .ok (.iconst 1, 1) := by decide +kernel
theorem d_Text_isDigit_13 : decode prog_7_method_14_code 13 = .ok (.goto 4, 3) := by decide +kernel
theorem d_Text_isDigit_16 : decode prog_7_method_14_code 16 = .ok (.iconst 0, 1) := by decide +kernel
theorem d_Text_isDigit_17 : decode prog_7_method_14_code 17 = .ok (.ireturn, 1) := by decide +kernel
abbrev y_Text_readDigits : MethodName := { cls := "FaultRules$Text", name := "readDigits", desc := "()I" }
theorem kC_Text_readDigits : Cond.code ({ cls := "FaultRules$Text", name := "readDigits", desc := "()I" } : Jvm.MethodName) prog_7_method_8_code (2 : Nat) (Option.some Jvm.ClassFile.FieldType.int) ∈ xT := x_t2 rfl (i := 9) rfl
theorem hd_Text_readDigits : y_Text_readDigits.cls ≠ "java/lang/invoke/MethodHandle" ∧ y_Text_readDigits.cls ≠ "java/lang/invoke/VarHandle" ∧ (parseMethodDescriptor y_Text_readDigits.desc).map (fun d => d.parameters.length) = some 0 := by decide +kernel
theorem d_Text_readDigits_0 : decode prog_7_method_8_code 0 = .ok (.iconst 0, 1) := by decide +kernel
theorem d_Text_readDigits_1 : decode prog_7_method_8_code 1 = .ok (.istore_n 1, 1) := by decide +kernel
theorem d_Text_readDigits_2 : decode prog_7_method_8_code 2 = .ok (.aload_n 0, 1) := by decide +kernel
theorem d_Text_readDigits_3 : decode prog_7_method_8_code 3 = .ok (.iconst 0, 1) := by decide +kernel
theorem d_Text_readDigits_4 : decode prog_7_method_8_code 4 = .ok (.putfield 56, 3) := by decide +kernel
theorem d_Text_readDigits_7 : decode prog_7_method_8_code 7 = .ok (.aload_n 0, 1) := by decide +kernel
theorem d_Text_readDigits_8 : decode prog_7_method_8_code 8 = .ok (.getfield 19, 3) := by decide +kernel
theorem d_Text_readDigits_11 : decode prog_7_method_8_code 11 = .ok (.aload_n 0, 1) := by decide +kernel
theorem d_Text_readDigits_12 : decode prog_7_method_8_code 12 = .ok (.getfield 15, 3) := by decide +kernel
theorem d_Text_readDigits_15 : decode prog_7_method_8_code 15 = .ok (.if_icmp .ge 64, 3) := by decide +kernel
theorem d_Text_readDigits_18 : decode prog_7_method_8_code 18 = .ok (.aload_n 0, 1) := by decide +kernel
theorem d_Text_readDigits_19 : decode prog_7_method_8_code 19 = .ok (.getfield 9, 3) := by decide +kernel
theorem d_Text_readDigits_22 : decode prog_7_method_8_code 22 = .ok (.aload_n 0, 1) := by decide +kernel
theorem d_Text_readDigits_23 : decode prog_7_method_8_code 23 = .ok (.getfield 19, 3) := by decide +kernel
theorem d_Text_readDigits_26 : decode prog_7_method_8_code 26 = .ok (.caload, 1) := by decide +kernel
theorem d_Text_readDigits_27 : decode prog_7_method_8_code 27 = .ok (.invokestatic 42, 3) := by decide +kernel
theorem d_Text_readDigits_30 : decode prog_7_method_8_code 30 = .ok (.ifCond .eq 49, 3) := by decide +kernel
theorem d_Text_readDigits_33 : decode prog_7_method_8_code 33 = .ok (.iload_n 1, 1) := by decide +kernel
theorem d_Text_readDigits_34 : decode prog_7_method_8_code 34 = .ok (.bipush 7, 2) := by decide +kernel
theorem d_Text_readDigits_36 : decode prog_7_method_8_code 36 = .ok (.if_icmp .ge 27, 3) := by decide +kernel
theorem d_Text_readDigits_39 : decode prog_7_method_8_code 39 = .ok (.aload_n 0, 1) := by decide +kernel
theorem d_Text_readDigits_40 : decode prog_7_method_8_code 40 = .ok (.aload_n 0, 1) := by decide +kernel
theorem d_Text_readDigits_41 : decode prog_7_method_8_code 41 = .ok (.getfield 56, 3) := by decide +kernel
theorem d_Text_readDigits_44 : decode prog_7_method_8_code 44 = .ok (.bipush 10, 2) := by decide +kernel
theorem d_Text_readDigits_46 : decode prog_7_method_8_code 46 = .ok (.imul, 1) := by decide +kernel
theorem d_Text_readDigits_47 : decode prog_7_method_8_code 47 = .ok (.aload_n 0, 1) := by decide +kernel
theorem d_Text_readDigits_48 : decode prog_7_method_8_code 48 = .ok (.getfield 9, 3) := by decide +kernel
theorem d_Text_readDigits_51 : decode prog_7_method_8_code 51 = .ok (.aload_n 0, 1) := by decide +kernel
theorem d_Text_readDigits_52 : decode prog_7_method_8_code 52 = .ok (.getfield 19, 3) := by decide +kernel
theorem d_Text_readDigits_55 : decode prog_7_method_8_code 55 = .ok (.caload, 1) := by decide +kernel
theorem d_Text_readDigits_56 : decode prog_7_method_8_code 56 = .ok (.bipush 48, 2) := by decide +kernel
theorem d_Text_readDigits_58 : decode prog_7_method_8_code 58 = .ok (.isub, 1) := by decide +kernel
theorem d_Text_readDigits_59 : decode prog_7_method_8_code 59 = .ok (.iadd, 1) := by decide +kernel
theorem d_Text_readDigits_60 : decode prog_7_method_8_code 60 = .ok (.putfield 56, 3) := by decide +kernel
theorem d_Text_readDigits_63 : decode prog_7_method_8_code 63 = .ok (.iinc 1 1, 3) := by decide +kernel
theorem d_Text_readDigits_66 : decode prog_7_method_8_code 66 = .ok (.aload_n 0, 1) := by decide +kernel
theorem d_Text_readDigits_67 : decode prog_7_method_8_code 67 = .ok (.dup, 1) := by decide +kernel
theorem d_Text_readDigits_68 : decode prog_7_method_8_code 68 = .ok (.getfield 19, 3) := by decide +kernel
theorem d_Text_readDigits_71 : decode prog_7_method_8_code 71 = .ok (.iconst 1, 1) := by decide +kernel
theorem d_Text_readDigits_72 : decode prog_7_method_8_code 72 = .ok (.iadd, 1) := by decide +kernel
theorem d_Text_readDigits_73 : decode prog_7_method_8_code 73 = .ok (.putfield 19, 3) := by decide +kernel
theorem d_Text_readDigits_76 : decode prog_7_method_8_code 76 = .ok (.goto (-69), 3) := by decide +kernel
theorem d_Text_readDigits_79 : decode prog_7_method_8_code 79 = .ok (.iload_n 1, 1) := by decide +kernel
theorem d_Text_readDigits_80 : decode prog_7_method_8_code 80 = .ok (.ireturn, 1) := by decide +kernel
theorem kF_Text_56 : Cond.fieldLink "FaultRules$Text" (56 : Nat) "FaultRules$Text" "amount" "I" ∈ xT := x_t1 rfl (i := 58) rfl
theorem kF_Text_19 : Cond.fieldLink "FaultRules$Text" (19 : Nat) "FaultRules$Text" "at" "I" ∈ xT := x_t1 rfl (i := 55) rfl
theorem kM_Text_42 : Cond.methodLink "FaultRules$Text" (42 : Nat) ({ cls := "FaultRules$Text", name := "isDigit", desc := "(C)Z" } : Jvm.MethodName) ∈ xT := x_t2 rfl (i := 10) rfl
theorem kN_Text : Cond.initialized "FaultRules$Text" ∈ xT := x_t1 rfl (i := 3) rfl
theorem kT_Text_isDigit : Cond.static ({ cls := "FaultRules$Text", name := "isDigit", desc := "(C)Z" } : Jvm.MethodName) ∈ xT := x_t2 rfl (i := 11) rfl
abbrev y_FaultRules_isPoint : MethodName := { cls := "FaultRules", name := "isPoint", desc := "(I)Z" }
theorem kC_FaultRules_isPoint : Cond.code ({ cls := "FaultRules", name := "isPoint", desc := "(I)Z" } : Jvm.MethodName) prog_1_method_17_code (1 : Nat) (Option.some Jvm.ClassFile.FieldType.boolean) ∈ xT := x_t2 rfl (i := 15) rfl
theorem hd_FaultRules_isPoint : y_FaultRules_isPoint.cls ≠ "java/lang/invoke/MethodHandle" ∧ y_FaultRules_isPoint.cls ≠ "java/lang/invoke/VarHandle" ∧ (parseMethodDescriptor y_FaultRules_isPoint.desc).map (fun d => d.parameters.length) = some 1 := by decide +kernel
theorem d_FaultRules_isPoint_0 : decode prog_1_method_17_code 0 = .ok (.iload_n 0, 1) := by decide +kernel
theorem d_FaultRules_isPoint_1 : decode prog_1_method_17_code 1 = .ok (.ifCond .lt 13, 3) := by decide +kernel
theorem d_FaultRules_isPoint_4 : decode prog_1_method_17_code 4 = .ok (.iload_n 0, 1) := by decide +kernel
theorem d_FaultRules_isPoint_5 : decode prog_1_method_17_code 5 = .ok (.bipush 16, 2) := by decide +kernel
theorem d_FaultRules_isPoint_7 : decode prog_1_method_17_code 7 = .ok (.if_icmp .ge 7, 3) := by decide +kernel
theorem d_FaultRules_isPoint_10 : decode prog_1_method_17_code 10 = .ok (.iconst 1, 1) := by decide +kernel
theorem d_FaultRules_isPoint_11 : decode prog_1_method_17_code 11 = .ok (.goto 4, 3) := by decide +kernel
theorem d_FaultRules_isPoint_14 : decode prog_1_method_17_code 14 = .ok (.iconst 0, 1) := by decide +kernel
theorem d_FaultRules_isPoint_15 : decode prog_1_method_17_code 15 = .ok (.ireturn, 1) := by decide +kernel
abbrev y_Text_readPoint : MethodName := { cls := "FaultRules$Text", name := "readPoint", desc := "()V" }
theorem kC_Text_readPoint : Cond.code ({ cls := "FaultRules$Text", name := "readPoint", desc := "()V" } : Jvm.MethodName) prog_7_method_6_code (3 : Nat) (Option.none : Option Jvm.ClassFile.FieldType) ∈ xT := x_t2 rfl (i := 5) rfl
theorem hd_Text_readPoint : y_Text_readPoint.cls ≠ "java/lang/invoke/MethodHandle" ∧ y_Text_readPoint.cls ≠ "java/lang/invoke/VarHandle" ∧ (parseMethodDescriptor y_Text_readPoint.desc).map (fun d => d.parameters.length) = some 0 := by decide +kernel
theorem d_Text_readPoint_0 : decode prog_7_method_6_code 0 = .ok (.aload_n 0, 1) := by decide +kernel
theorem d_Text_readPoint_1 : decode prog_7_method_6_code 1 = .ok (.dup, 1) := by decide +kernel
theorem d_Text_readPoint_2 : decode prog_7_method_6_code 2 = .ok (.getfield 19, 3) := by decide +kernel
theorem d_Text_readPoint_5 : decode prog_7_method_6_code 5 = .ok (.iconst 1, 1) := by decide +kernel
theorem d_Text_readPoint_6 : decode prog_7_method_6_code 6 = .ok (.iadd, 1) := by decide +kernel
theorem d_Text_readPoint_7 : decode prog_7_method_6_code 7 = .ok (.putfield 19, 3) := by decide +kernel
theorem d_Text_readPoint_10 : decode prog_7_method_6_code 10 = .ok (.aload_n 0, 1) := by decide +kernel
theorem d_Text_readPoint_11 : decode prog_7_method_6_code 11 = .ok (.invokevirtual 52, 3) := by decide +kernel
theorem d_Text_readPoint_14 : decode prog_7_method_6_code 14 = .ok (.istore_n 1, 1) := by decide +kernel
theorem d_Text_readPoint_15 : decode prog_7_method_6_code 15 = .ok (.iload_n 1, 1) := by decide +kernel
theorem d_Text_readPoint_16 : decode prog_7_method_6_code 16 = .ok (.ifCond .le 22, 3) := by decide +kernel
theorem d_Text_readPoint_19 : decode prog_7_method_6_code 19 = .ok (.iload_n 1, 1) := by decide +kernel
theorem d_Text_readPoint_20 : decode prog_7_method_6_code 20 = .ok (.iconst 2, 1) := by decide +kernel
theorem d_Text_readPoint_21 : decode prog_7_method_6_code 21 = .ok (.if_icmp .gt 17, 3) := by decide +kernel
theorem d_Text_readPoint_24 : decode prog_7_method_6_code 24 = .ok (.aload_n 0, 1) := by decide +kernel
theorem d_Text_readPoint_25 : decode prog_7_method_6_code 25 = .ok (.getfield 56, 3) := by decide +kernel
theorem d_Text_readPoint_28 : decode prog_7_method_6_code 28 = .ok (.invokestatic 59, 3) := by decide +kernel
theorem d_Text_readPoint_31 : decode prog_7_method_6_code 31 = .ok (.ifCond .eq 7, 3) := by decide +kernel
theorem d_Text_readPoint_34 : decode prog_7_method_6_code 34 = .ok (.iconst 1, 1) := by decide +kernel
theorem d_Text_readPoint_35 : decode prog_7_method_6_code 35 = .ok (.goto 4, 3) := by decide +kernel
theorem d_Text_readPoint_38 : decode prog_7_method_6_code 38 = .ok (.iconst 0, 1) := by decide +kernel
theorem d_Text_readPoint_39 : decode prog_7_method_6_code 39 = .ok (.istore_n 2, 1) := by decide +kernel
theorem d_Text_readPoint_40 : decode prog_7_method_6_code 40 = .ok (.aload_n 0, 1) := by decide +kernel
theorem d_Text_readPoint_41 : decode prog_7_method_6_code 41 = .ok (.iload_n 2, 1) := by decide +kernel
theorem d_Text_readPoint_42 : decode prog_7_method_6_code 42 = .ok (.ifCond .eq 7, 3) := by decide +kernel
theorem d_Text_readPoint_45 : decode prog_7_method_6_code 45 = .ok (.iconst 4, 1) := by decide +kernel
theorem d_Text_readPoint_46 : decode prog_7_method_6_code 46 = .ok (.goto 4, 3) := by decide +kernel
theorem d_Text_readPoint_49 : decode prog_7_method_6_code 49 = .ok (.iconst 1, 1) := by decide +kernel
theorem d_Text_readPoint_50 : decode prog_7_method_6_code 50 = .ok (.putfield 29, 3) := by decide +kernel
theorem d_Text_readPoint_53 : decode prog_7_method_6_code 53 = .ok (.return_, 1) := by decide +kernel
theorem kF_Text_29 : Cond.fieldLink "FaultRules$Text" (29 : Nat) "FaultRules$Text" "kind" "I" ∈ xT := x_t1 rfl (i := 57) rfl
theorem kM_Text_52 : Cond.methodLink "FaultRules$Text" (52 : Nat) ({ cls := "FaultRules$Text", name := "readDigits", desc := "()I" } : Jvm.MethodName) ∈ xT := x_t2 rfl (i := 6) rfl
theorem kI_Text_readDigits : Cond.instanceMethod ({ cls := "FaultRules$Text", name := "readDigits", desc := "()I" } : Jvm.MethodName) ∈ xT := x_t2 rfl (i := 8) rfl
theorem kS_53 : Cond.selects "FaultRules$Text" ({ cls := "FaultRules$Text", name := "readDigits", desc := "()I" } : Jvm.MethodName) ({ cls := "FaultRules$Text", name := "readDigits", desc := "()I" } : Jvm.MethodName) ∈ xT := x_tp rfl (i := 2) rfl
theorem kN_FaultRules : Cond.initialized "FaultRules" ∈ xT := x_t1 rfl (i := 1) rfl
theorem kT_FaultRules_isPoint : Cond.static ({ cls := "FaultRules", name := "isPoint", desc := "(I)Z" } : Jvm.MethodName) ∈ xT := x_t2 rfl (i := 14) rfl
abbrev y_Text_kindOfLetters : MethodName := { cls := "FaultRules$Text", name := "kindOfLetters", desc := "(J)I" }
theorem kC_Text_kindOfLetters : Cond.code ({ cls := "FaultRules$Text", name := "kindOfLetters", desc := "(J)I" } : Jvm.MethodName) prog_7_method_11_code (2 : Nat) (Option.some Jvm.ClassFile.FieldType.int) ∈ xT := x_t2 rfl (i := 22) rfl
theorem hd_Text_kindOfLetters : y_Text_kindOfLetters.cls ≠ "java/lang/invoke/MethodHandle" ∧ y_Text_kindOfLetters.cls ≠ "java/lang/invoke/VarHandle" ∧ (parseMethodDescriptor y_Text_kindOfLetters.desc).map (fun d => d.parameters.length) = some 1 := by decide +kernel
theorem d_Text_kindOfLetters_0 : decode prog_7_method_11_code 0 = .ok (.lload_n 0, 1) := by decide +kernel
theorem d_Text_kindOfLetters_1 : decode prog_7_method_11_code 1 = .ok (.ldc2_w 76, 3) := by decide +kernel
theorem d_Text_kindOfLetters_4 : decode prog_7_method_11_code 4 = .ok (.lcmp, 1) := by decide +kernel
theorem d_Text_kindOfLetters_5 : decode prog_7_method_11_code 5 = .ok (.ifCond .ne 6, 3) := by decide +kernel
theorem d_Text_kindOfLetters_8 : decode prog_7_method_11_code 8 = .ok (.bipush 9, 2) := by decide +kernel
theorem d_Text_kindOfLetters_10 : decode prog_7_method_11_code 10 = .ok (.ireturn, 1) := by decide +kernel
theorem d_Text_kindOfLetters_11 : decode prog_7_method_11_code 11 = .ok (.lload_n 0, 1) := by decide +kernel
theorem d_Text_kindOfLetters_12 : decode prog_7_method_11_code 12 = .ok (.ldc2_w 78, 3) := by decide +kernel
theorem d_Text_kindOfLetters_15 : decode prog_7_method_11_code 15 = .ok (.lcmp, 1) := by decide +kernel
theorem d_Text_kindOfLetters_16 : decode prog_7_method_11_code 16 = .ok (.ifCond .ne 6, 3) := by decide +kernel
theorem d_Text_kindOfLetters_19 : decode prog_7_method_11_code 19 = .ok (.bipush 10, 2) := by decide +kernel
theorem d_Text_kindOfLetters_21 : decode prog_7_method_11_code 21 = .ok (.ireturn, 1) := by decide +kernel
theorem d_Text_kindOfLetters_22 : decode prog_7_method_11_code 22 = .ok (.lload_n 0, 1) := by decide +kernel
theorem d_Text_kindOfLetters_23 : decode prog_7_method_11_code 23 = .ok (.ldc2_w 80, 3) := by decide +kernel
theorem d_Text_kindOfLetters_26 : decode prog_7_method_11_code 26 = .ok (.lcmp, 1) := by decide +kernel
theorem d_Text_kindOfLetters_27 : decode prog_7_method_11_code 27 = .ok (.ifCond .ne 6, 3) := by decide +kernel
theorem d_Text_kindOfLetters_30 : decode prog_7_method_11_code 30 = .ok (.bipush 16, 2) := by decide +kernel
theorem d_Text_kindOfLetters_32 : decode prog_7_method_11_code 32 = .ok (.ireturn, 1) := by decide +kernel
theorem d_Text_kindOfLetters_33 : decode prog_7_method_11_code 33 = .ok (.lload_n 0, 1) := by decide +kernel
theorem d_Text_kindOfLetters_34 : decode prog_7_method_11_code 34 = .ok (.ldc2_w 82, 3) := by decide +kernel
theorem d_Text_kindOfLetters_37 : decode prog_7_method_11_code 37 = .ok (.lcmp, 1) := by decide +kernel
theorem d_Text_kindOfLetters_38 : decode prog_7_method_11_code 38 = .ok (.ifCond .ne 6, 3) := by decide +kernel
theorem d_Text_kindOfLetters_41 : decode prog_7_method_11_code 41 = .ok (.bipush 17, 2) := by decide +kernel
theorem d_Text_kindOfLetters_43 : decode prog_7_method_11_code 43 = .ok (.ireturn, 1) := by decide +kernel
theorem d_Text_kindOfLetters_44 : decode prog_7_method_11_code 44 = .ok (.lload_n 0, 1) := by decide +kernel
theorem d_Text_kindOfLetters_45 : decode prog_7_method_11_code 45 = .ok (.ldc2_w 84, 3) := by decide +kernel
theorem d_Text_kindOfLetters_48 : decode prog_7_method_11_code 48 = .ok (.lcmp, 1) := by decide +kernel
theorem d_Text_kindOfLetters_49 : decode prog_7_method_11_code 49 = .ok (.ifCond .ne 8, 3) := by decide +kernel
theorem d_Text_kindOfLetters_52 : decode prog_7_method_11_code 52 = .ok (.bipush 18, 2) := by decide +kernel
theorem d_Text_kindOfLetters_54 : decode prog_7_method_11_code 54 = .ok (.goto 4, 3) := by decide +kernel
theorem d_Text_kindOfLetters_57 : decode prog_7_method_11_code 57 = .ok (.iconst 2, 1) := by decide +kernel
theorem d_Text_kindOfLetters_58 : decode prog_7_method_11_code 58 = .ok (.ireturn, 1) := by decide +kernel
theorem kK_Text_76 : Cond.constantLong "FaultRules$Text" (76 : Nat) (7381243658609098752 : Int64) ∈ xT := x_t2 rfl (i := 23) rfl
theorem kK_Text_78 : Cond.constantLong "FaultRules$Text" (78 : Nat) (7165072476152528896 : Int64) ∈ xT := x_t2 rfl (i := 24) rfl
theorem kK_Text_80 : Cond.constantLong "FaultRules$Text" (80 : Nat) (8319403481517522944 : Int64) ∈ xT := x_t2 rfl (i := 25) rfl
theorem kK_Text_82 : Cond.constantLong "FaultRules$Text" (82 : Nat) (7671157868099272704 : Int64) ∈ xT := x_t2 rfl (i := 26) rfl
theorem kK_Text_84 : Cond.constantLong "FaultRules$Text" (84 : Nat) (8316297369816924160 : Int64) ∈ xT := x_t2 rfl (i := 27) rfl
abbrev y_Text_readLetters : MethodName := { cls := "FaultRules$Text", name := "readLetters", desc := "()V" }
theorem kC_Text_readLetters : Cond.code ({ cls := "FaultRules$Text", name := "readLetters", desc := "()V" } : Jvm.MethodName) prog_7_method_9_code (2 : Nat) (Option.none : Option Jvm.ClassFile.FieldType) ∈ xT := x_t2 rfl (i := 19) rfl
theorem hd_Text_readLetters : y_Text_readLetters.cls ≠ "java/lang/invoke/MethodHandle" ∧ y_Text_readLetters.cls ≠ "java/lang/invoke/VarHandle" ∧ (parseMethodDescriptor y_Text_readLetters.desc).map (fun d => d.parameters.length) = some 0 := by decide +kernel
theorem d_Text_readLetters_0 : decode prog_7_method_9_code 0 = .ok (.iconst 0, 1) := by decide +kernel
theorem d_Text_readLetters_1 : decode prog_7_method_9_code 1 = .ok (.istore_n 1, 1) := by decide +kernel
theorem d_Text_readLetters_2 : decode prog_7_method_9_code 2 = .ok (.aload_n 0, 1) := by decide +kernel
theorem d_Text_readLetters_3 : decode prog_7_method_9_code 3 = .ok (.lconst 0, 1) := by decide +kernel
theorem d_Text_readLetters_4 : decode prog_7_method_9_code 4 = .ok (.putfield 64, 3) := by decide +kernel
theorem d_Text_readLetters_7 : decode prog_7_method_9_code 7 = .ok (.aload_n 0, 1) := by decide +kernel
theorem d_Text_readLetters_8 : decode prog_7_method_9_code 8 = .ok (.getfield 19, 3) := by decide +kernel
theorem d_Text_readLetters_11 : decode prog_7_method_9_code 11 = .ok (.aload_n 0, 1) := by decide +kernel
theorem d_Text_readLetters_12 : decode prog_7_method_9_code 12 = .ok (.getfield 15, 3) := by decide +kernel
theorem d_Text_readLetters_15 : decode prog_7_method_9_code 15 = .ok (.if_icmp .ge 67, 3) := by decide +kernel
theorem d_Text_readLetters_18 : decode prog_7_method_9_code 18 = .ok (.aload_n 0, 1) := by decide +kernel
theorem d_Text_readLetters_19 : decode prog_7_method_9_code 19 = .ok (.getfield 9, 3) := by decide +kernel
theorem d_Text_readLetters_22 : decode prog_7_method_9_code 22 = .ok (.aload_n 0, 1) := by decide +kernel
theorem d_Text_readLetters_23 : decode prog_7_method_9_code 23 = .ok (.getfield 19, 3) := by decide +kernel
theorem d_Text_readLetters_26 : decode prog_7_method_9_code 26 = .ok (.caload, 1) := by decide +kernel
theorem d_Text_readLetters_27 : decode prog_7_method_9_code 27 = .ok (.invokestatic 32, 3) := by decide +kernel
theorem d_Text_readLetters_30 : decode prog_7_method_9_code 30 = .ok (.ifCond .eq 52, 3) := by decide +kernel
theorem d_Text_readLetters_33 : decode prog_7_method_9_code 33 = .ok (.iload_n 1, 1) := by decide +kernel
theorem d_Text_readLetters_34 : decode prog_7_method_9_code 34 = .ok (.bipush 8, 2) := by decide +kernel
theorem d_Text_readLetters_36 : decode prog_7_method_9_code 36 = .ok (.if_icmp .ge 30, 3) := by decide +kernel
theorem d_Text_readLetters_39 : decode prog_7_method_9_code 39 = .ok (.aload_n 0, 1) := by decide +kernel
theorem d_Text_readLetters_40 : decode prog_7_method_9_code 40 = .ok (.dup, 1) := by decide +kernel
theorem d_Text_readLetters_41 : decode prog_7_method_9_code 41 = .ok (.getfield 64, 3) := by decide +kernel
theorem d_Text_readLetters_44 : decode prog_7_method_9_code 44 = .ok (.aload_n 0, 1) := by decide +kernel
theorem d_Text_readLetters_45 : decode prog_7_method_9_code 45 = .ok (.getfield 9, 3) := by decide +kernel
theorem d_Text_readLetters_48 : decode prog_7_method_9_code 48 = .ok (.aload_n 0, 1) := by decide +kernel
theorem d_Text_readLetters_49 : decode prog_7_method_9_code 49 = .ok (.getfield 19, 3) := by decide +kernel
theorem d_Text_readLetters_52 : decode prog_7_method_9_code 52 = .ok (.caload, 1) := by decide +kernel
theorem d_Text_readLetters_53 : decode prog_7_method_9_code 53 = .ok (.i2l, 1) := by decide +kernel
theorem d_Text_readLetters_54 : decode prog_7_method_9_code 54 = .ok (.bipush 56, 2) := by decide +kernel
theorem d_Text_readLetters_56 : decode prog_7_method_9_code 56 = .ok (.bipush 8, 2) := by decide +kernel
theorem d_Text_readLetters_58 : decode prog_7_method_9_code 58 = .ok (.iload_n 1, 1) := by decide +kernel
theorem d_Text_readLetters_59 : decode prog_7_method_9_code 59 = .ok (.imul, 1) := by decide +kernel
theorem d_Text_readLetters_60 : decode prog_7_method_9_code 60 = .ok (.isub, 1) := by decide +kernel
theorem d_Text_readLetters_61 : decode prog_7_method_9_code 61 = .ok (.lshl, 1) := by decide +kernel
theorem d_Text_readLetters_62 : decode prog_7_method_9_code 62 = .ok (.lor, 1) := by decide +kernel
theorem d_Text_readLetters_63 : decode prog_7_method_9_code 63 = .ok (.putfield 64, 3) := by decide +kernel
theorem d_Text_readLetters_66 : decode prog_7_method_9_code 66 = .ok (.iinc 1 1, 3) := by decide +kernel
theorem d_Text_readLetters_69 : decode prog_7_method_9_code 69 = .ok (.aload_n 0, 1) := by decide +kernel
theorem d_Text_readLetters_70 : decode prog_7_method_9_code 70 = .ok (.dup, 1) := by decide +kernel
theorem d_Text_readLetters_71 : decode prog_7_method_9_code 71 = .ok (.getfield 19, 3) := by decide +kernel
theorem d_Text_readLetters_74 : decode prog_7_method_9_code 74 = .ok (.iconst 1, 1) := by decide +kernel
theorem d_Text_readLetters_75 : decode prog_7_method_9_code 75 = .ok (.iadd, 1) := by decide +kernel
theorem d_Text_readLetters_76 : decode prog_7_method_9_code 76 = .ok (.putfield 19, 3) := by decide +kernel
theorem d_Text_readLetters_79 : decode prog_7_method_9_code 79 = .ok (.goto (-72), 3) := by decide +kernel
theorem d_Text_readLetters_82 : decode prog_7_method_9_code 82 = .ok (.aload_n 0, 1) := by decide +kernel
theorem d_Text_readLetters_83 : decode prog_7_method_9_code 83 = .ok (.iload_n 1, 1) := by decide +kernel
theorem d_Text_readLetters_84 : decode prog_7_method_9_code 84 = .ok (.bipush 8, 2) := by decide +kernel
theorem d_Text_readLetters_86 : decode prog_7_method_9_code 86 = .ok (.if_icmp .gt 13, 3) := by decide +kernel
theorem d_Text_readLetters_89 : decode prog_7_method_9_code 89 = .ok (.aload_n 0, 1) := by decide +kernel
theorem d_Text_readLetters_90 : decode prog_7_method_9_code 90 = .ok (.getfield 64, 3) := by decide +kernel
theorem d_Text_readLetters_93 : decode prog_7_method_9_code 93 = .ok (.invokestatic 68, 3) := by decide +kernel
theorem d_Text_readLetters_96 : decode prog_7_method_9_code 96 = .ok (.goto 4, 3) := by decide +kernel
theorem d_Text_readLetters_99 : decode prog_7_method_9_code 99 = .ok (.iconst 1, 1) := by decide +kernel
theorem d_Text_readLetters_100 : decode prog_7_method_9_code 100 = .ok (.putfield 29, 3) := by decide +kernel
theorem d_Text_readLetters_103 : decode prog_7_method_9_code 103 = .ok (.return_, 1) := by decide +kernel
theorem kF_Text_64 : Cond.fieldLink "FaultRules$Text" (64 : Nat) "FaultRules$Text" "letters" "J" ∈ xT := x_t1 rfl (i := 61) rfl
theorem kM_Text_32 : Cond.methodLink "FaultRules$Text" (32 : Nat) ({ cls := "FaultRules$Text", name := "isLetter", desc := "(C)Z" } : Jvm.MethodName) ∈ xT := x_t1 rfl (i := 239) rfl
theorem kT_Text_isLetter : Cond.static ({ cls := "FaultRules$Text", name := "isLetter", desc := "(C)Z" } : Jvm.MethodName) ∈ xT := x_t2 rfl (i := 0) rfl
theorem kM_Text_68 : Cond.methodLink "FaultRules$Text" (68 : Nat) ({ cls := "FaultRules$Text", name := "kindOfLetters", desc := "(J)I" } : Jvm.MethodName) ∈ xT := x_t2 rfl (i := 20) rfl
theorem kT_Text_kindOfLetters : Cond.static ({ cls := "FaultRules$Text", name := "kindOfLetters", desc := "(J)I" } : Jvm.MethodName) ∈ xT := x_t2 rfl (i := 21) rfl
abbrev y_Text_readNumber : MethodName := { cls := "FaultRules$Text", name := "readNumber", desc := "()V" }
theorem kC_Text_readNumber : Cond.code ({ cls := "FaultRules$Text", name := "readNumber", desc := "()V" } : Jvm.MethodName) prog_7_method_7_code (2 : Nat) (Option.none : Option Jvm.ClassFile.FieldType) ∈ xT := x_t2 rfl (i := 31) rfl
theorem hd_Text_readNumber : y_Text_readNumber.cls ≠ "java/lang/invoke/MethodHandle" ∧ y_Text_readNumber.cls ≠ "java/lang/invoke/VarHandle" ∧ (parseMethodDescriptor y_Text_readNumber.desc).map (fun d => d.parameters.length) = some 0 := by decide +kernel
theorem d_Text_readNumber_0 : decode prog_7_method_7_code 0 = .ok (.aload_n 0, 1) := by decide +kernel
theorem d_Text_readNumber_1 : decode prog_7_method_7_code 1 = .ok (.invokevirtual 52, 3) := by decide +kernel
theorem d_Text_readNumber_4 : decode prog_7_method_7_code 4 = .ok (.istore_n 1, 1) := by decide +kernel
theorem d_Text_readNumber_5 : decode prog_7_method_7_code 5 = .ok (.aload_n 0, 1) := by decide +kernel
theorem d_Text_readNumber_6 : decode prog_7_method_7_code 6 = .ok (.iload_n 1, 1) := by decide +kernel
theorem d_Text_readNumber_7 : decode prog_7_method_7_code 7 = .ok (.bipush 7, 2) := by decide +kernel
theorem d_Text_readNumber_9 : decode prog_7_method_7_code 9 = .ok (.if_icmp .gt 16, 3) := by decide +kernel
theorem d_Text_readNumber_12 : decode prog_7_method_7_code 12 = .ok (.aload_n 0, 1) := by decide +kernel
theorem d_Text_readNumber_13 : decode prog_7_method_7_code 13 = .ok (.getfield 56, 3) := by decide +kernel
theorem d_Text_readNumber_16 : decode prog_7_method_7_code 16 = .ok (.ldc 63, 2) := by decide +kernel
theorem d_Text_readNumber_18 : decode prog_7_method_7_code 18 = .ok (.if_icmp .gt 7, 3) := by decide +kernel
theorem d_Text_readNumber_21 : decode prog_7_method_7_code 21 = .ok (.iconst 3, 1) := by decide +kernel
theorem d_Text_readNumber_22 : decode prog_7_method_7_code 22 = .ok (.goto 4, 3) := by decide +kernel
theorem d_Text_readNumber_25 : decode prog_7_method_7_code 25 = .ok (.iconst 1, 1) := by decide +kernel
theorem d_Text_readNumber_26 : decode prog_7_method_7_code 26 = .ok (.putfield 29, 3) := by decide +kernel
theorem d_Text_readNumber_29 : decode prog_7_method_7_code 29 = .ok (.return_, 1) := by decide +kernel
theorem kK_Text_63 : Cond.constant "FaultRules$Text" (63 : Nat) (1000000 : Int32) ∈ xT := x_t2 rfl (i := 32) rfl
abbrev y_Text_kindOfSign : MethodName := { cls := "FaultRules$Text", name := "kindOfSign", desc := "(C)I" }
theorem kC_Text_kindOfSign : Cond.code ({ cls := "FaultRules$Text", name := "kindOfSign", desc := "(C)I" } : Jvm.MethodName) prog_7_method_12_code (1 : Nat) (Option.some Jvm.ClassFile.FieldType.int) ∈ xT := x_t2 rfl (i := 39) rfl
theorem hd_Text_kindOfSign : y_Text_kindOfSign.cls ≠ "java/lang/invoke/MethodHandle" ∧ y_Text_kindOfSign.cls ≠ "java/lang/invoke/VarHandle" ∧ (parseMethodDescriptor y_Text_kindOfSign.desc).map (fun d => d.parameters.length) = some 1 := by decide +kernel
theorem d_Text_kindOfSign_0 : decode prog_7_method_12_code 0 = .ok (.iload_n 0, 1) := by decide +kernel
theorem d_Text_kindOfSign_1 : decode prog_7_method_12_code 1 = .ok (.tableswitch 135 38 62 #[117, 135, 135, 135, 135, 135, 135, 123, 135, 135, 135, 135, 135, 135, 135, 135, 135, 135, 135, 135, 115, 120, 126, 129, 132], 115) := by decide +kernel
theorem d_Text_kindOfSign_116 : decode prog_7_method_12_code 116 = .ok (.iconst 5, 1) := by decide +kernel
theorem d_Text_kindOfSign_117 : decode prog_7_method_12_code 117 = .ok (.ireturn, 1) := by decide +kernel
theorem d_Text_kindOfSign_118 : decode prog_7_method_12_code 118 = .ok (.bipush 6, 2) := by decide +kernel
theorem d_Text_kindOfSign_120 : decode prog_7_method_12_code 120 = .ok (.ireturn, 1) := by decide +kernel
theorem d_Text_kindOfSign_121 : decode prog_7_method_12_code 121 = .ok (.bipush 7, 2) := by decide +kernel
theorem d_Text_kindOfSign_123 : decode prog_7_method_12_code 123 = .ok (.ireturn, 1) := by decide +kernel
theorem d_Text_kindOfSign_124 : decode prog_7_method_12_code 124 = .ok (.bipush 8, 2) := by decide +kernel
theorem d_Text_kindOfSign_126 : decode prog_7_method_12_code 126 = .ok (.ireturn, 1) := by decide +kernel
theorem d_Text_kindOfSign_127 : decode prog_7_method_12_code 127 = .ok (.bipush 11, 2) := by decide +kernel
theorem d_Text_kindOfSign_129 : decode prog_7_method_12_code 129 = .ok (.ireturn, 1) := by decide +kernel
theorem d_Text_kindOfSign_130 : decode prog_7_method_12_code 130 = .ok (.bipush 13, 2) := by decide +kernel
theorem d_Text_kindOfSign_132 : decode prog_7_method_12_code 132 = .ok (.ireturn, 1) := by decide +kernel
theorem d_Text_kindOfSign_133 : decode prog_7_method_12_code 133 = .ok (.bipush 15, 2) := by decide +kernel
theorem d_Text_kindOfSign_135 : decode prog_7_method_12_code 135 = .ok (.ireturn, 1) := by decide +kernel
