abbrev R_LeftOut : String := "FaultRules$LeftOut"
def T_LeftOut : u_T := fun k => match k with
  | 0 => ("FaultRules$LeftOut", "minutes", "[I", true)
  | _ => ("FaultRules$LeftOut", "count", "I", false)
def ty_LeftOut : Nat → FieldType := fun k => match k with
  | 0 => .array .int
  | _ => .int
theorem n_LeftOut : ∀ a, a < 2 → ∀ b, b < 2 → a ≠ b → (T_LeftOut a).2.1 ≠ (T_LeftOut b).2.1 := by decide +kernel
theorem ty_LeftOut_ok : ∀ k, k < 2 → parseFieldDescriptor (T_LeftOut k).2.2.1 = some (ty_LeftOut k) := by decide +kernel
abbrev R_Reader : String := "FaultRules$Reader"
def T_Reader : u_T := fun k => match k with
  | 0 => ("FaultRules$Reader", "due", "I", false)
  | _ => ("FaultRules$Reader", "isNegative", "Z", false)
def ty_Reader : Nat → FieldType := fun k => match k with
  | 0 => .int
  | _ => .boolean
theorem n_Reader : ∀ a, a < 2 → ∀ b, b < 2 → a ≠ b → (T_Reader a).2.1 ≠ (T_Reader b).2.1 := by decide +kernel
theorem ty_Reader_ok : ∀ k, k < 2 → parseFieldDescriptor (T_Reader k).2.2.1 = some (ty_Reader k) := by decide +kernel
abbrev R_Rows : String := "FaultRules$Rows"
def T_Rows : u_T := fun k => match k with
  | 0 => ("FaultRules$Rows", "minutes", "[I", true)
  | 1 => ("FaultRules$Rows", "values", "[I", true)
  | 2 => ("FaultRules$Rows", "starts", "[I", true)
  | _ => ("FaultRules$Rows", "seen", "[I", true)
def ty_Rows : Nat → FieldType := fun k => match k with
  | 0 => .array .int
  | 1 => .array .int
  | 2 => .array .int
  | _ => .array .int
theorem n_Rows : ∀ a, a < 4 → ∀ b, b < 4 → a ≠ b → (T_Rows a).2.1 ≠ (T_Rows b).2.1 := by decide +kernel
theorem ty_Rows_ok : ∀ k, k < 4 → parseFieldDescriptor (T_Rows k).2.2.1 = some (ty_Rows k) := by decide +kernel
abbrev R_RuleSet : String := "FaultRules$RuleSet"
def T_RuleSet : u_T := fun k => match k with
  | 0 => ("FaultRules$RuleSet", "names", "[J", true)
  | 1 => ("FaultRules$RuleSet", "spans", "[I", true)
  | 2 => ("FaultRules$RuleSet", "costs", "[I", true)
  | 3 => ("FaultRules$RuleSet", "sizes", "[I", true)
  | 4 => ("FaultRules$RuleSet", "kinds", "[I", true)
  | 5 => ("FaultRules$RuleSet", "firsts", "[I", true)
  | 6 => ("FaultRules$RuleSet", "seconds", "[I", true)
  | 7 => ("FaultRules$RuleSet", "numbers", "[I", true)
  | _ => ("FaultRules$RuleSet", "count", "I", false)
def ty_RuleSet : Nat → FieldType := fun k => match k with
  | 0 => .array .long
  | 1 => .array .int
  | 2 => .array .int
  | 3 => .array .int
  | 4 => .array .int
  | 5 => .array .int
  | 6 => .array .int
  | 7 => .array .int
  | _ => .int
theorem n_RuleSet : ∀ a, a < 9 → ∀ b, b < 9 → a ≠ b → (T_RuleSet a).2.1 ≠ (T_RuleSet b).2.1 := by decide +kernel
theorem ty_RuleSet_ok : ∀ k, k < 9 → parseFieldDescriptor (T_RuleSet k).2.2.1 = some (ty_RuleSet k) := by decide +kernel
abbrev R_Run : String := "FaultRules$Run"
def T_Run : u_T := fun k => match k with
  | 0 => ("FaultRules$Run", "isThere", "Z", false)
  | 1 => ("FaultRules$Run", "count", "I", false)
  | 2 => ("FaultRules$Run", "total", "I", false)
  | 3 => ("FaultRules$Run", "faultyRules", "I", false)
  | 4 => ("FaultRules$Run", "minutesHeld", "[I", true)
  | 5 => ("FaultRules$Run", "since", "[I", true)
  | 6 => ("FaultRules$Run", "faultRules", "[I", true)
  | 7 => ("FaultRules$Run", "begins", "[I", true)
  | 8 => ("FaultRules$Run", "ends", "[I", true)
  | _ => ("FaultRules$Run", "faultCosts", "[I", true)
def ty_Run : Nat → FieldType := fun k => match k with
  | 0 => .boolean
  | 1 => .int
  | 2 => .int
  | 3 => .int
  | 4 => .array .int
  | 5 => .array .int
  | 6 => .array .int
  | 7 => .array .int
  | 8 => .array .int
  | _ => .array .int
theorem n_Run : ∀ a, a < 10 → ∀ b, b < 10 → a ≠ b → (T_Run a).2.1 ≠ (T_Run b).2.1 := by decide +kernel
theorem ty_Run_ok : ∀ k, k < 10 → parseFieldDescriptor (T_Run k).2.2.1 = some (ty_Run k) := by decide +kernel
abbrev R_Text : String := "FaultRules$Text"
def T_Text : u_T := fun k => match k with
  | 0 => ("FaultRules$Text", "signs", "[C", true)
  | 1 => ("FaultRules$Text", "size", "I", false)
  | 2 => ("FaultRules$Text", "at", "I", false)
  | 3 => ("FaultRules$Text", "kind", "I", false)
  | 4 => ("FaultRules$Text", "amount", "I", false)
  | _ => ("FaultRules$Text", "letters", "J", false)
def ty_Text : Nat → FieldType := fun k => match k with
  | 0 => .array .char
  | 1 => .int
  | 2 => .int
  | 3 => .int
  | 4 => .int
  | _ => .long
theorem n_Text : ∀ a, a < 6 → ∀ b, b < 6 → a ≠ b → (T_Text a).2.1 ≠ (T_Text b).2.1 := by decide +kernel
theorem ty_Text_ok : ∀ k, k < 6 → parseFieldDescriptor (T_Text k).2.2.1 = some (ty_Text k) := by decide +kernel
abbrev R_FaultRules : String := "FaultRules"
def T_FaultRules : u_T := fun k => match k with
  | 0 => ("FaultRules", "rows", "LFaultRules$Rows;", true)
  | 1 => ("FaultRules", "text", "LFaultRules$Text;", true)
  | 2 => ("FaultRules", "reader", "LFaultRules$Reader;", true)
  | 3 => ("FaultRules", "found", "LFaultRules$Run;", true)
  | 4 => ("FaultRules", "leftOut", "LFaultRules$LeftOut;", true)
  | 5 => ("FaultRules", "brought", "[I", true)
  | 6 => ("FaultRules", "ruleSet", "LFaultRules$RuleSet;", false)
  | _ => ("FaultRules", "draft", "LFaultRules$RuleSet;", false)
def ty_FaultRules : Nat → FieldType := fun k => match k with
  | 0 => .object "FaultRules$Rows"
  | 1 => .object "FaultRules$Text"
  | 2 => .object "FaultRules$Reader"
  | 3 => .object "FaultRules$Run"
  | 4 => .object "FaultRules$LeftOut"
  | 5 => .array .int
  | 6 => .object "FaultRules$RuleSet"
  | _ => .object "FaultRules$RuleSet"
theorem n_FaultRules : ∀ a, a < 8 → ∀ b, b < 8 → a ≠ b → (T_FaultRules a).2.1 ≠ (T_FaultRules b).2.1 := by decide +kernel
theorem ty_FaultRules_ok : ∀ k, k < 8 → parseFieldDescriptor (T_FaultRules k).2.2.1 = some (ty_FaultRules k) := by decide +kernel
abbrev R_Model : String := "FaultRulesModel"
def T_Model : u_T := fun k => match k with
  | 0 => ("FaultRulesModel", "thrown", "I", false)
  | 1 => ("FaultRulesModel", "rows", "I", false)
  | 2 => ("FaultRulesModel", "rowPoint", "[I", true)
  | 3 => ("FaultRulesModel", "rowMinute", "[I", true)
  | 4 => ("FaultRulesModel", "rowValue", "[I", true)
  | 5 => ("FaultRulesModel", "text", "[I", true)
  | 6 => ("FaultRulesModel", "size", "I", false)
  | 7 => ("FaultRulesModel", "kinds", "[I", true)
  | 8 => ("FaultRulesModel", "values", "[J", true)
  | 9 => ("FaultRulesModel", "words", "I", false)
  | 10 => ("FaultRulesModel", "at", "I", false)
  | 11 => ("FaultRulesModel", "names", "[J", true)
  | 12 => ("FaultRulesModel", "testCounts", "[I", true)
  | 13 => ("FaultRulesModel", "minutes", "[I", true)
  | 14 => ("FaultRulesModel", "costs", "[I", true)
  | 15 => ("FaultRulesModel", "sorts", "[I", true)
  | 16 => ("FaultRulesModel", "firsts", "[I", true)
  | 17 => ("FaultRulesModel", "seconds", "[I", true)
  | 18 => ("FaultRulesModel", "relations", "[I", true)
  | 19 => ("FaultRulesModel", "numbers", "[I", true)
  | 20 => ("FaultRulesModel", "ruleCount", "I", false)
  | 21 => ("FaultRulesModel", "last", "[I", true)
  | 22 => ("FaultRulesModel", "before", "[I", true)
  | 23 => ("FaultRulesModel", "ran", "Z", false)
  | 24 => ("FaultRulesModel", "heldCounts", "[I", true)
  | 25 => ("FaultRulesModel", "streaks", "[I", true)
  | 26 => ("FaultRulesModel", "faults", "I", false)
  | 27 => ("FaultRulesModel", "faultRule", "[I", true)
  | 28 => ("FaultRulesModel", "faultBegin", "[I", true)
  | 29 => ("FaultRulesModel", "faultEnd", "[I", true)
  | 30 => ("FaultRulesModel", "order", "[I", true)
  | 31 => ("FaultRulesModel", "left", "[I", true)
  | 32 => ("FaultRulesModel", "leftCount", "I", false)
  | _ => ("FaultRulesModel", "brings", "[I", true)
def ty_Model : Nat → FieldType := fun k => match k with
  | 0 => .int
  | 1 => .int
  | 2 => .array .int
  | 3 => .array .int
  | 4 => .array .int
  | 5 => .array .int
  | 6 => .int
  | 7 => .array .int
  | 8 => .array .long
  | 9 => .int
  | 10 => .int
  | 11 => .array .long
  | 12 => .array .int
  | 13 => .array .int
  | 14 => .array .int
  | 15 => .array .int
  | 16 => .array .int
  | 17 => .array .int
  | 18 => .array .int
  | 19 => .array .int
  | 20 => .int
  | 21 => .array .int
  | 22 => .array .int
  | 23 => .boolean
  | 24 => .array .int
  | 25 => .array .int
  | 26 => .int
  | 27 => .array .int
  | 28 => .array .int
  | 29 => .array .int
  | 30 => .array .int
  | 31 => .array .int
  | 32 => .int
  | _ => .array .int
theorem n_Model : ∀ a, a < 34 → ∀ b, b < 34 → a ≠ b → (T_Model a).2.1 ≠ (T_Model b).2.1 := by decide +kernel
theorem ty_Model_ok : ∀ k, k < 34 → parseFieldDescriptor (T_Model k).2.2.1 = some (ty_Model k) := by decide +kernel
abbrev vwCl : List vw_C := [(R_LeftOut, T_LeftOut, 2), (R_Reader, T_Reader, 2), (R_Rows, T_Rows, 4), (R_RuleSet, T_RuleSet, 9), (R_Run, T_Run, 10), (R_Text, T_Text, 6), (R_FaultRules, T_FaultRules, 8), (R_Model, T_Model, 34)]
abbrev y_Rows_isFull : MethodName := { cls := "FaultRules$Rows", name := "isFull", desc := "()Z" }
theorem kC_Rows_isFull : Cond.code ({ cls := "FaultRules$Rows", name := "isFull", desc := "()Z" } : Jvm.MethodName) prog_4_method_2_code (1 : Nat) (Option.some Jvm.ClassFile.FieldType.boolean) ∈ xT := x_t2 rfl (i := 190) rfl
theorem hd_Rows_isFull : y_Rows_isFull.cls ≠ "java/lang/invoke/MethodHandle" ∧ y_Rows_isFull.cls ≠ "java/lang/invoke/VarHandle" ∧ (parseMethodDescriptor y_Rows_isFull.desc).map (fun d => d.parameters.length) = some 0 := by decide +kernel
theorem d_Rows_isFull_0 : decode prog_4_method_2_code 0 = .ok (.aload_n 0, 1) := by decide +kernel
theorem d_Rows_isFull_1 : decode prog_4_method_2_code 1 = .ok (.getfield 18, 3) := by decide +kernel
theorem d_Rows_isFull_4 : decode prog_4_method_2_code 4 = .ok (.bipush 16, 2) := by decide +kernel
theorem d_Rows_isFull_6 : decode prog_4_method_2_code 6 = .ok (.iaload, 1) := by decide +kernel
theorem d_Rows_isFull_7 : decode prog_4_method_2_code 7 = .ok (.bipush 120, 2) := by decide +kernel
theorem d_Rows_isFull_9 : decode prog_4_method_2_code 9 = .ok (.if_icmp .lt 7, 3) := by decide +kernel
theorem d_Rows_isFull_12 : decode prog_4_method_2_code 12 = .ok (.iconst 1, 1) := by decide +kernel
theorem d_Rows_isFull_13 : decode prog_4_method_2_code 13 = .ok (.goto 4, 3) := by decide +kernel
theorem d_Rows_isFull_16 : decode prog_4_method_2_code 16 = .ok (.iconst 0, 1) := by decide +kernel
theorem d_Rows_isFull_17 : decode prog_4_method_2_code 17 = .ok (.ireturn, 1) := by decide +kernel
theorem kF_Rows_18 : Cond.fieldLink "FaultRules$Rows" (18 : Nat) "FaultRules$Rows" "starts" "[I" ∈ xT := x_t1 rfl (i := 34) rfl
abbrev y_Rows_isBehindLast : MethodName := { cls := "FaultRules$Rows", name := "isBehindLast", desc := "(II)Z" }
theorem kC_Rows_isBehindLast : Cond.code ({ cls := "FaultRules$Rows", name := "isBehindLast", desc := "(II)Z" } : Jvm.MethodName) prog_4_method_3_code (4 : Nat) (Option.some Jvm.ClassFile.FieldType.boolean) ∈ xT := x_t2 rfl (i := 194) rfl
theorem hd_Rows_isBehindLast : y_Rows_isBehindLast.cls ≠ "java/lang/invoke/MethodHandle" ∧ y_Rows_isBehindLast.cls ≠ "java/lang/invoke/VarHandle" ∧ (parseMethodDescriptor y_Rows_isBehindLast.desc).map (fun d => d.parameters.length) = some 2 := by decide +kernel
theorem d_Rows_isBehindLast_0 : decode prog_4_method_3_code 0 = .ok (.aload_n 0, 1) := by decide +kernel
theorem d_Rows_isBehindLast_1 : decode prog_4_method_3_code 1 = .ok (.getfield 18, 3) := by decide +kernel
theorem d_Rows_isBehindLast_4 : decode prog_4_method_3_code 4 = .ok (.iload_n 1, 1) := by decide +kernel
theorem d_Rows_isBehindLast_5 : decode prog_4_method_3_code 5 = .ok (.iconst 1, 1) := by decide +kernel
theorem d_Rows_isBehindLast_6 : decode prog_4_method_3_code 6 = .ok (.iadd, 1) := by decide +kernel
theorem d_Rows_isBehindLast_7 : decode prog_4_method_3_code 7 = .ok (.iaload, 1) := by decide +kernel
theorem d_Rows_isBehindLast_8 : decode prog_4_method_3_code 8 = .ok (.istore_n 3, 1) := by decide +kernel
theorem d_Rows_isBehindLast_9 : decode prog_4_method_3_code 9 = .ok (.iload_n 3, 1) := by decide +kernel
theorem d_Rows_isBehindLast_10 : decode prog_4_method_3_code 10 = .ok (.aload_n 0, 1) := by decide +kernel
theorem d_Rows_isBehindLast_11 : decode prog_4_method_3_code 11 = .ok (.getfield 18, 3) := by decide +kernel
theorem d_Rows_isBehindLast_14 : decode prog_4_method_3_code 14 = .ok (.iload_n 1, 1) := by decide +kernel
theorem d_Rows_isBehindLast_15 : decode prog_4_method_3_code 15 = .ok (.iaload, 1) := by decide +kernel
theorem d_Rows_isBehindLast_16 : decode prog_4_method_3_code 16 = .ok (.if_icmp .eq 15, 3) := by decide +kernel
theorem d_Rows_isBehindLast_19 : decode prog_4_method_3_code 19 = .ok (.aload_n 0, 1) := by decide +kernel
theorem d_Rows_isBehindLast_20 : decode prog_4_method_3_code 20 = .ok (.getfield 9, 3) := by decide +kernel
theorem d_Rows_isBehindLast_23 : decode prog_4_method_3_code 23 = .ok (.iload_n 3, 1) := by decide +kernel
theorem d_Rows_isBehindLast_24 : decode prog_4_method_3_code 24 = .ok (.iconst 1, 1) := by decide +kernel
theorem d_Rows_isBehindLast_25 : decode prog_4_method_3_code 25 = .ok (.isub, 1) := by decide +kernel
theorem d_Rows_isBehindLast_26 : decode prog_4_method_3_code 26 = .ok (.iaload, 1) := by decide +kernel
theorem d_Rows_isBehindLast_27 : decode prog_4_method_3_code 27 = .ok (.iload_n 2, 1) := by decide +kernel
theorem d_Rows_isBehindLast_28 : decode prog_4_method_3_code 28 = .ok (.if_icmp .ge 7, 3) := by decide +kernel
theorem d_Rows_isBehindLast_31 : decode prog_4_method_3_code 31 = .ok (.iconst 1, 1) := by decide +kernel
theorem d_Rows_isBehindLast_32 : decode prog_4_method_3_code 32 = .ok (.goto 4, 3) := by decide +kernel
theorem d_Rows_isBehindLast_35 : decode prog_4_method_3_code 35 = .ok (.iconst 0, 1) := by decide +kernel
theorem d_Rows_isBehindLast_36 : decode prog_4_method_3_code 36 = .ok (.ireturn, 1) := by decide +kernel
theorem kF_Rows_9 : Cond.fieldLink "FaultRules$Rows" (9 : Nat) "FaultRules$Rows" "minutes" "[I" ∈ xT := x_t1 rfl (i := 32) rfl
abbrev y_Rows_add : MethodName := { cls := "FaultRules$Rows", name := "add", desc := "(III)I" }
theorem kC_Rows_add : Cond.code ({ cls := "FaultRules$Rows", name := "add", desc := "(III)I" } : Jvm.MethodName) prog_4_method_4_code (7 : Nat) (Option.some Jvm.ClassFile.FieldType.int) ∈ xT := x_t2 rfl (i := 214) rfl
theorem hd_Rows_add : y_Rows_add.cls ≠ "java/lang/invoke/MethodHandle" ∧ y_Rows_add.cls ≠ "java/lang/invoke/VarHandle" ∧ (parseMethodDescriptor y_Rows_add.desc).map (fun d => d.parameters.length) = some 3 := by decide +kernel
theorem d_Rows_add_0 : decode prog_4_method_4_code 0 = .ok (.aload_n 0, 1) := by decide +kernel
theorem d_Rows_add_1 : decode prog_4_method_4_code 1 = .ok (.getfield 18, 3) := by decide +kernel
theorem d_Rows_add_4 : decode prog_4_method_4_code 4 = .ok (.iload_n 1, 1) := by decide +kernel
theorem d_Rows_add_5 : decode prog_4_method_4_code 5 = .ok (.iconst 1, 1) := by decide +kernel
theorem d_Rows_add_6 : decode prog_4_method_4_code 6 = .ok (.iadd, 1) := by decide +kernel
theorem d_Rows_add_7 : decode prog_4_method_4_code 7 = .ok (.iaload, 1) := by decide +kernel
theorem d_Rows_add_8 : decode prog_4_method_4_code 8 = .ok (.istore 4, 2) := by decide +kernel
theorem d_Rows_add_10 : decode prog_4_method_4_code 10 = .ok (.aload_n 0, 1) := by decide +kernel
theorem d_Rows_add_11 : decode prog_4_method_4_code 11 = .ok (.getfield 18, 3) := by decide +kernel
theorem d_Rows_add_14 : decode prog_4_method_4_code 14 = .ok (.bipush 16, 2) := by decide +kernel
theorem d_Rows_add_16 : decode prog_4_method_4_code 16 = .ok (.iaload, 1) := by decide +kernel
theorem d_Rows_add_17 : decode prog_4_method_4_code 17 = .ok (.iload 4, 2) := by decide +kernel
theorem d_Rows_add_19 : decode prog_4_method_4_code 19 = .ok (.isub, 1) := by decide +kernel
theorem d_Rows_add_20 : decode prog_4_method_4_code 20 = .ok (.istore 5, 2) := by decide +kernel
theorem d_Rows_add_22 : decode prog_4_method_4_code 22 = .ok (.aload_n 0, 1) := by decide +kernel
theorem d_Rows_add_23 : decode prog_4_method_4_code 23 = .ok (.getfield 9, 3) := by decide +kernel
theorem d_Rows_add_26 : decode prog_4_method_4_code 26 = .ok (.iload 4, 2) := by decide +kernel
theorem d_Rows_add_28 : decode prog_4_method_4_code 28 = .ok (.aload_n 0, 1) := by decide +kernel
theorem d_Rows_add_29 : decode prog_4_method_4_code 29 = .ok (.getfield 9, 3) := by decide +kernel
theorem d_Rows_add_32 : decode prog_4_method_4_code 32 = .ok (.iload 4, 2) := by decide +kernel
theorem d_Rows_add_34 : decode prog_4_method_4_code 34 = .ok (.iconst 1, 1) := by decide +kernel
theorem d_Rows_add_35 : decode prog_4_method_4_code 35 = .ok (.iadd, 1) := by decide +kernel
theorem d_Rows_add_36 : decode prog_4_method_4_code 36 = .ok (.iload 5, 2) := by decide +kernel
theorem d_Rows_add_38 : decode prog_4_method_4_code 38 = .ok (.invokestatic 24, 3) := by decide +kernel
theorem d_Rows_add_41 : decode prog_4_method_4_code 41 = .ok (.aload_n 0, 1) := by decide +kernel
theorem d_Rows_add_42 : decode prog_4_method_4_code 42 = .ok (.getfield 15, 3) := by decide +kernel
theorem d_Rows_add_45 : decode prog_4_method_4_code 45 = .ok (.iload 4, 2) := by decide +kernel
theorem d_Rows_add_47 : decode prog_4_method_4_code 47 = .ok (.aload_n 0, 1) := by decide +kernel
theorem d_Rows_add_48 : decode prog_4_method_4_code 48 = .ok (.getfield 15, 3) := by decide +kernel
theorem d_Rows_add_51 : decode prog_4_method_4_code 51 = .ok (.iload 4, 2) := by decide +kernel
theorem d_Rows_add_53 : decode prog_4_method_4_code 53 = .ok (.iconst 1, 1) := by decide +kernel
theorem d_Rows_add_54 : decode prog_4_method_4_code 54 = .ok (.iadd, 1) := by decide +kernel
theorem d_Rows_add_55 : decode prog_4_method_4_code 55 = .ok (.iload 5, 2) := by decide +kernel
theorem d_Rows_add_57 : decode prog_4_method_4_code 57 = .ok (.invokestatic 24, 3) := by decide +kernel
theorem d_Rows_add_60 : decode prog_4_method_4_code 60 = .ok (.aload_n 0, 1) := by decide +kernel
theorem d_Rows_add_61 : decode prog_4_method_4_code 61 = .ok (.getfield 9, 3) := by decide +kernel
theorem d_Rows_add_64 : decode prog_4_method_4_code 64 = .ok (.iload 4, 2) := by decide +kernel
theorem d_Rows_add_66 : decode prog_4_method_4_code 66 = .ok (.iload_n 2, 1) := by decide +kernel
theorem d_Rows_add_67 : decode prog_4_method_4_code 67 = .ok (.iastore, 1) := by decide +kernel
theorem d_Rows_add_68 : decode prog_4_method_4_code 68 = .ok (.aload_n 0, 1) := by decide +kernel
theorem d_Rows_add_69 : decode prog_4_method_4_code 69 = .ok (.getfield 15, 3) := by decide +kernel
theorem d_Rows_add_72 : decode prog_4_method_4_code 72 = .ok (.iload 4, 2) := by decide +kernel
theorem d_Rows_add_74 : decode prog_4_method_4_code 74 = .ok (.iload_n 3, 1) := by decide +kernel
theorem d_Rows_add_75 : decode prog_4_method_4_code 75 = .ok (.iastore, 1) := by decide +kernel
theorem d_Rows_add_76 : decode prog_4_method_4_code 76 = .ok (.iload_n 1, 1) := by decide +kernel
theorem d_Rows_add_77 : decode prog_4_method_4_code 77 = .ok (.iconst 1, 1) := by decide +kernel
theorem d_Rows_add_78 : decode prog_4_method_4_code 78 = .ok (.iadd, 1) := by decide +kernel
theorem d_Rows_add_79 : decode prog_4_method_4_code 79 = .ok (.istore 6, 2) := by decide +kernel
theorem d_Rows_add_81 : decode prog_4_method_4_code 81 = .ok (.iload 6, 2) := by decide +kernel
theorem d_Rows_add_83 : decode prog_4_method_4_code 83 = .ok (.bipush 16, 2) := by decide +kernel
theorem d_Rows_add_85 : decode prog_4_method_4_code 85 = .ok (.if_icmp .gt 20, 3) := by decide +kernel
theorem d_Rows_add_88 : decode prog_4_method_4_code 88 = .ok (.aload_n 0, 1) := by decide +kernel
theorem d_Rows_add_89 : decode prog_4_method_4_code 89 = .ok (.getfield 18, 3) := by decide +kernel
theorem d_Rows_add_92 : decode prog_4_method_4_code 92 = .ok (.iload 6, 2) := by decide +kernel
theorem d_Rows_add_94 : decode prog_4_method_4_code 94 = .ok (.dup2, 1) := by decide +kernel
theorem d_Rows_add_95 : decode prog_4_method_4_code 95 = .ok (.iaload, 1) := by decide +kernel
theorem d_Rows_add_96 : decode prog_4_method_4_code 96 = .ok (.iconst 1, 1) := by decide +kernel
theorem d_Rows_add_97 : decode prog_4_method_4_code 97 = .ok (.iadd, 1) := by decide +kernel
theorem d_Rows_add_98 : decode prog_4_method_4_code 98 = .ok (.iastore, 1) := by decide +kernel
theorem d_Rows_add_99 : decode prog_4_method_4_code 99 = .ok (.iinc 6 1, 3) := by decide +kernel
theorem d_Rows_add_102 : decode prog_4_method_4_code 102 = .ok (.goto (-21), 3) := by decide +kernel
theorem d_Rows_add_105 : decode prog_4_method_4_code 105 = .ok (.aload_n 0, 1) := by decide +kernel
theorem d_Rows_add_106 : decode prog_4_method_4_code 106 = .ok (.getfield 18, 3) := by decide +kernel
theorem d_Rows_add_109 : decode prog_4_method_4_code 109 = .ok (.iload_n 1, 1) := by decide +kernel
theorem d_Rows_add_110 : decode prog_4_method_4_code 110 = .ok (.iconst 1, 1) := by decide +kernel
theorem d_Rows_add_111 : decode prog_4_method_4_code 111 = .ok (.iadd, 1) := by decide +kernel
theorem d_Rows_add_112 : decode prog_4_method_4_code 112 = .ok (.iaload, 1) := by decide +kernel
theorem d_Rows_add_113 : decode prog_4_method_4_code 113 = .ok (.aload_n 0, 1) := by decide +kernel
theorem d_Rows_add_114 : decode prog_4_method_4_code 114 = .ok (.getfield 18, 3) := by decide +kernel
theorem d_Rows_add_117 : decode prog_4_method_4_code 117 = .ok (.iload_n 1, 1) := by decide +kernel
theorem d_Rows_add_118 : decode prog_4_method_4_code 118 = .ok (.iaload, 1) := by decide +kernel
theorem d_Rows_add_119 : decode prog_4_method_4_code 119 = .ok (.isub, 1) := by decide +kernel
theorem d_Rows_add_120 : decode prog_4_method_4_code 120 = .ok (.ireturn, 1) := by decide +kernel
theorem kM_Rows_24 : Cond.methodLink "FaultRules$Rows" (24 : Nat) ({ cls := "java/lang/System", name := "arraycopy", desc := "(Ljava/lang/Object;ILjava/lang/Object;II)V" } : Jvm.MethodName) ∈ xT := x_t2 rfl (i := 215) rfl
theorem kV_copy : Cond.native ({ cls := "java/lang/System", name := "arraycopy", desc := "(Ljava/lang/Object;ILjava/lang/Object;II)V" } : Jvm.MethodName) ∈ xT := x_t2 rfl (i := 217) rfl
theorem kT_copy : Cond.static ({ cls := "java/lang/System", name := "arraycopy", desc := "(Ljava/lang/Object;ILjava/lang/Object;II)V" } : Jvm.MethodName) ∈ xT := x_t2 rfl (i := 216) rfl
theorem kN_System : Cond.initialized "java/lang/System" ∈ xT := x_t1 rfl (i := 14) rfl
theorem kF_Rows_15 : Cond.fieldLink "FaultRules$Rows" (15 : Nat) "FaultRules$Rows" "values" "[I" ∈ xT := x_t1 rfl (i := 33) rfl
abbrev y_Rows_advance : MethodName := { cls := "FaultRules$Rows", name := "advance", desc := "(I)V" }
theorem kC_Rows_advance : Cond.code ({ cls := "FaultRules$Rows", name := "advance", desc := "(I)V" } : Jvm.MethodName) prog_4_method_6_code (4 : Nat) (Option.none : Option Jvm.ClassFile.FieldType) ∈ xT := x_t2 rfl (i := 236) rfl
theorem hd_Rows_advance : y_Rows_advance.cls ≠ "java/lang/invoke/MethodHandle" ∧ y_Rows_advance.cls ≠ "java/lang/invoke/VarHandle" ∧ (parseMethodDescriptor y_Rows_advance.desc).map (fun d => d.parameters.length) = some 1 := by decide +kernel
theorem d_Rows_advance_0 : decode prog_4_method_6_code 0 = .ok (.iconst 0, 1) := by decide +kernel
theorem d_Rows_advance_1 : decode prog_4_method_6_code 1 = .ok (.istore_n 2, 1) := by decide +kernel
theorem d_Rows_advance_2 : decode prog_4_method_6_code 2 = .ok (.iload_n 2, 1) := by decide +kernel
theorem d_Rows_advance_3 : decode prog_4_method_6_code 3 = .ok (.bipush 16, 2) := by decide +kernel
theorem d_Rows_advance_5 : decode prog_4_method_6_code 5 = .ok (.if_icmp .ge 65, 3) := by decide +kernel
theorem d_Rows_advance_8 : decode prog_4_method_6_code 8 = .ok (.aload_n 0, 1) := by decide +kernel
theorem d_Rows_advance_9 : decode prog_4_method_6_code 9 = .ok (.getfield 18, 3) := by decide +kernel
theorem d_Rows_advance_12 : decode prog_4_method_6_code 12 = .ok (.iload_n 2, 1) := by decide +kernel
theorem d_Rows_advance_13 : decode prog_4_method_6_code 13 = .ok (.iaload, 1) := by decide +kernel
theorem d_Rows_advance_14 : decode prog_4_method_6_code 14 = .ok (.aload_n 0, 1) := by decide +kernel
theorem d_Rows_advance_15 : decode prog_4_method_6_code 15 = .ok (.getfield 21, 3) := by decide +kernel
theorem d_Rows_advance_18 : decode prog_4_method_6_code 18 = .ok (.iload_n 2, 1) := by decide +kernel
theorem d_Rows_advance_19 : decode prog_4_method_6_code 19 = .ok (.iaload, 1) := by decide +kernel
theorem d_Rows_advance_20 : decode prog_4_method_6_code 20 = .ok (.iadd, 1) := by decide +kernel
theorem d_Rows_advance_21 : decode prog_4_method_6_code 21 = .ok (.istore_n 3, 1) := by decide +kernel
theorem d_Rows_advance_22 : decode prog_4_method_6_code 22 = .ok (.iload_n 3, 1) := by decide +kernel
theorem d_Rows_advance_23 : decode prog_4_method_6_code 23 = .ok (.aload_n 0, 1) := by decide +kernel
theorem d_Rows_advance_24 : decode prog_4_method_6_code 24 = .ok (.getfield 18, 3) := by decide +kernel
theorem d_Rows_advance_27 : decode prog_4_method_6_code 27 = .ok (.iload_n 2, 1) := by decide +kernel
theorem d_Rows_advance_28 : decode prog_4_method_6_code 28 = .ok (.iconst 1, 1) := by decide +kernel
theorem d_Rows_advance_29 : decode prog_4_method_6_code 29 = .ok (.iadd, 1) := by decide +kernel
theorem d_Rows_advance_30 : decode prog_4_method_6_code 30 = .ok (.iaload, 1) := by decide +kernel
theorem d_Rows_advance_31 : decode prog_4_method_6_code 31 = .ok (.if_icmp .ge 19, 3) := by decide +kernel
theorem d_Rows_advance_34 : decode prog_4_method_6_code 34 = .ok (.aload_n 0, 1) := by decide +kernel
theorem d_Rows_advance_35 : decode prog_4_method_6_code 35 = .ok (.getfield 9, 3) := by decide +kernel
theorem d_Rows_advance_38 : decode prog_4_method_6_code 38 = .ok (.iload_n 3, 1) := by decide +kernel
theorem d_Rows_advance_39 : decode prog_4_method_6_code 39 = .ok (.iaload, 1) := by decide +kernel
theorem d_Rows_advance_40 : decode prog_4_method_6_code 40 = .ok (.iload_n 1, 1) := by decide +kernel
theorem d_Rows_advance_41 : decode prog_4_method_6_code 41 = .ok (.if_icmp .gt 9, 3) := by decide +kernel
theorem d_Rows_advance_44 : decode prog_4_method_6_code 44 = .ok (.iinc 3 1, 3) := by decide +kernel
theorem d_Rows_advance_47 : decode prog_4_method_6_code 47 = .ok (.goto (-25), 3) := by decide +kernel
theorem d_Rows_advance_50 : decode prog_4_method_6_code 50 = .ok (.aload_n 0, 1) := by decide +kernel
theorem d_Rows_advance_51 : decode prog_4_method_6_code 51 = .ok (.getfield 21, 3) := by decide +kernel
theorem d_Rows_advance_54 : decode prog_4_method_6_code 54 = .ok (.iload_n 2, 1) := by decide +kernel
theorem d_Rows_advance_55 : decode prog_4_method_6_code 55 = .ok (.iload_n 3, 1) := by decide +kernel
theorem d_Rows_advance_56 : decode prog_4_method_6_code 56 = .ok (.aload_n 0, 1) := by decide +kernel
theorem d_Rows_advance_57 : decode prog_4_method_6_code 57 = .ok (.getfield 18, 3) := by decide +kernel
theorem d_Rows_advance_60 : decode prog_4_method_6_code 60 = .ok (.iload_n 2, 1) := by decide +kernel
theorem d_Rows_advance_61 : decode prog_4_method_6_code 61 = .ok (.iaload, 1) := by decide +kernel
theorem d_Rows_advance_62 : decode prog_4_method_6_code 62 = .ok (.isub, 1) := by decide +kernel
theorem d_Rows_advance_63 : decode prog_4_method_6_code 63 = .ok (.iastore, 1) := by decide +kernel
theorem d_Rows_advance_64 : decode prog_4_method_6_code 64 = .ok (.iinc 2 1, 3) := by decide +kernel
theorem d_Rows_advance_67 : decode prog_4_method_6_code 67 = .ok (.goto (-65), 3) := by decide +kernel
theorem d_Rows_advance_70 : decode prog_4_method_6_code 70 = .ok (.return_, 1) := by decide +kernel
theorem kF_Rows_21 : Cond.fieldLink "FaultRules$Rows" (21 : Nat) "FaultRules$Rows" "seen" "[I" ∈ xT := x_t1 rfl (i := 35) rfl
abbrev y_Rows_has : MethodName := { cls := "FaultRules$Rows", name := "has", desc := "(I)Z" }
theorem kC_Rows_has : Cond.code ({ cls := "FaultRules$Rows", name := "has", desc := "(I)Z" } : Jvm.MethodName) prog_4_method_7_code (2 : Nat) (Option.some Jvm.ClassFile.FieldType.boolean) ∈ xT := x_t3 rfl (i := 0) rfl
theorem hd_Rows_has : y_Rows_has.cls ≠ "java/lang/invoke/MethodHandle" ∧ y_Rows_has.cls ≠ "java/lang/invoke/VarHandle" ∧ (parseMethodDescriptor y_Rows_has.desc).map (fun d => d.parameters.length) = some 1 := by decide +kernel
theorem d_Rows_has_0 : decode prog_4_method_7_code 0 = .ok (.aload_n 0, 1) := by decide +kernel
theorem d_Rows_has_1 : decode prog_4_method_7_code 1 = .ok (.getfield 21, 3) := by decide +kernel
theorem d_Rows_has_4 : decode prog_4_method_7_code 4 = .ok (.iload_n 1, 1) := by decide +kernel
theorem d_Rows_has_5 : decode prog_4_method_7_code 5 = .ok (.iaload, 1) := by decide +kernel
theorem d_Rows_has_6 : decode prog_4_method_7_code 6 = .ok (.ifCond .le 7, 3) := by decide +kernel
theorem d_Rows_has_9 : decode prog_4_method_7_code 9 = .ok (.iconst 1, 1) := by decide +kernel
theorem d_Rows_has_10 : decode prog_4_method_7_code 10 = .ok (.goto 4, 3) := by decide +kernel
theorem d_Rows_has_13 : decode prog_4_method_7_code 13 = .ok (.iconst 0, 1) := by decide +kernel
theorem d_Rows_has_14 : decode prog_4_method_7_code 14 = .ok (.ireturn, 1) := by decide +kernel
abbrev y_Rows_latestValue : MethodName := { cls := "FaultRules$Rows", name := "latestValue", desc := "(I)I" }
theorem kC_Rows_latestValue : Cond.code ({ cls := "FaultRules$Rows", name := "latestValue", desc := "(I)I" } : Jvm.MethodName) prog_4_method_8_code (2 : Nat) (Option.some Jvm.ClassFile.FieldType.int) ∈ xT := x_t3 rfl (i := 5) rfl
theorem hd_Rows_latestValue : y_Rows_latestValue.cls ≠ "java/lang/invoke/MethodHandle" ∧ y_Rows_latestValue.cls ≠ "java/lang/invoke/VarHandle" ∧ (parseMethodDescriptor y_Rows_latestValue.desc).map (fun d => d.parameters.length) = some 1 := by decide +kernel
theorem d_Rows_latestValue_0 : decode prog_4_method_8_code 0 = .ok (.aload_n 0, 1) := by decide +kernel
theorem d_Rows_latestValue_1 : decode prog_4_method_8_code 1 = .ok (.getfield 15, 3) := by decide +kernel
theorem d_Rows_latestValue_4 : decode prog_4_method_8_code 4 = .ok (.aload_n 0, 1) := by decide +kernel
theorem d_Rows_latestValue_5 : decode prog_4_method_8_code 5 = .ok (.getfield 18, 3) := by decide +kernel
theorem d_Rows_latestValue_8 : decode prog_4_method_8_code 8 = .ok (.iload_n 1, 1) := by decide +kernel
theorem d_Rows_latestValue_9 : decode prog_4_method_8_code 9 = .ok (.iaload, 1) := by decide +kernel
theorem d_Rows_latestValue_10 : decode prog_4_method_8_code 10 = .ok (.aload_n 0, 1) := by decide +kernel
theorem d_Rows_latestValue_11 : decode prog_4_method_8_code 11 = .ok (.getfield 21, 3) := by decide +kernel
theorem d_Rows_latestValue_14 : decode prog_4_method_8_code 14 = .ok (.iload_n 1, 1) := by decide +kernel
theorem d_Rows_latestValue_15 : decode prog_4_method_8_code 15 = .ok (.iaload, 1) := by decide +kernel
theorem d_Rows_latestValue_16 : decode prog_4_method_8_code 16 = .ok (.iadd, 1) := by decide +kernel
theorem d_Rows_latestValue_17 : decode prog_4_method_8_code 17 = .ok (.iconst 1, 1) := by decide +kernel
theorem d_Rows_latestValue_18 : decode prog_4_method_8_code 18 = .ok (.isub, 1) := by decide +kernel
theorem d_Rows_latestValue_19 : decode prog_4_method_8_code 19 = .ok (.iaload, 1) := by decide +kernel
theorem d_Rows_latestValue_20 : decode prog_4_method_8_code 20 = .ok (.ireturn, 1) := by decide +kernel
abbrev y_Rows_age : MethodName := { cls := "FaultRules$Rows", name := "age", desc := "(II)I" }
theorem kC_Rows_age : Cond.code ({ cls := "FaultRules$Rows", name := "age", desc := "(II)I" } : Jvm.MethodName) prog_4_method_9_code (3 : Nat) (Option.some Jvm.ClassFile.FieldType.int) ∈ xT := x_t3 rfl (i := 62) rfl
theorem hd_Rows_age : y_Rows_age.cls ≠ "java/lang/invoke/MethodHandle" ∧ y_Rows_age.cls ≠ "java/lang/invoke/VarHandle" ∧ (parseMethodDescriptor y_Rows_age.desc).map (fun d => d.parameters.length) = some 2 := by decide +kernel
theorem d_Rows_age_0 : decode prog_4_method_9_code 0 = .ok (.iload_n 2, 1) := by decide +kernel
theorem d_Rows_age_1 : decode prog_4_method_9_code 1 = .ok (.aload_n 0, 1) := by decide +kernel
theorem d_Rows_age_2 : decode prog_4_method_9_code 2 = .ok (.getfield 9, 3) := by decide +kernel
theorem d_Rows_age_5 : decode prog_4_method_9_code 5 = .ok (.aload_n 0, 1) := by decide +kernel
theorem d_Rows_age_6 : decode prog_4_method_9_code 6 = .ok (.getfield 18, 3) := by decide +kernel
theorem d_Rows_age_9 : decode prog_4_method_9_code 9 = .ok (.iload_n 1, 1) := by decide +kernel
theorem d_Rows_age_10 : decode prog_4_method_9_code 10 = .ok (.iaload, 1) := by decide +kernel
theorem d_Rows_age_11 : decode prog_4_method_9_code 11 = .ok (.aload_n 0, 1) := by decide +kernel
theorem d_Rows_age_12 : decode prog_4_method_9_code 12 = .ok (.getfield 21, 3) := by decide +kernel
theorem d_Rows_age_15 : decode prog_4_method_9_code 15 = .ok (.iload_n 1, 1) := by decide +kernel
theorem d_Rows_age_16 : decode prog_4_method_9_code 16 = .ok (.iaload, 1) := by decide +kernel
theorem d_Rows_age_17 : decode prog_4_method_9_code 17 = .ok (.iadd, 1) := by decide +kernel
theorem d_Rows_age_18 : decode prog_4_method_9_code 18 = .ok (.iconst 1, 1) := by decide +kernel
theorem d_Rows_age_19 : decode prog_4_method_9_code 19 = .ok (.isub, 1) := by decide +kernel
theorem d_Rows_age_20 : decode prog_4_method_9_code 20 = .ok (.iaload, 1) := by decide +kernel
theorem d_Rows_age_21 : decode prog_4_method_9_code 21 = .ok (.isub, 1) := by decide +kernel
theorem d_Rows_age_22 : decode prog_4_method_9_code 22 = .ok (.ireturn, 1) := by decide +kernel
abbrev y_Rows_lastStep : MethodName := { cls := "FaultRules$Rows", name := "lastStep", desc := "(I)I" }
theorem kC_Rows_lastStep : Cond.code ({ cls := "FaultRules$Rows", name := "lastStep", desc := "(I)I" } : Jvm.MethodName) prog_4_method_10_code (3 : Nat) (Option.some Jvm.ClassFile.FieldType.int) ∈ xT := x_t3 rfl (i := 66) rfl
theorem hd_Rows_lastStep : y_Rows_lastStep.cls ≠ "java/lang/invoke/MethodHandle" ∧ y_Rows_lastStep.cls ≠ "java/lang/invoke/VarHandle" ∧ (parseMethodDescriptor y_Rows_lastStep.desc).map (fun d => d.parameters.length) = some 1 := by decide +kernel
theorem d_Rows_lastStep_0 : decode prog_4_method_10_code 0 = .ok (.aload_n 0, 1) := by decide +kernel
theorem d_Rows_lastStep_1 : decode prog_4_method_10_code 1 = .ok (.getfield 21, 3) := by decide +kernel
theorem d_Rows_lastStep_4 : decode prog_4_method_10_code 4 = .ok (.iload_n 1, 1) := by decide +kernel
theorem d_Rows_lastStep_5 : decode prog_4_method_10_code 5 = .ok (.iaload, 1) := by decide +kernel
theorem d_Rows_lastStep_6 : decode prog_4_method_10_code 6 = .ok (.iconst 2, 1) := by decide +kernel
theorem d_Rows_lastStep_7 : decode prog_4_method_10_code 7 = .ok (.if_icmp .ge 5, 3) := by decide +kernel
theorem d_Rows_lastStep_10 : decode prog_4_method_10_code 10 = .ok (.iconst 0, 1) := by decide +kernel
theorem d_Rows_lastStep_11 : decode prog_4_method_10_code 11 = .ok (.ireturn, 1) := by decide +kernel
theorem d_Rows_lastStep_12 : decode prog_4_method_10_code 12 = .ok (.aload_n 0, 1) := by decide +kernel
theorem d_Rows_lastStep_13 : decode prog_4_method_10_code 13 = .ok (.getfield 18, 3) := by decide +kernel
theorem d_Rows_lastStep_16 : decode prog_4_method_10_code 16 = .ok (.iload_n 1, 1) := by decide +kernel
theorem d_Rows_lastStep_17 : decode prog_4_method_10_code 17 = .ok (.iaload, 1) := by decide +kernel
theorem d_Rows_lastStep_18 : decode prog_4_method_10_code 18 = .ok (.aload_n 0, 1) := by decide +kernel
theorem d_Rows_lastStep_19 : decode prog_4_method_10_code 19 = .ok (.getfield 21, 3) := by decide +kernel
theorem d_Rows_lastStep_22 : decode prog_4_method_10_code 22 = .ok (.iload_n 1, 1) := by decide +kernel
theorem d_Rows_lastStep_23 : decode prog_4_method_10_code 23 = .ok (.iaload, 1) := by decide +kernel
theorem d_Rows_lastStep_24 : decode prog_4_method_10_code 24 = .ok (.iadd, 1) := by decide +kernel
theorem d_Rows_lastStep_25 : decode prog_4_method_10_code 25 = .ok (.iconst 1, 1) := by decide +kernel
theorem d_Rows_lastStep_26 : decode prog_4_method_10_code 26 = .ok (.isub, 1) := by decide +kernel
theorem d_Rows_lastStep_27 : decode prog_4_method_10_code 27 = .ok (.istore_n 2, 1) := by decide +kernel
theorem d_Rows_lastStep_28 : decode prog_4_method_10_code 28 = .ok (.aload_n 0, 1) := by decide +kernel
theorem d_Rows_lastStep_29 : decode prog_4_method_10_code 29 = .ok (.getfield 15, 3) := by decide +kernel
theorem d_Rows_lastStep_32 : decode prog_4_method_10_code 32 = .ok (.iload_n 2, 1) := by decide +kernel
theorem d_Rows_lastStep_33 : decode prog_4_method_10_code 33 = .ok (.iaload, 1) := by decide +kernel
theorem d_Rows_lastStep_34 : decode prog_4_method_10_code 34 = .ok (.aload_n 0, 1) := by decide +kernel
theorem d_Rows_lastStep_35 : decode prog_4_method_10_code 35 = .ok (.getfield 15, 3) := by decide +kernel
theorem d_Rows_lastStep_38 : decode prog_4_method_10_code 38 = .ok (.iload_n 2, 1) := by decide +kernel
theorem d_Rows_lastStep_39 : decode prog_4_method_10_code 39 = .ok (.iconst 1, 1) := by decide +kernel
theorem d_Rows_lastStep_40 : decode prog_4_method_10_code 40 = .ok (.isub, 1) := by decide +kernel
theorem d_Rows_lastStep_41 : decode prog_4_method_10_code 41 = .ok (.iaload, 1) := by decide +kernel
theorem d_Rows_lastStep_42 : decode prog_4_method_10_code 42 = .ok (.isub, 1) := by decide +kernel
theorem d_Rows_lastStep_43 : decode prog_4_method_10_code 43 = .ok (.invokestatic 36, 3) := by decide +kernel
theorem d_Rows_lastStep_46 : decode prog_4_method_10_code 46 = .ok (.ireturn, 1) := by decide +kernel
theorem kM_Rows_36 : Cond.methodLink "FaultRules$Rows" (36 : Nat) ({ cls := "java/lang/Math", name := "abs", desc := "(I)I" } : Jvm.MethodName) ∈ xT := x_t3 rfl (i := 67) rfl
theorem kT_absI : Cond.static ({ cls := "java/lang/Math", name := "abs", desc := "(I)I" } : Jvm.MethodName) ∈ xT := x_t3 rfl (i := 68) rfl
theorem kN_Math : Cond.initialized "java/lang/Math" ∈ xT := x_t1 rfl (i := 16) rfl
theorem kC_absI : Cond.code ({ cls := "java/lang/Math", name := "abs", desc := "(I)I" } : Jvm.MethodName) prog_14_method_59_code (1 : Nat) (Option.some Jvm.ClassFile.FieldType.int) ∈ xT := x_t3 rfl (i := 69) rfl
theorem kL_LeftOut_0 : Cond.laysFinal "FaultRules$LeftOut" "FaultRules$LeftOut" "minutes" "[I" ∈ xT := x_t1 rfl (i := 139) rfl
theorem kL_LeftOut_1 : Cond.lays "FaultRules$LeftOut" "FaultRules$LeftOut" "count" "I" ∈ xT := x_t1 rfl (i := 141) rfl
theorem i_LeftOut : ∀ w ∈ u_ws R_LeftOut T_LeftOut 2, w ∈ xT := by
  show ∀ w ∈ ([Cond.laysFinal "FaultRules$LeftOut" "FaultRules$LeftOut" "minutes" "[I", Cond.lays "FaultRules$LeftOut" "FaultRules$LeftOut" "count" "I"] : List Cond), w ∈ xT
  exact x_fc kL_LeftOut_0 (x_fc kL_LeftOut_1 (x_fn))
theorem kL_Reader_0 : Cond.lays "FaultRules$Reader" "FaultRules$Reader" "due" "I" ∈ xT := x_t1 rfl (i := 84) rfl
theorem kL_Reader_1 : Cond.lays "FaultRules$Reader" "FaultRules$Reader" "isNegative" "Z" ∈ xT := x_t1 rfl (i := 86) rfl
theorem i_Reader : ∀ w ∈ u_ws R_Reader T_Reader 2, w ∈ xT := by
  show ∀ w ∈ ([Cond.lays "FaultRules$Reader" "FaultRules$Reader" "due" "I", Cond.lays "FaultRules$Reader" "FaultRules$Reader" "isNegative" "Z"] : List Cond), w ∈ xT
  exact x_fc kL_Reader_0 (x_fc kL_Reader_1 (x_fn))
theorem kL_Rows_0 : Cond.laysFinal "FaultRules$Rows" "FaultRules$Rows" "minutes" "[I" ∈ xT := x_t1 rfl (i := 36) rfl
theorem kL_Rows_1 : Cond.laysFinal "FaultRules$Rows" "FaultRules$Rows" "values" "[I" ∈ xT := x_t1 rfl (i := 38) rfl
theorem kL_Rows_2 : Cond.laysFinal "FaultRules$Rows" "FaultRules$Rows" "starts" "[I" ∈ xT := x_t1 rfl (i := 40) rfl
theorem kL_Rows_3 : Cond.laysFinal "FaultRules$Rows" "FaultRules$Rows" "seen" "[I" ∈ xT := x_t1 rfl (i := 42) rfl
theorem i_Rows : ∀ w ∈ u_ws R_Rows T_Rows 4, w ∈ xT := by
  show ∀ w ∈ ([Cond.laysFinal "FaultRules$Rows" "FaultRules$Rows" "minutes" "[I", Cond.laysFinal "FaultRules$Rows" "FaultRules$Rows" "values" "[I", Cond.laysFinal "FaultRules$Rows" "FaultRules$Rows" "starts" "[I", Cond.laysFinal "FaultRules$Rows" "FaultRules$Rows" "seen" "[I"] : List Cond), w ∈ xT
  exact x_fc kL_Rows_0 (x_fc kL_Rows_1 (x_fc kL_Rows_2 (x_fc kL_Rows_3 (x_fn))))
theorem kL_RuleSet_0 : Cond.laysFinal "FaultRules$RuleSet" "FaultRules$RuleSet" "names" "[J" ∈ xT := x_t1 rfl (i := 174) rfl
theorem kL_RuleSet_1 : Cond.laysFinal "FaultRules$RuleSet" "FaultRules$RuleSet" "spans" "[I" ∈ xT := x_t1 rfl (i := 176) rfl
theorem kL_RuleSet_2 : Cond.laysFinal "FaultRules$RuleSet" "FaultRules$RuleSet" "costs" "[I" ∈ xT := x_t1 rfl (i := 178) rfl
theorem kL_RuleSet_3 : Cond.laysFinal "FaultRules$RuleSet" "FaultRules$RuleSet" "sizes" "[I" ∈ xT := x_t1 rfl (i := 180) rfl
theorem kL_RuleSet_4 : Cond.laysFinal "FaultRules$RuleSet" "FaultRules$RuleSet" "kinds" "[I" ∈ xT := x_t1 rfl (i := 182) rfl
theorem kL_RuleSet_5 : Cond.laysFinal "FaultRules$RuleSet" "FaultRules$RuleSet" "firsts" "[I" ∈ xT := x_t1 rfl (i := 184) rfl
theorem kL_RuleSet_6 : Cond.laysFinal "FaultRules$RuleSet" "FaultRules$RuleSet" "seconds" "[I" ∈ xT := x_t1 rfl (i := 186) rfl
theorem kL_RuleSet_7 : Cond.laysFinal "FaultRules$RuleSet" "FaultRules$RuleSet" "numbers" "[I" ∈ xT := x_t1 rfl (i := 188) rfl
theorem kL_RuleSet_8 : Cond.lays "FaultRules$RuleSet" "FaultRules$RuleSet" "count" "I" ∈ xT := x_t1 rfl (i := 190) rfl
theorem i_RuleSet : ∀ w ∈ u_ws R_RuleSet T_RuleSet 9, w ∈ xT := by
  show ∀ w ∈ ([Cond.laysFinal "FaultRules$RuleSet" "FaultRules$RuleSet" "names" "[J", Cond.laysFinal "FaultRules$RuleSet" "FaultRules$RuleSet" "spans" "[I", Cond.laysFinal "FaultRules$RuleSet" "FaultRules$RuleSet" "costs" "[I", Cond.laysFinal "FaultRules$RuleSet" "FaultRules$RuleSet" "sizes" "[I", Cond.laysFinal "FaultRules$RuleSet" "FaultRules$RuleSet" "kinds" "[I", Cond.laysFinal "FaultRules$RuleSet" "FaultRules$RuleSet" "firsts" "[I", Cond.laysFinal "FaultRules$RuleSet" "FaultRules$RuleSet" "seconds" "[I", Cond.laysFinal "FaultRules$RuleSet" "FaultRules$RuleSet" "numbers" "[I", Cond.lays "FaultRules$RuleSet" "FaultRules$RuleSet" "count" "I"] : List Cond), w ∈ xT
  exact x_fc kL_RuleSet_0 (x_fc kL_RuleSet_1 (x_fc kL_RuleSet_2 (x_fc kL_RuleSet_3 (x_fc kL_RuleSet_4 (x_fc kL_RuleSet_5 (x_fc kL_RuleSet_6 (x_fc kL_RuleSet_7 (x_fc kL_RuleSet_8 (x_fn)))))))))
theorem kL_Run_0 : Cond.lays "FaultRules$Run" "FaultRules$Run" "isThere" "Z" ∈ xT := x_t1 rfl (i := 110) rfl
theorem kL_Run_1 : Cond.lays "FaultRules$Run" "FaultRules$Run" "count" "I" ∈ xT := x_t1 rfl (i := 112) rfl
theorem kL_Run_2 : Cond.lays "FaultRules$Run" "FaultRules$Run" "total" "I" ∈ xT := x_t1 rfl (i := 114) rfl
theorem kL_Run_3 : Cond.lays "FaultRules$Run" "FaultRules$Run" "faultyRules" "I" ∈ xT := x_t1 rfl (i := 116) rfl
theorem kL_Run_4 : Cond.laysFinal "FaultRules$Run" "FaultRules$Run" "minutesHeld" "[I" ∈ xT := x_t1 rfl (i := 118) rfl
theorem kL_Run_5 : Cond.laysFinal "FaultRules$Run" "FaultRules$Run" "since" "[I" ∈ xT := x_t1 rfl (i := 120) rfl
theorem kL_Run_6 : Cond.laysFinal "FaultRules$Run" "FaultRules$Run" "faultRules" "[I" ∈ xT := x_t1 rfl (i := 122) rfl
theorem kL_Run_7 : Cond.laysFinal "FaultRules$Run" "FaultRules$Run" "begins" "[I" ∈ xT := x_t1 rfl (i := 124) rfl
theorem kL_Run_8 : Cond.laysFinal "FaultRules$Run" "FaultRules$Run" "ends" "[I" ∈ xT := x_t1 rfl (i := 126) rfl
theorem kL_Run_9 : Cond.laysFinal "FaultRules$Run" "FaultRules$Run" "faultCosts" "[I" ∈ xT := x_t1 rfl (i := 128) rfl
theorem i_Run : ∀ w ∈ u_ws R_Run T_Run 10, w ∈ xT := by
  show ∀ w ∈ ([Cond.lays "FaultRules$Run" "FaultRules$Run" "isThere" "Z", Cond.lays "FaultRules$Run" "FaultRules$Run" "count" "I", Cond.lays "FaultRules$Run" "FaultRules$Run" "total" "I", Cond.lays "FaultRules$Run" "FaultRules$Run" "faultyRules" "I", Cond.laysFinal "FaultRules$Run" "FaultRules$Run" "minutesHeld" "[I", Cond.laysFinal "FaultRules$Run" "FaultRules$Run" "since" "[I", Cond.laysFinal "FaultRules$Run" "FaultRules$Run" "faultRules" "[I", Cond.laysFinal "FaultRules$Run" "FaultRules$Run" "begins" "[I", Cond.laysFinal "FaultRules$Run" "FaultRules$Run" "ends" "[I", Cond.laysFinal "FaultRules$Run" "FaultRules$Run" "faultCosts" "[I"] : List Cond), w ∈ xT
  exact x_fc kL_Run_0 (x_fc kL_Run_1 (x_fc kL_Run_2 (x_fc kL_Run_3 (x_fc kL_Run_4 (x_fc kL_Run_5 (x_fc kL_Run_6 (x_fc kL_Run_7 (x_fc kL_Run_8 (x_fc kL_Run_9 (x_fn))))))))))
theorem kL_Text_0 : Cond.laysFinal "FaultRules$Text" "FaultRules$Text" "signs" "[C" ∈ xT := x_t1 rfl (i := 62) rfl
theorem kL_Text_1 : Cond.lays "FaultRules$Text" "FaultRules$Text" "size" "I" ∈ xT := x_t1 rfl (i := 64) rfl
theorem kL_Text_2 : Cond.lays "FaultRules$Text" "FaultRules$Text" "at" "I" ∈ xT := x_t1 rfl (i := 66) rfl
theorem kL_Text_3 : Cond.lays "FaultRules$Text" "FaultRules$Text" "kind" "I" ∈ xT := x_t1 rfl (i := 68) rfl
theorem kL_Text_4 : Cond.lays "FaultRules$Text" "FaultRules$Text" "amount" "I" ∈ xT := x_t1 rfl (i := 70) rfl
theorem kL_Text_5 : Cond.lays "FaultRules$Text" "FaultRules$Text" "letters" "J" ∈ xT := x_t1 rfl (i := 72) rfl
theorem i_Text : ∀ w ∈ u_ws R_Text T_Text 6, w ∈ xT := by
  show ∀ w ∈ ([Cond.laysFinal "FaultRules$Text" "FaultRules$Text" "signs" "[C", Cond.lays "FaultRules$Text" "FaultRules$Text" "size" "I", Cond.lays "FaultRules$Text" "FaultRules$Text" "at" "I", Cond.lays "FaultRules$Text" "FaultRules$Text" "kind" "I", Cond.lays "FaultRules$Text" "FaultRules$Text" "amount" "I", Cond.lays "FaultRules$Text" "FaultRules$Text" "letters" "J"] : List Cond), w ∈ xT
  exact x_fc kL_Text_0 (x_fc kL_Text_1 (x_fc kL_Text_2 (x_fc kL_Text_3 (x_fc kL_Text_4 (x_fc kL_Text_5 (x_fn))))))
theorem kL_FaultRules_0 : Cond.laysFinal "FaultRules" "FaultRules" "rows" "LFaultRules$Rows;" ∈ xT := x_t1 rfl (i := 202) rfl
theorem kL_FaultRules_1 : Cond.laysFinal "FaultRules" "FaultRules" "text" "LFaultRules$Text;" ∈ xT := x_t1 rfl (i := 204) rfl
theorem kL_FaultRules_2 : Cond.laysFinal "FaultRules" "FaultRules" "reader" "LFaultRules$Reader;" ∈ xT := x_t1 rfl (i := 206) rfl
theorem kL_FaultRules_3 : Cond.laysFinal "FaultRules" "FaultRules" "found" "LFaultRules$Run;" ∈ xT := x_t1 rfl (i := 208) rfl
theorem kL_FaultRules_4 : Cond.laysFinal "FaultRules" "FaultRules" "leftOut" "LFaultRules$LeftOut;" ∈ xT := x_t1 rfl (i := 210) rfl
theorem kL_FaultRules_5 : Cond.laysFinal "FaultRules" "FaultRules" "brought" "[I" ∈ xT := x_t1 rfl (i := 212) rfl
theorem kL_FaultRules_6 : Cond.lays "FaultRules" "FaultRules" "ruleSet" "LFaultRules$RuleSet;" ∈ xT := x_t1 rfl (i := 214) rfl
theorem kL_FaultRules_7 : Cond.lays "FaultRules" "FaultRules" "draft" "LFaultRules$RuleSet;" ∈ xT := x_t1 rfl (i := 216) rfl
theorem i_FaultRules : ∀ w ∈ u_ws R_FaultRules T_FaultRules 8, w ∈ xT := by
  show ∀ w ∈ ([Cond.laysFinal "FaultRules" "FaultRules" "rows" "LFaultRules$Rows;", Cond.laysFinal "FaultRules" "FaultRules" "text" "LFaultRules$Text;", Cond.laysFinal "FaultRules" "FaultRules" "reader" "LFaultRules$Reader;", Cond.laysFinal "FaultRules" "FaultRules" "found" "LFaultRules$Run;", Cond.laysFinal "FaultRules" "FaultRules" "leftOut" "LFaultRules$LeftOut;", Cond.laysFinal "FaultRules" "FaultRules" "brought" "[I", Cond.lays "FaultRules" "FaultRules" "ruleSet" "LFaultRules$RuleSet;", Cond.lays "FaultRules" "FaultRules" "draft" "LFaultRules$RuleSet;"] : List Cond), w ∈ xT
  exact x_fc kL_FaultRules_0 (x_fc kL_FaultRules_1 (x_fc kL_FaultRules_2 (x_fc kL_FaultRules_3 (x_fc kL_FaultRules_4 (x_fc kL_FaultRules_5 (x_fc kL_FaultRules_6 (x_fc kL_FaultRules_7 (x_fn))))))))
theorem kL_Model_0 : Cond.lays "FaultRulesModel" "FaultRulesModel" "thrown" "I" ∈ xT := x_t4 rfl (i := 8) rfl
theorem kL_Model_1 : Cond.lays "FaultRulesModel" "FaultRulesModel" "rows" "I" ∈ xT := x_t4 rfl (i := 10) rfl
theorem kL_Model_2 : Cond.laysFinal "FaultRulesModel" "FaultRulesModel" "rowPoint" "[I" ∈ xT := x_t4 rfl (i := 12) rfl
theorem kL_Model_3 : Cond.laysFinal "FaultRulesModel" "FaultRulesModel" "rowMinute" "[I" ∈ xT := x_t4 rfl (i := 14) rfl
theorem kL_Model_4 : Cond.laysFinal "FaultRulesModel" "FaultRulesModel" "rowValue" "[I" ∈ xT := x_t4 rfl (i := 16) rfl
theorem kL_Model_5 : Cond.laysFinal "FaultRulesModel" "FaultRulesModel" "text" "[I" ∈ xT := x_t4 rfl (i := 18) rfl
theorem kL_Model_6 : Cond.lays "FaultRulesModel" "FaultRulesModel" "size" "I" ∈ xT := x_t4 rfl (i := 20) rfl
theorem kL_Model_7 : Cond.laysFinal "FaultRulesModel" "FaultRulesModel" "kinds" "[I" ∈ xT := x_t4 rfl (i := 22) rfl
theorem kL_Model_8 : Cond.laysFinal "FaultRulesModel" "FaultRulesModel" "values" "[J" ∈ xT := x_t4 rfl (i := 24) rfl
theorem kL_Model_9 : Cond.lays "FaultRulesModel" "FaultRulesModel" "words" "I" ∈ xT := x_t4 rfl (i := 26) rfl
theorem kL_Model_10 : Cond.lays "FaultRulesModel" "FaultRulesModel" "at" "I" ∈ xT := x_t4 rfl (i := 28) rfl
theorem kL_Model_11 : Cond.laysFinal "FaultRulesModel" "FaultRulesModel" "names" "[J" ∈ xT := x_t4 rfl (i := 30) rfl
theorem kL_Model_12 : Cond.laysFinal "FaultRulesModel" "FaultRulesModel" "testCounts" "[I" ∈ xT := x_t4 rfl (i := 32) rfl
theorem kL_Model_13 : Cond.laysFinal "FaultRulesModel" "FaultRulesModel" "minutes" "[I" ∈ xT := x_t4 rfl (i := 34) rfl
theorem kL_Model_14 : Cond.laysFinal "FaultRulesModel" "FaultRulesModel" "costs" "[I" ∈ xT := x_t4 rfl (i := 36) rfl
theorem kL_Model_15 : Cond.laysFinal "FaultRulesModel" "FaultRulesModel" "sorts" "[I" ∈ xT := x_t4 rfl (i := 38) rfl
theorem kL_Model_16 : Cond.laysFinal "FaultRulesModel" "FaultRulesModel" "firsts" "[I" ∈ xT := x_t4 rfl (i := 40) rfl
theorem kL_Model_17 : Cond.laysFinal "FaultRulesModel" "FaultRulesModel" "seconds" "[I" ∈ xT := x_t4 rfl (i := 42) rfl
theorem kL_Model_18 : Cond.laysFinal "FaultRulesModel" "FaultRulesModel" "relations" "[I" ∈ xT := x_t4 rfl (i := 44) rfl
theorem kL_Model_19 : Cond.laysFinal "FaultRulesModel" "FaultRulesModel" "numbers" "[I" ∈ xT := x_t4 rfl (i := 46) rfl
theorem kL_Model_20 : Cond.lays "FaultRulesModel" "FaultRulesModel" "ruleCount" "I" ∈ xT := x_t4 rfl (i := 48) rfl
theorem kL_Model_21 : Cond.laysFinal "FaultRulesModel" "FaultRulesModel" "last" "[I" ∈ xT := x_t4 rfl (i := 50) rfl
theorem kL_Model_22 : Cond.laysFinal "FaultRulesModel" "FaultRulesModel" "before" "[I" ∈ xT := x_t4 rfl (i := 52) rfl
theorem kL_Model_23 : Cond.lays "FaultRulesModel" "FaultRulesModel" "ran" "Z" ∈ xT := x_t4 rfl (i := 54) rfl
theorem kL_Model_24 : Cond.laysFinal "FaultRulesModel" "FaultRulesModel" "heldCounts" "[I" ∈ xT := x_t4 rfl (i := 56) rfl
theorem kL_Model_25 : Cond.laysFinal "FaultRulesModel" "FaultRulesModel" "streaks" "[I" ∈ xT := x_t4 rfl (i := 58) rfl
theorem kL_Model_26 : Cond.lays "FaultRulesModel" "FaultRulesModel" "faults" "I" ∈ xT := x_t4 rfl (i := 60) rfl
theorem kL_Model_27 : Cond.laysFinal "FaultRulesModel" "FaultRulesModel" "faultRule" "[I" ∈ xT := x_t4 rfl (i := 62) rfl
theorem kL_Model_28 : Cond.laysFinal "FaultRulesModel" "FaultRulesModel" "faultBegin" "[I" ∈ xT := x_t4 rfl (i := 64) rfl
theorem kL_Model_29 : Cond.laysFinal "FaultRulesModel" "FaultRulesModel" "faultEnd" "[I" ∈ xT := x_t4 rfl (i := 66) rfl
theorem kL_Model_30 : Cond.laysFinal "FaultRulesModel" "FaultRulesModel" "order" "[I" ∈ xT := x_t4 rfl (i := 68) rfl
theorem kL_Model_31 : Cond.laysFinal "FaultRulesModel" "FaultRulesModel" "left" "[I" ∈ xT := x_t4 rfl (i := 70) rfl
theorem kL_Model_32 : Cond.lays "FaultRulesModel" "FaultRulesModel" "leftCount" "I" ∈ xT := x_t4 rfl (i := 72) rfl
theorem kL_Model_33 : Cond.laysFinal "FaultRulesModel" "FaultRulesModel" "brings" "[I" ∈ xT := x_t4 rfl (i := 74) rfl
theorem i_Model : ∀ w ∈ u_ws R_Model T_Model 34, w ∈ xT := by
  show ∀ w ∈ ([Cond.lays "FaultRulesModel" "FaultRulesModel" "thrown" "I", Cond.lays "FaultRulesModel" "FaultRulesModel" "rows" "I", Cond.laysFinal "FaultRulesModel" "FaultRulesModel" "rowPoint" "[I", Cond.laysFinal "FaultRulesModel" "FaultRulesModel" "rowMinute" "[I", Cond.laysFinal "FaultRulesModel" "FaultRulesModel" "rowValue" "[I", Cond.laysFinal "FaultRulesModel" "FaultRulesModel" "text" "[I", Cond.lays "FaultRulesModel" "FaultRulesModel" "size" "I", Cond.laysFinal "FaultRulesModel" "FaultRulesModel" "kinds" "[I", Cond.laysFinal "FaultRulesModel" "FaultRulesModel" "values" "[J", Cond.lays "FaultRulesModel" "FaultRulesModel" "words" "I", Cond.lays "FaultRulesModel" "FaultRulesModel" "at" "I", Cond.laysFinal "FaultRulesModel" "FaultRulesModel" "names" "[J", Cond.laysFinal "FaultRulesModel" "FaultRulesModel" "testCounts" "[I", Cond.laysFinal "FaultRulesModel" "FaultRulesModel" "minutes" "[I", Cond.laysFinal "FaultRulesModel" "FaultRulesModel" "costs" "[I", Cond.laysFinal "FaultRulesModel" "FaultRulesModel" "sorts" "[I", Cond.laysFinal "FaultRulesModel" "FaultRulesModel" "firsts" "[I", Cond.laysFinal "FaultRulesModel" "FaultRulesModel" "seconds" "[I", Cond.laysFinal "FaultRulesModel" "FaultRulesModel" "relations" "[I", Cond.laysFinal "FaultRulesModel" "FaultRulesModel" "numbers" "[I", Cond.lays "FaultRulesModel" "FaultRulesModel" "ruleCount" "I", Cond.laysFinal "FaultRulesModel" "FaultRulesModel" "last" "[I", Cond.laysFinal "FaultRulesModel" "FaultRulesModel" "before" "[I", Cond.lays "FaultRulesModel" "FaultRulesModel" "ran" "Z", Cond.laysFinal "FaultRulesModel" "FaultRulesModel" "heldCounts" "[I", Cond.laysFinal "FaultRulesModel" "FaultRulesModel" "streaks" "[I", Cond.lays "FaultRulesModel" "FaultRulesModel" "faults" "I", Cond.laysFinal "FaultRulesModel" "FaultRulesModel" "faultRule" "[I", Cond.laysFinal "FaultRulesModel" "FaultRulesModel" "faultBegin" "[I", Cond.laysFinal "FaultRulesModel" "FaultRulesModel" "faultEnd" "[I", Cond.laysFinal "FaultRulesModel" "FaultRulesModel" "order" "[I", Cond.laysFinal "FaultRulesModel" "FaultRulesModel" "left" "[I", Cond.lays "FaultRulesModel" "FaultRulesModel" "leftCount" "I", Cond.laysFinal "FaultRulesModel" "FaultRulesModel" "brings" "[I"] : List Cond), w ∈ xT
  exact x_fc kL_Model_0 (x_fc kL_Model_1 (x_fc kL_Model_2 (x_fc kL_Model_3 (x_fc kL_Model_4 (x_fc kL_Model_5 (x_fc kL_Model_6 (x_fc kL_Model_7 (x_fc kL_Model_8 (x_fc kL_Model_9 (x_fc kL_Model_10 (x_fc kL_Model_11 (x_fc kL_Model_12 (x_fc kL_Model_13 (x_fc kL_Model_14 (x_fc kL_Model_15 (x_fc kL_Model_16 (x_fc kL_Model_17 (x_fc kL_Model_18 (x_fc kL_Model_19 (x_fc kL_Model_20 (x_fc kL_Model_21 (x_fc kL_Model_22 (x_fc kL_Model_23 (x_fc kL_Model_24 (x_fc kL_Model_25 (x_fc kL_Model_26 (x_fc kL_Model_27 (x_fc kL_Model_28 (x_fc kL_Model_29 (x_fc kL_Model_30 (x_fc kL_Model_31 (x_fc kL_Model_32 (x_fc kL_Model_33 (x_fn))))))))))))))))))))))))))))))))))
