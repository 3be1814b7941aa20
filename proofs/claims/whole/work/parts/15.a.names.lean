abbrev y_Rows_init : MethodName := { cls := "FaultRules$Rows", name := "<init>", desc := "()V" }
theorem kC_Rows_init : Cond.code ({ cls := "FaultRules$Rows", name := "<init>", desc := "()V" } : Jvm.MethodName) prog_4_method_1_code (1 : Nat) (Option.none : Option Jvm.ClassFile.FieldType) ∈ xT := x_t1 rfl (i := 30) rfl
theorem hd_Rows_init : y_Rows_init.cls ≠ "java/lang/invoke/MethodHandle" ∧ y_Rows_init.cls ≠ "java/lang/invoke/VarHandle" ∧ (parseMethodDescriptor y_Rows_init.desc).map (fun d => d.parameters.length) = some 0 := by decide +kernel
theorem d_Rows_init_0 : decode prog_4_method_1_code 0 = .ok (.aload_n 0, 1) := by decide +kernel
theorem d_Rows_init_1 : decode prog_4_method_1_code 1 = .ok (.invokespecial 3, 3) := by decide +kernel
theorem d_Rows_init_4 : decode prog_4_method_1_code 4 = .ok (.aload_n 0, 1) := by decide +kernel
theorem d_Rows_init_5 : decode prog_4_method_1_code 5 = .ok (.bipush 120, 2) := by decide +kernel
theorem d_Rows_init_7 : decode prog_4_method_1_code 7 = .ok (.newarray .int, 2) := by decide +kernel
theorem d_Rows_init_9 : decode prog_4_method_1_code 9 = .ok (.putfield 9, 3) := by decide +kernel
theorem d_Rows_init_12 : decode prog_4_method_1_code 12 = .ok (.aload_n 0, 1) := by decide +kernel
theorem d_Rows_init_13 : decode prog_4_method_1_code 13 = .ok (.bipush 120, 2) := by decide +kernel
theorem d_Rows_init_15 : decode prog_4_method_1_code 15 = .ok (.newarray .int, 2) := by decide +kernel
theorem d_Rows_init_17 : decode prog_4_method_1_code 17 = .ok (.putfield 15, 3) := by decide +kernel
theorem d_Rows_init_20 : decode prog_4_method_1_code 20 = .ok (.aload_n 0, 1) := by decide +kernel
theorem d_Rows_init_21 : decode prog_4_method_1_code 21 = .ok (.bipush 17, 2) := by decide +kernel
theorem d_Rows_init_23 : decode prog_4_method_1_code 23 = .ok (.newarray .int, 2) := by decide +kernel
theorem d_Rows_init_25 : decode prog_4_method_1_code 25 = .ok (.putfield 18, 3) := by decide +kernel
theorem d_Rows_init_28 : decode prog_4_method_1_code 28 = .ok (.aload_n 0, 1) := by decide +kernel
theorem d_Rows_init_29 : decode prog_4_method_1_code 29 = .ok (.bipush 16, 2) := by decide +kernel
theorem d_Rows_init_31 : decode prog_4_method_1_code 31 = .ok (.newarray .int, 2) := by decide +kernel
theorem d_Rows_init_33 : decode prog_4_method_1_code 33 = .ok (.putfield 21, 3) := by decide +kernel
theorem d_Rows_init_36 : decode prog_4_method_1_code 36 = .ok (.return_, 1) := by decide +kernel
theorem kM_Rows_3 : Cond.methodLink "FaultRules$Rows" (3 : Nat) ({ cls := "java/lang/Object", name := "<init>", desc := "()V" } : Jvm.MethodName) ∈ xT := x_t1 rfl (i := 31) rfl
theorem kI_Object : Cond.instanceMethod ({ cls := "java/lang/Object", name := "<init>", desc := "()V" } : Jvm.MethodName) ∈ xT := x_t1 rfl (i := 24) rfl
theorem kC_Object : Cond.code ({ cls := "java/lang/Object", name := "<init>", desc := "()V" } : Jvm.MethodName) object_method_1_code (1 : Nat) (Option.none : Option Jvm.ClassFile.FieldType) ∈ xT := x_t1 rfl (i := 25) rfl
theorem kAr_int : Cond.arrayClass Jvm.ClassFile.FieldType.int ∈ xT := x_t1 rfl (i := 45) rfl
abbrev y_Text_init : MethodName := { cls := "FaultRules$Text", name := "<init>", desc := "()V" }
theorem kC_Text_init : Cond.code ({ cls := "FaultRules$Text", name := "<init>", desc := "()V" } : Jvm.MethodName) prog_7_method_1_code (1 : Nat) (Option.none : Option Jvm.ClassFile.FieldType) ∈ xT := x_t1 rfl (i := 50) rfl
theorem hd_Text_init : y_Text_init.cls ≠ "java/lang/invoke/MethodHandle" ∧ y_Text_init.cls ≠ "java/lang/invoke/VarHandle" ∧ (parseMethodDescriptor y_Text_init.desc).map (fun d => d.parameters.length) = some 0 := by decide +kernel
theorem d_Text_init_0 : decode prog_7_method_1_code 0 = .ok (.aload_n 0, 1) := by decide +kernel
theorem d_Text_init_1 : decode prog_7_method_1_code 1 = .ok (.invokespecial 3, 3) := by decide +kernel
theorem d_Text_init_4 : decode prog_7_method_1_code 4 = .ok (.aload_n 0, 1) := by decide +kernel
theorem d_Text_init_5 : decode prog_7_method_1_code 5 = .ok (.sipush 1000, 3) := by decide +kernel
theorem d_Text_init_8 : decode prog_7_method_1_code 8 = .ok (.newarray .char, 2) := by decide +kernel
theorem d_Text_init_10 : decode prog_7_method_1_code 10 = .ok (.putfield 9, 3) := by decide +kernel
theorem d_Text_init_13 : decode prog_7_method_1_code 13 = .ok (.return_, 1) := by decide +kernel
theorem kM_Text_3 : Cond.methodLink "FaultRules$Text" (3 : Nat) ({ cls := "java/lang/Object", name := "<init>", desc := "()V" } : Jvm.MethodName) ∈ xT := x_t1 rfl (i := 51) rfl
theorem kAr_char : Cond.arrayClass Jvm.ClassFile.FieldType.char ∈ xT := x_t1 rfl (i := 75) rfl
abbrev y_Reader_init : MethodName := { cls := "FaultRules$Reader", name := "<init>", desc := "()V" }
theorem kC_Reader_init : Cond.code ({ cls := "FaultRules$Reader", name := "<init>", desc := "()V" } : Jvm.MethodName) prog_3_method_1_code (1 : Nat) (Option.none : Option Jvm.ClassFile.FieldType) ∈ xT := x_t1 rfl (i := 80) rfl
theorem hd_Reader_init : y_Reader_init.cls ≠ "java/lang/invoke/MethodHandle" ∧ y_Reader_init.cls ≠ "java/lang/invoke/VarHandle" ∧ (parseMethodDescriptor y_Reader_init.desc).map (fun d => d.parameters.length) = some 0 := by decide +kernel
theorem d_Reader_init_0 : decode prog_3_method_1_code 0 = .ok (.aload_n 0, 1) := by decide +kernel
theorem d_Reader_init_1 : decode prog_3_method_1_code 1 = .ok (.invokespecial 3, 3) := by decide +kernel
theorem d_Reader_init_4 : decode prog_3_method_1_code 4 = .ok (.return_, 1) := by decide +kernel
theorem kM_Reader_3 : Cond.methodLink "FaultRules$Reader" (3 : Nat) ({ cls := "java/lang/Object", name := "<init>", desc := "()V" } : Jvm.MethodName) ∈ xT := x_t1 rfl (i := 81) rfl
abbrev y_Run_init : MethodName := { cls := "FaultRules$Run", name := "<init>", desc := "()V" }
theorem kC_Run_init : Cond.code ({ cls := "FaultRules$Run", name := "<init>", desc := "()V" } : Jvm.MethodName) prog_6_method_1_code (1 : Nat) (Option.none : Option Jvm.ClassFile.FieldType) ∈ xT := x_t1 rfl (i := 93) rfl
theorem hd_Run_init : y_Run_init.cls ≠ "java/lang/invoke/MethodHandle" ∧ y_Run_init.cls ≠ "java/lang/invoke/VarHandle" ∧ (parseMethodDescriptor y_Run_init.desc).map (fun d => d.parameters.length) = some 0 := by decide +kernel
theorem d_Run_init_0 : decode prog_6_method_1_code 0 = .ok (.aload_n 0, 1) := by decide +kernel
theorem d_Run_init_1 : decode prog_6_method_1_code 1 = .ok (.invokespecial 3, 3) := by decide +kernel
theorem d_Run_init_4 : decode prog_6_method_1_code 4 = .ok (.aload_n 0, 1) := by decide +kernel
theorem d_Run_init_5 : decode prog_6_method_1_code 5 = .ok (.bipush 6, 2) := by decide +kernel
theorem d_Run_init_7 : decode prog_6_method_1_code 7 = .ok (.newarray .int, 2) := by decide +kernel
theorem d_Run_init_9 : decode prog_6_method_1_code 9 = .ok (.putfield 9, 3) := by decide +kernel
theorem d_Run_init_12 : decode prog_6_method_1_code 12 = .ok (.aload_n 0, 1) := by decide +kernel
theorem d_Run_init_13 : decode prog_6_method_1_code 13 = .ok (.bipush 6, 2) := by decide +kernel
theorem d_Run_init_15 : decode prog_6_method_1_code 15 = .ok (.newarray .int, 2) := by decide +kernel
theorem d_Run_init_17 : decode prog_6_method_1_code 17 = .ok (.putfield 15, 3) := by decide +kernel
theorem d_Run_init_20 : decode prog_6_method_1_code 20 = .ok (.aload_n 0, 1) := by decide +kernel
theorem d_Run_init_21 : decode prog_6_method_1_code 21 = .ok (.sipush 726, 3) := by decide +kernel
theorem d_Run_init_24 : decode prog_6_method_1_code 24 = .ok (.newarray .int, 2) := by decide +kernel
theorem d_Run_init_26 : decode prog_6_method_1_code 26 = .ok (.putfield 18, 3) := by decide +kernel
theorem d_Run_init_29 : decode prog_6_method_1_code 29 = .ok (.aload_n 0, 1) := by decide +kernel
theorem d_Run_init_30 : decode prog_6_method_1_code 30 = .ok (.sipush 726, 3) := by decide +kernel
theorem d_Run_init_33 : decode prog_6_method_1_code 33 = .ok (.newarray .int, 2) := by decide +kernel
theorem d_Run_init_35 : decode prog_6_method_1_code 35 = .ok (.putfield 21, 3) := by decide +kernel
theorem d_Run_init_38 : decode prog_6_method_1_code 38 = .ok (.aload_n 0, 1) := by decide +kernel
theorem d_Run_init_39 : decode prog_6_method_1_code 39 = .ok (.sipush 726, 3) := by decide +kernel
theorem d_Run_init_42 : decode prog_6_method_1_code 42 = .ok (.newarray .int, 2) := by decide +kernel
theorem d_Run_init_44 : decode prog_6_method_1_code 44 = .ok (.putfield 24, 3) := by decide +kernel
theorem d_Run_init_47 : decode prog_6_method_1_code 47 = .ok (.aload_n 0, 1) := by decide +kernel
theorem d_Run_init_48 : decode prog_6_method_1_code 48 = .ok (.sipush 726, 3) := by decide +kernel
theorem d_Run_init_51 : decode prog_6_method_1_code 51 = .ok (.newarray .int, 2) := by decide +kernel
theorem d_Run_init_53 : decode prog_6_method_1_code 53 = .ok (.putfield 27, 3) := by decide +kernel
theorem d_Run_init_56 : decode prog_6_method_1_code 56 = .ok (.return_, 1) := by decide +kernel
theorem kM_Run_3 : Cond.methodLink "FaultRules$Run" (3 : Nat) ({ cls := "java/lang/Object", name := "<init>", desc := "()V" } : Jvm.MethodName) ∈ xT := x_t1 rfl (i := 94) rfl
abbrev y_LeftOut_init : MethodName := { cls := "FaultRules$LeftOut", name := "<init>", desc := "()V" }
theorem kC_LeftOut_init : Cond.code ({ cls := "FaultRules$LeftOut", name := "<init>", desc := "()V" } : Jvm.MethodName) prog_2_method_1_code (1 : Nat) (Option.none : Option Jvm.ClassFile.FieldType) ∈ xT := x_t1 rfl (i := 135) rfl
theorem hd_LeftOut_init : y_LeftOut_init.cls ≠ "java/lang/invoke/MethodHandle" ∧ y_LeftOut_init.cls ≠ "java/lang/invoke/VarHandle" ∧ (parseMethodDescriptor y_LeftOut_init.desc).map (fun d => d.parameters.length) = some 0 := by decide +kernel
theorem d_LeftOut_init_0 : decode prog_2_method_1_code 0 = .ok (.aload_n 0, 1) := by decide +kernel
theorem d_LeftOut_init_1 : decode prog_2_method_1_code 1 = .ok (.invokespecial 3, 3) := by decide +kernel
theorem d_LeftOut_init_4 : decode prog_2_method_1_code 4 = .ok (.aload_n 0, 1) := by decide +kernel
theorem d_LeftOut_init_5 : decode prog_2_method_1_code 5 = .ok (.bipush 100, 2) := by decide +kernel
theorem d_LeftOut_init_7 : decode prog_2_method_1_code 7 = .ok (.newarray .int, 2) := by decide +kernel
theorem d_LeftOut_init_9 : decode prog_2_method_1_code 9 = .ok (.putfield 9, 3) := by decide +kernel
theorem d_LeftOut_init_12 : decode prog_2_method_1_code 12 = .ok (.return_, 1) := by decide +kernel
theorem kM_LeftOut_3 : Cond.methodLink "FaultRules$LeftOut" (3 : Nat) ({ cls := "java/lang/Object", name := "<init>", desc := "()V" } : Jvm.MethodName) ∈ xT := x_t1 rfl (i := 136) rfl
abbrev y_RuleSet_init : MethodName := { cls := "FaultRules$RuleSet", name := "<init>", desc := "()V" }
theorem kC_RuleSet_init : Cond.code ({ cls := "FaultRules$RuleSet", name := "<init>", desc := "()V" } : Jvm.MethodName) prog_5_method_1_code (1 : Nat) (Option.none : Option Jvm.ClassFile.FieldType) ∈ xT := x_t1 rfl (i := 148) rfl
theorem hd_RuleSet_init : y_RuleSet_init.cls ≠ "java/lang/invoke/MethodHandle" ∧ y_RuleSet_init.cls ≠ "java/lang/invoke/VarHandle" ∧ (parseMethodDescriptor y_RuleSet_init.desc).map (fun d => d.parameters.length) = some 0 := by decide +kernel
theorem d_RuleSet_init_0 : decode prog_5_method_1_code 0 = .ok (.aload_n 0, 1) := by decide +kernel
theorem d_RuleSet_init_1 : decode prog_5_method_1_code 1 = .ok (.invokespecial 3, 3) := by decide +kernel
theorem d_RuleSet_init_4 : decode prog_5_method_1_code 4 = .ok (.aload_n 0, 1) := by decide +kernel
theorem d_RuleSet_init_5 : decode prog_5_method_1_code 5 = .ok (.bipush 6, 2) := by decide +kernel
theorem d_RuleSet_init_7 : decode prog_5_method_1_code 7 = .ok (.newarray .long, 2) := by decide +kernel
theorem d_RuleSet_init_9 : decode prog_5_method_1_code 9 = .ok (.putfield 9, 3) := by decide +kernel
theorem d_RuleSet_init_12 : decode prog_5_method_1_code 12 = .ok (.aload_n 0, 1) := by decide +kernel
theorem d_RuleSet_init_13 : decode prog_5_method_1_code 13 = .ok (.bipush 6, 2) := by decide +kernel
theorem d_RuleSet_init_15 : decode prog_5_method_1_code 15 = .ok (.newarray .int, 2) := by decide +kernel
theorem d_RuleSet_init_17 : decode prog_5_method_1_code 17 = .ok (.putfield 15, 3) := by decide +kernel
theorem d_RuleSet_init_20 : decode prog_5_method_1_code 20 = .ok (.aload_n 0, 1) := by decide +kernel
theorem d_RuleSet_init_21 : decode prog_5_method_1_code 21 = .ok (.bipush 6, 2) := by decide +kernel
theorem d_RuleSet_init_23 : decode prog_5_method_1_code 23 = .ok (.newarray .int, 2) := by decide +kernel
theorem d_RuleSet_init_25 : decode prog_5_method_1_code 25 = .ok (.putfield 19, 3) := by decide +kernel
theorem d_RuleSet_init_28 : decode prog_5_method_1_code 28 = .ok (.aload_n 0, 1) := by decide +kernel
theorem d_RuleSet_init_29 : decode prog_5_method_1_code 29 = .ok (.bipush 6, 2) := by decide +kernel
theorem d_RuleSet_init_31 : decode prog_5_method_1_code 31 = .ok (.newarray .int, 2) := by decide +kernel
theorem d_RuleSet_init_33 : decode prog_5_method_1_code 33 = .ok (.putfield 22, 3) := by decide +kernel
theorem d_RuleSet_init_36 : decode prog_5_method_1_code 36 = .ok (.aload_n 0, 1) := by decide +kernel
theorem d_RuleSet_init_37 : decode prog_5_method_1_code 37 = .ok (.bipush 36, 2) := by decide +kernel
theorem d_RuleSet_init_39 : decode prog_5_method_1_code 39 = .ok (.newarray .int, 2) := by decide +kernel
theorem d_RuleSet_init_41 : decode prog_5_method_1_code 41 = .ok (.putfield 25, 3) := by decide +kernel
theorem d_RuleSet_init_44 : decode prog_5_method_1_code 44 = .ok (.aload_n 0, 1) := by decide +kernel
theorem d_RuleSet_init_45 : decode prog_5_method_1_code 45 = .ok (.bipush 36, 2) := by decide +kernel
theorem d_RuleSet_init_47 : decode prog_5_method_1_code 47 = .ok (.newarray .int, 2) := by decide +kernel
theorem d_RuleSet_init_49 : decode prog_5_method_1_code 49 = .ok (.putfield 28, 3) := by decide +kernel
theorem d_RuleSet_init_52 : decode prog_5_method_1_code 52 = .ok (.aload_n 0, 1) := by decide +kernel
theorem d_RuleSet_init_53 : decode prog_5_method_1_code 53 = .ok (.bipush 36, 2) := by decide +kernel
theorem d_RuleSet_init_55 : decode prog_5_method_1_code 55 = .ok (.newarray .int, 2) := by decide +kernel
theorem d_RuleSet_init_57 : decode prog_5_method_1_code 57 = .ok (.putfield 31, 3) := by decide +kernel
theorem d_RuleSet_init_60 : decode prog_5_method_1_code 60 = .ok (.aload_n 0, 1) := by decide +kernel
theorem d_RuleSet_init_61 : decode prog_5_method_1_code 61 = .ok (.bipush 36, 2) := by decide +kernel
theorem d_RuleSet_init_63 : decode prog_5_method_1_code 63 = .ok (.newarray .int, 2) := by decide +kernel
theorem d_RuleSet_init_65 : decode prog_5_method_1_code 65 = .ok (.putfield 34, 3) := by decide +kernel
theorem d_RuleSet_init_68 : decode prog_5_method_1_code 68 = .ok (.return_, 1) := by decide +kernel
theorem kM_RuleSet_3 : Cond.methodLink "FaultRules$RuleSet" (3 : Nat) ({ cls := "java/lang/Object", name := "<init>", desc := "()V" } : Jvm.MethodName) ∈ xT := x_t1 rfl (i := 149) rfl
theorem kAr_long : Cond.arrayClass Jvm.ClassFile.FieldType.long ∈ xT := x_t1 rfl (i := 193) rfl
theorem kF_RuleSet_15 : Cond.fieldLink "FaultRules$RuleSet" (15 : Nat) "FaultRules$RuleSet" "spans" "[I" ∈ xT := x_t1 rfl (i := 153) rfl
theorem kF_RuleSet_19 : Cond.fieldLink "FaultRules$RuleSet" (19 : Nat) "FaultRules$RuleSet" "costs" "[I" ∈ xT := x_t1 rfl (i := 156) rfl
abbrev y_Model_init : MethodName := { cls := "FaultRulesModel", name := "<init>", desc := "()V" }
theorem kC_Model_init : Cond.code ({ cls := "FaultRulesModel", name := "<init>", desc := "()V" } : Jvm.MethodName) prog_9_method_1_code (1 : Nat) (Option.none : Option Jvm.ClassFile.FieldType) ∈ xT := x_t3 rfl (i := 212) rfl
theorem hd_Model_init : y_Model_init.cls ≠ "java/lang/invoke/MethodHandle" ∧ y_Model_init.cls ≠ "java/lang/invoke/VarHandle" ∧ (parseMethodDescriptor y_Model_init.desc).map (fun d => d.parameters.length) = some 0 := by decide +kernel
theorem d_Model_init_0 : decode prog_9_method_1_code 0 = .ok (.aload_n 0, 1) := by decide +kernel
theorem d_Model_init_1 : decode prog_9_method_1_code 1 = .ok (.invokespecial 1, 3) := by decide +kernel
theorem d_Model_init_4 : decode prog_9_method_1_code 4 = .ok (.aload_n 0, 1) := by decide +kernel
theorem d_Model_init_5 : decode prog_9_method_1_code 5 = .ok (.bipush 120, 2) := by decide +kernel
theorem d_Model_init_7 : decode prog_9_method_1_code 7 = .ok (.newarray .int, 2) := by decide +kernel
theorem d_Model_init_9 : decode prog_9_method_1_code 9 = .ok (.putfield 7, 3) := by decide +kernel
theorem d_Model_init_12 : decode prog_9_method_1_code 12 = .ok (.aload_n 0, 1) := by decide +kernel
theorem d_Model_init_13 : decode prog_9_method_1_code 13 = .ok (.bipush 120, 2) := by decide +kernel
theorem d_Model_init_15 : decode prog_9_method_1_code 15 = .ok (.newarray .int, 2) := by decide +kernel
theorem d_Model_init_17 : decode prog_9_method_1_code 17 = .ok (.putfield 13, 3) := by decide +kernel
theorem d_Model_init_20 : decode prog_9_method_1_code 20 = .ok (.aload_n 0, 1) := by decide +kernel
theorem d_Model_init_21 : decode prog_9_method_1_code 21 = .ok (.bipush 120, 2) := by decide +kernel
theorem d_Model_init_23 : decode prog_9_method_1_code 23 = .ok (.newarray .int, 2) := by decide +kernel
theorem d_Model_init_25 : decode prog_9_method_1_code 25 = .ok (.putfield 16, 3) := by decide +kernel
theorem d_Model_init_28 : decode prog_9_method_1_code 28 = .ok (.aload_n 0, 1) := by decide +kernel
theorem d_Model_init_29 : decode prog_9_method_1_code 29 = .ok (.sipush 1000, 3) := by decide +kernel
theorem d_Model_init_32 : decode prog_9_method_1_code 32 = .ok (.newarray .int, 2) := by decide +kernel
theorem d_Model_init_34 : decode prog_9_method_1_code 34 = .ok (.putfield 19, 3) := by decide +kernel
theorem d_Model_init_37 : decode prog_9_method_1_code 37 = .ok (.aload_n 0, 1) := by decide +kernel
theorem d_Model_init_38 : decode prog_9_method_1_code 38 = .ok (.sipush 1000, 3) := by decide +kernel
theorem d_Model_init_41 : decode prog_9_method_1_code 41 = .ok (.newarray .int, 2) := by decide +kernel
theorem d_Model_init_43 : decode prog_9_method_1_code 43 = .ok (.putfield 22, 3) := by decide +kernel
theorem d_Model_init_46 : decode prog_9_method_1_code 46 = .ok (.aload_n 0, 1) := by decide +kernel
theorem d_Model_init_47 : decode prog_9_method_1_code 47 = .ok (.sipush 1000, 3) := by decide +kernel
theorem d_Model_init_50 : decode prog_9_method_1_code 50 = .ok (.newarray .long, 2) := by decide +kernel
theorem d_Model_init_52 : decode prog_9_method_1_code 52 = .ok (.putfield 25, 3) := by decide +kernel
theorem d_Model_init_55 : decode prog_9_method_1_code 55 = .ok (.aload_n 0, 1) := by decide +kernel
theorem d_Model_init_56 : decode prog_9_method_1_code 56 = .ok (.bipush 12, 2) := by decide +kernel
theorem d_Model_init_58 : decode prog_9_method_1_code 58 = .ok (.newarray .long, 2) := by decide +kernel
theorem d_Model_init_60 : decode prog_9_method_1_code 60 = .ok (.putfield 29, 3) := by decide +kernel
theorem d_Model_init_63 : decode prog_9_method_1_code 63 = .ok (.aload_n 0, 1) := by decide +kernel
theorem d_Model_init_64 : decode prog_9_method_1_code 64 = .ok (.bipush 12, 2) := by decide +kernel
theorem d_Model_init_66 : decode prog_9_method_1_code 66 = .ok (.newarray .int, 2) := by decide +kernel
theorem d_Model_init_68 : decode prog_9_method_1_code 68 = .ok (.putfield 32, 3) := by decide +kernel
theorem d_Model_init_71 : decode prog_9_method_1_code 71 = .ok (.aload_n 0, 1) := by decide +kernel
theorem d_Model_init_72 : decode prog_9_method_1_code 72 = .ok (.bipush 12, 2) := by decide +kernel
theorem d_Model_init_74 : decode prog_9_method_1_code 74 = .ok (.newarray .int, 2) := by decide +kernel
theorem d_Model_init_76 : decode prog_9_method_1_code 76 = .ok (.putfield 35, 3) := by decide +kernel
theorem d_Model_init_79 : decode prog_9_method_1_code 79 = .ok (.aload_n 0, 1) := by decide +kernel
theorem d_Model_init_80 : decode prog_9_method_1_code 80 = .ok (.bipush 12, 2) := by decide +kernel
theorem d_Model_init_82 : decode prog_9_method_1_code 82 = .ok (.newarray .int, 2) := by decide +kernel
theorem d_Model_init_84 : decode prog_9_method_1_code 84 = .ok (.putfield 38, 3) := by decide +kernel
theorem d_Model_init_87 : decode prog_9_method_1_code 87 = .ok (.aload_n 0, 1) := by decide +kernel
theorem d_Model_init_88 : decode prog_9_method_1_code 88 = .ok (.bipush 72, 2) := by decide +kernel
theorem d_Model_init_90 : decode prog_9_method_1_code 90 = .ok (.newarray .int, 2) := by decide +kernel
theorem d_Model_init_92 : decode prog_9_method_1_code 92 = .ok (.putfield 41, 3) := by decide +kernel
theorem d_Model_init_95 : decode prog_9_method_1_code 95 = .ok (.aload_n 0, 1) := by decide +kernel
theorem d_Model_init_96 : decode prog_9_method_1_code 96 = .ok (.bipush 72, 2) := by decide +kernel
theorem d_Model_init_98 : decode prog_9_method_1_code 98 = .ok (.newarray .int, 2) := by decide +kernel
theorem d_Model_init_100 : decode prog_9_method_1_code 100 = .ok (.putfield 44, 3) := by decide +kernel
theorem d_Model_init_103 : decode prog_9_method_1_code 103 = .ok (.aload_n 0, 1) := by decide +kernel
theorem d_Model_init_104 : decode prog_9_method_1_code 104 = .ok (.bipush 72, 2) := by decide +kernel
theorem d_Model_init_106 : decode prog_9_method_1_code 106 = .ok (.newarray .int, 2) := by decide +kernel
theorem d_Model_init_108 : decode prog_9_method_1_code 108 = .ok (.putfield 47, 3) := by decide +kernel
theorem d_Model_init_111 : decode prog_9_method_1_code 111 = .ok (.aload_n 0, 1) := by decide +kernel
theorem d_Model_init_112 : decode prog_9_method_1_code 112 = .ok (.bipush 72, 2) := by decide +kernel
theorem d_Model_init_114 : decode prog_9_method_1_code 114 = .ok (.newarray .int, 2) := by decide +kernel
theorem d_Model_init_116 : decode prog_9_method_1_code 116 = .ok (.putfield 50, 3) := by decide +kernel
theorem d_Model_init_119 : decode prog_9_method_1_code 119 = .ok (.aload_n 0, 1) := by decide +kernel
theorem d_Model_init_120 : decode prog_9_method_1_code 120 = .ok (.bipush 72, 2) := by decide +kernel
theorem d_Model_init_122 : decode prog_9_method_1_code 122 = .ok (.newarray .int, 2) := by decide +kernel
theorem d_Model_init_124 : decode prog_9_method_1_code 124 = .ok (.putfield 53, 3) := by decide +kernel
theorem d_Model_init_127 : decode prog_9_method_1_code 127 = .ok (.aload_n 0, 1) := by decide +kernel
theorem d_Model_init_128 : decode prog_9_method_1_code 128 = .ok (.bipush 16, 2) := by decide +kernel
theorem d_Model_init_130 : decode prog_9_method_1_code 130 = .ok (.newarray .int, 2) := by decide +kernel
theorem d_Model_init_132 : decode prog_9_method_1_code 132 = .ok (.putfield 56, 3) := by decide +kernel
theorem d_Model_init_135 : decode prog_9_method_1_code 135 = .ok (.aload_n 0, 1) := by decide +kernel
theorem d_Model_init_136 : decode prog_9_method_1_code 136 = .ok (.bipush 16, 2) := by decide +kernel
theorem d_Model_init_138 : decode prog_9_method_1_code 138 = .ok (.newarray .int, 2) := by decide +kernel
theorem d_Model_init_140 : decode prog_9_method_1_code 140 = .ok (.putfield 59, 3) := by decide +kernel
theorem d_Model_init_143 : decode prog_9_method_1_code 143 = .ok (.aload_n 0, 1) := by decide +kernel
theorem d_Model_init_144 : decode prog_9_method_1_code 144 = .ok (.bipush 6, 2) := by decide +kernel
theorem d_Model_init_146 : decode prog_9_method_1_code 146 = .ok (.newarray .int, 2) := by decide +kernel
theorem d_Model_init_148 : decode prog_9_method_1_code 148 = .ok (.putfield 62, 3) := by decide +kernel
theorem d_Model_init_151 : decode prog_9_method_1_code 151 = .ok (.aload_n 0, 1) := by decide +kernel
theorem d_Model_init_152 : decode prog_9_method_1_code 152 = .ok (.bipush 6, 2) := by decide +kernel
theorem d_Model_init_154 : decode prog_9_method_1_code 154 = .ok (.newarray .int, 2) := by decide +kernel
theorem d_Model_init_156 : decode prog_9_method_1_code 156 = .ok (.putfield 65, 3) := by decide +kernel
theorem d_Model_init_159 : decode prog_9_method_1_code 159 = .ok (.aload_n 0, 1) := by decide +kernel
theorem d_Model_init_160 : decode prog_9_method_1_code 160 = .ok (.sipush 6000, 3) := by decide +kernel
theorem d_Model_init_163 : decode prog_9_method_1_code 163 = .ok (.newarray .int, 2) := by decide +kernel
theorem d_Model_init_165 : decode prog_9_method_1_code 165 = .ok (.putfield 68, 3) := by decide +kernel
theorem d_Model_init_168 : decode prog_9_method_1_code 168 = .ok (.aload_n 0, 1) := by decide +kernel
theorem d_Model_init_169 : decode prog_9_method_1_code 169 = .ok (.sipush 6000, 3) := by decide +kernel
theorem d_Model_init_172 : decode prog_9_method_1_code 172 = .ok (.newarray .int, 2) := by decide +kernel
theorem d_Model_init_174 : decode prog_9_method_1_code 174 = .ok (.putfield 71, 3) := by decide +kernel
theorem d_Model_init_177 : decode prog_9_method_1_code 177 = .ok (.aload_n 0, 1) := by decide +kernel
theorem d_Model_init_178 : decode prog_9_method_1_code 178 = .ok (.sipush 6000, 3) := by decide +kernel
theorem d_Model_init_181 : decode prog_9_method_1_code 181 = .ok (.newarray .int, 2) := by decide +kernel
theorem d_Model_init_183 : decode prog_9_method_1_code 183 = .ok (.putfield 74, 3) := by decide +kernel
theorem d_Model_init_186 : decode prog_9_method_1_code 186 = .ok (.aload_n 0, 1) := by decide +kernel
theorem d_Model_init_187 : decode prog_9_method_1_code 187 = .ok (.sipush 6000, 3) := by decide +kernel
theorem d_Model_init_190 : decode prog_9_method_1_code 190 = .ok (.newarray .int, 2) := by decide +kernel
theorem d_Model_init_192 : decode prog_9_method_1_code 192 = .ok (.putfield 77, 3) := by decide +kernel
theorem d_Model_init_195 : decode prog_9_method_1_code 195 = .ok (.aload_n 0, 1) := by decide +kernel
theorem d_Model_init_196 : decode prog_9_method_1_code 196 = .ok (.bipush 100, 2) := by decide +kernel
theorem d_Model_init_198 : decode prog_9_method_1_code 198 = .ok (.newarray .int, 2) := by decide +kernel
theorem d_Model_init_200 : decode prog_9_method_1_code 200 = .ok (.putfield 80, 3) := by decide +kernel
theorem d_Model_init_203 : decode prog_9_method_1_code 203 = .ok (.aload_n 0, 1) := by decide +kernel
theorem d_Model_init_204 : decode prog_9_method_1_code 204 = .ok (.bipush 10, 2) := by decide +kernel
theorem d_Model_init_206 : decode prog_9_method_1_code 206 = .ok (.newarray .int, 2) := by decide +kernel
theorem d_Model_init_208 : decode prog_9_method_1_code 208 = .ok (.putfield 83, 3) := by decide +kernel
theorem d_Model_init_211 : decode prog_9_method_1_code 211 = .ok (.return_, 1) := by decide +kernel
theorem kM_Model_1 : Cond.methodLink "FaultRulesModel" (1 : Nat) ({ cls := "java/lang/Object", name := "<init>", desc := "()V" } : Jvm.MethodName) ∈ xT := x_t3 rfl (i := 213) rfl
abbrev y_FaultRules_init : MethodName := { cls := "FaultRules", name := "<init>", desc := "()V" }
theorem kC_FaultRules_init : Cond.code ({ cls := "FaultRules", name := "<init>", desc := "()V" } : Jvm.MethodName) prog_1_method_1_code (1 : Nat) (Option.none : Option Jvm.ClassFile.FieldType) ∈ xT := x_t1 rfl (i := 22) rfl
theorem hd_FaultRules_init : y_FaultRules_init.cls ≠ "java/lang/invoke/MethodHandle" ∧ y_FaultRules_init.cls ≠ "java/lang/invoke/VarHandle" ∧ (parseMethodDescriptor y_FaultRules_init.desc).map (fun d => d.parameters.length) = some 0 := by decide +kernel
theorem d_FaultRules_init_0 : decode prog_1_method_1_code 0 = .ok (.aload_n 0, 1) := by decide +kernel
theorem d_FaultRules_init_1 : decode prog_1_method_1_code 1 = .ok (.invokespecial 3, 3) := by decide +kernel
theorem d_FaultRules_init_4 : decode prog_1_method_1_code 4 = .ok (.aload_n 0, 1) := by decide +kernel
theorem d_FaultRules_init_5 : decode prog_1_method_1_code 5 = .ok (.new 9, 3) := by decide +kernel
theorem d_FaultRules_init_8 : decode prog_1_method_1_code 8 = .ok (.dup, 1) := by decide +kernel
theorem d_FaultRules_init_9 : decode prog_1_method_1_code 9 = .ok (.invokespecial 11, 3) := by decide +kernel
theorem d_FaultRules_init_12 : decode prog_1_method_1_code 12 = .ok (.putfield 12, 3) := by decide +kernel
theorem d_FaultRules_init_15 : decode prog_1_method_1_code 15 = .ok (.aload_n 0, 1) := by decide +kernel
theorem d_FaultRules_init_16 : decode prog_1_method_1_code 16 = .ok (.new 16, 3) := by decide +kernel
theorem d_FaultRules_init_19 : decode prog_1_method_1_code 19 = .ok (.dup, 1) := by decide +kernel
theorem d_FaultRules_init_20 : decode prog_1_method_1_code 20 = .ok (.invokespecial 18, 3) := by decide +kernel
theorem d_FaultRules_init_23 : decode prog_1_method_1_code 23 = .ok (.putfield 19, 3) := by decide +kernel
theorem d_FaultRules_init_26 : decode prog_1_method_1_code 26 = .ok (.aload_n 0, 1) := by decide +kernel
theorem d_FaultRules_init_27 : decode prog_1_method_1_code 27 = .ok (.new 23, 3) := by decide +kernel
theorem d_FaultRules_init_30 : decode prog_1_method_1_code 30 = .ok (.dup, 1) := by decide +kernel
theorem d_FaultRules_init_31 : decode prog_1_method_1_code 31 = .ok (.invokespecial 25, 3) := by decide +kernel
theorem d_FaultRules_init_34 : decode prog_1_method_1_code 34 = .ok (.putfield 26, 3) := by decide +kernel
theorem d_FaultRules_init_37 : decode prog_1_method_1_code 37 = .ok (.aload_n 0, 1) := by decide +kernel
theorem d_FaultRules_init_38 : decode prog_1_method_1_code 38 = .ok (.new 30, 3) := by decide +kernel
theorem d_FaultRules_init_41 : decode prog_1_method_1_code 41 = .ok (.dup, 1) := by decide +kernel
theorem d_FaultRules_init_42 : decode prog_1_method_1_code 42 = .ok (.invokespecial 32, 3) := by decide +kernel
theorem d_FaultRules_init_45 : decode prog_1_method_1_code 45 = .ok (.putfield 33, 3) := by decide +kernel
theorem d_FaultRules_init_48 : decode prog_1_method_1_code 48 = .ok (.aload_n 0, 1) := by decide +kernel
theorem d_FaultRules_init_49 : decode prog_1_method_1_code 49 = .ok (.new 37, 3) := by decide +kernel
theorem d_FaultRules_init_52 : decode prog_1_method_1_code 52 = .ok (.dup, 1) := by decide +kernel
theorem d_FaultRules_init_53 : decode prog_1_method_1_code 53 = .ok (.invokespecial 39, 3) := by decide +kernel
theorem d_FaultRules_init_56 : decode prog_1_method_1_code 56 = .ok (.putfield 40, 3) := by decide +kernel
theorem d_FaultRules_init_59 : decode prog_1_method_1_code 59 = .ok (.aload_n 0, 1) := by decide +kernel
theorem d_FaultRules_init_60 : decode prog_1_method_1_code 60 = .ok (.bipush 10, 2) := by decide +kernel
theorem d_FaultRules_init_62 : decode prog_1_method_1_code 62 = .ok (.newarray .int, 2) := by decide +kernel
theorem d_FaultRules_init_64 : decode prog_1_method_1_code 64 = .ok (.putfield 44, 3) := by decide +kernel
theorem d_FaultRules_init_67 : decode prog_1_method_1_code 67 = .ok (.aload_n 0, 1) := by decide +kernel
theorem d_FaultRules_init_68 : decode prog_1_method_1_code 68 = .ok (.new 48, 3) := by decide +kernel
theorem d_FaultRules_init_71 : decode prog_1_method_1_code 71 = .ok (.dup, 1) := by decide +kernel
theorem d_FaultRules_init_72 : decode prog_1_method_1_code 72 = .ok (.invokespecial 50, 3) := by decide +kernel
theorem d_FaultRules_init_75 : decode prog_1_method_1_code 75 = .ok (.putfield 51, 3) := by decide +kernel
theorem d_FaultRules_init_78 : decode prog_1_method_1_code 78 = .ok (.aload_n 0, 1) := by decide +kernel
theorem d_FaultRules_init_79 : decode prog_1_method_1_code 79 = .ok (.new 48, 3) := by decide +kernel
theorem d_FaultRules_init_82 : decode prog_1_method_1_code 82 = .ok (.dup, 1) := by decide +kernel
theorem d_FaultRules_init_83 : decode prog_1_method_1_code 83 = .ok (.invokespecial 50, 3) := by decide +kernel
theorem d_FaultRules_init_86 : decode prog_1_method_1_code 86 = .ok (.putfield 55, 3) := by decide +kernel
theorem d_FaultRules_init_89 : decode prog_1_method_1_code 89 = .ok (.return_, 1) := by decide +kernel
theorem kM_FaultRules_3 : Cond.methodLink "FaultRules" (3 : Nat) ({ cls := "java/lang/Object", name := "<init>", desc := "()V" } : Jvm.MethodName) ∈ xT := x_t1 rfl (i := 23) rfl
theorem kW_FaultRules_9 : Cond.classLink "FaultRules" (9 : Nat) "FaultRules$Rows" ∈ xT := x_t1 rfl (i := 26) rfl
theorem kO_Rows : Cond.instantiable "FaultRules$Rows" (4 : Nat) ∈ xT := x_t1 rfl (i := 27) rfl
theorem kI_Rows_init : Cond.instanceMethod ({ cls := "FaultRules$Rows", name := "<init>", desc := "()V" } : Jvm.MethodName) ∈ xT := x_t1 rfl (i := 29) rfl
theorem kW_FaultRules_16 : Cond.classLink "FaultRules" (16 : Nat) "FaultRules$Text" ∈ xT := x_t1 rfl (i := 46) rfl
theorem kO_Text : Cond.instantiable "FaultRules$Text" (6 : Nat) ∈ xT := x_t1 rfl (i := 47) rfl
theorem kI_Text_init : Cond.instanceMethod ({ cls := "FaultRules$Text", name := "<init>", desc := "()V" } : Jvm.MethodName) ∈ xT := x_t1 rfl (i := 49) rfl
theorem kW_FaultRules_23 : Cond.classLink "FaultRules" (23 : Nat) "FaultRules$Reader" ∈ xT := x_t1 rfl (i := 76) rfl
theorem kO_Reader : Cond.instantiable "FaultRules$Reader" (2 : Nat) ∈ xT := x_t1 rfl (i := 77) rfl
theorem kI_Reader_init : Cond.instanceMethod ({ cls := "FaultRules$Reader", name := "<init>", desc := "()V" } : Jvm.MethodName) ∈ xT := x_t1 rfl (i := 79) rfl
theorem kW_FaultRules_30 : Cond.classLink "FaultRules" (30 : Nat) "FaultRules$Run" ∈ xT := x_t1 rfl (i := 89) rfl
theorem kO_Run : Cond.instantiable "FaultRules$Run" (10 : Nat) ∈ xT := x_t1 rfl (i := 90) rfl
theorem kI_Run_init : Cond.instanceMethod ({ cls := "FaultRules$Run", name := "<init>", desc := "()V" } : Jvm.MethodName) ∈ xT := x_t1 rfl (i := 92) rfl
theorem kW_FaultRules_37 : Cond.classLink "FaultRules" (37 : Nat) "FaultRules$LeftOut" ∈ xT := x_t1 rfl (i := 131) rfl
theorem kO_LeftOut : Cond.instantiable "FaultRules$LeftOut" (2 : Nat) ∈ xT := x_t1 rfl (i := 132) rfl
theorem kI_LeftOut_init : Cond.instanceMethod ({ cls := "FaultRules$LeftOut", name := "<init>", desc := "()V" } : Jvm.MethodName) ∈ xT := x_t1 rfl (i := 134) rfl
theorem kW_FaultRules_48 : Cond.classLink "FaultRules" (48 : Nat) "FaultRules$RuleSet" ∈ xT := x_t1 rfl (i := 144) rfl
theorem kO_RuleSet : Cond.instantiable "FaultRules$RuleSet" (9 : Nat) ∈ xT := x_t1 rfl (i := 145) rfl
theorem kI_RuleSet_init : Cond.instanceMethod ({ cls := "FaultRules$RuleSet", name := "<init>", desc := "()V" } : Jvm.MethodName) ∈ xT := x_t1 rfl (i := 147) rfl
