theorem kO_FaultRules : Cond.instantiable "FaultRules" (8 : Nat) ∈ xT := x_t1 rfl (i := 19) rfl
theorem kO_Model : Cond.instantiable "FaultRulesModel" (34 : Nat) ∈ xT := x_t3 rfl (i := 209) rfl
theorem kW_Law_8 : Cond.classLink "FaultRulesLaw" (8 : Nat) "FaultRules" ∈ xT := x_t1 rfl (i := 18) rfl
theorem kM_Law_60 : Cond.methodLink "FaultRulesLaw" (60 : Nat) ({ cls := "FaultRules", name := "<init>", desc := "()V" } : Jvm.MethodName) ∈ xT := x_t1 rfl (i := 20) rfl
theorem kI_FaultRules_init : Cond.instanceMethod ({ cls := "FaultRules", name := "<init>", desc := "()V" } : Jvm.MethodName) ∈ xT := x_t1 rfl (i := 21) rfl
theorem kW_Law_61 : Cond.classLink "FaultRulesLaw" (61 : Nat) "FaultRulesModel" ∈ xT := x_t3 rfl (i := 208) rfl
theorem kM_Law_63 : Cond.methodLink "FaultRulesLaw" (63 : Nat) ({ cls := "FaultRulesModel", name := "<init>", desc := "()V" } : Jvm.MethodName) ∈ xT := x_t3 rfl (i := 210) rfl
theorem kI_Model_init : Cond.instanceMethod ({ cls := "FaultRulesModel", name := "<init>", desc := "()V" } : Jvm.MethodName) ∈ xT := x_t3 rfl (i := 211) rfl
