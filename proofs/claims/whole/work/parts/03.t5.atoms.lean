set_option maxRecDepth 100000 in
theorem kA_IAE : ∀ a ∈ Bundle.ownAtoms "FaultRules" 71 (xEn 1) xUp, a ∈ xT ∨ a ∈ xEv ++ xSt := by decide +kernel
set_option maxRecDepth 100000 in
theorem kA_ISE : ∀ a ∈ Bundle.ownAtoms "FaultRules" 86 (xEn 2) xUp, a ∈ xT ∨ a ∈ xEv ++ xSt := by decide +kernel
