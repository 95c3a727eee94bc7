set_option maxRecDepth 100000 in
theorem w_687 : (.instantiable "PaneScreen" 8 : Cond) ∈ TW := TW_at (n := 48) (by decide +kernel) (by decide +kernel)
set_option maxRecDepth 100000 in
theorem w_688 : (.instantiable "PaneScreenModel" 37 : Cond) ∈ TW := TW_at (n := 644) (by decide +kernel) (by decide +kernel)
set_option maxRecDepth 100000 in
theorem w_689 : (.classLink "PaneScreenLaw" 8 "PaneScreen" : Cond) ∈ TW := TW_at (n := 47) (by decide +kernel) (by decide +kernel)
set_option maxRecDepth 100000 in
theorem w_690 : (.code ⟨"PaneScreen", "<init>", "()V"⟩ prog_1_method_1_code 2 (Option.none : Option Jvm.ClassFile.FieldType) : Cond) ∈ TW := TW_at (n := 51) (by decide +kernel) (by decide +kernel)
set_option maxRecDepth 100000 in
theorem w_691 : (.methodLink "PaneScreenLaw" 78 ⟨"PaneScreen", "<init>", "()V"⟩ : Cond) ∈ TW := TW_at (n := 49) (by decide +kernel) (by decide +kernel)
set_option maxRecDepth 100000 in
theorem w_692 : (.instanceMethod ⟨"PaneScreen", "<init>", "()V"⟩ : Cond) ∈ TW := TW_at (n := 50) (by decide +kernel) (by decide +kernel)
set_option maxRecDepth 100000 in
theorem w_693 : (.classLink "PaneScreenLaw" 79 "PaneScreenModel" : Cond) ∈ TW := TW_at (n := 643) (by decide +kernel) (by decide +kernel)
set_option maxRecDepth 100000 in
theorem w_694 : (.code ⟨"PaneScreenModel", "<init>", "()V"⟩ prog_8_method_1_code 1 (Option.none : Option Jvm.ClassFile.FieldType) : Cond) ∈ TW := TW_at (n := 647) (by decide +kernel) (by decide +kernel)
set_option maxRecDepth 100000 in
theorem w_695 : (.methodLink "PaneScreenLaw" 81 ⟨"PaneScreenModel", "<init>", "()V"⟩ : Cond) ∈ TW := TW_at (n := 645) (by decide +kernel) (by decide +kernel)
set_option maxRecDepth 100000 in
theorem w_696 : (.instanceMethod ⟨"PaneScreenModel", "<init>", "()V"⟩ : Cond) ∈ TW := TW_at (n := 646) (by decide +kernel) (by decide +kernel)
set_option maxRecDepth 100000 in
theorem w_697 : (.arrayClass .long : Cond) ∈ TW := TW_at (n := 921) (by decide +kernel) (by decide +kernel)
