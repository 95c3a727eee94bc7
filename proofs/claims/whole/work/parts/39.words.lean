theorem k_bipush_31 : (Int8.ofInt 31).toInt32 = 31 := by decide
theorem k_iconst_5 : Int32.ofInt 5 = 5 := by decide
theorem k_iconst_6 : Int32.ofInt 6 = 6 := by decide
theorem k_sipush_3072 : (Int16.ofInt 3072).toInt32 = 3072 := by decide
set_option maxRecDepth 100000 in
theorem w_516 : (.methodLink "PaneScreen$Pane" 1 ⟨"java/lang/Object", "<init>", "()V"⟩ : Cond) ∈ TW := TW_at (n := 61) (by decide +kernel) (by decide +kernel)
set_option maxRecDepth 100000 in
theorem w_517 : (.instanceMethod ⟨"java/lang/Object", "<init>", "()V"⟩ : Cond) ∈ TW := TW_at (n := 53) (by decide +kernel) (by decide +kernel)
set_option maxRecDepth 100000 in
theorem w_518 : (.code ⟨"java/lang/Object", "<init>", "()V"⟩ object_method_1_code 1 (Option.none : Option Jvm.ClassFile.FieldType) : Cond) ∈ TW := TW_at (n := 54) (by decide +kernel) (by decide +kernel)
set_option maxRecDepth 100000 in
theorem w_519 : (.methodLink "PaneScreen$Order" 3 ⟨"java/lang/Object", "<init>", "()V"⟩ : Cond) ∈ TW := TW_at (n := 101) (by decide +kernel) (by decide +kernel)
set_option maxRecDepth 100000 in
theorem w_520 : (.arrayClass .int : Cond) ∈ TW := TW_at (n := 95) (by decide +kernel) (by decide +kernel)
set_option maxRecDepth 100000 in
theorem w_521 : (.methodLink "PaneScreen$Store" 3 ⟨"java/lang/Object", "<init>", "()V"⟩ : Cond) ∈ TW := TW_at (n := 116) (by decide +kernel) (by decide +kernel)
set_option maxRecDepth 100000 in
theorem w_522 : (.arrayClass .boolean : Cond) ∈ TW := TW_at (n := 129) (by decide +kernel) (by decide +kernel)
set_option maxRecDepth 100000 in
theorem w_523 : (.methodLink "PaneScreen$Damage" 3 ⟨"java/lang/Object", "<init>", "()V"⟩ : Cond) ∈ TW := TW_at (n := 135) (by decide +kernel) (by decide +kernel)
set_option maxRecDepth 100000 in
theorem w_524 : (.methodLink "PaneScreen$EventLine" 3 ⟨"java/lang/Object", "<init>", "()V"⟩ : Cond) ∈ TW := TW_at (n := 158) (by decide +kernel) (by decide +kernel)
set_option maxRecDepth 100000 in
theorem w_525 : (.methodLink "PaneScreen" 1 ⟨"java/lang/Object", "<init>", "()V"⟩ : Cond) ∈ TW := TW_at (n := 52) (by decide +kernel) (by decide +kernel)
set_option maxRecDepth 100000 in
theorem w_526 : (.classLink "PaneScreen" 13 "PaneScreen$Pane" : Cond) ∈ TW := TW_at (n := 55) (by decide +kernel) (by decide +kernel)
set_option maxRecDepth 100000 in
theorem w_527 : (.instantiable "PaneScreen$Pane" 8 : Cond) ∈ TW := TW_at (n := 57) (by decide +kernel) (by decide +kernel)
set_option maxRecDepth 100000 in
theorem w_528 : (.code ⟨"PaneScreen$Pane", "<init>", "()V"⟩ prog_5_method_1_code 1 (Option.none : Option Jvm.ClassFile.FieldType) : Cond) ∈ TW := TW_at (n := 60) (by decide +kernel) (by decide +kernel)
set_option maxRecDepth 100000 in
theorem w_529 : (.instanceMethod ⟨"PaneScreen$Pane", "<init>", "()V"⟩ : Cond) ∈ TW := TW_at (n := 59) (by decide +kernel) (by decide +kernel)
set_option maxRecDepth 100000 in
theorem w_530 : (.classLink "PaneScreen" 20 "PaneScreen$Order" : Cond) ∈ TW := TW_at (n := 96) (by decide +kernel) (by decide +kernel)
set_option maxRecDepth 100000 in
theorem w_531 : (.instantiable "PaneScreen$Order" 2 : Cond) ∈ TW := TW_at (n := 97) (by decide +kernel) (by decide +kernel)
set_option maxRecDepth 100000 in
theorem w_532 : (.code ⟨"PaneScreen$Order", "<init>", "()V"⟩ prog_4_method_1_code 1 (Option.none : Option Jvm.ClassFile.FieldType) : Cond) ∈ TW := TW_at (n := 100) (by decide +kernel) (by decide +kernel)
set_option maxRecDepth 100000 in
theorem w_533 : (.instanceMethod ⟨"PaneScreen$Order", "<init>", "()V"⟩ : Cond) ∈ TW := TW_at (n := 99) (by decide +kernel) (by decide +kernel)
set_option maxRecDepth 100000 in
theorem w_534 : (.classLink "PaneScreen" 27 "PaneScreen$Store" : Cond) ∈ TW := TW_at (n := 111) (by decide +kernel) (by decide +kernel)
set_option maxRecDepth 100000 in
theorem w_535 : (.instantiable "PaneScreen$Store" 3 : Cond) ∈ TW := TW_at (n := 112) (by decide +kernel) (by decide +kernel)
set_option maxRecDepth 100000 in
theorem w_536 : (.code ⟨"PaneScreen$Store", "<init>", "()V"⟩ prog_6_method_1_code 1 (Option.none : Option Jvm.ClassFile.FieldType) : Cond) ∈ TW := TW_at (n := 115) (by decide +kernel) (by decide +kernel)
set_option maxRecDepth 100000 in
theorem w_537 : (.instanceMethod ⟨"PaneScreen$Store", "<init>", "()V"⟩ : Cond) ∈ TW := TW_at (n := 114) (by decide +kernel) (by decide +kernel)
set_option maxRecDepth 100000 in
theorem w_538 : (.classLink "PaneScreen" 34 "PaneScreen$Damage" : Cond) ∈ TW := TW_at (n := 130) (by decide +kernel) (by decide +kernel)
set_option maxRecDepth 100000 in
theorem w_539 : (.instantiable "PaneScreen$Damage" 5 : Cond) ∈ TW := TW_at (n := 131) (by decide +kernel) (by decide +kernel)
set_option maxRecDepth 100000 in
theorem w_540 : (.code ⟨"PaneScreen$Damage", "<init>", "()V"⟩ prog_2_method_1_code 1 (Option.none : Option Jvm.ClassFile.FieldType) : Cond) ∈ TW := TW_at (n := 134) (by decide +kernel) (by decide +kernel)
set_option maxRecDepth 100000 in
theorem w_541 : (.instanceMethod ⟨"PaneScreen$Damage", "<init>", "()V"⟩ : Cond) ∈ TW := TW_at (n := 133) (by decide +kernel) (by decide +kernel)
set_option maxRecDepth 100000 in
theorem w_542 : (.classLink "PaneScreen" 41 "PaneScreen$EventLine" : Cond) ∈ TW := TW_at (n := 153) (by decide +kernel) (by decide +kernel)
set_option maxRecDepth 100000 in
theorem w_543 : (.instantiable "PaneScreen$EventLine" 10 : Cond) ∈ TW := TW_at (n := 154) (by decide +kernel) (by decide +kernel)
set_option maxRecDepth 100000 in
theorem w_544 : (.code ⟨"PaneScreen$EventLine", "<init>", "()V"⟩ prog_3_method_1_code 1 (Option.none : Option Jvm.ClassFile.FieldType) : Cond) ∈ TW := TW_at (n := 157) (by decide +kernel) (by decide +kernel)
set_option maxRecDepth 100000 in
theorem w_545 : (.instanceMethod ⟨"PaneScreen$EventLine", "<init>", "()V"⟩ : Cond) ∈ TW := TW_at (n := 156) (by decide +kernel) (by decide +kernel)
set_option maxRecDepth 100000 in
theorem w_546 : (.methodLink "PaneScreenModel" 1 ⟨"java/lang/Object", "<init>", "()V"⟩ : Cond) ∈ TW := TW_at (n := 648) (by decide +kernel) (by decide +kernel)
set_option maxRecDepth 100000 in
theorem w_547 : (.methodLink "PaneScreenLaw" 87 ⟨"PaneScreenModel", "open", "(IIII)I"⟩ : Cond) ∈ TW := TW_at (n := 765) (by decide +kernel) (by decide +kernel)
set_option maxRecDepth 100000 in
theorem w_548 : (.instanceMethod ⟨"PaneScreenModel", "open", "(IIII)I"⟩ : Cond) ∈ TW := TW_at (n := 766) (by decide +kernel) (by decide +kernel)
set_option maxRecDepth 100000 in
theorem w_549 : (.selects "PaneScreenModel" ⟨"PaneScreenModel", "open", "(IIII)I"⟩ ⟨"PaneScreenModel", "open", "(IIII)I"⟩ : Cond) ∈ TW := TW_at (n := 767) (by decide +kernel) (by decide +kernel)
set_option maxRecDepth 100000 in
theorem w_550 : (.code ⟨"PaneScreenModel", "open", "(IIII)I"⟩ prog_8_method_15_code 8 (Option.some .int) : Cond) ∈ TW := TW_at (n := 768) (by decide +kernel) (by decide +kernel)
set_option maxRecDepth 100000 in
theorem w_551 : (.methodLink "PaneScreenLaw" 88 ⟨"PaneScreenModel", "thrown", "()I"⟩ : Cond) ∈ TW := TW_at (n := 761) (by decide +kernel) (by decide +kernel)
set_option maxRecDepth 100000 in
theorem w_552 : (.instanceMethod ⟨"PaneScreenModel", "thrown", "()I"⟩ : Cond) ∈ TW := TW_at (n := 762) (by decide +kernel) (by decide +kernel)
set_option maxRecDepth 100000 in
theorem w_553 : (.selects "PaneScreenModel" ⟨"PaneScreenModel", "thrown", "()I"⟩ ⟨"PaneScreenModel", "thrown", "()I"⟩ : Cond) ∈ TW := TW_at (n := 763) (by decide +kernel) (by decide +kernel)
set_option maxRecDepth 100000 in
theorem w_554 : (.code ⟨"PaneScreenModel", "thrown", "()I"⟩ prog_8_method_2_code 1 (Option.some .int) : Cond) ∈ TW := TW_at (n := 764) (by decide +kernel) (by decide +kernel)
set_option maxRecDepth 100000 in
theorem w_555 : (.methodLink "PaneScreenLaw" 94 ⟨"PaneScreenModel", "close", "(I)V"⟩ : Cond) ∈ TW := TW_at (n := 792) (by decide +kernel) (by decide +kernel)
set_option maxRecDepth 100000 in
theorem w_556 : (.instanceMethod ⟨"PaneScreenModel", "close", "(I)V"⟩ : Cond) ∈ TW := TW_at (n := 793) (by decide +kernel) (by decide +kernel)
set_option maxRecDepth 100000 in
theorem w_557 : (.selects "PaneScreenModel" ⟨"PaneScreenModel", "close", "(I)V"⟩ ⟨"PaneScreenModel", "close", "(I)V"⟩ : Cond) ∈ TW := TW_at (n := 794) (by decide +kernel) (by decide +kernel)
set_option maxRecDepth 100000 in
theorem w_558 : (.code ⟨"PaneScreenModel", "close", "(I)V"⟩ prog_8_method_17_code 4 (Option.none : Option Jvm.ClassFile.FieldType) : Cond) ∈ TW := TW_at (n := 795) (by decide +kernel) (by decide +kernel)
set_option maxRecDepth 100000 in
theorem w_559 : (.methodLink "PaneScreenLaw" 98 ⟨"PaneScreenModel", "move", "(III)V"⟩ : Cond) ∈ TW := TW_at (n := 808) (by decide +kernel) (by decide +kernel)
set_option maxRecDepth 100000 in
theorem w_560 : (.instanceMethod ⟨"PaneScreenModel", "move", "(III)V"⟩ : Cond) ∈ TW := TW_at (n := 809) (by decide +kernel) (by decide +kernel)
set_option maxRecDepth 100000 in
theorem w_561 : (.selects "PaneScreenModel" ⟨"PaneScreenModel", "move", "(III)V"⟩ ⟨"PaneScreenModel", "move", "(III)V"⟩ : Cond) ∈ TW := TW_at (n := 810) (by decide +kernel) (by decide +kernel)
set_option maxRecDepth 100000 in
theorem w_562 : (.code ⟨"PaneScreenModel", "move", "(III)V"⟩ prog_8_method_18_code 4 (Option.none : Option Jvm.ClassFile.FieldType) : Cond) ∈ TW := TW_at (n := 811) (by decide +kernel) (by decide +kernel)
set_option maxRecDepth 100000 in
theorem w_563 : (.methodLink "PaneScreenLaw" 102 ⟨"PaneScreenModel", "raise", "(IZ)Z"⟩ : Cond) ∈ TW := TW_at (n := 812) (by decide +kernel) (by decide +kernel)
set_option maxRecDepth 100000 in
theorem w_564 : (.instanceMethod ⟨"PaneScreenModel", "raise", "(IZ)Z"⟩ : Cond) ∈ TW := TW_at (n := 813) (by decide +kernel) (by decide +kernel)
set_option maxRecDepth 100000 in
theorem w_565 : (.selects "PaneScreenModel" ⟨"PaneScreenModel", "raise", "(IZ)Z"⟩ ⟨"PaneScreenModel", "raise", "(IZ)Z"⟩ : Cond) ∈ TW := TW_at (n := 814) (by decide +kernel) (by decide +kernel)
set_option maxRecDepth 100000 in
theorem w_566 : (.code ⟨"PaneScreenModel", "raise", "(IZ)Z"⟩ prog_8_method_20_code 3 (Option.some .boolean) : Cond) ∈ TW := TW_at (n := 815) (by decide +kernel) (by decide +kernel)
set_option maxRecDepth 100000 in
theorem w_567 : (.methodLink "PaneScreenLaw" 105 ⟨"PaneScreenModel", "plot", "(IIII)Z"⟩ : Cond) ∈ TW := TW_at (n := 820) (by decide +kernel) (by decide +kernel)
set_option maxRecDepth 100000 in
theorem w_568 : (.instanceMethod ⟨"PaneScreenModel", "plot", "(IIII)Z"⟩ : Cond) ∈ TW := TW_at (n := 821) (by decide +kernel) (by decide +kernel)
set_option maxRecDepth 100000 in
theorem w_569 : (.selects "PaneScreenModel" ⟨"PaneScreenModel", "plot", "(IIII)Z"⟩ ⟨"PaneScreenModel", "plot", "(IIII)Z"⟩ : Cond) ∈ TW := TW_at (n := 822) (by decide +kernel) (by decide +kernel)
set_option maxRecDepth 100000 in
theorem w_570 : (.code ⟨"PaneScreenModel", "plot", "(IIII)Z"⟩ prog_8_method_22_code 6 (Option.some .boolean) : Cond) ∈ TW := TW_at (n := 823) (by decide +kernel) (by decide +kernel)
set_option maxRecDepth 100000 in
theorem w_571 : (.methodLink "PaneScreenLaw" 109 ⟨"PaneScreenModel", "fill", "(IIIII)I"⟩ : Cond) ∈ TW := TW_at (n := 839) (by decide +kernel) (by decide +kernel)
set_option maxRecDepth 100000 in
theorem w_572 : (.instanceMethod ⟨"PaneScreenModel", "fill", "(IIIII)I"⟩ : Cond) ∈ TW := TW_at (n := 840) (by decide +kernel) (by decide +kernel)
set_option maxRecDepth 100000 in
theorem w_573 : (.selects "PaneScreenModel" ⟨"PaneScreenModel", "fill", "(IIIII)I"⟩ ⟨"PaneScreenModel", "fill", "(IIIII)I"⟩ : Cond) ∈ TW := TW_at (n := 841) (by decide +kernel) (by decide +kernel)
set_option maxRecDepth 100000 in
theorem w_574 : (.code ⟨"PaneScreenModel", "fill", "(IIIII)I"⟩ prog_8_method_23_code 9 (Option.some .int) : Cond) ∈ TW := TW_at (n := 842) (by decide +kernel) (by decide +kernel)
set_option maxRecDepth 100000 in
theorem w_575 : (.methodLink "PaneScreenLaw" 112 ⟨"PaneScreenModel", "pen", "(III)V"⟩ : Cond) ∈ TW := TW_at (n := 843) (by decide +kernel) (by decide +kernel)
set_option maxRecDepth 100000 in
theorem w_576 : (.instanceMethod ⟨"PaneScreenModel", "pen", "(III)V"⟩ : Cond) ∈ TW := TW_at (n := 844) (by decide +kernel) (by decide +kernel)
set_option maxRecDepth 100000 in
theorem w_577 : (.selects "PaneScreenModel" ⟨"PaneScreenModel", "pen", "(III)V"⟩ ⟨"PaneScreenModel", "pen", "(III)V"⟩ : Cond) ∈ TW := TW_at (n := 845) (by decide +kernel) (by decide +kernel)
set_option maxRecDepth 100000 in
theorem w_578 : (.code ⟨"PaneScreenModel", "pen", "(III)V"⟩ prog_8_method_24_code 4 (Option.none : Option Jvm.ClassFile.FieldType) : Cond) ∈ TW := TW_at (n := 846) (by decide +kernel) (by decide +kernel)
set_option maxRecDepth 100000 in
theorem w_579 : (.methodLink "PaneScreenLaw" 115 ⟨"PaneScreenModel", "line", "(IIII)I"⟩ : Cond) ∈ TW := TW_at (n := 847) (by decide +kernel) (by decide +kernel)
set_option maxRecDepth 100000 in
theorem w_580 : (.instanceMethod ⟨"PaneScreenModel", "line", "(IIII)I"⟩ : Cond) ∈ TW := TW_at (n := 848) (by decide +kernel) (by decide +kernel)
set_option maxRecDepth 100000 in
theorem w_581 : (.selects "PaneScreenModel" ⟨"PaneScreenModel", "line", "(IIII)I"⟩ ⟨"PaneScreenModel", "line", "(IIII)I"⟩ : Cond) ∈ TW := TW_at (n := 849) (by decide +kernel) (by decide +kernel)
set_option maxRecDepth 100000 in
theorem w_582 : (.code ⟨"PaneScreenModel", "line", "(IIII)I"⟩ prog_8_method_26_code 13 (Option.some .int) : Cond) ∈ TW := TW_at (n := 850) (by decide +kernel) (by decide +kernel)
set_option maxRecDepth 100000 in
theorem w_583 : (.methodLink "PaneScreenLaw" 118 ⟨"PaneScreenModel", "scroll", "(III)V"⟩ : Cond) ∈ TW := TW_at (n := 854) (by decide +kernel) (by decide +kernel)
set_option maxRecDepth 100000 in
theorem w_584 : (.instanceMethod ⟨"PaneScreenModel", "scroll", "(III)V"⟩ : Cond) ∈ TW := TW_at (n := 855) (by decide +kernel) (by decide +kernel)
set_option maxRecDepth 100000 in
theorem w_585 : (.selects "PaneScreenModel" ⟨"PaneScreenModel", "scroll", "(III)V"⟩ ⟨"PaneScreenModel", "scroll", "(III)V"⟩ : Cond) ∈ TW := TW_at (n := 856) (by decide +kernel) (by decide +kernel)
set_option maxRecDepth 100000 in
theorem w_586 : (.code ⟨"PaneScreenModel", "scroll", "(III)V"⟩ prog_8_method_27_code 7 (Option.none : Option Jvm.ClassFile.FieldType) : Cond) ∈ TW := TW_at (n := 857) (by decide +kernel) (by decide +kernel)
set_option maxRecDepth 100000 in
theorem w_587 : (.methodLink "PaneScreenLaw" 119 ⟨"PaneScreen", "flush", "()I"⟩ : Cond) ∈ TW := TW_at (n := 221) (by decide +kernel) (by decide +kernel)
set_option maxRecDepth 100000 in
theorem w_588 : (.instanceMethod ⟨"PaneScreen", "flush", "()I"⟩ : Cond) ∈ TW := TW_at (n := 222) (by decide +kernel) (by decide +kernel)
set_option maxRecDepth 100000 in
theorem w_589 : (.selects "PaneScreen" ⟨"PaneScreen", "flush", "()I"⟩ ⟨"PaneScreen", "flush", "()I"⟩ : Cond) ∈ TW := TW_at (n := 223) (by decide +kernel) (by decide +kernel)
set_option maxRecDepth 100000 in
theorem w_590 : (.code ⟨"PaneScreen", "flush", "()I"⟩ prog_1_method_11_code 4 (Option.some .int) : Cond) ∈ TW := TW_at (n := 224) (by decide +kernel) (by decide +kernel)
set_option maxRecDepth 100000 in
theorem w_591 : (.methodLink "PaneScreenLaw" 122 ⟨"PaneScreenModel", "flush", "()I"⟩ : Cond) ∈ TW := TW_at (n := 858) (by decide +kernel) (by decide +kernel)
set_option maxRecDepth 100000 in
theorem w_592 : (.instanceMethod ⟨"PaneScreenModel", "flush", "()I"⟩ : Cond) ∈ TW := TW_at (n := 859) (by decide +kernel) (by decide +kernel)
set_option maxRecDepth 100000 in
theorem w_593 : (.selects "PaneScreenModel" ⟨"PaneScreenModel", "flush", "()I"⟩ ⟨"PaneScreenModel", "flush", "()I"⟩ : Cond) ∈ TW := TW_at (n := 860) (by decide +kernel) (by decide +kernel)
set_option maxRecDepth 100000 in
theorem w_594 : (.code ⟨"PaneScreenModel", "flush", "()I"⟩ prog_8_method_29_code 5 (Option.some .int) : Cond) ∈ TW := TW_at (n := 861) (by decide +kernel) (by decide +kernel)
set_option maxRecDepth 100000 in
theorem w_595 : (.methodLink "PaneScreenLaw" 126 ⟨"PaneScreenModel", "screen", "(II)I"⟩ : Cond) ∈ TW := TW_at (n := 870) (by decide +kernel) (by decide +kernel)
set_option maxRecDepth 100000 in
theorem w_596 : (.instanceMethod ⟨"PaneScreenModel", "screen", "(II)I"⟩ : Cond) ∈ TW := TW_at (n := 871) (by decide +kernel) (by decide +kernel)
set_option maxRecDepth 100000 in
theorem w_597 : (.selects "PaneScreenModel" ⟨"PaneScreenModel", "screen", "(II)I"⟩ ⟨"PaneScreenModel", "screen", "(II)I"⟩ : Cond) ∈ TW := TW_at (n := 872) (by decide +kernel) (by decide +kernel)
set_option maxRecDepth 100000 in
theorem w_598 : (.code ⟨"PaneScreenModel", "screen", "(II)I"⟩ prog_8_method_30_code 3 (Option.some .int) : Cond) ∈ TW := TW_at (n := 873) (by decide +kernel) (by decide +kernel)
set_option maxRecDepth 100000 in
theorem w_599 : (.methodLink "PaneScreenLaw" 130 ⟨"PaneScreenModel", "picture", "(III)I"⟩ : Cond) ∈ TW := TW_at (n := 877) (by decide +kernel) (by decide +kernel)
set_option maxRecDepth 100000 in
theorem w_600 : (.instanceMethod ⟨"PaneScreenModel", "picture", "(III)I"⟩ : Cond) ∈ TW := TW_at (n := 878) (by decide +kernel) (by decide +kernel)
set_option maxRecDepth 100000 in
theorem w_601 : (.selects "PaneScreenModel" ⟨"PaneScreenModel", "picture", "(III)I"⟩ ⟨"PaneScreenModel", "picture", "(III)I"⟩ : Cond) ∈ TW := TW_at (n := 879) (by decide +kernel) (by decide +kernel)
set_option maxRecDepth 100000 in
theorem w_602 : (.code ⟨"PaneScreenModel", "picture", "(III)I"⟩ prog_8_method_31_code 4 (Option.some .int) : Cond) ∈ TW := TW_at (n := 880) (by decide +kernel) (by decide +kernel)
set_option maxRecDepth 100000 in
theorem w_603 : (.methodLink "PaneScreenLaw" 133 ⟨"PaneScreenModel", "at", "(II)I"⟩ : Cond) ∈ TW := TW_at (n := 881) (by decide +kernel) (by decide +kernel)
set_option maxRecDepth 100000 in
theorem w_604 : (.instanceMethod ⟨"PaneScreenModel", "at", "(II)I"⟩ : Cond) ∈ TW := TW_at (n := 882) (by decide +kernel) (by decide +kernel)
set_option maxRecDepth 100000 in
theorem w_605 : (.selects "PaneScreenModel" ⟨"PaneScreenModel", "at", "(II)I"⟩ ⟨"PaneScreenModel", "at", "(II)I"⟩ : Cond) ∈ TW := TW_at (n := 883) (by decide +kernel) (by decide +kernel)
set_option maxRecDepth 100000 in
theorem w_606 : (.code ⟨"PaneScreenModel", "at", "(II)I"⟩ prog_8_method_32_code 3 (Option.some .int) : Cond) ∈ TW := TW_at (n := 884) (by decide +kernel) (by decide +kernel)
set_option maxRecDepth 100000 in
theorem w_607 : (.methodLink "PaneScreenLaw" 137 ⟨"PaneScreenModel", "visible", "(I)I"⟩ : Cond) ∈ TW := TW_at (n := 885) (by decide +kernel) (by decide +kernel)
set_option maxRecDepth 100000 in
theorem w_608 : (.instanceMethod ⟨"PaneScreenModel", "visible", "(I)I"⟩ : Cond) ∈ TW := TW_at (n := 886) (by decide +kernel) (by decide +kernel)
set_option maxRecDepth 100000 in
theorem w_609 : (.selects "PaneScreenModel" ⟨"PaneScreenModel", "visible", "(I)I"⟩ ⟨"PaneScreenModel", "visible", "(I)I"⟩ : Cond) ∈ TW := TW_at (n := 887) (by decide +kernel) (by decide +kernel)
set_option maxRecDepth 100000 in
theorem w_610 : (.code ⟨"PaneScreenModel", "visible", "(I)I"⟩ prog_8_method_33_code 4 (Option.some .int) : Cond) ∈ TW := TW_at (n := 888) (by decide +kernel) (by decide +kernel)
set_option maxRecDepth 100000 in
theorem w_611 : (.methodLink "PaneScreenLaw" 140 ⟨"PaneScreenModel", "click", "(II)I"⟩ : Cond) ∈ TW := TW_at (n := 889) (by decide +kernel) (by decide +kernel)
set_option maxRecDepth 100000 in
theorem w_612 : (.instanceMethod ⟨"PaneScreenModel", "click", "(II)I"⟩ : Cond) ∈ TW := TW_at (n := 890) (by decide +kernel) (by decide +kernel)
set_option maxRecDepth 100000 in
theorem w_613 : (.selects "PaneScreenModel" ⟨"PaneScreenModel", "click", "(II)I"⟩ ⟨"PaneScreenModel", "click", "(II)I"⟩ : Cond) ∈ TW := TW_at (n := 891) (by decide +kernel) (by decide +kernel)
set_option maxRecDepth 100000 in
theorem w_614 : (.code ⟨"PaneScreenModel", "click", "(II)I"⟩ prog_8_method_36_code 4 (Option.some .int) : Cond) ∈ TW := TW_at (n := 892) (by decide +kernel) (by decide +kernel)
set_option maxRecDepth 100000 in
theorem w_615 : (.methodLink "PaneScreenLaw" 141 ⟨"PaneScreen", "key", "(I)Z"⟩ : Cond) ∈ TW := TW_at (n := 253) (by decide +kernel) (by decide +kernel)
set_option maxRecDepth 100000 in
theorem w_616 : (.instanceMethod ⟨"PaneScreen", "key", "(I)Z"⟩ : Cond) ∈ TW := TW_at (n := 254) (by decide +kernel) (by decide +kernel)
set_option maxRecDepth 100000 in
theorem w_617 : (.selects "PaneScreen" ⟨"PaneScreen", "key", "(I)Z"⟩ ⟨"PaneScreen", "key", "(I)Z"⟩ : Cond) ∈ TW := TW_at (n := 255) (by decide +kernel) (by decide +kernel)
set_option maxRecDepth 100000 in
theorem w_618 : (.code ⟨"PaneScreen", "key", "(I)Z"⟩ prog_1_method_17_code 2 (Option.some .boolean) : Cond) ∈ TW := TW_at (n := 256) (by decide +kernel) (by decide +kernel)
set_option maxRecDepth 100000 in
theorem w_619 : (.methodLink "PaneScreenLaw" 145 ⟨"PaneScreenModel", "key", "(I)Z"⟩ : Cond) ∈ TW := TW_at (n := 897) (by decide +kernel) (by decide +kernel)
set_option maxRecDepth 100000 in
theorem w_620 : (.instanceMethod ⟨"PaneScreenModel", "key", "(I)Z"⟩ : Cond) ∈ TW := TW_at (n := 898) (by decide +kernel) (by decide +kernel)
set_option maxRecDepth 100000 in
theorem w_621 : (.selects "PaneScreenModel" ⟨"PaneScreenModel", "key", "(I)Z"⟩ ⟨"PaneScreenModel", "key", "(I)Z"⟩ : Cond) ∈ TW := TW_at (n := 899) (by decide +kernel) (by decide +kernel)
set_option maxRecDepth 100000 in
theorem w_622 : (.code ⟨"PaneScreenModel", "key", "(I)Z"⟩ prog_8_method_37_code 2 (Option.some .boolean) : Cond) ∈ TW := TW_at (n := 900) (by decide +kernel) (by decide +kernel)
set_option maxRecDepth 100000 in
theorem w_623 : (.methodLink "PaneScreenLaw" 149 ⟨"PaneScreenModel", "next", "()I"⟩ : Cond) ∈ TW := TW_at (n := 901) (by decide +kernel) (by decide +kernel)
set_option maxRecDepth 100000 in
theorem w_624 : (.instanceMethod ⟨"PaneScreenModel", "next", "()I"⟩ : Cond) ∈ TW := TW_at (n := 902) (by decide +kernel) (by decide +kernel)
set_option maxRecDepth 100000 in
theorem w_625 : (.selects "PaneScreenModel" ⟨"PaneScreenModel", "next", "()I"⟩ ⟨"PaneScreenModel", "next", "()I"⟩ : Cond) ∈ TW := TW_at (n := 903) (by decide +kernel) (by decide +kernel)
set_option maxRecDepth 100000 in
theorem w_626 : (.code ⟨"PaneScreenModel", "next", "()I"⟩ prog_8_method_38_code 3 (Option.some .int) : Cond) ∈ TW := TW_at (n := 904) (by decide +kernel) (by decide +kernel)
set_option maxRecDepth 100000 in
theorem w_627 : (.methodLink "PaneScreenLaw" 152 ⟨"PaneScreenModel", "event", "(I)I"⟩ : Cond) ∈ TW := TW_at (n := 905) (by decide +kernel) (by decide +kernel)
set_option maxRecDepth 100000 in
theorem w_628 : (.instanceMethod ⟨"PaneScreenModel", "event", "(I)I"⟩ : Cond) ∈ TW := TW_at (n := 906) (by decide +kernel) (by decide +kernel)
set_option maxRecDepth 100000 in
theorem w_629 : (.selects "PaneScreenModel" ⟨"PaneScreenModel", "event", "(I)I"⟩ ⟨"PaneScreenModel", "event", "(I)I"⟩ : Cond) ∈ TW := TW_at (n := 907) (by decide +kernel) (by decide +kernel)
set_option maxRecDepth 100000 in
theorem w_630 : (.code ⟨"PaneScreenModel", "event", "(I)I"⟩ prog_8_method_39_code 2 (Option.some .int) : Cond) ∈ TW := TW_at (n := 908) (by decide +kernel) (by decide +kernel)
set_option maxRecDepth 100000 in
theorem w_631 : (.methodLink "PaneScreenLaw" 155 ⟨"PaneScreenModel", "figure", "(I)I"⟩ : Cond) ∈ TW := TW_at (n := 909) (by decide +kernel) (by decide +kernel)
set_option maxRecDepth 100000 in
theorem w_632 : (.instanceMethod ⟨"PaneScreenModel", "figure", "(I)I"⟩ : Cond) ∈ TW := TW_at (n := 910) (by decide +kernel) (by decide +kernel)
set_option maxRecDepth 100000 in
theorem w_633 : (.selects "PaneScreenModel" ⟨"PaneScreenModel", "figure", "(I)I"⟩ ⟨"PaneScreenModel", "figure", "(I)I"⟩ : Cond) ∈ TW := TW_at (n := 911) (by decide +kernel) (by decide +kernel)
set_option maxRecDepth 100000 in
theorem w_634 : (.code ⟨"PaneScreenModel", "figure", "(I)I"⟩ prog_8_method_42_code 2 (Option.some .int) : Cond) ∈ TW := TW_at (n := 912) (by decide +kernel) (by decide +kernel)
set_option maxRecDepth 100000 in
theorem w_635 : (.methodLink "PaneScreenLaw" 82 ⟨"PaneScreenLaw", "open", "(LPaneScreen;IIII[J)I"⟩ : Cond) ∈ TW := TW_at (n := 261) (by decide +kernel) (by decide +kernel)
set_option maxRecDepth 100000 in
theorem w_636 : (.static ⟨"PaneScreenLaw", "open", "(LPaneScreen;IIII[J)I"⟩ : Cond) ∈ TW := TW_at (n := 262) (by decide +kernel) (by decide +kernel)
set_option maxRecDepth 100000 in
theorem w_637 : (.initialized "PaneScreenLaw" : Cond) ∈ TW := TW_at (n := 30) (by decide +kernel) (by decide +kernel)
set_option maxRecDepth 100000 in
theorem w_638 : (.codeWith ⟨"PaneScreenLaw", "open", "(LPaneScreen;IIII[J)I"⟩ method_3_code 7 (Option.some .int) [(0, 14, 17, 13), (0, 14, 21, 15)] : Cond) ∈ TW := TW_at (n := 263) (by decide +kernel) (by decide +kernel)
set_option maxRecDepth 100000 in
theorem w_639 : (.methodLink "PaneScreenLaw" 91 ⟨"PaneScreenLaw", "close", "(LPaneScreen;I)I"⟩ : Cond) ∈ TW := TW_at (n := 409) (by decide +kernel) (by decide +kernel)
set_option maxRecDepth 100000 in
theorem w_640 : (.static ⟨"PaneScreenLaw", "close", "(LPaneScreen;I)I"⟩ : Cond) ∈ TW := TW_at (n := 410) (by decide +kernel) (by decide +kernel)
set_option maxRecDepth 100000 in
theorem w_641 : (.codeWith ⟨"PaneScreenLaw", "close", "(LPaneScreen;I)I"⟩ method_4_code 3 (Option.some .int) [(0, 5, 8, 21)] : Cond) ∈ TW := TW_at (n := 411) (by decide +kernel) (by decide +kernel)
set_option maxRecDepth 100000 in
theorem w_642 : (.methodLink "PaneScreenLaw" 95 ⟨"PaneScreenLaw", "move", "(LPaneScreen;III)I"⟩ : Cond) ∈ TW := TW_at (n := 460) (by decide +kernel) (by decide +kernel)
set_option maxRecDepth 100000 in
theorem w_643 : (.static ⟨"PaneScreenLaw", "move", "(LPaneScreen;III)I"⟩ : Cond) ∈ TW := TW_at (n := 461) (by decide +kernel) (by decide +kernel)
set_option maxRecDepth 100000 in
theorem w_644 : (.codeWith ⟨"PaneScreenLaw", "move", "(LPaneScreen;III)I"⟩ method_5_code 5 (Option.some .int) [(0, 7, 10, 21), (0, 7, 14, 13)] : Cond) ∈ TW := TW_at (n := 462) (by decide +kernel) (by decide +kernel)
set_option maxRecDepth 100000 in
theorem w_645 : (.methodLink "PaneScreenLaw" 99 ⟨"PaneScreenLaw", "raise", "(LPaneScreen;IZ[J)I"⟩ : Cond) ∈ TW := TW_at (n := 467) (by decide +kernel) (by decide +kernel)
set_option maxRecDepth 100000 in
theorem w_646 : (.static ⟨"PaneScreenLaw", "raise", "(LPaneScreen;IZ[J)I"⟩ : Cond) ∈ TW := TW_at (n := 468) (by decide +kernel) (by decide +kernel)
set_option maxRecDepth 100000 in
theorem w_647 : (.codeWith ⟨"PaneScreenLaw", "raise", "(LPaneScreen;IZ[J)I"⟩ method_6_code 5 (Option.some .int) [(0, 17, 20, 21)] : Cond) ∈ TW := TW_at (n := 469) (by decide +kernel) (by decide +kernel)
set_option maxRecDepth 100000 in
theorem w_648 : (.methodLink "PaneScreenLaw" 103 ⟨"PaneScreenLaw", "plot", "(LPaneScreen;IIII[J)I"⟩ : Cond) ∈ TW := TW_at (n := 486) (by decide +kernel) (by decide +kernel)
set_option maxRecDepth 100000 in
theorem w_649 : (.static ⟨"PaneScreenLaw", "plot", "(LPaneScreen;IIII[J)I"⟩ : Cond) ∈ TW := TW_at (n := 487) (by decide +kernel) (by decide +kernel)
set_option maxRecDepth 100000 in
theorem w_650 : (.codeWith ⟨"PaneScreenLaw", "plot", "(LPaneScreen;IIII[J)I"⟩ method_7_code 7 (Option.some .int) [(0, 21, 24, 21), (0, 21, 28, 13)] : Cond) ∈ TW := TW_at (n := 488) (by decide +kernel) (by decide +kernel)
set_option maxRecDepth 100000 in
theorem w_651 : (.methodLink "PaneScreenLaw" 106 ⟨"PaneScreenLaw", "fill", "(LPaneScreen;IIIII[J)I"⟩ : Cond) ∈ TW := TW_at (n := 497) (by decide +kernel) (by decide +kernel)
set_option maxRecDepth 100000 in
theorem w_652 : (.static ⟨"PaneScreenLaw", "fill", "(LPaneScreen;IIIII[J)I"⟩ : Cond) ∈ TW := TW_at (n := 498) (by decide +kernel) (by decide +kernel)
set_option maxRecDepth 100000 in
theorem w_653 : (.codeWith ⟨"PaneScreenLaw", "fill", "(LPaneScreen;IIIII[J)I"⟩ method_8_code 8 (Option.some .int) [(0, 16, 19, 21), (0, 16, 23, 13)] : Cond) ∈ TW := TW_at (n := 499) (by decide +kernel) (by decide +kernel)
set_option maxRecDepth 100000 in
theorem w_654 : (.methodLink "PaneScreenLaw" 110 ⟨"PaneScreenLaw", "pen", "(LPaneScreen;III)I"⟩ : Cond) ∈ TW := TW_at (n := 509) (by decide +kernel) (by decide +kernel)
set_option maxRecDepth 100000 in
theorem w_655 : (.static ⟨"PaneScreenLaw", "pen", "(LPaneScreen;III)I"⟩ : Cond) ∈ TW := TW_at (n := 510) (by decide +kernel) (by decide +kernel)
set_option maxRecDepth 100000 in
theorem w_656 : (.codeWith ⟨"PaneScreenLaw", "pen", "(LPaneScreen;III)I"⟩ method_9_code 5 (Option.some .int) [(0, 7, 10, 21), (0, 7, 14, 13)] : Cond) ∈ TW := TW_at (n := 511) (by decide +kernel) (by decide +kernel)
set_option maxRecDepth 100000 in
theorem w_657 : (.methodLink "PaneScreenLaw" 113 ⟨"PaneScreenLaw", "line", "(LPaneScreen;IIII[J)I"⟩ : Cond) ∈ TW := TW_at (n := 517) (by decide +kernel) (by decide +kernel)
set_option maxRecDepth 100000 in
theorem w_658 : (.static ⟨"PaneScreenLaw", "line", "(LPaneScreen;IIII[J)I"⟩ : Cond) ∈ TW := TW_at (n := 518) (by decide +kernel) (by decide +kernel)
set_option maxRecDepth 100000 in
theorem w_659 : (.codeWith ⟨"PaneScreenLaw", "line", "(LPaneScreen;IIII[J)I"⟩ method_10_code 7 (Option.some .int) [(0, 14, 17, 21), (0, 14, 21, 13)] : Cond) ∈ TW := TW_at (n := 519) (by decide +kernel) (by decide +kernel)
set_option maxRecDepth 100000 in
theorem w_660 : (.methodLink "PaneScreenLaw" 116 ⟨"PaneScreenLaw", "scroll", "(LPaneScreen;III)I"⟩ : Cond) ∈ TW := TW_at (n := 537) (by decide +kernel) (by decide +kernel)
set_option maxRecDepth 100000 in
theorem w_661 : (.static ⟨"PaneScreenLaw", "scroll", "(LPaneScreen;III)I"⟩ : Cond) ∈ TW := TW_at (n := 538) (by decide +kernel) (by decide +kernel)
set_option maxRecDepth 100000 in
theorem w_662 : (.codeWith ⟨"PaneScreenLaw", "scroll", "(LPaneScreen;III)I"⟩ method_11_code 5 (Option.some .int) [(0, 7, 10, 21), (0, 7, 14, 13)] : Cond) ∈ TW := TW_at (n := 539) (by decide +kernel) (by decide +kernel)
set_option maxRecDepth 100000 in
theorem w_663 : (.methodLink "PaneScreenLaw" 123 ⟨"PaneScreenLaw", "screen", "(LPaneScreen;II[J)I"⟩ : Cond) ∈ TW := TW_at (n := 551) (by decide +kernel) (by decide +kernel)
set_option maxRecDepth 100000 in
theorem w_664 : (.static ⟨"PaneScreenLaw", "screen", "(LPaneScreen;II[J)I"⟩ : Cond) ∈ TW := TW_at (n := 552) (by decide +kernel) (by decide +kernel)
set_option maxRecDepth 100000 in
theorem w_665 : (.codeWith ⟨"PaneScreenLaw", "screen", "(LPaneScreen;II[J)I"⟩ method_12_code 5 (Option.some .int) [(0, 10, 13, 52)] : Cond) ∈ TW := TW_at (n := 553) (by decide +kernel) (by decide +kernel)
set_option maxRecDepth 100000 in
theorem w_666 : (.methodLink "PaneScreenLaw" 127 ⟨"PaneScreenLaw", "picture", "(LPaneScreen;III[J)I"⟩ : Cond) ∈ TW := TW_at (n := 577) (by decide +kernel) (by decide +kernel)
set_option maxRecDepth 100000 in
theorem w_667 : (.static ⟨"PaneScreenLaw", "picture", "(LPaneScreen;III[J)I"⟩ : Cond) ∈ TW := TW_at (n := 578) (by decide +kernel) (by decide +kernel)
set_option maxRecDepth 100000 in
theorem w_668 : (.codeWith ⟨"PaneScreenLaw", "picture", "(LPaneScreen;III[J)I"⟩ method_13_code 6 (Option.some .int) [(0, 12, 15, 21), (0, 12, 19, 52)] : Cond) ∈ TW := TW_at (n := 579) (by decide +kernel) (by decide +kernel)
set_option maxRecDepth 100000 in
theorem w_669 : (.methodLink "PaneScreenLaw" 131 ⟨"PaneScreenLaw", "at", "(LPaneScreen;II[J)I"⟩ : Cond) ∈ TW := TW_at (n := 584) (by decide +kernel) (by decide +kernel)
set_option maxRecDepth 100000 in
theorem w_670 : (.static ⟨"PaneScreenLaw", "at", "(LPaneScreen;II[J)I"⟩ : Cond) ∈ TW := TW_at (n := 585) (by decide +kernel) (by decide +kernel)
set_option maxRecDepth 100000 in
theorem w_671 : (.codeWith ⟨"PaneScreenLaw", "at", "(LPaneScreen;II[J)I"⟩ method_14_code 5 (Option.some .int) [(0, 10, 13, 52)] : Cond) ∈ TW := TW_at (n := 586) (by decide +kernel) (by decide +kernel)
set_option maxRecDepth 100000 in
theorem w_672 : (.methodLink "PaneScreenLaw" 134 ⟨"PaneScreenLaw", "visible", "(LPaneScreen;I[J)I"⟩ : Cond) ∈ TW := TW_at (n := 591) (by decide +kernel) (by decide +kernel)
set_option maxRecDepth 100000 in
theorem w_673 : (.static ⟨"PaneScreenLaw", "visible", "(LPaneScreen;I[J)I"⟩ : Cond) ∈ TW := TW_at (n := 592) (by decide +kernel) (by decide +kernel)
set_option maxRecDepth 100000 in
theorem w_674 : (.codeWith ⟨"PaneScreenLaw", "visible", "(LPaneScreen;I[J)I"⟩ method_15_code 4 (Option.some .int) [(0, 9, 12, 21)] : Cond) ∈ TW := TW_at (n := 593) (by decide +kernel) (by decide +kernel)
set_option maxRecDepth 100000 in
theorem w_675 : (.methodLink "PaneScreenLaw" 138 ⟨"PaneScreenLaw", "click", "(LPaneScreen;II[J)I"⟩ : Cond) ∈ TW := TW_at (n := 598) (by decide +kernel) (by decide +kernel)
set_option maxRecDepth 100000 in
theorem w_676 : (.static ⟨"PaneScreenLaw", "click", "(LPaneScreen;II[J)I"⟩ : Cond) ∈ TW := TW_at (n := 599) (by decide +kernel) (by decide +kernel)
set_option maxRecDepth 100000 in
theorem w_677 : (.codeWith ⟨"PaneScreenLaw", "click", "(LPaneScreen;II[J)I"⟩ method_16_code 5 (Option.some .int) [(0, 10, 13, 52)] : Cond) ∈ TW := TW_at (n := 600) (by decide +kernel) (by decide +kernel)
set_option maxRecDepth 100000 in
theorem w_678 : (.methodLink "PaneScreenLaw" 146 ⟨"PaneScreenLaw", "next", "(LPaneScreen;[J)I"⟩ : Cond) ∈ TW := TW_at (n := 609) (by decide +kernel) (by decide +kernel)
set_option maxRecDepth 100000 in
theorem w_679 : (.static ⟨"PaneScreenLaw", "next", "(LPaneScreen;[J)I"⟩ : Cond) ∈ TW := TW_at (n := 610) (by decide +kernel) (by decide +kernel)
set_option maxRecDepth 100000 in
theorem w_680 : (.codeWith ⟨"PaneScreenLaw", "next", "(LPaneScreen;[J)I"⟩ method_17_code 3 (Option.some .int) [(0, 8, 11, 21)] : Cond) ∈ TW := TW_at (n := 611) (by decide +kernel) (by decide +kernel)
set_option maxRecDepth 100000 in
theorem w_681 : (.methodLink "PaneScreenLaw" 150 ⟨"PaneScreenLaw", "event", "(LPaneScreen;I[J)I"⟩ : Cond) ∈ TW := TW_at (n := 620) (by decide +kernel) (by decide +kernel)
set_option maxRecDepth 100000 in
theorem w_682 : (.static ⟨"PaneScreenLaw", "event", "(LPaneScreen;I[J)I"⟩ : Cond) ∈ TW := TW_at (n := 621) (by decide +kernel) (by decide +kernel)
set_option maxRecDepth 100000 in
theorem w_683 : (.codeWith ⟨"PaneScreenLaw", "event", "(LPaneScreen;I[J)I"⟩ method_18_code 4 (Option.some .int) [(0, 9, 12, 15), (0, 9, 15, 13)] : Cond) ∈ TW := TW_at (n := 622) (by decide +kernel) (by decide +kernel)
set_option maxRecDepth 100000 in
theorem w_684 : (.methodLink "PaneScreenLaw" 153 ⟨"PaneScreenLaw", "figure", "(LPaneScreen;I[J)I"⟩ : Cond) ∈ TW := TW_at (n := 627) (by decide +kernel) (by decide +kernel)
set_option maxRecDepth 100000 in
theorem w_685 : (.static ⟨"PaneScreenLaw", "figure", "(LPaneScreen;I[J)I"⟩ : Cond) ∈ TW := TW_at (n := 628) (by decide +kernel) (by decide +kernel)
set_option maxRecDepth 100000 in
theorem w_686 : (.codeWith ⟨"PaneScreenLaw", "figure", "(LPaneScreen;I[J)I"⟩ method_19_code 4 (Option.some .int) [(0, 9, 12, 13)] : Cond) ∈ TW := TW_at (n := 629) (by decide +kernel) (by decide +kernel)
