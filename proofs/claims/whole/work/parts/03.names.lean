/-! Names: words, shape of memory, classes, methods. -/
def TW : List Cond := lw_tbl.filter goodWord
theorem TW_good : ∀ w ∈ TW, goodWord w = true := fun w h => (List.mem_filter.1 h).2
theorem TW_at {n : Nat} {w : Cond} (h : lw_tbl[n]? = some w) (hg : goodWord w = true) : w ∈ TW := List.mem_filter.2 ⟨List.mem_of_getElem? h, hg⟩
def gSh : List (Nat × Nat × List Nat) := [(0, 0, [2, 3, 4, 6, 10, 15, 0, 0]), (1, 384, []), (4, 8, []), (0, 3, [5, 0]), (1, 8, []), (0, 5, [7, 8, 9]), (1, 400, []), (1, 400, []), (2, 400, []), (0, 1, [11, 12, 13, 14, 0]), (1, 6, []), (1, 6, []), (1, 6, []), (1, 6, []), (0, 2, [16, 17, 18, 19, 0, 0, 0, 0, 0, 0]), (1, 12, []), (1, 12, []), (1, 12, []), (1, 12, []), (0, 6, [0, 21, 22, 23, 24, 25, 26, 27, 28, 29, 30, 0, 0, 31, 32, 0, 0, 33, 34, 35, 36, 0, 0, 0, 0, 0, 0, 37, 38, 39, 40, 0, 0, 0, 0, 0, 0]), (1, 384, []), (2, 8, []), (1, 8, []), (1, 8, []), (1, 8, []), (1, 8, []), (1, 8, []), (1, 8, []), (1, 8, []), (1, 8, []), (1, 3072, []), (1, 384, []), (1, 7, []), (1, 7, []), (1, 7, []), (1, 7, []), (1, 12, []), (1, 12, []), (1, 12, []), (1, 12, []), (3, 1, []), (0, 4, [0, 0, 0, 0, 0, 0, 0, 0]), (0, 4, [0, 0, 0, 0, 0, 0, 0, 0]), (0, 4, [0, 0, 0, 0, 0, 0, 0, 0]), (0, 4, [0, 0, 0, 0, 0, 0, 0, 0]), (0, 4, [0, 0, 0, 0, 0, 0, 0, 0]), (0, 4, [0, 0, 0, 0, 0, 0, 0, 0]), (0, 4, [0, 0, 0, 0, 0, 0, 0, 0]), (0, 4, [0, 0, 0, 0, 0, 0, 0, 0])]
def gPB : Nat := 41
abbrev shP : List Nat := [0, 0, 0, 0, 0, 0, 0, 0]
abbrev gPn (q : Nat) : Prop := gSh[q]? = some (0, 4, shP)
def gpn (q : Nat) : Bool := decide (gPn q)
theorem gpn_of {q : Nat} (h : gpn q = true) : gPn q := of_decide_eq_true h
theorem gPn_at : ∀ w, w < 8 → gPn (gPB + w) := by decide
theorem gpn_at : ∀ w, w < 8 → gpn (gPB + w) = true := by decide
def gOUT : Nat := 40
theorem sh_0 : gSh[0]? = some (0, 0, [2, 3, 4, 6, 10, 15, 0, 0]) := rfl
theorem sh_1 : gSh[1]? = some (1, 384, []) := rfl
theorem sh_2 : gSh[2]? = some (4, 8, []) := rfl
theorem sh_3 : gSh[3]? = some (0, 3, [5, 0]) := rfl
theorem sh_4 : gSh[4]? = some (1, 8, []) := rfl
theorem sh_5 : gSh[5]? = some (0, 5, [7, 8, 9]) := rfl
theorem sh_6 : gSh[6]? = some (1, 400, []) := rfl
theorem sh_7 : gSh[7]? = some (1, 400, []) := rfl
theorem sh_8 : gSh[8]? = some (2, 400, []) := rfl
theorem sh_9 : gSh[9]? = some (0, 1, [11, 12, 13, 14, 0]) := rfl
theorem sh_10 : gSh[10]? = some (1, 6, []) := rfl
theorem sh_11 : gSh[11]? = some (1, 6, []) := rfl
theorem sh_12 : gSh[12]? = some (1, 6, []) := rfl
theorem sh_13 : gSh[13]? = some (1, 6, []) := rfl
theorem sh_14 : gSh[14]? = some (0, 2, [16, 17, 18, 19, 0, 0, 0, 0, 0, 0]) := rfl
theorem sh_15 : gSh[15]? = some (1, 12, []) := rfl
theorem sh_16 : gSh[16]? = some (1, 12, []) := rfl
theorem sh_17 : gSh[17]? = some (1, 12, []) := rfl
theorem sh_18 : gSh[18]? = some (1, 12, []) := rfl
theorem sh_19 : gSh[19]? = some (0, 6, [0, 21, 22, 23, 24, 25, 26, 27, 28, 29, 30, 0, 0, 31, 32, 0, 0, 33, 34, 35, 36, 0, 0, 0, 0, 0, 0, 37, 38, 39, 40, 0, 0, 0, 0, 0, 0]) := rfl
theorem sh_20 : gSh[20]? = some (1, 384, []) := rfl
theorem sh_21 : gSh[21]? = some (2, 8, []) := rfl
theorem sh_22 : gSh[22]? = some (1, 8, []) := rfl
theorem sh_23 : gSh[23]? = some (1, 8, []) := rfl
theorem sh_24 : gSh[24]? = some (1, 8, []) := rfl
theorem sh_25 : gSh[25]? = some (1, 8, []) := rfl
theorem sh_26 : gSh[26]? = some (1, 8, []) := rfl
theorem sh_27 : gSh[27]? = some (1, 8, []) := rfl
theorem sh_28 : gSh[28]? = some (1, 8, []) := rfl
theorem sh_29 : gSh[29]? = some (1, 8, []) := rfl
theorem sh_30 : gSh[30]? = some (1, 3072, []) := rfl
theorem sh_31 : gSh[31]? = some (1, 384, []) := rfl
theorem sh_32 : gSh[32]? = some (1, 7, []) := rfl
theorem sh_33 : gSh[33]? = some (1, 7, []) := rfl
theorem sh_34 : gSh[34]? = some (1, 7, []) := rfl
theorem sh_35 : gSh[35]? = some (1, 7, []) := rfl
theorem sh_36 : gSh[36]? = some (1, 12, []) := rfl
theorem sh_37 : gSh[37]? = some (1, 12, []) := rfl
theorem sh_38 : gSh[38]? = some (1, 12, []) := rfl
theorem sh_39 : gSh[39]? = some (1, 12, []) := rfl
theorem sh_40 : gSh[40]? = some (3, 1, []) := rfl
def gN : Nat := 1000
def F_S : u_T := fun k => match k with
  | 0 => ("PaneScreen", "shown", "[I", true)
  | 1 => ("PaneScreen", "panes", "[LPaneScreen$Pane;", true)
  | 2 => ("PaneScreen", "order", "LPaneScreen$Order;", true)
  | 3 => ("PaneScreen", "store", "LPaneScreen$Store;", true)
  | 4 => ("PaneScreen", "damage", "LPaneScreen$Damage;", true)
  | 5 => ("PaneScreen", "events", "LPaneScreen$EventLine;", true)
  | 6 => ("PaneScreen", "focus", "I", false)
  | _ => ("PaneScreen", "painted", "I", false)
def ty_S : Nat → FieldType := fun k => match k with
  | 0 => .array .int
  | 1 => .array (.object "PaneScreen$Pane")
  | 2 => .object "PaneScreen$Order"
  | 3 => .object "PaneScreen$Store"
  | 4 => .object "PaneScreen$Damage"
  | 5 => .object "PaneScreen$EventLine"
  | 6 => .int
  | _ => .int
theorem ty_S_ok : ∀ k, k < 8 → parseFieldDescriptor (F_S k).2.2.1 = some (ty_S k) := by decide +kernel
theorem nm_S : ∀ a, a < 8 → ∀ b, b < 8 → a ≠ b → (F_S a).2.1 ≠ (F_S b).2.1 := by decide +kernel
def F_D : u_T := fun k => match k with
  | 0 => ("PaneScreen$Damage", "lefts", "[I", true)
  | 1 => ("PaneScreen$Damage", "tops", "[I", true)
  | 2 => ("PaneScreen$Damage", "rights", "[I", true)
  | 3 => ("PaneScreen$Damage", "bottoms", "[I", true)
  | _ => ("PaneScreen$Damage", "count", "I", false)
def ty_D : Nat → FieldType := fun k => match k with
  | 0 => .array .int
  | 1 => .array .int
  | 2 => .array .int
  | 3 => .array .int
  | _ => .int
theorem ty_D_ok : ∀ k, k < 5 → parseFieldDescriptor (F_D k).2.2.1 = some (ty_D k) := by decide +kernel
theorem nm_D : ∀ a, a < 5 → ∀ b, b < 5 → a ≠ b → (F_D a).2.1 ≠ (F_D b).2.1 := by decide +kernel
def F_E : u_T := fun k => match k with
  | 0 => ("PaneScreen$EventLine", "kinds", "[I", true)
  | 1 => ("PaneScreen$EventLine", "windows", "[I", true)
  | 2 => ("PaneScreen$EventLine", "ones", "[I", true)
  | 3 => ("PaneScreen$EventLine", "twos", "[I", true)
  | 4 => ("PaneScreen$EventLine", "count", "I", false)
  | 5 => ("PaneScreen$EventLine", "dropped", "I", false)
  | 6 => ("PaneScreen$EventLine", "takenKind", "I", false)
  | 7 => ("PaneScreen$EventLine", "takenWindow", "I", false)
  | 8 => ("PaneScreen$EventLine", "takenOne", "I", false)
  | _ => ("PaneScreen$EventLine", "takenTwo", "I", false)
def ty_E : Nat → FieldType := fun k => match k with
  | 0 => .array .int
  | 1 => .array .int
  | 2 => .array .int
  | 3 => .array .int
  | 4 => .int
  | 5 => .int
  | 6 => .int
  | 7 => .int
  | 8 => .int
  | _ => .int
theorem ty_E_ok : ∀ k, k < 10 → parseFieldDescriptor (F_E k).2.2.1 = some (ty_E k) := by decide +kernel
theorem nm_E : ∀ a, a < 10 → ∀ b, b < 10 → a ≠ b → (F_E a).2.1 ≠ (F_E b).2.1 := by decide +kernel
def F_O : u_T := fun k => match k with
  | 0 => ("PaneScreen$Order", "windows", "[I", true)
  | _ => ("PaneScreen$Order", "count", "I", false)
def ty_O : Nat → FieldType := fun k => match k with
  | 0 => .array .int
  | _ => .int
theorem ty_O_ok : ∀ k, k < 2 → parseFieldDescriptor (F_O k).2.2.1 = some (ty_O k) := by decide +kernel
theorem nm_O : ∀ a, a < 2 → ∀ b, b < 2 → a ≠ b → (F_O a).2.1 ≠ (F_O b).2.1 := by decide +kernel
def F_P : u_T := fun k => match k with
  | 0 => ("PaneScreen$Pane", "used", "Z", false)
  | 1 => ("PaneScreen$Pane", "x", "I", false)
  | 2 => ("PaneScreen$Pane", "y", "I", false)
  | 3 => ("PaneScreen$Pane", "width", "I", false)
  | 4 => ("PaneScreen$Pane", "height", "I", false)
  | 5 => ("PaneScreen$Pane", "start", "I", false)
  | 6 => ("PaneScreen$Pane", "penU", "I", false)
  | _ => ("PaneScreen$Pane", "penV", "I", false)
def ty_P : Nat → FieldType := fun k => match k with
  | 0 => .boolean
  | 1 => .int
  | 2 => .int
  | 3 => .int
  | 4 => .int
  | 5 => .int
  | 6 => .int
  | _ => .int
theorem ty_P_ok : ∀ k, k < 8 → parseFieldDescriptor (F_P k).2.2.1 = some (ty_P k) := by decide +kernel
theorem nm_P : ∀ a, a < 8 → ∀ b, b < 8 → a ≠ b → (F_P a).2.1 ≠ (F_P b).2.1 := by decide +kernel
def F_T : u_T := fun k => match k with
  | 0 => ("PaneScreen$Store", "colours", "[I", true)
  | 1 => ("PaneScreen$Store", "old", "[I", true)
  | _ => ("PaneScreen$Store", "taken", "[Z", true)
def ty_T : Nat → FieldType := fun k => match k with
  | 0 => .array .int
  | 1 => .array .int
  | _ => .array .boolean
theorem ty_T_ok : ∀ k, k < 3 → parseFieldDescriptor (F_T k).2.2.1 = some (ty_T k) := by decide +kernel
theorem nm_T : ∀ a, a < 3 → ∀ b, b < 3 → a ≠ b → (F_T a).2.1 ≠ (F_T b).2.1 := by decide +kernel
def F_M : u_T := fun k => match k with
  | 0 => ("PaneScreenModel", "code", "I", false)
  | 1 => ("PaneScreenModel", "colours", "[I", true)
  | 2 => ("PaneScreenModel", "open", "[Z", true)
  | 3 => ("PaneScreenModel", "px", "[I", true)
  | 4 => ("PaneScreenModel", "py", "[I", true)
  | 5 => ("PaneScreenModel", "width", "[I", true)
  | 6 => ("PaneScreenModel", "height", "[I", true)
  | 7 => ("PaneScreenModel", "penU", "[I", true)
  | 8 => ("PaneScreenModel", "penV", "[I", true)
  | 9 => ("PaneScreenModel", "start", "[I", true)
  | 10 => ("PaneScreenModel", "rank", "[I", true)
  | 11 => ("PaneScreenModel", "front", "I", false)
  | 12 => ("PaneScreenModel", "back", "I", false)
  | 13 => ("PaneScreenModel", "pictures", "[I", true)
  | 14 => ("PaneScreenModel", "copy", "[I", true)
  | 15 => ("PaneScreenModel", "focus", "I", false)
  | 16 => ("PaneScreenModel", "damaged", "I", false)
  | 17 => ("PaneScreenModel", "x0", "[I", true)
  | 18 => ("PaneScreenModel", "y0", "[I", true)
  | 19 => ("PaneScreenModel", "x1", "[I", true)
  | 20 => ("PaneScreenModel", "y1", "[I", true)
  | 21 => ("PaneScreenModel", "some", "Z", false)
  | 22 => ("PaneScreenModel", "lowU", "I", false)
  | 23 => ("PaneScreenModel", "lowV", "I", false)
  | 24 => ("PaneScreenModel", "highU", "I", false)
  | 25 => ("PaneScreenModel", "highV", "I", false)
  | 26 => ("PaneScreenModel", "events", "I", false)
  | 27 => ("PaneScreenModel", "kinds", "[I", true)
  | 28 => ("PaneScreenModel", "whose", "[I", true)
  | 29 => ("PaneScreenModel", "first", "[I", true)
  | 30 => ("PaneScreenModel", "second", "[I", true)
  | 31 => ("PaneScreenModel", "taken", "Z", false)
  | 32 => ("PaneScreenModel", "takenWindow", "I", false)
  | 33 => ("PaneScreenModel", "takenFirst", "I", false)
  | 34 => ("PaneScreenModel", "takenSecond", "I", false)
  | 35 => ("PaneScreenModel", "dropped", "I", false)
  | _ => ("PaneScreenModel", "painted", "I", false)
def ty_M : Nat → FieldType := fun k => match k with
  | 0 => .int
  | 1 => .array .int
  | 2 => .array .boolean
  | 3 => .array .int
  | 4 => .array .int
  | 5 => .array .int
  | 6 => .array .int
  | 7 => .array .int
  | 8 => .array .int
  | 9 => .array .int
  | 10 => .array .int
  | 11 => .int
  | 12 => .int
  | 13 => .array .int
  | 14 => .array .int
  | 15 => .int
  | 16 => .int
  | 17 => .array .int
  | 18 => .array .int
  | 19 => .array .int
  | 20 => .array .int
  | 21 => .boolean
  | 22 => .int
  | 23 => .int
  | 24 => .int
  | 25 => .int
  | 26 => .int
  | 27 => .array .int
  | 28 => .array .int
  | 29 => .array .int
  | 30 => .array .int
  | 31 => .boolean
  | 32 => .int
  | 33 => .int
  | 34 => .int
  | 35 => .int
  | _ => .int
theorem ty_M_ok : ∀ k, k < 37 → parseFieldDescriptor (F_M k).2.2.1 = some (ty_M k) := by decide +kernel
theorem nm_M : ∀ a, a < 37 → ∀ b, b < 37 → a ≠ b → (F_M a).2.1 ≠ (F_M b).2.1 := by decide +kernel
abbrev gCl : List vw_C := [("PaneScreen", F_S, 8), ("PaneScreen$Damage", F_D, 5), ("PaneScreen$EventLine", F_E, 10), ("PaneScreen$Order", F_O, 2), ("PaneScreen$Pane", F_P, 8), ("PaneScreen$Store", F_T, 3), ("PaneScreenModel", F_M, 37)]
abbrev b_S_init : ByteArray := prog_1_method_1_code
def y_S_init : MethodName := ⟨"PaneScreen", "<init>", "()V"⟩
abbrev b_S_open : ByteArray := prog_1_method_2_code
def y_S_open : MethodName := ⟨"PaneScreen", "open", "(IIII)I"⟩
abbrev b_S_close : ByteArray := prog_1_method_3_code
def y_S_close : MethodName := ⟨"PaneScreen", "close", "(I)V"⟩
abbrev b_S_move : ByteArray := prog_1_method_4_code
def y_S_move : MethodName := ⟨"PaneScreen", "move", "(III)V"⟩
abbrev b_S_raise : ByteArray := prog_1_method_5_code
def y_S_raise : MethodName := ⟨"PaneScreen", "raise", "(IZ)Z"⟩
abbrev b_S_plot : ByteArray := prog_1_method_6_code
def y_S_plot : MethodName := ⟨"PaneScreen", "plot", "(IIII)Z"⟩
abbrev b_S_fill : ByteArray := prog_1_method_7_code
def y_S_fill : MethodName := ⟨"PaneScreen", "fill", "(IIIII)I"⟩
abbrev b_S_pen : ByteArray := prog_1_method_8_code
def y_S_pen : MethodName := ⟨"PaneScreen", "pen", "(III)V"⟩
abbrev b_S_line : ByteArray := prog_1_method_9_code
def y_S_line : MethodName := ⟨"PaneScreen", "line", "(IIII)I"⟩
abbrev b_S_scroll : ByteArray := prog_1_method_10_code
def y_S_scroll : MethodName := ⟨"PaneScreen", "scroll", "(III)V"⟩
abbrev b_S_flush : ByteArray := prog_1_method_11_code
def y_S_flush : MethodName := ⟨"PaneScreen", "flush", "()I"⟩
abbrev b_S_screen : ByteArray := prog_1_method_12_code
def y_S_screen : MethodName := ⟨"PaneScreen", "screen", "(II)I"⟩
abbrev b_S_picture : ByteArray := prog_1_method_13_code
def y_S_picture : MethodName := ⟨"PaneScreen", "picture", "(III)I"⟩
abbrev b_S_at : ByteArray := prog_1_method_14_code
def y_S_at : MethodName := ⟨"PaneScreen", "at", "(II)I"⟩
abbrev b_S_visible : ByteArray := prog_1_method_15_code
def y_S_visible : MethodName := ⟨"PaneScreen", "visible", "(I)I"⟩
abbrev b_S_click : ByteArray := prog_1_method_16_code
def y_S_click : MethodName := ⟨"PaneScreen", "click", "(II)I"⟩
abbrev b_S_key : ByteArray := prog_1_method_17_code
def y_S_key : MethodName := ⟨"PaneScreen", "key", "(I)Z"⟩
abbrev b_S_next : ByteArray := prog_1_method_18_code
def y_S_next : MethodName := ⟨"PaneScreen", "next", "()I"⟩
abbrev b_S_event : ByteArray := prog_1_method_19_code
def y_S_event : MethodName := ⟨"PaneScreen", "event", "(I)I"⟩
abbrev b_S_figure : ByteArray := prog_1_method_20_code
def y_S_figure : MethodName := ⟨"PaneScreen", "figure", "(I)I"⟩
abbrev b_S_openPane : ByteArray := prog_1_method_21_code
def y_S_openPane : MethodName := ⟨"PaneScreen", "openPane", "(I)LPaneScreen$Pane;"⟩
abbrev b_S_requireNear : ByteArray := prog_1_method_22_code
def y_S_requireNear : MethodName := ⟨"PaneScreen", "requireNear", "(II)V"⟩
abbrev b_S_requireSize : ByteArray := prog_1_method_23_code
def y_S_requireSize : MethodName := ⟨"PaneScreen", "requireSize", "(II)V"⟩
abbrev b_S_requireExtent : ByteArray := prog_1_method_24_code
def y_S_requireExtent : MethodName := ⟨"PaneScreen", "requireExtent", "(I)V"⟩
abbrev b_S_requireColour : ByteArray := prog_1_method_25_code
def y_S_requireColour : MethodName := ⟨"PaneScreen", "requireColour", "(I)V"⟩
abbrev b_S_requireOnScreen : ByteArray := prog_1_method_26_code
def y_S_requireOnScreen : MethodName := ⟨"PaneScreen", "requireOnScreen", "(II)V"⟩
abbrev b_S_leastClosed : ByteArray := prog_1_method_27_code
def y_S_leastClosed : MethodName := ⟨"PaneScreen", "leastClosed", "()I"⟩
abbrev b_S_ownerOf : ByteArray := prog_1_method_28_code
def y_S_ownerOf : MethodName := ⟨"PaneScreen", "ownerOf", "(II)I"⟩
abbrev b_S_colourBelow : ByteArray := prog_1_method_29_code
def y_S_colourBelow : MethodName := ⟨"PaneScreen", "colourBelow", "(II)I"⟩
abbrev b_S_damageFrame : ByteArray := prog_1_method_30_code
def y_S_damageFrame : MethodName := ⟨"PaneScreen", "damageFrame", "(LPaneScreen$Pane;)V"⟩
abbrev b_S_damagePart : ByteArray := prog_1_method_31_code
def y_S_damagePart : MethodName := ⟨"PaneScreen", "damagePart", "(LPaneScreen$Pane;IIII)V"⟩
abbrev b_S_reorder : ByteArray := prog_1_method_32_code
def y_S_reorder : MethodName := ⟨"PaneScreen", "reorder", "(ILPaneScreen$Pane;Z)Z"⟩
abbrev b_S_giveFocus : ByteArray := prog_1_method_33_code
def y_S_giveFocus : MethodName := ⟨"PaneScreen", "giveFocus", "(I)V"⟩
abbrev b_S_drawFromPen : ByteArray := prog_1_method_34_code
def y_S_drawFromPen : MethodName := ⟨"PaneScreen", "drawFromPen", "(LPaneScreen$Pane;III)I"⟩
abbrev b_S_stepped : ByteArray := prog_1_method_35_code
def y_S_stepped : MethodName := ⟨"PaneScreen", "stepped", "(III)I"⟩
abbrev b_M_init : ByteArray := prog_8_method_1_code
def y_M_init : MethodName := ⟨"PaneScreenModel", "<init>", "()V"⟩
abbrev b_M_thrown : ByteArray := prog_8_method_2_code
def y_M_thrown : MethodName := ⟨"PaneScreenModel", "thrown", "()I"⟩
abbrev b_M_near : ByteArray := prog_8_method_3_code
def y_M_near : MethodName := ⟨"PaneScreenModel", "near", "(I)Z"⟩
abbrev b_M_isOpen : ByteArray := prog_8_method_4_code
def y_M_isOpen : MethodName := ⟨"PaneScreenModel", "isOpen", "(I)Z"⟩
abbrev b_M_onScreen : ByteArray := prog_8_method_5_code
def y_M_onScreen : MethodName := ⟨"PaneScreenModel", "onScreen", "(II)Z"⟩
abbrev b_M_inPicture : ByteArray := prog_8_method_6_code
def y_M_inPicture : MethodName := ⟨"PaneScreenModel", "inPicture", "(III)Z"⟩
abbrev b_M_damage : ByteArray := prog_8_method_7_code
def y_M_damage : MethodName := ⟨"PaneScreenModel", "damage", "(IIII)V"⟩
abbrev b_M_damageFrame : ByteArray := prog_8_method_8_code
def y_M_damageFrame : MethodName := ⟨"PaneScreenModel", "damageFrame", "(I)V"⟩
abbrev b_M_isDamaged : ByteArray := prog_8_method_9_code
def y_M_isDamaged : MethodName := ⟨"PaneScreenModel", "isDamaged", "(II)Z"⟩
abbrev b_M_paint : ByteArray := prog_8_method_10_code
def y_M_paint : MethodName := ⟨"PaneScreenModel", "paint", "(IIII)Z"⟩
abbrev b_M_damageChanged : ByteArray := prog_8_method_11_code
def y_M_damageChanged : MethodName := ⟨"PaneScreenModel", "damageChanged", "(I)V"⟩
abbrev b_M_isFree : ByteArray := prog_8_method_12_code
def y_M_isFree : MethodName := ⟨"PaneScreenModel", "isFree", "(I)Z"⟩
abbrev b_M_stretch : ByteArray := prog_8_method_13_code
def y_M_stretch : MethodName := ⟨"PaneScreenModel", "stretch", "(I)I"⟩
abbrev b_M_firstClosed : ByteArray := prog_8_method_14_code
def y_M_firstClosed : MethodName := ⟨"PaneScreenModel", "firstClosed", "()I"⟩
abbrev b_M_open : ByteArray := prog_8_method_15_code
def y_M_open : MethodName := ⟨"PaneScreenModel", "open", "(IIII)I"⟩
abbrev b_M_foremost : ByteArray := prog_8_method_16_code
def y_M_foremost : MethodName := ⟨"PaneScreenModel", "foremost", "()I"⟩
abbrev b_M_close : ByteArray := prog_8_method_17_code
def y_M_close : MethodName := ⟨"PaneScreenModel", "close", "(I)V"⟩
abbrev b_M_move : ByteArray := prog_8_method_18_code
def y_M_move : MethodName := ⟨"PaneScreenModel", "move", "(III)V"⟩
abbrev b_M_lift : ByteArray := prog_8_method_19_code
def y_M_lift : MethodName := ⟨"PaneScreenModel", "lift", "(IZ)Z"⟩
abbrev b_M_raise : ByteArray := prog_8_method_20_code
def y_M_raise : MethodName := ⟨"PaneScreenModel", "raise", "(IZ)Z"⟩
abbrev b_M_colour : ByteArray := prog_8_method_21_code
def y_M_colour : MethodName := ⟨"PaneScreenModel", "colour", "(I)Z"⟩
abbrev b_M_plot : ByteArray := prog_8_method_22_code
def y_M_plot : MethodName := ⟨"PaneScreenModel", "plot", "(IIII)Z"⟩
abbrev b_M_fill : ByteArray := prog_8_method_23_code
def y_M_fill : MethodName := ⟨"PaneScreenModel", "fill", "(IIIII)I"⟩
abbrev b_M_pen : ByteArray := prog_8_method_24_code
def y_M_pen : MethodName := ⟨"PaneScreenModel", "pen", "(III)V"⟩
abbrev b_M_div : ByteArray := prog_8_method_25_code
def y_M_div : MethodName := ⟨"PaneScreenModel", "div", "(II)I"⟩
abbrev b_M_line : ByteArray := prog_8_method_26_code
def y_M_line : MethodName := ⟨"PaneScreenModel", "line", "(IIII)I"⟩
abbrev b_M_scroll : ByteArray := prog_8_method_27_code
def y_M_scroll : MethodName := ⟨"PaneScreenModel", "scroll", "(III)V"⟩
abbrev b_M_owner : ByteArray := prog_8_method_28_code
def y_M_owner : MethodName := ⟨"PaneScreenModel", "owner", "(II)I"⟩
abbrev b_M_flush : ByteArray := prog_8_method_29_code
def y_M_flush : MethodName := ⟨"PaneScreenModel", "flush", "()I"⟩
abbrev b_M_screen : ByteArray := prog_8_method_30_code
def y_M_screen : MethodName := ⟨"PaneScreenModel", "screen", "(II)I"⟩
abbrev b_M_picture : ByteArray := prog_8_method_31_code
def y_M_picture : MethodName := ⟨"PaneScreenModel", "picture", "(III)I"⟩
abbrev b_M_at : ByteArray := prog_8_method_32_code
def y_M_at : MethodName := ⟨"PaneScreenModel", "at", "(II)I"⟩
abbrev b_M_visible : ByteArray := prog_8_method_33_code
def y_M_visible : MethodName := ⟨"PaneScreenModel", "visible", "(I)I"⟩
abbrev b_M_moveEvent : ByteArray := prog_8_method_34_code
def y_M_moveEvent : MethodName := ⟨"PaneScreenModel", "moveEvent", "(II)V"⟩
abbrev b_M_tell : ByteArray := prog_8_method_35_code
def y_M_tell : MethodName := ⟨"PaneScreenModel", "tell", "(IIII)V"⟩
abbrev b_M_click : ByteArray := prog_8_method_36_code
def y_M_click : MethodName := ⟨"PaneScreenModel", "click", "(II)I"⟩
abbrev b_M_key : ByteArray := prog_8_method_37_code
def y_M_key : MethodName := ⟨"PaneScreenModel", "key", "(I)Z"⟩
abbrev b_M_next : ByteArray := prog_8_method_38_code
def y_M_next : MethodName := ⟨"PaneScreenModel", "next", "()I"⟩
abbrev b_M_event : ByteArray := prog_8_method_39_code
def y_M_event : MethodName := ⟨"PaneScreenModel", "event", "(I)I"⟩
abbrev b_M_freeCells : ByteArray := prog_8_method_40_code
def y_M_freeCells : MethodName := ⟨"PaneScreenModel", "freeCells", "(Z)I"⟩
abbrev b_M_openOnes : ByteArray := prog_8_method_41_code
def y_M_openOnes : MethodName := ⟨"PaneScreenModel", "openOnes", "()I"⟩
abbrev b_M_figure : ByteArray := prog_8_method_42_code
def y_M_figure : MethodName := ⟨"PaneScreenModel", "figure", "(I)I"⟩
abbrev b_D_init : ByteArray := prog_2_method_1_code
def y_D_init : MethodName := ⟨"PaneScreen$Damage", "<init>", "()V"⟩
abbrev b_D_add : ByteArray := prog_2_method_2_code
def y_D_add : MethodName := ⟨"PaneScreen$Damage", "add", "(IIII)V"⟩
abbrev b_D_holds : ByteArray := prog_2_method_3_code
def y_D_holds : MethodName := ⟨"PaneScreen$Damage", "holds", "(II)Z"⟩
abbrev b_D_forget : ByteArray := prog_2_method_4_code
def y_D_forget : MethodName := ⟨"PaneScreen$Damage", "forget", "()V"⟩
abbrev b_D_put : ByteArray := prog_2_method_5_code
def y_D_put : MethodName := ⟨"PaneScreen$Damage", "put", "(IIIII)V"⟩
abbrev b_D_joinAllWith : ByteArray := prog_2_method_6_code
def y_D_joinAllWith : MethodName := ⟨"PaneScreen$Damage", "joinAllWith", "(IIII)V"⟩
abbrev b_E_init : ByteArray := prog_3_method_1_code
def y_E_init : MethodName := ⟨"PaneScreen$EventLine", "<init>", "()V"⟩
abbrev b_E_tell : ByteArray := prog_3_method_2_code
def y_E_tell : MethodName := ⟨"PaneScreen$EventLine", "tell", "(IIII)V"⟩
abbrev b_E_takeFirst : ByteArray := prog_3_method_3_code
def y_E_takeFirst : MethodName := ⟨"PaneScreen$EventLine", "takeFirst", "()V"⟩
abbrev b_E_removeAllOf : ByteArray := prog_3_method_4_code
def y_E_removeAllOf : MethodName := ⟨"PaneScreen$EventLine", "removeAllOf", "(I)V"⟩
abbrev b_E_copy : ByteArray := prog_3_method_5_code
def y_E_copy : MethodName := ⟨"PaneScreen$EventLine", "copy", "(II)V"⟩
abbrev b_O_init : ByteArray := prog_4_method_1_code
def y_O_init : MethodName := ⟨"PaneScreen$Order", "<init>", "()V"⟩
abbrev b_O_first : ByteArray := prog_4_method_2_code
def y_O_first : MethodName := ⟨"PaneScreen$Order", "first", "()I"⟩
abbrev b_O_last : ByteArray := prog_4_method_3_code
def y_O_last : MethodName := ⟨"PaneScreen$Order", "last", "()I"⟩
abbrev b_O_addInFront : ByteArray := prog_4_method_4_code
def y_O_addInFront : MethodName := ⟨"PaneScreen$Order", "addInFront", "(I)V"⟩
abbrev b_O_addBehind : ByteArray := prog_4_method_5_code
def y_O_addBehind : MethodName := ⟨"PaneScreen$Order", "addBehind", "(I)V"⟩
abbrev b_O_remove : ByteArray := prog_4_method_6_code
def y_O_remove : MethodName := ⟨"PaneScreen$Order", "remove", "(I)V"⟩
abbrev b_P_init : ByteArray := prog_5_method_1_code
def y_P_init : MethodName := ⟨"PaneScreen$Pane", "<init>", "()V"⟩
abbrev b_P_begin : ByteArray := prog_5_method_2_code
def y_P_begin : MethodName := ⟨"PaneScreen$Pane", "begin", "(III)V"⟩
abbrev b_P_end : ByteArray := prog_5_method_3_code
def y_P_end : MethodName := ⟨"PaneScreen$Pane", "end", "()V"⟩
abbrev b_P_place : ByteArray := prog_5_method_4_code
def y_P_place : MethodName := ⟨"PaneScreen$Pane", "place", "(II)V"⟩
abbrev b_P_putPen : ByteArray := prog_5_method_5_code
def y_P_putPen : MethodName := ⟨"PaneScreen$Pane", "putPen", "(II)V"⟩
abbrev b_P_has : ByteArray := prog_5_method_6_code
def y_P_has : MethodName := ⟨"PaneScreen$Pane", "has", "(II)Z"⟩
abbrev b_P_covers : ByteArray := prog_5_method_7_code
def y_P_covers : MethodName := ⟨"PaneScreen$Pane", "covers", "(II)Z"⟩
abbrev b_P_cell : ByteArray := prog_5_method_8_code
def y_P_cell : MethodName := ⟨"PaneScreen$Pane", "cell", "(II)I"⟩
abbrev b_T_init : ByteArray := prog_6_method_1_code
def y_T_init : MethodName := ⟨"PaneScreen$Store", "<init>", "()V"⟩
abbrev b_T_firstFree : ByteArray := prog_6_method_2_code
def y_T_firstFree : MethodName := ⟨"PaneScreen$Store", "firstFree", "(I)I"⟩
abbrev b_T_take : ByteArray := prog_6_method_3_code
def y_T_take : MethodName := ⟨"PaneScreen$Store", "take", "(II)V"⟩
abbrev b_T_release : ByteArray := prog_6_method_4_code
def y_T_release : MethodName := ⟨"PaneScreen$Store", "release", "(II)V"⟩
abbrev b_T_keepOld : ByteArray := prog_6_method_5_code
def y_T_keepOld : MethodName := ⟨"PaneScreen$Store", "keepOld", "()V"⟩
abbrev b_T_freeCells : ByteArray := prog_6_method_6_code
def y_T_freeCells : MethodName := ⟨"PaneScreen$Store", "freeCells", "()I"⟩
abbrev b_T_longestFree : ByteArray := prog_6_method_7_code
def y_T_longestFree : MethodName := ⟨"PaneScreen$Store", "longestFree", "()I"⟩
abbrev b_L_open : ByteArray := method_3_code
def y_L_open : MethodName := ⟨"PaneScreenLaw", "open", "(LPaneScreen;IIII[J)I"⟩
abbrev b_L_close : ByteArray := method_4_code
def y_L_close : MethodName := ⟨"PaneScreenLaw", "close", "(LPaneScreen;I)I"⟩
abbrev b_L_move : ByteArray := method_5_code
def y_L_move : MethodName := ⟨"PaneScreenLaw", "move", "(LPaneScreen;III)I"⟩
abbrev b_L_raise : ByteArray := method_6_code
def y_L_raise : MethodName := ⟨"PaneScreenLaw", "raise", "(LPaneScreen;IZ[J)I"⟩
abbrev b_L_plot : ByteArray := method_7_code
def y_L_plot : MethodName := ⟨"PaneScreenLaw", "plot", "(LPaneScreen;IIII[J)I"⟩
abbrev b_L_fill : ByteArray := method_8_code
def y_L_fill : MethodName := ⟨"PaneScreenLaw", "fill", "(LPaneScreen;IIIII[J)I"⟩
abbrev b_L_pen : ByteArray := method_9_code
def y_L_pen : MethodName := ⟨"PaneScreenLaw", "pen", "(LPaneScreen;III)I"⟩
abbrev b_L_line : ByteArray := method_10_code
def y_L_line : MethodName := ⟨"PaneScreenLaw", "line", "(LPaneScreen;IIII[J)I"⟩
abbrev b_L_scroll : ByteArray := method_11_code
def y_L_scroll : MethodName := ⟨"PaneScreenLaw", "scroll", "(LPaneScreen;III)I"⟩
abbrev b_L_screen : ByteArray := method_12_code
def y_L_screen : MethodName := ⟨"PaneScreenLaw", "screen", "(LPaneScreen;II[J)I"⟩
abbrev b_L_picture : ByteArray := method_13_code
def y_L_picture : MethodName := ⟨"PaneScreenLaw", "picture", "(LPaneScreen;III[J)I"⟩
abbrev b_L_at : ByteArray := method_14_code
def y_L_at : MethodName := ⟨"PaneScreenLaw", "at", "(LPaneScreen;II[J)I"⟩
abbrev b_L_visible : ByteArray := method_15_code
def y_L_visible : MethodName := ⟨"PaneScreenLaw", "visible", "(LPaneScreen;I[J)I"⟩
abbrev b_L_click : ByteArray := method_16_code
def y_L_click : MethodName := ⟨"PaneScreenLaw", "click", "(LPaneScreen;II[J)I"⟩
abbrev b_L_next : ByteArray := method_17_code
def y_L_next : MethodName := ⟨"PaneScreenLaw", "next", "(LPaneScreen;[J)I"⟩
abbrev b_L_event : ByteArray := method_18_code
def y_L_event : MethodName := ⟨"PaneScreenLaw", "event", "(LPaneScreen;I[J)I"⟩
abbrev b_L_figure : ByteArray := method_19_code
def y_L_figure : MethodName := ⟨"PaneScreenLaw", "figure", "(LPaneScreen;I[J)I"⟩
abbrev b_L_law : ByteArray := code
def y_L_law : MethodName := ⟨"PaneScreenLaw", "law", "([I)Z"⟩
abbrev b_J_floorDiv : ByteArray := prog_13_method_47_code
def y_J_floorDiv : MethodName := ⟨"java/lang/Math", "floorDiv", "(II)I"⟩
theorem k_bipush_m50 : (Int8.ofInt (-50)).toInt32 = (-50) := by decide
theorem k_bipush_6 : (Int8.ofInt 6).toInt32 = 6 := by decide
theorem k_bipush_7 : (Int8.ofInt 7).toInt32 = 7 := by decide
theorem k_bipush_8 : (Int8.ofInt 8).toInt32 = 8 := by decide
theorem k_bipush_12 : (Int8.ofInt 12).toInt32 = 12 := by decide
theorem k_bipush_15 : (Int8.ofInt 15).toInt32 = 15 := by decide
theorem k_bipush_16 : (Int8.ofInt 16).toInt32 = 16 := by decide
theorem k_bipush_23 : (Int8.ofInt 23).toInt32 = 23 := by decide
theorem k_bipush_24 : (Int8.ofInt 24).toInt32 = 24 := by decide
theorem k_bipush_32 : (Int8.ofInt 32).toInt32 = 32 := by decide
theorem k_bipush_50 : (Int8.ofInt 50).toInt32 = 50 := by decide
theorem k_iconst_m1 : Int32.ofInt (-1) = (-1) := by decide
theorem k_iconst_0 : Int32.ofInt 0 = 0 := by decide
theorem k_iconst_1 : Int32.ofInt 1 = 1 := by decide
theorem k_iconst_2 : Int32.ofInt 2 = 2 := by decide
theorem k_iconst_3 : Int32.ofInt 3 = 3 := by decide
theorem k_iconst_4 : Int32.ofInt 4 = 4 := by decide
theorem k_sipush_255 : (Int16.ofInt 255).toInt32 = 255 := by decide
theorem k_sipush_384 : (Int16.ofInt 384).toInt32 = 384 := by decide
theorem k_sipush_400 : (Int16.ofInt 400).toInt32 = 400 := by decide
theorem k_sipush_1023 : (Int16.ofInt 1023).toInt32 = 1023 := by decide
