def RX0 : String := "PaneLayers$Directions"
def TX0 : u_T := fun k => match k with
  | 0 => ("PaneLayers$Directions", "partner", "[I", true)
  | 1 => ("PaneLayers$Directions", "baseAt", "[I", true)
  | 2 => ("PaneLayers$Directions", "chain", "[I", true)
  | 3 => ("PaneLayers$Directions", "signs", "[I", true)
  | 4 => ("PaneLayers$Directions", "ways", "[I", true)
  | 5 => ("PaneLayers$Directions", "closer", "[I", true)
  | 6 => ("PaneLayers$Directions", "opened", "[I", true)
  | 7 => ("PaneLayers$Directions", "chained", "I", false)
  | 8 => ("PaneLayers$Directions", "base", "I", false)
  | _ => ("PaneLayers$Directions", "size", "I", false)
def tyX0 : Nat → FieldType := fun k => match k with
  | 0 => .array .int
  | 1 => .array .int
  | 2 => .array .int
  | 3 => .array .int
  | 4 => .array .int
  | 5 => .array .int
  | 6 => .array .int
  | 7 => .int
  | 8 => .int
  | _ => .int
abbrev wsX00 : List Cond := u_ws RX0 TX0 10
theorem nmX0 : ∀ a, a < 10 → ∀ b, b < 10 → a ≠ b → (TX0 a).2.1 ≠ (TX0 b).2.1 := by decide +kernel
theorem tyX0_ok : ∀ k, k < 10 → parseFieldDescriptor (TX0 k).2.2.1 = some (tyX0 k) := by decide +kernel
abbrev cX0_init : ByteArray := prog_2_method_1_code
def yX0_init : MethodName := ⟨RX0, "<init>", "()V"⟩
abbrev cX0_find : ByteArray := prog_2_method_2_code
def yX0_find : MethodName := ⟨RX0, "find", "(LPaneLayers$Layout;)V"⟩
abbrev cX0_endOfInside : ByteArray := prog_2_method_3_code
def yX0_endOfInside : MethodName := ⟨RX0, "endOfInside", "(I)I"⟩
abbrev cX0_leastBase : ByteArray := prog_2_method_4_code
def yX0_leastBase : MethodName := ⟨RX0, "leastBase", "(I)I"⟩
abbrev cX0_leastAbove : ByteArray := prog_2_method_5_code
def yX0_leastAbove : MethodName := ⟨RX0, "leastAbove", "(II)I"⟩
abbrev cX0_matchIsolating : ByteArray := prog_2_method_6_code
def yX0_matchIsolating : MethodName := ⟨RX0, "matchIsolating", "(LPaneLayers$Layout;)V"⟩
abbrev cX0_setPartner : ByteArray := prog_2_method_7_code
def yX0_setPartner : MethodName := ⟨RX0, "setPartner", "(II)V"⟩
abbrev cX0_chainUp : ByteArray := prog_2_method_8_code
def yX0_chainUp : MethodName := ⟨RX0, "chainUp", "(LPaneLayers$Layout;II)V"⟩
abbrev cX0_wayOf : ByteArray := prog_2_method_9_code
def yX0_wayOf : MethodName := ⟨RX0, "wayOf", "(I)I"⟩
abbrev cX0_firstWay : ByteArray := prog_2_method_10_code
def yX0_firstWay : MethodName := ⟨RX0, "firstWay", "()I"⟩
abbrev cX0_setLevels : ByteArray := prog_2_method_11_code
def yX0_setLevels : MethodName := ⟨RX0, "setLevels", "(LPaneLayers$Layout;)V"⟩
abbrev cX0_isDigit : ByteArray := prog_2_method_12_code
def yX0_isDigit : MethodName := ⟨RX0, "isDigit", "(I)Z"⟩
abbrev cX0_turnDigits : ByteArray := prog_2_method_13_code
def yX0_turnDigits : MethodName := ⟨RX0, "turnDigits", "()V"⟩
abbrev cX0_pairBrackets : ByteArray := prog_2_method_14_code
def yX0_pairBrackets : MethodName := ⟨RX0, "pairBrackets", "()V"⟩
abbrev cX0_lastOpened : ByteArray := prog_2_method_15_code
def yX0_lastOpened : MethodName := ⟨RX0, "lastOpened", "(II)I"⟩
abbrev cX0_setCloser : ByteArray := prog_2_method_16_code
def yX0_setCloser : MethodName := ⟨RX0, "setCloser", "(II)V"⟩
abbrev cX0_turnPairs : ByteArray := prog_2_method_17_code
def yX0_turnPairs : MethodName := ⟨RX0, "turnPairs", "()V"⟩
abbrev cX0_wayOfPair : ByteArray := prog_2_method_18_code
def yX0_wayOfPair : MethodName := ⟨RX0, "wayOfPair", "(II)I"⟩
abbrev cX0_turnNeutral : ByteArray := prog_2_method_19_code
def yX0_turnNeutral : MethodName := ⟨RX0, "turnNeutral", "()V"⟩
abbrev cX0_endOfNeutral : ByteArray := prog_2_method_20_code
def yX0_endOfNeutral : MethodName := ⟨RX0, "endOfNeutral", "(I)I"⟩
abbrev cX0_fillWays : ByteArray := prog_2_method_21_code
def yX0_fillWays : MethodName := ⟨RX0, "fillWays", "(III)V"⟩
def RX1 : String := "PaneLayers$Fold"
def TX1 : u_T := fun k => match k with
  | 0 => ("PaneLayers$Fold", "first", "I", false)
  | 1 => ("PaneLayers$Fold", "last", "I", false)
  | _ => ("PaneLayers$Fold", "isClosed", "Z", false)
def tyX1 : Nat → FieldType := fun k => match k with
  | 0 => .int
  | 1 => .int
  | _ => .boolean
abbrev wsX10 : List Cond := u_ws RX1 TX1 3
theorem nmX1 : ∀ a, a < 3 → ∀ b, b < 3 → a ≠ b → (TX1 a).2.1 ≠ (TX1 b).2.1 := by decide +kernel
theorem tyX1_ok : ∀ k, k < 3 → parseFieldDescriptor (TX1 k).2.2.1 = some (tyX1 k) := by decide +kernel
abbrev cX1_init : ByteArray := prog_3_method_1_code
def yX1_init : MethodName := ⟨RX1, "<init>", "(II)V"⟩
abbrev cX1_hides : ByteArray := prog_3_method_2_code
def yX1_hides : MethodName := ⟨RX1, "hides", "(I)Z"⟩
abbrev cX1_lineBroke : ByteArray := prog_3_method_3_code
def yX1_lineBroke : MethodName := ⟨RX1, "lineBroke", "(I)V"⟩
abbrev cX1_linesJoined : ByteArray := prog_3_method_4_code
def yX1_linesJoined : MethodName := ⟨RX1, "linesJoined", "(I)V"⟩
def RX2 : String := "PaneLayers$Layers"
def TX2 : u_T := fun k => match k with
  | 0 => ("PaneLayers$Layers", "spans", "Ljava/util/ArrayList;", true)
  | 1 => ("PaneLayers$Layers", "virtuals", "Ljava/util/ArrayList;", true)
  | _ => ("PaneLayers$Layers", "folds", "Ljava/util/ArrayList;", true)
def tyX2 : Nat → FieldType := fun k => match k with
  | 0 => .object "java/util/ArrayList"
  | 1 => .object "java/util/ArrayList"
  | _ => .object "java/util/ArrayList"
abbrev wsX20 : List Cond := u_ws RX2 TX2 3
theorem nmX2 : ∀ a, a < 3 → ∀ b, b < 3 → a ≠ b → (TX2 a).2.1 ≠ (TX2 b).2.1 := by decide +kernel
theorem tyX2_ok : ∀ k, k < 3 → parseFieldDescriptor (TX2 k).2.2.1 = some (tyX2 k) := by decide +kernel
abbrev cX2_init : ByteArray := prog_4_method_1_code
def yX2_init : MethodName := ⟨RX2, "<init>", "()V"⟩
abbrev cX2_isHidden : ByteArray := prog_4_method_2_code
def yX2_isHidden : MethodName := ⟨RX2, "isHidden", "(II)Z"⟩
abbrev cX2_isVisible : ByteArray := prog_4_method_3_code
def yX2_isVisible : MethodName := ⟨RX2, "isVisible", "(I)Z"⟩
abbrev cX2_closedEnd : ByteArray := prog_4_method_4_code
def yX2_closedEnd : MethodName := ⟨RX2, "closedEnd", "(I)I"⟩
abbrev cX2_signCame : ByteArray := prog_4_method_5_code
def yX2_signCame : MethodName := ⟨RX2, "signCame", "(II)V"⟩
abbrev cX2_signsWent : ByteArray := prog_4_method_6_code
def yX2_signsWent : MethodName := ⟨RX2, "signsWent", "(III)V"⟩
abbrev cX2_lineBroke : ByteArray := prog_4_method_7_code
def yX2_lineBroke : MethodName := ⟨RX2, "lineBroke", "(II)V"⟩
abbrev cX2_linesJoined : ByteArray := prog_4_method_8_code
def yX2_linesJoined : MethodName := ⟨RX2, "linesJoined", "(II)V"⟩
def RX3 : String := "PaneLayers$Layout"
def TX3 : u_T := fun k => match k with
  | 0 => ("PaneLayers$Layout", "sign", "[I", true)
  | 1 => ("PaneLayers$Layout", "many", "[I", true)
  | 2 => ("PaneLayers$Layout", "begin", "[I", true)
  | 3 => ("PaneLayers$Layout", "told", "[I", true)
  | 4 => ("PaneLayers$Layout", "wide", "[I", true)
  | 5 => ("PaneLayers$Layout", "column", "[I", true)
  | 6 => ("PaneLayers$Layout", "level", "[I", true)
  | 7 => ("PaneLayers$Layout", "screen", "[I", true)
  | 8 => ("PaneLayers$Layout", "rowStart", "[I", true)
  | 9 => ("PaneLayers$Layout", "size", "I", false)
  | 10 => ("PaneLayers$Layout", "rowCount", "I", false)
  | 11 => ("PaneLayers$Layout", "base", "I", false)
  | 12 => ("PaneLayers$Layout", "length", "I", false)
  | _ => ("PaneLayers$Layout", "indent", "I", false)
def tyX3 : Nat → FieldType := fun k => match k with
  | 0 => .array .int
  | 1 => .array .int
  | 2 => .array .int
  | 3 => .array .int
  | 4 => .array .int
  | 5 => .array .int
  | 6 => .array .int
  | 7 => .array .int
  | 8 => .array .int
  | 9 => .int
  | 10 => .int
  | 11 => .int
  | 12 => .int
  | _ => .int
abbrev wsX30 : List Cond := u_ws RX3 TX3 14
theorem nmX3 : ∀ a, a < 14 → ∀ b, b < 14 → a ≠ b → (TX3 a).2.1 ≠ (TX3 b).2.1 := by decide +kernel
theorem tyX3_ok : ∀ k, k < 14 → parseFieldDescriptor (TX3 k).2.2.1 = some (tyX3 k) := by decide +kernel
abbrev cX3_init : ByteArray := prog_5_method_1_code
def yX3_init : MethodName := ⟨RX3, "<init>", "()V"⟩
abbrev cX3_collect : ByteArray := prog_5_method_2_code
def yX3_collect : MethodName := ⟨RX3, "collect", "(LPaneLayers$Line;LPaneLayers$Layers;I)V"⟩
abbrev cX3_addVirtuals : ByteArray := prog_5_method_3_code
def yX3_addVirtuals : MethodName := ⟨RX3, "addVirtuals", "(LPaneLayers$Layers;III)V"⟩
abbrev cX3_add : ByteArray := prog_5_method_4_code
def yX3_add : MethodName := ⟨RX3, "add", "(IIII)V"⟩
abbrev cX3_wrap : ByteArray := prog_5_method_5_code
def yX3_wrap : MethodName := ⟨RX3, "wrap", "(II)V"⟩
abbrev cX3_layRow : ByteArray := prog_5_method_6_code
def yX3_layRow : MethodName := ⟨RX3, "layRow", "(III)I"⟩
abbrev cX3_widthAt : ByteArray := prog_5_method_7_code
def yX3_widthAt : MethodName := ⟨RX3, "widthAt", "(II)I"⟩
abbrev cX3_firstColumn : ByteArray := prog_5_method_8_code
def yX3_firstColumn : MethodName := ⟨RX3, "firstColumn", "(I)I"⟩
abbrev cX3_startOf : ByteArray := prog_5_method_9_code
def yX3_startOf : MethodName := ⟨RX3, "startOf", "(I)I"⟩
abbrev cX3_cellsIn : ByteArray := prog_5_method_10_code
def yX3_cellsIn : MethodName := ⟨RX3, "cellsIn", "(I)I"⟩
abbrev cX3_turnRows : ByteArray := prog_5_method_11_code
def yX3_turnRows : MethodName := ⟨RX3, "turnRows", "()V"⟩
abbrev cX3_levelEnd : ByteArray := prog_5_method_12_code
def yX3_levelEnd : MethodName := ⟨RX3, "levelEnd", "(II)V"⟩
abbrev cX3_orderRow : ByteArray := prog_5_method_13_code
def yX3_orderRow : MethodName := ⟨RX3, "orderRow", "(II)V"⟩
abbrev cX3_levelOnScreen : ByteArray := prog_5_method_14_code
def yX3_levelOnScreen : MethodName := ⟨RX3, "levelOnScreen", "(I)I"⟩
abbrev cX3_turnRound : ByteArray := prog_5_method_15_code
def yX3_turnRound : MethodName := ⟨RX3, "turnRound", "(II)V"⟩
abbrev cX3_placeRow : ByteArray := prog_5_method_16_code
def yX3_placeRow : MethodName := ⟨RX3, "placeRow", "(III)V"⟩
abbrev cX3_onScreen : ByteArray := prog_5_method_17_code
def yX3_onScreen : MethodName := ⟨RX3, "onScreen", "(II)I"⟩
abbrev cX3_tell : ByteArray := prog_5_method_18_code
def yX3_tell : MethodName := ⟨RX3, "tell", "(II)I"⟩
abbrev cX3_edgeAt : ByteArray := prog_5_method_19_code
def yX3_edgeAt : MethodName := ⟨RX3, "edgeAt", "(II)I"⟩
abbrev cX3_rowOfEdge : ByteArray := prog_5_method_20_code
def yX3_rowOfEdge : MethodName := ⟨RX3, "rowOfEdge", "(I)I"⟩
abbrev cX3_columnOfEdge : ByteArray := prog_5_method_21_code
def yX3_columnOfEdge : MethodName := ⟨RX3, "columnOfEdge", "(I)I"⟩
abbrev cX3_placeUp : ByteArray := prog_5_method_22_code
def yX3_placeUp : MethodName := ⟨RX3, "placeUp", "(II)I"⟩
abbrev cX3_firstPlace : ByteArray := prog_5_method_23_code
def yX3_firstPlace : MethodName := ⟨RX3, "firstPlace", "(I)I"⟩
abbrev cX3_lastPlace : ByteArray := prog_5_method_24_code
def yX3_lastPlace : MethodName := ⟨RX3, "lastPlace", "(I)I"⟩
abbrev cX3_shownAhead : ByteArray := prog_5_method_25_code
def yX3_shownAhead : MethodName := ⟨RX3, "shownAhead", "(I)I"⟩
abbrev cX3_shownBehind : ByteArray := prog_5_method_26_code
def yX3_shownBehind : MethodName := ⟨RX3, "shownBehind", "(I)I"⟩
def RX4 : String := "PaneLayers$Line"
def TX4 : u_T := fun k => match k with
  | 0 => ("PaneLayers$Line", "signs", "[I", true)
  | 1 => ("PaneLayers$Line", "size", "I", false)
  | _ => ("PaneLayers$Line", "isMarked", "Z", false)
def tyX4 : Nat → FieldType := fun k => match k with
  | 0 => .array .int
  | 1 => .int
  | _ => .boolean
abbrev wsX40 : List Cond := u_ws RX4 TX4 3
theorem nmX4 : ∀ a, a < 3 → ∀ b, b < 3 → a ≠ b → (TX4 a).2.1 ≠ (TX4 b).2.1 := by decide +kernel
theorem tyX4_ok : ∀ k, k < 3 → parseFieldDescriptor (TX4 k).2.2.1 = some (tyX4 k) := by decide +kernel
abbrev cX4_init : ByteArray := prog_6_method_1_code
def yX4_init : MethodName := ⟨RX4, "<init>", "()V"⟩
abbrev cX4_signAt : ByteArray := prog_6_method_2_code
def yX4_signAt : MethodName := ⟨RX4, "signAt", "(I)I"⟩
abbrev cX4_hasClusterAt : ByteArray := prog_6_method_3_code
def yX4_hasClusterAt : MethodName := ⟨RX4, "hasClusterAt", "(I)Z"⟩
abbrev cX4_clusterSize : ByteArray := prog_6_method_4_code
def yX4_clusterSize : MethodName := ⟨RX4, "clusterSize", "(I)I"⟩
abbrev cX4_putIn : ByteArray := prog_6_method_5_code
def yX4_putIn : MethodName := ⟨RX4, "putIn", "(II)V"⟩
abbrev cX4_takeOut : ByteArray := prog_6_method_6_code
def yX4_takeOut : MethodName := ⟨RX4, "takeOut", "(II)V"⟩
abbrev cX4_takeAllFrom : ByteArray := prog_6_method_7_code
def yX4_takeAllFrom : MethodName := ⟨RX4, "takeAllFrom", "(LPaneLayers$Line;I)V"⟩
def RX5 : String := "PaneLayers$Pane"
def TX5 : u_T := fun k => match k with
  | 0 => ("PaneLayers$Pane", "text", "LPaneLayers$Text;", true)
  | 1 => ("PaneLayers$Pane", "layers", "LPaneLayers$Layers;", true)
  | 2 => ("PaneLayers$Pane", "layout", "LPaneLayers$Layout;", true)
  | 3 => ("PaneLayers$Pane", "directions", "LPaneLayers$Directions;", true)
  | 4 => ("PaneLayers$Pane", "cursor", "LPaneLayers$Place;", true)
  | 5 => ("PaneLayers$Pane", "top", "LPaneLayers$Place;", true)
  | 6 => ("PaneLayers$Pane", "goal", "LPaneLayers$Place;", true)
  | 7 => ("PaneLayers$Pane", "wanted", "I", false)
  | 8 => ("PaneLayers$Pane", "width", "I", false)
  | 9 => ("PaneLayers$Pane", "indent", "I", false)
  | 10 => ("PaneLayers$Pane", "margin", "I", false)
  | 11 => ("PaneLayers$Pane", "rowCounts", "[I", true)
  | 12 => ("PaneLayers$Pane", "firstRows", "[I", true)
  | 13 => ("PaneLayers$Pane", "allRows", "I", false)
  | 14 => ("PaneLayers$Pane", "isCounted", "Z", false)
  | 15 => ("PaneLayers$Pane", "laidLine", "I", false)
  | 16 => ("PaneLayers$Pane", "isTurned", "Z", false)
  | 17 => ("PaneLayers$Pane", "drawn", "LPaneLayers$Picture;", false)
  | 18 => ("PaneLayers$Pane", "spare", "LPaneLayers$Picture;", false)
  | _ => ("PaneLayers$Pane", "drawnShift", "I", false)
def tyX5 : Nat → FieldType := fun k => match k with
  | 0 => .object "PaneLayers$Text"
  | 1 => .object "PaneLayers$Layers"
  | 2 => .object "PaneLayers$Layout"
  | 3 => .object "PaneLayers$Directions"
  | 4 => .object "PaneLayers$Place"
  | 5 => .object "PaneLayers$Place"
  | 6 => .object "PaneLayers$Place"
  | 7 => .int
  | 8 => .int
  | 9 => .int
  | 10 => .int
  | 11 => .array .int
  | 12 => .array .int
  | 13 => .int
  | 14 => .boolean
  | 15 => .int
  | 16 => .boolean
  | 17 => .object "PaneLayers$Picture"
  | 18 => .object "PaneLayers$Picture"
  | _ => .int
abbrev wsX50 : List Cond := u_ws RX5 TX5 20
theorem nmX5 : ∀ a, a < 20 → ∀ b, b < 20 → a ≠ b → (TX5 a).2.1 ≠ (TX5 b).2.1 := by decide +kernel
theorem tyX5_ok : ∀ k, k < 20 → parseFieldDescriptor (TX5 k).2.2.1 = some (tyX5 k) := by decide +kernel
abbrev cX5_init : ByteArray := prog_7_method_1_code
def yX5_init : MethodName := ⟨RX5, "<init>", "(LPaneLayers$Text;)V"⟩
abbrev cX5_forgetLine : ByteArray := prog_7_method_2_code
def yX5_forgetLine : MethodName := ⟨RX5, "forgetLine", "(I)V"⟩
abbrev cX5_forgetFrom : ByteArray := prog_7_method_3_code
def yX5_forgetFrom : MethodName := ⟨RX5, "forgetFrom", "(I)V"⟩
abbrev cX5_reshape : ByteArray := prog_7_method_4_code
def yX5_reshape : MethodName := ⟨RX5, "reshape", "(III)V"⟩
abbrev cX5_signCame : ByteArray := prog_7_method_5_code
def yX5_signCame : MethodName := ⟨RX5, "signCame", "(II)V"⟩
abbrev cX5_signsWent : ByteArray := prog_7_method_6_code
def yX5_signsWent : MethodName := ⟨RX5, "signsWent", "(III)V"⟩
abbrev cX5_lineBroke : ByteArray := prog_7_method_7_code
def yX5_lineBroke : MethodName := ⟨RX5, "lineBroke", "(II)V"⟩
abbrev cX5_linesJoined : ByteArray := prog_7_method_8_code
def yX5_linesJoined : MethodName := ⟨RX5, "linesJoined", "(II)V"⟩
abbrev cX5_refresh : ByteArray := prog_7_method_9_code
def yX5_refresh : MethodName := ⟨RX5, "refresh", "()V"⟩
abbrev cX5_measured : ByteArray := prog_7_method_10_code
def yX5_measured : MethodName := ⟨RX5, "measured", "(I)LPaneLayers$Layout;"⟩
abbrev cX5_turned : ByteArray := prog_7_method_11_code
def yX5_turned : MethodName := ⟨RX5, "turned", "()LPaneLayers$Layout;"⟩
abbrev cX5_rowCount : ByteArray := prog_7_method_12_code
def yX5_rowCount : MethodName := ⟨RX5, "rowCount", "(I)I"⟩
abbrev cX5_firstRow : ByteArray := prog_7_method_13_code
def yX5_firstRow : MethodName := ⟨RX5, "firstRow", "(I)I"⟩
abbrev cX5_lineOfRow : ByteArray := prog_7_method_14_code
def yX5_lineOfRow : MethodName := ⟨RX5, "lineOfRow", "(I)I"⟩
abbrev cX5_rowInLine : ByteArray := prog_7_method_15_code
def yX5_rowInLine : MethodName := ⟨RX5, "rowInLine", "(II)I"⟩
abbrev cX5_rowDown : ByteArray := prog_7_method_16_code
def yX5_rowDown : MethodName := ⟨RX5, "rowDown", "(III)I"⟩
abbrev cX5_columnDown : ByteArray := prog_7_method_17_code
def yX5_columnDown : MethodName := ⟨RX5, "columnDown", "(III)I"⟩
abbrev cX5_placeUp : ByteArray := prog_7_method_18_code
def yX5_placeUp : MethodName := ⟨RX5, "placeUp", "(II)I"⟩
abbrev cX5_marksOfRow : ByteArray := prog_7_method_19_code
def yX5_marksOfRow : MethodName := ⟨RX5, "marksOfRow", "(I)I"⟩
abbrev cX5_takenLine : ByteArray := prog_7_method_21_code
def yX5_takenLine : MethodName := ⟨RX5, "takenLine", "(LPaneLayers$Place;)I"⟩
abbrev cX5_takenAt : ByteArray := prog_7_method_22_code
def yX5_takenAt : MethodName := ⟨RX5, "takenAt", "(LPaneLayers$Place;)I"⟩
abbrev cX5_cursorRow : ByteArray := prog_7_method_23_code
def yX5_cursorRow : MethodName := ⟨RX5, "cursorRow", "()I"⟩
abbrev cX5_cursorColumn : ByteArray := prog_7_method_24_code
def yX5_cursorColumn : MethodName := ⟨RX5, "cursorColumn", "()I"⟩
abbrev cX5_topRow : ByteArray := prog_7_method_25_code
def yX5_topRow : MethodName := ⟨RX5, "topRow", "()I"⟩
abbrev cX5_marginFor : ByteArray := prog_7_method_26_code
def yX5_marginFor : MethodName := ⟨RX5, "marginFor", "(I)I"⟩
abbrev cX5_setTop : ByteArray := prog_7_method_27_code
def yX5_setTop : MethodName := ⟨RX5, "setTop", "(I)V"⟩
abbrev cX5_follow : ByteArray := prog_7_method_28_code
def yX5_follow : MethodName := ⟨RX5, "follow", "(I)V"⟩
abbrev cX5_putCursor : ByteArray := prog_7_method_29_code
def yX5_putCursor : MethodName := ⟨RX5, "putCursor", "(II)V"⟩
abbrev cX5_go : ByteArray := prog_7_method_30_code
def yX5_go : MethodName := ⟨RX5, "go", "(II)Z"⟩
abbrev cX5_takeGoal : ByteArray := prog_7_method_31_code
def yX5_takeGoal : MethodName := ⟨RX5, "takeGoal", "()Z"⟩
abbrev cX5_aimLeft : ByteArray := prog_7_method_32_code
def yX5_aimLeft : MethodName := ⟨RX5, "aimLeft", "()V"⟩
abbrev cX5_aimRight : ByteArray := prog_7_method_33_code
def yX5_aimRight : MethodName := ⟨RX5, "aimRight", "()V"⟩
abbrev cX5_aimInRow : ByteArray := prog_7_method_34_code
def yX5_aimInRow : MethodName := ⟨RX5, "aimInRow", "(I)V"⟩
abbrev cX5_rowOfMove : ByteArray := prog_7_method_35_code
def yX5_rowOfMove : MethodName := ⟨RX5, "rowOfMove", "(II)I"⟩
abbrev cX5_aimAtRow : ByteArray := prog_7_method_36_code
def yX5_aimAtRow : MethodName := ⟨RX5, "aimAtRow", "(I)V"⟩
abbrev cX5_redraw : ByteArray := prog_7_method_38_code
def yX5_redraw : MethodName := ⟨RX5, "redraw", "(I)I"⟩
abbrev cX5_takePicture : ByteArray := prog_7_method_39_code
def yX5_takePicture : MethodName := ⟨RX5, "takePicture", "(LPaneLayers$Picture;II)V"⟩
def RX6 : String := "PaneLayers$Picture"
def TX6 : u_T := fun k => match k with
  | 0 => ("PaneLayers$Picture", "cells", "[I", true)
  | 1 => ("PaneLayers$Picture", "sizes", "[I", true)
  | 2 => ("PaneLayers$Picture", "marks", "[I", true)
  | _ => ("PaneLayers$Picture", "drawnRows", "I", false)
def tyX6 : Nat → FieldType := fun k => match k with
  | 0 => .array .int
  | 1 => .array .int
  | 2 => .array .int
  | _ => .int
abbrev wsX60 : List Cond := u_ws RX6 TX6 4
theorem nmX6 : ∀ a, a < 4 → ∀ b, b < 4 → a ≠ b → (TX6 a).2.1 ≠ (TX6 b).2.1 := by decide +kernel
theorem tyX6_ok : ∀ k, k < 4 → parseFieldDescriptor (TX6 k).2.2.1 = some (tyX6 k) := by decide +kernel
abbrev cX6_init : ByteArray := prog_8_method_1_code
def yX6_init : MethodName := ⟨RX6, "<init>", "()V"⟩
abbrev cX6_start : ByteArray := prog_8_method_2_code
def yX6_start : MethodName := ⟨RX6, "start", "()V"⟩
abbrev cX6_addNothing : ByteArray := prog_8_method_3_code
def yX6_addNothing : MethodName := ⟨RX6, "addNothing", "()V"⟩
abbrev cX6_addRow : ByteArray := prog_8_method_4_code
def yX6_addRow : MethodName := ⟨RX6, "addRow", "(LPaneLayers$Layout;II)V"⟩
abbrev cX6_packed : ByteArray := prog_8_method_5_code
def yX6_packed : MethodName := ⟨RX6, "packed", "(LPaneLayers$Layout;I)I"⟩
abbrev cX6_differentRows : ByteArray := prog_8_method_6_code
def yX6_differentRows : MethodName := ⟨RX6, "differentRows", "(LPaneLayers$Picture;I)I"⟩
abbrev cX6_isSame : ByteArray := prog_8_method_7_code
def yX6_isSame : MethodName := ⟨RX6, "isSame", "(ILPaneLayers$Picture;I)Z"⟩
def RX7 : String := "PaneLayers$Place"
def TX7 : u_T := fun k => match k with
  | 0 => ("PaneLayers$Place", "isStart", "Z", true)
  | 1 => ("PaneLayers$Place", "line", "I", false)
  | _ => ("PaneLayers$Place", "at", "I", false)
def tyX7 : Nat → FieldType := fun k => match k with
  | 0 => .boolean
  | 1 => .int
  | _ => .int
abbrev wsX70 : List Cond := u_ws RX7 TX7 3
theorem nmX7 : ∀ a, a < 3 → ∀ b, b < 3 → a ≠ b → (TX7 a).2.1 ≠ (TX7 b).2.1 := by decide +kernel
theorem tyX7_ok : ∀ k, k < 3 → parseFieldDescriptor (TX7 k).2.2.1 = some (tyX7 k) := by decide +kernel
abbrev cX7_init : ByteArray := prog_9_method_1_code
def yX7_init : MethodName := ⟨RX7, "<init>", "(ZII)V"⟩
abbrev cX7_set : ByteArray := prog_9_method_2_code
def yX7_set : MethodName := ⟨RX7, "set", "(II)V"⟩
abbrev cX7_isAt : ByteArray := prog_9_method_3_code
def yX7_isAt : MethodName := ⟨RX7, "isAt", "(II)Z"⟩
abbrev cX7_isBehind : ByteArray := prog_9_method_4_code
def yX7_isBehind : MethodName := ⟨RX7, "isBehind", "(I)Z"⟩
abbrev cX7_signCame : ByteArray := prog_9_method_5_code
def yX7_signCame : MethodName := ⟨RX7, "signCame", "(II)V"⟩
abbrev cX7_signsWent : ByteArray := prog_9_method_6_code
def yX7_signsWent : MethodName := ⟨RX7, "signsWent", "(III)V"⟩
abbrev cX7_lineBroke : ByteArray := prog_9_method_7_code
def yX7_lineBroke : MethodName := ⟨RX7, "lineBroke", "(II)V"⟩
abbrev cX7_linesJoined : ByteArray := prog_9_method_8_code
def yX7_linesJoined : MethodName := ⟨RX7, "linesJoined", "(II)V"⟩
def RX8 : String := "PaneLayers$Span"
def TX8 : u_T := fun k => match k with
  | 0 => ("PaneLayers$Span", "from", "LPaneLayers$Place;", true)
  | _ => ("PaneLayers$Span", "to", "LPaneLayers$Place;", true)
def tyX8 : Nat → FieldType := fun k => match k with
  | 0 => .object "PaneLayers$Place"
  | _ => .object "PaneLayers$Place"
abbrev wsX80 : List Cond := u_ws RX8 TX8 2
theorem nmX8 : ∀ a, a < 2 → ∀ b, b < 2 → a ≠ b → (TX8 a).2.1 ≠ (TX8 b).2.1 := by decide +kernel
theorem tyX8_ok : ∀ k, k < 2 → parseFieldDescriptor (TX8 k).2.2.1 = some (tyX8 k) := by decide +kernel
abbrev cX8_init : ByteArray := prog_10_method_1_code
def yX8_init : MethodName := ⟨RX8, "<init>", "(III)V"⟩
abbrev cX8_holds : ByteArray := prog_10_method_2_code
def yX8_holds : MethodName := ⟨RX8, "holds", "(II)Z"⟩
abbrev cX8_lineBroke : ByteArray := prog_10_method_3_code
def yX8_lineBroke : MethodName := ⟨RX8, "lineBroke", "(II)V"⟩
def RX9 : String := "PaneLayers$Stack"
def TX9 : u_T := fun k => match k with
  | 0 => ("PaneLayers$Stack", "isOpen", "[Z", true)
  | 1 => ("PaneLayers$Stack", "weight", "[I", true)
  | 2 => ("PaneLayers$Stack", "least", "[I", true)
  | 3 => ("PaneLayers$Stack", "locked", "[I", true)
  | 4 => ("PaneLayers$Stack", "heights", "[I", true)
  | _ => ("PaneLayers$Stack", "isSharing", "[Z", true)
def tyX9 : Nat → FieldType := fun k => match k with
  | 0 => .array .boolean
  | 1 => .array .int
  | 2 => .array .int
  | 3 => .array .int
  | 4 => .array .int
  | _ => .array .boolean
abbrev wsX90 : List Cond := u_ws RX9 TX9 6
theorem nmX9 : ∀ a, a < 6 → ∀ b, b < 6 → a ≠ b → (TX9 a).2.1 ≠ (TX9 b).2.1 := by decide +kernel
theorem tyX9_ok : ∀ k, k < 6 → parseFieldDescriptor (TX9 k).2.2.1 = some (tyX9 k) := by decide +kernel
abbrev cX9_init : ByteArray := prog_11_method_1_code
def yX9_init : MethodName := ⟨RX9, "<init>", "()V"⟩
abbrev cX9_isPane : ByteArray := prog_11_method_2_code
def yX9_isPane : MethodName := ⟨RX9, "isPane", "(I)Z"⟩
abbrev cX9_isOpen : ByteArray := prog_11_method_3_code
def yX9_isOpen : MethodName := ⟨RX9, "isOpen", "(I)Z"⟩
abbrev cX9_heightOf : ByteArray := prog_11_method_4_code
def yX9_heightOf : MethodName := ⟨RX9, "heightOf", "(I)I"⟩
abbrev cX9_openOnes : ByteArray := prog_11_method_5_code
def yX9_openOnes : MethodName := ⟨RX9, "openOnes", "()I"⟩
abbrev cX9_needOf : ByteArray := prog_11_method_6_code
def yX9_needOf : MethodName := ⟨RX9, "needOf", "(I)I"⟩
abbrev cX9_hasRoomFor : ByteArray := prog_11_method_7_code
def yX9_hasRoomFor : MethodName := ⟨RX9, "hasRoomFor", "(I)Z"⟩
abbrev cX9_hasRoomFor_ : ByteArray := prog_11_method_8_code
def yX9_hasRoomFor_ : MethodName := ⟨RX9, "hasRoomFor", "(II)Z"⟩
abbrev cX9_setOpen : ByteArray := prog_11_method_9_code
def yX9_setOpen : MethodName := ⟨RX9, "setOpen", "(IZ)V"⟩
abbrev cX9_setShare : ByteArray := prog_11_method_10_code
def yX9_setShare : MethodName := ⟨RX9, "setShare", "(IIII)V"⟩
abbrev cX9_deal : ByteArray := prog_11_method_11_code
def yX9_deal : MethodName := ⟨RX9, "deal", "()V"⟩
abbrev cX9_findSharing : ByteArray := prog_11_method_12_code
def yX9_findSharing : MethodName := ⟨RX9, "findSharing", "()V"⟩
abbrev cX9_giveRest : ByteArray := prog_11_method_13_code
def yX9_giveRest : MethodName := ⟨RX9, "giveRest", "(II)V"⟩
abbrev cX9_firstPoor : ByteArray := prog_11_method_14_code
def yX9_firstPoor : MethodName := ⟨RX9, "firstPoor", "()I"⟩
abbrev cX9_richest : ByteArray := prog_11_method_15_code
def yX9_richest : MethodName := ⟨RX9, "richest", "()I"⟩
def RX10 : String := "PaneLayers$Text"
def TX10 : u_T := fun k => match k with
  | 0 => ("PaneLayers$Text", "lines", "[LPaneLayers$Line;", true)
  | _ => ("PaneLayers$Text", "count", "I", false)
def tyX10 : Nat → FieldType := fun k => match k with
  | 0 => .array (.object "PaneLayers$Line")
  | _ => .int
abbrev wsX100 : List Cond := u_ws RX10 TX10 2
theorem nmX10 : ∀ a, a < 2 → ∀ b, b < 2 → a ≠ b → (TX10 a).2.1 ≠ (TX10 b).2.1 := by decide +kernel
theorem tyX10_ok : ∀ k, k < 2 → parseFieldDescriptor (TX10 k).2.2.1 = some (tyX10 k) := by decide +kernel
abbrev cX10_init : ByteArray := prog_12_method_1_code
def yX10_init : MethodName := ⟨RX10, "<init>", "()V"⟩
abbrev cX10_at : ByteArray := prog_12_method_2_code
def yX10_at : MethodName := ⟨RX10, "at", "(I)LPaneLayers$Line;"⟩
abbrev cX10_breakAt : ByteArray := prog_12_method_3_code
def yX10_breakAt : MethodName := ⟨RX10, "breakAt", "(II)V"⟩
abbrev cX10_joinBehind : ByteArray := prog_12_method_4_code
def yX10_joinBehind : MethodName := ⟨RX10, "joinBehind", "(I)V"⟩
abbrev cX10_markedFrom : ByteArray := prog_12_method_5_code
def yX10_markedFrom : MethodName := ⟨RX10, "markedFrom", "(II)I"⟩
def RX11 : String := "PaneLayers$Virtual"
def TX11 : u_T := fun k => match k with
  | 0 => ("PaneLayers$Virtual", "place", "LPaneLayers$Place;", true)
  | _ => ("PaneLayers$Virtual", "signs", "J", true)
def tyX11 : Nat → FieldType := fun k => match k with
  | 0 => .object "PaneLayers$Place"
  | _ => .long
abbrev wsX110 : List Cond := u_ws RX11 TX11 2
theorem nmX11 : ∀ a, a < 2 → ∀ b, b < 2 → a ≠ b → (TX11 a).2.1 ≠ (TX11 b).2.1 := by decide +kernel
theorem tyX11_ok : ∀ k, k < 2 → parseFieldDescriptor (TX11 k).2.2.1 = some (tyX11 k) := by decide +kernel
abbrev cX11_init : ByteArray := prog_13_method_1_code
def yX11_init : MethodName := ⟨RX11, "<init>", "(IIJ)V"⟩
abbrev cX11_isText : ByteArray := prog_13_method_2_code
def yX11_isText : MethodName := ⟨RX11, "isText", "(J)Z"⟩
abbrev cX11_signAt : ByteArray := prog_13_method_3_code
def yX11_signAt : MethodName := ⟨RX11, "signAt", "(I)I"⟩
def RX12 : String := "PaneLayers"
def TX12 : u_T := fun k => match k with
  | 0 => ("PaneLayers", "text", "LPaneLayers$Text;", true)
  | 1 => ("PaneLayers", "panes", "[LPaneLayers$Pane;", true)
  | 2 => ("PaneLayers", "stack", "LPaneLayers$Stack;", true)
  | 3 => ("PaneLayers", "loggedPanes", "[I", true)
  | 4 => ("PaneLayers", "loggedMoves", "[I", true)
  | 5 => ("PaneLayers", "logged", "I", false)
  | 6 => ("PaneLayers", "nextLogged", "I", false)
  | 7 => ("PaneLayers", "boxLines", "[I", true)
  | _ => ("PaneLayers", "boxPlaces", "[I", true)
def tyX12 : Nat → FieldType := fun k => match k with
  | 0 => .object "PaneLayers$Text"
  | 1 => .array (.object "PaneLayers$Pane")
  | 2 => .object "PaneLayers$Stack"
  | 3 => .array .int
  | 4 => .array .int
  | 5 => .int
  | 6 => .int
  | 7 => .array .int
  | _ => .array .int
abbrev wsX120 : List Cond := u_ws RX12 TX12 9
theorem nmX12 : ∀ a, a < 9 → ∀ b, b < 9 → a ≠ b → (TX12 a).2.1 ≠ (TX12 b).2.1 := by decide +kernel
theorem tyX12_ok : ∀ k, k < 9 → parseFieldDescriptor (TX12 k).2.2.1 = some (tyX12 k) := by decide +kernel
abbrev cX12_init : ByteArray := prog_1_method_1_code
def yX12_init : MethodName := ⟨RX12, "<init>", "()V"⟩
abbrev cX12_lines : ByteArray := prog_1_method_2_code
def yX12_lines : MethodName := ⟨RX12, "lines", "()I"⟩
abbrev cX12_length : ByteArray := prog_1_method_3_code
def yX12_length : MethodName := ⟨RX12, "length", "(I)I"⟩
abbrev cX12_sign : ByteArray := prog_1_method_4_code
def yX12_sign : MethodName := ⟨RX12, "sign", "(II)I"⟩
abbrev cX12_insert : ByteArray := prog_1_method_5_code
def yX12_insert : MethodName := ⟨RX12, "insert", "(III)I"⟩
abbrev cX12_remove : ByteArray := prog_1_method_6_code
def yX12_remove : MethodName := ⟨RX12, "remove", "(III)I"⟩
abbrev cX12_breakLine : ByteArray := prog_1_method_7_code
def yX12_breakLine : MethodName := ⟨RX12, "breakLine", "(II)I"⟩
abbrev cX12_join : ByteArray := prog_1_method_8_code
def yX12_join : MethodName := ⟨RX12, "join", "(I)I"⟩
abbrev cX12_shape : ByteArray := prog_1_method_10_code
def yX12_shape : MethodName := ⟨RX12, "shape", "(IIII)V"⟩
abbrev cX12_hide : ByteArray := prog_1_method_11_code
def yX12_hide : MethodName := ⟨RX12, "hide", "(IIII)I"⟩
abbrev cX12_addVirtual : ByteArray := prog_1_method_13_code
def yX12_addVirtual : MethodName := ⟨RX12, "addVirtual", "(IIIJ)I"⟩
abbrev cX12_addFold : ByteArray := prog_1_method_15_code
def yX12_addFold : MethodName := ⟨RX12, "addFold", "(III)I"⟩
abbrev cX12_setClosed : ByteArray := prog_1_method_16_code
def yX12_setClosed : MethodName := ⟨RX12, "setClosed", "(IIZ)Z"⟩
abbrev cX12_rows : ByteArray := prog_1_method_17_code
def yX12_rows : MethodName := ⟨RX12, "rows", "(I)I"⟩
abbrev cX12_rowsOf : ByteArray := prog_1_method_18_code
def yX12_rowsOf : MethodName := ⟨RX12, "rowsOf", "(II)I"⟩
abbrev cX12_rowAt : ByteArray := prog_1_method_21_code
def yX12_rowAt : MethodName := ⟨RX12, "rowAt", "(IIII)I"⟩
abbrev cX12_lineAt : ByteArray := prog_1_method_23_code
def yX12_lineAt : MethodName := ⟨RX12, "lineAt", "(II)I"⟩
abbrev cX12_open : ByteArray := prog_1_method_27_code
def yX12_open : MethodName := ⟨RX12, "open", "(I)I"⟩
abbrev cX12_close : ByteArray := prog_1_method_28_code
def yX12_close : MethodName := ⟨RX12, "close", "(I)I"⟩
abbrev cX12_share : ByteArray := prog_1_method_29_code
def yX12_share : MethodName := ⟨RX12, "share", "(IIII)I"⟩
abbrev cX12_height : ByteArray := prog_1_method_30_code
def yX12_height : MethodName := ⟨RX12, "height", "(I)I"⟩
abbrev cX12_put : ByteArray := prog_1_method_31_code
def yX12_put : MethodName := ⟨RX12, "put", "(III)I"⟩
abbrev cX12_move : ByteArray := prog_1_method_32_code
def yX12_move : MethodName := ⟨RX12, "move", "(II)Z"⟩
abbrev cX12_play : ByteArray := prog_1_method_33_code
def yX12_play : MethodName := ⟨RX12, "play", "(II)I"⟩
abbrev cX12_cursor : ByteArray := prog_1_method_34_code
def yX12_cursor : MethodName := ⟨RX12, "cursor", "(II)I"⟩
abbrev cX12_type : ByteArray := prog_1_method_36_code
def yX12_type : MethodName := ⟨RX12, "type", "(II)I"⟩
abbrev cX12_draw : ByteArray := prog_1_method_38_code
def yX12_draw : MethodName := ⟨RX12, "draw", "(I)I"⟩
abbrev cX12_shift : ByteArray := prog_1_method_39_code
def yX12_shift : MethodName := ⟨RX12, "shift", "(I)I"⟩
abbrev cX12_checkPane : ByteArray := prog_1_method_40_code
def yX12_checkPane : MethodName := ⟨RX12, "checkPane", "(I)V"⟩
abbrev cX12_checkLine : ByteArray := prog_1_method_41_code
def yX12_checkLine : MethodName := ⟨RX12, "checkLine", "(I)V"⟩
abbrev cX12_checkRow : ByteArray := prog_1_method_42_code
def yX12_checkRow : MethodName := ⟨RX12, "checkRow", "(LPaneLayers$Pane;I)V"⟩
abbrev cX12_checkRange : ByteArray := prog_1_method_43_code
def yX12_checkRange : MethodName := ⟨RX12, "checkRange", "(III)V"⟩
abbrev cX12_checkSign : ByteArray := prog_1_method_44_code
def yX12_checkSign : MethodName := ⟨RX12, "checkSign", "(I)V"⟩
abbrev cX12_checkState : ByteArray := prog_1_method_45_code
def yX12_checkState : MethodName := ⟨RX12, "checkState", "(Z)V"⟩
abbrev cX12_lineOf : ByteArray := prog_1_method_46_code
def yX12_lineOf : MethodName := ⟨RX12, "lineOf", "(I)LPaneLayers$Line;"⟩
abbrev cX12_paneOf : ByteArray := prog_1_method_47_code
def yX12_paneOf : MethodName := ⟨RX12, "paneOf", "(I)LPaneLayers$Pane;"⟩
abbrev cX12_laidPane : ByteArray := prog_1_method_48_code
def yX12_laidPane : MethodName := ⟨RX12, "laidPane", "(I)LPaneLayers$Pane;"⟩
abbrev cX12_putIn : ByteArray := prog_1_method_49_code
def yX12_putIn : MethodName := ⟨RX12, "putIn", "(III)V"⟩
abbrev cX12_logMove : ByteArray := prog_1_method_50_code
def yX12_logMove : MethodName := ⟨RX12, "logMove", "(II)V"⟩
abbrev cX12_isBlank : ByteArray := prog_1_method_55_code
def yX12_isBlank : MethodName := ⟨RX12, "isBlank", "(I)Z"⟩
def RX13 : String := "PaneLayersModel"
def TX13 : u_T := fun k => match k with
  | _ => ("", "", "", false)
def tyX13 : Nat → FieldType := fun k => match k with
  | _ => .int
abbrev wsX130 : List Cond := u_ws RX13 TX13 0
theorem nmX13 : ∀ a, a < 0 → ∀ b, b < 0 → a ≠ b → (TX13 a).2.1 ≠ (TX13 b).2.1 := by decide +kernel
theorem tyX13_ok : ∀ k, k < 0 → parseFieldDescriptor (TX13 k).2.2.1 = some (tyX13 k) := by decide +kernel
def RJx145de : String := "java/io/Serializable"
def TJx145de : u_T := fun k => match k with
  | _ => ("", "", "", false)
def tyJx145de : Nat → FieldType := fun k => match k with
  | _ => .int
abbrev wsJx145de0 : List Cond := u_ws RJx145de TJx145de 0
theorem nmJx145de : ∀ a, a < 0 → ∀ b, b < 0 → a ≠ b → (TJx145de a).2.1 ≠ (TJx145de b).2.1 := by decide +kernel
theorem tyJx145de_ok : ∀ k, k < 0 → parseFieldDescriptor (TJx145de k).2.2.1 = some (tyJx145de k) := by decide +kernel
def RJx8e188 : String := "java/lang/Cloneable"
def TJx8e188 : u_T := fun k => match k with
  | _ => ("", "", "", false)
def tyJx8e188 : Nat → FieldType := fun k => match k with
  | _ => .int
abbrev wsJx8e1880 : List Cond := u_ws RJx8e188 TJx8e188 0
theorem nmJx8e188 : ∀ a, a < 0 → ∀ b, b < 0 → a ≠ b → (TJx8e188 a).2.1 ≠ (TJx8e188 b).2.1 := by decide +kernel
theorem tyJx8e188_ok : ∀ k, k < 0 → parseFieldDescriptor (TJx8e188 k).2.2.1 = some (tyJx8e188 k) := by decide +kernel
def RJxab1ab : String := "java/lang/Iterable"
def TJxab1ab : u_T := fun k => match k with
  | _ => ("", "", "", false)
def tyJxab1ab : Nat → FieldType := fun k => match k with
  | _ => .int
abbrev wsJxab1ab0 : List Cond := u_ws RJxab1ab TJxab1ab 0
theorem nmJxab1ab : ∀ a, a < 0 → ∀ b, b < 0 → a ≠ b → (TJxab1ab a).2.1 ≠ (TJxab1ab b).2.1 := by decide +kernel
theorem tyJxab1ab_ok : ∀ k, k < 0 → parseFieldDescriptor (TJxab1ab k).2.2.1 = some (tyJxab1ab k) := by decide +kernel
def RJ9 : String := "java/lang/Math"
def TJ9 : u_T := fun k => match k with
  | _ => ("", "", "", false)
def tyJ9 : Nat → FieldType := fun k => match k with
  | _ => .int
abbrev wsJ90 : List Cond := u_ws RJ9 TJ9 0
theorem nmJ9 : ∀ a, a < 0 → ∀ b, b < 0 → a ≠ b → (TJ9 a).2.1 ≠ (TJ9 b).2.1 := by decide +kernel
theorem tyJ9_ok : ∀ k, k < 0 → parseFieldDescriptor (TJ9 k).2.2.1 = some (tyJ9 k) := by decide +kernel
abbrev cJ9_max_7cf53 : ByteArray := prog_23_method_65_code
def yJ9_max_7cf53 : MethodName := ⟨RJ9, "max", "(II)I"⟩
abbrev cJ9_min_7cf53 : ByteArray := prog_23_method_69_code
def yJ9_min_7cf53 : MethodName := ⟨RJ9, "min", "(II)I"⟩
def RJ0 : String := "java/lang/String"
def TJ0 : u_T := fun k => match k with
  | _ => ("", "", "", false)
def tyJ0 : Nat → FieldType := fun k => match k with
  | _ => .int
abbrev wsJ00 : List Cond := u_ws RJ0 TJ0 0
theorem nmJ0 : ∀ a, a < 0 → ∀ b, b < 0 → a ≠ b → (TJ0 a).2.1 ≠ (TJ0 b).2.1 := by decide +kernel
theorem tyJ0_ok : ∀ k, k < 0 → parseFieldDescriptor (TJ0 k).2.2.1 = some (tyJ0 k) := by decide +kernel
def RJ10 : String := "java/lang/System"
def TJ10 : u_T := fun k => match k with
  | _ => ("", "", "", false)
def tyJ10 : Nat → FieldType := fun k => match k with
  | _ => .int
abbrev wsJ100 : List Cond := u_ws RJ10 TJ10 0
theorem nmJ10 : ∀ a, a < 0 → ∀ b, b < 0 → a ≠ b → (TJ10 a).2.1 ≠ (TJ10 b).2.1 := by decide +kernel
theorem tyJ10_ok : ∀ k, k < 0 → parseFieldDescriptor (TJ10 k).2.2.1 = some (tyJ10 k) := by decide +kernel
def RJxa1e45 : String := "java/util/AbstractCollection"
def TJxa1e45 : u_T := fun k => match k with
  | _ => ("", "", "", false)
def tyJxa1e45 : Nat → FieldType := fun k => match k with
  | _ => .int
abbrev wsJxa1e450 : List Cond := u_ws RJxa1e45 TJxa1e45 0
theorem nmJxa1e45 : ∀ a, a < 0 → ∀ b, b < 0 → a ≠ b → (TJxa1e45 a).2.1 ≠ (TJxa1e45 b).2.1 := by decide +kernel
theorem tyJxa1e45_ok : ∀ k, k < 0 → parseFieldDescriptor (TJxa1e45 k).2.2.1 = some (tyJxa1e45 k) := by decide +kernel
abbrev cJxa1e45_init_da8c8 : ByteArray := prog_28_method_1_code
def yJxa1e45_init_da8c8 : MethodName := ⟨RJxa1e45, "<init>", "()V"⟩
def RJxc12de : String := "java/util/AbstractList"
def TJxc12de : u_T := fun k => match k with
  | _ => ("", "", "", false)
def tyJxc12de : Nat → FieldType := fun k => match k with
  | _ => .int
abbrev wsJxc12de0 : List Cond := u_ws RJxc12de TJxc12de 0
theorem nmJxc12de : ∀ a, a < 0 → ∀ b, b < 0 → a ≠ b → (TJxc12de a).2.1 ≠ (TJxc12de b).2.1 := by decide +kernel
theorem tyJxc12de_ok : ∀ k, k < 0 → parseFieldDescriptor (TJxc12de k).2.2.1 = some (tyJxc12de k) := by decide +kernel
abbrev cJxc12de_init_da8c8 : ByteArray := prog_29_method_1_code
def yJxc12de_init_da8c8 : MethodName := ⟨RJxc12de, "<init>", "()V"⟩
def RJx4a65c : String := "java/util/ArrayList"
def TJx4a65c : u_T := fun k => match k with
  | 0 => ("java/util/AbstractList", "modCount", "I", false)
  | 1 => ("java/util/ArrayList", "elementData", "[Ljava/lang/Object;", false)
  | _ => ("java/util/ArrayList", "size", "I", false)
def tyJx4a65c : Nat → FieldType := fun k => match k with
  | 0 => .int
  | 1 => .array (.object "java/lang/Object")
  | _ => .int
abbrev wsJx4a65c0 : List Cond := u_ws RJx4a65c TJx4a65c 3
theorem nmJx4a65c : ∀ a, a < 3 → ∀ b, b < 3 → a ≠ b → (TJx4a65c a).2.1 ≠ (TJx4a65c b).2.1 := by decide +kernel
theorem tyJx4a65c_ok : ∀ k, k < 3 → parseFieldDescriptor (TJx4a65c k).2.2.1 = some (tyJx4a65c k) := by decide +kernel
abbrev cJx4a65c_init_da8c8 : ByteArray := prog_30_method_2_code
def yJx4a65c_init_da8c8 : MethodName := ⟨RJx4a65c, "<init>", "()V"⟩
abbrev cJx4a65c_grow_92f84 : ByteArray := prog_30_method_6_code
def yJx4a65c_grow_92f84 : MethodName := ⟨RJx4a65c, "grow", "(I)[Ljava/lang/Object;"⟩
abbrev cJx4a65c_grow_d5877 : ByteArray := prog_30_method_7_code
def yJx4a65c_grow_d5877 : MethodName := ⟨RJx4a65c, "grow", "()[Ljava/lang/Object;"⟩
abbrev cJx4a65c_size_8abf5 : ByteArray := prog_30_method_8_code
def yJx4a65c_size_8abf5 : MethodName := ⟨RJx4a65c, "size", "()I"⟩
abbrev cJx4a65c_elementData_915e3 : ByteArray := prog_30_method_18_code
def yJx4a65c_elementData_915e3 : MethodName := ⟨RJx4a65c, "elementData", "(I)Ljava/lang/Object;"⟩
abbrev cJx4a65c_get_915e3 : ByteArray := prog_30_method_20_code
def yJx4a65c_get_915e3 : MethodName := ⟨RJx4a65c, "get", "(I)Ljava/lang/Object;"⟩
abbrev cJx4a65c_add_72be8 : ByteArray := prog_30_method_24_code
def yJx4a65c_add_72be8 : MethodName := ⟨RJx4a65c, "add", "(Ljava/lang/Object;[Ljava/lang/Object;I)V"⟩
abbrev cJx4a65c_add_9ea2d : ByteArray := prog_30_method_25_code
def yJx4a65c_add_9ea2d : MethodName := ⟨RJx4a65c, "add", "(Ljava/lang/Object;)Z"⟩
abbrev cJx4a65c_remove_915e3 : ByteArray := prog_30_method_29_code
def yJx4a65c_remove_915e3 : MethodName := ⟨RJx4a65c, "remove", "(I)Ljava/lang/Object;"⟩
abbrev cJx4a65c_fastRemove_b59b0 : ByteArray := prog_30_method_39_code
def yJx4a65c_fastRemove_b59b0 : MethodName := ⟨RJx4a65c, "fastRemove", "([Ljava/lang/Object;I)V"⟩
def RJ7 : String := "java/util/Arrays"
def TJ7 : u_T := fun k => match k with
  | _ => ("", "", "", false)
def tyJ7 : Nat → FieldType := fun k => match k with
  | _ => .int
abbrev wsJ70 : List Cond := u_ws RJ7 TJ7 0
theorem nmJ7 : ∀ a, a < 0 → ∀ b, b < 0 → a ≠ b → (TJ7 a).2.1 ≠ (TJ7 b).2.1 := by decide +kernel
theorem tyJ7_ok : ∀ k, k < 0 → parseFieldDescriptor (TJ7 k).2.2.1 = some (tyJ7 k) := by decide +kernel
abbrev cJ7_copyOf_1904c : ByteArray := prog_31_method_119_code
def yJ7_copyOf_1904c : MethodName := ⟨RJ7, "copyOf", "([Ljava/lang/Object;I)[Ljava/lang/Object;"⟩
abbrev cJ7_copyOf_6403c : ByteArray := prog_31_method_120_code
def yJ7_copyOf_6403c : MethodName := ⟨RJ7, "copyOf", "([Ljava/lang/Object;ILjava/lang/Class;)[Ljava/lang/Object;"⟩
def RJx5ef63 : String := "java/util/Collection"
def TJx5ef63 : u_T := fun k => match k with
  | _ => ("", "", "", false)
def tyJx5ef63 : Nat → FieldType := fun k => match k with
  | _ => .int
abbrev wsJx5ef630 : List Cond := u_ws RJx5ef63 TJx5ef63 0
theorem nmJx5ef63 : ∀ a, a < 0 → ∀ b, b < 0 → a ≠ b → (TJx5ef63 a).2.1 ≠ (TJx5ef63 b).2.1 := by decide +kernel
theorem tyJx5ef63_ok : ∀ k, k < 0 → parseFieldDescriptor (TJx5ef63 k).2.2.1 = some (tyJx5ef63 k) := by decide +kernel
def RJxbd725 : String := "java/util/List"
def TJxbd725 : u_T := fun k => match k with
  | _ => ("", "", "", false)
def tyJxbd725 : Nat → FieldType := fun k => match k with
  | _ => .int
abbrev wsJxbd7250 : List Cond := u_ws RJxbd725 TJxbd725 0
theorem nmJxbd725 : ∀ a, a < 0 → ∀ b, b < 0 → a ≠ b → (TJxbd725 a).2.1 ≠ (TJxbd725 b).2.1 := by decide +kernel
theorem tyJxbd725_ok : ∀ k, k < 0 → parseFieldDescriptor (TJxbd725 k).2.2.1 = some (tyJxbd725 k) := by decide +kernel
def RJ15 : String := "java/util/Objects"
def TJ15 : u_T := fun k => match k with
  | _ => ("", "", "", false)
def tyJ15 : Nat → FieldType := fun k => match k with
  | _ => .int
abbrev wsJ150 : List Cond := u_ws RJ15 TJ15 0
theorem nmJ15 : ∀ a, a < 0 → ∀ b, b < 0 → a ≠ b → (TJ15 a).2.1 ≠ (TJ15 b).2.1 := by decide +kernel
theorem tyJ15_ok : ∀ k, k < 0 → parseFieldDescriptor (TJ15 k).2.2.1 = some (tyJ15 k) := by decide +kernel
abbrev cJ15_checkIndex_7cf53 : ByteArray := prog_34_method_17_code
def yJ15_checkIndex_7cf53 : MethodName := ⟨RJ15, "checkIndex", "(II)I"⟩
def RJxf0a74 : String := "java/util/RandomAccess"
def TJxf0a74 : u_T := fun k => match k with
  | _ => ("", "", "", false)
def tyJxf0a74 : Nat → FieldType := fun k => match k with
  | _ => .int
abbrev wsJxf0a740 : List Cond := u_ws RJxf0a74 TJxf0a74 0
theorem nmJxf0a74 : ∀ a, a < 0 → ∀ b, b < 0 → a ≠ b → (TJxf0a74 a).2.1 ≠ (TJxf0a74 b).2.1 := by decide +kernel
theorem tyJxf0a74_ok : ∀ k, k < 0 → parseFieldDescriptor (TJxf0a74 k).2.2.1 = some (tyJxf0a74 k) := by decide +kernel
def RJxa66e6 : String := "java/util/SequencedCollection"
def TJxa66e6 : u_T := fun k => match k with
  | _ => ("", "", "", false)
def tyJxa66e6 : Nat → FieldType := fun k => match k with
  | _ => .int
abbrev wsJxa66e60 : List Cond := u_ws RJxa66e6 TJxa66e6 0
theorem nmJxa66e6 : ∀ a, a < 0 → ∀ b, b < 0 → a ≠ b → (TJxa66e6 a).2.1 ≠ (TJxa66e6 b).2.1 := by decide +kernel
theorem tyJxa66e6_ok : ∀ k, k < 0 → parseFieldDescriptor (TJxa66e6 k).2.2.1 = some (tyJxa66e6 k) := by decide +kernel
def RJ8 : String := "jdk/internal/util/ArraysSupport"
def TJ8 : u_T := fun k => match k with
  | _ => ("", "", "", false)
def tyJ8 : Nat → FieldType := fun k => match k with
  | _ => .int
abbrev wsJ80 : List Cond := u_ws RJ8 TJ8 0
theorem nmJ8 : ∀ a, a < 0 → ∀ b, b < 0 → a ≠ b → (TJ8 a).2.1 ≠ (TJ8 b).2.1 := by decide +kernel
theorem tyJ8_ok : ∀ k, k < 0 → parseFieldDescriptor (TJ8 k).2.2.1 = some (tyJ8 k) := by decide +kernel
abbrev cJ8_newLength_cabcc : ByteArray := prog_37_method_27_code
def yJ8_newLength_cabcc : MethodName := ⟨RJ8, "newLength", "(III)I"⟩
abbrev cJ8_hugeLength_7cf53 : ByteArray := prog_37_method_28_code
def yJ8_hugeLength_7cf53 : MethodName := ⟨RJ8, "hugeLength", "(II)I"⟩
def RJ3 : String := "jdk/internal/util/Preconditions"
def TJ3 : u_T := fun k => match k with
  | _ => ("", "", "", false)
def tyJ3 : Nat → FieldType := fun k => match k with
  | _ => .int
abbrev wsJ30 : List Cond := u_ws RJ3 TJ3 0
theorem nmJ3 : ∀ a, a < 0 → ∀ b, b < 0 → a ≠ b → (TJ3 a).2.1 ≠ (TJ3 b).2.1 := by decide +kernel
theorem tyJ3_ok : ∀ k, k < 0 → parseFieldDescriptor (TJ3 k).2.2.1 = some (tyJ3 k) := by decide +kernel
abbrev cJ3_checkIndex_8e157 : ByteArray := prog_38_method_11_code
def yJ3_checkIndex_8e157 : MethodName := ⟨RJ3, "checkIndex", "(IILjava/util/function/BiFunction;)I"⟩
def RL : String := "PaneLayersLaw"
abbrev cL_asks : ByteArray := method_2_code
def yL_asks : MethodName := ⟨RL, "asks", "(LPaneLayers;IIIII)I"⟩
abbrev cL_on : ByteArray := method_3_code
def yL_on : MethodName := ⟨RL, "on", "(LPaneLayers;IIIII)I"⟩
abbrev cL_virtuals : ByteArray := method_4_code
def yL_virtuals : MethodName := ⟨RL, "virtuals", "(LPaneLayers;IIIJ)I"⟩
abbrev cL_closes : ByteArray := method_5_code
def yL_closes : MethodName := ⟨RL, "closes", "(LPaneLayers;IIZ)I"⟩
abbrev cL_isScreen : ByteArray := method_6_code
def yL_isScreen : MethodName := ⟨RL, "isScreen", "(LPaneLayers;)Z"⟩
abbrev cL_areRows : ByteArray := method_7_code
def yL_areRows : MethodName := ⟨RL, "areRows", "(LPaneLayers;I)Z"⟩
abbrev cL_isMove : ByteArray := method_8_code
def yL_isMove : MethodName := ⟨RL, "isMove", "(LPaneLayers;II)Z"⟩
abbrev cL_isDrawn : ByteArray := method_9_code
def yL_isDrawn : MethodName := ⟨RL, "isDrawn", "(LPaneLayers;I)Z"⟩
abbrev cL_law : ByteArray := code
def yL_law : MethodName := ⟨RL, "law", "([I)Z"⟩
abbrev vwCl : List vw_C := [(RJx4a65c, TJx4a65c, 3), (RX0, TX0, 10), (RX1, TX1, 3), (RX2, TX2, 3), (RX3, TX3, 14), (RX4, TX4, 3), (RX5, TX5, 20), (RX6, TX6, 4), (RX7, TX7, 3), (RX8, TX8, 2), (RX9, TX9, 6), (RX10, TX10, 2), (RX11, TX11, 2), (RX12, TX12, 9)]
