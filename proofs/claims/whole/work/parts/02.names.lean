/-! ===== BEGIN printed: names, fields, word lists, decode rows ===== -/
def RX0 : String := "MarketAwnings$Awning"
def TX0 : u_T := fun k => match k with
  | 0 => ("MarketAwnings$Awning", "x", "I", false)
  | 1 => ("MarketAwnings$Awning", "y", "I", false)
  | 2 => ("MarketAwnings$Awning", "w", "I", true)
  | 3 => ("MarketAwnings$Awning", "h", "I", true)
  | 4 => ("MarketAwnings$Awning", "level", "I", true)
  | 5 => ("MarketAwnings$Awning", "side", "I", true)
  | 6 => ("MarketAwnings$Awning", "out", "Z", false)
  | _ => ("MarketAwnings$Awning", "dripped", "I", false)
def tyX0 : Nat → FieldType := fun k => match k with
  | 0 => .int
  | 1 => .int
  | 2 => .int
  | 3 => .int
  | 4 => .int
  | 5 => .int
  | 6 => .boolean
  | _ => .int
abbrev wsX00 : List Cond := u_ws RX0 TX0 8
theorem nmX0 : ∀ a, a < 8 → ∀ b, b < 8 → a ≠ b → (TX0 a).2.1 ≠ (TX0 b).2.1 := by decide +kernel
theorem tyX0_ok : ∀ k, k < 8 → parseFieldDescriptor (TX0 k).2.2.1 = some (tyX0 k) := by decide +kernel
abbrev cX0_init : ByteArray := prog_2_method_1_code
def yX0_init : MethodName := ⟨RX0, "<init>", "(IIIIII)V"⟩
abbrev cX0_covers : ByteArray := prog_2_method_2_code
def yX0_covers : MethodName := ⟨RX0, "covers", "(II)Z"⟩
abbrev cX0_dripsAlongRows : ByteArray := prog_2_method_3_code
def yX0_dripsAlongRows : MethodName := ⟨RX0, "dripsAlongRows", "()Z"⟩
abbrev cX0_cellsBeyond : ByteArray := prog_2_method_4_code
def yX0_cellsBeyond : MethodName := ⟨RX0, "cellsBeyond", "()I"⟩
abbrev cX0_columnBeyond : ByteArray := prog_2_method_5_code
def yX0_columnBeyond : MethodName := ⟨RX0, "columnBeyond", "(I)I"⟩
abbrev cX0_rowBeyond : ByteArray := prog_2_method_6_code
def yX0_rowBeyond : MethodName := ⟨RX0, "rowBeyond", "(I)I"⟩
def RX1 : String := "MarketAwnings$Canopy"
def TX1 : u_T := fun k => match k with
  | 0 => ("MarketAwnings$Canopy", "awnings", "Ljava/util/ArrayList;", true)
  | 1 => ("MarketAwnings$Canopy", "layers", "[I", true)
  | 2 => ("MarketAwnings$Canopy", "reached", "[I", true)
  | 3 => ("MarketAwnings$Canopy", "queue", "[I", true)
  | _ => ("MarketAwnings$Canopy", "queued", "I", false)
def tyX1 : Nat → FieldType := fun k => match k with
  | 0 => .object "java/util/ArrayList"
  | 1 => .array .int
  | 2 => .array .int
  | 3 => .array .int
  | _ => .int
abbrev wsX10 : List Cond := u_ws RX1 TX1 5
theorem nmX1 : ∀ a, a < 5 → ∀ b, b < 5 → a ≠ b → (TX1 a).2.1 ≠ (TX1 b).2.1 := by decide +kernel
theorem tyX1_ok : ∀ k, k < 5 → parseFieldDescriptor (TX1 k).2.2.1 = some (tyX1 k) := by decide +kernel
abbrev cX1_init : ByteArray := prog_3_method_1_code
def yX1_init : MethodName := ⟨RX1, "<init>", "()V"⟩
abbrev cX1_size : ByteArray := prog_3_method_2_code
def yX1_size : MethodName := ⟨RX1, "size", "()I"⟩
abbrev cX1_sizeOut : ByteArray := prog_3_method_3_code
def yX1_sizeOut : MethodName := ⟨RX1, "sizeOut", "()I"⟩
abbrev cX1_numbered : ByteArray := prog_3_method_4_code
def yX1_numbered : MethodName := ⟨RX1, "numbered", "(I)LMarketAwnings$Awning;"⟩
abbrev cX1_append : ByteArray := prog_3_method_5_code
def yX1_append : MethodName := ⟨RX1, "append", "(LMarketAwnings$Awning;)V"⟩
abbrev cX1_drop : ByteArray := prog_3_method_6_code
def yX1_drop : MethodName := ⟨RX1, "drop", "(I)V"⟩
abbrev cX1_layOut : ByteArray := prog_3_method_7_code
def yX1_layOut : MethodName := ⟨RX1, "layOut", "()V"⟩
abbrev cX1_layOver : ByteArray := prog_3_method_8_code
def yX1_layOver : MethodName := ⟨RX1, "layOver", "(LMarketAwnings$Awning;)V"⟩
abbrev cX1_layersAt : ByteArray := prog_3_method_9_code
def yX1_layersAt : MethodName := ⟨RX1, "layersAt", "(II)I"⟩
abbrev cX1_highestBelow : ByteArray := prog_3_method_10_code
def yX1_highestBelow : MethodName := ⟨RX1, "highestBelow", "(III)I"⟩
abbrev cX1_covered : ByteArray := prog_3_method_11_code
def yX1_covered : MethodName := ⟨RX1, "covered", "()I"⟩
abbrev cX1_cellsWithLayers : ByteArray := prog_3_method_12_code
def yX1_cellsWithLayers : MethodName := ⟨RX1, "cellsWithLayers", "(I)I"⟩
abbrev cX1_coveredOnlyBy : ByteArray := prog_3_method_13_code
def yX1_coveredOnlyBy : MethodName := ⟨RX1, "coveredOnlyBy", "(LMarketAwnings$Awning;)I"⟩
abbrev cX1_notCoveredIn : ByteArray := prog_3_method_14_code
def yX1_notCoveredIn : MethodName := ⟨RX1, "notCoveredIn", "(IIII)I"⟩
abbrev cX1_outline : ByteArray := prog_3_method_15_code
def yX1_outline : MethodName := ⟨RX1, "outline", "()I"⟩
abbrev cX1_openSides : ByteArray := prog_3_method_16_code
def yX1_openSides : MethodName := ⟨RX1, "openSides", "(II)I"⟩
abbrev cX1_openAt : ByteArray := prog_3_method_17_code
def yX1_openAt : MethodName := ⟨RX1, "openAt", "(II)I"⟩
abbrev cX1_parts : ByteArray := prog_3_method_18_code
def yX1_parts : MethodName := ⟨RX1, "parts", "()I"⟩
abbrev cX1_reachAllFromQueue : ByteArray := prog_3_method_19_code
def yX1_reachAllFromQueue : MethodName := ⟨RX1, "reachAllFromQueue", "()V"⟩
abbrev cX1_reach : ByteArray := prog_3_method_20_code
def yX1_reach : MethodName := ⟨RX1, "reach", "(II)V"⟩
abbrev cX1_coveredInColumn : ByteArray := prog_3_method_21_code
def yX1_coveredInColumn : MethodName := ⟨RX1, "coveredInColumn", "(I)I"⟩
abbrev cX1_runsInColumn : ByteArray := prog_3_method_22_code
def yX1_runsInColumn : MethodName := ⟨RX1, "runsInColumn", "(I)I"⟩
abbrev cX1_longestRunInColumn : ByteArray := prog_3_method_23_code
def yX1_longestRunInColumn : MethodName := ⟨RX1, "longestRunInColumn", "(I)I"⟩
abbrev cX1_mostLayersInColumn : ByteArray := prog_3_method_24_code
def yX1_mostLayersInColumn : MethodName := ⟨RX1, "mostLayersInColumn", "(I)I"⟩
def RX2 : String := "MarketAwnings$Shower"
def TX2 : u_T := fun k => match k with
  | 0 => ("MarketAwnings$Shower", "canopy", "LMarketAwnings$Canopy;", true)
  | 1 => ("MarketAwnings$Shower", "fallen", "[I", true)
  | 2 => ("MarketAwnings$Shower", "caught", "[I", true)
  | 3 => ("MarketAwnings$Shower", "onGround", "I", false)
  | _ => ("MarketAwnings$Shower", "ranOff", "I", false)
def tyX2 : Nat → FieldType := fun k => match k with
  | 0 => .object "MarketAwnings$Canopy"
  | 1 => .array .int
  | 2 => .array .int
  | 3 => .int
  | _ => .int
abbrev wsX20 : List Cond := u_ws RX2 TX2 5
theorem nmX2 : ∀ a, a < 5 → ∀ b, b < 5 → a ≠ b → (TX2 a).2.1 ≠ (TX2 b).2.1 := by decide +kernel
theorem tyX2_ok : ∀ k, k < 5 → parseFieldDescriptor (TX2 k).2.2.1 = some (tyX2 k) := by decide +kernel
abbrev cX2_init : ByteArray := prog_4_method_1_code
def yX2_init : MethodName := ⟨RX2, "<init>", "(LMarketAwnings$Canopy;)V"⟩
abbrev cX2_pour : ByteArray := prog_4_method_2_code
def yX2_pour : MethodName := ⟨RX2, "pour", "(I)V"⟩
abbrev cX2_fallenAt : ByteArray := prog_4_method_3_code
def yX2_fallenAt : MethodName := ⟨RX2, "fallenAt", "(II)I"⟩
abbrev cX2_caughtBy : ByteArray := prog_4_method_4_code
def yX2_caughtBy : MethodName := ⟨RX2, "caughtBy", "(I)I"⟩
abbrev cX2_dry : ByteArray := prog_4_method_5_code
def yX2_dry : MethodName := ⟨RX2, "dry", "()V"⟩
abbrev cX2_dripFromLevel : ByteArray := prog_4_method_6_code
def yX2_dripFromLevel : MethodName := ⟨RX2, "dripFromLevel", "(I)V"⟩
abbrev cX2_drip : ByteArray := prog_4_method_7_code
def yX2_drip : MethodName := ⟨RX2, "drip", "(LMarketAwnings$Awning;I)V"⟩
abbrev cX2_land : ByteArray := prog_4_method_8_code
def yX2_land : MethodName := ⟨RX2, "land", "(IIII)V"⟩
def RX3 : String := "MarketAwnings$Stall"
def TX3 : u_T := fun k => match k with
  | 0 => ("MarketAwnings$Stall", "x", "I", true)
  | 1 => ("MarketAwnings$Stall", "y", "I", true)
  | _ => ("MarketAwnings$Stall", "groundBefore", "I", true)
def tyX3 : Nat → FieldType := fun k => match k with
  | 0 => .int
  | 1 => .int
  | _ => .int
abbrev wsX30 : List Cond := u_ws RX3 TX3 3
theorem nmX3 : ∀ a, a < 3 → ∀ b, b < 3 → a ≠ b → (TX3 a).2.1 ≠ (TX3 b).2.1 := by decide +kernel
theorem tyX3_ok : ∀ k, k < 3 → parseFieldDescriptor (TX3 k).2.2.1 = some (tyX3 k) := by decide +kernel
abbrev cX3_init : ByteArray := prog_5_method_1_code
def yX3_init : MethodName := ⟨RX3, "<init>", "(III)V"⟩
def RX4 : String := "MarketAwnings"
def TX4 : u_T := fun k => match k with
  | 0 => ("MarketAwnings", "canopy", "LMarketAwnings$Canopy;", true)
  | 1 => ("MarketAwnings", "shower", "LMarketAwnings$Shower;", true)
  | 2 => ("MarketAwnings", "stalls", "Ljava/util/ArrayList;", true)
  | 3 => ("MarketAwnings", "ground", "[I", true)
  | 4 => ("MarketAwnings", "hours", "I", false)
  | 5 => ("MarketAwnings", "groundDrops", "I", false)
  | _ => ("MarketAwnings", "offDrops", "I", false)
def tyX4 : Nat → FieldType := fun k => match k with
  | 0 => .object "MarketAwnings$Canopy"
  | 1 => .object "MarketAwnings$Shower"
  | 2 => .object "java/util/ArrayList"
  | 3 => .array .int
  | 4 => .int
  | 5 => .int
  | _ => .int
abbrev wsX40 : List Cond := u_ws RX4 TX4 7
theorem nmX4 : ∀ a, a < 7 → ∀ b, b < 7 → a ≠ b → (TX4 a).2.1 ≠ (TX4 b).2.1 := by decide +kernel
theorem tyX4_ok : ∀ k, k < 7 → parseFieldDescriptor (TX4 k).2.2.1 = some (tyX4 k) := by decide +kernel
abbrev cX4_init : ByteArray := prog_1_method_1_code
def yX4_init : MethodName := ⟨RX4, "<init>", "()V"⟩
abbrev cX4_hang : ByteArray := prog_1_method_2_code
def yX4_hang : MethodName := ⟨RX4, "hang", "(IIIIII)I"⟩
abbrev cX4_roll : ByteArray := prog_1_method_3_code
def yX4_roll : MethodName := ⟨RX4, "roll", "(I)Z"⟩
abbrev cX4_move : ByteArray := prog_1_method_4_code
def yX4_move : MethodName := ⟨RX4, "move", "(III)I"⟩
abbrev cX4_take : ByteArray := prog_1_method_5_code
def yX4_take : MethodName := ⟨RX4, "take", "(I)I"⟩
abbrev cX4_stall : ByteArray := prog_1_method_6_code
def yX4_stall : MethodName := ⟨RX4, "stall", "(II)I"⟩
abbrev cX4_rain : ByteArray := prog_1_method_7_code
def yX4_rain : MethodName := ⟨RX4, "rain", "(I)I"⟩
abbrev cX4_about : ByteArray := prog_1_method_8_code
def yX4_about : MethodName := ⟨RX4, "about", "(II)I"⟩
abbrev cX4_cell : ByteArray := prog_1_method_9_code
def yX4_cell : MethodName := ⟨RX4, "cell", "(III)I"⟩
abbrev cX4_cord : ByteArray := prog_1_method_10_code
def yX4_cord : MethodName := ⟨RX4, "cord", "(II)I"⟩
abbrev cX4_told : ByteArray := prog_1_method_11_code
def yX4_told : MethodName := ⟨RX4, "told", "(II)I"⟩
abbrev cX4_share : ByteArray := prog_1_method_12_code
def yX4_share : MethodName := ⟨RX4, "share", "(II)I"⟩
abbrev cX4_count : ByteArray := prog_1_method_13_code
def yX4_count : MethodName := ⟨RX4, "count", "(I)I"⟩
abbrev cX4_would : ByteArray := prog_1_method_14_code
def yX4_would : MethodName := ⟨RX4, "would", "(II)I"⟩
abbrev cX4_best : ByteArray := prog_1_method_15_code
def yX4_best : MethodName := ⟨RX4, "best", "(III)I"⟩
abbrev cX4_advise : ByteArray := prog_1_method_16_code
def yX4_advise : MethodName := ⟨RX4, "advise", "()I"⟩
abbrev cX4_mean : ByteArray := prog_1_method_17_code
def yX4_mean : MethodName := ⟨RX4, "mean", "()D"⟩
abbrev cX4_digest : ByteArray := prog_1_method_18_code
def yX4_digest : MethodName := ⟨RX4, "digest", "()J"⟩
abbrev cX4_digestOfColumn : ByteArray := prog_1_method_19_code
def yX4_digestOfColumn : MethodName := ⟨RX4, "digestOfColumn", "(JI)J"⟩
abbrev cX4_numberedStall : ByteArray := prog_1_method_20_code
def yX4_numberedStall : MethodName := ⟨RX4, "numberedStall", "(I)LMarketAwnings$Stall;"⟩
abbrev cX4_hasStallAt : ByteArray := prog_1_method_21_code
def yX4_hasStallAt : MethodName := ⟨RX4, "hasStallAt", "(II)Z"⟩
abbrev cX4_stallsNotCovered : ByteArray := prog_1_method_22_code
def yX4_stallsNotCovered : MethodName := ⟨RX4, "stallsNotCovered", "()I"⟩
abbrev cX4_gotBy : ByteArray := prog_1_method_23_code
def yX4_gotBy : MethodName := ⟨RX4, "gotBy", "(LMarketAwnings$Stall;)I"⟩
abbrev cX4_groundAt : ByteArray := prog_1_method_24_code
def yX4_groundAt : MethodName := ⟨RX4, "groundAt", "(II)I"⟩
abbrev cX4_isCell : ByteArray := prog_1_method_25_code
def yX4_isCell : MethodName := ⟨RX4, "isCell", "(II)Z"⟩
abbrev cX4_requireCell : ByteArray := prog_1_method_26_code
def yX4_requireCell : MethodName := ⟨RX4, "requireCell", "(II)V"⟩
abbrev cX4_requireExtent : ByteArray := prog_1_method_27_code
def yX4_requireExtent : MethodName := ⟨RX4, "requireExtent", "(II)V"⟩
abbrev cX4_requireRoomInSquare : ByteArray := prog_1_method_28_code
def yX4_requireRoomInSquare : MethodName := ⟨RX4, "requireRoomInSquare", "(IIII)V"⟩
abbrev cX4_requireDrops : ByteArray := prog_1_method_29_code
def yX4_requireDrops : MethodName := ⟨RX4, "requireDrops", "(I)V"⟩
abbrev cX4_requireWhat : ByteArray := prog_1_method_30_code
def yX4_requireWhat : MethodName := ⟨RX4, "requireWhat", "(II)V"⟩
def RX5 : String := "MarketAwningsModel"
def TX5 : u_T := fun k => match k with
  | 0 => ("MarketAwningsModel", "thrown", "I", false)
  | 1 => ("MarketAwningsModel", "awnings", "I", false)
  | 2 => ("MarketAwningsModel", "sheet", "[I", true)
  | 3 => ("MarketAwningsModel", "stalls", "I", false)
  | 4 => ("MarketAwningsModel", "at", "[I", true)
  | 5 => ("MarketAwningsModel", "had", "[I", true)
  | 6 => ("MarketAwningsModel", "ground", "[I", true)
  | 7 => ("MarketAwningsModel", "hours", "I", false)
  | 8 => ("MarketAwningsModel", "ranOff", "I", false)
  | 9 => ("MarketAwningsModel", "fell", "[I", true)
  | _ => ("MarketAwningsModel", "load", "[I", true)
def tyX5 : Nat → FieldType := fun k => match k with
  | 0 => .int
  | 1 => .int
  | 2 => .array .int
  | 3 => .int
  | 4 => .array .int
  | 5 => .array .int
  | 6 => .array .int
  | 7 => .int
  | 8 => .int
  | 9 => .array .int
  | _ => .array .int
abbrev wsX50 : List Cond := u_ws RX5 TX5 11
theorem nmX5 : ∀ a, a < 11 → ∀ b, b < 11 → a ≠ b → (TX5 a).2.1 ≠ (TX5 b).2.1 := by decide +kernel
theorem tyX5_ok : ∀ k, k < 11 → parseFieldDescriptor (TX5 k).2.2.1 = some (tyX5 k) := by decide +kernel
abbrev cX5_init : ByteArray := prog_7_method_1_code
def yX5_init : MethodName := ⟨RX5, "<init>", "()V"⟩
abbrev cX5_thrown : ByteArray := prog_7_method_2_code
def yX5_thrown : MethodName := ⟨RX5, "thrown", "()I"⟩
abbrev cX5_no : ByteArray := prog_7_method_3_code
def yX5_no : MethodName := ⟨RX5, "no", "(I)I"⟩
abbrev cX5_isIn : ByteArray := prog_7_method_4_code
def yX5_isIn : MethodName := ⟨RX5, "isIn", "(III)Z"⟩
abbrev cX5_isCell : ByteArray := prog_7_method_5_code
def yX5_isCell : MethodName := ⟨RX5, "isCell", "(II)Z"⟩
abbrev cX5_fits : ByteArray := prog_7_method_6_code
def yX5_fits : MethodName := ⟨RX5, "fits", "(IIII)Z"⟩
abbrev cX5_isAwning : ByteArray := prog_7_method_7_code
def yX5_isAwning : MethodName := ⟨RX5, "isAwning", "(I)Z"⟩
abbrev cX5_isStall : ByteArray := prog_7_method_8_code
def yX5_isStall : MethodName := ⟨RX5, "isStall", "(I)Z"⟩
abbrev cX5_of : ByteArray := prog_7_method_9_code
def yX5_of : MethodName := ⟨RX5, "of", "(II)I"⟩
abbrev cX5_isOut : ByteArray := prog_7_method_10_code
def yX5_isOut : MethodName := ⟨RX5, "isOut", "(I)Z"⟩
abbrev cX5_many : ByteArray := prog_7_method_11_code
def yX5_many : MethodName := ⟨RX5, "many", "(I)I"⟩
abbrev cX5_rows : ByteArray := prog_7_method_12_code
def yX5_rows : MethodName := ⟨RX5, "rows", "(II)I"⟩
abbrev cX5_bits : ByteArray := prog_7_method_13_code
def yX5_bits : MethodName := ⟨RX5, "bits", "(II)I"⟩
abbrev cX5_covered : ByteArray := prog_7_method_14_code
def yX5_covered : MethodName := ⟨RX5, "covered", "(II)I"⟩
abbrev cX5_covered_ : ByteArray := prog_7_method_15_code
def yX5_covered_ : MethodName := ⟨RX5, "covered", "(I)I"⟩
abbrev cX5_lying : ByteArray := prog_7_method_16_code
def yX5_lying : MethodName := ⟨RX5, "lying", "(II)I"⟩
abbrev cX5_below : ByteArray := prog_7_method_17_code
def yX5_below : MethodName := ⟨RX5, "below", "(I)I"⟩
abbrev cX5_isHigher : ByteArray := prog_7_method_18_code
def yX5_isHigher : MethodName := ⟨RX5, "isHigher", "(II)Z"⟩
abbrev cX5_highest : ByteArray := prog_7_method_19_code
def yX5_highest : MethodName := ⟨RX5, "highest", "(III)I"⟩
abbrev cX5_fall : ByteArray := prog_7_method_20_code
def yX5_fall : MethodName := ⟨RX5, "fall", "(IIII)V"⟩
abbrev cX5_drip : ByteArray := prog_7_method_21_code
def yX5_drip : MethodName := ⟨RX5, "drip", "(I)I"⟩
abbrev cX5_pour : ByteArray := prog_7_method_22_code
def yX5_pour : MethodName := ⟨RX5, "pour", "(I)I"⟩
abbrev cX5_hang : ByteArray := prog_7_method_23_code
def yX5_hang : MethodName := ⟨RX5, "hang", "(IIIIII)I"⟩
abbrev cX5_roll : ByteArray := prog_7_method_24_code
def yX5_roll : MethodName := ⟨RX5, "roll", "(I)Z"⟩
abbrev cX5_move : ByteArray := prog_7_method_25_code
def yX5_move : MethodName := ⟨RX5, "move", "(III)I"⟩
abbrev cX5_take : ByteArray := prog_7_method_26_code
def yX5_take : MethodName := ⟨RX5, "take", "(I)I"⟩
abbrev cX5_stall : ByteArray := prog_7_method_27_code
def yX5_stall : MethodName := ⟨RX5, "stall", "(II)I"⟩
abbrev cX5_rain : ByteArray := prog_7_method_28_code
def yX5_rain : MethodName := ⟨RX5, "rain", "(I)I"⟩
abbrev cX5_own : ByteArray := prog_7_method_29_code
def yX5_own : MethodName := ⟨RX5, "own", "(I)I"⟩
abbrev cX5_awningTold : ByteArray := prog_7_method_30_code
def yX5_awningTold : MethodName := ⟨RX5, "awningTold", "(II)I"⟩
abbrev cX5_about : ByteArray := prog_7_method_31_code
def yX5_about : MethodName := ⟨RX5, "about", "(II)I"⟩
abbrev cX5_cellTold : ByteArray := prog_7_method_32_code
def yX5_cellTold : MethodName := ⟨RX5, "cellTold", "(III)I"⟩
abbrev cX5_cell : ByteArray := prog_7_method_33_code
def yX5_cell : MethodName := ⟨RX5, "cell", "(III)I"⟩
abbrev cX5_longest : ByteArray := prog_7_method_34_code
def yX5_longest : MethodName := ⟨RX5, "longest", "(I)I"⟩
abbrev cX5_deepest : ByteArray := prog_7_method_35_code
def yX5_deepest : MethodName := ⟨RX5, "deepest", "(I)I"⟩
abbrev cX5_cordTold : ByteArray := prog_7_method_36_code
def yX5_cordTold : MethodName := ⟨RX5, "cordTold", "(II)I"⟩
abbrev cX5_cord : ByteArray := prog_7_method_37_code
def yX5_cord : MethodName := ⟨RX5, "cord", "(II)I"⟩
abbrev cX5_got : ByteArray := prog_7_method_38_code
def yX5_got : MethodName := ⟨RX5, "got", "(I)I"⟩
abbrev cX5_stallTold : ByteArray := prog_7_method_39_code
def yX5_stallTold : MethodName := ⟨RX5, "stallTold", "(II)I"⟩
abbrev cX5_told : ByteArray := prog_7_method_40_code
def yX5_told : MethodName := ⟨RX5, "told", "(II)I"⟩
abbrev cX5_share : ByteArray := prog_7_method_41_code
def yX5_share : MethodName := ⟨RX5, "share", "(II)I"⟩
abbrev cX5_outline : ByteArray := prog_7_method_42_code
def yX5_outline : MethodName := ⟨RX5, "outline", "()I"⟩
abbrev cX5_parts : ByteArray := prog_7_method_43_code
def yX5_parts : MethodName := ⟨RX5, "parts", "()I"⟩
abbrev cX5_spreads : ByteArray := prog_7_method_44_code
def yX5_spreads : MethodName := ⟨RX5, "spreads", "([I[I)Z"⟩
abbrev cX5_sumOf : ByteArray := prog_7_method_45_code
def yX5_sumOf : MethodName := ⟨RX5, "sumOf", "(I)I"⟩
abbrev cX5_out : ByteArray := prog_7_method_46_code
def yX5_out : MethodName := ⟨RX5, "out", "()I"⟩
abbrev cX5_open : ByteArray := prog_7_method_47_code
def yX5_open : MethodName := ⟨RX5, "open", "()I"⟩
abbrev cX5_counted : ByteArray := prog_7_method_48_code
def yX5_counted : MethodName := ⟨RX5, "counted", "(I)I"⟩
abbrev cX5_count : ByteArray := prog_7_method_49_code
def yX5_count : MethodName := ⟨RX5, "count", "(I)I"⟩
abbrev cX5_would : ByteArray := prog_7_method_50_code
def yX5_would : MethodName := ⟨RX5, "would", "(II)I"⟩
abbrev cX5_best : ByteArray := prog_7_method_51_code
def yX5_best : MethodName := ⟨RX5, "best", "(III)I"⟩
abbrev cX5_advise : ByteArray := prog_7_method_52_code
def yX5_advise : MethodName := ⟨RX5, "advise", "()I"⟩
abbrev cX5_mean : ByteArray := prog_7_method_53_code
def yX5_mean : MethodName := ⟨RX5, "mean", "()D"⟩
abbrev cX5_digest : ByteArray := prog_7_method_54_code
def yX5_digest : MethodName := ⟨RX5, "digest", "()J"⟩
def RJx145de : String := "java/io/Serializable"
def TJx145de : u_T := fun k => match k with
  | _ => ("", "", "", false)
def tyJx145de : Nat → FieldType := fun k => match k with
  | _ => .int
abbrev wsJx145de0 : List Cond := u_ws RJx145de TJx145de 0
theorem nmJx145de : ∀ a, a < 0 → ∀ b, b < 0 → a ≠ b → (TJx145de a).2.1 ≠ (TJx145de b).2.1 := by decide +kernel
theorem tyJx145de_ok : ∀ k, k < 0 → parseFieldDescriptor (TJx145de k).2.2.1 = some (tyJx145de k) := by decide +kernel
def RJx8e188 : String := "java/lang/Cloneable"
def TJx8e188 : u_T := fun k => match k with
  | _ => ("", "", "", false)
def tyJx8e188 : Nat → FieldType := fun k => match k with
  | _ => .int
abbrev wsJx8e1880 : List Cond := u_ws RJx8e188 TJx8e188 0
theorem nmJx8e188 : ∀ a, a < 0 → ∀ b, b < 0 → a ≠ b → (TJx8e188 a).2.1 ≠ (TJx8e188 b).2.1 := by decide +kernel
theorem tyJx8e188_ok : ∀ k, k < 0 → parseFieldDescriptor (TJx8e188 k).2.2.1 = some (tyJx8e188 k) := by decide +kernel
def RJxab1ab : String := "java/lang/Iterable"
def TJxab1ab : u_T := fun k => match k with
  | _ => ("", "", "", false)
def tyJxab1ab : Nat → FieldType := fun k => match k with
  | _ => .int
abbrev wsJxab1ab0 : List Cond := u_ws RJxab1ab TJxab1ab 0
theorem nmJxab1ab : ∀ a, a < 0 → ∀ b, b < 0 → a ≠ b → (TJxab1ab a).2.1 ≠ (TJxab1ab b).2.1 := by decide +kernel
theorem tyJxab1ab_ok : ∀ k, k < 0 → parseFieldDescriptor (TJxab1ab k).2.2.1 = some (tyJxab1ab k) := by decide +kernel
def RJ9 : String := "java/lang/Math"
def TJ9 : u_T := fun k => match k with
  | _ => ("", "", "", false)
def tyJ9 : Nat → FieldType := fun k => match k with
  | _ => .int
abbrev wsJ90 : List Cond := u_ws RJ9 TJ9 0
theorem nmJ9 : ∀ a, a < 0 → ∀ b, b < 0 → a ≠ b → (TJ9 a).2.1 ≠ (TJ9 b).2.1 := by decide +kernel
theorem tyJ9_ok : ∀ k, k < 0 → parseFieldDescriptor (TJ9 k).2.2.1 = some (tyJ9 k) := by decide +kernel
abbrev cJ9_max_7cf53 : ByteArray := prog_15_method_65_code
def yJ9_max_7cf53 : MethodName := ⟨RJ9, "max", "(II)I"⟩
abbrev cJ9_min_7cf53 : ByteArray := prog_15_method_69_code
def yJ9_min_7cf53 : MethodName := ⟨RJ9, "min", "(II)I"⟩
def RJ0 : String := "java/lang/String"
def TJ0 : u_T := fun k => match k with
  | _ => ("", "", "", false)
def tyJ0 : Nat → FieldType := fun k => match k with
  | _ => .int
abbrev wsJ00 : List Cond := u_ws RJ0 TJ0 0
theorem nmJ0 : ∀ a, a < 0 → ∀ b, b < 0 → a ≠ b → (TJ0 a).2.1 ≠ (TJ0 b).2.1 := by decide +kernel
theorem tyJ0_ok : ∀ k, k < 0 → parseFieldDescriptor (TJ0 k).2.2.1 = some (tyJ0 k) := by decide +kernel
def RJ10 : String := "java/lang/System"
def TJ10 : u_T := fun k => match k with
  | _ => ("", "", "", false)
def tyJ10 : Nat → FieldType := fun k => match k with
  | _ => .int
abbrev wsJ100 : List Cond := u_ws RJ10 TJ10 0
theorem nmJ10 : ∀ a, a < 0 → ∀ b, b < 0 → a ≠ b → (TJ10 a).2.1 ≠ (TJ10 b).2.1 := by decide +kernel
theorem tyJ10_ok : ∀ k, k < 0 → parseFieldDescriptor (TJ10 k).2.2.1 = some (tyJ10 k) := by decide +kernel
def RJxa1e45 : String := "java/util/AbstractCollection"
def TJxa1e45 : u_T := fun k => match k with
  | _ => ("", "", "", false)
def tyJxa1e45 : Nat → FieldType := fun k => match k with
  | _ => .int
abbrev wsJxa1e450 : List Cond := u_ws RJxa1e45 TJxa1e45 0
theorem nmJxa1e45 : ∀ a, a < 0 → ∀ b, b < 0 → a ≠ b → (TJxa1e45 a).2.1 ≠ (TJxa1e45 b).2.1 := by decide +kernel
theorem tyJxa1e45_ok : ∀ k, k < 0 → parseFieldDescriptor (TJxa1e45 k).2.2.1 = some (tyJxa1e45 k) := by decide +kernel
abbrev cJxa1e45_init_da8c8 : ByteArray := prog_20_method_1_code
def yJxa1e45_init_da8c8 : MethodName := ⟨RJxa1e45, "<init>", "()V"⟩
def RJxc12de : String := "java/util/AbstractList"
def TJxc12de : u_T := fun k => match k with
  | _ => ("", "", "", false)
def tyJxc12de : Nat → FieldType := fun k => match k with
  | _ => .int
abbrev wsJxc12de0 : List Cond := u_ws RJxc12de TJxc12de 0
theorem nmJxc12de : ∀ a, a < 0 → ∀ b, b < 0 → a ≠ b → (TJxc12de a).2.1 ≠ (TJxc12de b).2.1 := by decide +kernel
theorem tyJxc12de_ok : ∀ k, k < 0 → parseFieldDescriptor (TJxc12de k).2.2.1 = some (tyJxc12de k) := by decide +kernel
abbrev cJxc12de_init_da8c8 : ByteArray := prog_21_method_1_code
def yJxc12de_init_da8c8 : MethodName := ⟨RJxc12de, "<init>", "()V"⟩
def RJx4a65c : String := "java/util/ArrayList"
def TJx4a65c : u_T := fun k => match k with
  | 0 => ("java/util/AbstractList", "modCount", "I", false)
  | 1 => ("java/util/ArrayList", "elementData", "[Ljava/lang/Object;", false)
  | _ => ("java/util/ArrayList", "size", "I", false)
def tyJx4a65c : Nat → FieldType := fun k => match k with
  | 0 => .int
  | 1 => .array (.object "java/lang/Object")
  | _ => .int
abbrev wsJx4a65c0 : List Cond := u_ws RJx4a65c TJx4a65c 3
theorem nmJx4a65c : ∀ a, a < 3 → ∀ b, b < 3 → a ≠ b → (TJx4a65c a).2.1 ≠ (TJx4a65c b).2.1 := by decide +kernel
theorem tyJx4a65c_ok : ∀ k, k < 3 → parseFieldDescriptor (TJx4a65c k).2.2.1 = some (tyJx4a65c k) := by decide +kernel
abbrev cJx4a65c_init_da8c8 : ByteArray := prog_22_method_2_code
def yJx4a65c_init_da8c8 : MethodName := ⟨RJx4a65c, "<init>", "()V"⟩
abbrev cJx4a65c_grow_92f84 : ByteArray := prog_22_method_6_code
def yJx4a65c_grow_92f84 : MethodName := ⟨RJx4a65c, "grow", "(I)[Ljava/lang/Object;"⟩
abbrev cJx4a65c_grow_d5877 : ByteArray := prog_22_method_7_code
def yJx4a65c_grow_d5877 : MethodName := ⟨RJx4a65c, "grow", "()[Ljava/lang/Object;"⟩
abbrev cJx4a65c_size_8abf5 : ByteArray := prog_22_method_8_code
def yJx4a65c_size_8abf5 : MethodName := ⟨RJx4a65c, "size", "()I"⟩
abbrev cJx4a65c_elementData_915e3 : ByteArray := prog_22_method_18_code
def yJx4a65c_elementData_915e3 : MethodName := ⟨RJx4a65c, "elementData", "(I)Ljava/lang/Object;"⟩
abbrev cJx4a65c_get_915e3 : ByteArray := prog_22_method_20_code
def yJx4a65c_get_915e3 : MethodName := ⟨RJx4a65c, "get", "(I)Ljava/lang/Object;"⟩
abbrev cJx4a65c_add_72be8 : ByteArray := prog_22_method_24_code
def yJx4a65c_add_72be8 : MethodName := ⟨RJx4a65c, "add", "(Ljava/lang/Object;[Ljava/lang/Object;I)V"⟩
abbrev cJx4a65c_add_9ea2d : ByteArray := prog_22_method_25_code
def yJx4a65c_add_9ea2d : MethodName := ⟨RJx4a65c, "add", "(Ljava/lang/Object;)Z"⟩
abbrev cJx4a65c_remove_915e3 : ByteArray := prog_22_method_29_code
def yJx4a65c_remove_915e3 : MethodName := ⟨RJx4a65c, "remove", "(I)Ljava/lang/Object;"⟩
abbrev cJx4a65c_fastRemove_b59b0 : ByteArray := prog_22_method_39_code
def yJx4a65c_fastRemove_b59b0 : MethodName := ⟨RJx4a65c, "fastRemove", "([Ljava/lang/Object;I)V"⟩
def RJ7 : String := "java/util/Arrays"
def TJ7 : u_T := fun k => match k with
  | _ => ("", "", "", false)
def tyJ7 : Nat → FieldType := fun k => match k with
  | _ => .int
abbrev wsJ70 : List Cond := u_ws RJ7 TJ7 0
theorem nmJ7 : ∀ a, a < 0 → ∀ b, b < 0 → a ≠ b → (TJ7 a).2.1 ≠ (TJ7 b).2.1 := by decide +kernel
theorem tyJ7_ok : ∀ k, k < 0 → parseFieldDescriptor (TJ7 k).2.2.1 = some (tyJ7 k) := by decide +kernel
abbrev cJ7_fill_53178 : ByteArray := prog_23_method_103_code
def yJ7_fill_53178 : MethodName := ⟨RJ7, "fill", "([II)V"⟩
abbrev cJ7_copyOf_1904c : ByteArray := prog_23_method_119_code
def yJ7_copyOf_1904c : MethodName := ⟨RJ7, "copyOf", "([Ljava/lang/Object;I)[Ljava/lang/Object;"⟩
abbrev cJ7_copyOf_6403c : ByteArray := prog_23_method_120_code
def yJ7_copyOf_6403c : MethodName := ⟨RJ7, "copyOf", "([Ljava/lang/Object;ILjava/lang/Class;)[Ljava/lang/Object;"⟩
def RJx5ef63 : String := "java/util/Collection"
def TJx5ef63 : u_T := fun k => match k with
  | _ => ("", "", "", false)
def tyJx5ef63 : Nat → FieldType := fun k => match k with
  | _ => .int
abbrev wsJx5ef630 : List Cond := u_ws RJx5ef63 TJx5ef63 0
theorem nmJx5ef63 : ∀ a, a < 0 → ∀ b, b < 0 → a ≠ b → (TJx5ef63 a).2.1 ≠ (TJx5ef63 b).2.1 := by decide +kernel
theorem tyJx5ef63_ok : ∀ k, k < 0 → parseFieldDescriptor (TJx5ef63 k).2.2.1 = some (tyJx5ef63 k) := by decide +kernel
def RJxbd725 : String := "java/util/List"
def TJxbd725 : u_T := fun k => match k with
  | _ => ("", "", "", false)
def tyJxbd725 : Nat → FieldType := fun k => match k with
  | _ => .int
abbrev wsJxbd7250 : List Cond := u_ws RJxbd725 TJxbd725 0
theorem nmJxbd725 : ∀ a, a < 0 → ∀ b, b < 0 → a ≠ b → (TJxbd725 a).2.1 ≠ (TJxbd725 b).2.1 := by decide +kernel
theorem tyJxbd725_ok : ∀ k, k < 0 → parseFieldDescriptor (TJxbd725 k).2.2.1 = some (tyJxbd725 k) := by decide +kernel
def RJ15 : String := "java/util/Objects"
def TJ15 : u_T := fun k => match k with
  | _ => ("", "", "", false)
def tyJ15 : Nat → FieldType := fun k => match k with
  | _ => .int
abbrev wsJ150 : List Cond := u_ws RJ15 TJ15 0
theorem nmJ15 : ∀ a, a < 0 → ∀ b, b < 0 → a ≠ b → (TJ15 a).2.1 ≠ (TJ15 b).2.1 := by decide +kernel
theorem tyJ15_ok : ∀ k, k < 0 → parseFieldDescriptor (TJ15 k).2.2.1 = some (tyJ15 k) := by decide +kernel
abbrev cJ15_checkIndex_7cf53 : ByteArray := prog_26_method_17_code
def yJ15_checkIndex_7cf53 : MethodName := ⟨RJ15, "checkIndex", "(II)I"⟩
def RJxf0a74 : String := "java/util/RandomAccess"
def TJxf0a74 : u_T := fun k => match k with
  | _ => ("", "", "", false)
def tyJxf0a74 : Nat → FieldType := fun k => match k with
  | _ => .int
abbrev wsJxf0a740 : List Cond := u_ws RJxf0a74 TJxf0a74 0
theorem nmJxf0a74 : ∀ a, a < 0 → ∀ b, b < 0 → a ≠ b → (TJxf0a74 a).2.1 ≠ (TJxf0a74 b).2.1 := by decide +kernel
theorem tyJxf0a74_ok : ∀ k, k < 0 → parseFieldDescriptor (TJxf0a74 k).2.2.1 = some (tyJxf0a74 k) := by decide +kernel
def RJxa66e6 : String := "java/util/SequencedCollection"
def TJxa66e6 : u_T := fun k => match k with
  | _ => ("", "", "", false)
def tyJxa66e6 : Nat → FieldType := fun k => match k with
  | _ => .int
abbrev wsJxa66e60 : List Cond := u_ws RJxa66e6 TJxa66e6 0
theorem nmJxa66e6 : ∀ a, a < 0 → ∀ b, b < 0 → a ≠ b → (TJxa66e6 a).2.1 ≠ (TJxa66e6 b).2.1 := by decide +kernel
theorem tyJxa66e6_ok : ∀ k, k < 0 → parseFieldDescriptor (TJxa66e6 k).2.2.1 = some (tyJxa66e6 k) := by decide +kernel
def RJ8 : String := "jdk/internal/util/ArraysSupport"
def TJ8 : u_T := fun k => match k with
  | _ => ("", "", "", false)
def tyJ8 : Nat → FieldType := fun k => match k with
  | _ => .int
abbrev wsJ80 : List Cond := u_ws RJ8 TJ8 0
theorem nmJ8 : ∀ a, a < 0 → ∀ b, b < 0 → a ≠ b → (TJ8 a).2.1 ≠ (TJ8 b).2.1 := by decide +kernel
theorem tyJ8_ok : ∀ k, k < 0 → parseFieldDescriptor (TJ8 k).2.2.1 = some (tyJ8 k) := by decide +kernel
abbrev cJ8_newLength_cabcc : ByteArray := prog_29_method_27_code
def yJ8_newLength_cabcc : MethodName := ⟨RJ8, "newLength", "(III)I"⟩
abbrev cJ8_hugeLength_7cf53 : ByteArray := prog_29_method_28_code
def yJ8_hugeLength_7cf53 : MethodName := ⟨RJ8, "hugeLength", "(II)I"⟩
def RJ3 : String := "jdk/internal/util/Preconditions"
def TJ3 : u_T := fun k => match k with
  | _ => ("", "", "", false)
def tyJ3 : Nat → FieldType := fun k => match k with
  | _ => .int
abbrev wsJ30 : List Cond := u_ws RJ3 TJ3 0
theorem nmJ3 : ∀ a, a < 0 → ∀ b, b < 0 → a ≠ b → (TJ3 a).2.1 ≠ (TJ3 b).2.1 := by decide +kernel
theorem tyJ3_ok : ∀ k, k < 0 → parseFieldDescriptor (TJ3 k).2.2.1 = some (tyJ3 k) := by decide +kernel
abbrev cJ3_checkIndex_8e157 : ByteArray := prog_30_method_11_code
def yJ3_checkIndex_8e157 : MethodName := ⟨RJ3, "checkIndex", "(IILjava/util/function/BiFunction;)I"⟩
def RL : String := "MarketAwningsLaw"
abbrev cL_hang : ByteArray := method_3_code
def yL_hang : MethodName := ⟨RL, "hang", "(LMarketAwnings;IIIIII[J)I"⟩
abbrev cL_roll : ByteArray := method_4_code
def yL_roll : MethodName := ⟨RL, "roll", "(LMarketAwnings;I[J)I"⟩
abbrev cL_move : ByteArray := method_5_code
def yL_move : MethodName := ⟨RL, "move", "(LMarketAwnings;III[J)I"⟩
abbrev cL_take : ByteArray := method_6_code
def yL_take : MethodName := ⟨RL, "take", "(LMarketAwnings;I[J)I"⟩
abbrev cL_stall : ByteArray := method_7_code
def yL_stall : MethodName := ⟨RL, "stall", "(LMarketAwnings;II[J)I"⟩
abbrev cL_rain : ByteArray := method_8_code
def yL_rain : MethodName := ⟨RL, "rain", "(LMarketAwnings;I[J)I"⟩
abbrev cL_about : ByteArray := method_9_code
def yL_about : MethodName := ⟨RL, "about", "(LMarketAwnings;II[J)I"⟩
abbrev cL_cell : ByteArray := method_10_code
def yL_cell : MethodName := ⟨RL, "cell", "(LMarketAwnings;III[J)I"⟩
abbrev cL_cord : ByteArray := method_11_code
def yL_cord : MethodName := ⟨RL, "cord", "(LMarketAwnings;II[J)I"⟩
abbrev cL_told : ByteArray := method_12_code
def yL_told : MethodName := ⟨RL, "told", "(LMarketAwnings;II[J)I"⟩
abbrev cL_share : ByteArray := method_13_code
def yL_share : MethodName := ⟨RL, "share", "(LMarketAwnings;II[J)I"⟩
abbrev cL_count : ByteArray := method_14_code
def yL_count : MethodName := ⟨RL, "count", "(LMarketAwnings;I[J)I"⟩
abbrev cL_would : ByteArray := method_15_code
def yL_would : MethodName := ⟨RL, "would", "(LMarketAwnings;II[J)I"⟩
abbrev cL_best : ByteArray := method_16_code
def yL_best : MethodName := ⟨RL, "best", "(LMarketAwnings;III[J)I"⟩
abbrev cL_law : ByteArray := code
def yL_law : MethodName := ⟨RL, "law", "([I)Z"⟩
def wsL_law0_r1 : List Cond := [Cond.classLink RL 8 RX4, Cond.instantiable RX4 7, Cond.initialized RX4, Cond.classLink RL 63 RX5, Cond.instantiable RX5 11, Cond.initialized RX5, Cond.arrayClass .long, Cond.methodLink RL 62 yX4_init, Cond.instanceMethod yX4_init, Cond.code yX4_init cX4_init 1 none, Cond.methodLink RX4 3 objectInit, Cond.instanceMethod objectInit, Cond.code objectInit ⟨#[0xb1]⟩ 1 none, Cond.classLink RX4 9 RX1, Cond.instantiable RX1 5, Cond.initialized RX1, Cond.fieldLink RX4 12 "MarketAwnings" "canopy" "LMarketAwnings$Canopy;", Cond.classLink RX4 16 RX2, Cond.instantiable RX2 5, Cond.initialized RX2, Cond.fieldLink RX4 21 "MarketAwnings" "shower" "LMarketAwnings$Shower;", Cond.classLink RX4 25 RJx4a65c, Cond.instantiable RJx4a65c 3, Cond.initialized RJx4a65c]
def wsL_law0_r2 : List Cond := [Cond.fieldLink RX4 28 "MarketAwnings" "stalls" "Ljava/util/ArrayList;", Cond.arrayClass .int, Cond.fieldLink RX4 32 "MarketAwnings" "ground" "[I", Cond.fieldLink RX4 36 "MarketAwnings" "hours" "I", Cond.fieldLink RX4 40 "MarketAwnings" "groundDrops" "I", Cond.fieldLink RX4 43 "MarketAwnings" "offDrops" "I", Cond.methodLink RX4 11 yX1_init, Cond.instanceMethod yX1_init, Cond.code yX1_init cX1_init 1 none, Cond.methodLink RX1 3 objectInit, Cond.classLink RX1 9 RJx4a65c, Cond.fieldLink RX1 12 "MarketAwnings$Canopy" "awnings" "Ljava/util/ArrayList;", Cond.fieldLink RX1 18 "MarketAwnings$Canopy" "layers" "[I", Cond.fieldLink RX1 22 "MarketAwnings$Canopy" "reached" "[I", Cond.fieldLink RX1 25 "MarketAwnings$Canopy" "queue" "[I", Cond.fieldLink RX1 28 "MarketAwnings$Canopy" "queued" "I", Cond.methodLink RX1 11 yJx4a65c_init_da8c8, Cond.instanceMethod yJx4a65c_init_da8c8, Cond.code yJx4a65c_init_da8c8 cJx4a65c_init_da8c8 1 none, Cond.fieldLink RJx4a65c 39 "java/util/ArrayList" "DEFAULTCAPACITY_EMPTY_ELEMENTDATA" "[Ljava/lang/Object;", Cond.fieldLink RJx4a65c 9 "java/util/ArrayList" "elementData" "[Ljava/lang/Object;", Cond.methodLink RJx4a65c 1 yJxc12de_init_da8c8, Cond.instanceMethod yJxc12de_init_da8c8, Cond.initialized RJxc12de]
def wsL_law0_r3 : List Cond := [Cond.code yJxc12de_init_da8c8 cJxc12de_init_da8c8 1 none, Cond.fieldLink RJxc12de 7 "java/util/AbstractList" "modCount" "I", Cond.methodLink RJxc12de 1 yJxa1e45_init_da8c8, Cond.instanceMethod yJxa1e45_init_da8c8, Cond.initialized RJxa1e45, Cond.code yJxa1e45_init_da8c8 cJxa1e45_init_da8c8 1 none, Cond.methodLink RJxa1e45 1 objectInit, Cond.methodLink RX4 18 yX2_init, Cond.instanceMethod yX2_init, Cond.code yX2_init cX2_init 2 none, Cond.methodLink RX2 3 objectInit, Cond.fieldLink RX2 9 "MarketAwnings$Shower" "canopy" "LMarketAwnings$Canopy;", Cond.fieldLink RX2 15 "MarketAwnings$Shower" "fallen" "[I", Cond.fieldLink RX2 19 "MarketAwnings$Shower" "caught" "[I", Cond.fieldLink RX2 22 "MarketAwnings$Shower" "onGround" "I", Cond.fieldLink RX2 26 "MarketAwnings$Shower" "ranOff" "I", Cond.methodLink RX4 27 yJx4a65c_init_da8c8, Cond.methodLink RL 65 yX5_init, Cond.instanceMethod yX5_init, Cond.code yX5_init cX5_init 1 none, Cond.methodLink RX5 1 objectInit, Cond.fieldLink RX5 9 "MarketAwningsModel" "sheet" "[I", Cond.fieldLink RX5 13 "MarketAwningsModel" "at" "[I", Cond.fieldLink RX5 16 "MarketAwningsModel" "had" "[I"]
def wsL_law0_r4 : List Cond := [Cond.fieldLink RX5 19 "MarketAwningsModel" "ground" "[I", Cond.fieldLink RX5 22 "MarketAwningsModel" "fell" "[I", Cond.fieldLink RX5 25 "MarketAwningsModel" "load" "[I", Cond.methodLink RL 66 yL_hang, Cond.static yL_hang, Cond.initialized RL, Cond.codeWith yL_hang cL_hang 9 (some .int) [(0, 18, 21, 13), (0, 18, 25, 15), (0, 18, 29, 17)], Cond.classLink RL 13 "java/lang/IllegalArgumentException", Cond.classLink RL 15 "java/lang/IndexOutOfBoundsException", Cond.classLink RL 17 "java/lang/IllegalStateException", Cond.methodLink RL 7 yX4_hang, Cond.instanceMethod yX4_hang, Cond.selects RX4 yX4_hang yX4_hang, Cond.code yX4_hang cX4_hang 7 (some .int), Cond.classLink RX4 50 "java/lang/IllegalArgumentException", Cond.initialized "java/lang/IllegalArgumentException", Cond.classLink RX4 67 "java/lang/IllegalStateException", Cond.initialized "java/lang/IllegalStateException", Cond.classLink RX4 72 RX0, Cond.instantiable RX0 8, Cond.initialized RX0, Cond.methodLink RX4 46 yX4_requireExtent, Cond.static yX4_requireExtent, Cond.code yX4_requireExtent cX4_requireExtent 2 none]
def wsL_law0_r5 : List Cond := [Cond.methodLink RX4 59 yX4_requireRoomInSquare, Cond.static yX4_requireRoomInSquare, Cond.code yX4_requireRoomInSquare cX4_requireRoomInSquare 4 none, Cond.classLink RX4 178 "java/lang/IndexOutOfBoundsException", Cond.initialized "java/lang/IndexOutOfBoundsException", Cond.methodLink RX4 63 yX1_size, Cond.instanceMethod yX1_size, Cond.selects RX1 yX1_size yX1_size, Cond.code yX1_size cX1_size 1 (some .int), Cond.methodLink RX1 32 yJx4a65c_size_8abf5, Cond.instanceMethod yJx4a65c_size_8abf5, Cond.selects RJx4a65c yJx4a65c_size_8abf5 yJx4a65c_size_8abf5, Cond.code yJx4a65c_size_8abf5 cJx4a65c_size_8abf5 1 (some .int), Cond.fieldLink RJx4a65c 48 "java/util/ArrayList" "size" "I", Cond.methodLink RX4 74 yX0_init, Cond.instanceMethod yX0_init, Cond.code yX0_init cX0_init 7 none, Cond.methodLink RX0 3 objectInit, Cond.fieldLink RX0 9 "MarketAwnings$Awning" "x" "I", Cond.fieldLink RX0 15 "MarketAwnings$Awning" "y" "I", Cond.fieldLink RX0 18 "MarketAwnings$Awning" "w" "I", Cond.fieldLink RX0 21 "MarketAwnings$Awning" "h" "I", Cond.fieldLink RX0 24 "MarketAwnings$Awning" "level" "I", Cond.fieldLink RX0 27 "MarketAwnings$Awning" "side" "I"]
def wsL_law0_r6 : List Cond := [Cond.fieldLink RX0 30 "MarketAwnings$Awning" "out" "Z", Cond.fieldLink RX0 34 "MarketAwnings$Awning" "dripped" "I", Cond.methodLink RX4 77 yX1_append, Cond.instanceMethod yX1_append, Cond.selects RX1 yX1_append yX1_append, Cond.code yX1_append cX1_append 2 none, Cond.methodLink RX1 53 yJx4a65c_add_9ea2d, Cond.instanceMethod yJx4a65c_add_9ea2d, Cond.selects RJx4a65c yJx4a65c_add_9ea2d yJx4a65c_add_9ea2d, Cond.code yJx4a65c_add_9ea2d cJx4a65c_add_9ea2d 2 (some .boolean), Cond.fieldLink RJx4a65c 63 "java/util/ArrayList" "modCount" "I", Cond.sameField "java/util/ArrayList" "java/util/AbstractList" "modCount" "I", Cond.methodLink RJx4a65c 131 yJx4a65c_add_72be8, Cond.instanceMethod yJx4a65c_add_72be8, Cond.selects RJx4a65c yJx4a65c_add_72be8 yJx4a65c_add_72be8, Cond.code yJx4a65c_add_72be8 cJx4a65c_add_72be8 4 none, Cond.methodLink RJx4a65c 129 yJx4a65c_grow_d5877, Cond.instanceMethod yJx4a65c_grow_d5877, Cond.selects RJx4a65c yJx4a65c_grow_d5877 yJx4a65c_grow_d5877, Cond.code yJx4a65c_grow_d5877 cJx4a65c_grow_d5877 1 (some (.array (.object "java/lang/Object"))), Cond.methodLink RJx4a65c 69 yJx4a65c_grow_92f84, Cond.instanceMethod yJx4a65c_grow_92f84, Cond.selects RJx4a65c yJx4a65c_grow_92f84 yJx4a65c_grow_92f84, Cond.code yJx4a65c_grow_92f84 cJx4a65c_grow_92f84 4 (some (.array (.object "java/lang/Object")))]
def wsL_law0_r7 : List Cond := [Cond.methodLink RJx4a65c 79 Lib.Math.max.name, Cond.static Lib.Math.max.name, Cond.initialized "java/lang/Math", Cond.code Lib.Math.max.name Lib.Math.max.code 2 (some .int), Cond.classLink RJx4a65c 7 "java/lang/Object", Cond.methodLink RJx4a65c 73 yJ8_newLength_cabcc, Cond.static yJ8_newLength_cabcc, Cond.initialized RJ8, Cond.code yJ8_newLength_cabcc cJ8_newLength_cabcc 4 (some .int), Cond.methodLink RJ8 194 Lib.Math.max.name, Cond.constant RJ8 200 (2147483639), Cond.methodLink RJ8 201 yJ8_hugeLength_7cf53, Cond.static yJ8_hugeLength_7cf53, Cond.code yJ8_hugeLength_7cf53 cJ8_hugeLength_7cf53 3 (some .int), Cond.methodLink RJx4a65c 66 yJ7_copyOf_1904c, Cond.static yJ7_copyOf_1904c, Cond.initialized RJ7, Cond.code yJ7_copyOf_1904c cJ7_copyOf_1904c 2 (some (.array (.object "java/lang/Object"))), Cond.methodLink RJ7 86 ⟨"java/lang/Object", "getClass", "()Ljava/lang/Class;"⟩, Cond.selects "[Ljava/lang/Object;" ⟨"java/lang/Object", "getClass", "()Ljava/lang/Class;"⟩ ⟨"java/lang/Object", "getClass", "()Ljava/lang/Class;"⟩, Cond.instanceMethod ⟨"java/lang/Object", "getClass", "()Ljava/lang/Class;"⟩, Cond.native ⟨"java/lang/Object", "getClass", "()Ljava/lang/Class;"⟩, Cond.methodLink RJ7 300 yJ7_copyOf_6403c, Cond.static yJ7_copyOf_6403c]
def wsL_law0_r8 : List Cond := [Cond.code yJ7_copyOf_6403c cJ7_copyOf_6403c 4 (some (.array (.object "java/lang/Object"))), Cond.classLink RJ7 110 "[Ljava/lang/Object;", Cond.classLink RJ7 2 "java/lang/Object", Cond.methodLink RJ7 304 Lib.Math.min.name, Cond.static Lib.Math.min.name, Cond.code Lib.Math.min.name Lib.Math.min.code 2 (some .int), Cond.methodLink RJ7 150 arraycopyName, Cond.native arraycopyName, Cond.static arraycopyName, Cond.initialized "java/lang/System", Cond.methodLink RX1 57 yX1_layOut, Cond.instanceMethod yX1_layOut, Cond.selects RX1 yX1_layOut yX1_layOut, Cond.code yX1_layOut cX1_layOut 2 none, Cond.classLink RX1 40 "MarketAwnings$Awning", Cond.fieldLink RX1 42 "MarketAwnings$Awning" "out" "Z", Cond.methodLink RX1 63 yJ7_fill_53178, Cond.static yJ7_fill_53178, Cond.code yJ7_fill_53178 cJ7_fill_53178 4 none, Cond.methodLink RX1 36 yJx4a65c_get_915e3, Cond.instanceMethod yJx4a65c_get_915e3, Cond.selects RJx4a65c yJx4a65c_get_915e3 yJx4a65c_get_915e3, Cond.code yJx4a65c_get_915e3 cJx4a65c_get_915e3 2 (some (.object "java/lang/Object")), Cond.methodLink RJx4a65c 118 yJ15_checkIndex_7cf53]
def wsL_law0_r9 : List Cond := [Cond.static yJ15_checkIndex_7cf53, Cond.initialized RJ15, Cond.code yJ15_checkIndex_7cf53 cJ15_checkIndex_7cf53 2 (some .int), Cond.methodLink RJ15 105 yJ3_checkIndex_8e157, Cond.static yJ3_checkIndex_8e157, Cond.initialized RJ3, Cond.code yJ3_checkIndex_8e157 cJ3_checkIndex_8e157 3 (some .int), Cond.methodLink RJx4a65c 123 yJx4a65c_elementData_915e3, Cond.instanceMethod yJx4a65c_elementData_915e3, Cond.selects RJx4a65c yJx4a65c_elementData_915e3 yJx4a65c_elementData_915e3, Cond.code yJx4a65c_elementData_915e3 cJx4a65c_elementData_915e3 2 (some (.object "java/lang/Object")), Cond.methodLink RX1 69 yX1_layOver, Cond.instanceMethod yX1_layOver, Cond.selects RX1 yX1_layOver yX1_layOver, Cond.code yX1_layOver cX1_layOver 4 none, Cond.fieldLink RX1 73 "MarketAwnings$Awning" "y" "I", Cond.fieldLink RX1 76 "MarketAwnings$Awning" "h" "I", Cond.fieldLink RX1 79 "MarketAwnings$Awning" "x" "I", Cond.fieldLink RX1 82 "MarketAwnings$Awning" "w" "I", Cond.static yX4_isCell, Cond.code yX4_isCell cX4_isCell 2 (some .boolean), Cond.methodLink RL 71 yX5_hang, Cond.instanceMethod yX5_hang, Cond.selects RX5 yX5_hang yX5_hang]
def wsL_law0_r10 : List Cond := [Cond.code yX5_hang cX5_hang 8 (some .int), Cond.fieldLink RX5 28 "MarketAwningsModel" "thrown" "I", Cond.fieldLink RX5 36 "MarketAwningsModel" "awnings" "I", Cond.methodLink RX5 85 arraycopyName, Cond.methodLink RX5 32 yX5_isIn, Cond.static yX5_isIn, Cond.code yX5_isIn cX5_isIn 3 (some .boolean), Cond.methodLink RX5 78 yX5_no, Cond.instanceMethod yX5_no, Cond.selects RX5 yX5_no yX5_no, Cond.code yX5_no cX5_no 2 (some .int), Cond.methodLink RX5 81 yX5_fits, Cond.static yX5_fits, Cond.code yX5_fits cX5_fits 4 (some .boolean), Cond.methodLink RL 72 yX5_thrown, Cond.instanceMethod yX5_thrown, Cond.selects RX5 yX5_thrown yX5_thrown, Cond.code yX5_thrown cX5_thrown 1 (some .int), Cond.methodLink RL 76 yL_roll, Cond.static yL_roll, Cond.codeWith yL_roll cL_roll 4 (some .int) [(0, 16, 19, 15)], Cond.methodLink RL 19 yX4_roll, Cond.instanceMethod yX4_roll, Cond.selects RX4 yX4_roll yX4_roll]
def wsL_law0_r11 : List Cond := [Cond.code yX4_roll cX4_roll 3 (some .boolean), Cond.fieldLink RX4 85 "MarketAwnings$Awning" "out" "Z", Cond.methodLink RX4 81 yX1_numbered, Cond.instanceMethod yX1_numbered, Cond.selects RX1 yX1_numbered yX1_numbered, Cond.code yX1_numbered cX1_numbered 2 (some (.object "MarketAwnings$Awning")), Cond.classLink RX1 46 "java/lang/IndexOutOfBoundsException", Cond.methodLink RX4 89 yX1_layOut, Cond.methodLink RL 79 yX5_roll, Cond.instanceMethod yX5_roll, Cond.selects RX5 yX5_roll yX5_roll, Cond.code yX5_roll cX5_roll 2 (some .boolean), Cond.methodLink RX5 91 yX5_isAwning, Cond.instanceMethod yX5_isAwning, Cond.selects RX5 yX5_isAwning yX5_isAwning, Cond.code yX5_isAwning cX5_isAwning 2 (some .boolean), Cond.methodLink RX5 42 yX5_of, Cond.instanceMethod yX5_of, Cond.selects RX5 yX5_of yX5_of, Cond.code yX5_of cX5_of 3 (some .int), Cond.methodLink RX5 46 yX5_isOut, Cond.instanceMethod yX5_isOut, Cond.selects RX5 yX5_isOut yX5_isOut, Cond.code yX5_isOut cX5_isOut 2 (some .boolean)]
def wsL_law0_r12 : List Cond := [Cond.methodLink RL 80 yL_move, Cond.static yL_move, Cond.codeWith yL_move cL_move 6 (some .int) [(0, 12, 15, 15)], Cond.methodLink RL 23 yX4_move, Cond.instanceMethod yX4_move, Cond.selects RX4 yX4_move yX4_move, Cond.code yX4_move cX4_move 5 (some .int), Cond.fieldLink RX4 92 "MarketAwnings$Awning" "w" "I", Cond.fieldLink RX4 95 "MarketAwnings$Awning" "h" "I", Cond.fieldLink RX4 98 "MarketAwnings$Awning" "x" "I", Cond.fieldLink RX4 101 "MarketAwnings$Awning" "y" "I", Cond.methodLink RX4 104 yX1_covered, Cond.instanceMethod yX1_covered, Cond.selects RX1 yX1_covered yX1_covered, Cond.code yX1_covered cX1_covered 1 (some .int), Cond.methodLink RX1 95 yX1_cellsWithLayers, Cond.instanceMethod yX1_cellsWithLayers, Cond.selects RX1 yX1_cellsWithLayers yX1_cellsWithLayers, Cond.code yX1_cellsWithLayers cX1_cellsWithLayers 4 (some .int), Cond.methodLink RL 83 yX5_move, Cond.instanceMethod yX5_move, Cond.selects RX5 yX5_move yX5_move, Cond.code yX5_move cX5_move 4 (some .int), Cond.methodLink RX5 94 yX5_counted]
def wsL_law0_r13 : List Cond := [Cond.instanceMethod yX5_counted, Cond.selects RX5 yX5_counted yX5_counted, Cond.code yX5_counted cX5_counted 2 (some .int), Cond.fieldLink RX5 39 "MarketAwningsModel" "stalls" "I", Cond.fieldLink RX5 106 "MarketAwningsModel" "hours" "I", Cond.fieldLink RX5 103 "MarketAwningsModel" "ranOff" "I", Cond.methodLink RX5 153 yX5_out, Cond.instanceMethod yX5_out, Cond.selects RX5 yX5_out yX5_out, Cond.code yX5_out cX5_out 3 (some .int), Cond.methodLink RX5 157 yX5_outline, Cond.instanceMethod yX5_outline, Cond.selects RX5 yX5_outline yX5_outline, Cond.code yX5_outline cX5_outline 4 (some .int), Cond.methodLink RX5 129 yX5_covered_, Cond.instanceMethod yX5_covered_, Cond.selects RX5 yX5_covered_ yX5_covered_, Cond.code yX5_covered_ cX5_covered_ 2 (some .int), Cond.methodLink RX5 56 yX5_covered, Cond.instanceMethod yX5_covered, Cond.selects RX5 yX5_covered yX5_covered, Cond.code yX5_covered cX5_covered 5 (some .int), Cond.methodLink RX5 53 yX5_bits, Cond.instanceMethod yX5_bits]
def wsL_law0_r14 : List Cond := [Cond.selects RX5 yX5_bits yX5_bits, Cond.code yX5_bits cX5_bits 3 (some .int), Cond.methodLink RX5 50 yX5_rows, Cond.static yX5_rows, Cond.code yX5_rows cX5_rows 2 (some .int), Cond.methodLink RX5 109 yX5_many, Cond.static yX5_many, Cond.code yX5_many cX5_many 3 (some .int), Cond.methodLink RX5 160 yX5_parts, Cond.instanceMethod yX5_parts, Cond.selects RX5 yX5_parts yX5_parts, Cond.code yX5_parts cX5_parts 7 (some .int), Cond.methodLink RX5 149 yX5_spreads, Cond.static yX5_spreads, Cond.code yX5_spreads cX5_spreads 5 (some .boolean), Cond.methodLink RX5 163 yX5_open, Cond.instanceMethod yX5_open, Cond.selects RX5 yX5_open yX5_open, Cond.code yX5_open cX5_open 3 (some .int), Cond.methodLink RX5 146 yX5_stallTold, Cond.instanceMethod yX5_stallTold, Cond.selects RX5 yX5_stallTold yX5_stallTold, Cond.code yX5_stallTold cX5_stallTold 3 (some .int), Cond.methodLink RX5 140 yX5_got]
def wsL_law0_r15 : List Cond := [Cond.instanceMethod yX5_got, Cond.selects RX5 yX5_got yX5_got, Cond.code yX5_got cX5_got 2 (some .int), Cond.methodLink RX5 118 yX5_lying, Cond.instanceMethod yX5_lying, Cond.selects RX5 yX5_lying yX5_lying, Cond.code yX5_lying cX5_lying 5 (some .int), Cond.methodLink RX5 166 yX5_sumOf, Cond.instanceMethod yX5_sumOf, Cond.selects RX5 yX5_sumOf yX5_sumOf, Cond.code yX5_sumOf cX5_sumOf 5 (some .int), Cond.methodLink RL 84 yL_take, Cond.static yL_take, Cond.codeWith yL_take cL_take 4 (some .int) [(0, 9, 12, 15)], Cond.methodLink RL 27 yX4_take, Cond.instanceMethod yX4_take, Cond.selects RX4 yX4_take yX4_take, Cond.code yX4_take cX4_take 2 (some .int), Cond.methodLink RX4 107 yX1_drop, Cond.instanceMethod yX1_drop, Cond.selects RX1 yX1_drop yX1_drop, Cond.code yX1_drop cX1_drop 2 none, Cond.methodLink RX1 60 yJx4a65c_remove_915e3, Cond.instanceMethod yJx4a65c_remove_915e3]
def wsL_law0_r16 : List Cond := [Cond.selects RJx4a65c yJx4a65c_remove_915e3 yJx4a65c_remove_915e3, Cond.code yJx4a65c_remove_915e3 cJx4a65c_remove_915e3 4 (some (.object "java/lang/Object")), Cond.methodLink RJx4a65c 144 yJx4a65c_fastRemove_b59b0, Cond.instanceMethod yJx4a65c_fastRemove_b59b0, Cond.selects RJx4a65c yJx4a65c_fastRemove_b59b0 yJx4a65c_fastRemove_b59b0, Cond.code yJx4a65c_fastRemove_b59b0 cJx4a65c_fastRemove_b59b0 4 none, Cond.methodLink RJx4a65c 112 arraycopyName, Cond.methodLink RL 86 yX5_take, Cond.instanceMethod yX5_take, Cond.selects RX5 yX5_take yX5_take, Cond.code yX5_take cX5_take 3 (some .int), Cond.methodLink RL 87 yL_stall, Cond.static yL_stall, Cond.codeWith yL_stall cL_stall 5 (some .int) [(0, 10, 13, 15), (0, 10, 17, 17)], Cond.methodLink RL 31 yX4_stall, Cond.instanceMethod yX4_stall, Cond.selects RX4 yX4_stall yX4_stall, Cond.code yX4_stall cX4_stall 3 (some .int), Cond.classLink RX4 123 RX3, Cond.instantiable RX3 3, Cond.initialized RX3, Cond.methodLink RX4 111 yX4_requireCell, Cond.static yX4_requireCell, Cond.code yX4_requireCell cX4_requireCell 2 none]
def wsL_law0_r17 : List Cond := [Cond.methodLink RX4 264 yX4_isCell, Cond.methodLink RX4 114 yJx4a65c_size_8abf5, Cond.methodLink RX4 117 yX4_hasStallAt, Cond.instanceMethod yX4_hasStallAt, Cond.selects RX4 yX4_hasStallAt yX4_hasStallAt, Cond.code yX4_hasStallAt cX4_hasStallAt 5 (some .boolean), Cond.classLink RX4 123 "MarketAwnings$Stall", Cond.fieldLink RX4 199 "MarketAwnings$Stall" "x" "I", Cond.fieldLink RX4 200 "MarketAwnings$Stall" "y" "I", Cond.methodLink RX4 257 yJx4a65c_get_915e3, Cond.methodLink RX4 125 yX4_groundAt, Cond.instanceMethod yX4_groundAt, Cond.selects RX4 yX4_groundAt yX4_groundAt, Cond.code yX4_groundAt cX4_groundAt 3 (some .int), Cond.methodLink RX4 129 yX3_init, Cond.instanceMethod yX3_init, Cond.code yX3_init cX3_init 4 none, Cond.methodLink RX3 1 objectInit, Cond.fieldLink RX3 7 "MarketAwnings$Stall" "x" "I", Cond.fieldLink RX3 13 "MarketAwnings$Stall" "y" "I", Cond.fieldLink RX3 16 "MarketAwnings$Stall" "groundBefore" "I", Cond.methodLink RX4 132 yJx4a65c_add_9ea2d, Cond.methodLink RL 90 yX5_stall, Cond.instanceMethod yX5_stall]
def wsL_law0_r18 : List Cond := [Cond.selects RX5 yX5_stall yX5_stall, Cond.code yX5_stall cX5_stall 5 (some .int), Cond.methodLink RX5 97 yX5_isCell, Cond.static yX5_isCell, Cond.code yX5_isCell cX5_isCell 2 (some .boolean), Cond.methodLink RL 91 yL_rain, Cond.static yL_rain, Cond.codeWith yL_rain cL_rain 4 (some .int) [(0, 9, 12, 13)], Cond.methodLink RL 35 yX4_rain, Cond.instanceMethod yX4_rain, Cond.selects RX4 yX4_rain yX4_rain, Cond.code yX4_rain cX4_rain 4 (some .int), Cond.fieldLink RX4 145 "MarketAwnings$Awning" "dripped" "I", Cond.fieldLink RX4 152 "MarketAwnings$Shower" "onGround" "I", Cond.fieldLink RX4 155 "MarketAwnings$Shower" "ranOff" "I", Cond.methodLink RX4 136 yX4_requireDrops, Cond.static yX4_requireDrops, Cond.code yX4_requireDrops cX4_requireDrops 1 none, Cond.methodLink RX4 139 yX2_pour, Cond.instanceMethod yX2_pour, Cond.selects RX2 yX2_pour yX2_pour, Cond.code yX2_pour cX2_pour 4 none, Cond.methodLink RX2 29 yX2_dry, Cond.instanceMethod yX2_dry]
def wsL_law0_r19 : List Cond := [Cond.selects RX2 yX2_dry yX2_dry, Cond.code yX2_dry cX2_dry 1 none, Cond.methodLink RX2 44 yJ7_fill_53178, Cond.methodLink RX2 32 yX2_land, Cond.instanceMethod yX2_land, Cond.selects RX2 yX2_land yX2_land, Cond.code yX2_land cX2_land 6 none, Cond.methodLink RX2 86 yX1_highestBelow, Cond.instanceMethod yX1_highestBelow, Cond.selects RX1 yX1_highestBelow yX1_highestBelow, Cond.code yX1_highestBelow cX1_highestBelow 8 (some .int), Cond.fieldLink RX1 89 "MarketAwnings$Awning" "level" "I", Cond.methodLink RX1 92 yX0_covers, Cond.instanceMethod yX0_covers, Cond.selects RX0 yX0_covers yX0_covers, Cond.code yX0_covers cX0_covers 3 (some .boolean), Cond.methodLink RX2 36 yX2_dripFromLevel, Cond.instanceMethod yX2_dripFromLevel, Cond.selects RX2 yX2_dripFromLevel yX2_dripFromLevel, Cond.code yX2_dripFromLevel cX2_dripFromLevel 4 none, Cond.fieldLink RX2 60 "MarketAwnings$Awning" "out" "Z", Cond.fieldLink RX2 66 "MarketAwnings$Awning" "level" "I", Cond.methodLink RX2 50 yX1_size, Cond.methodLink RX2 56 yX1_numbered]
def wsL_law0_r20 : List Cond := [Cond.methodLink RX2 69 yX2_caughtBy, Cond.instanceMethod yX2_caughtBy, Cond.selects RX2 yX2_caughtBy yX2_caughtBy, Cond.code yX2_caughtBy cX2_caughtBy 2 (some .int), Cond.methodLink RX2 73 yX2_drip, Cond.instanceMethod yX2_drip, Cond.selects RX2 yX2_drip yX2_drip, Cond.code yX2_drip cX2_drip 8 none, Cond.methodLink RX2 77 yX0_cellsBeyond, Cond.instanceMethod yX0_cellsBeyond, Cond.selects RX0 yX0_cellsBeyond yX0_cellsBeyond, Cond.code yX0_cellsBeyond cX0_cellsBeyond 1 (some .int), Cond.methodLink RX0 37 yX0_dripsAlongRows, Cond.instanceMethod yX0_dripsAlongRows, Cond.selects RX0 yX0_dripsAlongRows yX0_dripsAlongRows, Cond.code yX0_dripsAlongRows cX0_dripsAlongRows 1 (some .boolean), Cond.methodLink RX2 80 yX0_columnBeyond, Cond.instanceMethod yX0_columnBeyond, Cond.selects RX0 yX0_columnBeyond yX0_columnBeyond, Cond.code yX0_columnBeyond cX0_columnBeyond 2 (some .int), Cond.methodLink RX2 83 yX0_rowBeyond, Cond.instanceMethod yX0_rowBeyond, Cond.selects RX0 yX0_rowBeyond yX0_rowBeyond, Cond.code yX0_rowBeyond cX0_rowBeyond 2 (some .int)]
def wsL_law0_r21 : List Cond := [Cond.methodLink RX4 142 yX2_fallenAt, Cond.instanceMethod yX2_fallenAt, Cond.selects RX2 yX2_fallenAt yX2_fallenAt, Cond.code yX2_fallenAt cX2_fallenAt 3 (some .int), Cond.methodLink RX4 148 yX2_caughtBy, Cond.methodLink RL 93 yX5_rain, Cond.instanceMethod yX5_rain, Cond.selects RX5 yX5_rain yX5_rain, Cond.code yX5_rain cX5_rain 4 (some .int), Cond.methodLink RX5 100 yX5_pour, Cond.instanceMethod yX5_pour, Cond.selects RX5 yX5_pour yX5_pour, Cond.code yX5_pour cX5_pour 4 (some .int), Cond.methodLink RX5 71 yX5_fall, Cond.instanceMethod yX5_fall, Cond.selects RX5 yX5_fall yX5_fall, Cond.code yX5_fall cX5_fall 6 none, Cond.methodLink RX5 67 yX5_highest, Cond.instanceMethod yX5_highest, Cond.selects RX5 yX5_highest yX5_highest, Cond.code yX5_highest cX5_highest 5 (some .int), Cond.methodLink RX5 63 yX5_below, Cond.instanceMethod yX5_below, Cond.selects RX5 yX5_below yX5_below]
def wsL_law0_r22 : List Cond := [Cond.code yX5_below cX5_below 4 (some .int), Cond.methodLink RX5 59 yX5_isHigher, Cond.instanceMethod yX5_isHigher, Cond.selects RX5 yX5_isHigher yX5_isHigher, Cond.code yX5_isHigher cX5_isHigher 3 (some .boolean), Cond.methodLink RX5 75 yX5_drip, Cond.instanceMethod yX5_drip, Cond.selects RX5 yX5_drip yX5_drip, Cond.code yX5_drip cX5_drip 8 (some .int), Cond.methodLink RL 94 yL_about, Cond.static yL_about, Cond.codeWith yL_about cL_about 5 (some .int) [(0, 10, 13, 15)], Cond.methodLink RL 38 yX4_about, Cond.instanceMethod yX4_about, Cond.selects RX4 yX4_about yX4_about, Cond.code yX4_about cX4_about 4 (some .int), Cond.fieldLink RX4 161 "MarketAwnings$Awning" "level" "I", Cond.fieldLink RX4 164 "MarketAwnings$Awning" "side" "I", Cond.methodLink RX4 158 yX4_requireWhat, Cond.static yX4_requireWhat, Cond.code yX4_requireWhat cX4_requireWhat 2 none, Cond.methodLink RX4 167 yX1_coveredOnlyBy, Cond.instanceMethod yX1_coveredOnlyBy, Cond.selects RX1 yX1_coveredOnlyBy yX1_coveredOnlyBy]
def wsL_law0_r23 : List Cond := [Cond.code yX1_coveredOnlyBy cX1_coveredOnlyBy 5 (some .int), Cond.methodLink RX1 99 yX1_layersAt, Cond.instanceMethod yX1_layersAt, Cond.selects RX1 yX1_layersAt yX1_layersAt, Cond.code yX1_layersAt cX1_layersAt 3 (some .int), Cond.methodLink RL 96 yX5_about, Cond.instanceMethod yX5_about, Cond.selects RX5 yX5_about yX5_about, Cond.code yX5_about cX5_about 3 (some .int), Cond.methodLink RX5 115 yX5_awningTold, Cond.instanceMethod yX5_awningTold, Cond.selects RX5 yX5_awningTold yX5_awningTold, Cond.code yX5_awningTold cX5_awningTold 3 (some .int), Cond.methodLink RX5 112 yX5_own, Cond.instanceMethod yX5_own, Cond.selects RX5 yX5_own yX5_own, Cond.code yX5_own cX5_own 4 (some .int), Cond.methodLink RL 97 yL_cell, Cond.static yL_cell, Cond.codeWith yL_cell cL_cell 6 (some .int) [(0, 12, 15, 15)], Cond.methodLink RL 41 yX4_cell, Cond.instanceMethod yX4_cell, Cond.selects RX4 yX4_cell yX4_cell, Cond.code yX4_cell cX4_cell 4 (some .int)]
def wsL_law0_r24 : List Cond := [Cond.methodLink RX4 171 yX1_layersAt, Cond.methodLink RX4 174 yX1_highestBelow, Cond.methodLink RL 99 yX5_cell, Cond.instanceMethod yX5_cell, Cond.selects RX5 yX5_cell yX5_cell, Cond.code yX5_cell cX5_cell 4 (some .int), Cond.methodLink RX5 121 yX5_cellTold, Cond.instanceMethod yX5_cellTold, Cond.selects RX5 yX5_cellTold yX5_cellTold, Cond.code yX5_cellTold cX5_cellTold 4 (some .int), Cond.methodLink RL 100 yL_cord, Cond.static yL_cord, Cond.codeWith yL_cord cL_cord 5 (some .int) [(0, 10, 13, 15)], Cond.methodLink RL 44 yX4_cord, Cond.instanceMethod yX4_cord, Cond.selects RX4 yX4_cord yX4_cord, Cond.code yX4_cord cX4_cord 3 (some .int), Cond.methodLink RX4 183 yX1_coveredInColumn, Cond.instanceMethod yX1_coveredInColumn, Cond.selects RX1 yX1_coveredInColumn yX1_coveredInColumn, Cond.code yX1_coveredInColumn cX1_coveredInColumn 4 (some .int), Cond.methodLink RX4 186 yX1_runsInColumn, Cond.instanceMethod yX1_runsInColumn, Cond.selects RX1 yX1_runsInColumn yX1_runsInColumn]
def wsL_law0_r25 : List Cond := [Cond.code yX1_runsInColumn cX1_runsInColumn 4 (some .int), Cond.methodLink RX4 189 yX1_longestRunInColumn, Cond.instanceMethod yX1_longestRunInColumn, Cond.selects RX1 yX1_longestRunInColumn yX1_longestRunInColumn, Cond.code yX1_longestRunInColumn cX1_longestRunInColumn 5 (some .int), Cond.methodLink RX1 116 Lib.Math.max.name, Cond.methodLink RX4 192 yX1_mostLayersInColumn, Cond.instanceMethod yX1_mostLayersInColumn, Cond.selects RX1 yX1_mostLayersInColumn yX1_mostLayersInColumn, Cond.code yX1_mostLayersInColumn cX1_mostLayersInColumn 4 (some .int), Cond.methodLink RL 102 yX5_cord, Cond.instanceMethod yX5_cord, Cond.selects RX5 yX5_cord yX5_cord, Cond.code yX5_cord cX5_cord 3 (some .int), Cond.methodLink RX5 137 yX5_cordTold, Cond.instanceMethod yX5_cordTold, Cond.selects RX5 yX5_cordTold yX5_cordTold, Cond.code yX5_cordTold cX5_cordTold 4 (some .int), Cond.methodLink RX5 131 yX5_longest, Cond.static yX5_longest, Cond.code yX5_longest cX5_longest 3 (some .int), Cond.methodLink RX5 134 yX5_deepest, Cond.instanceMethod yX5_deepest, Cond.selects RX5 yX5_deepest yX5_deepest]
def wsL_law0_r26 : List Cond := [Cond.code yX5_deepest cX5_deepest 4 (some .int), Cond.methodLink RX5 124 Lib.Math.max.name, Cond.methodLink RL 103 yL_told, Cond.static yL_told, Cond.codeWith yL_told cL_told 5 (some .int) [(0, 10, 13, 15)], Cond.methodLink RL 47 yX4_told, Cond.instanceMethod yX4_told, Cond.selects RX4 yX4_told yX4_told, Cond.code yX4_told cX4_told 4 (some .int), Cond.methodLink RX4 195 yX4_numberedStall, Cond.instanceMethod yX4_numberedStall, Cond.selects RX4 yX4_numberedStall yX4_numberedStall, Cond.code yX4_numberedStall cX4_numberedStall 2 (some (.object "MarketAwnings$Stall")), Cond.methodLink RX4 201 yX4_gotBy, Cond.instanceMethod yX4_gotBy, Cond.selects RX4 yX4_gotBy yX4_gotBy, Cond.code yX4_gotBy cX4_gotBy 2 (some .int), Cond.fieldLink RX4 261 "MarketAwnings$Stall" "groundBefore" "I", Cond.methodLink RL 105 yX5_told, Cond.instanceMethod yX5_told, Cond.selects RX5 yX5_told yX5_told, Cond.code yX5_told cX5_told 3 (some .int), Cond.methodLink RX5 143 yX5_isStall, Cond.instanceMethod yX5_isStall]
def wsL_law0_r27 : List Cond := [Cond.selects RX5 yX5_isStall yX5_isStall, Cond.code yX5_isStall cX5_isStall 2 (some .boolean), Cond.methodLink RL 106 yL_share, Cond.static yL_share, Cond.codeWith yL_share cL_share 5 (some .int) [(0, 10, 13, 15)], Cond.methodLink RL 50 yX4_share, Cond.instanceMethod yX4_share, Cond.selects RX4 yX4_share yX4_share, Cond.code yX4_share cX4_share 7 (some .int), Cond.methodLink RX4 205 Lib.Math.min.name, Cond.methodLink RX4 210 Lib.Math.max.name, Cond.methodLink RL 108 yX5_share, Cond.instanceMethod yX5_share, Cond.selects RX5 yX5_share yX5_share, Cond.code yX5_share cX5_share 5 (some .int), Cond.methodLink RL 109 yL_count, Cond.static yL_count, Cond.codeWith yL_count cL_count 4 (some .int) [(0, 9, 12, 15)], Cond.methodLink RL 53 yX4_count, Cond.instanceMethod yX4_count, Cond.selects RX4 yX4_count yX4_count, Cond.code yX4_count cX4_count 2 (some .int), Cond.methodLink RX4 213 yX1_sizeOut, Cond.instanceMethod yX1_sizeOut]
def wsL_law0_r28 : List Cond := [Cond.selects RX1 yX1_sizeOut yX1_sizeOut, Cond.code yX1_sizeOut cX1_sizeOut 3 (some .int), Cond.methodLink RX4 216 yX1_outline, Cond.instanceMethod yX1_outline, Cond.selects RX1 yX1_outline yX1_outline, Cond.code yX1_outline cX1_outline 4 (some .int), Cond.methodLink RX1 103 yX1_openSides, Cond.instanceMethod yX1_openSides, Cond.selects RX1 yX1_openSides yX1_openSides, Cond.code yX1_openSides cX1_openSides 3 (some .int), Cond.methodLink RX1 106 yX1_openAt, Cond.instanceMethod yX1_openAt, Cond.selects RX1 yX1_openAt yX1_openAt, Cond.code yX1_openAt cX1_openAt 3 (some .int), Cond.methodLink RX4 219 yX1_parts, Cond.instanceMethod yX1_parts, Cond.selects RX1 yX1_parts yX1_parts, Cond.code yX1_parts cX1_parts 4 (some .int), Cond.methodLink RX1 109 yX1_reach, Cond.instanceMethod yX1_reach, Cond.selects RX1 yX1_reach yX1_reach, Cond.code yX1_reach cX1_reach 4 none, Cond.methodLink RX1 113 yX1_reachAllFromQueue, Cond.instanceMethod yX1_reachAllFromQueue]
def wsL_law0_r29 : List Cond := [Cond.selects RX1 yX1_reachAllFromQueue yX1_reachAllFromQueue, Cond.code yX1_reachAllFromQueue cX1_reachAllFromQueue 4 none, Cond.methodLink RX4 222 yX1_cellsWithLayers, Cond.methodLink RX4 225 yX4_stallsNotCovered, Cond.instanceMethod yX4_stallsNotCovered, Cond.selects RX4 yX4_stallsNotCovered yX4_stallsNotCovered, Cond.code yX4_stallsNotCovered cX4_stallsNotCovered 4 (some .int), Cond.methodLink RL 111 yX5_count, Cond.instanceMethod yX5_count, Cond.selects RX5 yX5_count yX5_count, Cond.code yX5_count cX5_count 2 (some .int), Cond.methodLink RL 112 yL_would, Cond.static yL_would, Cond.codeWith yL_would cL_would 5 (some .int) [(0, 10, 13, 15), (0, 10, 17, 13)], Cond.methodLink RL 56 yX4_would, Cond.instanceMethod yX4_would, Cond.selects RX4 yX4_would yX4_would, Cond.code yX4_would cX4_would 4 (some .int), Cond.methodLink RL 114 yX5_would, Cond.instanceMethod yX5_would, Cond.selects RX5 yX5_would yX5_would, Cond.code yX5_would cX5_would 3 (some .int), Cond.methodLink RL 115 yL_best, Cond.static yL_best]
def wsL_law0_r30 : List Cond := [Cond.codeWith yL_best cL_best 6 (some .int) [(0, 12, 15, 13), (0, 12, 19, 15)], Cond.methodLink RL 59 yX4_best, Cond.instanceMethod yX4_best, Cond.selects RX4 yX4_best yX4_best, Cond.code yX4_best cX4_best 10 (some .int), Cond.methodLink RX4 228 yX1_notCoveredIn, Cond.instanceMethod yX1_notCoveredIn, Cond.selects RX1 yX1_notCoveredIn yX1_notCoveredIn, Cond.code yX1_notCoveredIn cX1_notCoveredIn 8 (some .int), Cond.methodLink RL 117 yX5_best, Cond.instanceMethod yX5_best, Cond.selects RX5 yX5_best yX5_best, Cond.code yX5_best cX5_best 10 (some .int), Cond.methodLink RL 118 yX4_advise, Cond.instanceMethod yX4_advise, Cond.selects RX4 yX4_advise yX4_advise, Cond.code yX4_advise cX4_advise 6 (some .int), Cond.methodLink RL 121 yX5_advise, Cond.instanceMethod yX5_advise, Cond.selects RX5 yX5_advise yX5_advise, Cond.code yX5_advise cX5_advise 3 (some .int), Cond.methodLink RL 122 yX4_mean, Cond.instanceMethod yX4_mean, Cond.selects RX4 yX4_mean yX4_mean]
def wsL_law0_r31 : List Cond := [Cond.code yX4_mean cX4_mean 4 (some .double), Cond.methodLink RL 126 yX5_mean, Cond.instanceMethod yX5_mean, Cond.selects RX5 yX5_mean yX5_mean, Cond.code yX5_mean cX5_mean 3 (some .double), Cond.methodLink RL 127 yX4_digest, Cond.instanceMethod yX4_digest, Cond.selects RX4 yX4_digest yX4_digest, Cond.code yX4_digest cX4_digest 5 (some .long), Cond.constantLong RX4 232 (1741), Cond.constantLong RX4 234 (31), Cond.methodLink RX4 236 yX4_count, Cond.methodLink RX4 239 yX4_about, Cond.methodLink RX4 242 yX4_told, Cond.methodLink RX4 245 yX4_digestOfColumn, Cond.instanceMethod yX4_digestOfColumn, Cond.selects RX4 yX4_digestOfColumn yX4_digestOfColumn, Cond.code yX4_digestOfColumn cX4_digestOfColumn 8 (some .long), Cond.methodLink RX4 249 yX4_cord, Cond.methodLink RX4 252 yX4_cell, Cond.methodLink RL 131 yX5_digest, Cond.instanceMethod yX5_digest, Cond.selects RX5 yX5_digest yX5_digest, Cond.code yX5_digest cX5_digest 6 (some .long)]
def wsL_law0_r32 : List Cond := [Cond.constantLong RX5 169 (1741), Cond.constantLong RX5 171 (31)]
def wsL_law0 : List Cond := (wsL_law0_r1 ++ (wsL_law0_r2 ++ (wsL_law0_r3 ++ (wsL_law0_r4 ++ (wsL_law0_r5 ++ (wsL_law0_r6 ++ (wsL_law0_r7 ++ (wsL_law0_r8 ++ (wsL_law0_r9 ++ (wsL_law0_r10 ++ (wsL_law0_r11 ++ (wsL_law0_r12 ++ (wsL_law0_r13 ++ (wsL_law0_r14 ++ (wsL_law0_r15 ++ (wsL_law0_r16 ++ (wsL_law0_r17 ++ (wsL_law0_r18 ++ (wsL_law0_r19 ++ (wsL_law0_r20 ++ (wsL_law0_r21 ++ (wsL_law0_r22 ++ (wsL_law0_r23 ++ (wsL_law0_r24 ++ (wsL_law0_r25 ++ (wsL_law0_r26 ++ (wsL_law0_r27 ++ (wsL_law0_r28 ++ (wsL_law0_r29 ++ (wsL_law0_r30 ++ (wsL_law0_r31 ++ wsL_law0_r32))))))))))))))))))))))))))))))) ++ wsX40 ++ wsX50 ++ wsX10 ++ wsX20 ++ wsJx4a65c0 ++ wsX00 ++ wsX30 ++ ([] : List Cond)
def wsL_law : List Cond := wsL_law0 ++ (vx_atS RX4 54 "java/lang/IllegalArgumentException" ["java/lang/RuntimeException", "java/lang/Exception"]).filter goodWord ++ (vx_atS RX4 71 "java/lang/IllegalStateException" ["java/lang/RuntimeException", "java/lang/Exception"]).filter goodWord ++ (vx_atS RX4 182 "java/lang/IndexOutOfBoundsException" ["java/lang/RuntimeException", "java/lang/Exception"]).filter goodWord ++ (vx_atS RX1 50 "java/lang/IndexOutOfBoundsException" ["java/lang/RuntimeException", "java/lang/Exception"]).filter goodWord
set_option maxRecDepth 20000 in
theorem wsL_law_c1 : ∀ w ∈ wsL_law0_r1, w ∈ lw_tbl := fun w h => (goodIn_r wsL_law0_r1 [70, 71, 49, 759, 760, 55, 1008, 72, 73, 74, 75, 76, 77, 78, 79, 50, 153, 127, 128, 54, 154, 151, 85, 53] (by decide +kernel) (by decide +kernel) w h).1
set_option maxRecDepth 20000 in
theorem wsL_law_c2 : ∀ w ∈ wsL_law0_r2, w ∈ lw_tbl := fun w h => (goodIn_r wsL_law0_r2 [155, 126, 156, 157, 158, 159, 80, 81, 82, 83, 84, 110, 111, 112, 113, 114, 86, 87, 88, 96, 98, 89, 90, 52] (by decide +kernel) (by decide +kernel) w h).1
set_option maxRecDepth 20000 in
theorem wsL_law_c3 : ∀ w ∈ wsL_law0_r3, w ∈ lw_tbl := fun w h => (goodIn_r wsL_law0_r3 [91, 100, 92, 93, 51, 94, 95, 129, 130, 131, 132, 133, 134, 135, 136, 138, 152, 761, 762, 763, 764, 767, 769, 770] (by decide +kernel) (by decide +kernel) w h).1
set_option maxRecDepth 20000 in
theorem wsL_law_c4 : ∀ w ∈ wsL_law0_r4, w ∈ lw_tbl := fun w h => (goodIn_r wsL_law0_r4 [771, 774, 775, 419, 420, 48, 421, 422, 423, 424, 425, 426, 427, 428, 432, 59, 454, 61, 470, 471, 62, 429, 430, 431] (by decide +kernel) (by decide +kernel) w h).1
set_option maxRecDepth 20000 in
theorem wsL_law_c5 : ∀ w ∈ wsL_law0_r5, w ∈ lw_tbl := fun w h => (goodIn_r wsL_law0_r5 [450, 451, 452, 294, 60, 179, 180, 181, 182, 183, 184, 185, 186, 99, 472, 473, 474, 475, 476, 479, 482, 485, 488, 492] (by decide +kernel) (by decide +kernel) w h).1
set_option maxRecDepth 20000 in
theorem wsL_law_c6 : ∀ w ∈ wsL_law0_r6, w ∈ lw_tbl := fun w h => (goodIn_r wsL_law0_r6 [494, 498, 517, 518, 519, 520, 521, 522, 523, 524, 101, 102, 525, 527, 10, 528, 529, 531, 11, 532, 533, 535, 12, 536] (by decide +kernel) (by decide +kernel) w h).1
set_option maxRecDepth 20000 in
theorem wsL_law_c7 : ∀ w ∈ wsL_law0_r7, w ∈ lw_tbl := fun w h => (goodIn_r wsL_law0_r7 [574, 397, 64, 398, 575, 537, 538, 63, 539, 540, 541, 542, 543, 544, 545, 546, 65, 547, 548, 1023, 549, 561, 562, 563] (by decide +kernel) (by decide +kernel) w h).1
set_option maxRecDepth 20000 in
theorem wsL_law_c8 : ∀ w ∈ wsL_law0_r8, w ∈ lw_tbl := fun w h => (goodIn_r wsL_law0_r8 [564, 565, 567, 568, 569, 570, 571, 573, 572, 66, 576, 577, 578, 579, 273, 496, 350, 351, 352, 259, 260, 261, 262, 263] (by decide +kernel) (by decide +kernel) w h).1
set_option maxRecDepth 20000 in
theorem wsL_law_c9 : ∀ w ∈ wsL_law0_r9, w ∈ lw_tbl := fun w h => (goodIn_r wsL_law0_r9 [264, 67, 265, 266, 267, 68, 268, 269, 270, 271, 272, 580, 582, 13, 583, 481, 487, 478, 484, 283, 284, 803, 804, 805] (by decide +kernel) (by decide +kernel) w h).1
set_option maxRecDepth 20000 in
theorem wsL_law_c10 : ∀ w ∈ wsL_law0_r10, w ∈ lw_tbl := fun w h => (goodIn_r wsL_law0_r10 [806, 765, 766, 817, 807, 808, 809, 810, 812, 20, 813, 814, 815, 816, 799, 800, 801, 802, 584, 585, 586, 587, 588, 589] (by decide +kernel) (by decide +kernel) w h).1
set_option maxRecDepth 20000 in
theorem wsL_law_c11 : ∀ w ∈ wsL_law0_r11, w ∈ lw_tbl := fun w h => (goodIn_r wsL_law0_r11 [590, 495, 187, 188, 189, 190, 191, 591, 818, 819, 820, 821, 822, 824, 21, 825, 826, 828, 22, 829, 830, 832, 23, 833] (by decide +kernel) (by decide +kernel) w h).1
set_option maxRecDepth 20000 in
theorem wsL_law_c12 : ∀ w ∈ wsL_law0_r12, w ∈ lw_tbl := fun w h => (goodIn_r wsL_law0_r12 [592, 593, 594, 595, 596, 597, 598, 483, 486, 477, 480, 326, 327, 328, 329, 330, 331, 332, 333, 834, 835, 836, 837, 838] (by decide +kernel) (by decide +kernel) w h).1
set_option maxRecDepth 20000 in
theorem wsL_law_c13 : ∀ w ∈ wsL_law0_r13, w ∈ lw_tbl := fun w h => (goodIn_r wsL_law0_r13 [840, 24, 841, 768, 772, 773, 842, 844, 25, 845, 846, 848, 26, 849, 850, 852, 27, 853, 854, 856, 28, 857, 858, 860] (by decide +kernel) (by decide +kernel) w h).1
set_option maxRecDepth 20000 in
theorem wsL_law_c14 : ∀ w ∈ wsL_law0_r14, w ∈ lw_tbl := fun w h => (goodIn_r wsL_law0_r14 [29, 861, 862, 863, 864, 865, 866, 867, 868, 870, 30, 871, 872, 873, 874, 875, 877, 31, 878, 879, 881, 32, 882, 883] (by decide +kernel) (by decide +kernel) w h).1
set_option maxRecDepth 20000 in
theorem wsL_law_c15 : ∀ w ∈ wsL_law0_r15, w ∈ lw_tbl := fun w h => (goodIn_r wsL_law0_r15 [885, 33, 886, 887, 889, 34, 890, 891, 893, 35, 894, 599, 600, 601, 602, 603, 604, 605, 606, 607, 608, 609, 610, 611] (by decide +kernel) (by decide +kernel) w h).1
set_option maxRecDepth 20000 in
theorem wsL_law_c16 : ∀ w ∈ wsL_law0_r16, w ∈ lw_tbl := fun w h => (goodIn_r wsL_law0_r16 [612, 613, 614, 616, 14, 617, 618, 895, 896, 897, 898, 619, 620, 621, 622, 623, 624, 625, 298, 632, 69, 407, 408, 409] (by decide +kernel) (by decide +kernel) w h).1
set_option maxRecDepth 20000 in
theorem wsL_law_c17 : ∀ w ∈ wsL_law0_r17, w ∈ lw_tbl := fun w h => (goodIn_r wsL_law0_r17 [307, 289, 627, 629, 15, 630, 298, 638, 640, 297, 303, 305, 3, 306, 633, 634, 635, 636, 637, 639, 641, 650, 899, 900] (by decide +kernel) (by decide +kernel) w h).1
set_option maxRecDepth 20000 in
theorem wsL_law_c18 : ∀ w ∈ wsL_law0_r18, w ∈ lw_tbl := fun w h => (goodIn_r wsL_law0_r18 [901, 902, 903, 904, 905, 651, 652, 653, 654, 655, 656, 657, 499, 137, 139, 658, 659, 660, 662, 663, 664, 665, 666, 668] (by decide +kernel) (by decide +kernel) w h).1
set_option maxRecDepth 20000 in
theorem wsL_law_c19 : ∀ w ∈ wsL_law0_r19, w ∈ lw_tbl := fun w h => (goodIn_r wsL_law0_r19 [16, 669, 670, 671, 673, 17, 674, 676, 412, 413, 414, 491, 415, 416, 417, 418, 677, 679, 18, 680, 497, 489, 681, 682] (by decide +kernel) (by decide +kernel) w h).1
set_option maxRecDepth 20000 in
theorem wsL_law_c20 : ∀ w ∈ wsL_law0_r20, w ∈ lw_tbl := fun w h => (goodIn_r wsL_law0_r20 [683, 684, 685, 686, 687, 689, 19, 690, 691, 692, 693, 694, 695, 696, 697, 698, 699, 700, 701, 702, 703, 704, 705, 706] (by decide +kernel) (by decide +kernel) w h).1
set_option maxRecDepth 20000 in
theorem wsL_law_c21 : ∀ w ∈ wsL_law0_r21, w ∈ lw_tbl := fun w h => (goodIn_r wsL_law0_r21 [707, 708, 709, 710, 711, 906, 907, 908, 909, 910, 912, 36, 913, 914, 916, 37, 917, 918, 920, 38, 921, 922, 924, 39] (by decide +kernel) (by decide +kernel) w h).1
set_option maxRecDepth 20000 in
theorem wsL_law_c22 : ∀ w ∈ wsL_law0_r22, w ∈ lw_tbl := fun w h => (goodIn_r wsL_law0_r22 [925, 926, 928, 40, 929, 930, 932, 41, 933, 712, 713, 714, 715, 368, 369, 370, 490, 493, 318, 319, 320, 274, 275, 276] (by decide +kernel) (by decide +kernel) w h).1
set_option maxRecDepth 20000 in
theorem wsL_law_c23 : ∀ w ∈ wsL_law0_r23, w ∈ lw_tbl := fun w h => (goodIn_r wsL_law0_r23 [277, 278, 279, 280, 281, 934, 935, 936, 937, 938, 940, 42, 941, 942, 944, 43, 945, 716, 717, 718, 719, 404, 405, 406] (by decide +kernel) (by decide +kernel) w h).1
set_option maxRecDepth 20000 in
theorem wsL_law_c24 : ∀ w ∈ wsL_law0_r24, w ∈ lw_tbl := fun w h => (goodIn_r wsL_law0_r24 [366, 411, 946, 947, 948, 949, 950, 952, 44, 953, 720, 721, 722, 723, 380, 381, 382, 384, 385, 386, 387, 388, 389, 390] (by decide +kernel) (by decide +kernel) w h).1
set_option maxRecDepth 20000 in
theorem wsL_law_c25 : ∀ w ∈ wsL_law0_r25, w ∈ lw_tbl := fun w h => (goodIn_r wsL_law0_r25 [391, 392, 393, 394, 395, 396, 399, 400, 401, 402, 954, 955, 956, 957, 958, 960, 45, 961, 962, 963, 964, 965, 967, 46] (by decide +kernel) (by decide +kernel) w h).1
set_option maxRecDepth 20000 in
theorem wsL_law_c26 : ∀ w ∈ wsL_law0_r26, w ∈ lw_tbl := fun w h => (goodIn_r wsL_law0_r26 [968, 969, 724, 725, 726, 727, 372, 373, 374, 290, 292, 1, 293, 299, 301, 2, 302, 642, 970, 971, 972, 973, 974, 976] (by decide +kernel) (by decide +kernel) w h).1
set_option maxRecDepth 20000 in
theorem wsL_law_c27 : ∀ w ∈ wsL_law0_r27, w ∈ lw_tbl := fun w h => (goodIn_r wsL_law0_r27 [47, 977, 728, 729, 730, 731, 732, 733, 734, 735, 736, 978, 979, 980, 981, 737, 738, 739, 740, 315, 316, 317, 322, 323] (by decide +kernel) (by decide +kernel) w h).1
set_option maxRecDepth 20000 in
theorem wsL_law_c28 : ∀ w ∈ wsL_law0_r28, w ∈ lw_tbl := fun w h => (goodIn_r wsL_law0_r28 [324, 325, 334, 335, 336, 337, 338, 340, 4, 341, 342, 344, 5, 345, 346, 347, 348, 349, 353, 355, 6, 356, 357, 359] (by decide +kernel) (by decide +kernel) w h).1
set_option maxRecDepth 20000 in
theorem wsL_law_c29 : ∀ w ∈ wsL_law0_r29, w ∈ lw_tbl := fun w h => (goodIn_r wsL_law0_r29 [7, 360, 361, 362, 364, 8, 365, 982, 983, 984, 985, 741, 742, 743, 744, 745, 746, 747, 986, 987, 988, 989, 748, 749] (by decide +kernel) (by decide +kernel) w h).1
set_option maxRecDepth 20000 in
theorem wsL_law_c30 : ∀ w ∈ wsL_law0_r30, w ∈ lw_tbl := fun w h => (goodIn_r wsL_law0_r30 [750, 751, 752, 753, 754, 755, 756, 757, 758, 990, 991, 992, 993, 175, 176, 177, 178, 994, 995, 996, 997, 285, 286, 287] (by decide +kernel) (by decide +kernel) w h).1
set_option maxRecDepth 20000 in
theorem wsL_law_c31 : ∀ w ∈ wsL_law0_r31, w ∈ lw_tbl := fun w h => (goodIn_r wsL_law0_r31 [288, 998, 999, 1000, 1001, 308, 309, 310, 311, 312, 313, 314, 367, 371, 375, 377, 9, 378, 379, 403, 1002, 1003, 1004, 1005] (by decide +kernel) (by decide +kernel) w h).1
set_option maxRecDepth 20000 in
theorem wsL_law_c32 : ∀ w ∈ wsL_law0_r32, w ∈ lw_tbl := fun w h => (goodIn_r wsL_law0_r32 [1006, 1007] (by decide +kernel) (by decide +kernel) w h).1
theorem wsL_law_in0a : ∀ w ∈ (wsL_law0_r1 ++ (wsL_law0_r2 ++ (wsL_law0_r3 ++ (wsL_law0_r4 ++ (wsL_law0_r5 ++ (wsL_law0_r6 ++ (wsL_law0_r7 ++ (wsL_law0_r8 ++ (wsL_law0_r9 ++ (wsL_law0_r10 ++ (wsL_law0_r11 ++ (wsL_law0_r12 ++ (wsL_law0_r13 ++ (wsL_law0_r14 ++ (wsL_law0_r15 ++ (wsL_law0_r16 ++ (wsL_law0_r17 ++ (wsL_law0_r18 ++ (wsL_law0_r19 ++ (wsL_law0_r20 ++ (wsL_law0_r21 ++ (wsL_law0_r22 ++ (wsL_law0_r23 ++ (wsL_law0_r24 ++ (wsL_law0_r25 ++ (wsL_law0_r26 ++ (wsL_law0_r27 ++ (wsL_law0_r28 ++ (wsL_law0_r29 ++ (wsL_law0_r30 ++ (wsL_law0_r31 ++ wsL_law0_r32))))))))))))))))))))))))))))))), w ∈ lw_tbl := fun w h => (List.mem_append.mp h).elim (fun h => wsL_law_c1 w h) (fun h => (List.mem_append.mp h).elim (fun h => wsL_law_c2 w h) (fun h => (List.mem_append.mp h).elim (fun h => wsL_law_c3 w h) (fun h => (List.mem_append.mp h).elim (fun h => wsL_law_c4 w h) (fun h => (List.mem_append.mp h).elim (fun h => wsL_law_c5 w h) (fun h => (List.mem_append.mp h).elim (fun h => wsL_law_c6 w h) (fun h => (List.mem_append.mp h).elim (fun h => wsL_law_c7 w h) (fun h => (List.mem_append.mp h).elim (fun h => wsL_law_c8 w h) (fun h => (List.mem_append.mp h).elim (fun h => wsL_law_c9 w h) (fun h => (List.mem_append.mp h).elim (fun h => wsL_law_c10 w h) (fun h => (List.mem_append.mp h).elim (fun h => wsL_law_c11 w h) (fun h => (List.mem_append.mp h).elim (fun h => wsL_law_c12 w h) (fun h => (List.mem_append.mp h).elim (fun h => wsL_law_c13 w h) (fun h => (List.mem_append.mp h).elim (fun h => wsL_law_c14 w h) (fun h => (List.mem_append.mp h).elim (fun h => wsL_law_c15 w h) (fun h => (List.mem_append.mp h).elim (fun h => wsL_law_c16 w h) (fun h => (List.mem_append.mp h).elim (fun h => wsL_law_c17 w h) (fun h => (List.mem_append.mp h).elim (fun h => wsL_law_c18 w h) (fun h => (List.mem_append.mp h).elim (fun h => wsL_law_c19 w h) (fun h => (List.mem_append.mp h).elim (fun h => wsL_law_c20 w h) (fun h => (List.mem_append.mp h).elim (fun h => wsL_law_c21 w h) (fun h => (List.mem_append.mp h).elim (fun h => wsL_law_c22 w h) (fun h => (List.mem_append.mp h).elim (fun h => wsL_law_c23 w h) (fun h => (List.mem_append.mp h).elim (fun h => wsL_law_c24 w h) (fun h => (List.mem_append.mp h).elim (fun h => wsL_law_c25 w h) (fun h => (List.mem_append.mp h).elim (fun h => wsL_law_c26 w h) (fun h => (List.mem_append.mp h).elim (fun h => wsL_law_c27 w h) (fun h => (List.mem_append.mp h).elim (fun h => wsL_law_c28 w h) (fun h => (List.mem_append.mp h).elim (fun h => wsL_law_c29 w h) (fun h => (List.mem_append.mp h).elim (fun h => wsL_law_c30 w h) (fun h => (List.mem_append.mp h).elim (fun h => wsL_law_c31 w h) (fun h => wsL_law_c32 w h)))))))))))))))))))))))))))))))
theorem wsL_law_uwsX40 : ∀ w ∈ wsX40, w ∈ lw_tbl := by decide +kernel
theorem wsL_law_uwsX50 : ∀ w ∈ wsX50, w ∈ lw_tbl := by decide +kernel
theorem wsL_law_uwsX10 : ∀ w ∈ wsX10, w ∈ lw_tbl := by decide +kernel
theorem wsL_law_uwsX20 : ∀ w ∈ wsX20, w ∈ lw_tbl := by decide +kernel
theorem wsL_law_uwsJx4a65c0 : ∀ w ∈ wsJx4a65c0, w ∈ lw_tbl := by decide +kernel
theorem wsL_law_uwsX00 : ∀ w ∈ wsX00, w ∈ lw_tbl := by decide +kernel
theorem wsL_law_uwsX30 : ∀ w ∈ wsX30, w ∈ lw_tbl := by decide +kernel
set_option maxRecDepth 20000 in
theorem wsL_law_in0 : ∀ w ∈ wsL_law0, w ∈ lw_tbl := fun w h => (List.mem_append.mp h).elim (fun h => (List.mem_append.mp h).elim (fun h => (List.mem_append.mp h).elim (fun h => (List.mem_append.mp h).elim (fun h => (List.mem_append.mp h).elim (fun h => (List.mem_append.mp h).elim (fun h => (List.mem_append.mp h).elim (fun h => (List.mem_append.mp h).elim (fun h => wsL_law_in0a w h) (fun h => wsL_law_uwsX40 w h)) (fun h => wsL_law_uwsX50 w h)) (fun h => wsL_law_uwsX10 w h)) (fun h => wsL_law_uwsX20 w h)) (fun h => wsL_law_uwsJx4a65c0 w h)) (fun h => wsL_law_uwsX00 w h)) (fun h => wsL_law_uwsX30 w h)) (fun h => absurd h List.not_mem_nil)
theorem wsL_law_x0 : ∀ w ∈ (vx_atS RX4 54 "java/lang/IllegalArgumentException" ["java/lang/RuntimeException", "java/lang/Exception"]).filter goodWord, w ∈ lw_tbl := by decide +kernel
theorem wsL_law_x1 : ∀ w ∈ (vx_atS RX4 71 "java/lang/IllegalStateException" ["java/lang/RuntimeException", "java/lang/Exception"]).filter goodWord, w ∈ lw_tbl := by decide +kernel
theorem wsL_law_x2 : ∀ w ∈ (vx_atS RX4 182 "java/lang/IndexOutOfBoundsException" ["java/lang/RuntimeException", "java/lang/Exception"]).filter goodWord, w ∈ lw_tbl := by decide +kernel
theorem wsL_law_x3 : ∀ w ∈ (vx_atS RX1 50 "java/lang/IndexOutOfBoundsException" ["java/lang/RuntimeException", "java/lang/Exception"]).filter goodWord, w ∈ lw_tbl := by decide +kernel
theorem wsL_law_in : ∀ w ∈ wsL_law, w ∈ lw_tbl := fun w h => (List.mem_append.mp h).elim (fun h => (List.mem_append.mp h).elim (fun h => (List.mem_append.mp h).elim (fun h => (List.mem_append.mp h).elim (fun h => wsL_law_in0 w h) (fun h => wsL_law_x0 w h)) (fun h => wsL_law_x1 w h)) (fun h => wsL_law_x2 w h)) (fun h => wsL_law_x3 w h)
theorem inlX0 : ∀ w ∈ wsX00, w ∈ wsL_law := fun _ h => List.mem_append_left _ (List.mem_append_left _ (List.mem_append_left _ (List.mem_append_left _ (List.mem_append_left _ (List.mem_append_left _ (List.mem_append_right _ h))))))
theorem inX0 : ∀ w ∈ wsX00, w ∈ lw_tbl := fun w h => wsL_law_in w (inlX0 w h)
theorem inlX1 : ∀ w ∈ wsX10, w ∈ wsL_law := fun _ h => List.mem_append_left _ (List.mem_append_left _ (List.mem_append_left _ (List.mem_append_left _ (List.mem_append_left _ (List.mem_append_left _ (List.mem_append_left _ (List.mem_append_left _ (List.mem_append_left _ (List.mem_append_right _ h)))))))))
theorem inX1 : ∀ w ∈ wsX10, w ∈ lw_tbl := fun w h => wsL_law_in w (inlX1 w h)
theorem inlX2 : ∀ w ∈ wsX20, w ∈ wsL_law := fun _ h => List.mem_append_left _ (List.mem_append_left _ (List.mem_append_left _ (List.mem_append_left _ (List.mem_append_left _ (List.mem_append_left _ (List.mem_append_left _ (List.mem_append_left _ (List.mem_append_right _ h))))))))
theorem inX2 : ∀ w ∈ wsX20, w ∈ lw_tbl := fun w h => wsL_law_in w (inlX2 w h)
theorem inlX3 : ∀ w ∈ wsX30, w ∈ wsL_law := fun _ h => List.mem_append_left _ (List.mem_append_left _ (List.mem_append_left _ (List.mem_append_left _ (List.mem_append_left _ (List.mem_append_right _ h)))))
theorem inX3 : ∀ w ∈ wsX30, w ∈ lw_tbl := fun w h => wsL_law_in w (inlX3 w h)
theorem inlX4 : ∀ w ∈ wsX40, w ∈ wsL_law := fun _ h => List.mem_append_left _ (List.mem_append_left _ (List.mem_append_left _ (List.mem_append_left _ (List.mem_append_left _ (List.mem_append_left _ (List.mem_append_left _ (List.mem_append_left _ (List.mem_append_left _ (List.mem_append_left _ (List.mem_append_left _ (List.mem_append_right _ h)))))))))))
theorem inX4 : ∀ w ∈ wsX40, w ∈ lw_tbl := fun w h => wsL_law_in w (inlX4 w h)
theorem inlX5 : ∀ w ∈ wsX50, w ∈ wsL_law := fun _ h => List.mem_append_left _ (List.mem_append_left _ (List.mem_append_left _ (List.mem_append_left _ (List.mem_append_left _ (List.mem_append_left _ (List.mem_append_left _ (List.mem_append_left _ (List.mem_append_left _ (List.mem_append_left _ (List.mem_append_right _ h))))))))))
theorem inX5 : ∀ w ∈ wsX50, w ∈ lw_tbl := fun w h => wsL_law_in w (inlX5 w h)
theorem inlJx4a65c : ∀ w ∈ wsJx4a65c0, w ∈ wsL_law := fun _ h => List.mem_append_left _ (List.mem_append_left _ (List.mem_append_left _ (List.mem_append_left _ (List.mem_append_left _ (List.mem_append_left _ (List.mem_append_left _ (List.mem_append_right _ h)))))))
theorem inJx4a65c : ∀ w ∈ wsJx4a65c0, w ∈ lw_tbl := fun w h => wsL_law_in w (inlJx4a65c w h)
abbrev vwCl : List vw_C := [(RJx4a65c, TJx4a65c, 3), (RX0, TX0, 8), (RX1, TX1, 5), (RX2, TX2, 5), (RX3, TX3, 3), (RX4, TX4, 7), (RX5, TX5, 11)]
