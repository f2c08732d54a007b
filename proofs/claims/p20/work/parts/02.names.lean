/-! ===== BEGIN printed: names, fields, word lists, decode rows ===== -/
def RX0 : String := "MarketAwnings$Awning"
def TX0 : u_T := fun k => match k with
  | 0 => ("MarketAwnings$Awning", "x", "I", false)
  | 1 => ("MarketAwnings$Awning", "y", "I", false)
  | 2 => ("MarketAwnings$Awning", "w", "I", true)
  | 3 => ("MarketAwnings$Awning", "h", "I", true)
  | 4 => ("MarketAwnings$Awning", "level", "I", true)
  | 5 => ("MarketAwnings$Awning", "side", "I", true)
  | 6 => ("MarketAwnings$Awning", "out", "Z", false)
  | _ => ("MarketAwnings$Awning", "dripped", "I", false)
def tyX0 : Nat → FieldType := fun k => match k with
  | 0 => .int
  | 1 => .int
  | 2 => .int
  | 3 => .int
  | 4 => .int
  | 5 => .int
  | 6 => .boolean
  | _ => .int
abbrev wsX00 : List Cond := u_ws RX0 TX0 8
theorem nmX0 : ∀ a, a < 8 → ∀ b, b < 8 → a ≠ b → (TX0 a).2.1 ≠ (TX0 b).2.1 := by decide +kernel
theorem tyX0_ok : ∀ k, k < 8 → parseFieldDescriptor (TX0 k).2.2.1 = some (tyX0 k) := by decide +kernel
abbrev cX0_init : ByteArray := prog_2_method_1_code
def yX0_init : MethodName := ⟨RX0, "<init>", "(IIIIII)V"⟩
abbrev cX0_covers : ByteArray := prog_2_method_2_code
def yX0_covers : MethodName := ⟨RX0, "covers", "(II)Z"⟩
abbrev cX0_dripsAlongRows : ByteArray := prog_2_method_3_code
def yX0_dripsAlongRows : MethodName := ⟨RX0, "dripsAlongRows", "()Z"⟩
abbrev cX0_cellsBeyond : ByteArray := prog_2_method_4_code
def yX0_cellsBeyond : MethodName := ⟨RX0, "cellsBeyond", "()I"⟩
abbrev cX0_columnBeyond : ByteArray := prog_2_method_5_code
def yX0_columnBeyond : MethodName := ⟨RX0, "columnBeyond", "(I)I"⟩
abbrev cX0_rowBeyond : ByteArray := prog_2_method_6_code
def yX0_rowBeyond : MethodName := ⟨RX0, "rowBeyond", "(I)I"⟩
def RX1 : String := "MarketAwnings$Canopy"
def TX1 : u_T := fun k => match k with
  | 0 => ("MarketAwnings$Canopy", "awnings", "Ljava/util/ArrayList;", true)
  | 1 => ("MarketAwnings$Canopy", "layers", "[I", true)
  | 2 => ("MarketAwnings$Canopy", "reached", "[I", true)
  | 3 => ("MarketAwnings$Canopy", "queue", "[I", true)
  | _ => ("MarketAwnings$Canopy", "queued", "I", false)
def tyX1 : Nat → FieldType := fun k => match k with
  | 0 => .object "java/util/ArrayList"
  | 1 => .array .int
  | 2 => .array .int
  | 3 => .array .int
  | _ => .int
abbrev wsX10 : List Cond := u_ws RX1 TX1 5
theorem nmX1 : ∀ a, a < 5 → ∀ b, b < 5 → a ≠ b → (TX1 a).2.1 ≠ (TX1 b).2.1 := by decide +kernel
theorem tyX1_ok : ∀ k, k < 5 → parseFieldDescriptor (TX1 k).2.2.1 = some (tyX1 k) := by decide +kernel
abbrev cX1_init : ByteArray := prog_3_method_1_code
def yX1_init : MethodName := ⟨RX1, "<init>", "()V"⟩
abbrev cX1_size : ByteArray := prog_3_method_2_code
def yX1_size : MethodName := ⟨RX1, "size", "()I"⟩
abbrev cX1_sizeOut : ByteArray := prog_3_method_3_code
def yX1_sizeOut : MethodName := ⟨RX1, "sizeOut", "()I"⟩
abbrev cX1_numbered : ByteArray := prog_3_method_4_code
def yX1_numbered : MethodName := ⟨RX1, "numbered", "(I)LMarketAwnings$Awning;"⟩
abbrev cX1_append : ByteArray := prog_3_method_5_code
def yX1_append : MethodName := ⟨RX1, "append", "(LMarketAwnings$Awning;)V"⟩
abbrev cX1_drop : ByteArray := prog_3_method_6_code
def yX1_drop : MethodName := ⟨RX1, "drop", "(I)V"⟩
abbrev cX1_layOut : ByteArray := prog_3_method_7_code
def yX1_layOut : MethodName := ⟨RX1, "layOut", "()V"⟩
abbrev cX1_layOver : ByteArray := prog_3_method_8_code
def yX1_layOver : MethodName := ⟨RX1, "layOver", "(LMarketAwnings$Awning;)V"⟩
abbrev cX1_layersAt : ByteArray := prog_3_method_9_code
def yX1_layersAt : MethodName := ⟨RX1, "layersAt", "(II)I"⟩
abbrev cX1_highestBelow : ByteArray := prog_3_method_10_code
def yX1_highestBelow : MethodName := ⟨RX1, "highestBelow", "(III)I"⟩
abbrev cX1_covered : ByteArray := prog_3_method_11_code
def yX1_covered : MethodName := ⟨RX1, "covered", "()I"⟩
abbrev cX1_cellsWithLayers : ByteArray := prog_3_method_12_code
def yX1_cellsWithLayers : MethodName := ⟨RX1, "cellsWithLayers", "(I)I"⟩
abbrev cX1_coveredOnlyBy : ByteArray := prog_3_method_13_code
def yX1_coveredOnlyBy : MethodName := ⟨RX1, "coveredOnlyBy", "(LMarketAwnings$Awning;)I"⟩
abbrev cX1_outline : ByteArray := prog_3_method_15_code
def yX1_outline : MethodName := ⟨RX1, "outline", "()I"⟩
abbrev cX1_openSides : ByteArray := prog_3_method_16_code
def yX1_openSides : MethodName := ⟨RX1, "openSides", "(II)I"⟩
abbrev cX1_openAt : ByteArray := prog_3_method_17_code
def yX1_openAt : MethodName := ⟨RX1, "openAt", "(II)I"⟩
abbrev cX1_parts : ByteArray := prog_3_method_18_code
def yX1_parts : MethodName := ⟨RX1, "parts", "()I"⟩
abbrev cX1_reachAllFromQueue : ByteArray := prog_3_method_19_code
def yX1_reachAllFromQueue : MethodName := ⟨RX1, "reachAllFromQueue", "()V"⟩
abbrev cX1_reach : ByteArray := prog_3_method_20_code
def yX1_reach : MethodName := ⟨RX1, "reach", "(II)V"⟩
abbrev cX1_coveredInColumn : ByteArray := prog_3_method_21_code
def yX1_coveredInColumn : MethodName := ⟨RX1, "coveredInColumn", "(I)I"⟩
abbrev cX1_runsInColumn : ByteArray := prog_3_method_22_code
def yX1_runsInColumn : MethodName := ⟨RX1, "runsInColumn", "(I)I"⟩
abbrev cX1_longestRunInColumn : ByteArray := prog_3_method_23_code
def yX1_longestRunInColumn : MethodName := ⟨RX1, "longestRunInColumn", "(I)I"⟩
abbrev cX1_mostLayersInColumn : ByteArray := prog_3_method_24_code
def yX1_mostLayersInColumn : MethodName := ⟨RX1, "mostLayersInColumn", "(I)I"⟩
def RX2 : String := "MarketAwnings$Shower"
def TX2 : u_T := fun k => match k with
  | 0 => ("MarketAwnings$Shower", "canopy", "LMarketAwnings$Canopy;", true)
  | 1 => ("MarketAwnings$Shower", "fallen", "[I", true)
  | 2 => ("MarketAwnings$Shower", "caught", "[I", true)
  | 3 => ("MarketAwnings$Shower", "onGround", "I", false)
  | _ => ("MarketAwnings$Shower", "ranOff", "I", false)
def tyX2 : Nat → FieldType := fun k => match k with
  | 0 => .object "MarketAwnings$Canopy"
  | 1 => .array .int
  | 2 => .array .int
  | 3 => .int
  | _ => .int
abbrev wsX20 : List Cond := u_ws RX2 TX2 5
theorem nmX2 : ∀ a, a < 5 → ∀ b, b < 5 → a ≠ b → (TX2 a).2.1 ≠ (TX2 b).2.1 := by decide +kernel
theorem tyX2_ok : ∀ k, k < 5 → parseFieldDescriptor (TX2 k).2.2.1 = some (tyX2 k) := by decide +kernel
abbrev cX2_init : ByteArray := prog_4_method_1_code
def yX2_init : MethodName := ⟨RX2, "<init>", "(LMarketAwnings$Canopy;)V"⟩
abbrev cX2_pour : ByteArray := prog_4_method_2_code
def yX2_pour : MethodName := ⟨RX2, "pour", "(I)V"⟩
abbrev cX2_fallenAt : ByteArray := prog_4_method_3_code
def yX2_fallenAt : MethodName := ⟨RX2, "fallenAt", "(II)I"⟩
abbrev cX2_caughtBy : ByteArray := prog_4_method_4_code
def yX2_caughtBy : MethodName := ⟨RX2, "caughtBy", "(I)I"⟩
abbrev cX2_dry : ByteArray := prog_4_method_5_code
def yX2_dry : MethodName := ⟨RX2, "dry", "()V"⟩
abbrev cX2_dripFromLevel : ByteArray := prog_4_method_6_code
def yX2_dripFromLevel : MethodName := ⟨RX2, "dripFromLevel", "(I)V"⟩
abbrev cX2_drip : ByteArray := prog_4_method_7_code
def yX2_drip : MethodName := ⟨RX2, "drip", "(LMarketAwnings$Awning;I)V"⟩
abbrev cX2_land : ByteArray := prog_4_method_8_code
def yX2_land : MethodName := ⟨RX2, "land", "(IIII)V"⟩
def RX3 : String := "MarketAwnings$Stall"
def TX3 : u_T := fun k => match k with
  | 0 => ("MarketAwnings$Stall", "x", "I", true)
  | 1 => ("MarketAwnings$Stall", "y", "I", true)
  | _ => ("MarketAwnings$Stall", "groundBefore", "I", true)
def tyX3 : Nat → FieldType := fun k => match k with
  | 0 => .int
  | 1 => .int
  | _ => .int
abbrev wsX30 : List Cond := u_ws RX3 TX3 3
theorem nmX3 : ∀ a, a < 3 → ∀ b, b < 3 → a ≠ b → (TX3 a).2.1 ≠ (TX3 b).2.1 := by decide +kernel
theorem tyX3_ok : ∀ k, k < 3 → parseFieldDescriptor (TX3 k).2.2.1 = some (tyX3 k) := by decide +kernel
abbrev cX3_init : ByteArray := prog_5_method_1_code
def yX3_init : MethodName := ⟨RX3, "<init>", "(III)V"⟩
def RX4 : String := "MarketAwnings"
def TX4 : u_T := fun k => match k with
  | 0 => ("MarketAwnings", "canopy", "LMarketAwnings$Canopy;", true)
  | 1 => ("MarketAwnings", "shower", "LMarketAwnings$Shower;", true)
  | 2 => ("MarketAwnings", "stalls", "Ljava/util/ArrayList;", true)
  | 3 => ("MarketAwnings", "ground", "[I", true)
  | 4 => ("MarketAwnings", "hours", "I", false)
  | 5 => ("MarketAwnings", "groundDrops", "I", false)
  | _ => ("MarketAwnings", "offDrops", "I", false)
def tyX4 : Nat → FieldType := fun k => match k with
  | 0 => .object "MarketAwnings$Canopy"
  | 1 => .object "MarketAwnings$Shower"
  | 2 => .object "java/util/ArrayList"
  | 3 => .array .int
  | 4 => .int
  | 5 => .int
  | _ => .int
abbrev wsX40 : List Cond := u_ws RX4 TX4 7
theorem nmX4 : ∀ a, a < 7 → ∀ b, b < 7 → a ≠ b → (TX4 a).2.1 ≠ (TX4 b).2.1 := by decide +kernel
theorem tyX4_ok : ∀ k, k < 7 → parseFieldDescriptor (TX4 k).2.2.1 = some (tyX4 k) := by decide +kernel
abbrev cX4_init : ByteArray := prog_1_method_1_code
def yX4_init : MethodName := ⟨RX4, "<init>", "()V"⟩
abbrev cX4_hang : ByteArray := prog_1_method_2_code
def yX4_hang : MethodName := ⟨RX4, "hang", "(IIIIII)I"⟩
abbrev cX4_roll : ByteArray := prog_1_method_3_code
def yX4_roll : MethodName := ⟨RX4, "roll", "(I)Z"⟩
abbrev cX4_move : ByteArray := prog_1_method_4_code
def yX4_move : MethodName := ⟨RX4, "move", "(III)I"⟩
abbrev cX4_take : ByteArray := prog_1_method_5_code
def yX4_take : MethodName := ⟨RX4, "take", "(I)I"⟩
abbrev cX4_stall : ByteArray := prog_1_method_6_code
def yX4_stall : MethodName := ⟨RX4, "stall", "(II)I"⟩
abbrev cX4_rain : ByteArray := prog_1_method_7_code
def yX4_rain : MethodName := ⟨RX4, "rain", "(I)I"⟩
abbrev cX4_about : ByteArray := prog_1_method_8_code
def yX4_about : MethodName := ⟨RX4, "about", "(II)I"⟩
abbrev cX4_cell : ByteArray := prog_1_method_9_code
def yX4_cell : MethodName := ⟨RX4, "cell", "(III)I"⟩
abbrev cX4_cord : ByteArray := prog_1_method_10_code
def yX4_cord : MethodName := ⟨RX4, "cord", "(II)I"⟩
abbrev cX4_told : ByteArray := prog_1_method_11_code
def yX4_told : MethodName := ⟨RX4, "told", "(II)I"⟩
abbrev cX4_share : ByteArray := prog_1_method_12_code
def yX4_share : MethodName := ⟨RX4, "share", "(II)I"⟩
abbrev cX4_count : ByteArray := prog_1_method_13_code
def yX4_count : MethodName := ⟨RX4, "count", "(I)I"⟩
abbrev cX4_advise : ByteArray := prog_1_method_16_code
def yX4_advise : MethodName := ⟨RX4, "advise", "()I"⟩
abbrev cX4_mean : ByteArray := prog_1_method_17_code
def yX4_mean : MethodName := ⟨RX4, "mean", "()D"⟩
abbrev cX4_digest : ByteArray := prog_1_method_18_code
def yX4_digest : MethodName := ⟨RX4, "digest", "()J"⟩
abbrev cX4_digestOfColumn : ByteArray := prog_1_method_19_code
def yX4_digestOfColumn : MethodName := ⟨RX4, "digestOfColumn", "(JI)J"⟩
abbrev cX4_numberedStall : ByteArray := prog_1_method_20_code
def yX4_numberedStall : MethodName := ⟨RX4, "numberedStall", "(I)LMarketAwnings$Stall;"⟩
abbrev cX4_hasStallAt : ByteArray := prog_1_method_21_code
def yX4_hasStallAt : MethodName := ⟨RX4, "hasStallAt", "(II)Z"⟩
abbrev cX4_stallsNotCovered : ByteArray := prog_1_method_22_code
def yX4_stallsNotCovered : MethodName := ⟨RX4, "stallsNotCovered", "()I"⟩
abbrev cX4_gotBy : ByteArray := prog_1_method_23_code
def yX4_gotBy : MethodName := ⟨RX4, "gotBy", "(LMarketAwnings$Stall;)I"⟩
abbrev cX4_groundAt : ByteArray := prog_1_method_24_code
def yX4_groundAt : MethodName := ⟨RX4, "groundAt", "(II)I"⟩
abbrev cX4_isCell : ByteArray := prog_1_method_25_code
def yX4_isCell : MethodName := ⟨RX4, "isCell", "(II)Z"⟩
abbrev cX4_requireCell : ByteArray := prog_1_method_26_code
def yX4_requireCell : MethodName := ⟨RX4, "requireCell", "(II)V"⟩
abbrev cX4_requireExtent : ByteArray := prog_1_method_27_code
def yX4_requireExtent : MethodName := ⟨RX4, "requireExtent", "(II)V"⟩
abbrev cX4_requireRoomInSquare : ByteArray := prog_1_method_28_code
def yX4_requireRoomInSquare : MethodName := ⟨RX4, "requireRoomInSquare", "(IIII)V"⟩
abbrev cX4_requireDrops : ByteArray := prog_1_method_29_code
def yX4_requireDrops : MethodName := ⟨RX4, "requireDrops", "(I)V"⟩
abbrev cX4_requireWhat : ByteArray := prog_1_method_30_code
def yX4_requireWhat : MethodName := ⟨RX4, "requireWhat", "(II)V"⟩
def RX5 : String := "MarketAwningsLaw$Sim"
def TX5 : u_T := fun k => match k with
  | 0 => ("MarketAwningsLaw$Sim", "awnings", "[[I", false)
  | 1 => ("MarketAwningsLaw$Sim", "stalls", "[[I", false)
  | 2 => ("MarketAwningsLaw$Sim", "ground", "[[I", false)
  | 3 => ("MarketAwningsLaw$Sim", "hours", "I", false)
  | _ => ("MarketAwningsLaw$Sim", "off", "I", false)
def tyX5 : Nat → FieldType := fun k => match k with
  | 0 => .array (.array .int)
  | 1 => .array (.array .int)
  | 2 => .array (.array .int)
  | 3 => .int
  | _ => .int
abbrev wsX50 : List Cond := u_ws RX5 TX5 5
theorem nmX5 : ∀ a, a < 5 → ∀ b, b < 5 → a ≠ b → (TX5 a).2.1 ≠ (TX5 b).2.1 := by decide +kernel
theorem tyX5_ok : ∀ k, k < 5 → parseFieldDescriptor (TX5 k).2.2.1 = some (tyX5 k) := by decide +kernel
abbrev cX5_init : ByteArray := prog_7_method_1_code
def yX5_init : MethodName := ⟨RX5, "<init>", "()V"⟩
abbrev cX5_with : ByteArray := prog_7_method_2_code
def yX5_with : MethodName := ⟨RX5, "with", "([[I[I)[[I"⟩
abbrev cX5_without : ByteArray := prog_7_method_3_code
def yX5_without : MethodName := ⟨RX5, "without", "([[II)[[I"⟩
abbrev cX5_lies : ByteArray := prog_7_method_4_code
def yX5_lies : MethodName := ⟨RX5, "lies", "(III)Z"⟩
abbrev cX5_lying : ByteArray := prog_7_method_5_code
def yX5_lying : MethodName := ⟨RX5, "lying", "(II)I"⟩
abbrev cX5_isCovered : ByteArray := prog_7_method_6_code
def yX5_isCovered : MethodName := ⟨RX5, "isCovered", "(II)Z"⟩
abbrev cX5_highest : ByteArray := prog_7_method_7_code
def yX5_highest : MethodName := ⟨RX5, "highest", "(III)I"⟩
abbrev cX5_hour : ByteArray := prog_7_method_8_code
def yX5_hour : MethodName := ⟨RX5, "hour", "(I)[[I"⟩
abbrev cX5_rain : ByteArray := prog_7_method_9_code
def yX5_rain : MethodName := ⟨RX5, "rain", "(I)I"⟩
abbrev cX5_own : ByteArray := prog_7_method_10_code
def yX5_own : MethodName := ⟨RX5, "own", "(I)I"⟩
abbrev cX5_covered : ByteArray := prog_7_method_11_code
def yX5_covered : MethodName := ⟨RX5, "covered", "()I"⟩
abbrev cX5_outline : ByteArray := prog_7_method_12_code
def yX5_outline : MethodName := ⟨RX5, "outline", "()I"⟩
abbrev cX5_parts : ByteArray := prog_7_method_13_code
def yX5_parts : MethodName := ⟨RX5, "parts", "()I"⟩
abbrev cX5_shared : ByteArray := prog_7_method_14_code
def yX5_shared : MethodName := ⟨RX5, "shared", "(II)I"⟩
abbrev cX5_isSame : ByteArray := prog_7_method_15_code
def yX5_isSame : MethodName := ⟨RX5, "isSame", "(LMarketAwnings;)Z"⟩
def RX6 : String := "MarketAwningsModel"
def TX6 : u_T := fun k => match k with
  | _ => ("", "", "", false)
def tyX6 : Nat → FieldType := fun k => match k with
  | _ => .int
abbrev wsX60 : List Cond := u_ws RX6 TX6 0
theorem nmX6 : ∀ a, a < 0 → ∀ b, b < 0 → a ≠ b → (TX6 a).2.1 ≠ (TX6 b).2.1 := by decide +kernel
theorem tyX6_ok : ∀ k, k < 0 → parseFieldDescriptor (TX6 k).2.2.1 = some (tyX6 k) := by decide +kernel
def RJx145de : String := "java/io/Serializable"
def TJx145de : u_T := fun k => match k with
  | _ => ("", "", "", false)
def tyJx145de : Nat → FieldType := fun k => match k with
  | _ => .int
abbrev wsJx145de0 : List Cond := u_ws RJx145de TJx145de 0
theorem nmJx145de : ∀ a, a < 0 → ∀ b, b < 0 → a ≠ b → (TJx145de a).2.1 ≠ (TJx145de b).2.1 := by decide +kernel
theorem tyJx145de_ok : ∀ k, k < 0 → parseFieldDescriptor (TJx145de k).2.2.1 = some (tyJx145de k) := by decide +kernel
def RJx8e188 : String := "java/lang/Cloneable"
def TJx8e188 : u_T := fun k => match k with
  | _ => ("", "", "", false)
def tyJx8e188 : Nat → FieldType := fun k => match k with
  | _ => .int
abbrev wsJx8e1880 : List Cond := u_ws RJx8e188 TJx8e188 0
theorem nmJx8e188 : ∀ a, a < 0 → ∀ b, b < 0 → a ≠ b → (TJx8e188 a).2.1 ≠ (TJx8e188 b).2.1 := by decide +kernel
theorem tyJx8e188_ok : ∀ k, k < 0 → parseFieldDescriptor (TJx8e188 k).2.2.1 = some (tyJx8e188 k) := by decide +kernel
def RJxab1ab : String := "java/lang/Iterable"
def TJxab1ab : u_T := fun k => match k with
  | _ => ("", "", "", false)
def tyJxab1ab : Nat → FieldType := fun k => match k with
  | _ => .int
abbrev wsJxab1ab0 : List Cond := u_ws RJxab1ab TJxab1ab 0
theorem nmJxab1ab : ∀ a, a < 0 → ∀ b, b < 0 → a ≠ b → (TJxab1ab a).2.1 ≠ (TJxab1ab b).2.1 := by decide +kernel
theorem tyJxab1ab_ok : ∀ k, k < 0 → parseFieldDescriptor (TJxab1ab k).2.2.1 = some (tyJxab1ab k) := by decide +kernel
def RJ9 : String := "java/lang/Math"
def TJ9 : u_T := fun k => match k with
  | _ => ("", "", "", false)
def tyJ9 : Nat → FieldType := fun k => match k with
  | _ => .int
abbrev wsJ90 : List Cond := u_ws RJ9 TJ9 0
theorem nmJ9 : ∀ a, a < 0 → ∀ b, b < 0 → a ≠ b → (TJ9 a).2.1 ≠ (TJ9 b).2.1 := by decide +kernel
theorem tyJ9_ok : ∀ k, k < 0 → parseFieldDescriptor (TJ9 k).2.2.1 = some (tyJ9 k) := by decide +kernel
abbrev cJ9_max_7cf53 : ByteArray := prog_16_method_65_code
def yJ9_max_7cf53 : MethodName := ⟨RJ9, "max", "(II)I"⟩
abbrev cJ9_min_7cf53 : ByteArray := prog_16_method_69_code
def yJ9_min_7cf53 : MethodName := ⟨RJ9, "min", "(II)I"⟩
def RJ0 : String := "java/lang/String"
def TJ0 : u_T := fun k => match k with
  | _ => ("", "", "", false)
def tyJ0 : Nat → FieldType := fun k => match k with
  | _ => .int
abbrev wsJ00 : List Cond := u_ws RJ0 TJ0 0
theorem nmJ0 : ∀ a, a < 0 → ∀ b, b < 0 → a ≠ b → (TJ0 a).2.1 ≠ (TJ0 b).2.1 := by decide +kernel
theorem tyJ0_ok : ∀ k, k < 0 → parseFieldDescriptor (TJ0 k).2.2.1 = some (tyJ0 k) := by decide +kernel
def RJ10 : String := "java/lang/System"
def TJ10 : u_T := fun k => match k with
  | _ => ("", "", "", false)
def tyJ10 : Nat → FieldType := fun k => match k with
  | _ => .int
abbrev wsJ100 : List Cond := u_ws RJ10 TJ10 0
theorem nmJ10 : ∀ a, a < 0 → ∀ b, b < 0 → a ≠ b → (TJ10 a).2.1 ≠ (TJ10 b).2.1 := by decide +kernel
theorem tyJ10_ok : ∀ k, k < 0 → parseFieldDescriptor (TJ10 k).2.2.1 = some (tyJ10 k) := by decide +kernel
def RJxa1e45 : String := "java/util/AbstractCollection"
def TJxa1e45 : u_T := fun k => match k with
  | _ => ("", "", "", false)
def tyJxa1e45 : Nat → FieldType := fun k => match k with
  | _ => .int
abbrev wsJxa1e450 : List Cond := u_ws RJxa1e45 TJxa1e45 0
theorem nmJxa1e45 : ∀ a, a < 0 → ∀ b, b < 0 → a ≠ b → (TJxa1e45 a).2.1 ≠ (TJxa1e45 b).2.1 := by decide +kernel
theorem tyJxa1e45_ok : ∀ k, k < 0 → parseFieldDescriptor (TJxa1e45 k).2.2.1 = some (tyJxa1e45 k) := by decide +kernel
abbrev cJxa1e45_init_da8c8 : ByteArray := prog_21_method_1_code
def yJxa1e45_init_da8c8 : MethodName := ⟨RJxa1e45, "<init>", "()V"⟩
def RJxc12de : String := "java/util/AbstractList"
def TJxc12de : u_T := fun k => match k with
  | _ => ("", "", "", false)
def tyJxc12de : Nat → FieldType := fun k => match k with
  | _ => .int
abbrev wsJxc12de0 : List Cond := u_ws RJxc12de TJxc12de 0
theorem nmJxc12de : ∀ a, a < 0 → ∀ b, b < 0 → a ≠ b → (TJxc12de a).2.1 ≠ (TJxc12de b).2.1 := by decide +kernel
theorem tyJxc12de_ok : ∀ k, k < 0 → parseFieldDescriptor (TJxc12de k).2.2.1 = some (tyJxc12de k) := by decide +kernel
abbrev cJxc12de_init_da8c8 : ByteArray := prog_22_method_1_code
def yJxc12de_init_da8c8 : MethodName := ⟨RJxc12de, "<init>", "()V"⟩
def RJx4a65c : String := "java/util/ArrayList"
def TJx4a65c : u_T := fun k => match k with
  | 0 => ("java/util/AbstractList", "modCount", "I", false)
  | 1 => ("java/util/ArrayList", "elementData", "[Ljava/lang/Object;", false)
  | _ => ("java/util/ArrayList", "size", "I", false)
def tyJx4a65c : Nat → FieldType := fun k => match k with
  | 0 => .int
  | 1 => .array (.object "java/lang/Object")
  | _ => .int
abbrev wsJx4a65c0 : List Cond := u_ws RJx4a65c TJx4a65c 3
theorem nmJx4a65c : ∀ a, a < 3 → ∀ b, b < 3 → a ≠ b → (TJx4a65c a).2.1 ≠ (TJx4a65c b).2.1 := by decide +kernel
theorem tyJx4a65c_ok : ∀ k, k < 3 → parseFieldDescriptor (TJx4a65c k).2.2.1 = some (tyJx4a65c k) := by decide +kernel
abbrev cJx4a65c_init_da8c8 : ByteArray := prog_23_method_2_code
def yJx4a65c_init_da8c8 : MethodName := ⟨RJx4a65c, "<init>", "()V"⟩
abbrev cJx4a65c_grow_92f84 : ByteArray := prog_23_method_6_code
def yJx4a65c_grow_92f84 : MethodName := ⟨RJx4a65c, "grow", "(I)[Ljava/lang/Object;"⟩
abbrev cJx4a65c_grow_d5877 : ByteArray := prog_23_method_7_code
def yJx4a65c_grow_d5877 : MethodName := ⟨RJx4a65c, "grow", "()[Ljava/lang/Object;"⟩
abbrev cJx4a65c_size_8abf5 : ByteArray := prog_23_method_8_code
def yJx4a65c_size_8abf5 : MethodName := ⟨RJx4a65c, "size", "()I"⟩
abbrev cJx4a65c_elementData_915e3 : ByteArray := prog_23_method_18_code
def yJx4a65c_elementData_915e3 : MethodName := ⟨RJx4a65c, "elementData", "(I)Ljava/lang/Object;"⟩
abbrev cJx4a65c_get_915e3 : ByteArray := prog_23_method_20_code
def yJx4a65c_get_915e3 : MethodName := ⟨RJx4a65c, "get", "(I)Ljava/lang/Object;"⟩
abbrev cJx4a65c_add_72be8 : ByteArray := prog_23_method_24_code
def yJx4a65c_add_72be8 : MethodName := ⟨RJx4a65c, "add", "(Ljava/lang/Object;[Ljava/lang/Object;I)V"⟩
abbrev cJx4a65c_add_9ea2d : ByteArray := prog_23_method_25_code
def yJx4a65c_add_9ea2d : MethodName := ⟨RJx4a65c, "add", "(Ljava/lang/Object;)Z"⟩
abbrev cJx4a65c_remove_915e3 : ByteArray := prog_23_method_29_code
def yJx4a65c_remove_915e3 : MethodName := ⟨RJx4a65c, "remove", "(I)Ljava/lang/Object;"⟩
abbrev cJx4a65c_fastRemove_b59b0 : ByteArray := prog_23_method_39_code
def yJx4a65c_fastRemove_b59b0 : MethodName := ⟨RJx4a65c, "fastRemove", "([Ljava/lang/Object;I)V"⟩
def RJ7 : String := "java/util/Arrays"
def TJ7 : u_T := fun k => match k with
  | _ => ("", "", "", false)
def tyJ7 : Nat → FieldType := fun k => match k with
  | _ => .int
abbrev wsJ70 : List Cond := u_ws RJ7 TJ7 0
theorem nmJ7 : ∀ a, a < 0 → ∀ b, b < 0 → a ≠ b → (TJ7 a).2.1 ≠ (TJ7 b).2.1 := by decide +kernel
theorem tyJ7_ok : ∀ k, k < 0 → parseFieldDescriptor (TJ7 k).2.2.1 = some (tyJ7 k) := by decide +kernel
abbrev cJ7_fill_53178 : ByteArray := prog_24_method_103_code
def yJ7_fill_53178 : MethodName := ⟨RJ7, "fill", "([II)V"⟩
abbrev cJ7_copyOf_1904c : ByteArray := prog_24_method_119_code
def yJ7_copyOf_1904c : MethodName := ⟨RJ7, "copyOf", "([Ljava/lang/Object;I)[Ljava/lang/Object;"⟩
abbrev cJ7_copyOf_6403c : ByteArray := prog_24_method_120_code
def yJ7_copyOf_6403c : MethodName := ⟨RJ7, "copyOf", "([Ljava/lang/Object;ILjava/lang/Class;)[Ljava/lang/Object;"⟩
def RJx5ef63 : String := "java/util/Collection"
def TJx5ef63 : u_T := fun k => match k with
  | _ => ("", "", "", false)
def tyJx5ef63 : Nat → FieldType := fun k => match k with
  | _ => .int
abbrev wsJx5ef630 : List Cond := u_ws RJx5ef63 TJx5ef63 0
theorem nmJx5ef63 : ∀ a, a < 0 → ∀ b, b < 0 → a ≠ b → (TJx5ef63 a).2.1 ≠ (TJx5ef63 b).2.1 := by decide +kernel
theorem tyJx5ef63_ok : ∀ k, k < 0 → parseFieldDescriptor (TJx5ef63 k).2.2.1 = some (tyJx5ef63 k) := by decide +kernel
def RJxbd725 : String := "java/util/List"
def TJxbd725 : u_T := fun k => match k with
  | _ => ("", "", "", false)
def tyJxbd725 : Nat → FieldType := fun k => match k with
  | _ => .int
abbrev wsJxbd7250 : List Cond := u_ws RJxbd725 TJxbd725 0
theorem nmJxbd725 : ∀ a, a < 0 → ∀ b, b < 0 → a ≠ b → (TJxbd725 a).2.1 ≠ (TJxbd725 b).2.1 := by decide +kernel
theorem tyJxbd725_ok : ∀ k, k < 0 → parseFieldDescriptor (TJxbd725 k).2.2.1 = some (tyJxbd725 k) := by decide +kernel
def RJ15 : String := "java/util/Objects"
def TJ15 : u_T := fun k => match k with
  | _ => ("", "", "", false)
def tyJ15 : Nat → FieldType := fun k => match k with
  | _ => .int
abbrev wsJ150 : List Cond := u_ws RJ15 TJ15 0
theorem nmJ15 : ∀ a, a < 0 → ∀ b, b < 0 → a ≠ b → (TJ15 a).2.1 ≠ (TJ15 b).2.1 := by decide +kernel
theorem tyJ15_ok : ∀ k, k < 0 → parseFieldDescriptor (TJ15 k).2.2.1 = some (tyJ15 k) := by decide +kernel
abbrev cJ15_checkIndex_7cf53 : ByteArray := prog_27_method_17_code
def yJ15_checkIndex_7cf53 : MethodName := ⟨RJ15, "checkIndex", "(II)I"⟩
def RJxf0a74 : String := "java/util/RandomAccess"
def TJxf0a74 : u_T := fun k => match k with
  | _ => ("", "", "", false)
def tyJxf0a74 : Nat → FieldType := fun k => match k with
  | _ => .int
abbrev wsJxf0a740 : List Cond := u_ws RJxf0a74 TJxf0a74 0
theorem nmJxf0a74 : ∀ a, a < 0 → ∀ b, b < 0 → a ≠ b → (TJxf0a74 a).2.1 ≠ (TJxf0a74 b).2.1 := by decide +kernel
theorem tyJxf0a74_ok : ∀ k, k < 0 → parseFieldDescriptor (TJxf0a74 k).2.2.1 = some (tyJxf0a74 k) := by decide +kernel
def RJxa66e6 : String := "java/util/SequencedCollection"
def TJxa66e6 : u_T := fun k => match k with
  | _ => ("", "", "", false)
def tyJxa66e6 : Nat → FieldType := fun k => match k with
  | _ => .int
abbrev wsJxa66e60 : List Cond := u_ws RJxa66e6 TJxa66e6 0
theorem nmJxa66e6 : ∀ a, a < 0 → ∀ b, b < 0 → a ≠ b → (TJxa66e6 a).2.1 ≠ (TJxa66e6 b).2.1 := by decide +kernel
theorem tyJxa66e6_ok : ∀ k, k < 0 → parseFieldDescriptor (TJxa66e6 k).2.2.1 = some (tyJxa66e6 k) := by decide +kernel
def RJ8 : String := "jdk/internal/util/ArraysSupport"
def TJ8 : u_T := fun k => match k with
  | _ => ("", "", "", false)
def tyJ8 : Nat → FieldType := fun k => match k with
  | _ => .int
abbrev wsJ80 : List Cond := u_ws RJ8 TJ8 0
theorem nmJ8 : ∀ a, a < 0 → ∀ b, b < 0 → a ≠ b → (TJ8 a).2.1 ≠ (TJ8 b).2.1 := by decide +kernel
theorem tyJ8_ok : ∀ k, k < 0 → parseFieldDescriptor (TJ8 k).2.2.1 = some (tyJ8 k) := by decide +kernel
abbrev cJ8_newLength_cabcc : ByteArray := prog_30_method_27_code
def yJ8_newLength_cabcc : MethodName := ⟨RJ8, "newLength", "(III)I"⟩
abbrev cJ8_hugeLength_7cf53 : ByteArray := prog_30_method_28_code
def yJ8_hugeLength_7cf53 : MethodName := ⟨RJ8, "hugeLength", "(II)I"⟩
def RJ3 : String := "jdk/internal/util/Preconditions"
def TJ3 : u_T := fun k => match k with
  | _ => ("", "", "", false)
def tyJ3 : Nat → FieldType := fun k => match k with
  | _ => .int
abbrev wsJ30 : List Cond := u_ws RJ3 TJ3 0
theorem nmJ3 : ∀ a, a < 0 → ∀ b, b < 0 → a ≠ b → (TJ3 a).2.1 ≠ (TJ3 b).2.1 := by decide +kernel
theorem tyJ3_ok : ∀ k, k < 0 → parseFieldDescriptor (TJ3 k).2.2.1 = some (tyJ3 k) := by decide +kernel
abbrev cJ3_checkIndex_8e157 : ByteArray := prog_31_method_11_code
def yJ3_checkIndex_8e157 : MethodName := ⟨RJ3, "checkIndex", "(IILjava/util/function/BiFunction;)I"⟩
def RL : String := "MarketAwningsLaw"
abbrev cL_below : ByteArray := method_2_code
def yL_below : MethodName := ⟨RL, "below", "(II)I"⟩
abbrev cL_cell : ByteArray := method_3_code
def yL_cell : MethodName := ⟨RL, "cell", "([II)I"⟩
abbrev cL_act : ByteArray := method_4_code
def yL_act : MethodName := ⟨RL, "act", "(LMarketAwnings;LMarketAwningsLaw$Sim;I)Z"⟩
abbrev cL_build : ByteArray := method_5_code
def yL_build : MethodName := ⟨RL, "build", "(LMarketAwnings;[I)LMarketAwningsLaw$Sim;"⟩
abbrev cL_law : ByteArray := code
def yL_law : MethodName := ⟨RL, "law", "([I)Z"⟩
def wsL_law0_r1 : List Cond := [Cond.classLink RL 26 RX4, Cond.instantiable RX4 7, Cond.initialized RX4, Cond.methodLink RL 92 Lib.Math.max.name, Cond.static Lib.Math.max.name, Cond.initialized "java/lang/Math", Cond.code Lib.Math.max.name Lib.Math.max.code 2 (some .int), Cond.methodLink RL 72 yX4_init, Cond.instanceMethod yX4_init, Cond.code yX4_init cX4_init 1 none, Cond.methodLink RX4 3 objectInit, Cond.instanceMethod objectInit, Cond.code objectInit ⟨#[0xb1]⟩ 1 none, Cond.classLink RX4 9 RX1, Cond.instantiable RX1 5, Cond.initialized RX1, Cond.fieldLink RX4 12 "MarketAwnings" "canopy" "LMarketAwnings$Canopy;", Cond.classLink RX4 16 RX2, Cond.instantiable RX2 5, Cond.initialized RX2, Cond.fieldLink RX4 21 "MarketAwnings" "shower" "LMarketAwnings$Shower;", Cond.classLink RX4 25 RJx4a65c, Cond.instantiable RJx4a65c 3, Cond.initialized RJx4a65c]
def wsL_law0_r2 : List Cond := [Cond.fieldLink RX4 28 "MarketAwnings" "stalls" "Ljava/util/ArrayList;", Cond.arrayClass .int, Cond.fieldLink RX4 32 "MarketAwnings" "ground" "[I", Cond.fieldLink RX4 36 "MarketAwnings" "hours" "I", Cond.fieldLink RX4 40 "MarketAwnings" "groundDrops" "I", Cond.fieldLink RX4 43 "MarketAwnings" "offDrops" "I", Cond.methodLink RX4 11 yX1_init, Cond.instanceMethod yX1_init, Cond.code yX1_init cX1_init 1 none, Cond.methodLink RX1 3 objectInit, Cond.classLink RX1 9 RJx4a65c, Cond.fieldLink RX1 12 "MarketAwnings$Canopy" "awnings" "Ljava/util/ArrayList;", Cond.fieldLink RX1 18 "MarketAwnings$Canopy" "layers" "[I", Cond.fieldLink RX1 22 "MarketAwnings$Canopy" "reached" "[I", Cond.fieldLink RX1 25 "MarketAwnings$Canopy" "queue" "[I", Cond.fieldLink RX1 28 "MarketAwnings$Canopy" "queued" "I", Cond.methodLink RX1 11 yJx4a65c_init_da8c8, Cond.instanceMethod yJx4a65c_init_da8c8, Cond.code yJx4a65c_init_da8c8 cJx4a65c_init_da8c8 1 none, Cond.fieldLink RJx4a65c 39 "java/util/ArrayList" "DEFAULTCAPACITY_EMPTY_ELEMENTDATA" "[Ljava/lang/Object;", Cond.fieldLink RJx4a65c 9 "java/util/ArrayList" "elementData" "[Ljava/lang/Object;", Cond.methodLink RJx4a65c 1 yJxc12de_init_da8c8, Cond.instanceMethod yJxc12de_init_da8c8, Cond.initialized RJxc12de]
def wsL_law0_r3 : List Cond := [Cond.code yJxc12de_init_da8c8 cJxc12de_init_da8c8 1 none, Cond.fieldLink RJxc12de 7 "java/util/AbstractList" "modCount" "I", Cond.methodLink RJxc12de 1 yJxa1e45_init_da8c8, Cond.instanceMethod yJxa1e45_init_da8c8, Cond.initialized RJxa1e45, Cond.code yJxa1e45_init_da8c8 cJxa1e45_init_da8c8 1 none, Cond.methodLink RJxa1e45 1 objectInit, Cond.methodLink RX4 18 yX2_init, Cond.instanceMethod yX2_init, Cond.code yX2_init cX2_init 2 none, Cond.methodLink RX2 3 objectInit, Cond.fieldLink RX2 9 "MarketAwnings$Shower" "canopy" "LMarketAwnings$Canopy;", Cond.fieldLink RX2 15 "MarketAwnings$Shower" "fallen" "[I", Cond.fieldLink RX2 19 "MarketAwnings$Shower" "caught" "[I", Cond.fieldLink RX2 22 "MarketAwnings$Shower" "onGround" "I", Cond.fieldLink RX2 26 "MarketAwnings$Shower" "ranOff" "I", Cond.methodLink RX4 27 yJx4a65c_init_da8c8, Cond.methodLink RL 73 yL_build, Cond.static yL_build, Cond.initialized RL, Cond.code yL_build cL_build 4 (some (.object "MarketAwningsLaw$Sim")), Cond.classLink RL 10 RX5, Cond.instantiable RX5 5, Cond.initialized RX5]
def wsL_law0_r4 : List Cond := [Cond.instanceMethod yX5_init, Cond.code yX5_init cX5_init 1 none, Cond.methodLink RX5 1 objectInit, Cond.classLink RX5 7 "[I", Cond.fieldLink RX5 9 "MarketAwningsLaw$Sim" "awnings" "[[I", Cond.fieldLink RX5 15 "MarketAwningsLaw$Sim" "stalls" "[[I", Cond.classLink RX5 18 "[[I", Cond.fieldLink RX5 19 "MarketAwningsLaw$Sim" "ground" "[[I", Cond.methodLink RL 64 yL_cell, Cond.static yL_cell, Cond.code yL_cell cL_cell 2 (some .int), Cond.constant RL 8 (790386105), Cond.methodLink RL 68 yL_act, Cond.static yL_act, Cond.codeWith yL_act cL_act 12 (some .boolean) [(608, 636, 637, 57)], Cond.classLink RL 57 "java/lang/IllegalStateException", Cond.fieldLink RL 9 "MarketAwningsLaw$Sim" "awnings" "[[I", Cond.fieldLink RL 51 "MarketAwningsLaw$Sim" "stalls" "[[I", Cond.methodLink RL 15 yL_below, Cond.static yL_below, Cond.code yL_below cL_below 2 (some .int), Cond.constant RL 7 (2147483647), Cond.methodLink RL 21 yX5_with, Cond.static yX5_with]
def wsL_law0_r5 : List Cond := [Cond.code yX5_with cX5_with 4 (some (.array (.array .int))), Cond.methodLink RL 25 yX4_hang, Cond.instanceMethod yX4_hang, Cond.selects RX4 yX4_hang yX4_hang, Cond.code yX4_hang cX4_hang 7 (some .int), Cond.classLink RX4 50 "java/lang/IllegalArgumentException", Cond.initialized "java/lang/IllegalArgumentException", Cond.classLink RX4 67 "java/lang/IllegalStateException", Cond.initialized "java/lang/IllegalStateException", Cond.classLink RX4 72 RX0, Cond.instantiable RX0 8, Cond.initialized RX0, Cond.methodLink RX4 46 yX4_requireExtent, Cond.static yX4_requireExtent, Cond.code yX4_requireExtent cX4_requireExtent 2 none, Cond.methodLink RX4 59 yX4_requireRoomInSquare, Cond.static yX4_requireRoomInSquare, Cond.code yX4_requireRoomInSquare cX4_requireRoomInSquare 4 none, Cond.classLink RX4 178 "java/lang/IndexOutOfBoundsException", Cond.initialized "java/lang/IndexOutOfBoundsException", Cond.methodLink RX4 63 yX1_size, Cond.instanceMethod yX1_size, Cond.selects RX1 yX1_size yX1_size, Cond.code yX1_size cX1_size 1 (some .int)]
def wsL_law0_r6 : List Cond := [Cond.methodLink RX1 32 yJx4a65c_size_8abf5, Cond.instanceMethod yJx4a65c_size_8abf5, Cond.selects RJx4a65c yJx4a65c_size_8abf5 yJx4a65c_size_8abf5, Cond.code yJx4a65c_size_8abf5 cJx4a65c_size_8abf5 1 (some .int), Cond.fieldLink RJx4a65c 48 "java/util/ArrayList" "size" "I", Cond.methodLink RX4 74 yX0_init, Cond.instanceMethod yX0_init, Cond.code yX0_init cX0_init 7 none, Cond.methodLink RX0 3 objectInit, Cond.fieldLink RX0 9 "MarketAwnings$Awning" "x" "I", Cond.fieldLink RX0 15 "MarketAwnings$Awning" "y" "I", Cond.fieldLink RX0 18 "MarketAwnings$Awning" "w" "I", Cond.fieldLink RX0 21 "MarketAwnings$Awning" "h" "I", Cond.fieldLink RX0 24 "MarketAwnings$Awning" "level" "I", Cond.fieldLink RX0 27 "MarketAwnings$Awning" "side" "I", Cond.fieldLink RX0 30 "MarketAwnings$Awning" "out" "Z", Cond.fieldLink RX0 34 "MarketAwnings$Awning" "dripped" "I", Cond.methodLink RX4 77 yX1_append, Cond.instanceMethod yX1_append, Cond.selects RX1 yX1_append yX1_append, Cond.code yX1_append cX1_append 2 none, Cond.methodLink RX1 53 yJx4a65c_add_9ea2d, Cond.instanceMethod yJx4a65c_add_9ea2d, Cond.selects RJx4a65c yJx4a65c_add_9ea2d yJx4a65c_add_9ea2d]
def wsL_law0_r7 : List Cond := [Cond.code yJx4a65c_add_9ea2d cJx4a65c_add_9ea2d 2 (some .boolean), Cond.fieldLink RJx4a65c 63 "java/util/ArrayList" "modCount" "I", Cond.sameField "java/util/ArrayList" "java/util/AbstractList" "modCount" "I", Cond.methodLink RJx4a65c 131 yJx4a65c_add_72be8, Cond.instanceMethod yJx4a65c_add_72be8, Cond.selects RJx4a65c yJx4a65c_add_72be8 yJx4a65c_add_72be8, Cond.code yJx4a65c_add_72be8 cJx4a65c_add_72be8 4 none, Cond.methodLink RJx4a65c 129 yJx4a65c_grow_d5877, Cond.instanceMethod yJx4a65c_grow_d5877, Cond.selects RJx4a65c yJx4a65c_grow_d5877 yJx4a65c_grow_d5877, Cond.code yJx4a65c_grow_d5877 cJx4a65c_grow_d5877 1 (some (.array (.object "java/lang/Object"))), Cond.methodLink RJx4a65c 69 yJx4a65c_grow_92f84, Cond.instanceMethod yJx4a65c_grow_92f84, Cond.selects RJx4a65c yJx4a65c_grow_92f84 yJx4a65c_grow_92f84, Cond.code yJx4a65c_grow_92f84 cJx4a65c_grow_92f84 4 (some (.array (.object "java/lang/Object"))), Cond.methodLink RJx4a65c 79 Lib.Math.max.name, Cond.classLink RJx4a65c 7 "java/lang/Object", Cond.methodLink RJx4a65c 73 yJ8_newLength_cabcc, Cond.static yJ8_newLength_cabcc, Cond.initialized RJ8, Cond.code yJ8_newLength_cabcc cJ8_newLength_cabcc 4 (some .int), Cond.methodLink RJ8 194 Lib.Math.max.name, Cond.constant RJ8 200 (2147483639), Cond.methodLink RJ8 201 yJ8_hugeLength_7cf53]
def wsL_law0_r8 : List Cond := [Cond.static yJ8_hugeLength_7cf53, Cond.code yJ8_hugeLength_7cf53 cJ8_hugeLength_7cf53 3 (some .int), Cond.methodLink RJx4a65c 66 yJ7_copyOf_1904c, Cond.static yJ7_copyOf_1904c, Cond.initialized RJ7, Cond.code yJ7_copyOf_1904c cJ7_copyOf_1904c 2 (some (.array (.object "java/lang/Object"))), Cond.methodLink RJ7 86 ⟨"java/lang/Object", "getClass", "()Ljava/lang/Class;"⟩, Cond.selects "[Ljava/lang/Object;" ⟨"java/lang/Object", "getClass", "()Ljava/lang/Class;"⟩ ⟨"java/lang/Object", "getClass", "()Ljava/lang/Class;"⟩, Cond.instanceMethod ⟨"java/lang/Object", "getClass", "()Ljava/lang/Class;"⟩, Cond.native ⟨"java/lang/Object", "getClass", "()Ljava/lang/Class;"⟩, Cond.methodLink RJ7 300 yJ7_copyOf_6403c, Cond.static yJ7_copyOf_6403c, Cond.code yJ7_copyOf_6403c cJ7_copyOf_6403c 4 (some (.array (.object "java/lang/Object"))), Cond.classLink RJ7 110 "[Ljava/lang/Object;", Cond.classLink RJ7 2 "java/lang/Object", Cond.methodLink RJ7 304 Lib.Math.min.name, Cond.static Lib.Math.min.name, Cond.code Lib.Math.min.name Lib.Math.min.code 2 (some .int), Cond.methodLink RJ7 150 arraycopyName, Cond.native arraycopyName, Cond.static arraycopyName, Cond.initialized "java/lang/System", Cond.methodLink RX1 57 yX1_layOut, Cond.instanceMethod yX1_layOut]
def wsL_law0_r9 : List Cond := [Cond.selects RX1 yX1_layOut yX1_layOut, Cond.code yX1_layOut cX1_layOut 2 none, Cond.classLink RX1 40 "MarketAwnings$Awning", Cond.fieldLink RX1 42 "MarketAwnings$Awning" "out" "Z", Cond.methodLink RX1 63 yJ7_fill_53178, Cond.static yJ7_fill_53178, Cond.code yJ7_fill_53178 cJ7_fill_53178 4 none, Cond.methodLink RX1 36 yJx4a65c_get_915e3, Cond.instanceMethod yJx4a65c_get_915e3, Cond.selects RJx4a65c yJx4a65c_get_915e3 yJx4a65c_get_915e3, Cond.code yJx4a65c_get_915e3 cJx4a65c_get_915e3 2 (some (.object "java/lang/Object")), Cond.methodLink RJx4a65c 118 yJ15_checkIndex_7cf53, Cond.static yJ15_checkIndex_7cf53, Cond.initialized RJ15, Cond.code yJ15_checkIndex_7cf53 cJ15_checkIndex_7cf53 2 (some .int), Cond.methodLink RJ15 105 yJ3_checkIndex_8e157, Cond.static yJ3_checkIndex_8e157, Cond.initialized RJ3, Cond.code yJ3_checkIndex_8e157 cJ3_checkIndex_8e157 3 (some .int), Cond.methodLink RJx4a65c 123 yJx4a65c_elementData_915e3, Cond.instanceMethod yJx4a65c_elementData_915e3, Cond.selects RJx4a65c yJx4a65c_elementData_915e3 yJx4a65c_elementData_915e3, Cond.code yJx4a65c_elementData_915e3 cJx4a65c_elementData_915e3 2 (some (.object "java/lang/Object")), Cond.methodLink RX1 69 yX1_layOver]
def wsL_law0_r10 : List Cond := [Cond.instanceMethod yX1_layOver, Cond.selects RX1 yX1_layOver yX1_layOver, Cond.code yX1_layOver cX1_layOver 4 none, Cond.fieldLink RX1 73 "MarketAwnings$Awning" "y" "I", Cond.fieldLink RX1 76 "MarketAwnings$Awning" "h" "I", Cond.fieldLink RX1 79 "MarketAwnings$Awning" "x" "I", Cond.fieldLink RX1 82 "MarketAwnings$Awning" "w" "I", Cond.static yX4_isCell, Cond.code yX4_isCell cX4_isCell 2 (some .boolean), Cond.methodLink RL 31 yX4_roll, Cond.instanceMethod yX4_roll, Cond.selects RX4 yX4_roll yX4_roll, Cond.code yX4_roll cX4_roll 3 (some .boolean), Cond.fieldLink RX4 85 "MarketAwnings$Awning" "out" "Z", Cond.methodLink RX4 81 yX1_numbered, Cond.instanceMethod yX1_numbered, Cond.selects RX1 yX1_numbered yX1_numbered, Cond.code yX1_numbered cX1_numbered 2 (some (.object "MarketAwnings$Awning")), Cond.classLink RX1 46 "java/lang/IndexOutOfBoundsException", Cond.methodLink RX4 89 yX1_layOut, Cond.methodLink RL 35 yX4_move, Cond.instanceMethod yX4_move, Cond.selects RX4 yX4_move yX4_move, Cond.code yX4_move cX4_move 5 (some .int)]
def wsL_law0_r11 : List Cond := [Cond.fieldLink RX4 92 "MarketAwnings$Awning" "w" "I", Cond.fieldLink RX4 95 "MarketAwnings$Awning" "h" "I", Cond.fieldLink RX4 98 "MarketAwnings$Awning" "x" "I", Cond.fieldLink RX4 101 "MarketAwnings$Awning" "y" "I", Cond.methodLink RX4 104 yX1_covered, Cond.instanceMethod yX1_covered, Cond.selects RX1 yX1_covered yX1_covered, Cond.code yX1_covered cX1_covered 1 (some .int), Cond.methodLink RX1 95 yX1_cellsWithLayers, Cond.instanceMethod yX1_cellsWithLayers, Cond.selects RX1 yX1_cellsWithLayers yX1_cellsWithLayers, Cond.code yX1_cellsWithLayers cX1_cellsWithLayers 4 (some .int), Cond.methodLink RL 39 yX5_covered, Cond.instanceMethod yX5_covered, Cond.selects RX5 yX5_covered yX5_covered, Cond.code yX5_covered cX5_covered 4 (some .int), Cond.methodLink RX5 45 yX5_isCovered, Cond.instanceMethod yX5_isCovered, Cond.selects RX5 yX5_isCovered yX5_isCovered, Cond.code yX5_isCovered cX5_isCovered 3 (some .boolean), Cond.methodLink RX5 26 yX5_lying, Cond.instanceMethod yX5_lying, Cond.selects RX5 yX5_lying yX5_lying, Cond.code yX5_lying cX5_lying 5 (some .int)]
def wsL_law0_r12 : List Cond := [Cond.methodLink RX5 22 yX5_lies, Cond.instanceMethod yX5_lies, Cond.selects RX5 yX5_lies yX5_lies, Cond.code yX5_lies cX5_lies 5 (some .boolean), Cond.methodLink RL 43 yX5_without, Cond.static yX5_without, Cond.code yX5_without cX5_without 4 (some (.array (.array .int))), Cond.methodLink RL 47 yX4_take, Cond.instanceMethod yX4_take, Cond.selects RX4 yX4_take yX4_take, Cond.code yX4_take cX4_take 2 (some .int), Cond.methodLink RX4 107 yX1_drop, Cond.instanceMethod yX1_drop, Cond.selects RX1 yX1_drop yX1_drop, Cond.code yX1_drop cX1_drop 2 none, Cond.methodLink RX1 60 yJx4a65c_remove_915e3, Cond.instanceMethod yJx4a65c_remove_915e3, Cond.selects RJx4a65c yJx4a65c_remove_915e3 yJx4a65c_remove_915e3, Cond.code yJx4a65c_remove_915e3 cJx4a65c_remove_915e3 4 (some (.object "java/lang/Object")), Cond.methodLink RJx4a65c 144 yJx4a65c_fastRemove_b59b0, Cond.instanceMethod yJx4a65c_fastRemove_b59b0, Cond.selects RJx4a65c yJx4a65c_fastRemove_b59b0 yJx4a65c_fastRemove_b59b0, Cond.code yJx4a65c_fastRemove_b59b0 cJx4a65c_fastRemove_b59b0 4 none, Cond.methodLink RJx4a65c 112 arraycopyName]
def wsL_law0_r13 : List Cond := [Cond.methodLink RL 54 yX4_stall, Cond.instanceMethod yX4_stall, Cond.selects RX4 yX4_stall yX4_stall, Cond.code yX4_stall cX4_stall 3 (some .int), Cond.classLink RX4 123 RX3, Cond.instantiable RX3 3, Cond.initialized RX3, Cond.methodLink RX4 111 yX4_requireCell, Cond.static yX4_requireCell, Cond.code yX4_requireCell cX4_requireCell 2 none, Cond.methodLink RX4 264 yX4_isCell, Cond.methodLink RX4 114 yJx4a65c_size_8abf5, Cond.methodLink RX4 117 yX4_hasStallAt, Cond.instanceMethod yX4_hasStallAt, Cond.selects RX4 yX4_hasStallAt yX4_hasStallAt, Cond.code yX4_hasStallAt cX4_hasStallAt 5 (some .boolean), Cond.classLink RX4 123 "MarketAwnings$Stall", Cond.fieldLink RX4 199 "MarketAwnings$Stall" "x" "I", Cond.fieldLink RX4 200 "MarketAwnings$Stall" "y" "I", Cond.methodLink RX4 257 yJx4a65c_get_915e3, Cond.methodLink RX4 125 yX4_groundAt, Cond.instanceMethod yX4_groundAt, Cond.selects RX4 yX4_groundAt yX4_groundAt, Cond.code yX4_groundAt cX4_groundAt 3 (some .int)]
def wsL_law0_r14 : List Cond := [Cond.methodLink RX4 129 yX3_init, Cond.instanceMethod yX3_init, Cond.code yX3_init cX3_init 4 none, Cond.methodLink RX3 1 objectInit, Cond.fieldLink RX3 7 "MarketAwnings$Stall" "x" "I", Cond.fieldLink RX3 13 "MarketAwnings$Stall" "y" "I", Cond.fieldLink RX3 16 "MarketAwnings$Stall" "groundBefore" "I", Cond.methodLink RX4 132 yJx4a65c_add_9ea2d, Cond.methodLink RL 59 yX4_rain, Cond.instanceMethod yX4_rain, Cond.selects RX4 yX4_rain yX4_rain, Cond.code yX4_rain cX4_rain 4 (some .int), Cond.fieldLink RX4 145 "MarketAwnings$Awning" "dripped" "I", Cond.fieldLink RX4 152 "MarketAwnings$Shower" "onGround" "I", Cond.fieldLink RX4 155 "MarketAwnings$Shower" "ranOff" "I", Cond.methodLink RX4 136 yX4_requireDrops, Cond.static yX4_requireDrops, Cond.code yX4_requireDrops cX4_requireDrops 1 none, Cond.methodLink RX4 139 yX2_pour, Cond.instanceMethod yX2_pour, Cond.selects RX2 yX2_pour yX2_pour, Cond.code yX2_pour cX2_pour 4 none, Cond.methodLink RX2 29 yX2_dry, Cond.instanceMethod yX2_dry]
def wsL_law0_r15 : List Cond := [Cond.selects RX2 yX2_dry yX2_dry, Cond.code yX2_dry cX2_dry 1 none, Cond.methodLink RX2 44 yJ7_fill_53178, Cond.methodLink RX2 32 yX2_land, Cond.instanceMethod yX2_land, Cond.selects RX2 yX2_land yX2_land, Cond.code yX2_land cX2_land 6 none, Cond.methodLink RX2 86 yX1_highestBelow, Cond.instanceMethod yX1_highestBelow, Cond.selects RX1 yX1_highestBelow yX1_highestBelow, Cond.code yX1_highestBelow cX1_highestBelow 8 (some .int), Cond.fieldLink RX1 89 "MarketAwnings$Awning" "level" "I", Cond.methodLink RX1 92 yX0_covers, Cond.instanceMethod yX0_covers, Cond.selects RX0 yX0_covers yX0_covers, Cond.code yX0_covers cX0_covers 3 (some .boolean), Cond.methodLink RX2 36 yX2_dripFromLevel, Cond.instanceMethod yX2_dripFromLevel, Cond.selects RX2 yX2_dripFromLevel yX2_dripFromLevel, Cond.code yX2_dripFromLevel cX2_dripFromLevel 4 none, Cond.fieldLink RX2 60 "MarketAwnings$Awning" "out" "Z", Cond.fieldLink RX2 66 "MarketAwnings$Awning" "level" "I", Cond.methodLink RX2 50 yX1_size, Cond.methodLink RX2 56 yX1_numbered]
def wsL_law0_r16 : List Cond := [Cond.methodLink RX2 69 yX2_caughtBy, Cond.instanceMethod yX2_caughtBy, Cond.selects RX2 yX2_caughtBy yX2_caughtBy, Cond.code yX2_caughtBy cX2_caughtBy 2 (some .int), Cond.methodLink RX2 73 yX2_drip, Cond.instanceMethod yX2_drip, Cond.selects RX2 yX2_drip yX2_drip, Cond.code yX2_drip cX2_drip 8 none, Cond.methodLink RX2 77 yX0_cellsBeyond, Cond.instanceMethod yX0_cellsBeyond, Cond.selects RX0 yX0_cellsBeyond yX0_cellsBeyond, Cond.code yX0_cellsBeyond cX0_cellsBeyond 1 (some .int), Cond.methodLink RX0 37 yX0_dripsAlongRows, Cond.instanceMethod yX0_dripsAlongRows, Cond.selects RX0 yX0_dripsAlongRows yX0_dripsAlongRows, Cond.code yX0_dripsAlongRows cX0_dripsAlongRows 1 (some .boolean), Cond.methodLink RX2 80 yX0_columnBeyond, Cond.instanceMethod yX0_columnBeyond, Cond.selects RX0 yX0_columnBeyond yX0_columnBeyond, Cond.code yX0_columnBeyond cX0_columnBeyond 2 (some .int), Cond.methodLink RX2 83 yX0_rowBeyond, Cond.instanceMethod yX0_rowBeyond, Cond.selects RX0 yX0_rowBeyond yX0_rowBeyond, Cond.code yX0_rowBeyond cX0_rowBeyond 2 (some .int)]
def wsL_law0_r17 : List Cond := [Cond.methodLink RX4 142 yX2_fallenAt, Cond.instanceMethod yX2_fallenAt, Cond.selects RX2 yX2_fallenAt yX2_fallenAt, Cond.code yX2_fallenAt cX2_fallenAt 3 (some .int), Cond.methodLink RX4 148 yX2_caughtBy, Cond.methodLink RL 62 yX5_rain, Cond.instanceMethod yX5_rain, Cond.selects RX5 yX5_rain yX5_rain, Cond.code yX5_rain cX5_rain 8 (some .int), Cond.fieldLink RX5 38 "MarketAwningsLaw$Sim" "off" "I", Cond.fieldLink RX5 42 "MarketAwningsLaw$Sim" "hours" "I", Cond.methodLink RX5 34 yX5_hour, Cond.instanceMethod yX5_hour, Cond.selects RX5 yX5_hour yX5_hour, Cond.code yX5_hour cX5_hour 14 (some (.array (.array .int))), Cond.methodLink RX5 30 yX5_highest, Cond.instanceMethod yX5_highest, Cond.selects RX5 yX5_highest yX5_highest, Cond.code yX5_highest cX5_highest 6 (some .int), Cond.methodLink RL 77 yX4_count, Cond.instanceMethod yX4_count, Cond.selects RX4 yX4_count yX4_count, Cond.code yX4_count cX4_count 2 (some .int), Cond.methodLink RX4 158 yX4_requireWhat]
def wsL_law0_r18 : List Cond := [Cond.static yX4_requireWhat, Cond.code yX4_requireWhat cX4_requireWhat 2 none, Cond.methodLink RX4 213 yX1_sizeOut, Cond.instanceMethod yX1_sizeOut, Cond.selects RX1 yX1_sizeOut yX1_sizeOut, Cond.code yX1_sizeOut cX1_sizeOut 3 (some .int), Cond.methodLink RX4 216 yX1_outline, Cond.instanceMethod yX1_outline, Cond.selects RX1 yX1_outline yX1_outline, Cond.code yX1_outline cX1_outline 4 (some .int), Cond.methodLink RX1 99 yX1_layersAt, Cond.instanceMethod yX1_layersAt, Cond.selects RX1 yX1_layersAt yX1_layersAt, Cond.code yX1_layersAt cX1_layersAt 3 (some .int), Cond.methodLink RX1 103 yX1_openSides, Cond.instanceMethod yX1_openSides, Cond.selects RX1 yX1_openSides yX1_openSides, Cond.code yX1_openSides cX1_openSides 3 (some .int), Cond.methodLink RX1 106 yX1_openAt, Cond.instanceMethod yX1_openAt, Cond.selects RX1 yX1_openAt yX1_openAt, Cond.code yX1_openAt cX1_openAt 3 (some .int), Cond.methodLink RX4 219 yX1_parts, Cond.instanceMethod yX1_parts]
def wsL_law0_r19 : List Cond := [Cond.selects RX1 yX1_parts yX1_parts, Cond.code yX1_parts cX1_parts 4 (some .int), Cond.methodLink RX1 109 yX1_reach, Cond.instanceMethod yX1_reach, Cond.selects RX1 yX1_reach yX1_reach, Cond.code yX1_reach cX1_reach 4 none, Cond.methodLink RX1 113 yX1_reachAllFromQueue, Cond.instanceMethod yX1_reachAllFromQueue, Cond.selects RX1 yX1_reachAllFromQueue yX1_reachAllFromQueue, Cond.code yX1_reachAllFromQueue cX1_reachAllFromQueue 4 none, Cond.methodLink RX4 222 yX1_cellsWithLayers, Cond.methodLink RX4 225 yX4_stallsNotCovered, Cond.instanceMethod yX4_stallsNotCovered, Cond.selects RX4 yX4_stallsNotCovered yX4_stallsNotCovered, Cond.code yX4_stallsNotCovered cX4_stallsNotCovered 4 (some .int), Cond.methodLink RX4 171 yX1_layersAt, Cond.methodLink RL 80 yX4_digest, Cond.instanceMethod yX4_digest, Cond.selects RX4 yX4_digest yX4_digest, Cond.code yX4_digest cX4_digest 5 (some .long), Cond.constantLong RX4 232 (1741), Cond.constantLong RX4 234 (31), Cond.methodLink RX4 236 yX4_count, Cond.methodLink RX4 239 yX4_about]
def wsL_law0_r20 : List Cond := [Cond.instanceMethod yX4_about, Cond.selects RX4 yX4_about yX4_about, Cond.code yX4_about cX4_about 4 (some .int), Cond.fieldLink RX4 161 "MarketAwnings$Awning" "level" "I", Cond.fieldLink RX4 164 "MarketAwnings$Awning" "side" "I", Cond.methodLink RX4 167 yX1_coveredOnlyBy, Cond.instanceMethod yX1_coveredOnlyBy, Cond.selects RX1 yX1_coveredOnlyBy yX1_coveredOnlyBy, Cond.code yX1_coveredOnlyBy cX1_coveredOnlyBy 5 (some .int), Cond.methodLink RX4 242 yX4_told, Cond.instanceMethod yX4_told, Cond.selects RX4 yX4_told yX4_told, Cond.code yX4_told cX4_told 4 (some .int), Cond.methodLink RX4 195 yX4_numberedStall, Cond.instanceMethod yX4_numberedStall, Cond.selects RX4 yX4_numberedStall yX4_numberedStall, Cond.code yX4_numberedStall cX4_numberedStall 2 (some (.object "MarketAwnings$Stall")), Cond.methodLink RX4 201 yX4_gotBy, Cond.instanceMethod yX4_gotBy, Cond.selects RX4 yX4_gotBy yX4_gotBy, Cond.code yX4_gotBy cX4_gotBy 2 (some .int), Cond.fieldLink RX4 261 "MarketAwnings$Stall" "groundBefore" "I", Cond.methodLink RX4 245 yX4_digestOfColumn, Cond.instanceMethod yX4_digestOfColumn]
def wsL_law0_r21 : List Cond := [Cond.selects RX4 yX4_digestOfColumn yX4_digestOfColumn, Cond.code yX4_digestOfColumn cX4_digestOfColumn 8 (some .long), Cond.methodLink RX4 249 yX4_cord, Cond.instanceMethod yX4_cord, Cond.selects RX4 yX4_cord yX4_cord, Cond.code yX4_cord cX4_cord 3 (some .int), Cond.methodLink RX4 183 yX1_coveredInColumn, Cond.instanceMethod yX1_coveredInColumn, Cond.selects RX1 yX1_coveredInColumn yX1_coveredInColumn, Cond.code yX1_coveredInColumn cX1_coveredInColumn 4 (some .int), Cond.methodLink RX4 186 yX1_runsInColumn, Cond.instanceMethod yX1_runsInColumn, Cond.selects RX1 yX1_runsInColumn yX1_runsInColumn, Cond.code yX1_runsInColumn cX1_runsInColumn 4 (some .int), Cond.methodLink RX4 189 yX1_longestRunInColumn, Cond.instanceMethod yX1_longestRunInColumn, Cond.selects RX1 yX1_longestRunInColumn yX1_longestRunInColumn, Cond.code yX1_longestRunInColumn cX1_longestRunInColumn 5 (some .int), Cond.methodLink RX1 116 Lib.Math.max.name, Cond.methodLink RX4 192 yX1_mostLayersInColumn, Cond.instanceMethod yX1_mostLayersInColumn, Cond.selects RX1 yX1_mostLayersInColumn yX1_mostLayersInColumn, Cond.code yX1_mostLayersInColumn cX1_mostLayersInColumn 4 (some .int), Cond.methodLink RX4 252 yX4_cell]
def wsL_law0_r22 : List Cond := [Cond.instanceMethod yX4_cell, Cond.selects RX4 yX4_cell yX4_cell, Cond.code yX4_cell cX4_cell 4 (some .int), Cond.methodLink RX4 174 yX1_highestBelow, Cond.methodLink RL 84 yX4_cord, Cond.methodLink RL 87 yX4_cell, Cond.methodLink RL 89 yX4_about, Cond.methodLink RL 97 yX4_share, Cond.instanceMethod yX4_share, Cond.selects RX4 yX4_share yX4_share, Cond.code yX4_share cX4_share 7 (some .int), Cond.methodLink RX4 205 Lib.Math.min.name, Cond.methodLink RX4 210 Lib.Math.max.name, Cond.methodLink RL 100 yX4_told, Cond.methodLink RL 103 yX4_advise, Cond.instanceMethod yX4_advise, Cond.selects RX4 yX4_advise yX4_advise, Cond.code yX4_advise cX4_advise 6 (some .int), Cond.methodLink RL 106 yX5_isSame, Cond.instanceMethod yX5_isSame, Cond.selects RX5 yX5_isSame yX5_isSame, Cond.code yX5_isSame cX5_isSame 11 (some .boolean), Cond.methodLink RX5 49 Lib.Math.max.name, Cond.methodLink RX5 54 yX5_covered]
def wsL_law0_r23 : List Cond := [Cond.methodLink RX5 58 yX5_outline, Cond.instanceMethod yX5_outline, Cond.selects RX5 yX5_outline yX5_outline, Cond.code yX5_outline cX5_outline 4 (some .int), Cond.methodLink RX5 61 yX5_parts, Cond.instanceMethod yX5_parts, Cond.selects RX5 yX5_parts yX5_parts, Cond.code yX5_parts cX5_parts 8 (some .int), Cond.methodLink RX5 64 yX4_cell, Cond.methodLink RX5 69 yX4_cord, Cond.methodLink RX5 72 yX4_about, Cond.methodLink RX5 75 yX5_own, Cond.instanceMethod yX5_own, Cond.selects RX5 yX5_own yX5_own, Cond.code yX5_own cX5_own 5 (some .int), Cond.methodLink RX5 79 yX4_share, Cond.methodLink RX5 82 yX5_shared, Cond.instanceMethod yX5_shared, Cond.selects RX5 yX5_shared yX5_shared, Cond.code yX5_shared cX5_shared 6 (some .int), Cond.methodLink RX5 85 yX4_told, Cond.methodLink RX5 88 yX4_count, Cond.methodLink RX5 91 yX4_mean, Cond.instanceMethod yX4_mean]
def wsL_law0_r24 : List Cond := [Cond.selects RX4 yX4_mean yX4_mean, Cond.code yX4_mean cX4_mean 4 (some .double)]
def wsL_law0 : List Cond := (wsL_law0_r1 ++ (wsL_law0_r2 ++ (wsL_law0_r3 ++ (wsL_law0_r4 ++ (wsL_law0_r5 ++ (wsL_law0_r6 ++ (wsL_law0_r7 ++ (wsL_law0_r8 ++ (wsL_law0_r9 ++ (wsL_law0_r10 ++ (wsL_law0_r11 ++ (wsL_law0_r12 ++ (wsL_law0_r13 ++ (wsL_law0_r14 ++ (wsL_law0_r15 ++ (wsL_law0_r16 ++ (wsL_law0_r17 ++ (wsL_law0_r18 ++ (wsL_law0_r19 ++ (wsL_law0_r20 ++ (wsL_law0_r21 ++ (wsL_law0_r22 ++ (wsL_law0_r23 ++ wsL_law0_r24))))))))))))))))))))))) ++ wsX40 ++ wsX10 ++ wsX20 ++ wsJx4a65c0 ++ wsX50 ++ wsX00 ++ wsX30 ++ ([] : List Cond)
def wsL_law : List Cond := wsL_law0 ++ (vx_atS RX4 54 "java/lang/IllegalArgumentException" ["java/lang/RuntimeException", "java/lang/Exception"]).filter goodWord ++ (vx_atS RX4 71 "java/lang/IllegalStateException" ["java/lang/RuntimeException", "java/lang/Exception"]).filter goodWord ++ (vx_atS RX4 182 "java/lang/IndexOutOfBoundsException" ["java/lang/RuntimeException", "java/lang/Exception"]).filter goodWord ++ (vx_atS RX1 50 "java/lang/IndexOutOfBoundsException" ["java/lang/RuntimeException", "java/lang/Exception"]).filter goodWord
