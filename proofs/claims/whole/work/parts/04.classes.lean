def T_BitWriter : u_T := fun k => match k with
  | 0 => ("TileForge$BitWriter", "bytes", "[I", true)
  | _ => ("TileForge$BitWriter", "bits", "I", false)
def ty_BitWriter : Nat → FieldType := fun k => match k with
  | 0 => .array .int
  | _ => .int
theorem nm_BitWriter : ∀ a, a < 2 → ∀ b, b < 2 → a ≠ b → (T_BitWriter a).2.1 ≠ (T_BitWriter b).2.1 := by decide +kernel
theorem tok_BitWriter : ∀ k, k < 2 → parseFieldDescriptor (T_BitWriter k).2.2.1 = some (ty_BitWriter k) := by decide +kernel
theorem mw_0 : (.laysFinal "TileForge$BitWriter" "TileForge$BitWriter" "bytes" "[I" : Cond) ∈ GW := List.mem_filter.mpr ⟨(List.mem_append_right _ (List.mem_append_left _ (List.mem_of_getElem? (i := 105) rfl))), rfl⟩
theorem mw_1 : (.lays "TileForge$BitWriter" "TileForge$BitWriter" "bits" "I" : Cond) ∈ GW := List.mem_filter.mpr ⟨(List.mem_append_right _ (List.mem_append_left _ (List.mem_of_getElem? (i := 107) rfl))), rfl⟩
theorem in_BitWriter : ∀ w ∈ u_ws "TileForge$BitWriter" T_BitWriter 2, w ∈ GW := (List.forall_mem_cons.mpr ⟨mw_0, List.forall_mem_cons.mpr ⟨mw_1, fun _ h => absurd h List.not_mem_nil⟩⟩ : ∀ w ∈ ([.laysFinal "TileForge$BitWriter" "TileForge$BitWriter" "bytes" "[I", .lays "TileForge$BitWriter" "TileForge$BitWriter" "bits" "I"] : List Cond), w ∈ GW)
def T_Block : u_T := fun k => match k with
  | 0 => ("TileForge$Block", "above", "[I", true)
  | 1 => ("TileForge$Block", "left", "[I", true)
  | 2 => ("TileForge$Block", "foretold", "[I", true)
  | 3 => ("TileForge$Block", "levels", "[I", true)
  | 4 => ("TileForge$Block", "work", "[I", true)
  | 5 => ("TileForge$Block", "rowAbove", "Z", false)
  | 6 => ("TileForge$Block", "columnBefore", "Z", false)
  | _ => ("TileForge$Block", "corner", "I", false)
def ty_Block : Nat → FieldType := fun k => match k with
  | 0 => .array .int
  | 1 => .array .int
  | 2 => .array .int
  | 3 => .array .int
  | 4 => .array .int
  | 5 => .boolean
  | 6 => .boolean
  | _ => .int
theorem nm_Block : ∀ a, a < 8 → ∀ b, b < 8 → a ≠ b → (T_Block a).2.1 ≠ (T_Block b).2.1 := by decide +kernel
theorem tok_Block : ∀ k, k < 8 → parseFieldDescriptor (T_Block k).2.2.1 = some (ty_Block k) := by decide +kernel
theorem mw_2 : (.laysFinal "TileForge$Block" "TileForge$Block" "above" "[I" : Cond) ∈ GW := List.mem_filter.mpr ⟨(List.mem_append_right _ (List.mem_append_left _ (List.mem_of_getElem? (i := 126) rfl))), rfl⟩
theorem mw_3 : (.laysFinal "TileForge$Block" "TileForge$Block" "left" "[I" : Cond) ∈ GW := List.mem_filter.mpr ⟨(List.mem_append_right _ (List.mem_append_left _ (List.mem_of_getElem? (i := 128) rfl))), rfl⟩
theorem mw_4 : (.laysFinal "TileForge$Block" "TileForge$Block" "foretold" "[I" : Cond) ∈ GW := List.mem_filter.mpr ⟨(List.mem_append_right _ (List.mem_append_left _ (List.mem_of_getElem? (i := 130) rfl))), rfl⟩
theorem mw_5 : (.laysFinal "TileForge$Block" "TileForge$Block" "levels" "[I" : Cond) ∈ GW := List.mem_filter.mpr ⟨(List.mem_append_right _ (List.mem_append_left _ (List.mem_of_getElem? (i := 132) rfl))), rfl⟩
theorem mw_6 : (.laysFinal "TileForge$Block" "TileForge$Block" "work" "[I" : Cond) ∈ GW := List.mem_filter.mpr ⟨(List.mem_append_right _ (List.mem_append_left _ (List.mem_of_getElem? (i := 134) rfl))), rfl⟩
theorem mw_7 : (.lays "TileForge$Block" "TileForge$Block" "rowAbove" "Z" : Cond) ∈ GW := List.mem_filter.mpr ⟨(List.mem_append_right _ (List.mem_append_left _ (List.mem_of_getElem? (i := 136) rfl))), rfl⟩
theorem mw_8 : (.lays "TileForge$Block" "TileForge$Block" "columnBefore" "Z" : Cond) ∈ GW := List.mem_filter.mpr ⟨(List.mem_append_right _ (List.mem_append_left _ (List.mem_of_getElem? (i := 138) rfl))), rfl⟩
theorem mw_9 : (.lays "TileForge$Block" "TileForge$Block" "corner" "I" : Cond) ∈ GW := List.mem_filter.mpr ⟨(List.mem_append_right _ (List.mem_append_left _ (List.mem_of_getElem? (i := 140) rfl))), rfl⟩
theorem in_Block : ∀ w ∈ u_ws "TileForge$Block" T_Block 8, w ∈ GW := (List.forall_mem_cons.mpr ⟨mw_2, List.forall_mem_cons.mpr ⟨mw_3, List.forall_mem_cons.mpr ⟨mw_4, List.forall_mem_cons.mpr ⟨mw_5, List.forall_mem_cons.mpr ⟨mw_6, List.forall_mem_cons.mpr ⟨mw_7, List.forall_mem_cons.mpr ⟨mw_8, List.forall_mem_cons.mpr ⟨mw_9, fun _ h => absurd h List.not_mem_nil⟩⟩⟩⟩⟩⟩⟩⟩ : ∀ w ∈ ([.laysFinal "TileForge$Block" "TileForge$Block" "above" "[I", .laysFinal "TileForge$Block" "TileForge$Block" "left" "[I", .laysFinal "TileForge$Block" "TileForge$Block" "foretold" "[I", .laysFinal "TileForge$Block" "TileForge$Block" "levels" "[I", .laysFinal "TileForge$Block" "TileForge$Block" "work" "[I", .lays "TileForge$Block" "TileForge$Block" "rowAbove" "Z", .lays "TileForge$Block" "TileForge$Block" "columnBefore" "Z", .lays "TileForge$Block" "TileForge$Block" "corner" "I"] : List Cond), w ∈ GW)
def T_ByteRow : u_T := fun k => match k with
  | 0 => ("TileForge$ByteRow", "bytes", "[I", true)
  | 1 => ("TileForge$ByteRow", "length", "I", false)
  | _ => ("TileForge$ByteRow", "position", "I", false)
def ty_ByteRow : Nat → FieldType := fun k => match k with
  | 0 => .array .int
  | 1 => .int
  | _ => .int
theorem nm_ByteRow : ∀ a, a < 3 → ∀ b, b < 3 → a ≠ b → (T_ByteRow a).2.1 ≠ (T_ByteRow b).2.1 := by decide +kernel
theorem tok_ByteRow : ∀ k, k < 3 → parseFieldDescriptor (T_ByteRow k).2.2.1 = some (ty_ByteRow k) := by decide +kernel
theorem mw_10 : (.laysFinal "TileForge$ByteRow" "TileForge$ByteRow" "bytes" "[I" : Cond) ∈ GW := List.mem_filter.mpr ⟨(List.mem_append_right _ (List.mem_append_left _ (List.mem_of_getElem? (i := 80) rfl))), rfl⟩
theorem mw_11 : (.lays "TileForge$ByteRow" "TileForge$ByteRow" "length" "I" : Cond) ∈ GW := List.mem_filter.mpr ⟨(List.mem_append_right _ (List.mem_append_left _ (List.mem_of_getElem? (i := 82) rfl))), rfl⟩
theorem mw_12 : (.lays "TileForge$ByteRow" "TileForge$ByteRow" "position" "I" : Cond) ∈ GW := List.mem_filter.mpr ⟨(List.mem_append_right _ (List.mem_append_left _ (List.mem_of_getElem? (i := 84) rfl))), rfl⟩
theorem in_ByteRow : ∀ w ∈ u_ws "TileForge$ByteRow" T_ByteRow 3, w ∈ GW := (List.forall_mem_cons.mpr ⟨mw_10, List.forall_mem_cons.mpr ⟨mw_11, List.forall_mem_cons.mpr ⟨mw_12, fun _ h => absurd h List.not_mem_nil⟩⟩⟩ : ∀ w ∈ ([.laysFinal "TileForge$ByteRow" "TileForge$ByteRow" "bytes" "[I", .lays "TileForge$ByteRow" "TileForge$ByteRow" "length" "I", .lays "TileForge$ByteRow" "TileForge$ByteRow" "position" "I"] : List Cond), w ∈ GW)
def T_Coder : u_T := fun k => match k with
  | 0 => ("TileForge$Coder", "draft", "LTileForge$Picture;", true)
  | 1 => ("TileForge$Coder", "out", "LTileForge$BitWriter;", true)
  | 2 => ("TileForge$Coder", "block", "LTileForge$Block;", true)
  | 3 => ("TileForge$Coder", "levelCode", "LTileForge$LevelCode;", true)
  | 4 => ("TileForge$Coder", "levelsNotZero", "I", false)
  | _ => ("TileForge$Coder", "greatest", "I", false)
def ty_Coder : Nat → FieldType := fun k => match k with
  | 0 => .object "TileForge$Picture"
  | 1 => .object "TileForge$BitWriter"
  | 2 => .object "TileForge$Block"
  | 3 => .object "TileForge$LevelCode"
  | 4 => .int
  | _ => .int
theorem nm_Coder : ∀ a, a < 6 → ∀ b, b < 6 → a ≠ b → (T_Coder a).2.1 ≠ (T_Coder b).2.1 := by decide +kernel
theorem tok_Coder : ∀ k, k < 6 → parseFieldDescriptor (T_Coder k).2.2.1 = some (ty_Coder k) := by decide +kernel
theorem mw_13 : (.laysFinal "TileForge$Coder" "TileForge$Coder" "draft" "LTileForge$Picture;" : Cond) ∈ GW := List.mem_filter.mpr ⟨(List.mem_append_right _ (List.mem_append_left _ (List.mem_of_getElem? (i := 179) rfl))), rfl⟩
theorem mw_14 : (.laysFinal "TileForge$Coder" "TileForge$Coder" "out" "LTileForge$BitWriter;" : Cond) ∈ GW := List.mem_filter.mpr ⟨(List.mem_append_right _ (List.mem_append_left _ (List.mem_of_getElem? (i := 181) rfl))), rfl⟩
theorem mw_15 : (.laysFinal "TileForge$Coder" "TileForge$Coder" "block" "LTileForge$Block;" : Cond) ∈ GW := List.mem_filter.mpr ⟨(List.mem_append_right _ (List.mem_append_left _ (List.mem_of_getElem? (i := 183) rfl))), rfl⟩
theorem mw_16 : (.laysFinal "TileForge$Coder" "TileForge$Coder" "levelCode" "LTileForge$LevelCode;" : Cond) ∈ GW := List.mem_filter.mpr ⟨(List.mem_append_right _ (List.mem_append_left _ (List.mem_of_getElem? (i := 185) rfl))), rfl⟩
theorem mw_17 : (.lays "TileForge$Coder" "TileForge$Coder" "levelsNotZero" "I" : Cond) ∈ GW := List.mem_filter.mpr ⟨(List.mem_append_right _ (List.mem_append_left _ (List.mem_of_getElem? (i := 187) rfl))), rfl⟩
theorem mw_18 : (.lays "TileForge$Coder" "TileForge$Coder" "greatest" "I" : Cond) ∈ GW := List.mem_filter.mpr ⟨(List.mem_append_right _ (List.mem_append_left _ (List.mem_of_getElem? (i := 189) rfl))), rfl⟩
theorem in_Coder : ∀ w ∈ u_ws "TileForge$Coder" T_Coder 6, w ∈ GW := (List.forall_mem_cons.mpr ⟨mw_13, List.forall_mem_cons.mpr ⟨mw_14, List.forall_mem_cons.mpr ⟨mw_15, List.forall_mem_cons.mpr ⟨mw_16, List.forall_mem_cons.mpr ⟨mw_17, List.forall_mem_cons.mpr ⟨mw_18, fun _ h => absurd h List.not_mem_nil⟩⟩⟩⟩⟩⟩ : ∀ w ∈ ([.laysFinal "TileForge$Coder" "TileForge$Coder" "draft" "LTileForge$Picture;", .laysFinal "TileForge$Coder" "TileForge$Coder" "out" "LTileForge$BitWriter;", .laysFinal "TileForge$Coder" "TileForge$Coder" "block" "LTileForge$Block;", .laysFinal "TileForge$Coder" "TileForge$Coder" "levelCode" "LTileForge$LevelCode;", .lays "TileForge$Coder" "TileForge$Coder" "levelsNotZero" "I", .lays "TileForge$Coder" "TileForge$Coder" "greatest" "I"] : List Cond), w ∈ GW)
def T_LevelCode : u_T := fun k => match k with
  | 0 => ("TileForge$LevelCode", "first", "LTileForge$Tally;", true)
  | _ => ("TileForge$LevelCode", "others", "LTileForge$Tally;", true)
def ty_LevelCode : Nat → FieldType := fun k => match k with
  | 0 => .object "TileForge$Tally"
  | _ => .object "TileForge$Tally"
theorem nm_LevelCode : ∀ a, a < 2 → ∀ b, b < 2 → a ≠ b → (T_LevelCode a).2.1 ≠ (T_LevelCode b).2.1 := by decide +kernel
theorem tok_LevelCode : ∀ k, k < 2 → parseFieldDescriptor (T_LevelCode k).2.2.1 = some (ty_LevelCode k) := by decide +kernel
theorem mw_19 : (.laysFinal "TileForge$LevelCode" "TileForge$LevelCode" "first" "LTileForge$Tally;" : Cond) ∈ GW := List.mem_filter.mpr ⟨(List.mem_append_right _ (List.mem_append_left _ (List.mem_of_getElem? (i := 164) rfl))), rfl⟩
theorem mw_20 : (.laysFinal "TileForge$LevelCode" "TileForge$LevelCode" "others" "LTileForge$Tally;" : Cond) ∈ GW := List.mem_filter.mpr ⟨(List.mem_append_right _ (List.mem_append_left _ (List.mem_of_getElem? (i := 166) rfl))), rfl⟩
theorem in_LevelCode : ∀ w ∈ u_ws "TileForge$LevelCode" T_LevelCode 2, w ∈ GW := (List.forall_mem_cons.mpr ⟨mw_19, List.forall_mem_cons.mpr ⟨mw_20, fun _ h => absurd h List.not_mem_nil⟩⟩ : ∀ w ∈ ([.laysFinal "TileForge$LevelCode" "TileForge$LevelCode" "first" "LTileForge$Tally;", .laysFinal "TileForge$LevelCode" "TileForge$LevelCode" "others" "LTileForge$Tally;"] : List Cond), w ∈ GW)
def T_Picture : u_T := fun k => match k with
  | 0 => ("TileForge$Picture", "pixels", "[I", true)
  | 1 => ("TileForge$Picture", "modes", "[I", true)
  | 2 => ("TileForge$Picture", "made", "Z", false)
  | 3 => ("TileForge$Picture", "width", "I", false)
  | 4 => ("TileForge$Picture", "height", "I", false)
  | _ => ("TileForge$Picture", "modesKnown", "I", false)
def ty_Picture : Nat → FieldType := fun k => match k with
  | 0 => .array .int
  | 1 => .array .int
  | 2 => .boolean
  | 3 => .int
  | 4 => .int
  | _ => .int
theorem nm_Picture : ∀ a, a < 6 → ∀ b, b < 6 → a ≠ b → (T_Picture a).2.1 ≠ (T_Picture b).2.1 := by decide +kernel
theorem tok_Picture : ∀ k, k < 6 → parseFieldDescriptor (T_Picture k).2.2.1 = some (ty_Picture k) := by decide +kernel
theorem mw_21 : (.laysFinal "TileForge$Picture" "TileForge$Picture" "pixels" "[I" : Cond) ∈ GW := List.mem_filter.mpr ⟨(List.mem_append_right _ (List.mem_append_left _ (List.mem_of_getElem? (i := 49) rfl))), rfl⟩
theorem mw_22 : (.laysFinal "TileForge$Picture" "TileForge$Picture" "modes" "[I" : Cond) ∈ GW := List.mem_filter.mpr ⟨(List.mem_append_right _ (List.mem_append_left _ (List.mem_of_getElem? (i := 51) rfl))), rfl⟩
theorem mw_23 : (.lays "TileForge$Picture" "TileForge$Picture" "made" "Z" : Cond) ∈ GW := List.mem_filter.mpr ⟨(List.mem_append_right _ (List.mem_append_left _ (List.mem_of_getElem? (i := 53) rfl))), rfl⟩
theorem mw_24 : (.lays "TileForge$Picture" "TileForge$Picture" "width" "I" : Cond) ∈ GW := List.mem_filter.mpr ⟨(List.mem_append_right _ (List.mem_append_left _ (List.mem_of_getElem? (i := 55) rfl))), rfl⟩
theorem mw_25 : (.lays "TileForge$Picture" "TileForge$Picture" "height" "I" : Cond) ∈ GW := List.mem_filter.mpr ⟨(List.mem_append_right _ (List.mem_append_left _ (List.mem_of_getElem? (i := 57) rfl))), rfl⟩
theorem mw_26 : (.lays "TileForge$Picture" "TileForge$Picture" "modesKnown" "I" : Cond) ∈ GW := List.mem_filter.mpr ⟨(List.mem_append_right _ (List.mem_append_left _ (List.mem_of_getElem? (i := 59) rfl))), rfl⟩
theorem in_Picture : ∀ w ∈ u_ws "TileForge$Picture" T_Picture 6, w ∈ GW := (List.forall_mem_cons.mpr ⟨mw_21, List.forall_mem_cons.mpr ⟨mw_22, List.forall_mem_cons.mpr ⟨mw_23, List.forall_mem_cons.mpr ⟨mw_24, List.forall_mem_cons.mpr ⟨mw_25, List.forall_mem_cons.mpr ⟨mw_26, fun _ h => absurd h List.not_mem_nil⟩⟩⟩⟩⟩⟩ : ∀ w ∈ ([.laysFinal "TileForge$Picture" "TileForge$Picture" "pixels" "[I", .laysFinal "TileForge$Picture" "TileForge$Picture" "modes" "[I", .lays "TileForge$Picture" "TileForge$Picture" "made" "Z", .lays "TileForge$Picture" "TileForge$Picture" "width" "I", .lays "TileForge$Picture" "TileForge$Picture" "height" "I", .lays "TileForge$Picture" "TileForge$Picture" "modesKnown" "I"] : List Cond), w ∈ GW)
def T_RowReader : u_T := fun k => match k with
  | 0 => ("TileForge$RowReader", "block", "LTileForge$Block;", true)
  | 1 => ("TileForge$RowReader", "levelCode", "LTileForge$LevelCode;", true)
  | _ => ("TileForge$RowReader", "bitsOfBlocks", "I", false)
def ty_RowReader : Nat → FieldType := fun k => match k with
  | 0 => .object "TileForge$Block"
  | 1 => .object "TileForge$LevelCode"
  | _ => .int
theorem nm_RowReader : ∀ a, a < 3 → ∀ b, b < 3 → a ≠ b → (T_RowReader a).2.1 ≠ (T_RowReader b).2.1 := by decide +kernel
theorem tok_RowReader : ∀ k, k < 3 → parseFieldDescriptor (T_RowReader k).2.2.1 = some (ty_RowReader k) := by decide +kernel
theorem mw_27 : (.laysFinal "TileForge$RowReader" "TileForge$RowReader" "block" "LTileForge$Block;" : Cond) ∈ GW := List.mem_filter.mpr ⟨(List.mem_append_right _ (List.mem_append_left _ (List.mem_of_getElem? (i := 206) rfl))), rfl⟩
theorem mw_28 : (.laysFinal "TileForge$RowReader" "TileForge$RowReader" "levelCode" "LTileForge$LevelCode;" : Cond) ∈ GW := List.mem_filter.mpr ⟨(List.mem_append_right _ (List.mem_append_left _ (List.mem_of_getElem? (i := 208) rfl))), rfl⟩
theorem mw_29 : (.lays "TileForge$RowReader" "TileForge$RowReader" "bitsOfBlocks" "I" : Cond) ∈ GW := List.mem_filter.mpr ⟨(List.mem_append_right _ (List.mem_append_left _ (List.mem_of_getElem? (i := 210) rfl))), rfl⟩
theorem in_RowReader : ∀ w ∈ u_ws "TileForge$RowReader" T_RowReader 3, w ∈ GW := (List.forall_mem_cons.mpr ⟨mw_27, List.forall_mem_cons.mpr ⟨mw_28, List.forall_mem_cons.mpr ⟨mw_29, fun _ h => absurd h List.not_mem_nil⟩⟩⟩ : ∀ w ∈ ([.laysFinal "TileForge$RowReader" "TileForge$RowReader" "block" "LTileForge$Block;", .laysFinal "TileForge$RowReader" "TileForge$RowReader" "levelCode" "LTileForge$LevelCode;", .lays "TileForge$RowReader" "TileForge$RowReader" "bitsOfBlocks" "I"] : List Cond), w ∈ GW)
def T_Tally : u_T := fun k => match k with
  | 0 => ("TileForge$Tally", "sum", "I", false)
  | _ => ("TileForge$Tally", "n", "I", false)
def ty_Tally : Nat → FieldType := fun k => match k with
  | 0 => .int
  | _ => .int
theorem nm_Tally : ∀ a, a < 2 → ∀ b, b < 2 → a ≠ b → (T_Tally a).2.1 ≠ (T_Tally b).2.1 := by decide +kernel
theorem tok_Tally : ∀ k, k < 2 → parseFieldDescriptor (T_Tally k).2.2.1 = some (ty_Tally k) := by decide +kernel
theorem mw_30 : (.lays "TileForge$Tally" "TileForge$Tally" "sum" "I" : Cond) ∈ GW := List.mem_filter.mpr ⟨(List.mem_append_right _ (List.mem_append_left _ (List.mem_of_getElem? (i := 157) rfl))), rfl⟩
theorem mw_31 : (.lays "TileForge$Tally" "TileForge$Tally" "n" "I" : Cond) ∈ GW := List.mem_filter.mpr ⟨(List.mem_append_right _ (List.mem_append_left _ (List.mem_of_getElem? (i := 159) rfl))), rfl⟩
theorem in_Tally : ∀ w ∈ u_ws "TileForge$Tally" T_Tally 2, w ∈ GW := (List.forall_mem_cons.mpr ⟨mw_30, List.forall_mem_cons.mpr ⟨mw_31, fun _ h => absurd h List.not_mem_nil⟩⟩ : ∀ w ∈ ([.lays "TileForge$Tally" "TileForge$Tally" "sum" "I", .lays "TileForge$Tally" "TileForge$Tally" "n" "I"] : List Cond), w ∈ GW)
def T_TileForge : u_T := fun k => match k with
  | 0 => ("TileForge", "picture", "LTileForge$Picture;", true)
  | 1 => ("TileForge", "copy", "LTileForge$Picture;", true)
  | 2 => ("TileForge", "result", "LTileForge$Picture;", true)
  | 3 => ("TileForge", "row", "LTileForge$ByteRow;", true)
  | 4 => ("TileForge", "coder", "LTileForge$Coder;", true)
  | 5 => ("TileForge", "rowReader", "LTileForge$RowReader;", true)
  | 6 => ("TileForge", "bitsCoded", "I", false)
  | 7 => ("TileForge", "levelsCoded", "I", false)
  | 8 => ("TileForge", "greatestLevel", "I", false)
  | 9 => ("TileForge", "blocksRead", "I", false)
  | 10 => ("TileForge", "fate", "I", false)
  | _ => ("TileForge", "bitsRead", "I", false)
def ty_TileForge : Nat → FieldType := fun k => match k with
  | 0 => .object "TileForge$Picture"
  | 1 => .object "TileForge$Picture"
  | 2 => .object "TileForge$Picture"
  | 3 => .object "TileForge$ByteRow"
  | 4 => .object "TileForge$Coder"
  | 5 => .object "TileForge$RowReader"
  | 6 => .int
  | 7 => .int
  | 8 => .int
  | 9 => .int
  | 10 => .int
  | _ => .int
theorem nm_TileForge : ∀ a, a < 12 → ∀ b, b < 12 → a ≠ b → (T_TileForge a).2.1 ≠ (T_TileForge b).2.1 := by decide +kernel
theorem tok_TileForge : ∀ k, k < 12 → parseFieldDescriptor (T_TileForge k).2.2.1 = some (ty_TileForge k) := by decide +kernel
theorem mw_32 : (.laysFinal "TileForge" "TileForge" "picture" "LTileForge$Picture;" : Cond) ∈ GW := List.mem_filter.mpr ⟨(List.mem_append_right _ (List.mem_append_left _ (List.mem_of_getElem? (i := 225) rfl))), rfl⟩
theorem mw_33 : (.laysFinal "TileForge" "TileForge" "copy" "LTileForge$Picture;" : Cond) ∈ GW := List.mem_filter.mpr ⟨(List.mem_append_right _ (List.mem_append_left _ (List.mem_of_getElem? (i := 227) rfl))), rfl⟩
theorem mw_34 : (.laysFinal "TileForge" "TileForge" "result" "LTileForge$Picture;" : Cond) ∈ GW := List.mem_filter.mpr ⟨(List.mem_append_right _ (List.mem_append_left _ (List.mem_of_getElem? (i := 229) rfl))), rfl⟩
theorem mw_35 : (.laysFinal "TileForge" "TileForge" "row" "LTileForge$ByteRow;" : Cond) ∈ GW := List.mem_filter.mpr ⟨(List.mem_append_right _ (List.mem_append_left _ (List.mem_of_getElem? (i := 231) rfl))), rfl⟩
theorem mw_36 : (.laysFinal "TileForge" "TileForge" "coder" "LTileForge$Coder;" : Cond) ∈ GW := List.mem_filter.mpr ⟨(List.mem_append_right _ (List.mem_append_left _ (List.mem_of_getElem? (i := 233) rfl))), rfl⟩
theorem mw_37 : (.laysFinal "TileForge" "TileForge" "rowReader" "LTileForge$RowReader;" : Cond) ∈ GW := List.mem_filter.mpr ⟨(List.mem_append_right _ (List.mem_append_left _ (List.mem_of_getElem? (i := 235) rfl))), rfl⟩
theorem mw_38 : (.lays "TileForge" "TileForge" "bitsCoded" "I" : Cond) ∈ GW := List.mem_filter.mpr ⟨(List.mem_append_right _ (List.mem_append_left _ (List.mem_of_getElem? (i := 237) rfl))), rfl⟩
theorem mw_39 : (.lays "TileForge" "TileForge" "levelsCoded" "I" : Cond) ∈ GW := List.mem_filter.mpr ⟨(List.mem_append_right _ (List.mem_append_left _ (List.mem_of_getElem? (i := 239) rfl))), rfl⟩
theorem mw_40 : (.lays "TileForge" "TileForge" "greatestLevel" "I" : Cond) ∈ GW := List.mem_filter.mpr ⟨(List.mem_append_right _ (List.mem_append_right _ (List.mem_append_left _ (List.mem_of_getElem? (i := 1) rfl)))), rfl⟩
theorem mw_41 : (.lays "TileForge" "TileForge" "blocksRead" "I" : Cond) ∈ GW := List.mem_filter.mpr ⟨(List.mem_append_right _ (List.mem_append_right _ (List.mem_append_left _ (List.mem_of_getElem? (i := 3) rfl)))), rfl⟩
theorem mw_42 : (.lays "TileForge" "TileForge" "fate" "I" : Cond) ∈ GW := List.mem_filter.mpr ⟨(List.mem_append_right _ (List.mem_append_right _ (List.mem_append_left _ (List.mem_of_getElem? (i := 5) rfl)))), rfl⟩
theorem mw_43 : (.lays "TileForge" "TileForge" "bitsRead" "I" : Cond) ∈ GW := List.mem_filter.mpr ⟨(List.mem_append_right _ (List.mem_append_right _ (List.mem_append_left _ (List.mem_of_getElem? (i := 7) rfl)))), rfl⟩
theorem in_TileForge : ∀ w ∈ u_ws "TileForge" T_TileForge 12, w ∈ GW := (List.forall_mem_cons.mpr ⟨mw_32, List.forall_mem_cons.mpr ⟨mw_33, List.forall_mem_cons.mpr ⟨mw_34, List.forall_mem_cons.mpr ⟨mw_35, List.forall_mem_cons.mpr ⟨mw_36, List.forall_mem_cons.mpr ⟨mw_37, List.forall_mem_cons.mpr ⟨mw_38, List.forall_mem_cons.mpr ⟨mw_39, List.forall_mem_cons.mpr ⟨mw_40, List.forall_mem_cons.mpr ⟨mw_41, List.forall_mem_cons.mpr ⟨mw_42, List.forall_mem_cons.mpr ⟨mw_43, fun _ h => absurd h List.not_mem_nil⟩⟩⟩⟩⟩⟩⟩⟩⟩⟩⟩⟩ : ∀ w ∈ ([.laysFinal "TileForge" "TileForge" "picture" "LTileForge$Picture;", .laysFinal "TileForge" "TileForge" "copy" "LTileForge$Picture;", .laysFinal "TileForge" "TileForge" "result" "LTileForge$Picture;", .laysFinal "TileForge" "TileForge" "row" "LTileForge$ByteRow;", .laysFinal "TileForge" "TileForge" "coder" "LTileForge$Coder;", .laysFinal "TileForge" "TileForge" "rowReader" "LTileForge$RowReader;", .lays "TileForge" "TileForge" "bitsCoded" "I", .lays "TileForge" "TileForge" "levelsCoded" "I", .lays "TileForge" "TileForge" "greatestLevel" "I", .lays "TileForge" "TileForge" "blocksRead" "I", .lays "TileForge" "TileForge" "fate" "I", .lays "TileForge" "TileForge" "bitsRead" "I"] : List Cond), w ∈ GW)
def T_Model : u_T := fun k => match k with
  | 0 => ("TileForgeModel", "wide", "[I", true)
  | 1 => ("TileForgeModel", "high", "[I", true)
  | 2 => ("TileForgeModel", "pixel", "[I", true)
  | 3 => ("TileForgeModel", "stream", "[I", true)
  | 4 => ("TileForgeModel", "laid", "[I", true)
  | 5 => ("TileForgeModel", "block", "[I", true)
  | 6 => ("TileForgeModel", "level", "[I", true)
  | 7 => ("TileForgeModel", "told", "[I", true)
  | 8 => ("TileForgeModel", "above", "[I", true)
  | 9 => ("TileForgeModel", "left", "[I", true)
  | 10 => ("TileForgeModel", "modes", "[I", true)
  | 11 => ("TileForgeModel", "newModes", "[I", true)
  | 12 => ("TileForgeModel", "sum", "[I", true)
  | 13 => ("TileForgeModel", "many", "[I", true)
  | 14 => ("TileForgeModel", "there", "[Z", true)
  | 15 => ("TileForgeModel", "size", "I", false)
  | 16 => ("TileForgeModel", "thrown", "I", false)
  | 17 => ("TileForgeModel", "corner", "I", false)
  | 18 => ("TileForgeModel", "columns", "I", false)
  | 19 => ("TileForgeModel", "rows", "I", false)
  | 20 => ("TileForgeModel", "bits", "I", false)
  | 21 => ("TileForgeModel", "end", "I", false)
  | 22 => ("TileForgeModel", "trouble", "I", false)
  | 23 => ("TileForgeModel", "bitsLaid", "I", false)
  | 24 => ("TileForgeModel", "levels", "I", false)
  | 25 => ("TileForgeModel", "greatest", "I", false)
  | 26 => ("TileForgeModel", "blocks", "I", false)
  | 27 => ("TileForgeModel", "state", "I", false)
  | _ => ("TileForgeModel", "bitsRead", "I", false)
def ty_Model : Nat → FieldType := fun k => match k with
  | 0 => .array .int
  | 1 => .array .int
  | 2 => .array .int
  | 3 => .array .int
  | 4 => .array .int
  | 5 => .array .int
  | 6 => .array .int
  | 7 => .array .int
  | 8 => .array .int
  | 9 => .array .int
  | 10 => .array .int
  | 11 => .array .int
  | 12 => .array .int
  | 13 => .array .int
  | 14 => .array .boolean
  | 15 => .int
  | 16 => .int
  | 17 => .int
  | 18 => .int
  | 19 => .int
  | 20 => .int
  | 21 => .int
  | 22 => .int
  | 23 => .int
  | 24 => .int
  | 25 => .int
  | 26 => .int
  | 27 => .int
  | _ => .int
theorem nm_Model : ∀ a, a < 29 → ∀ b, b < 29 → a ≠ b → (T_Model a).2.1 ≠ (T_Model b).2.1 := by decide +kernel
theorem tok_Model : ∀ k, k < 29 → parseFieldDescriptor (T_Model k).2.2.1 = some (ty_Model k) := by decide +kernel
theorem mw_44 : (.laysFinal "TileForgeModel" "TileForgeModel" "wide" "[I" : Cond) ∈ GW := List.mem_filter.mpr ⟨(List.mem_append_right _ (List.mem_append_right _ (List.mem_append_right _ (List.mem_append_left _ (List.mem_of_getElem? (i := 227) rfl))))), rfl⟩
theorem mw_45 : (.laysFinal "TileForgeModel" "TileForgeModel" "high" "[I" : Cond) ∈ GW := List.mem_filter.mpr ⟨(List.mem_append_right _ (List.mem_append_right _ (List.mem_append_right _ (List.mem_append_left _ (List.mem_of_getElem? (i := 229) rfl))))), rfl⟩
theorem mw_46 : (.laysFinal "TileForgeModel" "TileForgeModel" "pixel" "[I" : Cond) ∈ GW := List.mem_filter.mpr ⟨(List.mem_append_right _ (List.mem_append_right _ (List.mem_append_right _ (List.mem_append_left _ (List.mem_of_getElem? (i := 231) rfl))))), rfl⟩
theorem mw_47 : (.laysFinal "TileForgeModel" "TileForgeModel" "stream" "[I" : Cond) ∈ GW := List.mem_filter.mpr ⟨(List.mem_append_right _ (List.mem_append_right _ (List.mem_append_right _ (List.mem_append_left _ (List.mem_of_getElem? (i := 233) rfl))))), rfl⟩
theorem mw_48 : (.laysFinal "TileForgeModel" "TileForgeModel" "laid" "[I" : Cond) ∈ GW := List.mem_filter.mpr ⟨(List.mem_append_right _ (List.mem_append_right _ (List.mem_append_right _ (List.mem_append_left _ (List.mem_of_getElem? (i := 235) rfl))))), rfl⟩
theorem mw_49 : (.laysFinal "TileForgeModel" "TileForgeModel" "block" "[I" : Cond) ∈ GW := List.mem_filter.mpr ⟨(List.mem_append_right _ (List.mem_append_right _ (List.mem_append_right _ (List.mem_append_left _ (List.mem_of_getElem? (i := 237) rfl))))), rfl⟩
theorem mw_50 : (.laysFinal "TileForgeModel" "TileForgeModel" "level" "[I" : Cond) ∈ GW := List.mem_filter.mpr ⟨(List.mem_append_right _ (List.mem_append_right _ (List.mem_append_right _ (List.mem_append_left _ (List.mem_of_getElem? (i := 239) rfl))))), rfl⟩
theorem mw_51 : (.laysFinal "TileForgeModel" "TileForgeModel" "told" "[I" : Cond) ∈ GW := List.mem_filter.mpr ⟨(List.mem_append_right _ (List.mem_append_right _ (List.mem_append_right _ (List.mem_append_right _ (List.mem_of_getElem? (i := 1) rfl))))), rfl⟩
theorem mw_52 : (.laysFinal "TileForgeModel" "TileForgeModel" "above" "[I" : Cond) ∈ GW := List.mem_filter.mpr ⟨(List.mem_append_right _ (List.mem_append_right _ (List.mem_append_right _ (List.mem_append_right _ (List.mem_of_getElem? (i := 3) rfl))))), rfl⟩
theorem mw_53 : (.laysFinal "TileForgeModel" "TileForgeModel" "left" "[I" : Cond) ∈ GW := List.mem_filter.mpr ⟨(List.mem_append_right _ (List.mem_append_right _ (List.mem_append_right _ (List.mem_append_right _ (List.mem_of_getElem? (i := 5) rfl))))), rfl⟩
theorem mw_54 : (.laysFinal "TileForgeModel" "TileForgeModel" "modes" "[I" : Cond) ∈ GW := List.mem_filter.mpr ⟨(List.mem_append_right _ (List.mem_append_right _ (List.mem_append_right _ (List.mem_append_right _ (List.mem_of_getElem? (i := 7) rfl))))), rfl⟩
theorem mw_55 : (.laysFinal "TileForgeModel" "TileForgeModel" "newModes" "[I" : Cond) ∈ GW := List.mem_filter.mpr ⟨(List.mem_append_right _ (List.mem_append_right _ (List.mem_append_right _ (List.mem_append_right _ (List.mem_of_getElem? (i := 9) rfl))))), rfl⟩
theorem mw_56 : (.laysFinal "TileForgeModel" "TileForgeModel" "sum" "[I" : Cond) ∈ GW := List.mem_filter.mpr ⟨(List.mem_append_right _ (List.mem_append_right _ (List.mem_append_right _ (List.mem_append_right _ (List.mem_of_getElem? (i := 11) rfl))))), rfl⟩
theorem mw_57 : (.laysFinal "TileForgeModel" "TileForgeModel" "many" "[I" : Cond) ∈ GW := List.mem_filter.mpr ⟨(List.mem_append_right _ (List.mem_append_right _ (List.mem_append_right _ (List.mem_append_right _ (List.mem_of_getElem? (i := 13) rfl))))), rfl⟩
theorem mw_58 : (.laysFinal "TileForgeModel" "TileForgeModel" "there" "[Z" : Cond) ∈ GW := List.mem_filter.mpr ⟨(List.mem_append_right _ (List.mem_append_right _ (List.mem_append_right _ (List.mem_append_right _ (List.mem_of_getElem? (i := 15) rfl))))), rfl⟩
theorem mw_59 : (.lays "TileForgeModel" "TileForgeModel" "size" "I" : Cond) ∈ GW := List.mem_filter.mpr ⟨(List.mem_append_right _ (List.mem_append_right _ (List.mem_append_right _ (List.mem_append_right _ (List.mem_of_getElem? (i := 17) rfl))))), rfl⟩
theorem mw_60 : (.lays "TileForgeModel" "TileForgeModel" "thrown" "I" : Cond) ∈ GW := List.mem_filter.mpr ⟨(List.mem_append_right _ (List.mem_append_right _ (List.mem_append_right _ (List.mem_append_right _ (List.mem_of_getElem? (i := 19) rfl))))), rfl⟩
theorem mw_61 : (.lays "TileForgeModel" "TileForgeModel" "corner" "I" : Cond) ∈ GW := List.mem_filter.mpr ⟨(List.mem_append_right _ (List.mem_append_right _ (List.mem_append_right _ (List.mem_append_right _ (List.mem_of_getElem? (i := 21) rfl))))), rfl⟩
theorem mw_62 : (.lays "TileForgeModel" "TileForgeModel" "columns" "I" : Cond) ∈ GW := List.mem_filter.mpr ⟨(List.mem_append_right _ (List.mem_append_right _ (List.mem_append_right _ (List.mem_append_right _ (List.mem_of_getElem? (i := 23) rfl))))), rfl⟩
theorem mw_63 : (.lays "TileForgeModel" "TileForgeModel" "rows" "I" : Cond) ∈ GW := List.mem_filter.mpr ⟨(List.mem_append_right _ (List.mem_append_right _ (List.mem_append_right _ (List.mem_append_right _ (List.mem_of_getElem? (i := 25) rfl))))), rfl⟩
theorem mw_64 : (.lays "TileForgeModel" "TileForgeModel" "bits" "I" : Cond) ∈ GW := List.mem_filter.mpr ⟨(List.mem_append_right _ (List.mem_append_right _ (List.mem_append_right _ (List.mem_append_right _ (List.mem_of_getElem? (i := 27) rfl))))), rfl⟩
theorem mw_65 : (.lays "TileForgeModel" "TileForgeModel" "end" "I" : Cond) ∈ GW := List.mem_filter.mpr ⟨(List.mem_append_right _ (List.mem_append_right _ (List.mem_append_right _ (List.mem_append_right _ (List.mem_of_getElem? (i := 29) rfl))))), rfl⟩
theorem mw_66 : (.lays "TileForgeModel" "TileForgeModel" "trouble" "I" : Cond) ∈ GW := List.mem_filter.mpr ⟨(List.mem_append_right _ (List.mem_append_right _ (List.mem_append_right _ (List.mem_append_right _ (List.mem_of_getElem? (i := 31) rfl))))), rfl⟩
theorem mw_67 : (.lays "TileForgeModel" "TileForgeModel" "bitsLaid" "I" : Cond) ∈ GW := List.mem_filter.mpr ⟨(List.mem_append_right _ (List.mem_append_right _ (List.mem_append_right _ (List.mem_append_right _ (List.mem_of_getElem? (i := 33) rfl))))), rfl⟩
theorem mw_68 : (.lays "TileForgeModel" "TileForgeModel" "levels" "I" : Cond) ∈ GW := List.mem_filter.mpr ⟨(List.mem_append_right _ (List.mem_append_right _ (List.mem_append_right _ (List.mem_append_right _ (List.mem_of_getElem? (i := 35) rfl))))), rfl⟩
theorem mw_69 : (.lays "TileForgeModel" "TileForgeModel" "greatest" "I" : Cond) ∈ GW := List.mem_filter.mpr ⟨(List.mem_append_right _ (List.mem_append_right _ (List.mem_append_right _ (List.mem_append_right _ (List.mem_of_getElem? (i := 37) rfl))))), rfl⟩
theorem mw_70 : (.lays "TileForgeModel" "TileForgeModel" "blocks" "I" : Cond) ∈ GW := List.mem_filter.mpr ⟨(List.mem_append_right _ (List.mem_append_right _ (List.mem_append_right _ (List.mem_append_right _ (List.mem_of_getElem? (i := 39) rfl))))), rfl⟩
theorem mw_71 : (.lays "TileForgeModel" "TileForgeModel" "state" "I" : Cond) ∈ GW := List.mem_filter.mpr ⟨(List.mem_append_right _ (List.mem_append_right _ (List.mem_append_right _ (List.mem_append_right _ (List.mem_of_getElem? (i := 41) rfl))))), rfl⟩
theorem mw_72 : (.lays "TileForgeModel" "TileForgeModel" "bitsRead" "I" : Cond) ∈ GW := List.mem_filter.mpr ⟨(List.mem_append_right _ (List.mem_append_right _ (List.mem_append_right _ (List.mem_append_right _ (List.mem_of_getElem? (i := 43) rfl))))), rfl⟩
theorem in_Model : ∀ w ∈ u_ws "TileForgeModel" T_Model 29, w ∈ GW := (List.forall_mem_cons.mpr ⟨mw_44, List.forall_mem_cons.mpr ⟨mw_45, List.forall_mem_cons.mpr ⟨mw_46, List.forall_mem_cons.mpr ⟨mw_47, List.forall_mem_cons.mpr ⟨mw_48, List.forall_mem_cons.mpr ⟨mw_49, List.forall_mem_cons.mpr ⟨mw_50, List.forall_mem_cons.mpr ⟨mw_51, List.forall_mem_cons.mpr ⟨mw_52, List.forall_mem_cons.mpr ⟨mw_53, List.forall_mem_cons.mpr ⟨mw_54, List.forall_mem_cons.mpr ⟨mw_55, List.forall_mem_cons.mpr ⟨mw_56, List.forall_mem_cons.mpr ⟨mw_57, List.forall_mem_cons.mpr ⟨mw_58, List.forall_mem_cons.mpr ⟨mw_59, List.forall_mem_cons.mpr ⟨mw_60, List.forall_mem_cons.mpr ⟨mw_61, List.forall_mem_cons.mpr ⟨mw_62, List.forall_mem_cons.mpr ⟨mw_63, List.forall_mem_cons.mpr ⟨mw_64, List.forall_mem_cons.mpr ⟨mw_65, List.forall_mem_cons.mpr ⟨mw_66, List.forall_mem_cons.mpr ⟨mw_67, List.forall_mem_cons.mpr ⟨mw_68, List.forall_mem_cons.mpr ⟨mw_69, List.forall_mem_cons.mpr ⟨mw_70, List.forall_mem_cons.mpr ⟨mw_71, List.forall_mem_cons.mpr ⟨mw_72, fun _ h => absurd h List.not_mem_nil⟩⟩⟩⟩⟩⟩⟩⟩⟩⟩⟩⟩⟩⟩⟩⟩⟩⟩⟩⟩⟩⟩⟩⟩⟩⟩⟩⟩⟩ : ∀ w ∈ ([.laysFinal "TileForgeModel" "TileForgeModel" "wide" "[I", .laysFinal "TileForgeModel" "TileForgeModel" "high" "[I", .laysFinal "TileForgeModel" "TileForgeModel" "pixel" "[I", .laysFinal "TileForgeModel" "TileForgeModel" "stream" "[I", .laysFinal "TileForgeModel" "TileForgeModel" "laid" "[I", .laysFinal "TileForgeModel" "TileForgeModel" "block" "[I", .laysFinal "TileForgeModel" "TileForgeModel" "level" "[I", .laysFinal "TileForgeModel" "TileForgeModel" "told" "[I", .laysFinal "TileForgeModel" "TileForgeModel" "above" "[I", .laysFinal "TileForgeModel" "TileForgeModel" "left" "[I", .laysFinal "TileForgeModel" "TileForgeModel" "modes" "[I", .laysFinal "TileForgeModel" "TileForgeModel" "newModes" "[I", .laysFinal "TileForgeModel" "TileForgeModel" "sum" "[I", .laysFinal "TileForgeModel" "TileForgeModel" "many" "[I", .laysFinal "TileForgeModel" "TileForgeModel" "there" "[Z", .lays "TileForgeModel" "TileForgeModel" "size" "I", .lays "TileForgeModel" "TileForgeModel" "thrown" "I", .lays "TileForgeModel" "TileForgeModel" "corner" "I", .lays "TileForgeModel" "TileForgeModel" "columns" "I", .lays "TileForgeModel" "TileForgeModel" "rows" "I", .lays "TileForgeModel" "TileForgeModel" "bits" "I", .lays "TileForgeModel" "TileForgeModel" "end" "I", .lays "TileForgeModel" "TileForgeModel" "trouble" "I", .lays "TileForgeModel" "TileForgeModel" "bitsLaid" "I", .lays "TileForgeModel" "TileForgeModel" "levels" "I", .lays "TileForgeModel" "TileForgeModel" "greatest" "I", .lays "TileForgeModel" "TileForgeModel" "blocks" "I", .lays "TileForgeModel" "TileForgeModel" "state" "I", .lays "TileForgeModel" "TileForgeModel" "bitsRead" "I"] : List Cond), w ∈ GW)
abbrev vwCl : List vw_C := [("TileForge$BitWriter", T_BitWriter, 2), ("TileForge$Block", T_Block, 8), ("TileForge$ByteRow", T_ByteRow, 3), ("TileForge$Coder", T_Coder, 6), ("TileForge$LevelCode", T_LevelCode, 2), ("TileForge$Picture", T_Picture, 6), ("TileForge$RowReader", T_RowReader, 3), ("TileForge$Tally", T_Tally, 2), ("TileForge", T_TileForge, 12), ("TileForgeModel", T_Model, 29)]
