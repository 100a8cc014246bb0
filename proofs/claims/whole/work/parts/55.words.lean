/-! the words of the throws: those of the tables that move with the machine, and HW, the rest (the tables' but the last two, which the Statement gives) -/
def HW : List Cond := [.laysStatic "java/lang/Throwable" "UNASSIGNED_STACK" "[Ljava/lang/StackTraceElement;", .laysStatic "java/lang/Throwable" "SUPPRESSED_SENTINEL" "Ljava/util/List;", .declares (Bundle.init0 "java/lang/RuntimeException"), .declares (Bundle.init0 "java/lang/Exception"), .declares (Bundle.init0 "java/lang/Throwable"), .castable "java/lang/IllegalArgumentException" "java/lang/IllegalArgumentException", .castable "java/lang/IndexOutOfBoundsException" "java/lang/IndexOutOfBoundsException", .castable "java/lang/IllegalStateException" "java/lang/IllegalStateException", .castable "java/lang/UnsupportedOperationException" "java/lang/UnsupportedOperationException", .isRef (.static "java/lang/Throwable" "UNASSIGNED_STACK" "[Ljava/lang/StackTraceElement;"), .isRef (.static "java/lang/Throwable" "SUPPRESSED_SENTINEL" "Ljava/util/List;")]
abbrev exN : List String := ["java/lang/RuntimeException", "java/lang/Exception"]
theorem oa_IAE : ∀ w ∈ Bundle.ownAtoms0 "TileForge" 53 "java/lang/IllegalArgumentException" exN, w ∈ GW ∨ w ∈ HW := by decide +kernel
theorem fi_IAE : Bundle.fit "java/lang/IllegalArgumentException" = true := by decide +kernel
theorem oa_IOB : ∀ w ∈ Bundle.ownAtoms0 "TileForge" 63 "java/lang/IndexOutOfBoundsException" exN, w ∈ GW ∨ w ∈ HW := by decide +kernel
theorem fi_IOB : Bundle.fit "java/lang/IndexOutOfBoundsException" = true := by decide +kernel
theorem oa_ISE : ∀ w ∈ Bundle.ownAtoms0 "TileForge" 105 "java/lang/IllegalStateException" exN, w ∈ GW ∨ w ∈ HW := by decide +kernel
theorem fi_ISE : Bundle.fit "java/lang/IllegalStateException" = true := by decide +kernel
theorem oa_UOE : ∀ w ∈ Bundle.ownAtoms0 "TileForge" 118 "java/lang/UnsupportedOperationException" exN, w ∈ GW ∨ w ∈ HW := by decide +kernel
theorem fi_UOE : Bundle.fit "java/lang/UnsupportedOperationException" = true := by decide +kernel
theorem fi_N : ∀ n ∈ exN, Bundle.fit n = true := by decide +kernel
theorem HW_tbl : ∀ w ∈ HW.take 9, w ∈ lw_tbl := by decide +kernel
