/-! ===== BEGIN words of one list among another's, by their places ===== -/
theorem goodIn_r {big : List Cond} (ws : List Cond) (ps : List Nat) (hp : ws = ps.filterMap (fun i => big[i]?)) (h : ws.all goodWord = true) : GoodIn big ws := by
  intro w hw
  have h1 := List.all_eq_true.mp h w hw
  rw [hp] at hw
  obtain ⟨i, -, hi⟩ := List.mem_filterMap.mp hw
  have hm : w ∈ big := by first | exact List.mem_of_getElem? hi | exact List.getElem?_mem hi
  exact ⟨hm, good_of_word h1⟩
theorem goodIn_app {big a b : List Cond} (ha : GoodIn big a) (hb : GoodIn big b) : GoodIn big (a ++ b) := fun w h => (List.mem_append.mp h).elim (ha w) (hb w)
theorem goodIn_ca {big a b : List Cond} {c : Cond} (ha : GoodIn big (c :: a)) (hb : GoodIn big b) : GoodIn big (c :: (a ++ b)) := fun w h => (List.mem_cons.mp h).elim (fun e => ha w (List.mem_cons.mpr (Or.inl e))) (fun h => (List.mem_append.mp h).elim (fun h => ha w (List.mem_cons.mpr (Or.inr h))) (hb w))
theorem goodIn_sub {big ws : List Cond} (hm : ∀ w ∈ ws, w ∈ big) (h : ws.all goodWord = true) : GoodIn big ws := fun w hw => ⟨hm w hw, good_of_word (List.all_eq_true.mp h w hw)⟩
/-! ===== END ===== -/

/-! ===== BEGIN printed: names, fields, word lists, decode rows ===== -/
def RX0 : String := "KnowDisk$Sectors"
def TX0 : u_T := fun k => match k with
  | _ => ("KnowDisk$Sectors", "bytes", "[B", true)
def tyX0 : Nat → FieldType := fun k => match k with
  | _ => .array .byte
abbrev wsX00 : List Cond := u_ws RX0 TX0 1
theorem nmX0 : ∀ a, a < 1 → ∀ b, b < 1 → a ≠ b → (TX0 a).2.1 ≠ (TX0 b).2.1 := by decide +kernel
theorem tyX0_ok : ∀ k, k < 1 → parseFieldDescriptor (TX0 k).2.2.1 = some (tyX0 k) := by decide +kernel
abbrev cX0_init : ByteArray := prog_2_method_1_code
def yX0_init : MethodName := ⟨RX0, "<init>", "()V"⟩
abbrev cX0_hasSector : ByteArray := prog_2_method_2_code
def yX0_hasSector : MethodName := ⟨RX0, "hasSector", "(I)Z"⟩
abbrev cX0_byteOf : ByteArray := prog_2_method_3_code
def yX0_byteOf : MethodName := ⟨RX0, "byteOf", "(II)I"⟩
abbrev cX0_put : ByteArray := prog_2_method_4_code
def yX0_put : MethodName := ⟨RX0, "put", "(III)V"⟩
abbrev cX0_intOf : ByteArray := prog_2_method_5_code
def yX0_intOf : MethodName := ⟨RX0, "intOf", "(II)I"⟩
abbrev cX0_putInt : ByteArray := prog_2_method_6_code
def yX0_putInt : MethodName := ⟨RX0, "putInt", "(III)V"⟩
abbrev cX0_longOf : ByteArray := prog_2_method_7_code
def yX0_longOf : MethodName := ⟨RX0, "longOf", "(II)J"⟩
abbrev cX0_putLong : ByteArray := prog_2_method_8_code
def yX0_putLong : MethodName := ⟨RX0, "putLong", "(IIJ)V"⟩
abbrev cX0_sumOf : ByteArray := prog_2_method_9_code
def yX0_sumOf : MethodName := ⟨RX0, "sumOf", "(I)I"⟩
abbrev cX0_sumIsRight : ByteArray := prog_2_method_10_code
def yX0_sumIsRight : MethodName := ⟨RX0, "sumIsRight", "(I)Z"⟩
abbrev cX0_seal : ByteArray := prog_2_method_11_code
def yX0_seal : MethodName := ⟨RX0, "seal", "(I)V"⟩
abbrev cX0_clear : ByteArray := prog_2_method_12_code
def yX0_clear : MethodName := ⟨RX0, "clear", "(I)V"⟩
abbrev cX0_copyOf : ByteArray := prog_2_method_13_code
def yX0_copyOf : MethodName := ⟨RX0, "copyOf", "(I)[B"⟩
abbrev cX0_putFirst : ByteArray := prog_2_method_14_code
def yX0_putFirst : MethodName := ⟨RX0, "putFirst", "(I[BI)V"⟩
abbrev cX0_become : ByteArray := prog_2_method_15_code
def yX0_become : MethodName := ⟨RX0, "become", "(LKnowDisk$Sectors;)V"⟩
def RX1 : String := "KnowDisk$State"
def TX1 : u_T := fun k => match k with
  | 0 => ("KnowDisk$State", "number", "I", true)
  | _ => ("KnowDisk$State", "sectors", "J", true)
def tyX1 : Nat → FieldType := fun k => match k with
  | 0 => .int
  | _ => .long
abbrev wsX10 : List Cond := u_ws RX1 TX1 2
theorem nmX1 : ∀ a, a < 2 → ∀ b, b < 2 → a ≠ b → (TX1 a).2.1 ≠ (TX1 b).2.1 := by decide +kernel
theorem tyX1_ok : ∀ k, k < 2 → parseFieldDescriptor (TX1 k).2.2.1 = some (tyX1 k) := by decide +kernel
abbrev cX1_init : ByteArray := prog_3_method_1_code
def yX1_init : MethodName := ⟨RX1, "<init>", "(IJ)V"⟩
def RX2 : String := "KnowDisk$Waiting"
def TX2 : u_T := fun k => match k with
  | 0 => ("KnowDisk$Waiting", "writes", "Ljava/util/ArrayList;", true)
  | _ => ("KnowDisk$Waiting", "sectors", "J", false)
def tyX2 : Nat → FieldType := fun k => match k with
  | 0 => .object "java/util/ArrayList"
  | _ => .long
abbrev wsX20 : List Cond := u_ws RX2 TX2 2
theorem nmX2 : ∀ a, a < 2 → ∀ b, b < 2 → a ≠ b → (TX2 a).2.1 ≠ (TX2 b).2.1 := by decide +kernel
theorem tyX2_ok : ∀ k, k < 2 → parseFieldDescriptor (TX2 k).2.2.1 = some (tyX2 k) := by decide +kernel
abbrev cX2_init : ByteArray := prog_4_method_1_code
def yX2_init : MethodName := ⟨RX2, "<init>", "()V"⟩
abbrev cX2_count : ByteArray := prog_4_method_2_code
def yX2_count : MethodName := ⟨RX2, "count", "()I"⟩
abbrev cX2_sectors : ByteArray := prog_4_method_3_code
def yX2_sectors : MethodName := ⟨RX2, "sectors", "()J"⟩
abbrev cX2_add : ByteArray := prog_4_method_4_code
def yX2_add : MethodName := ⟨RX2, "add", "(LKnowDisk$Write;)V"⟩
abbrev cX2_reach : ByteArray := prog_4_method_5_code
def yX2_reach : MethodName := ⟨RX2, "reach", "(LKnowDisk$Sectors;II)V"⟩
abbrev cX2_bring : ByteArray := prog_4_method_6_code
def yX2_bring : MethodName := ⟨RX2, "bring", "(LKnowDisk$Sectors;II)V"⟩
def RX3 : String := "KnowDisk$Write"
def TX3 : u_T := fun k => match k with
  | 0 => ("KnowDisk$Write", "sector", "I", true)
  | _ => ("KnowDisk$Write", "bytes", "[B", true)
def tyX3 : Nat → FieldType := fun k => match k with
  | 0 => .int
  | _ => .array .byte
abbrev wsX30 : List Cond := u_ws RX3 TX3 2
theorem nmX3 : ∀ a, a < 2 → ∀ b, b < 2 → a ≠ b → (TX3 a).2.1 ≠ (TX3 b).2.1 := by decide +kernel
theorem tyX3_ok : ∀ k, k < 2 → parseFieldDescriptor (TX3 k).2.2.1 = some (tyX3 k) := by decide +kernel
abbrev cX3_init : ByteArray := prog_5_method_1_code
def yX3_init : MethodName := ⟨RX3, "<init>", "(I[B)V"⟩
def RX4 : String := "KnowDisk"
def TX4 : u_T := fun k => match k with
  | 0 => ("KnowDisk", "pageSectors", "J", true)
  | 1 => ("KnowDisk", "disk", "LKnowDisk$Sectors;", true)
  | 2 => ("KnowDisk", "reached", "LKnowDisk$Sectors;", true)
  | 3 => ("KnowDisk", "waiting", "LKnowDisk$Waiting;", true)
  | 4 => ("KnowDisk", "kept", "Ljava/util/ArrayList;", true)
  | 5 => ("KnowDisk", "places", "[I", true)
  | 6 => ("KnowDisk", "running", "Z", false)
  | 7 => ("KnowDisk", "saidFull", "Z", false)
  | 8 => ("KnowDisk", "changed", "Z", false)
  | 9 => ("KnowDisk", "open", "J", false)
  | 10 => ("KnowDisk", "laid", "J", false)
  | 11 => ("KnowDisk", "latest", "LKnowDisk$State;", false)
  | _ => ("KnowDisk", "held", "J", false)
def tyX4 : Nat → FieldType := fun k => match k with
  | 0 => .long
  | 1 => .object "KnowDisk$Sectors"
  | 2 => .object "KnowDisk$Sectors"
  | 3 => .object "KnowDisk$Waiting"
  | 4 => .object "java/util/ArrayList"
  | 5 => .array .int
  | 6 => .boolean
  | 7 => .boolean
  | 8 => .boolean
  | 9 => .long
  | 10 => .long
  | 11 => .object "KnowDisk$State"
  | _ => .long
abbrev wsX40 : List Cond := u_ws RX4 TX4 13
theorem nmX4 : ∀ a, a < 13 → ∀ b, b < 13 → a ≠ b → (TX4 a).2.1 ≠ (TX4 b).2.1 := by decide +kernel
theorem tyX4_ok : ∀ k, k < 13 → parseFieldDescriptor (TX4 k).2.2.1 = some (tyX4 k) := by decide +kernel
abbrev cX4_init : ByteArray := prog_1_method_1_code
def yX4_init : MethodName := ⟨RX4, "<init>", "(I)V"⟩
abbrev cX4_page : ByteArray := prog_1_method_2_code
def yX4_page : MethodName := ⟨RX4, "page", "(IIJ)I"⟩
abbrev cX4_commit : ByteArray := prog_1_method_3_code
def yX4_commit : MethodName := ⟨RX4, "commit", "(I)I"⟩
abbrev cX4_sync : ByteArray := prog_1_method_4_code
def yX4_sync : MethodName := ⟨RX4, "sync", "()I"⟩
abbrev cX4_cut : ByteArray := prog_1_method_5_code
def yX4_cut : MethodName := ⟨RX4, "cut", "(II)V"⟩
abbrev cX4_start : ByteArray := prog_1_method_6_code
def yX4_start : MethodName := ⟨RX4, "start", "()I"⟩
abbrev cX4_at : ByteArray := prog_1_method_7_code
def yX4_at : MethodName := ⟨RX4, "at", "(II)B"⟩
abbrev cX4_poke : ByteArray := prog_1_method_8_code
def yX4_poke : MethodName := ⟨RX4, "poke", "(III)I"⟩
abbrev cX4_wrong : ByteArray := prog_1_method_9_code
def yX4_wrong : MethodName := ⟨RX4, "wrong", "(I)I"⟩
abbrev cX4_backup : ByteArray := prog_1_method_10_code
def yX4_backup : MethodName := ⟨RX4, "backup", "(I)I"⟩
abbrev cX4_drop : ByteArray := prog_1_method_11_code
def yX4_drop : MethodName := ⟨RX4, "drop", "(I)I"⟩
abbrev cX4_derived : ByteArray := prog_1_method_12_code
def yX4_derived : MethodName := ⟨RX4, "derived", "(I)I"⟩
abbrev cX4_full : ByteArray := prog_1_method_13_code
def yX4_full : MethodName := ⟨RX4, "full", "(Z)Z"⟩
abbrev cX4_isIn : ByteArray := prog_1_method_14_code
def yX4_isIn : MethodName := ⟨RX4, "isIn", "(JI)Z"⟩
abbrev cX4_isInSector : ByteArray := prog_1_method_15_code
def yX4_isInSector : MethodName := ⟨RX4, "isInSector", "(I)Z"⟩
abbrev cX4_derivedFrom : ByteArray := prog_1_method_16_code
def yX4_derivedFrom : MethodName := ⟨RX4, "derivedFrom", "(J)J"⟩
abbrev cX4_placeOf : ByteArray := prog_1_method_17_code
def yX4_placeOf : MethodName := ⟨RX4, "placeOf", "(I)I"⟩
abbrev cX4_isPage : ByteArray := prog_1_method_18_code
def yX4_isPage : MethodName := ⟨RX4, "isPage", "(I)Z"⟩
abbrev cX4_kindOf : ByteArray := prog_1_method_19_code
def yX4_kindOf : MethodName := ⟨RX4, "kindOf", "(I)I"⟩
abbrev cX4_sourceOf : ByteArray := prog_1_method_20_code
def yX4_sourceOf : MethodName := ⟨RX4, "sourceOf", "(I)I"⟩
abbrev cX4_valueOf : ByteArray := prog_1_method_21_code
def yX4_valueOf : MethodName := ⟨RX4, "valueOf", "(I)J"⟩
abbrev cX4_leastFreeNumber : ByteArray := prog_1_method_22_code
def yX4_leastFreeNumber : MethodName := ⟨RX4, "leastFreeNumber", "()I"⟩
abbrev cX4_freeSectors : ByteArray := prog_1_method_23_code
def yX4_freeSectors : MethodName := ⟨RX4, "freeSectors", "()J"⟩
abbrev cX4_layDerivedOf : ByteArray := prog_1_method_24_code
def yX4_layDerivedOf : MethodName := ⟨RX4, "layDerivedOf", "(I)I"⟩
abbrev cX4_layIfRoom : ByteArray := prog_1_method_25_code
def yX4_layIfRoom : MethodName := ⟨RX4, "layIfRoom", "(IIIJ)I"⟩
abbrev cX4_takeAway : ByteArray := prog_1_method_26_code
def yX4_takeAway : MethodName := ⟨RX4, "takeAway", "(I)V"⟩
abbrev cX4_setPlace : ByteArray := prog_1_method_27_code
def yX4_setPlace : MethodName := ⟨RX4, "setPlace", "(II)V"⟩
abbrev cX4_letPagesWait : ByteArray := prog_1_method_28_code
def yX4_letPagesWait : MethodName := ⟨RX4, "letPagesWait", "(I)V"⟩
abbrev cX4_letHeadWait : ByteArray := prog_1_method_29_code
def yX4_letHeadWait : MethodName := ⟨RX4, "letHeadWait", "(I)V"⟩
abbrev cX4_xorOfSums : ByteArray := prog_1_method_30_code
def yX4_xorOfSums : MethodName := ⟨RX4, "xorOfSums", "(LKnowDisk$Sectors;J)I"⟩
abbrev cX4_headToOpen : ByteArray := prog_1_method_31_code
def yX4_headToOpen : MethodName := ⟨RX4, "headToOpen", "(ZZ)I"⟩
abbrev cX4_stateOfHead : ByteArray := prog_1_method_32_code
def yX4_stateOfHead : MethodName := ⟨RX4, "stateOfHead", "(I)LKnowDisk$State;"⟩
abbrev cX4_isWhole : ByteArray := prog_1_method_33_code
def yX4_isWhole : MethodName := ⟨RX4, "isWhole", "(I)Z"⟩
abbrev cX4_havePagesThatDiffer : ByteArray := prog_1_method_34_code
def yX4_havePagesThatDiffer : MethodName := ⟨RX4, "havePagesThatDiffer", "(J)Z"⟩
abbrev cX4_hasWholePage : ByteArray := prog_1_method_35_code
def yX4_hasWholePage : MethodName := ⟨RX4, "hasWholePage", "(I)Z"⟩
abbrev cX4_openLatest : ByteArray := prog_1_method_36_code
def yX4_openLatest : MethodName := ⟨RX4, "openLatest", "()V"⟩
abbrev cX4_isWrongPage : ByteArray := prog_1_method_37_code
def yX4_isWrongPage : MethodName := ⟨RX4, "isWrongPage", "(I)Z"⟩
abbrev cX4_countOfWrongPages : ByteArray := prog_1_method_38_code
def yX4_countOfWrongPages : MethodName := ⟨RX4, "countOfWrongPages", "()I"⟩
abbrev cX4_leastWrongPage : ByteArray := prog_1_method_39_code
def yX4_leastWrongPage : MethodName := ⟨RX4, "leastWrongPage", "()I"⟩
abbrev cX4_firstKept : ByteArray := prog_1_method_40_code
def yX4_firstKept : MethodName := ⟨RX4, "firstKept", "(I)I"⟩
def RX5 : String := "KnowDiskModel"
def TX5 : u_T := fun k => match k with
  | 0 => ("KnowDiskModel", "count", "I", true)
  | 1 => ("KnowDiskModel", "runs", "Z", false)
  | 2 => ("KnowDiskModel", "full", "Z", false)
  | 3 => ("KnowDiskModel", "disk", "[I", true)
  | 4 => ("KnowDiskModel", "later", "[I", true)
  | 5 => ("KnowDiskModel", "open", "[I", true)
  | 6 => ("KnowDiskModel", "laid", "[Z", true)
  | 7 => ("KnowDiskModel", "places", "[I", true)
  | 8 => ("KnowDiskModel", "changed", "Z", false)
  | 9 => ("KnowDiskModel", "targets", "[I", true)
  | 10 => ("KnowDiskModel", "bytes", "[I", true)
  | 11 => ("KnowDiskModel", "first", "I", false)
  | 12 => ("KnowDiskModel", "behind", "I", false)
  | 13 => ("KnowDiskModel", "numbers", "[I", true)
  | 14 => ("KnowDiskModel", "sectors", "[J", true)
  | 15 => ("KnowDiskModel", "oldest", "I", false)
  | 16 => ("KnowDiskModel", "newest", "I", false)
  | 17 => ("KnowDiskModel", "keptNumbers", "[I", true)
  | 18 => ("KnowDiskModel", "keptSectors", "[J", true)
  | 19 => ("KnowDiskModel", "kept", "I", false)
  | 20 => ("KnowDiskModel", "thrown", "Z", false)
  | _ => ("KnowDiskModel", "head", "[I", true)
def tyX5 : Nat → FieldType := fun k => match k with
  | 0 => .int
  | 1 => .boolean
  | 2 => .boolean
  | 3 => .array .int
  | 4 => .array .int
  | 5 => .array .int
  | 6 => .array .boolean
  | 7 => .array .int
  | 8 => .boolean
  | 9 => .array .int
  | 10 => .array .int
  | 11 => .int
  | 12 => .int
  | 13 => .array .int
  | 14 => .array .long
  | 15 => .int
  | 16 => .int
  | 17 => .array .int
  | 18 => .array .long
  | 19 => .int
  | 20 => .boolean
  | _ => .array .int
abbrev wsX50 : List Cond := u_ws RX5 TX5 22
theorem nmX5 : ∀ a, a < 22 → ∀ b, b < 22 → a ≠ b → (TX5 a).2.1 ≠ (TX5 b).2.1 := by decide +kernel
theorem tyX5_ok : ∀ k, k < 22 → parseFieldDescriptor (TX5 k).2.2.1 = some (tyX5 k) := by decide +kernel
abbrev cX5_init : ByteArray := prog_7_method_1_code
def yX5_init : MethodName := ⟨RX5, "<init>", "(I)V"⟩
abbrev cX5_begin : ByteArray := prog_7_method_2_code
def yX5_begin : MethodName := ⟨RX5, "begin", "(IJ)V"⟩
abbrev cX5_number : ByteArray := prog_7_method_3_code
def yX5_number : MethodName := ⟨RX5, "number", "([II)I"⟩
abbrev cX5_set : ByteArray := prog_7_method_4_code
def yX5_set : MethodName := ⟨RX5, "set", "([III)V"⟩
abbrev cX5_sum : ByteArray := prog_7_method_5_code
def yX5_sum : MethodName := ⟨RX5, "sum", "([II)I"⟩
abbrev cX5_close : ByteArray := prog_7_method_6_code
def yX5_close : MethodName := ⟨RX5, "close", "([II)V"⟩
abbrev cX5_isRight : ByteArray := prog_7_method_7_code
def yX5_isRight : MethodName := ⟨RX5, "isRight", "([II)Z"⟩
abbrev cX5_wide : ByteArray := prog_7_method_8_code
def yX5_wide : MethodName := ⟨RX5, "wide", "([II)J"⟩
abbrev cX5_setWide : ByteArray := prog_7_method_9_code
def yX5_setWide : MethodName := ⟨RX5, "setWide", "([IIJ)V"⟩
abbrev cX5_byteOf : ByteArray := prog_7_method_10_code
def yX5_byteOf : MethodName := ⟨RX5, "byteOf", "(II)I"⟩
abbrev cX5_valueOf : ByteArray := prog_7_method_11_code
def yX5_valueOf : MethodName := ⟨RX5, "valueOf", "(I)J"⟩
abbrev cX5_kindOf : ByteArray := prog_7_method_12_code
def yX5_kindOf : MethodName := ⟨RX5, "kindOf", "(I)I"⟩
abbrev cX5_isPage : ByteArray := prog_7_method_13_code
def yX5_isPage : MethodName := ⟨RX5, "isPage", "(I)Z"⟩
abbrev cX5_isOpen : ByteArray := prog_7_method_14_code
def yX5_isOpen : MethodName := ⟨RX5, "isOpen", "(I)Z"⟩
abbrev cX5_isWaiting : ByteArray := prog_7_method_15_code
def yX5_isWaiting : MethodName := ⟨RX5, "isWaiting", "(I)Z"⟩
abbrev cX5_isHeld : ByteArray := prog_7_method_16_code
def yX5_isHeld : MethodName := ⟨RX5, "isHeld", "(I)Z"⟩
abbrev cX5_freeSector : ByteArray := prog_7_method_17_code
def yX5_freeSector : MethodName := ⟨RX5, "freeSector", "()I"⟩
abbrev cX5_freePage : ByteArray := prog_7_method_18_code
def yX5_freePage : MethodName := ⟨RX5, "freePage", "()I"⟩
abbrev cX5_turned : ByteArray := prog_7_method_19_code
def yX5_turned : MethodName := ⟨RX5, "turned", "(J)J"⟩
abbrev cX5_lay : ByteArray := prog_7_method_20_code
def yX5_lay : MethodName := ⟨RX5, "lay", "(IIIJ)I"⟩
abbrev cX5_page : ByteArray := prog_7_method_21_code
def yX5_page : MethodName := ⟨RX5, "page", "(IIJ)I"⟩
abbrev cX5_derived : ByteArray := prog_7_method_22_code
def yX5_derived : MethodName := ⟨RX5, "derived", "(I)I"⟩
abbrev cX5_queue : ByteArray := prog_7_method_23_code
def yX5_queue : MethodName := ⟨RX5, "queue", "([III)V"⟩
abbrev cX5_commit : ByteArray := prog_7_method_24_code
def yX5_commit : MethodName := ⟨RX5, "commit", "(I)I"⟩
abbrev cX5_write : ByteArray := prog_7_method_25_code
def yX5_write : MethodName := ⟨RX5, "write", "(I)V"⟩
abbrev cX5_settle : ByteArray := prog_7_method_26_code
def yX5_settle : MethodName := ⟨RX5, "settle", "()V"⟩
abbrev cX5_sync : ByteArray := prog_7_method_27_code
def yX5_sync : MethodName := ⟨RX5, "sync", "()I"⟩
abbrev cX5_cut : ByteArray := prog_7_method_28_code
def yX5_cut : MethodName := ⟨RX5, "cut", "(II)V"⟩
abbrev cX5_isWhole : ByteArray := prog_7_method_29_code
def yX5_isWhole : MethodName := ⟨RX5, "isWhole", "(I)Z"⟩
abbrev cX5_start : ByteArray := prog_7_method_30_code
def yX5_start : MethodName := ⟨RX5, "start", "()I"⟩
abbrev cX5_at : ByteArray := prog_7_method_31_code
def yX5_at : MethodName := ⟨RX5, "at", "(II)B"⟩
abbrev cX5_poke : ByteArray := prog_7_method_33_code
def yX5_poke : MethodName := ⟨RX5, "poke", "(III)I"⟩
abbrev cX5_wrong : ByteArray := prog_7_method_34_code
def yX5_wrong : MethodName := ⟨RX5, "wrong", "(I)I"⟩
abbrev cX5_bits : ByteArray := prog_7_method_35_code
def yX5_bits : MethodName := ⟨RX5, "bits", "(J)I"⟩
abbrev cX5_backup : ByteArray := prog_7_method_36_code
def yX5_backup : MethodName := ⟨RX5, "backup", "(I)I"⟩
abbrev cX5_heldCount : ByteArray := prog_7_method_37_code
def yX5_heldCount : MethodName := ⟨RX5, "heldCount", "()I"⟩
abbrev cX5_drop : ByteArray := prog_7_method_38_code
def yX5_drop : MethodName := ⟨RX5, "drop", "(I)I"⟩
abbrev cX5_full : ByteArray := prog_7_method_39_code
def yX5_full : MethodName := ⟨RX5, "full", "(Z)Z"⟩
def RJx145de : String := "java/io/Serializable"
def TJx145de : u_T := fun k => match k with
  | _ => ("", "", "", false)
def tyJx145de : Nat → FieldType := fun k => match k with
  | _ => .int
abbrev wsJx145de0 : List Cond := u_ws RJx145de TJx145de 0
theorem nmJx145de : ∀ a, a < 0 → ∀ b, b < 0 → a ≠ b → (TJx145de a).2.1 ≠ (TJx145de b).2.1 := by decide +kernel
theorem tyJx145de_ok : ∀ k, k < 0 → parseFieldDescriptor (TJx145de k).2.2.1 = some (tyJx145de k) := by decide +kernel
def RJx00060 : String := "java/lang/ArrayIndexOutOfBoundsException"
def TJx00060 : u_T := fun k => match k with
  | 0 => ("java/lang/Throwable", "cause", "Ljava/lang/Throwable;", false)
  | 1 => ("java/lang/Throwable", "stackTrace", "[Ljava/lang/StackTraceElement;", false)
  | 2 => ("java/lang/Throwable", "suppressedExceptions", "Ljava/util/List;", false)
  | 3 => ("java/lang/Throwable", "detailMessage", "Ljava/lang/String;", false)
  | 4 => ("java/lang/Throwable", "backtrace", "Ljava/lang/Object;", false)
  | _ => ("java/lang/Throwable", "depth", "I", false)
def tyJx00060 : Nat → FieldType := fun k => match k with
  | 0 => .object "java/lang/Throwable"
  | 1 => .array (.object "java/lang/StackTraceElement")
  | 2 => .object "java/util/List"
  | 3 => .object "java/lang/String"
  | 4 => .object "java/lang/Object"
  | _ => .int
abbrev wsJx000600 : List Cond := u_ws RJx00060 TJx00060 6
theorem nmJx00060 : ∀ a, a < 6 → ∀ b, b < 6 → a ≠ b → (TJx00060 a).2.1 ≠ (TJx00060 b).2.1 := by decide +kernel
theorem tyJx00060_ok : ∀ k, k < 6 → parseFieldDescriptor (TJx00060 k).2.2.1 = some (tyJx00060 k) := by decide +kernel
abbrev cJx00060_init_a7421 : ByteArray := prog_9_method_2_code
def yJx00060_init_a7421 : MethodName := ⟨RJx00060, "<init>", "(Ljava/lang/String;)V"⟩
def RJx8e188 : String := "java/lang/Cloneable"
def TJx8e188 : u_T := fun k => match k with
  | _ => ("", "", "", false)
def tyJx8e188 : Nat → FieldType := fun k => match k with
  | _ => .int
abbrev wsJx8e1880 : List Cond := u_ws RJx8e188 TJx8e188 0
theorem nmJx8e188 : ∀ a, a < 0 → ∀ b, b < 0 → a ≠ b → (TJx8e188 a).2.1 ≠ (TJx8e188 b).2.1 := by decide +kernel
theorem tyJx8e188_ok : ∀ k, k < 0 → parseFieldDescriptor (TJx8e188 k).2.2.1 = some (tyJx8e188 k) := by decide +kernel
def RJ6 : String := "java/lang/Integer"
def TJ6 : u_T := fun k => match k with
  | _ => ("", "", "", false)
def tyJ6 : Nat → FieldType := fun k => match k with
  | _ => .int
abbrev wsJ60 : List Cond := u_ws RJ6 TJ6 0
theorem nmJ6 : ∀ a, a < 0 → ∀ b, b < 0 → a ≠ b → (TJ6 a).2.1 ≠ (TJ6 b).2.1 := by decide +kernel
theorem tyJ6_ok : ∀ k, k < 0 → parseFieldDescriptor (TJ6 k).2.2.1 = some (tyJ6 k) := by decide +kernel
abbrev cJ6_numberOfTrailingZeros_0f7a4 : ByteArray := prog_13_method_48_code
def yJ6_numberOfTrailingZeros_0f7a4 : MethodName := ⟨RJ6, "numberOfTrailingZeros", "(I)I"⟩
abbrev cJ6_rotateLeft_7cf53 : ByteArray := prog_13_method_50_code
def yJ6_rotateLeft_7cf53 : MethodName := ⟨RJ6, "rotateLeft", "(II)I"⟩
def RJxab1ab : String := "java/lang/Iterable"
def TJxab1ab : u_T := fun k => match k with
  | _ => ("", "", "", false)
def tyJxab1ab : Nat → FieldType := fun k => match k with
  | _ => .int
abbrev wsJxab1ab0 : List Cond := u_ws RJxab1ab TJxab1ab 0
theorem nmJxab1ab : ∀ a, a < 0 → ∀ b, b < 0 → a ≠ b → (TJxab1ab a).2.1 ≠ (TJxab1ab b).2.1 := by decide +kernel
theorem tyJxab1ab_ok : ∀ k, k < 0 → parseFieldDescriptor (TJxab1ab k).2.2.1 = some (tyJxab1ab k) := by decide +kernel
def RJ13 : String := "java/lang/Long"
def TJ13 : u_T := fun k => match k with
  | _ => ("", "", "", false)
def tyJ13 : Nat → FieldType := fun k => match k with
  | _ => .int
abbrev wsJ130 : List Cond := u_ws RJ13 TJ13 0
theorem nmJ13 : ∀ a, a < 0 → ∀ b, b < 0 → a ≠ b → (TJ13 a).2.1 ≠ (TJ13 b).2.1 := by decide +kernel
theorem tyJ13_ok : ∀ k, k < 0 → parseFieldDescriptor (TJ13 k).2.2.1 = some (tyJ13 k) := by decide +kernel
abbrev cJ13_numberOfTrailingZeros_95d88 : ByteArray := prog_15_method_49_code
def yJ13_numberOfTrailingZeros_95d88 : MethodName := ⟨RJ13, "numberOfTrailingZeros", "(J)I"⟩
abbrev cJ13_bitCount_95d88 : ByteArray := prog_15_method_50_code
def yJ13_bitCount_95d88 : MethodName := ⟨RJ13, "bitCount", "(J)I"⟩
abbrev cJ13_rotateLeft_b2ac5 : ByteArray := prog_15_method_51_code
def yJ13_rotateLeft_b2ac5 : MethodName := ⟨RJ13, "rotateLeft", "(JI)J"⟩
def RJ9 : String := "java/lang/Math"
def TJ9 : u_T := fun k => match k with
  | _ => ("", "", "", false)
def tyJ9 : Nat → FieldType := fun k => match k with
  | _ => .int
abbrev wsJ90 : List Cond := u_ws RJ9 TJ9 0
theorem nmJ9 : ∀ a, a < 0 → ∀ b, b < 0 → a ≠ b → (TJ9 a).2.1 ≠ (TJ9 b).2.1 := by decide +kernel
theorem tyJ9_ok : ∀ k, k < 0 → parseFieldDescriptor (TJ9 k).2.2.1 = some (tyJ9 k) := by decide +kernel
abbrev cJ9_floorMod_7cf53 : ByteArray := prog_16_method_50_code
def yJ9_floorMod_7cf53 : MethodName := ⟨RJ9, "floorMod", "(II)I"⟩
abbrev cJ9_max_7cf53 : ByteArray := prog_16_method_65_code
def yJ9_max_7cf53 : MethodName := ⟨RJ9, "max", "(II)I"⟩
abbrev cJ9_min_7cf53 : ByteArray := prog_16_method_69_code
def yJ9_min_7cf53 : MethodName := ⟨RJ9, "min", "(II)I"⟩
def RJ0 : String := "java/lang/String"
def TJ0 : u_T := fun k => match k with
  | _ => ("", "", "", false)
def tyJ0 : Nat → FieldType := fun k => match k with
  | _ => .int
abbrev wsJ00 : List Cond := u_ws RJ0 TJ0 0
theorem nmJ0 : ∀ a, a < 0 → ∀ b, b < 0 → a ≠ b → (TJ0 a).2.1 ≠ (TJ0 b).2.1 := by decide +kernel
theorem tyJ0_ok : ∀ k, k < 0 → parseFieldDescriptor (TJ0 k).2.2.1 = some (tyJ0 k) := by decide +kernel
def RJ10 : String := "java/lang/System"
def TJ10 : u_T := fun k => match k with
  | _ => ("", "", "", false)
def tyJ10 : Nat → FieldType := fun k => match k with
  | _ => .int
abbrev wsJ100 : List Cond := u_ws RJ10 TJ10 0
theorem nmJ10 : ∀ a, a < 0 → ∀ b, b < 0 → a ≠ b → (TJ10 a).2.1 ≠ (TJ10 b).2.1 := by decide +kernel
theorem tyJ10_ok : ∀ k, k < 0 → parseFieldDescriptor (TJ10 k).2.2.1 = some (tyJ10 k) := by decide +kernel
def RJxa1e45 : String := "java/util/AbstractCollection"
def TJxa1e45 : u_T := fun k => match k with
  | _ => ("", "", "", false)
def tyJxa1e45 : Nat → FieldType := fun k => match k with
  | _ => .int
abbrev wsJxa1e450 : List Cond := u_ws RJxa1e45 TJxa1e45 0
theorem nmJxa1e45 : ∀ a, a < 0 → ∀ b, b < 0 → a ≠ b → (TJxa1e45 a).2.1 ≠ (TJxa1e45 b).2.1 := by decide +kernel
theorem tyJxa1e45_ok : ∀ k, k < 0 → parseFieldDescriptor (TJxa1e45 k).2.2.1 = some (tyJxa1e45 k) := by decide +kernel
abbrev cJxa1e45_init_da8c8 : ByteArray := prog_21_method_1_code
def yJxa1e45_init_da8c8 : MethodName := ⟨RJxa1e45, "<init>", "()V"⟩
def RJxc12de : String := "java/util/AbstractList"
def TJxc12de : u_T := fun k => match k with
  | _ => ("", "", "", false)
def tyJxc12de : Nat → FieldType := fun k => match k with
  | _ => .int
abbrev wsJxc12de0 : List Cond := u_ws RJxc12de TJxc12de 0
theorem nmJxc12de : ∀ a, a < 0 → ∀ b, b < 0 → a ≠ b → (TJxc12de a).2.1 ≠ (TJxc12de b).2.1 := by decide +kernel
theorem tyJxc12de_ok : ∀ k, k < 0 → parseFieldDescriptor (TJxc12de k).2.2.1 = some (tyJxc12de k) := by decide +kernel
abbrev cJxc12de_init_da8c8 : ByteArray := prog_22_method_1_code
def yJxc12de_init_da8c8 : MethodName := ⟨RJxc12de, "<init>", "()V"⟩
def RJx4a65c : String := "java/util/ArrayList"
def TJx4a65c : u_T := fun k => match k with
  | 0 => ("java/util/AbstractList", "modCount", "I", false)
  | 1 => ("java/util/ArrayList", "elementData", "[Ljava/lang/Object;", false)
  | _ => ("java/util/ArrayList", "size", "I", false)
def tyJx4a65c : Nat → FieldType := fun k => match k with
  | 0 => .int
  | 1 => .array (.object "java/lang/Object")
  | _ => .int
abbrev wsJx4a65c0 : List Cond := u_ws RJx4a65c TJx4a65c 3
theorem nmJx4a65c : ∀ a, a < 3 → ∀ b, b < 3 → a ≠ b → (TJx4a65c a).2.1 ≠ (TJx4a65c b).2.1 := by decide +kernel
theorem tyJx4a65c_ok : ∀ k, k < 3 → parseFieldDescriptor (TJx4a65c k).2.2.1 = some (tyJx4a65c k) := by decide +kernel
abbrev cJx4a65c_init_da8c8 : ByteArray := prog_23_method_2_code
def yJx4a65c_init_da8c8 : MethodName := ⟨RJx4a65c, "<init>", "()V"⟩
abbrev cJx4a65c_grow_92f84 : ByteArray := prog_23_method_6_code
def yJx4a65c_grow_92f84 : MethodName := ⟨RJx4a65c, "grow", "(I)[Ljava/lang/Object;"⟩
abbrev cJx4a65c_grow_d5877 : ByteArray := prog_23_method_7_code
def yJx4a65c_grow_d5877 : MethodName := ⟨RJx4a65c, "grow", "()[Ljava/lang/Object;"⟩
abbrev cJx4a65c_size_8abf5 : ByteArray := prog_23_method_8_code
def yJx4a65c_size_8abf5 : MethodName := ⟨RJx4a65c, "size", "()I"⟩
abbrev cJx4a65c_elementData_915e3 : ByteArray := prog_23_method_18_code
def yJx4a65c_elementData_915e3 : MethodName := ⟨RJx4a65c, "elementData", "(I)Ljava/lang/Object;"⟩
abbrev cJx4a65c_get_915e3 : ByteArray := prog_23_method_20_code
def yJx4a65c_get_915e3 : MethodName := ⟨RJx4a65c, "get", "(I)Ljava/lang/Object;"⟩
abbrev cJx4a65c_add_72be8 : ByteArray := prog_23_method_24_code
def yJx4a65c_add_72be8 : MethodName := ⟨RJx4a65c, "add", "(Ljava/lang/Object;[Ljava/lang/Object;I)V"⟩
abbrev cJx4a65c_add_9ea2d : ByteArray := prog_23_method_25_code
def yJx4a65c_add_9ea2d : MethodName := ⟨RJx4a65c, "add", "(Ljava/lang/Object;)Z"⟩
abbrev cJx4a65c_remove_915e3 : ByteArray := prog_23_method_29_code
def yJx4a65c_remove_915e3 : MethodName := ⟨RJx4a65c, "remove", "(I)Ljava/lang/Object;"⟩
abbrev cJx4a65c_fastRemove_b59b0 : ByteArray := prog_23_method_39_code
def yJx4a65c_fastRemove_b59b0 : MethodName := ⟨RJx4a65c, "fastRemove", "([Ljava/lang/Object;I)V"⟩
abbrev cJx4a65c_clear_da8c8 : ByteArray := prog_23_method_40_code
def yJx4a65c_clear_da8c8 : MethodName := ⟨RJx4a65c, "clear", "()V"⟩
def RJ7 : String := "java/util/Arrays"
def TJ7 : u_T := fun k => match k with
  | _ => ("", "", "", false)
def tyJ7 : Nat → FieldType := fun k => match k with
  | _ => .int
abbrev wsJ70 : List Cond := u_ws RJ7 TJ7 0
theorem nmJ7 : ∀ a, a < 0 → ∀ b, b < 0 → a ≠ b → (TJ7 a).2.1 ≠ (TJ7 b).2.1 := by decide +kernel
theorem tyJ7_ok : ∀ k, k < 0 → parseFieldDescriptor (TJ7 k).2.2.1 = some (tyJ7 k) := by decide +kernel
abbrev cJ7_fill_53178 : ByteArray := prog_24_method_103_code
def yJ7_fill_53178 : MethodName := ⟨RJ7, "fill", "([II)V"⟩
abbrev cJ7_copyOf_1904c : ByteArray := prog_24_method_119_code
def yJ7_copyOf_1904c : MethodName := ⟨RJ7, "copyOf", "([Ljava/lang/Object;I)[Ljava/lang/Object;"⟩
abbrev cJ7_copyOf_6403c : ByteArray := prog_24_method_120_code
def yJ7_copyOf_6403c : MethodName := ⟨RJ7, "copyOf", "([Ljava/lang/Object;ILjava/lang/Class;)[Ljava/lang/Object;"⟩
def RJx5ef63 : String := "java/util/Collection"
def TJx5ef63 : u_T := fun k => match k with
  | _ => ("", "", "", false)
def tyJx5ef63 : Nat → FieldType := fun k => match k with
  | _ => .int
abbrev wsJx5ef630 : List Cond := u_ws RJx5ef63 TJx5ef63 0
theorem nmJx5ef63 : ∀ a, a < 0 → ∀ b, b < 0 → a ≠ b → (TJx5ef63 a).2.1 ≠ (TJx5ef63 b).2.1 := by decide +kernel
theorem tyJx5ef63_ok : ∀ k, k < 0 → parseFieldDescriptor (TJx5ef63 k).2.2.1 = some (tyJx5ef63 k) := by decide +kernel
def RJxbd725 : String := "java/util/List"
def TJxbd725 : u_T := fun k => match k with
  | _ => ("", "", "", false)
def tyJxbd725 : Nat → FieldType := fun k => match k with
  | _ => .int
abbrev wsJxbd7250 : List Cond := u_ws RJxbd725 TJxbd725 0
theorem nmJxbd725 : ∀ a, a < 0 → ∀ b, b < 0 → a ≠ b → (TJxbd725 a).2.1 ≠ (TJxbd725 b).2.1 := by decide +kernel
theorem tyJxbd725_ok : ∀ k, k < 0 → parseFieldDescriptor (TJxbd725 k).2.2.1 = some (tyJxbd725 k) := by decide +kernel
def RJ15 : String := "java/util/Objects"
def TJ15 : u_T := fun k => match k with
  | _ => ("", "", "", false)
def tyJ15 : Nat → FieldType := fun k => match k with
  | _ => .int
abbrev wsJ150 : List Cond := u_ws RJ15 TJ15 0
theorem nmJ15 : ∀ a, a < 0 → ∀ b, b < 0 → a ≠ b → (TJ15 a).2.1 ≠ (TJ15 b).2.1 := by decide +kernel
theorem tyJ15_ok : ∀ k, k < 0 → parseFieldDescriptor (TJ15 k).2.2.1 = some (tyJ15 k) := by decide +kernel
abbrev cJ15_checkIndex_7cf53 : ByteArray := prog_27_method_17_code
def yJ15_checkIndex_7cf53 : MethodName := ⟨RJ15, "checkIndex", "(II)I"⟩
def RJxf0a74 : String := "java/util/RandomAccess"
def TJxf0a74 : u_T := fun k => match k with
  | _ => ("", "", "", false)
def tyJxf0a74 : Nat → FieldType := fun k => match k with
  | _ => .int
abbrev wsJxf0a740 : List Cond := u_ws RJxf0a74 TJxf0a74 0
theorem nmJxf0a74 : ∀ a, a < 0 → ∀ b, b < 0 → a ≠ b → (TJxf0a74 a).2.1 ≠ (TJxf0a74 b).2.1 := by decide +kernel
theorem tyJxf0a74_ok : ∀ k, k < 0 → parseFieldDescriptor (TJxf0a74 k).2.2.1 = some (tyJxf0a74 k) := by decide +kernel
def RJxa66e6 : String := "java/util/SequencedCollection"
def TJxa66e6 : u_T := fun k => match k with
  | _ => ("", "", "", false)
def tyJxa66e6 : Nat → FieldType := fun k => match k with
  | _ => .int
abbrev wsJxa66e60 : List Cond := u_ws RJxa66e6 TJxa66e6 0
theorem nmJxa66e6 : ∀ a, a < 0 → ∀ b, b < 0 → a ≠ b → (TJxa66e6 a).2.1 ≠ (TJxa66e6 b).2.1 := by decide +kernel
theorem tyJxa66e6_ok : ∀ k, k < 0 → parseFieldDescriptor (TJxa66e6 k).2.2.1 = some (tyJxa66e6 k) := by decide +kernel
def RJ8 : String := "jdk/internal/util/ArraysSupport"
def TJ8 : u_T := fun k => match k with
  | _ => ("", "", "", false)
def tyJ8 : Nat → FieldType := fun k => match k with
  | _ => .int
abbrev wsJ80 : List Cond := u_ws RJ8 TJ8 0
theorem nmJ8 : ∀ a, a < 0 → ∀ b, b < 0 → a ≠ b → (TJ8 a).2.1 ≠ (TJ8 b).2.1 := by decide +kernel
theorem tyJ8_ok : ∀ k, k < 0 → parseFieldDescriptor (TJ8 k).2.2.1 = some (tyJ8 k) := by decide +kernel
abbrev cJ8_newLength_cabcc : ByteArray := prog_30_method_27_code
def yJ8_newLength_cabcc : MethodName := ⟨RJ8, "newLength", "(III)I"⟩
abbrev cJ8_hugeLength_7cf53 : ByteArray := prog_30_method_28_code
def yJ8_hugeLength_7cf53 : MethodName := ⟨RJ8, "hugeLength", "(II)I"⟩
def RJ3 : String := "jdk/internal/util/Preconditions"
def TJ3 : u_T := fun k => match k with
  | _ => ("", "", "", false)
def tyJ3 : Nat → FieldType := fun k => match k with
  | _ => .int
abbrev wsJ30 : List Cond := u_ws RJ3 TJ3 0
theorem nmJ3 : ∀ a, a < 0 → ∀ b, b < 0 → a ≠ b → (TJ3 a).2.1 ≠ (TJ3 b).2.1 := by decide +kernel
theorem tyJ3_ok : ∀ k, k < 0 → parseFieldDescriptor (TJ3 k).2.2.1 = some (tyJ3 k) := by decide +kernel
abbrev cJ3_checkIndex_8e157 : ByteArray := prog_31_method_11_code
def yJ3_checkIndex_8e157 : MethodName := ⟨RJ3, "checkIndex", "(IILjava/util/function/BiFunction;)I"⟩
def RL : String := "KnowDiskLaw"
abbrev cL_cell : ByteArray := method_2_code
def yL_cell : MethodName := ⟨RL, "cell", "([II)I"⟩
abbrev cL_at : ByteArray := method_3_code
def yL_at : MethodName := ⟨RL, "at", "(LKnowDisk;II[J)I"⟩
abbrev cL_law : ByteArray := code
def yL_law : MethodName := ⟨RL, "law", "([I)Z"⟩
abbrev vwCl : List vw_C := [(RJx00060, TJx00060, 6), (RJx4a65c, TJx4a65c, 3), (RX0, TX0, 1), (RX1, TX1, 2), (RX2, TX2, 2), (RX3, TX3, 2), (RX4, TX4, 13), (RX5, TX5, 22)]
