/-! Names, fields, word lists (by my own program out of the Statement). -/
def TCR : u_T := fun k => match k with
  | 0 => ("EscrowedVersions$CoinRow", "ring", "[I", true)
  | 1 => ("EscrowedVersions$CoinRow", "first", "I", false)
  | _ => ("EscrowedVersions$CoinRow", "count", "I", false)
def tyCR : Nat → FieldType := fun k => match k with
  | 0 => .array .int
  | 1 => .int
  | _ => .int
theorem nmCR : ∀ a, a < 3 → ∀ b, b < 3 → a ≠ b → (TCR a).2.1 ≠ (TCR b).2.1 := by decide +kernel
theorem tyCR_ok : ∀ k, k < 3 → parseFieldDescriptor (TCR k).2.2.1 = some (tyCR k) := by decide +kernel
def TEN : u_T := fun k => match k with
  | 0 => ("EscrowedVersions$Envelope", "bytes", "[I", true)
  | _ => ("EscrowedVersions$Envelope", "size", "I", false)
def tyEN : Nat → FieldType := fun k => match k with
  | 0 => .array .int
  | _ => .int
theorem nmEN : ∀ a, a < 2 → ∀ b, b < 2 → a ≠ b → (TEN a).2.1 ≠ (TEN b).2.1 := by decide +kernel
theorem tyEN_ok : ∀ k, k < 2 → parseFieldDescriptor (TEN k).2.2.1 = some (tyEN k) := by decide +kernel
def TJO : u_T := fun k => match k with
  | 0 => ("EscrowedVersions$Journal", "kinds", "[I", true)
  | 1 => ("EscrowedVersions$Journal", "numbers", "[I", true)
  | 2 => ("EscrowedVersions$Journal", "details", "[I", true)
  | 3 => ("EscrowedVersions$Journal", "seals", "[I", true)
  | _ => ("EscrowedVersions$Journal", "count", "I", false)
def tyJO : Nat → FieldType := fun k => match k with
  | 0 => .array .int
  | 1 => .array .int
  | 2 => .array .int
  | 3 => .array .int
  | _ => .int
theorem nmJO : ∀ a, a < 5 → ∀ b, b < 5 → a ≠ b → (TJO a).2.1 ≠ (TJO b).2.1 := by decide +kernel
theorem tyJO_ok : ∀ k, k < 5 → parseFieldDescriptor (TJO k).2.2.1 = some (tyJO k) := by decide +kernel
def TSP : u_T := fun k => match k with
  | 0 => ("EscrowedVersions$Splitting", "shares", "[I", true)
  | 1 => ("EscrowedVersions$Splitting", "coefficients", "[I", true)
  | _ => ("EscrowedVersions$Splitting", "count", "I", false)
def tySP : Nat → FieldType := fun k => match k with
  | 0 => .array .int
  | 1 => .array .int
  | _ => .int
theorem nmSP : ∀ a, a < 3 → ∀ b, b < 3 → a ≠ b → (TSP a).2.1 ≠ (TSP b).2.1 := by decide +kernel
theorem tySP_ok : ∀ k, k < 3 → parseFieldDescriptor (TSP k).2.2.1 = some (tySP k) := by decide +kernel
def TVE : u_T := fun k => match k with
  | 0 => ("EscrowedVersions$Version", "number", "I", true)
  | 1 => ("EscrowedVersions$Version", "digests", "[I", true)
  | 2 => ("EscrowedVersions$Version", "givenShares", "[I", true)
  | 3 => ("EscrowedVersions$Version", "state", "I", false)
  | 4 => ("EscrowedVersions$Version", "secret", "I", false)
  | 5 => ("EscrowedVersions$Version", "locked", "Z", false)
  | 6 => ("EscrowedVersions$Version", "threshold", "I", false)
  | 7 => ("EscrowedVersions$Version", "shareCount", "I", false)
  | 8 => ("EscrowedVersions$Version", "givenSet", "I", false)
  | _ => ("EscrowedVersions$Version", "givenCount", "I", false)
def tyVE : Nat → FieldType := fun k => match k with
  | 0 => .int
  | 1 => .array .int
  | 2 => .array .int
  | 3 => .int
  | 4 => .int
  | 5 => .boolean
  | 6 => .int
  | 7 => .int
  | 8 => .int
  | _ => .int
theorem nmVE : ∀ a, a < 10 → ∀ b, b < 10 → a ≠ b → (TVE a).2.1 ≠ (TVE b).2.1 := by decide +kernel
theorem tyVE_ok : ∀ k, k < 10 → parseFieldDescriptor (TVE k).2.2.1 = some (tyVE k) := by decide +kernel
def TEV : u_T := fun k => match k with
  | 0 => ("EscrowedVersions", "coinRow", "LEscrowedVersions$CoinRow;", true)
  | 1 => ("EscrowedVersions", "journal", "LEscrowedVersions$Journal;", true)
  | 2 => ("EscrowedVersions", "envelope", "LEscrowedVersions$Envelope;", true)
  | 3 => ("EscrowedVersions", "latest", "LEscrowedVersions$Splitting;", true)
  | 4 => ("EscrowedVersions", "made", "[LEscrowedVersions$Version;", true)
  | 5 => ("EscrowedVersions", "madeCount", "I", false)
  | 6 => ("EscrowedVersions", "active", "LEscrowedVersions$Version;", false)
  | _ => ("EscrowedVersions", "counter", "I", false)
def tyEV : Nat → FieldType := fun k => match k with
  | 0 => .object "EscrowedVersions$CoinRow"
  | 1 => .object "EscrowedVersions$Journal"
  | 2 => .object "EscrowedVersions$Envelope"
  | 3 => .object "EscrowedVersions$Splitting"
  | 4 => .array (.object "EscrowedVersions$Version")
  | 5 => .int
  | 6 => .object "EscrowedVersions$Version"
  | _ => .int
theorem nmEV : ∀ a, a < 8 → ∀ b, b < 8 → a ≠ b → (TEV a).2.1 ≠ (TEV b).2.1 := by decide +kernel
theorem tyEV_ok : ∀ k, k < 8 → parseFieldDescriptor (TEV k).2.2.1 = some (tyEV k) := by decide +kernel
def TMO : u_T := fun k => match k with
  | 0 => ("EscrowedVersionsModel", "purse", "[I", true)
  | 1 => ("EscrowedVersionsModel", "cash", "I", false)
  | 2 => ("EscrowedVersionsModel", "count", "I", false)
  | 3 => ("EscrowedVersionsModel", "states", "[I", true)
  | 4 => ("EscrowedVersionsModel", "secrets", "[I", true)
  | 5 => ("EscrowedVersionsModel", "shut", "[Z", true)
  | 6 => ("EscrowedVersionsModel", "thresholds", "[I", true)
  | 7 => ("EscrowedVersionsModel", "sizes", "[I", true)
  | 8 => ("EscrowedVersionsModel", "digests", "[I", true)
  | 9 => ("EscrowedVersionsModel", "shares", "[I", true)
  | 10 => ("EscrowedVersionsModel", "given", "[Z", true)
  | 11 => ("EscrowedVersionsModel", "cut", "[I", true)
  | 12 => ("EscrowedVersionsModel", "cuts", "I", false)
  | 13 => ("EscrowedVersionsModel", "lines", "I", false)
  | 14 => ("EscrowedVersionsModel", "kinds", "[I", true)
  | 15 => ("EscrowedVersionsModel", "whose", "[I", true)
  | 16 => ("EscrowedVersionsModel", "details", "[I", true)
  | 17 => ("EscrowedVersionsModel", "seals", "[I", true)
  | 18 => ("EscrowedVersionsModel", "bytes", "[I", true)
  | 19 => ("EscrowedVersionsModel", "size", "I", false)
  | 20 => ("EscrowedVersionsModel", "counter", "I", false)
  | 21 => ("EscrowedVersionsModel", "x", "[I", true)
  | _ => ("EscrowedVersionsModel", "y", "[I", true)
def tyMO : Nat → FieldType := fun k => match k with
  | 0 => .array .int
  | 1 => .int
  | 2 => .int
  | 3 => .array .int
  | 4 => .array .int
  | 5 => .array .boolean
  | 6 => .array .int
  | 7 => .array .int
  | 8 => .array .int
  | 9 => .array .int
  | 10 => .array .boolean
  | 11 => .array .int
  | 12 => .int
  | 13 => .int
  | 14 => .array .int
  | 15 => .array .int
  | 16 => .array .int
  | 17 => .array .int
  | 18 => .array .int
  | 19 => .int
  | 20 => .int
  | 21 => .array .int
  | _ => .array .int
theorem nmMO : ∀ a, a < 23 → ∀ b, b < 23 → a ≠ b → (TMO a).2.1 ≠ (TMO b).2.1 := by decide +kernel
theorem tyMO_ok : ∀ k, k < 23 → parseFieldDescriptor (TMO k).2.2.1 = some (tyMO k) := by decide +kernel
abbrev vwCl : List vw_C := [("EscrowedVersions$CoinRow", TCR, 3), ("EscrowedVersions$Envelope", TEN, 2), ("EscrowedVersions$Journal", TJO, 5), ("EscrowedVersions$Splitting", TSP, 3), ("EscrowedVersions$Version", TVE, 10), ("EscrowedVersions", TEV, 8), ("EscrowedVersionsModel", TMO, 23)]
abbrev RCR : String := "EscrowedVersions$CoinRow"
abbrev REN : String := "EscrowedVersions$Envelope"
abbrev RFI : String := "EscrowedVersions$Field"
abbrev RJO : String := "EscrowedVersions$Journal"
abbrev RSP : String := "EscrowedVersions$Splitting"
abbrev RVE : String := "EscrowedVersions$Version"
abbrev REV : String := "EscrowedVersions"
abbrev RMO : String := "EscrowedVersionsModel"
abbrev RAR : String := "java/util/Arrays"
abbrev RLA : String := "EscrowedVersionsLaw"
abbrev yEV_init : MethodName := ⟨"EscrowedVersions", "<init>", "()V"⟩
abbrev cEV_init : ByteArray := prog_1_method_1_code
abbrev yCR_init : MethodName := ⟨"EscrowedVersions$CoinRow", "<init>", "()V"⟩
abbrev cCR_init : ByteArray := prog_2_method_1_code
abbrev yJO_init : MethodName := ⟨"EscrowedVersions$Journal", "<init>", "()V"⟩
abbrev cJO_init : ByteArray := prog_5_method_1_code
abbrev yEN_init : MethodName := ⟨"EscrowedVersions$Envelope", "<init>", "()V"⟩
abbrev cEN_init : ByteArray := prog_3_method_1_code
abbrev ySP_init : MethodName := ⟨"EscrowedVersions$Splitting", "<init>", "()V"⟩
abbrev cSP_init : ByteArray := prog_6_method_1_code
abbrev yEV_coin : MethodName := ⟨"EscrowedVersions", "coin", "(I)Z"⟩
abbrev cEV_coin : ByteArray := prog_1_method_2_code
abbrev yEV_isByte : MethodName := ⟨"EscrowedVersions", "isByte", "(I)Z"⟩
abbrev cEV_isByte : ByteArray := prog_1_method_22_code
abbrev yCR_putLast : MethodName := ⟨"EscrowedVersions$CoinRow", "putLast", "(I)V"⟩
abbrev cCR_putLast : ByteArray := prog_2_method_2_code
abbrev yEV_coins : MethodName := ⟨"EscrowedVersions", "coins", "()I"⟩
abbrev cEV_coins : ByteArray := prog_1_method_3_code
abbrev yEV_times : MethodName := ⟨"EscrowedVersions", "times", "(II)I"⟩
abbrev cEV_times : ByteArray := prog_1_method_4_code
abbrev yFI_product : MethodName := ⟨"EscrowedVersions$Field", "product", "(II)I"⟩
abbrev cFI_product : ByteArray := prog_4_method_2_code
abbrev yEV_rotate : MethodName := ⟨"EscrowedVersions", "rotate", "()I"⟩
abbrev cEV_rotate : ByteArray := prog_1_method_5_code
abbrev yJO_hasRoomFor : MethodName := ⟨"EscrowedVersions$Journal", "hasRoomFor", "(I)Z"⟩
abbrev cJO_hasRoomFor : ByteArray := prog_5_method_2_code
abbrev yCR_takeInt : MethodName := ⟨"EscrowedVersions$CoinRow", "takeInt", "()I"⟩
abbrev cCR_takeInt : ByteArray := prog_2_method_4_code
abbrev yCR_take : MethodName := ⟨"EscrowedVersions$CoinRow", "take", "()I"⟩
abbrev cCR_take : ByteArray := prog_2_method_3_code
abbrev yVE_init : MethodName := ⟨"EscrowedVersions$Version", "<init>", "(II)V"⟩
abbrev cVE_init : ByteArray := prog_7_method_1_code
abbrev yJO_write : MethodName := ⟨"EscrowedVersions$Journal", "write", "(III)V"⟩
abbrev cJO_write : ByteArray := prog_5_method_3_code
abbrev yEV_mix : MethodName := ⟨"EscrowedVersions", "mix", "(II)I"⟩
abbrev cEV_mix : ByteArray := prog_1_method_24_code
abbrev yEV_destroy : MethodName := ⟨"EscrowedVersions", "destroy", "(I)I"⟩
abbrev cEV_destroy : ByteArray := prog_1_method_6_code
abbrev yEV_find : MethodName := ⟨"EscrowedVersions", "find", "(I)LEscrowedVersions$Version;"⟩
abbrev cEV_find : ByteArray := prog_1_method_21_code
abbrev yVE_forgetAll : MethodName := ⟨"EscrowedVersions$Version", "forgetAll", "()V"⟩
abbrev cVE_forgetAll : ByteArray := prog_7_method_9_code
abbrev yAR_fill : MethodName := ⟨"java/util/Arrays", "fill", "([II)V"⟩
abbrev cAR_fill : ByteArray := prog_10_method_103_code
abbrev yVE_forgetGiven : MethodName := ⟨"EscrowedVersions$Version", "forgetGiven", "()V"⟩
abbrev cVE_forgetGiven : ByteArray := prog_7_method_10_code
abbrev yEV_split : MethodName := ⟨"EscrowedVersions", "split", "(III)I"⟩
abbrev cEV_split : ByteArray := prog_1_method_7_code
abbrev yEV_isEscrow : MethodName := ⟨"EscrowedVersions", "isEscrow", "(II)Z"⟩
abbrev cEV_isEscrow : ByteArray := prog_1_method_23_code
abbrev ySP_make : MethodName := ⟨"EscrowedVersions$Splitting", "make", "(IIILEscrowedVersions$CoinRow;)V"⟩
abbrev cSP_make : ByteArray := prog_6_method_2_code
abbrev ySP_valueAt : MethodName := ⟨"EscrowedVersions$Splitting", "valueAt", "(II)I"⟩
abbrev cSP_valueAt : ByteArray := prog_6_method_3_code
abbrev yVE_takeEscrow : MethodName := ⟨"EscrowedVersions$Version", "takeEscrow", "(IILEscrowedVersions$Splitting;)V"⟩
abbrev cVE_takeEscrow : ByteArray := prog_7_method_3_code
abbrev yEV_digest : MethodName := ⟨"EscrowedVersions", "digest", "(II)I"⟩
abbrev cEV_digest : ByteArray := prog_1_method_25_code
abbrev yVE_escrow : MethodName := ⟨"EscrowedVersions$Version", "escrow", "()I"⟩
abbrev cVE_escrow : ByteArray := prog_7_method_2_code
abbrev yEV_share : MethodName := ⟨"EscrowedVersions", "share", "(I)I"⟩
abbrev cEV_share : ByteArray := prog_1_method_8_code
abbrev yEV_lock : MethodName := ⟨"EscrowedVersions", "lock", "(I)I"⟩
abbrev cEV_lock : ByteArray := prog_1_method_9_code
abbrev yVE_close : MethodName := ⟨"EscrowedVersions$Version", "close", "()V"⟩
abbrev cVE_close : ByteArray := prog_7_method_4_code
abbrev yEV_give : MethodName := ⟨"EscrowedVersions", "give", "(III)I"⟩
abbrev cEV_give : ByteArray := prog_1_method_10_code
abbrev yVE_fits : MethodName := ⟨"EscrowedVersions$Version", "fits", "(II)Z"⟩
abbrev cVE_fits : ByteArray := prog_7_method_5_code
abbrev yVE_isGiven : MethodName := ⟨"EscrowedVersions$Version", "isGiven", "(I)Z"⟩
abbrev cVE_isGiven : ByteArray := prog_7_method_6_code
abbrev yVE_accept : MethodName := ⟨"EscrowedVersions$Version", "accept", "(II)V"⟩
abbrev cVE_accept : ByteArray := prog_7_method_7_code
abbrev yVE_open : MethodName := ⟨"EscrowedVersions$Version", "open", "()V"⟩
abbrev cVE_open : ByteArray := prog_7_method_8_code
abbrev yVE_putTogether : MethodName := ⟨"EscrowedVersions$Version", "putTogether", "()I"⟩
abbrev cVE_putTogether : ByteArray := prog_7_method_11_code
abbrev yVE_weightAtZero : MethodName := ⟨"EscrowedVersions$Version", "weightAtZero", "(I)I"⟩
abbrev cVE_weightAtZero : ByteArray := prog_7_method_12_code
abbrev yFI_inverse : MethodName := ⟨"EscrowedVersions$Field", "inverse", "(I)I"⟩
abbrev cFI_inverse : ByteArray := prog_4_method_3_code
abbrev yVE_scaled : MethodName := ⟨"EscrowedVersions$Version", "scaled", "(II)I"⟩
abbrev cVE_scaled : ByteArray := prog_7_method_13_code
abbrev yEV_wrap : MethodName := ⟨"EscrowedVersions", "wrap", "(I)I"⟩
abbrev cEV_wrap : ByteArray := prog_1_method_11_code
abbrev yEV_pad : MethodName := ⟨"EscrowedVersions", "pad", "(II)I"⟩
abbrev cEV_pad : ByteArray := prog_1_method_26_code
abbrev yEN_putBehind : MethodName := ⟨"EscrowedVersions$Envelope", "putBehind", "(II)V"⟩
abbrev cEN_putBehind : ByteArray := prog_3_method_3_code
abbrev yEN_put : MethodName := ⟨"EscrowedVersions$Envelope", "put", "(II)Z"⟩
abbrev cEN_put : ByteArray := prog_3_method_2_code
abbrev yEV_tag : MethodName := ⟨"EscrowedVersions", "tag", "(III)I"⟩
abbrev cEV_tag : ByteArray := prog_1_method_27_code
abbrev yEV_unwrap : MethodName := ⟨"EscrowedVersions", "unwrap", "()J"⟩
abbrev cEV_unwrap : ByteArray := prog_1_method_12_code
abbrev yEN_number : MethodName := ⟨"EscrowedVersions$Envelope", "number", "(II)I"⟩
abbrev cEN_number : ByteArray := prog_3_method_4_code
abbrev yEV_set : MethodName := ⟨"EscrowedVersions", "set", "(II)Z"⟩
abbrev cEV_set : ByteArray := prog_1_method_13_code
abbrev yEV_trim : MethodName := ⟨"EscrowedVersions", "trim", "(I)Z"⟩
abbrev cEV_trim : ByteArray := prog_1_method_14_code
abbrev yEV_byteAt : MethodName := ⟨"EscrowedVersions", "byteAt", "(I)I"⟩
abbrev cEV_byteAt : ByteArray := prog_1_method_15_code
abbrev yEV_length : MethodName := ⟨"EscrowedVersions", "length", "()I"⟩
abbrev cEV_length : ByteArray := prog_1_method_16_code
abbrev yEV_version : MethodName := ⟨"EscrowedVersions", "version", "(II)I"⟩
abbrev cEV_version : ByteArray := prog_1_method_17_code
abbrev yEV_versions : MethodName := ⟨"EscrowedVersions", "versions", "()I"⟩
abbrev cEV_versions : ByteArray := prog_1_method_18_code
abbrev yEV_log : MethodName := ⟨"EscrowedVersions", "log", "(II)I"⟩
abbrev cEV_log : ByteArray := prog_1_method_19_code
abbrev yEV_entries : MethodName := ⟨"EscrowedVersions", "entries", "()I"⟩
abbrev cEV_entries : ByteArray := prog_1_method_20_code
abbrev yMO_init : MethodName := ⟨"EscrowedVersionsModel", "<init>", "()V"⟩
abbrev cMO_init : ByteArray := prog_9_method_1_code
abbrev yMO_coin : MethodName := ⟨"EscrowedVersionsModel", "coin", "(I)Z"⟩
abbrev cMO_coin : ByteArray := prog_9_method_5_code
abbrev yMO_coins : MethodName := ⟨"EscrowedVersionsModel", "coins", "()I"⟩
abbrev cMO_coins : ByteArray := prog_9_method_6_code
abbrev yMO_times : MethodName := ⟨"EscrowedVersionsModel", "times", "(II)I"⟩
abbrev cMO_times : ByteArray := prog_9_method_8_code
abbrev yMO_product : MethodName := ⟨"EscrowedVersionsModel", "product", "(II)I"⟩
abbrev cMO_product : ByteArray := prog_9_method_3_code
abbrev yMO_rotate : MethodName := ⟨"EscrowedVersionsModel", "rotate", "()I"⟩
abbrev cMO_rotate : ByteArray := prog_9_method_12_code
abbrev yMO_active : MethodName := ⟨"EscrowedVersionsModel", "active", "()I"⟩
abbrev cMO_active : ByteArray := prog_9_method_11_code
abbrev yMO_pay : MethodName := ⟨"EscrowedVersionsModel", "pay", "()I"⟩
abbrev cMO_pay : ByteArray := prog_9_method_7_code
abbrev yMO_write : MethodName := ⟨"EscrowedVersionsModel", "write", "(III)V"⟩
abbrev cMO_write : ByteArray := prog_9_method_9_code
abbrev yMO_mix : MethodName := ⟨"EscrowedVersionsModel", "mix", "(II)I"⟩
abbrev cMO_mix : ByteArray := prog_9_method_2_code
abbrev yMO_destroy : MethodName := ⟨"EscrowedVersionsModel", "destroy", "(I)I"⟩
abbrev cMO_destroy : ByteArray := prog_9_method_14_code
abbrev yMO_none : MethodName := ⟨"EscrowedVersionsModel", "none", "(I)Z"⟩
abbrev cMO_none : ByteArray := prog_9_method_10_code
abbrev yMO_dropGiven : MethodName := ⟨"EscrowedVersionsModel", "dropGiven", "(I)V"⟩
abbrev cMO_dropGiven : ByteArray := prog_9_method_13_code
abbrev yMO_split : MethodName := ⟨"EscrowedVersionsModel", "split", "(III)I"⟩
abbrev cMO_split : ByteArray := prog_9_method_16_code
abbrev yMO_byteOf : MethodName := ⟨"EscrowedVersionsModel", "byteOf", "(II)I"⟩
abbrev cMO_byteOf : ByteArray := prog_9_method_15_code
abbrev yMO_share : MethodName := ⟨"EscrowedVersionsModel", "share", "(I)I"⟩
abbrev cMO_share : ByteArray := prog_9_method_17_code
abbrev yMO_lock : MethodName := ⟨"EscrowedVersionsModel", "lock", "(I)I"⟩
abbrev cMO_lock : ByteArray := prog_9_method_18_code
abbrev yMO_give : MethodName := ⟨"EscrowedVersionsModel", "give", "(III)I"⟩
abbrev cMO_give : ByteArray := prog_9_method_22_code
abbrev yMO_givenTo : MethodName := ⟨"EscrowedVersionsModel", "givenTo", "(I)I"⟩
abbrev cMO_givenTo : ByteArray := prog_9_method_19_code
abbrev yMO_together : MethodName := ⟨"EscrowedVersionsModel", "together", "(I)I"⟩
abbrev cMO_together : ByteArray := prog_9_method_21_code
abbrev yMO_atNothing : MethodName := ⟨"EscrowedVersionsModel", "atNothing", "(I)I"⟩
abbrev cMO_atNothing : ByteArray := prog_9_method_20_code
abbrev yMO_quotient : MethodName := ⟨"EscrowedVersionsModel", "quotient", "(II)I"⟩
abbrev cMO_quotient : ByteArray := prog_9_method_4_code
abbrev yMO_wrap : MethodName := ⟨"EscrowedVersionsModel", "wrap", "(I)I"⟩
abbrev cMO_wrap : ByteArray := prog_9_method_25_code
abbrev yMO_mask : MethodName := ⟨"EscrowedVersionsModel", "mask", "(II)I"⟩
abbrev cMO_mask : ByteArray := prog_9_method_23_code
abbrev yMO_mark : MethodName := ⟨"EscrowedVersionsModel", "mark", "(III)I"⟩
abbrev cMO_mark : ByteArray := prog_9_method_24_code
abbrev yMO_unwrap : MethodName := ⟨"EscrowedVersionsModel", "unwrap", "()J"⟩
abbrev cMO_unwrap : ByteArray := prog_9_method_26_code
abbrev yMO_set : MethodName := ⟨"EscrowedVersionsModel", "set", "(II)Z"⟩
abbrev cMO_set : ByteArray := prog_9_method_27_code
abbrev yMO_trim : MethodName := ⟨"EscrowedVersionsModel", "trim", "(I)Z"⟩
abbrev cMO_trim : ByteArray := prog_9_method_28_code
abbrev yMO_byteAt : MethodName := ⟨"EscrowedVersionsModel", "byteAt", "(I)I"⟩
abbrev cMO_byteAt : ByteArray := prog_9_method_29_code
abbrev yMO_length : MethodName := ⟨"EscrowedVersionsModel", "length", "()I"⟩
abbrev cMO_length : ByteArray := prog_9_method_30_code
abbrev yMO_version : MethodName := ⟨"EscrowedVersionsModel", "version", "(II)I"⟩
abbrev cMO_version : ByteArray := prog_9_method_31_code
abbrev yMO_versions : MethodName := ⟨"EscrowedVersionsModel", "versions", "()I"⟩
abbrev cMO_versions : ByteArray := prog_9_method_32_code
abbrev yMO_log : MethodName := ⟨"EscrowedVersionsModel", "log", "(II)I"⟩
abbrev cMO_log : ByteArray := prog_9_method_33_code
abbrev yMO_entries : MethodName := ⟨"EscrowedVersionsModel", "entries", "()I"⟩
abbrev cMO_entries : ByteArray := prog_9_method_34_code
abbrev cLA_law : ByteArray := code
/-- a word of a nest -/
def xIsNest : Cond → Bool
  | .fieldLinkNest .. => true
  | .methodLinkNest .. => true
  | _ => false
def xAll : List Cond := lw_tbl.filter goodWord
def xNest : List Cond := lw_tbl.filter xIsNest
theorem xGood : ∀ w ∈ xAll, goodWord w = true := fun _ h => (List.mem_filter.mp h).2
theorem xNestOk : ∀ w ∈ xNest, xIsNest w = true := fun _ h => (List.mem_filter.mp h).2
theorem xAll_in : ∀ w ∈ xAll, w ∈ lw_tbl := fun _ h => (List.mem_filter.mp h).1
theorem xNest_in : ∀ w ∈ xNest, w ∈ lw_tbl := fun _ h => (List.mem_filter.mp h).1
theorem xt1 {w : Cond} (h : w ∈ tables_1_1) : w ∈ lw_tbl := List.mem_append_right _ (List.mem_append_left _ h)
theorem xt2 {w : Cond} (h : w ∈ tables_1_2) : w ∈ lw_tbl := List.mem_append_right _ (List.mem_append_right _ (List.mem_append_left _ h))
theorem xt3 {w : Cond} (h : w ∈ tables_1_3) : w ∈ lw_tbl := List.mem_append_right _ (List.mem_append_right _ (List.mem_append_right _ h))
theorem xh_1_0 : Cond.initialized "EscrowedVersionsLaw" ∈ xAll := List.mem_filter.mpr ⟨xt1 (List.mem_of_getElem? (i := 0) rfl), rfl⟩
theorem xh_1_1 : Cond.initialized "EscrowedVersions" ∈ xAll := List.mem_filter.mpr ⟨xt1 (List.mem_of_getElem? (i := 1) rfl), rfl⟩
theorem xh_1_2 : Cond.initialized "EscrowedVersions$CoinRow" ∈ xAll := List.mem_filter.mpr ⟨xt1 (List.mem_of_getElem? (i := 2) rfl), rfl⟩
theorem xh_1_3 : Cond.initialized "EscrowedVersions$Journal" ∈ xAll := List.mem_filter.mpr ⟨xt1 (List.mem_of_getElem? (i := 3) rfl), rfl⟩
theorem xh_1_4 : Cond.initialized "EscrowedVersions$Envelope" ∈ xAll := List.mem_filter.mpr ⟨xt1 (List.mem_of_getElem? (i := 4) rfl), rfl⟩
theorem xh_1_5 : Cond.initialized "EscrowedVersions$Splitting" ∈ xAll := List.mem_filter.mpr ⟨xt1 (List.mem_of_getElem? (i := 5) rfl), rfl⟩
theorem xh_1_6 : Cond.initialized "EscrowedVersionsModel" ∈ xAll := List.mem_filter.mpr ⟨xt1 (List.mem_of_getElem? (i := 6) rfl), rfl⟩
theorem xh_1_7 : Cond.initialized "EscrowedVersions$Field" ∈ xAll := List.mem_filter.mpr ⟨xt1 (List.mem_of_getElem? (i := 7) rfl), rfl⟩
theorem xh_1_8 : Cond.initialized "EscrowedVersions$Version" ∈ xAll := List.mem_filter.mpr ⟨xt1 (List.mem_of_getElem? (i := 8) rfl), rfl⟩
theorem xh_1_9 : Cond.initialized "java/util/Arrays" ∈ xAll := List.mem_filter.mpr ⟨xt1 (List.mem_of_getElem? (i := 9) rfl), rfl⟩
theorem xh_1_10 : Cond.classLink "EscrowedVersionsLaw" 7 "EscrowedVersions" ∈ xAll := List.mem_filter.mpr ⟨xt1 (List.mem_of_getElem? (i := 10) rfl), rfl⟩
theorem xh_1_11 : Cond.instantiable "EscrowedVersions" 8 ∈ xAll := List.mem_filter.mpr ⟨xt1 (List.mem_of_getElem? (i := 11) rfl), rfl⟩
theorem xh_1_12 : Cond.methodLink "EscrowedVersionsLaw" 9 ⟨"EscrowedVersions", "<init>", "()V"⟩ ∈ xAll := List.mem_filter.mpr ⟨xt1 (List.mem_of_getElem? (i := 12) rfl), rfl⟩
theorem xh_1_13 : Cond.instanceMethod ⟨"EscrowedVersions", "<init>", "()V"⟩ ∈ xAll := List.mem_filter.mpr ⟨xt1 (List.mem_of_getElem? (i := 13) rfl), rfl⟩
theorem xh_1_14 : Cond.code ⟨"EscrowedVersions", "<init>", "()V"⟩ prog_1_method_1_code 1 none ∈ xAll := List.mem_filter.mpr ⟨xt1 (List.mem_of_getElem? (i := 14) rfl), rfl⟩
theorem xh_1_15 : Cond.methodLink "EscrowedVersions" 1 ⟨"java/lang/Object", "<init>", "()V"⟩ ∈ xAll := List.mem_filter.mpr ⟨xt1 (List.mem_of_getElem? (i := 15) rfl), rfl⟩
theorem xh_1_16 : Cond.instanceMethod ⟨"java/lang/Object", "<init>", "()V"⟩ ∈ xAll := List.mem_filter.mpr ⟨xt1 (List.mem_of_getElem? (i := 16) rfl), rfl⟩
theorem xh_1_17 : Cond.code ⟨"java/lang/Object", "<init>", "()V"⟩ object_method_1_code 1 none ∈ xAll := List.mem_filter.mpr ⟨xt1 (List.mem_of_getElem? (i := 17) rfl), rfl⟩
theorem xh_1_18 : Cond.classLink "EscrowedVersions" 7 "EscrowedVersions$CoinRow" ∈ xAll := List.mem_filter.mpr ⟨xt1 (List.mem_of_getElem? (i := 18) rfl), rfl⟩
theorem xh_1_19 : Cond.instantiable "EscrowedVersions$CoinRow" 3 ∈ xAll := List.mem_filter.mpr ⟨xt1 (List.mem_of_getElem? (i := 19) rfl), rfl⟩
theorem xh_1_20 : Cond.methodLinkNest "EscrowedVersions" 9 ⟨"EscrowedVersions$CoinRow", "<init>", "()V"⟩ "EscrowedVersions" ∈ xNest := List.mem_filter.mpr ⟨xt1 (List.mem_of_getElem? (i := 20) rfl), rfl⟩
theorem xh_1_21 : Cond.instanceMethod ⟨"EscrowedVersions$CoinRow", "<init>", "()V"⟩ ∈ xAll := List.mem_filter.mpr ⟨xt1 (List.mem_of_getElem? (i := 21) rfl), rfl⟩
theorem xh_1_22 : Cond.code ⟨"EscrowedVersions$CoinRow", "<init>", "()V"⟩ prog_2_method_1_code 1 none ∈ xAll := List.mem_filter.mpr ⟨xt1 (List.mem_of_getElem? (i := 22) rfl), rfl⟩
theorem xh_1_23 : Cond.methodLink "EscrowedVersions$CoinRow" 3 ⟨"java/lang/Object", "<init>", "()V"⟩ ∈ xAll := List.mem_filter.mpr ⟨xt1 (List.mem_of_getElem? (i := 23) rfl), rfl⟩
theorem xh_1_24 : Cond.fieldLink "EscrowedVersions$CoinRow" 9 "EscrowedVersions$CoinRow" "ring" "[I" ∈ xAll := List.mem_filter.mpr ⟨xt1 (List.mem_of_getElem? (i := 24) rfl), rfl⟩
theorem xh_1_25 : Cond.fieldLink "EscrowedVersions$CoinRow" 15 "EscrowedVersions$CoinRow" "first" "I" ∈ xAll := List.mem_filter.mpr ⟨xt1 (List.mem_of_getElem? (i := 25) rfl), rfl⟩
theorem xh_1_26 : Cond.fieldLink "EscrowedVersions$CoinRow" 19 "EscrowedVersions$CoinRow" "count" "I" ∈ xAll := List.mem_filter.mpr ⟨xt1 (List.mem_of_getElem? (i := 26) rfl), rfl⟩
theorem xh_1_27 : Cond.fieldLinkNest "EscrowedVersions" 58 "EscrowedVersions$CoinRow" "count" "I" "EscrowedVersions" ∈ xNest := List.mem_filter.mpr ⟨xt1 (List.mem_of_getElem? (i := 27) rfl), rfl⟩
theorem xh_1_28 : Cond.laysFinal "EscrowedVersions$CoinRow" "EscrowedVersions$CoinRow" "ring" "[I" ∈ xAll := List.mem_filter.mpr ⟨xt1 (List.mem_of_getElem? (i := 28) rfl), rfl⟩
theorem xh_1_30 : Cond.lays "EscrowedVersions$CoinRow" "EscrowedVersions$CoinRow" "first" "I" ∈ xAll := List.mem_filter.mpr ⟨xt1 (List.mem_of_getElem? (i := 30) rfl), rfl⟩
theorem xh_1_32 : Cond.lays "EscrowedVersions$CoinRow" "EscrowedVersions$CoinRow" "count" "I" ∈ xAll := List.mem_filter.mpr ⟨xt1 (List.mem_of_getElem? (i := 32) rfl), rfl⟩
theorem xh_1_35 : Cond.arrayClass .int ∈ xAll := List.mem_filter.mpr ⟨xt1 (List.mem_of_getElem? (i := 35) rfl), rfl⟩
theorem xh_1_36 : Cond.classLink "EscrowedVersions" 16 "EscrowedVersions$Journal" ∈ xAll := List.mem_filter.mpr ⟨xt1 (List.mem_of_getElem? (i := 36) rfl), rfl⟩
theorem xh_1_37 : Cond.instantiable "EscrowedVersions$Journal" 5 ∈ xAll := List.mem_filter.mpr ⟨xt1 (List.mem_of_getElem? (i := 37) rfl), rfl⟩
theorem xh_1_38 : Cond.methodLinkNest "EscrowedVersions" 18 ⟨"EscrowedVersions$Journal", "<init>", "()V"⟩ "EscrowedVersions" ∈ xNest := List.mem_filter.mpr ⟨xt1 (List.mem_of_getElem? (i := 38) rfl), rfl⟩
theorem xh_1_39 : Cond.instanceMethod ⟨"EscrowedVersions$Journal", "<init>", "()V"⟩ ∈ xAll := List.mem_filter.mpr ⟨xt1 (List.mem_of_getElem? (i := 39) rfl), rfl⟩
theorem xh_1_40 : Cond.code ⟨"EscrowedVersions$Journal", "<init>", "()V"⟩ prog_5_method_1_code 1 none ∈ xAll := List.mem_filter.mpr ⟨xt1 (List.mem_of_getElem? (i := 40) rfl), rfl⟩
theorem xh_1_41 : Cond.methodLink "EscrowedVersions$Journal" 3 ⟨"java/lang/Object", "<init>", "()V"⟩ ∈ xAll := List.mem_filter.mpr ⟨xt1 (List.mem_of_getElem? (i := 41) rfl), rfl⟩
theorem xh_1_42 : Cond.fieldLink "EscrowedVersions$Journal" 9 "EscrowedVersions$Journal" "kinds" "[I" ∈ xAll := List.mem_filter.mpr ⟨xt1 (List.mem_of_getElem? (i := 42) rfl), rfl⟩
theorem xh_1_43 : Cond.fieldLinkNest "EscrowedVersions" 183 "EscrowedVersions$Journal" "kinds" "[I" "EscrowedVersions" ∈ xNest := List.mem_filter.mpr ⟨xt1 (List.mem_of_getElem? (i := 43) rfl), rfl⟩
theorem xh_1_44 : Cond.fieldLink "EscrowedVersions$Journal" 15 "EscrowedVersions$Journal" "numbers" "[I" ∈ xAll := List.mem_filter.mpr ⟨xt1 (List.mem_of_getElem? (i := 44) rfl), rfl⟩
theorem xh_1_45 : Cond.fieldLinkNest "EscrowedVersions" 186 "EscrowedVersions$Journal" "numbers" "[I" "EscrowedVersions" ∈ xNest := List.mem_filter.mpr ⟨xt1 (List.mem_of_getElem? (i := 45) rfl), rfl⟩
theorem xh_1_46 : Cond.fieldLink "EscrowedVersions$Journal" 18 "EscrowedVersions$Journal" "details" "[I" ∈ xAll := List.mem_filter.mpr ⟨xt1 (List.mem_of_getElem? (i := 46) rfl), rfl⟩
theorem xh_1_47 : Cond.fieldLinkNest "EscrowedVersions" 189 "EscrowedVersions$Journal" "details" "[I" "EscrowedVersions" ∈ xNest := List.mem_filter.mpr ⟨xt1 (List.mem_of_getElem? (i := 47) rfl), rfl⟩
theorem xh_1_48 : Cond.fieldLink "EscrowedVersions$Journal" 21 "EscrowedVersions$Journal" "seals" "[I" ∈ xAll := List.mem_filter.mpr ⟨xt1 (List.mem_of_getElem? (i := 48) rfl), rfl⟩
theorem xh_1_49 : Cond.fieldLinkNest "EscrowedVersions" 192 "EscrowedVersions$Journal" "seals" "[I" "EscrowedVersions" ∈ xNest := List.mem_filter.mpr ⟨xt1 (List.mem_of_getElem? (i := 49) rfl), rfl⟩
theorem xh_1_50 : Cond.fieldLink "EscrowedVersions$Journal" 24 "EscrowedVersions$Journal" "count" "I" ∈ xAll := List.mem_filter.mpr ⟨xt1 (List.mem_of_getElem? (i := 50) rfl), rfl⟩
theorem xh_1_51 : Cond.fieldLinkNest "EscrowedVersions" 182 "EscrowedVersions$Journal" "count" "I" "EscrowedVersions" ∈ xNest := List.mem_filter.mpr ⟨xt1 (List.mem_of_getElem? (i := 51) rfl), rfl⟩
theorem xh_1_52 : Cond.laysFinal "EscrowedVersions$Journal" "EscrowedVersions$Journal" "kinds" "[I" ∈ xAll := List.mem_filter.mpr ⟨xt1 (List.mem_of_getElem? (i := 52) rfl), rfl⟩
theorem xh_1_54 : Cond.laysFinal "EscrowedVersions$Journal" "EscrowedVersions$Journal" "numbers" "[I" ∈ xAll := List.mem_filter.mpr ⟨xt1 (List.mem_of_getElem? (i := 54) rfl), rfl⟩
theorem xh_1_56 : Cond.laysFinal "EscrowedVersions$Journal" "EscrowedVersions$Journal" "details" "[I" ∈ xAll := List.mem_filter.mpr ⟨xt1 (List.mem_of_getElem? (i := 56) rfl), rfl⟩
theorem xh_1_58 : Cond.laysFinal "EscrowedVersions$Journal" "EscrowedVersions$Journal" "seals" "[I" ∈ xAll := List.mem_filter.mpr ⟨xt1 (List.mem_of_getElem? (i := 58) rfl), rfl⟩
theorem xh_1_60 : Cond.lays "EscrowedVersions$Journal" "EscrowedVersions$Journal" "count" "I" ∈ xAll := List.mem_filter.mpr ⟨xt1 (List.mem_of_getElem? (i := 60) rfl), rfl⟩
theorem xh_1_63 : Cond.classLink "EscrowedVersions" 23 "EscrowedVersions$Envelope" ∈ xAll := List.mem_filter.mpr ⟨xt1 (List.mem_of_getElem? (i := 63) rfl), rfl⟩
theorem xh_1_64 : Cond.instantiable "EscrowedVersions$Envelope" 2 ∈ xAll := List.mem_filter.mpr ⟨xt1 (List.mem_of_getElem? (i := 64) rfl), rfl⟩
theorem xh_1_65 : Cond.methodLinkNest "EscrowedVersions" 25 ⟨"EscrowedVersions$Envelope", "<init>", "()V"⟩ "EscrowedVersions" ∈ xNest := List.mem_filter.mpr ⟨xt1 (List.mem_of_getElem? (i := 65) rfl), rfl⟩
theorem xh_1_66 : Cond.instanceMethod ⟨"EscrowedVersions$Envelope", "<init>", "()V"⟩ ∈ xAll := List.mem_filter.mpr ⟨xt1 (List.mem_of_getElem? (i := 66) rfl), rfl⟩
theorem xh_1_67 : Cond.code ⟨"EscrowedVersions$Envelope", "<init>", "()V"⟩ prog_3_method_1_code 1 none ∈ xAll := List.mem_filter.mpr ⟨xt1 (List.mem_of_getElem? (i := 67) rfl), rfl⟩
theorem xh_1_68 : Cond.methodLink "EscrowedVersions$Envelope" 3 ⟨"java/lang/Object", "<init>", "()V"⟩ ∈ xAll := List.mem_filter.mpr ⟨xt1 (List.mem_of_getElem? (i := 68) rfl), rfl⟩
theorem xh_1_69 : Cond.fieldLink "EscrowedVersions$Envelope" 9 "EscrowedVersions$Envelope" "bytes" "[I" ∈ xAll := List.mem_filter.mpr ⟨xt1 (List.mem_of_getElem? (i := 69) rfl), rfl⟩
theorem xh_1_70 : Cond.fieldLinkNest "EscrowedVersions" 176 "EscrowedVersions$Envelope" "bytes" "[I" "EscrowedVersions" ∈ xNest := List.mem_filter.mpr ⟨xt1 (List.mem_of_getElem? (i := 70) rfl), rfl⟩
theorem xh_1_71 : Cond.fieldLink "EscrowedVersions$Envelope" 15 "EscrowedVersions$Envelope" "size" "I" ∈ xAll := List.mem_filter.mpr ⟨xt1 (List.mem_of_getElem? (i := 71) rfl), rfl⟩
theorem xh_1_72 : Cond.fieldLinkNest "EscrowedVersions" 149 "EscrowedVersions$Envelope" "size" "I" "EscrowedVersions" ∈ xNest := List.mem_filter.mpr ⟨xt1 (List.mem_of_getElem? (i := 72) rfl), rfl⟩
theorem xh_1_73 : Cond.laysFinal "EscrowedVersions$Envelope" "EscrowedVersions$Envelope" "bytes" "[I" ∈ xAll := List.mem_filter.mpr ⟨xt1 (List.mem_of_getElem? (i := 73) rfl), rfl⟩
theorem xh_1_75 : Cond.lays "EscrowedVersions$Envelope" "EscrowedVersions$Envelope" "size" "I" ∈ xAll := List.mem_filter.mpr ⟨xt1 (List.mem_of_getElem? (i := 75) rfl), rfl⟩
theorem xh_1_78 : Cond.classLink "EscrowedVersions" 30 "EscrowedVersions$Splitting" ∈ xAll := List.mem_filter.mpr ⟨xt1 (List.mem_of_getElem? (i := 78) rfl), rfl⟩
theorem xh_1_79 : Cond.instantiable "EscrowedVersions$Splitting" 3 ∈ xAll := List.mem_filter.mpr ⟨xt1 (List.mem_of_getElem? (i := 79) rfl), rfl⟩
theorem xh_1_80 : Cond.methodLinkNest "EscrowedVersions" 32 ⟨"EscrowedVersions$Splitting", "<init>", "()V"⟩ "EscrowedVersions" ∈ xNest := List.mem_filter.mpr ⟨xt1 (List.mem_of_getElem? (i := 80) rfl), rfl⟩
theorem xh_1_81 : Cond.instanceMethod ⟨"EscrowedVersions$Splitting", "<init>", "()V"⟩ ∈ xAll := List.mem_filter.mpr ⟨xt1 (List.mem_of_getElem? (i := 81) rfl), rfl⟩
theorem xh_1_82 : Cond.code ⟨"EscrowedVersions$Splitting", "<init>", "()V"⟩ prog_6_method_1_code 1 none ∈ xAll := List.mem_filter.mpr ⟨xt1 (List.mem_of_getElem? (i := 82) rfl), rfl⟩
theorem xh_1_83 : Cond.methodLink "EscrowedVersions$Splitting" 3 ⟨"java/lang/Object", "<init>", "()V"⟩ ∈ xAll := List.mem_filter.mpr ⟨xt1 (List.mem_of_getElem? (i := 83) rfl), rfl⟩
theorem xh_1_84 : Cond.fieldLink "EscrowedVersions$Splitting" 9 "EscrowedVersions$Splitting" "shares" "[I" ∈ xAll := List.mem_filter.mpr ⟨xt1 (List.mem_of_getElem? (i := 84) rfl), rfl⟩
theorem xh_1_85 : Cond.fieldLinkNest "EscrowedVersions$Version" 50 "EscrowedVersions$Splitting" "shares" "[I" "EscrowedVersions" ∈ xNest := List.mem_filter.mpr ⟨xt1 (List.mem_of_getElem? (i := 85) rfl), rfl⟩
theorem xh_1_86 : Cond.fieldLinkNest "EscrowedVersions" 121 "EscrowedVersions$Splitting" "shares" "[I" "EscrowedVersions" ∈ xNest := List.mem_filter.mpr ⟨xt1 (List.mem_of_getElem? (i := 86) rfl), rfl⟩
theorem xh_1_87 : Cond.fieldLink "EscrowedVersions$Splitting" 15 "EscrowedVersions$Splitting" "coefficients" "[I" ∈ xAll := List.mem_filter.mpr ⟨xt1 (List.mem_of_getElem? (i := 87) rfl), rfl⟩
theorem xh_1_88 : Cond.fieldLink "EscrowedVersions$Splitting" 18 "EscrowedVersions$Splitting" "count" "I" ∈ xAll := List.mem_filter.mpr ⟨xt1 (List.mem_of_getElem? (i := 88) rfl), rfl⟩
theorem xh_1_89 : Cond.fieldLinkNest "EscrowedVersions" 120 "EscrowedVersions$Splitting" "count" "I" "EscrowedVersions" ∈ xNest := List.mem_filter.mpr ⟨xt1 (List.mem_of_getElem? (i := 89) rfl), rfl⟩
theorem xh_1_90 : Cond.laysFinal "EscrowedVersions$Splitting" "EscrowedVersions$Splitting" "shares" "[I" ∈ xAll := List.mem_filter.mpr ⟨xt1 (List.mem_of_getElem? (i := 90) rfl), rfl⟩
theorem xh_1_92 : Cond.laysFinal "EscrowedVersions$Splitting" "EscrowedVersions$Splitting" "coefficients" "[I" ∈ xAll := List.mem_filter.mpr ⟨xt1 (List.mem_of_getElem? (i := 92) rfl), rfl⟩
theorem xh_1_94 : Cond.lays "EscrowedVersions$Splitting" "EscrowedVersions$Splitting" "count" "I" ∈ xAll := List.mem_filter.mpr ⟨xt1 (List.mem_of_getElem? (i := 94) rfl), rfl⟩
theorem xh_1_97 : Cond.classLink "EscrowedVersions" 37 "EscrowedVersions$Version" ∈ xAll := List.mem_filter.mpr ⟨xt1 (List.mem_of_getElem? (i := 97) rfl), rfl⟩
theorem xh_1_99 : Cond.fieldLink "EscrowedVersions" 10 "EscrowedVersions" "coinRow" "LEscrowedVersions$CoinRow;" ∈ xAll := List.mem_filter.mpr ⟨xt1 (List.mem_of_getElem? (i := 99) rfl), rfl⟩
theorem xh_1_100 : Cond.fieldLink "EscrowedVersions" 19 "EscrowedVersions" "journal" "LEscrowedVersions$Journal;" ∈ xAll := List.mem_filter.mpr ⟨xt1 (List.mem_of_getElem? (i := 100) rfl), rfl⟩
theorem xh_1_101 : Cond.fieldLink "EscrowedVersions" 26 "EscrowedVersions" "envelope" "LEscrowedVersions$Envelope;" ∈ xAll := List.mem_filter.mpr ⟨xt1 (List.mem_of_getElem? (i := 101) rfl), rfl⟩
theorem xh_1_102 : Cond.fieldLink "EscrowedVersions" 33 "EscrowedVersions" "latest" "LEscrowedVersions$Splitting;" ∈ xAll := List.mem_filter.mpr ⟨xt1 (List.mem_of_getElem? (i := 102) rfl), rfl⟩
theorem xh_1_103 : Cond.fieldLink "EscrowedVersions" 39 "EscrowedVersions" "made" "[LEscrowedVersions$Version;" ∈ xAll := List.mem_filter.mpr ⟨xt1 (List.mem_of_getElem? (i := 103) rfl), rfl⟩
theorem xh_1_104 : Cond.fieldLink "EscrowedVersions" 43 "EscrowedVersions" "madeCount" "I" ∈ xAll := List.mem_filter.mpr ⟨xt1 (List.mem_of_getElem? (i := 104) rfl), rfl⟩
theorem xh_1_105 : Cond.fieldLink "EscrowedVersions" 47 "EscrowedVersions" "active" "LEscrowedVersions$Version;" ∈ xAll := List.mem_filter.mpr ⟨xt1 (List.mem_of_getElem? (i := 105) rfl), rfl⟩
theorem xh_1_106 : Cond.fieldLink "EscrowedVersions" 51 "EscrowedVersions" "counter" "I" ∈ xAll := List.mem_filter.mpr ⟨xt1 (List.mem_of_getElem? (i := 106) rfl), rfl⟩
theorem xh_1_107 : Cond.laysFinal "EscrowedVersions" "EscrowedVersions" "coinRow" "LEscrowedVersions$CoinRow;" ∈ xAll := List.mem_filter.mpr ⟨xt1 (List.mem_of_getElem? (i := 107) rfl), rfl⟩
theorem xh_1_109 : Cond.laysFinal "EscrowedVersions" "EscrowedVersions" "journal" "LEscrowedVersions$Journal;" ∈ xAll := List.mem_filter.mpr ⟨xt1 (List.mem_of_getElem? (i := 109) rfl), rfl⟩
theorem xh_1_111 : Cond.laysFinal "EscrowedVersions" "EscrowedVersions" "envelope" "LEscrowedVersions$Envelope;" ∈ xAll := List.mem_filter.mpr ⟨xt1 (List.mem_of_getElem? (i := 111) rfl), rfl⟩
theorem xh_1_113 : Cond.laysFinal "EscrowedVersions" "EscrowedVersions" "latest" "LEscrowedVersions$Splitting;" ∈ xAll := List.mem_filter.mpr ⟨xt1 (List.mem_of_getElem? (i := 113) rfl), rfl⟩
theorem xh_1_115 : Cond.laysFinal "EscrowedVersions" "EscrowedVersions" "made" "[LEscrowedVersions$Version;" ∈ xAll := List.mem_filter.mpr ⟨xt1 (List.mem_of_getElem? (i := 115) rfl), rfl⟩
theorem xh_1_117 : Cond.lays "EscrowedVersions" "EscrowedVersions" "madeCount" "I" ∈ xAll := List.mem_filter.mpr ⟨xt1 (List.mem_of_getElem? (i := 117) rfl), rfl⟩
theorem xh_1_119 : Cond.lays "EscrowedVersions" "EscrowedVersions" "active" "LEscrowedVersions$Version;" ∈ xAll := List.mem_filter.mpr ⟨xt1 (List.mem_of_getElem? (i := 119) rfl), rfl⟩
theorem xh_1_121 : Cond.lays "EscrowedVersions" "EscrowedVersions" "counter" "I" ∈ xAll := List.mem_filter.mpr ⟨xt1 (List.mem_of_getElem? (i := 121) rfl), rfl⟩
theorem xh_1_124 : Cond.methodLink "EscrowedVersionsLaw" 13 ⟨"EscrowedVersions", "coin", "(I)Z"⟩ ∈ xAll := List.mem_filter.mpr ⟨xt1 (List.mem_of_getElem? (i := 124) rfl), rfl⟩
theorem xh_1_125 : Cond.instanceMethod ⟨"EscrowedVersions", "coin", "(I)Z"⟩ ∈ xAll := List.mem_filter.mpr ⟨xt1 (List.mem_of_getElem? (i := 125) rfl), rfl⟩
theorem xh_1_126 : Cond.selects "EscrowedVersions" ⟨"EscrowedVersions", "coin", "(I)Z"⟩ ⟨"EscrowedVersions", "coin", "(I)Z"⟩ ∈ xAll := List.mem_filter.mpr ⟨xt1 (List.mem_of_getElem? (i := 126) rfl), rfl⟩
theorem xh_1_127 : Cond.code ⟨"EscrowedVersions", "coin", "(I)Z"⟩ prog_1_method_2_code 2 (some .boolean) ∈ xAll := List.mem_filter.mpr ⟨xt1 (List.mem_of_getElem? (i := 127) rfl), rfl⟩
theorem xh_1_128 : Cond.methodLink "EscrowedVersions" 54 ⟨"EscrowedVersions", "isByte", "(I)Z"⟩ ∈ xAll := List.mem_filter.mpr ⟨xt1 (List.mem_of_getElem? (i := 128) rfl), rfl⟩
theorem xh_1_129 : Cond.static ⟨"EscrowedVersions", "isByte", "(I)Z"⟩ ∈ xAll := List.mem_filter.mpr ⟨xt1 (List.mem_of_getElem? (i := 129) rfl), rfl⟩
theorem xh_1_130 : Cond.code ⟨"EscrowedVersions", "isByte", "(I)Z"⟩ prog_1_method_22_code 1 (some .boolean) ∈ xAll := List.mem_filter.mpr ⟨xt1 (List.mem_of_getElem? (i := 130) rfl), rfl⟩
theorem xh_1_131 : Cond.methodLink "EscrowedVersions" 61 ⟨"EscrowedVersions$CoinRow", "putLast", "(I)V"⟩ ∈ xAll := List.mem_filter.mpr ⟨xt1 (List.mem_of_getElem? (i := 131) rfl), rfl⟩
theorem xh_1_132 : Cond.instanceMethod ⟨"EscrowedVersions$CoinRow", "putLast", "(I)V"⟩ ∈ xAll := List.mem_filter.mpr ⟨xt1 (List.mem_of_getElem? (i := 132) rfl), rfl⟩
theorem xh_1_133 : Cond.selects "EscrowedVersions$CoinRow" ⟨"EscrowedVersions$CoinRow", "putLast", "(I)V"⟩ ⟨"EscrowedVersions$CoinRow", "putLast", "(I)V"⟩ ∈ xAll := List.mem_filter.mpr ⟨xt1 (List.mem_of_getElem? (i := 133) rfl), rfl⟩
theorem xh_1_134 : Cond.code ⟨"EscrowedVersions$CoinRow", "putLast", "(I)V"⟩ prog_2_method_2_code 2 none ∈ xAll := List.mem_filter.mpr ⟨xt1 (List.mem_of_getElem? (i := 134) rfl), rfl⟩
theorem xh_1_135 : Cond.methodLink "EscrowedVersionsLaw" 18 ⟨"EscrowedVersions", "coins", "()I"⟩ ∈ xAll := List.mem_filter.mpr ⟨xt1 (List.mem_of_getElem? (i := 135) rfl), rfl⟩
theorem xh_1_136 : Cond.instanceMethod ⟨"EscrowedVersions", "coins", "()I"⟩ ∈ xAll := List.mem_filter.mpr ⟨xt1 (List.mem_of_getElem? (i := 136) rfl), rfl⟩
theorem xh_1_137 : Cond.selects "EscrowedVersions" ⟨"EscrowedVersions", "coins", "()I"⟩ ⟨"EscrowedVersions", "coins", "()I"⟩ ∈ xAll := List.mem_filter.mpr ⟨xt1 (List.mem_of_getElem? (i := 137) rfl), rfl⟩
theorem xh_1_138 : Cond.code ⟨"EscrowedVersions", "coins", "()I"⟩ prog_1_method_3_code 1 (some .int) ∈ xAll := List.mem_filter.mpr ⟨xt1 (List.mem_of_getElem? (i := 138) rfl), rfl⟩
theorem xh_1_139 : Cond.methodLink "EscrowedVersionsLaw" 23 ⟨"EscrowedVersions", "times", "(II)I"⟩ ∈ xAll := List.mem_filter.mpr ⟨xt1 (List.mem_of_getElem? (i := 139) rfl), rfl⟩
theorem xh_1_140 : Cond.instanceMethod ⟨"EscrowedVersions", "times", "(II)I"⟩ ∈ xAll := List.mem_filter.mpr ⟨xt1 (List.mem_of_getElem? (i := 140) rfl), rfl⟩
theorem xh_1_141 : Cond.selects "EscrowedVersions" ⟨"EscrowedVersions", "times", "(II)I"⟩ ⟨"EscrowedVersions", "times", "(II)I"⟩ ∈ xAll := List.mem_filter.mpr ⟨xt1 (List.mem_of_getElem? (i := 141) rfl), rfl⟩
theorem xh_1_142 : Cond.code ⟨"EscrowedVersions", "times", "(II)I"⟩ prog_1_method_4_code 3 (some .int) ∈ xAll := List.mem_filter.mpr ⟨xt1 (List.mem_of_getElem? (i := 142) rfl), rfl⟩
theorem xh_1_143 : Cond.methodLink "EscrowedVersions" 65 ⟨"EscrowedVersions$Field", "product", "(II)I"⟩ ∈ xAll := List.mem_filter.mpr ⟨xt1 (List.mem_of_getElem? (i := 143) rfl), rfl⟩
theorem xh_1_144 : Cond.static ⟨"EscrowedVersions$Field", "product", "(II)I"⟩ ∈ xAll := List.mem_filter.mpr ⟨xt1 (List.mem_of_getElem? (i := 144) rfl), rfl⟩
theorem xh_1_145 : Cond.code ⟨"EscrowedVersions$Field", "product", "(II)I"⟩ prog_4_method_2_code 5 (some .int) ∈ xAll := List.mem_filter.mpr ⟨xt1 (List.mem_of_getElem? (i := 145) rfl), rfl⟩
theorem xh_1_146 : Cond.methodLink "EscrowedVersionsLaw" 28 ⟨"EscrowedVersions", "rotate", "()I"⟩ ∈ xAll := List.mem_filter.mpr ⟨xt1 (List.mem_of_getElem? (i := 146) rfl), rfl⟩
theorem xh_1_147 : Cond.instanceMethod ⟨"EscrowedVersions", "rotate", "()I"⟩ ∈ xAll := List.mem_filter.mpr ⟨xt1 (List.mem_of_getElem? (i := 147) rfl), rfl⟩
theorem xh_1_148 : Cond.selects "EscrowedVersions" ⟨"EscrowedVersions", "rotate", "()I"⟩ ⟨"EscrowedVersions", "rotate", "()I"⟩ ∈ xAll := List.mem_filter.mpr ⟨xt1 (List.mem_of_getElem? (i := 148) rfl), rfl⟩
theorem xh_1_149 : Cond.code ⟨"EscrowedVersions", "rotate", "()I"⟩ prog_1_method_5_code 2 (some .int) ∈ xAll := List.mem_filter.mpr ⟨xt1 (List.mem_of_getElem? (i := 149) rfl), rfl⟩
theorem xh_1_150 : Cond.methodLink "EscrowedVersions" 71 ⟨"EscrowedVersions$Journal", "hasRoomFor", "(I)Z"⟩ ∈ xAll := List.mem_filter.mpr ⟨xt1 (List.mem_of_getElem? (i := 150) rfl), rfl⟩
theorem xh_1_151 : Cond.instanceMethod ⟨"EscrowedVersions$Journal", "hasRoomFor", "(I)Z"⟩ ∈ xAll := List.mem_filter.mpr ⟨xt1 (List.mem_of_getElem? (i := 151) rfl), rfl⟩
theorem xh_1_152 : Cond.selects "EscrowedVersions$Journal" ⟨"EscrowedVersions$Journal", "hasRoomFor", "(I)Z"⟩ ⟨"EscrowedVersions$Journal", "hasRoomFor", "(I)Z"⟩ ∈ xAll := List.mem_filter.mpr ⟨xt1 (List.mem_of_getElem? (i := 152) rfl), rfl⟩
theorem xh_1_153 : Cond.code ⟨"EscrowedVersions$Journal", "hasRoomFor", "(I)Z"⟩ prog_5_method_2_code 2 (some .boolean) ∈ xAll := List.mem_filter.mpr ⟨xt1 (List.mem_of_getElem? (i := 153) rfl), rfl⟩
theorem xh_1_154 : Cond.instantiable "EscrowedVersions$Version" 10 ∈ xAll := List.mem_filter.mpr ⟨xt1 (List.mem_of_getElem? (i := 154) rfl), rfl⟩
theorem xh_1_155 : Cond.methodLink "EscrowedVersions" 80 ⟨"EscrowedVersions$CoinRow", "takeInt", "()I"⟩ ∈ xAll := List.mem_filter.mpr ⟨xt1 (List.mem_of_getElem? (i := 155) rfl), rfl⟩
theorem xh_1_156 : Cond.instanceMethod ⟨"EscrowedVersions$CoinRow", "takeInt", "()I"⟩ ∈ xAll := List.mem_filter.mpr ⟨xt1 (List.mem_of_getElem? (i := 156) rfl), rfl⟩
theorem xh_1_157 : Cond.selects "EscrowedVersions$CoinRow" ⟨"EscrowedVersions$CoinRow", "takeInt", "()I"⟩ ⟨"EscrowedVersions$CoinRow", "takeInt", "()I"⟩ ∈ xAll := List.mem_filter.mpr ⟨xt1 (List.mem_of_getElem? (i := 157) rfl), rfl⟩
theorem xh_1_158 : Cond.code ⟨"EscrowedVersions$CoinRow", "takeInt", "()I"⟩ prog_2_method_4_code 3 (some .int) ∈ xAll := List.mem_filter.mpr ⟨xt1 (List.mem_of_getElem? (i := 158) rfl), rfl⟩
theorem xh_1_159 : Cond.methodLink "EscrowedVersions$CoinRow" 22 ⟨"EscrowedVersions$CoinRow", "take", "()I"⟩ ∈ xAll := List.mem_filter.mpr ⟨xt1 (List.mem_of_getElem? (i := 159) rfl), rfl⟩
theorem xh_1_160 : Cond.instanceMethod ⟨"EscrowedVersions$CoinRow", "take", "()I"⟩ ∈ xAll := List.mem_filter.mpr ⟨xt1 (List.mem_of_getElem? (i := 160) rfl), rfl⟩
theorem xh_1_161 : Cond.selects "EscrowedVersions$CoinRow" ⟨"EscrowedVersions$CoinRow", "take", "()I"⟩ ⟨"EscrowedVersions$CoinRow", "take", "()I"⟩ ∈ xAll := List.mem_filter.mpr ⟨xt1 (List.mem_of_getElem? (i := 161) rfl), rfl⟩
theorem xh_1_162 : Cond.code ⟨"EscrowedVersions$CoinRow", "take", "()I"⟩ prog_2_method_3_code 2 (some .int) ∈ xAll := List.mem_filter.mpr ⟨xt1 (List.mem_of_getElem? (i := 162) rfl), rfl⟩
theorem xh_1_163 : Cond.methodLink "EscrowedVersions" 84 ⟨"EscrowedVersions$Version", "<init>", "(II)V"⟩ ∈ xAll := List.mem_filter.mpr ⟨xt1 (List.mem_of_getElem? (i := 163) rfl), rfl⟩
theorem xh_1_164 : Cond.instanceMethod ⟨"EscrowedVersions$Version", "<init>", "(II)V"⟩ ∈ xAll := List.mem_filter.mpr ⟨xt1 (List.mem_of_getElem? (i := 164) rfl), rfl⟩
theorem xh_1_165 : Cond.code ⟨"EscrowedVersions$Version", "<init>", "(II)V"⟩ prog_7_method_1_code 3 none ∈ xAll := List.mem_filter.mpr ⟨xt1 (List.mem_of_getElem? (i := 165) rfl), rfl⟩
theorem xh_1_166 : Cond.methodLink "EscrowedVersions$Version" 3 ⟨"java/lang/Object", "<init>", "()V"⟩ ∈ xAll := List.mem_filter.mpr ⟨xt1 (List.mem_of_getElem? (i := 166) rfl), rfl⟩
theorem xh_1_167 : Cond.fieldLink "EscrowedVersions$Version" 38 "EscrowedVersions$Version" "number" "I" ∈ xAll := List.mem_filter.mpr ⟨xt1 (List.mem_of_getElem? (i := 167) rfl), rfl⟩
theorem xh_1_168 : Cond.fieldLinkNest "EscrowedVersions" 77 "EscrowedVersions$Version" "number" "I" "EscrowedVersions" ∈ xNest := List.mem_filter.mpr ⟨xt1 (List.mem_of_getElem? (i := 168) rfl), rfl⟩
theorem xh_1_169 : Cond.fieldLink "EscrowedVersions$Version" 9 "EscrowedVersions$Version" "digests" "[I" ∈ xAll := List.mem_filter.mpr ⟨xt1 (List.mem_of_getElem? (i := 169) rfl), rfl⟩
theorem xh_1_170 : Cond.fieldLink "EscrowedVersions$Version" 15 "EscrowedVersions$Version" "givenShares" "[I" ∈ xAll := List.mem_filter.mpr ⟨xt1 (List.mem_of_getElem? (i := 170) rfl), rfl⟩
theorem xh_1_171 : Cond.fieldLink "EscrowedVersions$Version" 18 "EscrowedVersions$Version" "state" "I" ∈ xAll := List.mem_filter.mpr ⟨xt1 (List.mem_of_getElem? (i := 171) rfl), rfl⟩
theorem xh_1_172 : Cond.fieldLinkNest "EscrowedVersions" 74 "EscrowedVersions$Version" "state" "I" "EscrowedVersions" ∈ xNest := List.mem_filter.mpr ⟨xt1 (List.mem_of_getElem? (i := 172) rfl), rfl⟩
theorem xh_1_173 : Cond.fieldLink "EscrowedVersions$Version" 41 "EscrowedVersions$Version" "secret" "I" ∈ xAll := List.mem_filter.mpr ⟨xt1 (List.mem_of_getElem? (i := 173) rfl), rfl⟩
theorem xh_1_174 : Cond.fieldLinkNest "EscrowedVersions" 106 "EscrowedVersions$Version" "secret" "I" "EscrowedVersions" ∈ xNest := List.mem_filter.mpr ⟨xt1 (List.mem_of_getElem? (i := 174) rfl), rfl⟩
theorem xh_1_175 : Cond.fieldLink "EscrowedVersions$Version" 22 "EscrowedVersions$Version" "locked" "Z" ∈ xAll := List.mem_filter.mpr ⟨xt1 (List.mem_of_getElem? (i := 175) rfl), rfl⟩
theorem xh_1_176 : Cond.fieldLinkNest "EscrowedVersions" 102 "EscrowedVersions$Version" "locked" "Z" "EscrowedVersions" ∈ xNest := List.mem_filter.mpr ⟨xt1 (List.mem_of_getElem? (i := 176) rfl), rfl⟩
theorem xh_1_177 : Cond.fieldLink "EscrowedVersions$Version" 26 "EscrowedVersions$Version" "threshold" "I" ∈ xAll := List.mem_filter.mpr ⟨xt1 (List.mem_of_getElem? (i := 177) rfl), rfl⟩
theorem xh_1_178 : Cond.fieldLinkNest "EscrowedVersions" 125 "EscrowedVersions$Version" "threshold" "I" "EscrowedVersions" ∈ xNest := List.mem_filter.mpr ⟨xt1 (List.mem_of_getElem? (i := 178) rfl), rfl⟩
theorem xh_1_179 : Cond.fieldLink "EscrowedVersions$Version" 29 "EscrowedVersions$Version" "shareCount" "I" ∈ xAll := List.mem_filter.mpr ⟨xt1 (List.mem_of_getElem? (i := 179) rfl), rfl⟩
theorem xh_1_180 : Cond.fieldLink "EscrowedVersions$Version" 32 "EscrowedVersions$Version" "givenSet" "I" ∈ xAll := List.mem_filter.mpr ⟨xt1 (List.mem_of_getElem? (i := 180) rfl), rfl⟩
theorem xh_1_181 : Cond.fieldLinkNest "EscrowedVersions" 179 "EscrowedVersions$Version" "givenSet" "I" "EscrowedVersions" ∈ xNest := List.mem_filter.mpr ⟨xt1 (List.mem_of_getElem? (i := 181) rfl), rfl⟩
theorem xh_1_182 : Cond.fieldLink "EscrowedVersions$Version" 35 "EscrowedVersions$Version" "givenCount" "I" ∈ xAll := List.mem_filter.mpr ⟨xt1 (List.mem_of_getElem? (i := 182) rfl), rfl⟩
theorem xh_1_183 : Cond.fieldLinkNest "EscrowedVersions" 134 "EscrowedVersions$Version" "givenCount" "I" "EscrowedVersions" ∈ xNest := List.mem_filter.mpr ⟨xt1 (List.mem_of_getElem? (i := 183) rfl), rfl⟩
theorem xh_1_184 : Cond.laysFinal "EscrowedVersions$Version" "EscrowedVersions$Version" "number" "I" ∈ xAll := List.mem_filter.mpr ⟨xt1 (List.mem_of_getElem? (i := 184) rfl), rfl⟩
theorem xh_1_186 : Cond.laysFinal "EscrowedVersions$Version" "EscrowedVersions$Version" "digests" "[I" ∈ xAll := List.mem_filter.mpr ⟨xt1 (List.mem_of_getElem? (i := 186) rfl), rfl⟩
theorem xh_1_188 : Cond.laysFinal "EscrowedVersions$Version" "EscrowedVersions$Version" "givenShares" "[I" ∈ xAll := List.mem_filter.mpr ⟨xt1 (List.mem_of_getElem? (i := 188) rfl), rfl⟩
theorem xh_1_190 : Cond.lays "EscrowedVersions$Version" "EscrowedVersions$Version" "state" "I" ∈ xAll := List.mem_filter.mpr ⟨xt1 (List.mem_of_getElem? (i := 190) rfl), rfl⟩
theorem xh_1_192 : Cond.lays "EscrowedVersions$Version" "EscrowedVersions$Version" "secret" "I" ∈ xAll := List.mem_filter.mpr ⟨xt1 (List.mem_of_getElem? (i := 192) rfl), rfl⟩
theorem xh_1_194 : Cond.lays "EscrowedVersions$Version" "EscrowedVersions$Version" "locked" "Z" ∈ xAll := List.mem_filter.mpr ⟨xt1 (List.mem_of_getElem? (i := 194) rfl), rfl⟩
theorem xh_1_196 : Cond.lays "EscrowedVersions$Version" "EscrowedVersions$Version" "threshold" "I" ∈ xAll := List.mem_filter.mpr ⟨xt1 (List.mem_of_getElem? (i := 196) rfl), rfl⟩
theorem xh_1_198 : Cond.lays "EscrowedVersions$Version" "EscrowedVersions$Version" "shareCount" "I" ∈ xAll := List.mem_filter.mpr ⟨xt1 (List.mem_of_getElem? (i := 198) rfl), rfl⟩
theorem xh_1_200 : Cond.lays "EscrowedVersions$Version" "EscrowedVersions$Version" "givenSet" "I" ∈ xAll := List.mem_filter.mpr ⟨xt1 (List.mem_of_getElem? (i := 200) rfl), rfl⟩
theorem xh_1_202 : Cond.lays "EscrowedVersions$Version" "EscrowedVersions$Version" "givenCount" "I" ∈ xAll := List.mem_filter.mpr ⟨xt1 (List.mem_of_getElem? (i := 202) rfl), rfl⟩
theorem xh_1_205 : Cond.methodLink "EscrowedVersions" 87 ⟨"EscrowedVersions$Journal", "write", "(III)V"⟩ ∈ xAll := List.mem_filter.mpr ⟨xt1 (List.mem_of_getElem? (i := 205) rfl), rfl⟩
theorem xh_1_206 : Cond.instanceMethod ⟨"EscrowedVersions$Journal", "write", "(III)V"⟩ ∈ xAll := List.mem_filter.mpr ⟨xt1 (List.mem_of_getElem? (i := 206) rfl), rfl⟩
theorem xh_1_207 : Cond.selects "EscrowedVersions$Journal" ⟨"EscrowedVersions$Journal", "write", "(III)V"⟩ ⟨"EscrowedVersions$Journal", "write", "(III)V"⟩ ∈ xAll := List.mem_filter.mpr ⟨xt1 (List.mem_of_getElem? (i := 207) rfl), rfl⟩
theorem xh_1_208 : Cond.code ⟨"EscrowedVersions$Journal", "write", "(III)V"⟩ prog_5_method_3_code 5 none ∈ xAll := List.mem_filter.mpr ⟨xt1 (List.mem_of_getElem? (i := 208) rfl), rfl⟩
theorem xh_1_209 : Cond.methodLinkNest "EscrowedVersions$Journal" 28 ⟨"EscrowedVersions", "mix", "(II)I"⟩ "EscrowedVersions" ∈ xNest := List.mem_filter.mpr ⟨xt1 (List.mem_of_getElem? (i := 209) rfl), rfl⟩
theorem xh_1_210 : Cond.static ⟨"EscrowedVersions", "mix", "(II)I"⟩ ∈ xAll := List.mem_filter.mpr ⟨xt1 (List.mem_of_getElem? (i := 210) rfl), rfl⟩
theorem xh_1_211 : Cond.code ⟨"EscrowedVersions", "mix", "(II)I"⟩ prog_1_method_24_code 3 (some .int) ∈ xAll := List.mem_filter.mpr ⟨xt1 (List.mem_of_getElem? (i := 211) rfl), rfl⟩
theorem xh_1_212 : Cond.constant "EscrowedVersions" 195 668265263 ∈ xAll := List.mem_filter.mpr ⟨xt1 (List.mem_of_getElem? (i := 212) rfl), rfl⟩
theorem xh_1_213 : Cond.constant "EscrowedVersions" 196 374761393 ∈ xAll := List.mem_filter.mpr ⟨xt1 (List.mem_of_getElem? (i := 213) rfl), rfl⟩
theorem xh_1_214 : Cond.methodLink "EscrowedVersionsLaw" 32 ⟨"EscrowedVersions", "destroy", "(I)I"⟩ ∈ xAll := List.mem_filter.mpr ⟨xt1 (List.mem_of_getElem? (i := 214) rfl), rfl⟩
theorem xh_1_215 : Cond.instanceMethod ⟨"EscrowedVersions", "destroy", "(I)I"⟩ ∈ xAll := List.mem_filter.mpr ⟨xt1 (List.mem_of_getElem? (i := 215) rfl), rfl⟩
theorem xh_1_216 : Cond.selects "EscrowedVersions" ⟨"EscrowedVersions", "destroy", "(I)I"⟩ ⟨"EscrowedVersions", "destroy", "(I)I"⟩ ∈ xAll := List.mem_filter.mpr ⟨xt1 (List.mem_of_getElem? (i := 216) rfl), rfl⟩
theorem xh_1_217 : Cond.code ⟨"EscrowedVersions", "destroy", "(I)I"⟩ prog_1_method_6_code 4 (some .int) ∈ xAll := List.mem_filter.mpr ⟨xt1 (List.mem_of_getElem? (i := 217) rfl), rfl⟩
theorem xh_1_218 : Cond.methodLink "EscrowedVersions" 91 ⟨"EscrowedVersions", "find", "(I)LEscrowedVersions$Version;"⟩ ∈ xAll := List.mem_filter.mpr ⟨xt1 (List.mem_of_getElem? (i := 218) rfl), rfl⟩
theorem xh_1_220 : Cond.instanceMethod ⟨"EscrowedVersions", "find", "(I)LEscrowedVersions$Version;"⟩ ∈ xAll := List.mem_filter.mpr ⟨xt1 (List.mem_of_getElem? (i := 220) rfl), rfl⟩
theorem xh_1_221 : Cond.code ⟨"EscrowedVersions", "find", "(I)LEscrowedVersions$Version;"⟩ prog_1_method_21_code 2 (some (.object "EscrowedVersions$Version")) ∈ xAll := List.mem_filter.mpr ⟨xt1 (List.mem_of_getElem? (i := 221) rfl), rfl⟩
theorem xh_1_222 : Cond.methodLink "EscrowedVersions" 95 ⟨"EscrowedVersions$Version", "forgetAll", "()V"⟩ ∈ xAll := List.mem_filter.mpr ⟨xt1 (List.mem_of_getElem? (i := 222) rfl), rfl⟩
theorem xh_1_223 : Cond.instanceMethod ⟨"EscrowedVersions$Version", "forgetAll", "()V"⟩ ∈ xAll := List.mem_filter.mpr ⟨xt1 (List.mem_of_getElem? (i := 223) rfl), rfl⟩
theorem xh_1_224 : Cond.selects "EscrowedVersions$Version" ⟨"EscrowedVersions$Version", "forgetAll", "()V"⟩ ⟨"EscrowedVersions$Version", "forgetAll", "()V"⟩ ∈ xAll := List.mem_filter.mpr ⟨xt1 (List.mem_of_getElem? (i := 224) rfl), rfl⟩
theorem xh_1_225 : Cond.code ⟨"EscrowedVersions$Version", "forgetAll", "()V"⟩ prog_7_method_9_code 1 none ∈ xAll := List.mem_filter.mpr ⟨xt1 (List.mem_of_getElem? (i := 225) rfl), rfl⟩
theorem xh_1_226 : Cond.methodLink "EscrowedVersions$Version" 44 ⟨"java/util/Arrays", "fill", "([II)V"⟩ ∈ xAll := List.mem_filter.mpr ⟨xt1 (List.mem_of_getElem? (i := 226) rfl), rfl⟩
theorem xh_1_227 : Cond.static ⟨"java/util/Arrays", "fill", "([II)V"⟩ ∈ xAll := List.mem_filter.mpr ⟨xt1 (List.mem_of_getElem? (i := 227) rfl), rfl⟩
theorem xh_1_228 : Cond.code ⟨"java/util/Arrays", "fill", "([II)V"⟩ prog_10_method_103_code 4 none ∈ xAll := List.mem_filter.mpr ⟨xt1 (List.mem_of_getElem? (i := 228) rfl), rfl⟩
theorem xh_1_229 : Cond.methodLink "EscrowedVersions$Version" 59 ⟨"EscrowedVersions$Version", "forgetGiven", "()V"⟩ ∈ xAll := List.mem_filter.mpr ⟨xt1 (List.mem_of_getElem? (i := 229) rfl), rfl⟩
theorem xh_1_231 : Cond.instanceMethod ⟨"EscrowedVersions$Version", "forgetGiven", "()V"⟩ ∈ xAll := List.mem_filter.mpr ⟨xt1 (List.mem_of_getElem? (i := 231) rfl), rfl⟩
theorem xh_1_232 : Cond.code ⟨"EscrowedVersions$Version", "forgetGiven", "()V"⟩ prog_7_method_10_code 1 none ∈ xAll := List.mem_filter.mpr ⟨xt1 (List.mem_of_getElem? (i := 232) rfl), rfl⟩
theorem xh_1_233 : Cond.methodLink "EscrowedVersionsLaw" 37 ⟨"EscrowedVersions", "split", "(III)I"⟩ ∈ xAll := List.mem_filter.mpr ⟨xt1 (List.mem_of_getElem? (i := 233) rfl), rfl⟩
theorem xh_1_234 : Cond.instanceMethod ⟨"EscrowedVersions", "split", "(III)I"⟩ ∈ xAll := List.mem_filter.mpr ⟨xt1 (List.mem_of_getElem? (i := 234) rfl), rfl⟩
theorem xh_1_235 : Cond.selects "EscrowedVersions" ⟨"EscrowedVersions", "split", "(III)I"⟩ ⟨"EscrowedVersions", "split", "(III)I"⟩ ∈ xAll := List.mem_filter.mpr ⟨xt1 (List.mem_of_getElem? (i := 235) rfl), rfl⟩
theorem xh_1_236 : Cond.code ⟨"EscrowedVersions", "split", "(III)I"⟩ prog_1_method_7_code 5 (some .int) ∈ xAll := List.mem_filter.mpr ⟨xt1 (List.mem_of_getElem? (i := 236) rfl), rfl⟩
theorem xh_1_237 : Cond.methodLink "EscrowedVersions" 98 ⟨"EscrowedVersions", "isEscrow", "(II)Z"⟩ ∈ xAll := List.mem_filter.mpr ⟨xt1 (List.mem_of_getElem? (i := 237) rfl), rfl⟩
theorem xh_1_238 : Cond.static ⟨"EscrowedVersions", "isEscrow", "(II)Z"⟩ ∈ xAll := List.mem_filter.mpr ⟨xt1 (List.mem_of_getElem? (i := 238) rfl), rfl⟩
theorem xh_1_239 : Cond.code ⟨"EscrowedVersions", "isEscrow", "(II)Z"⟩ prog_1_method_23_code 2 (some .boolean) ∈ xAll := List.mem_filter.mpr ⟨xt1 (List.mem_of_getElem? (i := 239) rfl), rfl⟩
theorem xh_2_0 : Cond.methodLink "EscrowedVersions" 109 ⟨"EscrowedVersions$Splitting", "make", "(IIILEscrowedVersions$CoinRow;)V"⟩ ∈ xAll := List.mem_filter.mpr ⟨xt2 (List.mem_of_getElem? (i := 0) rfl), rfl⟩
theorem xh_2_1 : Cond.instanceMethod ⟨"EscrowedVersions$Splitting", "make", "(IIILEscrowedVersions$CoinRow;)V"⟩ ∈ xAll := List.mem_filter.mpr ⟨xt2 (List.mem_of_getElem? (i := 1) rfl), rfl⟩
theorem xh_2_2 : Cond.selects "EscrowedVersions$Splitting" ⟨"EscrowedVersions$Splitting", "make", "(IIILEscrowedVersions$CoinRow;)V"⟩ ⟨"EscrowedVersions$Splitting", "make", "(IIILEscrowedVersions$CoinRow;)V"⟩ ∈ xAll := List.mem_filter.mpr ⟨xt2 (List.mem_of_getElem? (i := 2) rfl), rfl⟩
theorem xh_2_3 : Cond.code ⟨"EscrowedVersions$Splitting", "make", "(IIILEscrowedVersions$CoinRow;)V"⟩ prog_6_method_2_code 7 none ∈ xAll := List.mem_filter.mpr ⟨xt2 (List.mem_of_getElem? (i := 3) rfl), rfl⟩
theorem xh_2_4 : Cond.methodLink "EscrowedVersions$Splitting" 22 ⟨"java/util/Arrays", "fill", "([II)V"⟩ ∈ xAll := List.mem_filter.mpr ⟨xt2 (List.mem_of_getElem? (i := 4) rfl), rfl⟩
theorem xh_2_5 : Cond.methodLink "EscrowedVersions$Splitting" 28 ⟨"EscrowedVersions$CoinRow", "take", "()I"⟩ ∈ xAll := List.mem_filter.mpr ⟨xt2 (List.mem_of_getElem? (i := 5) rfl), rfl⟩
theorem xh_2_6 : Cond.methodLink "EscrowedVersions$Splitting" 34 ⟨"EscrowedVersions$Splitting", "valueAt", "(II)I"⟩ ∈ xAll := List.mem_filter.mpr ⟨xt2 (List.mem_of_getElem? (i := 6) rfl), rfl⟩
theorem xh_2_8 : Cond.instanceMethod ⟨"EscrowedVersions$Splitting", "valueAt", "(II)I"⟩ ∈ xAll := List.mem_filter.mpr ⟨xt2 (List.mem_of_getElem? (i := 8) rfl), rfl⟩
theorem xh_2_9 : Cond.code ⟨"EscrowedVersions$Splitting", "valueAt", "(II)I"⟩ prog_6_method_3_code 5 (some .int) ∈ xAll := List.mem_filter.mpr ⟨xt2 (List.mem_of_getElem? (i := 9) rfl), rfl⟩
theorem xh_2_10 : Cond.methodLink "EscrowedVersions$Splitting" 38 ⟨"EscrowedVersions$Field", "product", "(II)I"⟩ ∈ xAll := List.mem_filter.mpr ⟨xt2 (List.mem_of_getElem? (i := 10) rfl), rfl⟩
theorem xh_2_11 : Cond.methodLink "EscrowedVersions" 113 ⟨"EscrowedVersions$Version", "takeEscrow", "(IILEscrowedVersions$Splitting;)V"⟩ ∈ xAll := List.mem_filter.mpr ⟨xt2 (List.mem_of_getElem? (i := 11) rfl), rfl⟩
theorem xh_2_12 : Cond.instanceMethod ⟨"EscrowedVersions$Version", "takeEscrow", "(IILEscrowedVersions$Splitting;)V"⟩ ∈ xAll := List.mem_filter.mpr ⟨xt2 (List.mem_of_getElem? (i := 12) rfl), rfl⟩
theorem xh_2_13 : Cond.selects "EscrowedVersions$Version" ⟨"EscrowedVersions$Version", "takeEscrow", "(IILEscrowedVersions$Splitting;)V"⟩ ⟨"EscrowedVersions$Version", "takeEscrow", "(IILEscrowedVersions$Splitting;)V"⟩ ∈ xAll := List.mem_filter.mpr ⟨xt2 (List.mem_of_getElem? (i := 13) rfl), rfl⟩
theorem xh_2_14 : Cond.code ⟨"EscrowedVersions$Version", "takeEscrow", "(IILEscrowedVersions$Splitting;)V"⟩ prog_7_method_3_code 5 none ∈ xAll := List.mem_filter.mpr ⟨xt2 (List.mem_of_getElem? (i := 14) rfl), rfl⟩
theorem xh_2_15 : Cond.methodLinkNest "EscrowedVersions$Version" 55 ⟨"EscrowedVersions", "digest", "(II)I"⟩ "EscrowedVersions" ∈ xNest := List.mem_filter.mpr ⟨xt2 (List.mem_of_getElem? (i := 15) rfl), rfl⟩
theorem xh_2_16 : Cond.static ⟨"EscrowedVersions", "digest", "(II)I"⟩ ∈ xAll := List.mem_filter.mpr ⟨xt2 (List.mem_of_getElem? (i := 16) rfl), rfl⟩
theorem xh_2_17 : Cond.code ⟨"EscrowedVersions", "digest", "(II)I"⟩ prog_1_method_25_code 2 (some .int) ∈ xAll := List.mem_filter.mpr ⟨xt2 (List.mem_of_getElem? (i := 17) rfl), rfl⟩
theorem xh_2_18 : Cond.methodLink "EscrowedVersions" 197 ⟨"EscrowedVersions", "mix", "(II)I"⟩ ∈ xAll := List.mem_filter.mpr ⟨xt2 (List.mem_of_getElem? (i := 18) rfl), rfl⟩
theorem xh_2_19 : Cond.methodLink "EscrowedVersions" 117 ⟨"EscrowedVersions$Version", "escrow", "()I"⟩ ∈ xAll := List.mem_filter.mpr ⟨xt2 (List.mem_of_getElem? (i := 19) rfl), rfl⟩
theorem xh_2_20 : Cond.instanceMethod ⟨"EscrowedVersions$Version", "escrow", "()I"⟩ ∈ xAll := List.mem_filter.mpr ⟨xt2 (List.mem_of_getElem? (i := 20) rfl), rfl⟩
theorem xh_2_21 : Cond.selects "EscrowedVersions$Version" ⟨"EscrowedVersions$Version", "escrow", "()I"⟩ ⟨"EscrowedVersions$Version", "escrow", "()I"⟩ ∈ xAll := List.mem_filter.mpr ⟨xt2 (List.mem_of_getElem? (i := 21) rfl), rfl⟩
theorem xh_2_22 : Cond.code ⟨"EscrowedVersions$Version", "escrow", "()I"⟩ prog_7_method_2_code 1 (some .int) ∈ xAll := List.mem_filter.mpr ⟨xt2 (List.mem_of_getElem? (i := 22) rfl), rfl⟩
theorem xh_2_23 : Cond.methodLink "EscrowedVersionsLaw" 42 ⟨"EscrowedVersions", "share", "(I)I"⟩ ∈ xAll := List.mem_filter.mpr ⟨xt2 (List.mem_of_getElem? (i := 23) rfl), rfl⟩
theorem xh_2_24 : Cond.instanceMethod ⟨"EscrowedVersions", "share", "(I)I"⟩ ∈ xAll := List.mem_filter.mpr ⟨xt2 (List.mem_of_getElem? (i := 24) rfl), rfl⟩
theorem xh_2_25 : Cond.selects "EscrowedVersions" ⟨"EscrowedVersions", "share", "(I)I"⟩ ⟨"EscrowedVersions", "share", "(I)I"⟩ ∈ xAll := List.mem_filter.mpr ⟨xt2 (List.mem_of_getElem? (i := 25) rfl), rfl⟩
theorem xh_2_26 : Cond.code ⟨"EscrowedVersions", "share", "(I)I"⟩ prog_1_method_8_code 2 (some .int) ∈ xAll := List.mem_filter.mpr ⟨xt2 (List.mem_of_getElem? (i := 26) rfl), rfl⟩
theorem xh_2_27 : Cond.methodLink "EscrowedVersionsLaw" 46 ⟨"EscrowedVersions", "lock", "(I)I"⟩ ∈ xAll := List.mem_filter.mpr ⟨xt2 (List.mem_of_getElem? (i := 27) rfl), rfl⟩
theorem xh_2_28 : Cond.instanceMethod ⟨"EscrowedVersions", "lock", "(I)I"⟩ ∈ xAll := List.mem_filter.mpr ⟨xt2 (List.mem_of_getElem? (i := 28) rfl), rfl⟩
theorem xh_2_29 : Cond.selects "EscrowedVersions" ⟨"EscrowedVersions", "lock", "(I)I"⟩ ⟨"EscrowedVersions", "lock", "(I)I"⟩ ∈ xAll := List.mem_filter.mpr ⟨xt2 (List.mem_of_getElem? (i := 29) rfl), rfl⟩
theorem xh_2_30 : Cond.code ⟨"EscrowedVersions", "lock", "(I)I"⟩ prog_1_method_9_code 3 (some .int) ∈ xAll := List.mem_filter.mpr ⟨xt2 (List.mem_of_getElem? (i := 30) rfl), rfl⟩
theorem xh_2_31 : Cond.methodLink "EscrowedVersions" 128 ⟨"EscrowedVersions$Version", "close", "()V"⟩ ∈ xAll := List.mem_filter.mpr ⟨xt2 (List.mem_of_getElem? (i := 31) rfl), rfl⟩
theorem xh_2_32 : Cond.instanceMethod ⟨"EscrowedVersions$Version", "close", "()V"⟩ ∈ xAll := List.mem_filter.mpr ⟨xt2 (List.mem_of_getElem? (i := 32) rfl), rfl⟩
theorem xh_2_33 : Cond.selects "EscrowedVersions$Version" ⟨"EscrowedVersions$Version", "close", "()V"⟩ ⟨"EscrowedVersions$Version", "close", "()V"⟩ ∈ xAll := List.mem_filter.mpr ⟨xt2 (List.mem_of_getElem? (i := 33) rfl), rfl⟩
theorem xh_2_34 : Cond.code ⟨"EscrowedVersions$Version", "close", "()V"⟩ prog_7_method_4_code 1 none ∈ xAll := List.mem_filter.mpr ⟨xt2 (List.mem_of_getElem? (i := 34) rfl), rfl⟩
theorem xh_2_35 : Cond.methodLink "EscrowedVersionsLaw" 50 ⟨"EscrowedVersions", "give", "(III)I"⟩ ∈ xAll := List.mem_filter.mpr ⟨xt2 (List.mem_of_getElem? (i := 35) rfl), rfl⟩
theorem xh_2_36 : Cond.instanceMethod ⟨"EscrowedVersions", "give", "(III)I"⟩ ∈ xAll := List.mem_filter.mpr ⟨xt2 (List.mem_of_getElem? (i := 36) rfl), rfl⟩
theorem xh_2_37 : Cond.selects "EscrowedVersions" ⟨"EscrowedVersions", "give", "(III)I"⟩ ⟨"EscrowedVersions", "give", "(III)I"⟩ ∈ xAll := List.mem_filter.mpr ⟨xt2 (List.mem_of_getElem? (i := 37) rfl), rfl⟩
theorem xh_2_38 : Cond.code ⟨"EscrowedVersions", "give", "(III)I"⟩ prog_1_method_10_code 6 (some .int) ∈ xAll := List.mem_filter.mpr ⟨xt2 (List.mem_of_getElem? (i := 38) rfl), rfl⟩
theorem xh_2_39 : Cond.methodLink "EscrowedVersions" 131 ⟨"EscrowedVersions$Version", "fits", "(II)Z"⟩ ∈ xAll := List.mem_filter.mpr ⟨xt2 (List.mem_of_getElem? (i := 39) rfl), rfl⟩
theorem xh_2_40 : Cond.instanceMethod ⟨"EscrowedVersions$Version", "fits", "(II)Z"⟩ ∈ xAll := List.mem_filter.mpr ⟨xt2 (List.mem_of_getElem? (i := 40) rfl), rfl⟩
theorem xh_2_41 : Cond.selects "EscrowedVersions$Version" ⟨"EscrowedVersions$Version", "fits", "(II)Z"⟩ ⟨"EscrowedVersions$Version", "fits", "(II)Z"⟩ ∈ xAll := List.mem_filter.mpr ⟨xt2 (List.mem_of_getElem? (i := 41) rfl), rfl⟩
theorem xh_2_42 : Cond.code ⟨"EscrowedVersions$Version", "fits", "(II)Z"⟩ prog_7_method_5_code 3 (some .boolean) ∈ xAll := List.mem_filter.mpr ⟨xt2 (List.mem_of_getElem? (i := 42) rfl), rfl⟩
theorem xh_2_43 : Cond.methodLink "EscrowedVersions" 137 ⟨"EscrowedVersions$Version", "isGiven", "(I)Z"⟩ ∈ xAll := List.mem_filter.mpr ⟨xt2 (List.mem_of_getElem? (i := 43) rfl), rfl⟩
theorem xh_2_44 : Cond.instanceMethod ⟨"EscrowedVersions$Version", "isGiven", "(I)Z"⟩ ∈ xAll := List.mem_filter.mpr ⟨xt2 (List.mem_of_getElem? (i := 44) rfl), rfl⟩
theorem xh_2_45 : Cond.selects "EscrowedVersions$Version" ⟨"EscrowedVersions$Version", "isGiven", "(I)Z"⟩ ⟨"EscrowedVersions$Version", "isGiven", "(I)Z"⟩ ∈ xAll := List.mem_filter.mpr ⟨xt2 (List.mem_of_getElem? (i := 45) rfl), rfl⟩
theorem xh_2_46 : Cond.code ⟨"EscrowedVersions$Version", "isGiven", "(I)Z"⟩ prog_7_method_6_code 2 (some .boolean) ∈ xAll := List.mem_filter.mpr ⟨xt2 (List.mem_of_getElem? (i := 46) rfl), rfl⟩
theorem xh_2_47 : Cond.methodLink "EscrowedVersions" 140 ⟨"EscrowedVersions$Version", "accept", "(II)V"⟩ ∈ xAll := List.mem_filter.mpr ⟨xt2 (List.mem_of_getElem? (i := 47) rfl), rfl⟩
theorem xh_2_48 : Cond.instanceMethod ⟨"EscrowedVersions$Version", "accept", "(II)V"⟩ ∈ xAll := List.mem_filter.mpr ⟨xt2 (List.mem_of_getElem? (i := 48) rfl), rfl⟩
theorem xh_2_49 : Cond.selects "EscrowedVersions$Version" ⟨"EscrowedVersions$Version", "accept", "(II)V"⟩ ⟨"EscrowedVersions$Version", "accept", "(II)V"⟩ ∈ xAll := List.mem_filter.mpr ⟨xt2 (List.mem_of_getElem? (i := 49) rfl), rfl⟩
theorem xh_2_50 : Cond.code ⟨"EscrowedVersions$Version", "accept", "(II)V"⟩ prog_7_method_7_code 3 none ∈ xAll := List.mem_filter.mpr ⟨xt2 (List.mem_of_getElem? (i := 50) rfl), rfl⟩
theorem xh_2_51 : Cond.methodLink "EscrowedVersions" 143 ⟨"EscrowedVersions$Version", "open", "()V"⟩ ∈ xAll := List.mem_filter.mpr ⟨xt2 (List.mem_of_getElem? (i := 51) rfl), rfl⟩
theorem xh_2_52 : Cond.instanceMethod ⟨"EscrowedVersions$Version", "open", "()V"⟩ ∈ xAll := List.mem_filter.mpr ⟨xt2 (List.mem_of_getElem? (i := 52) rfl), rfl⟩
theorem xh_2_53 : Cond.selects "EscrowedVersions$Version" ⟨"EscrowedVersions$Version", "open", "()V"⟩ ⟨"EscrowedVersions$Version", "open", "()V"⟩ ∈ xAll := List.mem_filter.mpr ⟨xt2 (List.mem_of_getElem? (i := 53) rfl), rfl⟩
theorem xh_2_54 : Cond.code ⟨"EscrowedVersions$Version", "open", "()V"⟩ prog_7_method_8_code 1 none ∈ xAll := List.mem_filter.mpr ⟨xt2 (List.mem_of_getElem? (i := 54) rfl), rfl⟩
theorem xh_2_55 : Cond.methodLink "EscrowedVersions$Version" 62 ⟨"EscrowedVersions$Version", "putTogether", "()I"⟩ ∈ xAll := List.mem_filter.mpr ⟨xt2 (List.mem_of_getElem? (i := 55) rfl), rfl⟩
theorem xh_2_57 : Cond.instanceMethod ⟨"EscrowedVersions$Version", "putTogether", "()I"⟩ ∈ xAll := List.mem_filter.mpr ⟨xt2 (List.mem_of_getElem? (i := 57) rfl), rfl⟩
theorem xh_2_58 : Cond.code ⟨"EscrowedVersions$Version", "putTogether", "()I"⟩ prog_7_method_11_code 3 (some .int) ∈ xAll := List.mem_filter.mpr ⟨xt2 (List.mem_of_getElem? (i := 58) rfl), rfl⟩
theorem xh_2_59 : Cond.methodLink "EscrowedVersions$Version" 66 ⟨"EscrowedVersions$Version", "isGiven", "(I)Z"⟩ ∈ xAll := List.mem_filter.mpr ⟨xt2 (List.mem_of_getElem? (i := 59) rfl), rfl⟩
theorem xh_2_60 : Cond.methodLink "EscrowedVersions$Version" 70 ⟨"EscrowedVersions$Version", "weightAtZero", "(I)I"⟩ ∈ xAll := List.mem_filter.mpr ⟨xt2 (List.mem_of_getElem? (i := 60) rfl), rfl⟩
theorem xh_2_62 : Cond.instanceMethod ⟨"EscrowedVersions$Version", "weightAtZero", "(I)I"⟩ ∈ xAll := List.mem_filter.mpr ⟨xt2 (List.mem_of_getElem? (i := 62) rfl), rfl⟩
theorem xh_2_63 : Cond.code ⟨"EscrowedVersions$Version", "weightAtZero", "(I)I"⟩ prog_7_method_12_code 4 (some .int) ∈ xAll := List.mem_filter.mpr ⟨xt2 (List.mem_of_getElem? (i := 63) rfl), rfl⟩
theorem xh_2_64 : Cond.methodLink "EscrowedVersions$Version" 77 ⟨"EscrowedVersions$Field", "inverse", "(I)I"⟩ ∈ xAll := List.mem_filter.mpr ⟨xt2 (List.mem_of_getElem? (i := 64) rfl), rfl⟩
theorem xh_2_65 : Cond.static ⟨"EscrowedVersions$Field", "inverse", "(I)I"⟩ ∈ xAll := List.mem_filter.mpr ⟨xt2 (List.mem_of_getElem? (i := 65) rfl), rfl⟩
theorem xh_2_66 : Cond.code ⟨"EscrowedVersions$Field", "inverse", "(I)I"⟩ prog_4_method_3_code 4 (some .int) ∈ xAll := List.mem_filter.mpr ⟨xt2 (List.mem_of_getElem? (i := 66) rfl), rfl⟩
theorem xh_2_67 : Cond.methodLink "EscrowedVersions$Field" 9 ⟨"EscrowedVersions$Field", "product", "(II)I"⟩ ∈ xAll := List.mem_filter.mpr ⟨xt2 (List.mem_of_getElem? (i := 67) rfl), rfl⟩
theorem xh_2_68 : Cond.methodLink "EscrowedVersions$Version" 82 ⟨"EscrowedVersions$Field", "product", "(II)I"⟩ ∈ xAll := List.mem_filter.mpr ⟨xt2 (List.mem_of_getElem? (i := 68) rfl), rfl⟩
theorem xh_2_69 : Cond.methodLink "EscrowedVersions$Version" 74 ⟨"EscrowedVersions$Version", "scaled", "(II)I"⟩ ∈ xAll := List.mem_filter.mpr ⟨xt2 (List.mem_of_getElem? (i := 69) rfl), rfl⟩
theorem xh_2_70 : Cond.static ⟨"EscrowedVersions$Version", "scaled", "(II)I"⟩ ∈ xAll := List.mem_filter.mpr ⟨xt2 (List.mem_of_getElem? (i := 70) rfl), rfl⟩
theorem xh_2_71 : Cond.code ⟨"EscrowedVersions$Version", "scaled", "(II)I"⟩ prog_7_method_13_code 4 (some .int) ∈ xAll := List.mem_filter.mpr ⟨xt2 (List.mem_of_getElem? (i := 71) rfl), rfl⟩
theorem xh_2_72 : Cond.methodLink "EscrowedVersionsLaw" 54 ⟨"EscrowedVersions", "wrap", "(I)I"⟩ ∈ xAll := List.mem_filter.mpr ⟨xt2 (List.mem_of_getElem? (i := 72) rfl), rfl⟩
theorem xh_2_73 : Cond.instanceMethod ⟨"EscrowedVersions", "wrap", "(I)I"⟩ ∈ xAll := List.mem_filter.mpr ⟨xt2 (List.mem_of_getElem? (i := 73) rfl), rfl⟩
theorem xh_2_74 : Cond.selects "EscrowedVersions" ⟨"EscrowedVersions", "wrap", "(I)I"⟩ ⟨"EscrowedVersions", "wrap", "(I)I"⟩ ∈ xAll := List.mem_filter.mpr ⟨xt2 (List.mem_of_getElem? (i := 74) rfl), rfl⟩
theorem xh_2_75 : Cond.code ⟨"EscrowedVersions", "wrap", "(I)I"⟩ prog_1_method_11_code 3 (some .int) ∈ xAll := List.mem_filter.mpr ⟨xt2 (List.mem_of_getElem? (i := 75) rfl), rfl⟩
theorem xh_2_76 : Cond.methodLink "EscrowedVersions" 146 ⟨"EscrowedVersions", "pad", "(II)I"⟩ ∈ xAll := List.mem_filter.mpr ⟨xt2 (List.mem_of_getElem? (i := 76) rfl), rfl⟩
theorem xh_2_77 : Cond.static ⟨"EscrowedVersions", "pad", "(II)I"⟩ ∈ xAll := List.mem_filter.mpr ⟨xt2 (List.mem_of_getElem? (i := 77) rfl), rfl⟩
theorem xh_2_78 : Cond.code ⟨"EscrowedVersions", "pad", "(II)I"⟩ prog_1_method_26_code 2 (some .int) ∈ xAll := List.mem_filter.mpr ⟨xt2 (List.mem_of_getElem? (i := 78) rfl), rfl⟩
theorem xh_2_79 : Cond.methodLink "EscrowedVersions" 152 ⟨"EscrowedVersions$Envelope", "putBehind", "(II)V"⟩ ∈ xAll := List.mem_filter.mpr ⟨xt2 (List.mem_of_getElem? (i := 79) rfl), rfl⟩
theorem xh_2_80 : Cond.instanceMethod ⟨"EscrowedVersions$Envelope", "putBehind", "(II)V"⟩ ∈ xAll := List.mem_filter.mpr ⟨xt2 (List.mem_of_getElem? (i := 80) rfl), rfl⟩
theorem xh_2_81 : Cond.selects "EscrowedVersions$Envelope" ⟨"EscrowedVersions$Envelope", "putBehind", "(II)V"⟩ ⟨"EscrowedVersions$Envelope", "putBehind", "(II)V"⟩ ∈ xAll := List.mem_filter.mpr ⟨xt2 (List.mem_of_getElem? (i := 81) rfl), rfl⟩
theorem xh_2_82 : Cond.code ⟨"EscrowedVersions$Envelope", "putBehind", "(II)V"⟩ prog_3_method_3_code 4 none ∈ xAll := List.mem_filter.mpr ⟨xt2 (List.mem_of_getElem? (i := 82) rfl), rfl⟩
theorem xh_2_83 : Cond.methodLink "EscrowedVersions$Envelope" 23 ⟨"EscrowedVersions$Envelope", "put", "(II)Z"⟩ ∈ xAll := List.mem_filter.mpr ⟨xt2 (List.mem_of_getElem? (i := 83) rfl), rfl⟩
theorem xh_2_84 : Cond.instanceMethod ⟨"EscrowedVersions$Envelope", "put", "(II)Z"⟩ ∈ xAll := List.mem_filter.mpr ⟨xt2 (List.mem_of_getElem? (i := 84) rfl), rfl⟩
theorem xh_2_85 : Cond.selects "EscrowedVersions$Envelope" ⟨"EscrowedVersions$Envelope", "put", "(II)Z"⟩ ⟨"EscrowedVersions$Envelope", "put", "(II)Z"⟩ ∈ xAll := List.mem_filter.mpr ⟨xt2 (List.mem_of_getElem? (i := 85) rfl), rfl⟩
theorem xh_2_86 : Cond.code ⟨"EscrowedVersions$Envelope", "put", "(II)Z"⟩ prog_3_method_2_code 3 (some .boolean) ∈ xAll := List.mem_filter.mpr ⟨xt2 (List.mem_of_getElem? (i := 86) rfl), rfl⟩
theorem xh_2_87 : Cond.methodLinkNest "EscrowedVersions$Envelope" 19 ⟨"EscrowedVersions", "isByte", "(I)Z"⟩ "EscrowedVersions" ∈ xNest := List.mem_filter.mpr ⟨xt2 (List.mem_of_getElem? (i := 87) rfl), rfl⟩
theorem xh_2_88 : Cond.methodLink "EscrowedVersions" 155 ⟨"EscrowedVersions", "tag", "(III)I"⟩ ∈ xAll := List.mem_filter.mpr ⟨xt2 (List.mem_of_getElem? (i := 88) rfl), rfl⟩
theorem xh_2_89 : Cond.static ⟨"EscrowedVersions", "tag", "(III)I"⟩ ∈ xAll := List.mem_filter.mpr ⟨xt2 (List.mem_of_getElem? (i := 89) rfl), rfl⟩
theorem xh_2_90 : Cond.code ⟨"EscrowedVersions", "tag", "(III)I"⟩ prog_1_method_27_code 3 (some .int) ∈ xAll := List.mem_filter.mpr ⟨xt2 (List.mem_of_getElem? (i := 90) rfl), rfl⟩
theorem xh_2_91 : Cond.constant "EscrowedVersions" 200 65535 ∈ xAll := List.mem_filter.mpr ⟨xt2 (List.mem_of_getElem? (i := 91) rfl), rfl⟩
theorem xh_2_92 : Cond.methodLink "EscrowedVersionsLaw" 58 ⟨"EscrowedVersions", "unwrap", "()J"⟩ ∈ xAll := List.mem_filter.mpr ⟨xt2 (List.mem_of_getElem? (i := 92) rfl), rfl⟩
theorem xh_2_93 : Cond.instanceMethod ⟨"EscrowedVersions", "unwrap", "()J"⟩ ∈ xAll := List.mem_filter.mpr ⟨xt2 (List.mem_of_getElem? (i := 93) rfl), rfl⟩
theorem xh_2_94 : Cond.selects "EscrowedVersions" ⟨"EscrowedVersions", "unwrap", "()J"⟩ ⟨"EscrowedVersions", "unwrap", "()J"⟩ ∈ xAll := List.mem_filter.mpr ⟨xt2 (List.mem_of_getElem? (i := 94) rfl), rfl⟩
theorem xh_2_95 : Cond.code ⟨"EscrowedVersions", "unwrap", "()J"⟩ prog_1_method_12_code 4 (some .long) ∈ xAll := List.mem_filter.mpr ⟨xt2 (List.mem_of_getElem? (i := 95) rfl), rfl⟩
theorem xh_2_96 : Cond.constantLong "EscrowedVersions" 159 (-5) ∈ xAll := List.mem_filter.mpr ⟨xt2 (List.mem_of_getElem? (i := 96) rfl), rfl⟩
theorem xh_2_97 : Cond.methodLink "EscrowedVersions" 161 ⟨"EscrowedVersions$Envelope", "number", "(II)I"⟩ ∈ xAll := List.mem_filter.mpr ⟨xt2 (List.mem_of_getElem? (i := 97) rfl), rfl⟩
theorem xh_2_98 : Cond.instanceMethod ⟨"EscrowedVersions$Envelope", "number", "(II)I"⟩ ∈ xAll := List.mem_filter.mpr ⟨xt2 (List.mem_of_getElem? (i := 98) rfl), rfl⟩
theorem xh_2_99 : Cond.selects "EscrowedVersions$Envelope" ⟨"EscrowedVersions$Envelope", "number", "(II)I"⟩ ⟨"EscrowedVersions$Envelope", "number", "(II)I"⟩ ∈ xAll := List.mem_filter.mpr ⟨xt2 (List.mem_of_getElem? (i := 99) rfl), rfl⟩
theorem xh_2_100 : Cond.code ⟨"EscrowedVersions$Envelope", "number", "(II)I"⟩ prog_3_method_4_code 5 (some .int) ∈ xAll := List.mem_filter.mpr ⟨xt2 (List.mem_of_getElem? (i := 100) rfl), rfl⟩
theorem xh_2_101 : Cond.constantLong "EscrowedVersions" 163 (-1) ∈ xAll := List.mem_filter.mpr ⟨xt2 (List.mem_of_getElem? (i := 101) rfl), rfl⟩
theorem xh_2_102 : Cond.constantLong "EscrowedVersions" 165 (-6) ∈ xAll := List.mem_filter.mpr ⟨xt2 (List.mem_of_getElem? (i := 102) rfl), rfl⟩
theorem xh_2_103 : Cond.constantLong "EscrowedVersions" 167 (-7) ∈ xAll := List.mem_filter.mpr ⟨xt2 (List.mem_of_getElem? (i := 103) rfl), rfl⟩
theorem xh_2_104 : Cond.constantLong "EscrowedVersions" 169 (-8) ∈ xAll := List.mem_filter.mpr ⟨xt2 (List.mem_of_getElem? (i := 104) rfl), rfl⟩
theorem xh_2_105 : Cond.constantLong "EscrowedVersions" 171 4294967295 ∈ xAll := List.mem_filter.mpr ⟨xt2 (List.mem_of_getElem? (i := 105) rfl), rfl⟩
theorem xh_2_106 : Cond.methodLink "EscrowedVersionsLaw" 63 ⟨"EscrowedVersions", "set", "(II)Z"⟩ ∈ xAll := List.mem_filter.mpr ⟨xt2 (List.mem_of_getElem? (i := 106) rfl), rfl⟩
theorem xh_2_107 : Cond.instanceMethod ⟨"EscrowedVersions", "set", "(II)Z"⟩ ∈ xAll := List.mem_filter.mpr ⟨xt2 (List.mem_of_getElem? (i := 107) rfl), rfl⟩
theorem xh_2_108 : Cond.selects "EscrowedVersions" ⟨"EscrowedVersions", "set", "(II)Z"⟩ ⟨"EscrowedVersions", "set", "(II)Z"⟩ ∈ xAll := List.mem_filter.mpr ⟨xt2 (List.mem_of_getElem? (i := 108) rfl), rfl⟩
theorem xh_2_109 : Cond.code ⟨"EscrowedVersions", "set", "(II)Z"⟩ prog_1_method_13_code 3 (some .boolean) ∈ xAll := List.mem_filter.mpr ⟨xt2 (List.mem_of_getElem? (i := 109) rfl), rfl⟩
theorem xh_2_110 : Cond.methodLink "EscrowedVersions" 173 ⟨"EscrowedVersions$Envelope", "put", "(II)Z"⟩ ∈ xAll := List.mem_filter.mpr ⟨xt2 (List.mem_of_getElem? (i := 110) rfl), rfl⟩
theorem xh_2_111 : Cond.methodLink "EscrowedVersionsLaw" 68 ⟨"EscrowedVersions", "trim", "(I)Z"⟩ ∈ xAll := List.mem_filter.mpr ⟨xt2 (List.mem_of_getElem? (i := 111) rfl), rfl⟩
theorem xh_2_112 : Cond.instanceMethod ⟨"EscrowedVersions", "trim", "(I)Z"⟩ ∈ xAll := List.mem_filter.mpr ⟨xt2 (List.mem_of_getElem? (i := 112) rfl), rfl⟩
theorem xh_2_113 : Cond.selects "EscrowedVersions" ⟨"EscrowedVersions", "trim", "(I)Z"⟩ ⟨"EscrowedVersions", "trim", "(I)Z"⟩ ∈ xAll := List.mem_filter.mpr ⟨xt2 (List.mem_of_getElem? (i := 113) rfl), rfl⟩
theorem xh_2_114 : Cond.code ⟨"EscrowedVersions", "trim", "(I)Z"⟩ prog_1_method_14_code 2 (some .boolean) ∈ xAll := List.mem_filter.mpr ⟨xt2 (List.mem_of_getElem? (i := 114) rfl), rfl⟩
theorem xh_2_115 : Cond.methodLink "EscrowedVersionsLaw" 72 ⟨"EscrowedVersions", "byteAt", "(I)I"⟩ ∈ xAll := List.mem_filter.mpr ⟨xt2 (List.mem_of_getElem? (i := 115) rfl), rfl⟩
theorem xh_2_116 : Cond.instanceMethod ⟨"EscrowedVersions", "byteAt", "(I)I"⟩ ∈ xAll := List.mem_filter.mpr ⟨xt2 (List.mem_of_getElem? (i := 116) rfl), rfl⟩
theorem xh_2_117 : Cond.selects "EscrowedVersions" ⟨"EscrowedVersions", "byteAt", "(I)I"⟩ ⟨"EscrowedVersions", "byteAt", "(I)I"⟩ ∈ xAll := List.mem_filter.mpr ⟨xt2 (List.mem_of_getElem? (i := 117) rfl), rfl⟩
theorem xh_2_118 : Cond.code ⟨"EscrowedVersions", "byteAt", "(I)I"⟩ prog_1_method_15_code 2 (some .int) ∈ xAll := List.mem_filter.mpr ⟨xt2 (List.mem_of_getElem? (i := 118) rfl), rfl⟩
theorem xh_2_119 : Cond.methodLink "EscrowedVersionsLaw" 76 ⟨"EscrowedVersions", "length", "()I"⟩ ∈ xAll := List.mem_filter.mpr ⟨xt2 (List.mem_of_getElem? (i := 119) rfl), rfl⟩
theorem xh_2_120 : Cond.instanceMethod ⟨"EscrowedVersions", "length", "()I"⟩ ∈ xAll := List.mem_filter.mpr ⟨xt2 (List.mem_of_getElem? (i := 120) rfl), rfl⟩
theorem xh_2_121 : Cond.selects "EscrowedVersions" ⟨"EscrowedVersions", "length", "()I"⟩ ⟨"EscrowedVersions", "length", "()I"⟩ ∈ xAll := List.mem_filter.mpr ⟨xt2 (List.mem_of_getElem? (i := 121) rfl), rfl⟩
theorem xh_2_122 : Cond.code ⟨"EscrowedVersions", "length", "()I"⟩ prog_1_method_16_code 1 (some .int) ∈ xAll := List.mem_filter.mpr ⟨xt2 (List.mem_of_getElem? (i := 122) rfl), rfl⟩
theorem xh_2_123 : Cond.methodLink "EscrowedVersionsLaw" 80 ⟨"EscrowedVersions", "version", "(II)I"⟩ ∈ xAll := List.mem_filter.mpr ⟨xt2 (List.mem_of_getElem? (i := 123) rfl), rfl⟩
theorem xh_2_124 : Cond.instanceMethod ⟨"EscrowedVersions", "version", "(II)I"⟩ ∈ xAll := List.mem_filter.mpr ⟨xt2 (List.mem_of_getElem? (i := 124) rfl), rfl⟩
theorem xh_2_125 : Cond.selects "EscrowedVersions" ⟨"EscrowedVersions", "version", "(II)I"⟩ ⟨"EscrowedVersions", "version", "(II)I"⟩ ∈ xAll := List.mem_filter.mpr ⟨xt2 (List.mem_of_getElem? (i := 125) rfl), rfl⟩
theorem xh_2_126 : Cond.code ⟨"EscrowedVersions", "version", "(II)I"⟩ prog_1_method_17_code 4 (some .int) ∈ xAll := List.mem_filter.mpr ⟨xt2 (List.mem_of_getElem? (i := 126) rfl), rfl⟩
theorem xh_2_127 : Cond.methodLink "EscrowedVersionsLaw" 84 ⟨"EscrowedVersions", "versions", "()I"⟩ ∈ xAll := List.mem_filter.mpr ⟨xt2 (List.mem_of_getElem? (i := 127) rfl), rfl⟩
theorem xh_2_128 : Cond.instanceMethod ⟨"EscrowedVersions", "versions", "()I"⟩ ∈ xAll := List.mem_filter.mpr ⟨xt2 (List.mem_of_getElem? (i := 128) rfl), rfl⟩
theorem xh_2_129 : Cond.selects "EscrowedVersions" ⟨"EscrowedVersions", "versions", "()I"⟩ ⟨"EscrowedVersions", "versions", "()I"⟩ ∈ xAll := List.mem_filter.mpr ⟨xt2 (List.mem_of_getElem? (i := 129) rfl), rfl⟩
theorem xh_2_130 : Cond.code ⟨"EscrowedVersions", "versions", "()I"⟩ prog_1_method_18_code 1 (some .int) ∈ xAll := List.mem_filter.mpr ⟨xt2 (List.mem_of_getElem? (i := 130) rfl), rfl⟩
theorem xh_2_131 : Cond.methodLink "EscrowedVersionsLaw" 88 ⟨"EscrowedVersions", "log", "(II)I"⟩ ∈ xAll := List.mem_filter.mpr ⟨xt2 (List.mem_of_getElem? (i := 131) rfl), rfl⟩
theorem xh_2_132 : Cond.instanceMethod ⟨"EscrowedVersions", "log", "(II)I"⟩ ∈ xAll := List.mem_filter.mpr ⟨xt2 (List.mem_of_getElem? (i := 132) rfl), rfl⟩
theorem xh_2_133 : Cond.selects "EscrowedVersions" ⟨"EscrowedVersions", "log", "(II)I"⟩ ⟨"EscrowedVersions", "log", "(II)I"⟩ ∈ xAll := List.mem_filter.mpr ⟨xt2 (List.mem_of_getElem? (i := 133) rfl), rfl⟩
theorem xh_2_134 : Cond.code ⟨"EscrowedVersions", "log", "(II)I"⟩ prog_1_method_19_code 3 (some .int) ∈ xAll := List.mem_filter.mpr ⟨xt2 (List.mem_of_getElem? (i := 134) rfl), rfl⟩
theorem xh_2_135 : Cond.methodLink "EscrowedVersionsLaw" 92 ⟨"EscrowedVersions", "entries", "()I"⟩ ∈ xAll := List.mem_filter.mpr ⟨xt2 (List.mem_of_getElem? (i := 135) rfl), rfl⟩
theorem xh_2_136 : Cond.instanceMethod ⟨"EscrowedVersions", "entries", "()I"⟩ ∈ xAll := List.mem_filter.mpr ⟨xt2 (List.mem_of_getElem? (i := 136) rfl), rfl⟩
theorem xh_2_137 : Cond.selects "EscrowedVersions" ⟨"EscrowedVersions", "entries", "()I"⟩ ⟨"EscrowedVersions", "entries", "()I"⟩ ∈ xAll := List.mem_filter.mpr ⟨xt2 (List.mem_of_getElem? (i := 137) rfl), rfl⟩
theorem xh_2_138 : Cond.code ⟨"EscrowedVersions", "entries", "()I"⟩ prog_1_method_20_code 1 (some .int) ∈ xAll := List.mem_filter.mpr ⟨xt2 (List.mem_of_getElem? (i := 138) rfl), rfl⟩
theorem xh_2_139 : Cond.classLink "EscrowedVersionsLaw" 10 "EscrowedVersionsModel" ∈ xAll := List.mem_filter.mpr ⟨xt2 (List.mem_of_getElem? (i := 139) rfl), rfl⟩
theorem xh_2_140 : Cond.instantiable "EscrowedVersionsModel" 23 ∈ xAll := List.mem_filter.mpr ⟨xt2 (List.mem_of_getElem? (i := 140) rfl), rfl⟩
theorem xh_2_141 : Cond.methodLink "EscrowedVersionsLaw" 12 ⟨"EscrowedVersionsModel", "<init>", "()V"⟩ ∈ xAll := List.mem_filter.mpr ⟨xt2 (List.mem_of_getElem? (i := 141) rfl), rfl⟩
theorem xh_2_142 : Cond.instanceMethod ⟨"EscrowedVersionsModel", "<init>", "()V"⟩ ∈ xAll := List.mem_filter.mpr ⟨xt2 (List.mem_of_getElem? (i := 142) rfl), rfl⟩
theorem xh_2_143 : Cond.code ⟨"EscrowedVersionsModel", "<init>", "()V"⟩ prog_9_method_1_code 1 none ∈ xAll := List.mem_filter.mpr ⟨xt2 (List.mem_of_getElem? (i := 143) rfl), rfl⟩
theorem xh_2_144 : Cond.methodLink "EscrowedVersionsModel" 1 ⟨"java/lang/Object", "<init>", "()V"⟩ ∈ xAll := List.mem_filter.mpr ⟨xt2 (List.mem_of_getElem? (i := 144) rfl), rfl⟩
theorem xh_2_145 : Cond.fieldLink "EscrowedVersionsModel" 7 "EscrowedVersionsModel" "purse" "[I" ∈ xAll := List.mem_filter.mpr ⟨xt2 (List.mem_of_getElem? (i := 145) rfl), rfl⟩
theorem xh_2_146 : Cond.fieldLink "EscrowedVersionsModel" 68 "EscrowedVersionsModel" "cash" "I" ∈ xAll := List.mem_filter.mpr ⟨xt2 (List.mem_of_getElem? (i := 146) rfl), rfl⟩
theorem xh_2_147 : Cond.fieldLink "EscrowedVersionsModel" 78 "EscrowedVersionsModel" "count" "I" ∈ xAll := List.mem_filter.mpr ⟨xt2 (List.mem_of_getElem? (i := 147) rfl), rfl⟩
theorem xh_2_148 : Cond.fieldLink "EscrowedVersionsModel" 13 "EscrowedVersionsModel" "states" "[I" ∈ xAll := List.mem_filter.mpr ⟨xt2 (List.mem_of_getElem? (i := 148) rfl), rfl⟩
theorem xh_2_149 : Cond.fieldLink "EscrowedVersionsModel" 16 "EscrowedVersionsModel" "secrets" "[I" ∈ xAll := List.mem_filter.mpr ⟨xt2 (List.mem_of_getElem? (i := 149) rfl), rfl⟩
theorem xh_2_150 : Cond.fieldLink "EscrowedVersionsModel" 19 "EscrowedVersionsModel" "shut" "[Z" ∈ xAll := List.mem_filter.mpr ⟨xt2 (List.mem_of_getElem? (i := 150) rfl), rfl⟩
theorem xh_2_151 : Cond.fieldLink "EscrowedVersionsModel" 23 "EscrowedVersionsModel" "thresholds" "[I" ∈ xAll := List.mem_filter.mpr ⟨xt2 (List.mem_of_getElem? (i := 151) rfl), rfl⟩
theorem xh_2_152 : Cond.fieldLink "EscrowedVersionsModel" 26 "EscrowedVersionsModel" "sizes" "[I" ∈ xAll := List.mem_filter.mpr ⟨xt2 (List.mem_of_getElem? (i := 152) rfl), rfl⟩
theorem xh_2_153 : Cond.fieldLink "EscrowedVersionsModel" 29 "EscrowedVersionsModel" "digests" "[I" ∈ xAll := List.mem_filter.mpr ⟨xt2 (List.mem_of_getElem? (i := 153) rfl), rfl⟩
theorem xh_2_154 : Cond.fieldLink "EscrowedVersionsModel" 32 "EscrowedVersionsModel" "shares" "[I" ∈ xAll := List.mem_filter.mpr ⟨xt2 (List.mem_of_getElem? (i := 154) rfl), rfl⟩
theorem xh_2_155 : Cond.fieldLink "EscrowedVersionsModel" 35 "EscrowedVersionsModel" "given" "[Z" ∈ xAll := List.mem_filter.mpr ⟨xt2 (List.mem_of_getElem? (i := 155) rfl), rfl⟩
theorem xh_2_156 : Cond.fieldLink "EscrowedVersionsModel" 38 "EscrowedVersionsModel" "cut" "[I" ∈ xAll := List.mem_filter.mpr ⟨xt2 (List.mem_of_getElem? (i := 156) rfl), rfl⟩
theorem xh_2_157 : Cond.fieldLink "EscrowedVersionsModel" 103 "EscrowedVersionsModel" "cuts" "I" ∈ xAll := List.mem_filter.mpr ⟨xt2 (List.mem_of_getElem? (i := 157) rfl), rfl⟩
theorem xh_2_158 : Cond.fieldLink "EscrowedVersionsModel" 72 "EscrowedVersionsModel" "lines" "I" ∈ xAll := List.mem_filter.mpr ⟨xt2 (List.mem_of_getElem? (i := 158) rfl), rfl⟩
theorem xh_2_159 : Cond.fieldLink "EscrowedVersionsModel" 41 "EscrowedVersionsModel" "kinds" "[I" ∈ xAll := List.mem_filter.mpr ⟨xt2 (List.mem_of_getElem? (i := 159) rfl), rfl⟩
theorem xh_2_160 : Cond.fieldLink "EscrowedVersionsModel" 44 "EscrowedVersionsModel" "whose" "[I" ∈ xAll := List.mem_filter.mpr ⟨xt2 (List.mem_of_getElem? (i := 160) rfl), rfl⟩
theorem xh_2_161 : Cond.fieldLink "EscrowedVersionsModel" 47 "EscrowedVersionsModel" "details" "[I" ∈ xAll := List.mem_filter.mpr ⟨xt2 (List.mem_of_getElem? (i := 161) rfl), rfl⟩
theorem xh_2_162 : Cond.fieldLink "EscrowedVersionsModel" 50 "EscrowedVersionsModel" "seals" "[I" ∈ xAll := List.mem_filter.mpr ⟨xt2 (List.mem_of_getElem? (i := 162) rfl), rfl⟩
theorem xh_2_163 : Cond.fieldLink "EscrowedVersionsModel" 53 "EscrowedVersionsModel" "bytes" "[I" ∈ xAll := List.mem_filter.mpr ⟨xt2 (List.mem_of_getElem? (i := 163) rfl), rfl⟩
theorem xh_2_164 : Cond.fieldLink "EscrowedVersionsModel" 130 "EscrowedVersionsModel" "size" "I" ∈ xAll := List.mem_filter.mpr ⟨xt2 (List.mem_of_getElem? (i := 164) rfl), rfl⟩
theorem xh_2_165 : Cond.fieldLink "EscrowedVersionsModel" 120 "EscrowedVersionsModel" "counter" "I" ∈ xAll := List.mem_filter.mpr ⟨xt2 (List.mem_of_getElem? (i := 165) rfl), rfl⟩
theorem xh_2_166 : Cond.fieldLink "EscrowedVersionsModel" 56 "EscrowedVersionsModel" "x" "[I" ∈ xAll := List.mem_filter.mpr ⟨xt2 (List.mem_of_getElem? (i := 166) rfl), rfl⟩
theorem xh_2_167 : Cond.fieldLink "EscrowedVersionsModel" 59 "EscrowedVersionsModel" "y" "[I" ∈ xAll := List.mem_filter.mpr ⟨xt2 (List.mem_of_getElem? (i := 167) rfl), rfl⟩
theorem xh_2_168 : Cond.laysFinal "EscrowedVersionsModel" "EscrowedVersionsModel" "purse" "[I" ∈ xAll := List.mem_filter.mpr ⟨xt2 (List.mem_of_getElem? (i := 168) rfl), rfl⟩
theorem xh_2_170 : Cond.lays "EscrowedVersionsModel" "EscrowedVersionsModel" "cash" "I" ∈ xAll := List.mem_filter.mpr ⟨xt2 (List.mem_of_getElem? (i := 170) rfl), rfl⟩
theorem xh_2_172 : Cond.lays "EscrowedVersionsModel" "EscrowedVersionsModel" "count" "I" ∈ xAll := List.mem_filter.mpr ⟨xt2 (List.mem_of_getElem? (i := 172) rfl), rfl⟩
theorem xh_2_174 : Cond.laysFinal "EscrowedVersionsModel" "EscrowedVersionsModel" "states" "[I" ∈ xAll := List.mem_filter.mpr ⟨xt2 (List.mem_of_getElem? (i := 174) rfl), rfl⟩
theorem xh_2_176 : Cond.laysFinal "EscrowedVersionsModel" "EscrowedVersionsModel" "secrets" "[I" ∈ xAll := List.mem_filter.mpr ⟨xt2 (List.mem_of_getElem? (i := 176) rfl), rfl⟩
theorem xh_2_178 : Cond.laysFinal "EscrowedVersionsModel" "EscrowedVersionsModel" "shut" "[Z" ∈ xAll := List.mem_filter.mpr ⟨xt2 (List.mem_of_getElem? (i := 178) rfl), rfl⟩
theorem xh_2_180 : Cond.laysFinal "EscrowedVersionsModel" "EscrowedVersionsModel" "thresholds" "[I" ∈ xAll := List.mem_filter.mpr ⟨xt2 (List.mem_of_getElem? (i := 180) rfl), rfl⟩
theorem xh_2_182 : Cond.laysFinal "EscrowedVersionsModel" "EscrowedVersionsModel" "sizes" "[I" ∈ xAll := List.mem_filter.mpr ⟨xt2 (List.mem_of_getElem? (i := 182) rfl), rfl⟩
theorem xh_2_184 : Cond.laysFinal "EscrowedVersionsModel" "EscrowedVersionsModel" "digests" "[I" ∈ xAll := List.mem_filter.mpr ⟨xt2 (List.mem_of_getElem? (i := 184) rfl), rfl⟩
theorem xh_2_186 : Cond.laysFinal "EscrowedVersionsModel" "EscrowedVersionsModel" "shares" "[I" ∈ xAll := List.mem_filter.mpr ⟨xt2 (List.mem_of_getElem? (i := 186) rfl), rfl⟩
theorem xh_2_188 : Cond.laysFinal "EscrowedVersionsModel" "EscrowedVersionsModel" "given" "[Z" ∈ xAll := List.mem_filter.mpr ⟨xt2 (List.mem_of_getElem? (i := 188) rfl), rfl⟩
theorem xh_2_190 : Cond.laysFinal "EscrowedVersionsModel" "EscrowedVersionsModel" "cut" "[I" ∈ xAll := List.mem_filter.mpr ⟨xt2 (List.mem_of_getElem? (i := 190) rfl), rfl⟩
theorem xh_2_192 : Cond.lays "EscrowedVersionsModel" "EscrowedVersionsModel" "cuts" "I" ∈ xAll := List.mem_filter.mpr ⟨xt2 (List.mem_of_getElem? (i := 192) rfl), rfl⟩
theorem xh_2_194 : Cond.lays "EscrowedVersionsModel" "EscrowedVersionsModel" "lines" "I" ∈ xAll := List.mem_filter.mpr ⟨xt2 (List.mem_of_getElem? (i := 194) rfl), rfl⟩
theorem xh_2_196 : Cond.laysFinal "EscrowedVersionsModel" "EscrowedVersionsModel" "kinds" "[I" ∈ xAll := List.mem_filter.mpr ⟨xt2 (List.mem_of_getElem? (i := 196) rfl), rfl⟩
theorem xh_2_198 : Cond.laysFinal "EscrowedVersionsModel" "EscrowedVersionsModel" "whose" "[I" ∈ xAll := List.mem_filter.mpr ⟨xt2 (List.mem_of_getElem? (i := 198) rfl), rfl⟩
theorem xh_2_200 : Cond.laysFinal "EscrowedVersionsModel" "EscrowedVersionsModel" "details" "[I" ∈ xAll := List.mem_filter.mpr ⟨xt2 (List.mem_of_getElem? (i := 200) rfl), rfl⟩
theorem xh_2_202 : Cond.laysFinal "EscrowedVersionsModel" "EscrowedVersionsModel" "seals" "[I" ∈ xAll := List.mem_filter.mpr ⟨xt2 (List.mem_of_getElem? (i := 202) rfl), rfl⟩
theorem xh_2_204 : Cond.laysFinal "EscrowedVersionsModel" "EscrowedVersionsModel" "bytes" "[I" ∈ xAll := List.mem_filter.mpr ⟨xt2 (List.mem_of_getElem? (i := 204) rfl), rfl⟩
theorem xh_2_206 : Cond.lays "EscrowedVersionsModel" "EscrowedVersionsModel" "size" "I" ∈ xAll := List.mem_filter.mpr ⟨xt2 (List.mem_of_getElem? (i := 206) rfl), rfl⟩
theorem xh_2_208 : Cond.lays "EscrowedVersionsModel" "EscrowedVersionsModel" "counter" "I" ∈ xAll := List.mem_filter.mpr ⟨xt2 (List.mem_of_getElem? (i := 208) rfl), rfl⟩
theorem xh_2_210 : Cond.laysFinal "EscrowedVersionsModel" "EscrowedVersionsModel" "x" "[I" ∈ xAll := List.mem_filter.mpr ⟨xt2 (List.mem_of_getElem? (i := 210) rfl), rfl⟩
theorem xh_2_212 : Cond.laysFinal "EscrowedVersionsModel" "EscrowedVersionsModel" "y" "[I" ∈ xAll := List.mem_filter.mpr ⟨xt2 (List.mem_of_getElem? (i := 212) rfl), rfl⟩
theorem xh_2_215 : Cond.arrayClass .boolean ∈ xAll := List.mem_filter.mpr ⟨xt2 (List.mem_of_getElem? (i := 215) rfl), rfl⟩
theorem xh_2_216 : Cond.methodLink "EscrowedVersionsLaw" 17 ⟨"EscrowedVersionsModel", "coin", "(I)Z"⟩ ∈ xAll := List.mem_filter.mpr ⟨xt2 (List.mem_of_getElem? (i := 216) rfl), rfl⟩
theorem xh_2_217 : Cond.instanceMethod ⟨"EscrowedVersionsModel", "coin", "(I)Z"⟩ ∈ xAll := List.mem_filter.mpr ⟨xt2 (List.mem_of_getElem? (i := 217) rfl), rfl⟩
theorem xh_2_218 : Cond.selects "EscrowedVersionsModel" ⟨"EscrowedVersionsModel", "coin", "(I)Z"⟩ ⟨"EscrowedVersionsModel", "coin", "(I)Z"⟩ ∈ xAll := List.mem_filter.mpr ⟨xt2 (List.mem_of_getElem? (i := 218) rfl), rfl⟩
theorem xh_2_219 : Cond.code ⟨"EscrowedVersionsModel", "coin", "(I)Z"⟩ prog_9_method_5_code 2 (some .boolean) ∈ xAll := List.mem_filter.mpr ⟨xt2 (List.mem_of_getElem? (i := 219) rfl), rfl⟩
theorem xh_2_220 : Cond.methodLink "EscrowedVersionsLaw" 22 ⟨"EscrowedVersionsModel", "coins", "()I"⟩ ∈ xAll := List.mem_filter.mpr ⟨xt2 (List.mem_of_getElem? (i := 220) rfl), rfl⟩
theorem xh_2_221 : Cond.instanceMethod ⟨"EscrowedVersionsModel", "coins", "()I"⟩ ∈ xAll := List.mem_filter.mpr ⟨xt2 (List.mem_of_getElem? (i := 221) rfl), rfl⟩
theorem xh_2_222 : Cond.selects "EscrowedVersionsModel" ⟨"EscrowedVersionsModel", "coins", "()I"⟩ ⟨"EscrowedVersionsModel", "coins", "()I"⟩ ∈ xAll := List.mem_filter.mpr ⟨xt2 (List.mem_of_getElem? (i := 222) rfl), rfl⟩
theorem xh_2_223 : Cond.code ⟨"EscrowedVersionsModel", "coins", "()I"⟩ prog_9_method_6_code 1 (some .int) ∈ xAll := List.mem_filter.mpr ⟨xt2 (List.mem_of_getElem? (i := 223) rfl), rfl⟩
theorem xh_2_224 : Cond.methodLink "EscrowedVersionsLaw" 27 ⟨"EscrowedVersionsModel", "times", "(II)I"⟩ ∈ xAll := List.mem_filter.mpr ⟨xt2 (List.mem_of_getElem? (i := 224) rfl), rfl⟩
theorem xh_2_225 : Cond.instanceMethod ⟨"EscrowedVersionsModel", "times", "(II)I"⟩ ∈ xAll := List.mem_filter.mpr ⟨xt2 (List.mem_of_getElem? (i := 225) rfl), rfl⟩
theorem xh_2_226 : Cond.selects "EscrowedVersionsModel" ⟨"EscrowedVersionsModel", "times", "(II)I"⟩ ⟨"EscrowedVersionsModel", "times", "(II)I"⟩ ∈ xAll := List.mem_filter.mpr ⟨xt2 (List.mem_of_getElem? (i := 226) rfl), rfl⟩
theorem xh_2_227 : Cond.code ⟨"EscrowedVersionsModel", "times", "(II)I"⟩ prog_9_method_8_code 3 (some .int) ∈ xAll := List.mem_filter.mpr ⟨xt2 (List.mem_of_getElem? (i := 227) rfl), rfl⟩
theorem xh_2_228 : Cond.methodLink "EscrowedVersionsModel" 64 ⟨"EscrowedVersionsModel", "product", "(II)I"⟩ ∈ xAll := List.mem_filter.mpr ⟨xt2 (List.mem_of_getElem? (i := 228) rfl), rfl⟩
theorem xh_2_229 : Cond.static ⟨"EscrowedVersionsModel", "product", "(II)I"⟩ ∈ xAll := List.mem_filter.mpr ⟨xt2 (List.mem_of_getElem? (i := 229) rfl), rfl⟩
theorem xh_2_230 : Cond.code ⟨"EscrowedVersionsModel", "product", "(II)I"⟩ prog_9_method_3_code 5 (some .int) ∈ xAll := List.mem_filter.mpr ⟨xt2 (List.mem_of_getElem? (i := 230) rfl), rfl⟩
theorem xh_2_231 : Cond.methodLink "EscrowedVersionsLaw" 31 ⟨"EscrowedVersionsModel", "rotate", "()I"⟩ ∈ xAll := List.mem_filter.mpr ⟨xt2 (List.mem_of_getElem? (i := 231) rfl), rfl⟩
theorem xh_2_232 : Cond.instanceMethod ⟨"EscrowedVersionsModel", "rotate", "()I"⟩ ∈ xAll := List.mem_filter.mpr ⟨xt2 (List.mem_of_getElem? (i := 232) rfl), rfl⟩
theorem xh_2_233 : Cond.selects "EscrowedVersionsModel" ⟨"EscrowedVersionsModel", "rotate", "()I"⟩ ⟨"EscrowedVersionsModel", "rotate", "()I"⟩ ∈ xAll := List.mem_filter.mpr ⟨xt2 (List.mem_of_getElem? (i := 233) rfl), rfl⟩
theorem xh_2_234 : Cond.code ⟨"EscrowedVersionsModel", "rotate", "()I"⟩ prog_9_method_12_code 4 (some .int) ∈ xAll := List.mem_filter.mpr ⟨xt2 (List.mem_of_getElem? (i := 234) rfl), rfl⟩
theorem xh_2_235 : Cond.methodLink "EscrowedVersionsModel" 81 ⟨"EscrowedVersionsModel", "active", "()I"⟩ ∈ xAll := List.mem_filter.mpr ⟨xt2 (List.mem_of_getElem? (i := 235) rfl), rfl⟩
theorem xh_2_237 : Cond.instanceMethod ⟨"EscrowedVersionsModel", "active", "()I"⟩ ∈ xAll := List.mem_filter.mpr ⟨xt2 (List.mem_of_getElem? (i := 237) rfl), rfl⟩
theorem xh_2_238 : Cond.code ⟨"EscrowedVersionsModel", "active", "()I"⟩ prog_9_method_11_code 2 (some .int) ∈ xAll := List.mem_filter.mpr ⟨xt2 (List.mem_of_getElem? (i := 238) rfl), rfl⟩
theorem xh_2_239 : Cond.methodLink "EscrowedVersionsModel" 85 ⟨"EscrowedVersionsModel", "pay", "()I"⟩ ∈ xAll := List.mem_filter.mpr ⟨xt2 (List.mem_of_getElem? (i := 239) rfl), rfl⟩
theorem xh_3_1 : Cond.instanceMethod ⟨"EscrowedVersionsModel", "pay", "()I"⟩ ∈ xAll := List.mem_filter.mpr ⟨xt3 (List.mem_of_getElem? (i := 1) rfl), rfl⟩
theorem xh_3_2 : Cond.code ⟨"EscrowedVersionsModel", "pay", "()I"⟩ prog_9_method_7_code 3 (some .int) ∈ xAll := List.mem_filter.mpr ⟨xt3 (List.mem_of_getElem? (i := 2) rfl), rfl⟩
theorem xh_3_3 : Cond.methodLink "EscrowedVersionsModel" 88 ⟨"EscrowedVersionsModel", "write", "(III)V"⟩ ∈ xAll := List.mem_filter.mpr ⟨xt3 (List.mem_of_getElem? (i := 3) rfl), rfl⟩
theorem xh_3_5 : Cond.instanceMethod ⟨"EscrowedVersionsModel", "write", "(III)V"⟩ ∈ xAll := List.mem_filter.mpr ⟨xt3 (List.mem_of_getElem? (i := 5) rfl), rfl⟩
theorem xh_3_6 : Cond.code ⟨"EscrowedVersionsModel", "write", "(III)V"⟩ prog_9_method_9_code 5 none ∈ xAll := List.mem_filter.mpr ⟨xt3 (List.mem_of_getElem? (i := 6) rfl), rfl⟩
theorem xh_3_7 : Cond.methodLink "EscrowedVersionsModel" 75 ⟨"EscrowedVersionsModel", "mix", "(II)I"⟩ ∈ xAll := List.mem_filter.mpr ⟨xt3 (List.mem_of_getElem? (i := 7) rfl), rfl⟩
theorem xh_3_8 : Cond.static ⟨"EscrowedVersionsModel", "mix", "(II)I"⟩ ∈ xAll := List.mem_filter.mpr ⟨xt3 (List.mem_of_getElem? (i := 8) rfl), rfl⟩
theorem xh_3_9 : Cond.code ⟨"EscrowedVersionsModel", "mix", "(II)I"⟩ prog_9_method_2_code 3 (some .int) ∈ xAll := List.mem_filter.mpr ⟨xt3 (List.mem_of_getElem? (i := 9) rfl), rfl⟩
theorem xh_3_10 : Cond.constant "EscrowedVersionsModel" 62 668265263 ∈ xAll := List.mem_filter.mpr ⟨xt3 (List.mem_of_getElem? (i := 10) rfl), rfl⟩
theorem xh_3_11 : Cond.constant "EscrowedVersionsModel" 63 374761393 ∈ xAll := List.mem_filter.mpr ⟨xt3 (List.mem_of_getElem? (i := 11) rfl), rfl⟩
theorem xh_3_12 : Cond.methodLink "EscrowedVersionsLaw" 36 ⟨"EscrowedVersionsModel", "destroy", "(I)I"⟩ ∈ xAll := List.mem_filter.mpr ⟨xt3 (List.mem_of_getElem? (i := 12) rfl), rfl⟩
theorem xh_3_13 : Cond.instanceMethod ⟨"EscrowedVersionsModel", "destroy", "(I)I"⟩ ∈ xAll := List.mem_filter.mpr ⟨xt3 (List.mem_of_getElem? (i := 13) rfl), rfl⟩
theorem xh_3_14 : Cond.selects "EscrowedVersionsModel" ⟨"EscrowedVersionsModel", "destroy", "(I)I"⟩ ⟨"EscrowedVersionsModel", "destroy", "(I)I"⟩ ∈ xAll := List.mem_filter.mpr ⟨xt3 (List.mem_of_getElem? (i := 14) rfl), rfl⟩
theorem xh_3_15 : Cond.code ⟨"EscrowedVersionsModel", "destroy", "(I)I"⟩ prog_9_method_14_code 3 (some .int) ∈ xAll := List.mem_filter.mpr ⟨xt3 (List.mem_of_getElem? (i := 15) rfl), rfl⟩
theorem xh_3_16 : Cond.methodLink "EscrowedVersionsModel" 92 ⟨"EscrowedVersionsModel", "none", "(I)Z"⟩ ∈ xAll := List.mem_filter.mpr ⟨xt3 (List.mem_of_getElem? (i := 16) rfl), rfl⟩
theorem xh_3_18 : Cond.instanceMethod ⟨"EscrowedVersionsModel", "none", "(I)Z"⟩ ∈ xAll := List.mem_filter.mpr ⟨xt3 (List.mem_of_getElem? (i := 18) rfl), rfl⟩
theorem xh_3_19 : Cond.code ⟨"EscrowedVersionsModel", "none", "(I)Z"⟩ prog_9_method_10_code 2 (some .boolean) ∈ xAll := List.mem_filter.mpr ⟨xt3 (List.mem_of_getElem? (i := 19) rfl), rfl⟩
theorem xh_3_20 : Cond.methodLink "EscrowedVersionsModel" 96 ⟨"EscrowedVersionsModel", "dropGiven", "(I)V"⟩ ∈ xAll := List.mem_filter.mpr ⟨xt3 (List.mem_of_getElem? (i := 20) rfl), rfl⟩
theorem xh_3_22 : Cond.instanceMethod ⟨"EscrowedVersionsModel", "dropGiven", "(I)V"⟩ ∈ xAll := List.mem_filter.mpr ⟨xt3 (List.mem_of_getElem? (i := 22) rfl), rfl⟩
theorem xh_3_23 : Cond.code ⟨"EscrowedVersionsModel", "dropGiven", "(I)V"⟩ prog_9_method_13_code 3 none ∈ xAll := List.mem_filter.mpr ⟨xt3 (List.mem_of_getElem? (i := 23) rfl), rfl⟩
theorem xh_3_24 : Cond.methodLink "EscrowedVersionsLaw" 41 ⟨"EscrowedVersionsModel", "split", "(III)I"⟩ ∈ xAll := List.mem_filter.mpr ⟨xt3 (List.mem_of_getElem? (i := 24) rfl), rfl⟩
theorem xh_3_25 : Cond.instanceMethod ⟨"EscrowedVersionsModel", "split", "(III)I"⟩ ∈ xAll := List.mem_filter.mpr ⟨xt3 (List.mem_of_getElem? (i := 25) rfl), rfl⟩
theorem xh_3_26 : Cond.selects "EscrowedVersionsModel" ⟨"EscrowedVersionsModel", "split", "(III)I"⟩ ⟨"EscrowedVersionsModel", "split", "(III)I"⟩ ∈ xAll := List.mem_filter.mpr ⟨xt3 (List.mem_of_getElem? (i := 26) rfl), rfl⟩
theorem xh_3_27 : Cond.code ⟨"EscrowedVersionsModel", "split", "(III)I"⟩ prog_9_method_16_code 8 (some .int) ∈ xAll := List.mem_filter.mpr ⟨xt3 (List.mem_of_getElem? (i := 27) rfl), rfl⟩
theorem xh_3_28 : Cond.methodLink "EscrowedVersionsModel" 100 ⟨"EscrowedVersionsModel", "byteOf", "(II)I"⟩ ∈ xAll := List.mem_filter.mpr ⟨xt3 (List.mem_of_getElem? (i := 28) rfl), rfl⟩
theorem xh_3_29 : Cond.static ⟨"EscrowedVersionsModel", "byteOf", "(II)I"⟩ ∈ xAll := List.mem_filter.mpr ⟨xt3 (List.mem_of_getElem? (i := 29) rfl), rfl⟩
theorem xh_3_30 : Cond.code ⟨"EscrowedVersionsModel", "byteOf", "(II)I"⟩ prog_9_method_15_code 2 (some .int) ∈ xAll := List.mem_filter.mpr ⟨xt3 (List.mem_of_getElem? (i := 30) rfl), rfl⟩
theorem xh_3_31 : Cond.methodLink "EscrowedVersionsLaw" 45 ⟨"EscrowedVersionsModel", "share", "(I)I"⟩ ∈ xAll := List.mem_filter.mpr ⟨xt3 (List.mem_of_getElem? (i := 31) rfl), rfl⟩
theorem xh_3_32 : Cond.instanceMethod ⟨"EscrowedVersionsModel", "share", "(I)I"⟩ ∈ xAll := List.mem_filter.mpr ⟨xt3 (List.mem_of_getElem? (i := 32) rfl), rfl⟩
theorem xh_3_33 : Cond.selects "EscrowedVersionsModel" ⟨"EscrowedVersionsModel", "share", "(I)I"⟩ ⟨"EscrowedVersionsModel", "share", "(I)I"⟩ ∈ xAll := List.mem_filter.mpr ⟨xt3 (List.mem_of_getElem? (i := 33) rfl), rfl⟩
theorem xh_3_34 : Cond.code ⟨"EscrowedVersionsModel", "share", "(I)I"⟩ prog_9_method_17_code 2 (some .int) ∈ xAll := List.mem_filter.mpr ⟨xt3 (List.mem_of_getElem? (i := 34) rfl), rfl⟩
theorem xh_3_35 : Cond.methodLink "EscrowedVersionsLaw" 49 ⟨"EscrowedVersionsModel", "lock", "(I)I"⟩ ∈ xAll := List.mem_filter.mpr ⟨xt3 (List.mem_of_getElem? (i := 35) rfl), rfl⟩
theorem xh_3_36 : Cond.instanceMethod ⟨"EscrowedVersionsModel", "lock", "(I)I"⟩ ∈ xAll := List.mem_filter.mpr ⟨xt3 (List.mem_of_getElem? (i := 36) rfl), rfl⟩
theorem xh_3_37 : Cond.selects "EscrowedVersionsModel" ⟨"EscrowedVersionsModel", "lock", "(I)I"⟩ ⟨"EscrowedVersionsModel", "lock", "(I)I"⟩ ∈ xAll := List.mem_filter.mpr ⟨xt3 (List.mem_of_getElem? (i := 37) rfl), rfl⟩
theorem xh_3_38 : Cond.code ⟨"EscrowedVersionsModel", "lock", "(I)I"⟩ prog_9_method_18_code 2 (some .int) ∈ xAll := List.mem_filter.mpr ⟨xt3 (List.mem_of_getElem? (i := 38) rfl), rfl⟩
theorem xh_3_39 : Cond.methodLink "EscrowedVersionsLaw" 53 ⟨"EscrowedVersionsModel", "give", "(III)I"⟩ ∈ xAll := List.mem_filter.mpr ⟨xt3 (List.mem_of_getElem? (i := 39) rfl), rfl⟩
theorem xh_3_40 : Cond.instanceMethod ⟨"EscrowedVersionsModel", "give", "(III)I"⟩ ∈ xAll := List.mem_filter.mpr ⟨xt3 (List.mem_of_getElem? (i := 40) rfl), rfl⟩
theorem xh_3_41 : Cond.selects "EscrowedVersionsModel" ⟨"EscrowedVersionsModel", "give", "(III)I"⟩ ⟨"EscrowedVersionsModel", "give", "(III)I"⟩ ∈ xAll := List.mem_filter.mpr ⟨xt3 (List.mem_of_getElem? (i := 41) rfl), rfl⟩
theorem xh_3_42 : Cond.code ⟨"EscrowedVersionsModel", "give", "(III)I"⟩ prog_9_method_22_code 5 (some .int) ∈ xAll := List.mem_filter.mpr ⟨xt3 (List.mem_of_getElem? (i := 42) rfl), rfl⟩
theorem xh_3_43 : Cond.methodLink "EscrowedVersionsModel" 113 ⟨"EscrowedVersionsModel", "givenTo", "(I)I"⟩ ∈ xAll := List.mem_filter.mpr ⟨xt3 (List.mem_of_getElem? (i := 43) rfl), rfl⟩
theorem xh_3_45 : Cond.instanceMethod ⟨"EscrowedVersionsModel", "givenTo", "(I)I"⟩ ∈ xAll := List.mem_filter.mpr ⟨xt3 (List.mem_of_getElem? (i := 45) rfl), rfl⟩
theorem xh_3_46 : Cond.code ⟨"EscrowedVersionsModel", "givenTo", "(I)I"⟩ prog_9_method_19_code 4 (some .int) ∈ xAll := List.mem_filter.mpr ⟨xt3 (List.mem_of_getElem? (i := 46) rfl), rfl⟩
theorem xh_3_47 : Cond.methodLink "EscrowedVersionsModel" 116 ⟨"EscrowedVersionsModel", "together", "(I)I"⟩ ∈ xAll := List.mem_filter.mpr ⟨xt3 (List.mem_of_getElem? (i := 47) rfl), rfl⟩
theorem xh_3_49 : Cond.instanceMethod ⟨"EscrowedVersionsModel", "together", "(I)I"⟩ ∈ xAll := List.mem_filter.mpr ⟨xt3 (List.mem_of_getElem? (i := 49) rfl), rfl⟩
theorem xh_3_50 : Cond.code ⟨"EscrowedVersionsModel", "together", "(I)I"⟩ prog_9_method_21_code 6 (some .int) ∈ xAll := List.mem_filter.mpr ⟨xt3 (List.mem_of_getElem? (i := 50) rfl), rfl⟩
theorem xh_3_51 : Cond.methodLink "EscrowedVersionsModel" 109 ⟨"EscrowedVersionsModel", "atNothing", "(I)I"⟩ ∈ xAll := List.mem_filter.mpr ⟨xt3 (List.mem_of_getElem? (i := 51) rfl), rfl⟩
theorem xh_3_53 : Cond.instanceMethod ⟨"EscrowedVersionsModel", "atNothing", "(I)I"⟩ ∈ xAll := List.mem_filter.mpr ⟨xt3 (List.mem_of_getElem? (i := 53) rfl), rfl⟩
theorem xh_3_54 : Cond.code ⟨"EscrowedVersionsModel", "atNothing", "(I)I"⟩ prog_9_method_20_code 4 (some .int) ∈ xAll := List.mem_filter.mpr ⟨xt3 (List.mem_of_getElem? (i := 54) rfl), rfl⟩
theorem xh_3_55 : Cond.methodLink "EscrowedVersionsModel" 106 ⟨"EscrowedVersionsModel", "quotient", "(II)I"⟩ ∈ xAll := List.mem_filter.mpr ⟨xt3 (List.mem_of_getElem? (i := 55) rfl), rfl⟩
theorem xh_3_56 : Cond.static ⟨"EscrowedVersionsModel", "quotient", "(II)I"⟩ ∈ xAll := List.mem_filter.mpr ⟨xt3 (List.mem_of_getElem? (i := 56) rfl), rfl⟩
theorem xh_3_57 : Cond.code ⟨"EscrowedVersionsModel", "quotient", "(II)I"⟩ prog_9_method_4_code 3 (some .int) ∈ xAll := List.mem_filter.mpr ⟨xt3 (List.mem_of_getElem? (i := 57) rfl), rfl⟩
theorem xh_3_58 : Cond.methodLink "EscrowedVersionsLaw" 57 ⟨"EscrowedVersionsModel", "wrap", "(I)I"⟩ ∈ xAll := List.mem_filter.mpr ⟨xt3 (List.mem_of_getElem? (i := 58) rfl), rfl⟩
theorem xh_3_59 : Cond.instanceMethod ⟨"EscrowedVersionsModel", "wrap", "(I)I"⟩ ∈ xAll := List.mem_filter.mpr ⟨xt3 (List.mem_of_getElem? (i := 59) rfl), rfl⟩
theorem xh_3_60 : Cond.selects "EscrowedVersionsModel" ⟨"EscrowedVersionsModel", "wrap", "(I)I"⟩ ⟨"EscrowedVersionsModel", "wrap", "(I)I"⟩ ∈ xAll := List.mem_filter.mpr ⟨xt3 (List.mem_of_getElem? (i := 60) rfl), rfl⟩
theorem xh_3_61 : Cond.code ⟨"EscrowedVersionsModel", "wrap", "(I)I"⟩ prog_9_method_25_code 6 (some .int) ∈ xAll := List.mem_filter.mpr ⟨xt3 (List.mem_of_getElem? (i := 61) rfl), rfl⟩
theorem xh_3_62 : Cond.methodLink "EscrowedVersionsModel" 123 ⟨"EscrowedVersionsModel", "mask", "(II)I"⟩ ∈ xAll := List.mem_filter.mpr ⟨xt3 (List.mem_of_getElem? (i := 62) rfl), rfl⟩
theorem xh_3_63 : Cond.static ⟨"EscrowedVersionsModel", "mask", "(II)I"⟩ ∈ xAll := List.mem_filter.mpr ⟨xt3 (List.mem_of_getElem? (i := 63) rfl), rfl⟩
theorem xh_3_64 : Cond.code ⟨"EscrowedVersionsModel", "mask", "(II)I"⟩ prog_9_method_23_code 2 (some .int) ∈ xAll := List.mem_filter.mpr ⟨xt3 (List.mem_of_getElem? (i := 64) rfl), rfl⟩
theorem xh_3_65 : Cond.methodLink "EscrowedVersionsModel" 126 ⟨"EscrowedVersionsModel", "mark", "(III)I"⟩ ∈ xAll := List.mem_filter.mpr ⟨xt3 (List.mem_of_getElem? (i := 65) rfl), rfl⟩
theorem xh_3_66 : Cond.static ⟨"EscrowedVersionsModel", "mark", "(III)I"⟩ ∈ xAll := List.mem_filter.mpr ⟨xt3 (List.mem_of_getElem? (i := 66) rfl), rfl⟩
theorem xh_3_67 : Cond.code ⟨"EscrowedVersionsModel", "mark", "(III)I"⟩ prog_9_method_24_code 3 (some .int) ∈ xAll := List.mem_filter.mpr ⟨xt3 (List.mem_of_getElem? (i := 67) rfl), rfl⟩
theorem xh_3_68 : Cond.constant "EscrowedVersionsModel" 119 65535 ∈ xAll := List.mem_filter.mpr ⟨xt3 (List.mem_of_getElem? (i := 68) rfl), rfl⟩
theorem xh_3_69 : Cond.methodLink "EscrowedVersionsLaw" 62 ⟨"EscrowedVersionsModel", "unwrap", "()J"⟩ ∈ xAll := List.mem_filter.mpr ⟨xt3 (List.mem_of_getElem? (i := 69) rfl), rfl⟩
theorem xh_3_70 : Cond.instanceMethod ⟨"EscrowedVersionsModel", "unwrap", "()J"⟩ ∈ xAll := List.mem_filter.mpr ⟨xt3 (List.mem_of_getElem? (i := 70) rfl), rfl⟩
theorem xh_3_71 : Cond.selects "EscrowedVersionsModel" ⟨"EscrowedVersionsModel", "unwrap", "()J"⟩ ⟨"EscrowedVersionsModel", "unwrap", "()J"⟩ ∈ xAll := List.mem_filter.mpr ⟨xt3 (List.mem_of_getElem? (i := 71) rfl), rfl⟩
theorem xh_3_72 : Cond.code ⟨"EscrowedVersionsModel", "unwrap", "()J"⟩ prog_9_method_26_code 5 (some .long) ∈ xAll := List.mem_filter.mpr ⟨xt3 (List.mem_of_getElem? (i := 72) rfl), rfl⟩
theorem xh_3_73 : Cond.constantLong "EscrowedVersionsModel" 133 (-5) ∈ xAll := List.mem_filter.mpr ⟨xt3 (List.mem_of_getElem? (i := 73) rfl), rfl⟩
theorem xh_3_74 : Cond.constantLong "EscrowedVersionsModel" 135 (-1) ∈ xAll := List.mem_filter.mpr ⟨xt3 (List.mem_of_getElem? (i := 74) rfl), rfl⟩
theorem xh_3_75 : Cond.constantLong "EscrowedVersionsModel" 137 (-6) ∈ xAll := List.mem_filter.mpr ⟨xt3 (List.mem_of_getElem? (i := 75) rfl), rfl⟩
theorem xh_3_76 : Cond.constantLong "EscrowedVersionsModel" 139 (-7) ∈ xAll := List.mem_filter.mpr ⟨xt3 (List.mem_of_getElem? (i := 76) rfl), rfl⟩
theorem xh_3_77 : Cond.constantLong "EscrowedVersionsModel" 141 (-8) ∈ xAll := List.mem_filter.mpr ⟨xt3 (List.mem_of_getElem? (i := 77) rfl), rfl⟩
theorem xh_3_78 : Cond.constantLong "EscrowedVersionsModel" 143 4294967295 ∈ xAll := List.mem_filter.mpr ⟨xt3 (List.mem_of_getElem? (i := 78) rfl), rfl⟩
theorem xh_3_79 : Cond.methodLink "EscrowedVersionsLaw" 67 ⟨"EscrowedVersionsModel", "set", "(II)Z"⟩ ∈ xAll := List.mem_filter.mpr ⟨xt3 (List.mem_of_getElem? (i := 79) rfl), rfl⟩
theorem xh_3_80 : Cond.instanceMethod ⟨"EscrowedVersionsModel", "set", "(II)Z"⟩ ∈ xAll := List.mem_filter.mpr ⟨xt3 (List.mem_of_getElem? (i := 80) rfl), rfl⟩
theorem xh_3_81 : Cond.selects "EscrowedVersionsModel" ⟨"EscrowedVersionsModel", "set", "(II)Z"⟩ ⟨"EscrowedVersionsModel", "set", "(II)Z"⟩ ∈ xAll := List.mem_filter.mpr ⟨xt3 (List.mem_of_getElem? (i := 81) rfl), rfl⟩
theorem xh_3_82 : Cond.code ⟨"EscrowedVersionsModel", "set", "(II)Z"⟩ prog_9_method_27_code 3 (some .boolean) ∈ xAll := List.mem_filter.mpr ⟨xt3 (List.mem_of_getElem? (i := 82) rfl), rfl⟩
theorem xh_3_83 : Cond.methodLink "EscrowedVersionsLaw" 71 ⟨"EscrowedVersionsModel", "trim", "(I)Z"⟩ ∈ xAll := List.mem_filter.mpr ⟨xt3 (List.mem_of_getElem? (i := 83) rfl), rfl⟩
theorem xh_3_84 : Cond.instanceMethod ⟨"EscrowedVersionsModel", "trim", "(I)Z"⟩ ∈ xAll := List.mem_filter.mpr ⟨xt3 (List.mem_of_getElem? (i := 84) rfl), rfl⟩
theorem xh_3_85 : Cond.selects "EscrowedVersionsModel" ⟨"EscrowedVersionsModel", "trim", "(I)Z"⟩ ⟨"EscrowedVersionsModel", "trim", "(I)Z"⟩ ∈ xAll := List.mem_filter.mpr ⟨xt3 (List.mem_of_getElem? (i := 85) rfl), rfl⟩
theorem xh_3_86 : Cond.code ⟨"EscrowedVersionsModel", "trim", "(I)Z"⟩ prog_9_method_28_code 2 (some .boolean) ∈ xAll := List.mem_filter.mpr ⟨xt3 (List.mem_of_getElem? (i := 86) rfl), rfl⟩
theorem xh_3_87 : Cond.methodLink "EscrowedVersionsLaw" 75 ⟨"EscrowedVersionsModel", "byteAt", "(I)I"⟩ ∈ xAll := List.mem_filter.mpr ⟨xt3 (List.mem_of_getElem? (i := 87) rfl), rfl⟩
theorem xh_3_88 : Cond.instanceMethod ⟨"EscrowedVersionsModel", "byteAt", "(I)I"⟩ ∈ xAll := List.mem_filter.mpr ⟨xt3 (List.mem_of_getElem? (i := 88) rfl), rfl⟩
theorem xh_3_89 : Cond.selects "EscrowedVersionsModel" ⟨"EscrowedVersionsModel", "byteAt", "(I)I"⟩ ⟨"EscrowedVersionsModel", "byteAt", "(I)I"⟩ ∈ xAll := List.mem_filter.mpr ⟨xt3 (List.mem_of_getElem? (i := 89) rfl), rfl⟩
theorem xh_3_90 : Cond.code ⟨"EscrowedVersionsModel", "byteAt", "(I)I"⟩ prog_9_method_29_code 2 (some .int) ∈ xAll := List.mem_filter.mpr ⟨xt3 (List.mem_of_getElem? (i := 90) rfl), rfl⟩
theorem xh_3_91 : Cond.methodLink "EscrowedVersionsLaw" 79 ⟨"EscrowedVersionsModel", "length", "()I"⟩ ∈ xAll := List.mem_filter.mpr ⟨xt3 (List.mem_of_getElem? (i := 91) rfl), rfl⟩
theorem xh_3_92 : Cond.instanceMethod ⟨"EscrowedVersionsModel", "length", "()I"⟩ ∈ xAll := List.mem_filter.mpr ⟨xt3 (List.mem_of_getElem? (i := 92) rfl), rfl⟩
theorem xh_3_93 : Cond.selects "EscrowedVersionsModel" ⟨"EscrowedVersionsModel", "length", "()I"⟩ ⟨"EscrowedVersionsModel", "length", "()I"⟩ ∈ xAll := List.mem_filter.mpr ⟨xt3 (List.mem_of_getElem? (i := 93) rfl), rfl⟩
theorem xh_3_94 : Cond.code ⟨"EscrowedVersionsModel", "length", "()I"⟩ prog_9_method_30_code 1 (some .int) ∈ xAll := List.mem_filter.mpr ⟨xt3 (List.mem_of_getElem? (i := 94) rfl), rfl⟩
theorem xh_3_95 : Cond.methodLink "EscrowedVersionsLaw" 83 ⟨"EscrowedVersionsModel", "version", "(II)I"⟩ ∈ xAll := List.mem_filter.mpr ⟨xt3 (List.mem_of_getElem? (i := 95) rfl), rfl⟩
theorem xh_3_96 : Cond.instanceMethod ⟨"EscrowedVersionsModel", "version", "(II)I"⟩ ∈ xAll := List.mem_filter.mpr ⟨xt3 (List.mem_of_getElem? (i := 96) rfl), rfl⟩
theorem xh_3_97 : Cond.selects "EscrowedVersionsModel" ⟨"EscrowedVersionsModel", "version", "(II)I"⟩ ⟨"EscrowedVersionsModel", "version", "(II)I"⟩ ∈ xAll := List.mem_filter.mpr ⟨xt3 (List.mem_of_getElem? (i := 97) rfl), rfl⟩
theorem xh_3_98 : Cond.code ⟨"EscrowedVersionsModel", "version", "(II)I"⟩ prog_9_method_31_code 5 (some .int) ∈ xAll := List.mem_filter.mpr ⟨xt3 (List.mem_of_getElem? (i := 98) rfl), rfl⟩
theorem xh_3_99 : Cond.methodLink "EscrowedVersionsLaw" 87 ⟨"EscrowedVersionsModel", "versions", "()I"⟩ ∈ xAll := List.mem_filter.mpr ⟨xt3 (List.mem_of_getElem? (i := 99) rfl), rfl⟩
theorem xh_3_100 : Cond.instanceMethod ⟨"EscrowedVersionsModel", "versions", "()I"⟩ ∈ xAll := List.mem_filter.mpr ⟨xt3 (List.mem_of_getElem? (i := 100) rfl), rfl⟩
theorem xh_3_101 : Cond.selects "EscrowedVersionsModel" ⟨"EscrowedVersionsModel", "versions", "()I"⟩ ⟨"EscrowedVersionsModel", "versions", "()I"⟩ ∈ xAll := List.mem_filter.mpr ⟨xt3 (List.mem_of_getElem? (i := 101) rfl), rfl⟩
theorem xh_3_102 : Cond.code ⟨"EscrowedVersionsModel", "versions", "()I"⟩ prog_9_method_32_code 1 (some .int) ∈ xAll := List.mem_filter.mpr ⟨xt3 (List.mem_of_getElem? (i := 102) rfl), rfl⟩
theorem xh_3_103 : Cond.methodLink "EscrowedVersionsLaw" 91 ⟨"EscrowedVersionsModel", "log", "(II)I"⟩ ∈ xAll := List.mem_filter.mpr ⟨xt3 (List.mem_of_getElem? (i := 103) rfl), rfl⟩
theorem xh_3_104 : Cond.instanceMethod ⟨"EscrowedVersionsModel", "log", "(II)I"⟩ ∈ xAll := List.mem_filter.mpr ⟨xt3 (List.mem_of_getElem? (i := 104) rfl), rfl⟩
theorem xh_3_105 : Cond.selects "EscrowedVersionsModel" ⟨"EscrowedVersionsModel", "log", "(II)I"⟩ ⟨"EscrowedVersionsModel", "log", "(II)I"⟩ ∈ xAll := List.mem_filter.mpr ⟨xt3 (List.mem_of_getElem? (i := 105) rfl), rfl⟩
theorem xh_3_106 : Cond.code ⟨"EscrowedVersionsModel", "log", "(II)I"⟩ prog_9_method_33_code 3 (some .int) ∈ xAll := List.mem_filter.mpr ⟨xt3 (List.mem_of_getElem? (i := 106) rfl), rfl⟩
theorem xh_3_107 : Cond.methodLink "EscrowedVersionsLaw" 95 ⟨"EscrowedVersionsModel", "entries", "()I"⟩ ∈ xAll := List.mem_filter.mpr ⟨xt3 (List.mem_of_getElem? (i := 107) rfl), rfl⟩
theorem xh_3_108 : Cond.instanceMethod ⟨"EscrowedVersionsModel", "entries", "()I"⟩ ∈ xAll := List.mem_filter.mpr ⟨xt3 (List.mem_of_getElem? (i := 108) rfl), rfl⟩
theorem xh_3_109 : Cond.selects "EscrowedVersionsModel" ⟨"EscrowedVersionsModel", "entries", "()I"⟩ ⟨"EscrowedVersionsModel", "entries", "()I"⟩ ∈ xAll := List.mem_filter.mpr ⟨xt3 (List.mem_of_getElem? (i := 109) rfl), rfl⟩
theorem xh_3_110 : Cond.code ⟨"EscrowedVersionsModel", "entries", "()I"⟩ prog_9_method_34_code 1 (some .int) ∈ xAll := List.mem_filter.mpr ⟨xt3 (List.mem_of_getElem? (i := 110) rfl), rfl⟩
theorem xsel_EV_find : Cond.selects "EscrowedVersions" ⟨"EscrowedVersions", "find", "(I)LEscrowedVersions$Version;"⟩ ⟨"EscrowedVersions", "find", "(I)LEscrowedVersions$Version;"⟩ ∈ xAll := List.mem_filter.mpr ⟨List.mem_append_left _ (by decide +kernel), rfl⟩
theorem xsel_VE_forgetGiven : Cond.selects "EscrowedVersions$Version" ⟨"EscrowedVersions$Version", "forgetGiven", "()V"⟩ ⟨"EscrowedVersions$Version", "forgetGiven", "()V"⟩ ∈ xAll := List.mem_filter.mpr ⟨List.mem_append_left _ (by decide +kernel), rfl⟩
theorem xsel_SP_valueAt : Cond.selects "EscrowedVersions$Splitting" ⟨"EscrowedVersions$Splitting", "valueAt", "(II)I"⟩ ⟨"EscrowedVersions$Splitting", "valueAt", "(II)I"⟩ ∈ xAll := List.mem_filter.mpr ⟨List.mem_append_left _ (by decide +kernel), rfl⟩
theorem xsel_VE_putTogether : Cond.selects "EscrowedVersions$Version" ⟨"EscrowedVersions$Version", "putTogether", "()I"⟩ ⟨"EscrowedVersions$Version", "putTogether", "()I"⟩ ∈ xAll := List.mem_filter.mpr ⟨List.mem_append_left _ (by decide +kernel), rfl⟩
theorem xsel_VE_weightAtZero : Cond.selects "EscrowedVersions$Version" ⟨"EscrowedVersions$Version", "weightAtZero", "(I)I"⟩ ⟨"EscrowedVersions$Version", "weightAtZero", "(I)I"⟩ ∈ xAll := List.mem_filter.mpr ⟨List.mem_append_left _ (by decide +kernel), rfl⟩
theorem xsel_MO_active : Cond.selects "EscrowedVersionsModel" ⟨"EscrowedVersionsModel", "active", "()I"⟩ ⟨"EscrowedVersionsModel", "active", "()I"⟩ ∈ xAll := List.mem_filter.mpr ⟨List.mem_append_left _ (by decide +kernel), rfl⟩
theorem xsel_MO_pay : Cond.selects "EscrowedVersionsModel" ⟨"EscrowedVersionsModel", "pay", "()I"⟩ ⟨"EscrowedVersionsModel", "pay", "()I"⟩ ∈ xAll := List.mem_filter.mpr ⟨List.mem_append_left _ (by decide +kernel), rfl⟩
theorem xsel_MO_write : Cond.selects "EscrowedVersionsModel" ⟨"EscrowedVersionsModel", "write", "(III)V"⟩ ⟨"EscrowedVersionsModel", "write", "(III)V"⟩ ∈ xAll := List.mem_filter.mpr ⟨List.mem_append_left _ (by decide +kernel), rfl⟩
theorem xsel_MO_none : Cond.selects "EscrowedVersionsModel" ⟨"EscrowedVersionsModel", "none", "(I)Z"⟩ ⟨"EscrowedVersionsModel", "none", "(I)Z"⟩ ∈ xAll := List.mem_filter.mpr ⟨List.mem_append_left _ (by decide +kernel), rfl⟩
theorem xsel_MO_dropGiven : Cond.selects "EscrowedVersionsModel" ⟨"EscrowedVersionsModel", "dropGiven", "(I)V"⟩ ⟨"EscrowedVersionsModel", "dropGiven", "(I)V"⟩ ∈ xAll := List.mem_filter.mpr ⟨List.mem_append_left _ (by decide +kernel), rfl⟩
theorem xsel_MO_givenTo : Cond.selects "EscrowedVersionsModel" ⟨"EscrowedVersionsModel", "givenTo", "(I)I"⟩ ⟨"EscrowedVersionsModel", "givenTo", "(I)I"⟩ ∈ xAll := List.mem_filter.mpr ⟨List.mem_append_left _ (by decide +kernel), rfl⟩
theorem xsel_MO_together : Cond.selects "EscrowedVersionsModel" ⟨"EscrowedVersionsModel", "together", "(I)I"⟩ ⟨"EscrowedVersionsModel", "together", "(I)I"⟩ ∈ xAll := List.mem_filter.mpr ⟨List.mem_append_left _ (by decide +kernel), rfl⟩
theorem xsel_MO_atNothing : Cond.selects "EscrowedVersionsModel" ⟨"EscrowedVersionsModel", "atNothing", "(I)I"⟩ ⟨"EscrowedVersionsModel", "atNothing", "(I)I"⟩ ∈ xAll := List.mem_filter.mpr ⟨List.mem_append_left _ (by decide +kernel), rfl⟩
theorem inCR : ∀ w ∈ u_ws RCR TCR 3, w ∈ xAll := by
  intro w hw
  obtain ⟨k, hk, rfl⟩ := List.mem_map.mp hw
  have hk := List.mem_range.mp hk
  rcases (show k = 0 ∨ k = 1 ∨ k = 2 by omega) with rfl | rfl | rfl
  · exact xh_1_28
  · exact xh_1_30
  · exact xh_1_32
theorem inEN : ∀ w ∈ u_ws REN TEN 2, w ∈ xAll := by
  intro w hw
  obtain ⟨k, hk, rfl⟩ := List.mem_map.mp hw
  have hk := List.mem_range.mp hk
  rcases (show k = 0 ∨ k = 1 by omega) with rfl | rfl
  · exact xh_1_73
  · exact xh_1_75
theorem inJO : ∀ w ∈ u_ws RJO TJO 5, w ∈ xAll := by
  intro w hw
  obtain ⟨k, hk, rfl⟩ := List.mem_map.mp hw
  have hk := List.mem_range.mp hk
  rcases (show k = 0 ∨ k = 1 ∨ k = 2 ∨ k = 3 ∨ k = 4 by omega) with rfl | rfl | rfl | rfl | rfl
  · exact xh_1_52
  · exact xh_1_54
  · exact xh_1_56
  · exact xh_1_58
  · exact xh_1_60
theorem inSP : ∀ w ∈ u_ws RSP TSP 3, w ∈ xAll := by
  intro w hw
  obtain ⟨k, hk, rfl⟩ := List.mem_map.mp hw
  have hk := List.mem_range.mp hk
  rcases (show k = 0 ∨ k = 1 ∨ k = 2 by omega) with rfl | rfl | rfl
  · exact xh_1_90
  · exact xh_1_92
  · exact xh_1_94
theorem inVE : ∀ w ∈ u_ws RVE TVE 10, w ∈ xAll := by
  intro w hw
  obtain ⟨k, hk, rfl⟩ := List.mem_map.mp hw
  have hk := List.mem_range.mp hk
  rcases (show k = 0 ∨ k = 1 ∨ k = 2 ∨ k = 3 ∨ k = 4 ∨ k = 5 ∨ k = 6 ∨ k = 7 ∨ k = 8 ∨ k = 9 by omega) with rfl | rfl | rfl | rfl | rfl | rfl | rfl | rfl | rfl | rfl
  · exact xh_1_184
  · exact xh_1_186
  · exact xh_1_188
  · exact xh_1_190
  · exact xh_1_192
  · exact xh_1_194
  · exact xh_1_196
  · exact xh_1_198
  · exact xh_1_200
  · exact xh_1_202
theorem inEV : ∀ w ∈ u_ws REV TEV 8, w ∈ xAll := by
  intro w hw
  obtain ⟨k, hk, rfl⟩ := List.mem_map.mp hw
  have hk := List.mem_range.mp hk
  rcases (show k = 0 ∨ k = 1 ∨ k = 2 ∨ k = 3 ∨ k = 4 ∨ k = 5 ∨ k = 6 ∨ k = 7 by omega) with rfl | rfl | rfl | rfl | rfl | rfl | rfl | rfl
  · exact xh_1_107
  · exact xh_1_109
  · exact xh_1_111
  · exact xh_1_113
  · exact xh_1_115
  · exact xh_1_117
  · exact xh_1_119
  · exact xh_1_121
theorem inMO : ∀ w ∈ u_ws RMO TMO 23, w ∈ xAll := by
  intro w hw
  obtain ⟨k, hk, rfl⟩ := List.mem_map.mp hw
  have hk := List.mem_range.mp hk
  rcases (show k = 0 ∨ k = 1 ∨ k = 2 ∨ k = 3 ∨ k = 4 ∨ k = 5 ∨ k = 6 ∨ k = 7 ∨ k = 8 ∨ k = 9 ∨ k = 10 ∨ k = 11 ∨ k = 12 ∨ k = 13 ∨ k = 14 ∨ k = 15 ∨ k = 16 ∨ k = 17 ∨ k = 18 ∨ k = 19 ∨ k = 20 ∨ k = 21 ∨ k = 22 by omega) with rfl | rfl | rfl | rfl | rfl | rfl | rfl | rfl | rfl | rfl | rfl | rfl | rfl | rfl | rfl | rfl | rfl | rfl | rfl | rfl | rfl | rfl | rfl
  · exact xh_2_168
  · exact xh_2_170
  · exact xh_2_172
  · exact xh_2_174
  · exact xh_2_176
  · exact xh_2_178
  · exact xh_2_180
  · exact xh_2_182
  · exact xh_2_184
  · exact xh_2_186
  · exact xh_2_188
  · exact xh_2_190
  · exact xh_2_192
  · exact xh_2_194
  · exact xh_2_196
  · exact xh_2_198
  · exact xh_2_200
  · exact xh_2_202
  · exact xh_2_204
  · exact xh_2_206
  · exact xh_2_208
  · exact xh_2_210
  · exact xh_2_212
