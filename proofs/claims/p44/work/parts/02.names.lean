def RX0 : String := "NotaryKiosk$Act"
def TX0 : u_T := fun k => match k with
  | 0 => ("NotaryKiosk$Piece", "number", "I", false)
  | 1 => ("NotaryKiosk$Piece", "kiosk", "I", false)
  | 2 => ("NotaryKiosk$Piece", "hour", "I", false)
  | 3 => ("NotaryKiosk$Piece", "cameTo", "I", false)
  | 4 => ("NotaryKiosk$Piece", "readAt", "I", false)
  | 5 => ("NotaryKiosk$Piece", "came", "[I", true)
  | 6 => ("NotaryKiosk$Act", "power", "LNotaryKiosk$Power;", true)
  | 7 => ("NotaryKiosk$Act", "deed", "LNotaryKiosk$Deed;", true)
  | 8 => ("NotaryKiosk$Act", "told", "[I", true)
  | 9 => ("NotaryKiosk$Act", "keptSeal", "I", false)
  | _ => ("NotaryKiosk$Act", "stood", "Z", false)
def tyX0 : Nat → FieldType := fun k => match k with
  | 0 => .int
  | 1 => .int
  | 2 => .int
  | 3 => .int
  | 4 => .int
  | 5 => .array .int
  | 6 => .object "NotaryKiosk$Power"
  | 7 => .object "NotaryKiosk$Deed"
  | 8 => .array .int
  | 9 => .int
  | _ => .boolean
abbrev wsX00 : List Cond := u_ws RX0 TX0 11
theorem nmX0 : ∀ a, a < 11 → ∀ b, b < 11 → a ≠ b → (TX0 a).2.1 ≠ (TX0 b).2.1 := by decide +kernel
theorem tyX0_ok : ∀ k, k < 11 → parseFieldDescriptor (TX0 k).2.2.1 = some (tyX0 k) := by decide +kernel
abbrev cX0_init : ByteArray := prog_2_method_1_code
def yX0_init : MethodName := ⟨RX0, "<init>", "(LNotaryKiosk$Power;LNotaryKiosk$Deed;)V"⟩
abbrev cX0_amountBy : ByteArray := prog_2_method_2_code
def yX0_amountBy : MethodName := ⟨RX0, "amountBy", "(LNotaryKiosk$Power;)I"⟩
def RX1 : String := "NotaryKiosk$Chain"
def TX1 : u_T := fun k => match k with
  | 0 => ("NotaryKiosk$Chain", "kiosk", "I", true)
  | _ => ("NotaryKiosk$Chain", "acts", "Ljava/util/ArrayList;", true)
def tyX1 : Nat → FieldType := fun k => match k with
  | 0 => .int
  | _ => .object "java/util/ArrayList"
abbrev wsX10 : List Cond := u_ws RX1 TX1 2
theorem nmX1 : ∀ a, a < 2 → ∀ b, b < 2 → a ≠ b → (TX1 a).2.1 ≠ (TX1 b).2.1 := by decide +kernel
theorem tyX1_ok : ∀ k, k < 2 → parseFieldDescriptor (TX1 k).2.2.1 = some (tyX1 k) := by decide +kernel
abbrev cX1_init : ByteArray := prog_3_method_1_code
def yX1_init : MethodName := ⟨RX1, "<init>", "(I)V"⟩
abbrev cX1_count : ByteArray := prog_3_method_2_code
def yX1_count : MethodName := ⟨RX1, "count", "()I"⟩
abbrev cX1_actOf : ByteArray := prog_3_method_3_code
def yX1_actOf : MethodName := ⟨RX1, "actOf", "(I)LNotaryKiosk$Act;"⟩
abbrev cX1_enter : ByteArray := prog_3_method_4_code
def yX1_enter : MethodName := ⟨RX1, "enter", "(LNotaryKiosk$Act;)I"⟩
abbrev cX1_sealAhead : ByteArray := prog_3_method_5_code
def yX1_sealAhead : MethodName := ⟨RX1, "sealAhead", "(I)I"⟩
abbrev cX1_sealNow : ByteArray := prog_3_method_6_code
def yX1_sealNow : MethodName := ⟨RX1, "sealNow", "(ILNotaryKiosk$Act;)I"⟩
abbrev cX1_firstBroken : ByteArray := prog_3_method_7_code
def yX1_firstBroken : MethodName := ⟨RX1, "firstBroken", "()I"⟩
abbrev cX1_countStanding : ByteArray := prog_3_method_8_code
def yX1_countStanding : MethodName := ⟨RX1, "countStanding", "()I"⟩
def RX2 : String := "NotaryKiosk$Copy"
def TX2 : u_T := fun k => match k with
  | 0 => ("NotaryKiosk$Copy", "kiosk", "I", true)
  | 1 => ("NotaryKiosk$Copy", "first", "I", true)
  | 2 => ("NotaryKiosk$Copy", "places", "I", true)
  | 3 => ("NotaryKiosk$Copy", "leftOut", "I", true)
  | 4 => ("NotaryKiosk$Copy", "told", "[[I", true)
  | 5 => ("NotaryKiosk$Copy", "keptSeals", "[I", true)
  | _ => ("NotaryKiosk$Copy", "sealAhead", "I", false)
def tyX2 : Nat → FieldType := fun k => match k with
  | 0 => .int
  | 1 => .int
  | 2 => .int
  | 3 => .int
  | 4 => .array (.array .int)
  | 5 => .array .int
  | _ => .int
abbrev wsX20 : List Cond := u_ws RX2 TX2 7
theorem nmX2 : ∀ a, a < 7 → ∀ b, b < 7 → a ≠ b → (TX2 a).2.1 ≠ (TX2 b).2.1 := by decide +kernel
theorem tyX2_ok : ∀ k, k < 7 → parseFieldDescriptor (TX2 k).2.2.1 = some (tyX2 k) := by decide +kernel
abbrev cX2_init : ByteArray := prog_4_method_1_code
def yX2_init : MethodName := ⟨RX2, "<init>", "(IIII)V"⟩
abbrev cX2_leavesOut : ByteArray := prog_4_method_2_code
def yX2_leavesOut : MethodName := ⟨RX2, "leavesOut", "(I)Z"⟩
abbrev cX2_takeFrom : ByteArray := prog_4_method_3_code
def yX2_takeFrom : MethodName := ⟨RX2, "takeFrom", "(LNotaryKiosk$Chain;)V"⟩
abbrev cX2_firstBroken : ByteArray := prog_4_method_4_code
def yX2_firstBroken : MethodName := ⟨RX2, "firstBroken", "()I"⟩
abbrev cX2_tellsAs : ByteArray := prog_4_method_5_code
def yX2_tellsAs : MethodName := ⟨RX2, "tellsAs", "(LNotaryKiosk$Chain;)Z"⟩
abbrev cX2_tellsRecordAs : ByteArray := prog_4_method_6_code
def yX2_tellsRecordAs : MethodName := ⟨RX2, "tellsRecordAs", "(ILNotaryKiosk$Act;)Z"⟩
def RX3 : String := "NotaryKiosk$Deed"
def TX3 : u_T := fun k => match k with
  | 0 => ("NotaryKiosk$Deed", "kiosk", "I", true)
  | 1 => ("NotaryKiosk$Deed", "hour", "I", true)
  | 2 => ("NotaryKiosk$Deed", "person", "I", true)
  | 3 => ("NotaryKiosk$Deed", "kind", "I", true)
  | 4 => ("NotaryKiosk$Deed", "amount", "I", true)
  | _ => ("NotaryKiosk$Deed", "officer", "I", true)
def tyX3 : Nat → FieldType := fun k => match k with
  | 0 => .int
  | 1 => .int
  | 2 => .int
  | 3 => .int
  | 4 => .int
  | _ => .int
abbrev wsX30 : List Cond := u_ws RX3 TX3 6
theorem nmX3 : ∀ a, a < 6 → ∀ b, b < 6 → a ≠ b → (TX3 a).2.1 ≠ (TX3 b).2.1 := by decide +kernel
theorem tyX3_ok : ∀ k, k < 6 → parseFieldDescriptor (TX3 k).2.2.1 = some (tyX3 k) := by decide +kernel
abbrev cX3_init : ByteArray := prog_5_method_1_code
def yX3_init : MethodName := ⟨RX3, "<init>", "(IIIIII)V"⟩
def RX4 : String := "NotaryKiosk$Deputation"
def TX4 : u_T := fun k => match k with
  | 0 => ("NotaryKiosk$Piece", "number", "I", false)
  | 1 => ("NotaryKiosk$Piece", "kiosk", "I", false)
  | 2 => ("NotaryKiosk$Piece", "hour", "I", false)
  | 3 => ("NotaryKiosk$Piece", "cameTo", "I", false)
  | 4 => ("NotaryKiosk$Piece", "readAt", "I", false)
  | 5 => ("NotaryKiosk$Piece", "came", "[I", true)
  | 6 => ("NotaryKiosk$Deputation", "deputed", "I", true)
  | 7 => ("NotaryKiosk$Deputation", "from", "I", true)
  | _ => ("NotaryKiosk$Deputation", "to", "I", true)
def tyX4 : Nat → FieldType := fun k => match k with
  | 0 => .int
  | 1 => .int
  | 2 => .int
  | 3 => .int
  | 4 => .int
  | 5 => .array .int
  | 6 => .int
  | 7 => .int
  | _ => .int
abbrev wsX40 : List Cond := u_ws RX4 TX4 9
theorem nmX4 : ∀ a, a < 9 → ∀ b, b < 9 → a ≠ b → (TX4 a).2.1 ≠ (TX4 b).2.1 := by decide +kernel
theorem tyX4_ok : ∀ k, k < 9 → parseFieldDescriptor (TX4 k).2.2.1 = some (tyX4 k) := by decide +kernel
abbrev cX4_init : ByteArray := prog_6_method_1_code
def yX4_init : MethodName := ⟨RX4, "<init>", "(III)V"⟩
abbrev cX4_isDeputation : ByteArray := prog_6_method_2_code
def yX4_isDeputation : MethodName := ⟨RX4, "isDeputation", "(III)Z"⟩
def RX5 : String := "NotaryKiosk$Draft"
def TX5 : u_T := fun k => match k with
  | 0 => ("NotaryKiosk$Draft", "scope", "I", true)
  | 1 => ("NotaryKiosk$Draft", "limit", "I", true)
  | 2 => ("NotaryKiosk$Draft", "total", "I", true)
  | 3 => ("NotaryKiosk$Draft", "hours", "I", true)
  | _ => ("NotaryKiosk$Draft", "depth", "I", true)
def tyX5 : Nat → FieldType := fun k => match k with
  | 0 => .int
  | 1 => .int
  | 2 => .int
  | 3 => .int
  | _ => .int
abbrev wsX50 : List Cond := u_ws RX5 TX5 5
theorem nmX5 : ∀ a, a < 5 → ∀ b, b < 5 → a ≠ b → (TX5 a).2.1 ≠ (TX5 b).2.1 := by decide +kernel
theorem tyX5_ok : ∀ k, k < 5 → parseFieldDescriptor (TX5 k).2.2.1 = some (tyX5 k) := by decide +kernel
abbrev cX5_init : ByteArray := prog_7_method_1_code
def yX5_init : MethodName := ⟨RX5, "<init>", "(IIIII)V"⟩
def RX6 : String := "NotaryKiosk$Links"
def TX6 : u_T := fun k => match k with
  | 0 => ("NotaryKiosk$Links", "joinedTo", "[I", true)
  | _ => ("NotaryKiosk$Links", "joinedIn", "[I", true)
def tyX6 : Nat → FieldType := fun k => match k with
  | 0 => .array .int
  | _ => .array .int
abbrev wsX60 : List Cond := u_ws RX6 TX6 2
theorem nmX6 : ∀ a, a < 2 → ∀ b, b < 2 → a ≠ b → (TX6 a).2.1 ≠ (TX6 b).2.1 := by decide +kernel
theorem tyX6_ok : ∀ k, k < 2 → parseFieldDescriptor (TX6 k).2.2.1 = some (tyX6 k) := by decide +kernel
abbrev cX6_init : ByteArray := prog_8_method_1_code
def yX6_init : MethodName := ⟨RX6, "<init>", "()V"⟩
abbrev cX6_areLinked : ByteArray := prog_8_method_2_code
def yX6_areLinked : MethodName := ⟨RX6, "areLinked", "(II)Z"⟩
abbrev cX6_degree : ByteArray := prog_8_method_3_code
def yX6_degree : MethodName := ⟨RX6, "degree", "(I)I"⟩
abbrev cX6_turn : ByteArray := prog_8_method_4_code
def yX6_turn : MethodName := ⟨RX6, "turn", "(II)V"⟩
abbrev cX6_keep : ByteArray := prog_8_method_5_code
def yX6_keep : MethodName := ⟨RX6, "keep", "(I)V"⟩
abbrev cX6_reach : ByteArray := prog_8_method_6_code
def yX6_reach : MethodName := ⟨RX6, "reach", "(II)I"⟩
def RX7 : String := "NotaryKiosk$News"
def TX7 : u_T := fun k => match k with
  | 0 => ("NotaryKiosk$News", "pieces", "Ljava/util/ArrayList;", true)
  | _ => ("NotaryKiosk$News", "seen", "[Z", true)
def tyX7 : Nat → FieldType := fun k => match k with
  | 0 => .object "java/util/ArrayList"
  | _ => .array .boolean
abbrev wsX70 : List Cond := u_ws RX7 TX7 2
theorem nmX7 : ∀ a, a < 2 → ∀ b, b < 2 → a ≠ b → (TX7 a).2.1 ≠ (TX7 b).2.1 := by decide +kernel
theorem tyX7_ok : ∀ k, k < 2 → parseFieldDescriptor (TX7 k).2.2.1 = some (tyX7 k) := by decide +kernel
abbrev cX7_init : ByteArray := prog_9_method_1_code
def yX7_init : MethodName := ⟨RX7, "<init>", "()V"⟩
abbrev cX7_count : ByteArray := prog_9_method_2_code
def yX7_count : MethodName := ⟨RX7, "count", "()I"⟩
abbrev cX7_pieceAt : ByteArray := prog_9_method_3_code
def yX7_pieceAt : MethodName := ⟨RX7, "pieceAt", "(I)LNotaryKiosk$Piece;"⟩
abbrev cX7_publish : ByteArray := prog_9_method_4_code
def yX7_publish : MethodName := ⟨RX7, "publish", "(LNotaryKiosk$Piece;II)I"⟩
abbrev cX7_spread : ByteArray := prog_9_method_5_code
def yX7_spread : MethodName := ⟨RX7, "spread", "(LNotaryKiosk$Links;I)I"⟩
abbrev cX7_unread : ByteArray := prog_9_method_6_code
def yX7_unread : MethodName := ⟨RX7, "unread", "(I)I"⟩
abbrev cX7_readMail : ByteArray := prog_9_method_7_code
def yX7_readMail : MethodName := ⟨RX7, "readMail", "(I)I"⟩
abbrev cX7_lookAtRead : ByteArray := prog_9_method_8_code
def yX7_lookAtRead : MethodName := ⟨RX7, "lookAtRead", "(I)V"⟩
abbrev cX7_lookAtReadable : ByteArray := prog_9_method_9_code
def yX7_lookAtReadable : MethodName := ⟨RX7, "lookAtReadable", "(LNotaryKiosk$Piece;)V"⟩
abbrev cX7_lookAtAll : ByteArray := prog_9_method_10_code
def yX7_lookAtAll : MethodName := ⟨RX7, "lookAtAll", "()V"⟩
abbrev cX7_sees : ByteArray := prog_9_method_11_code
def yX7_sees : MethodName := ⟨RX7, "sees", "(I)Z"⟩
abbrev cX7_knows : ByteArray := prog_9_method_12_code
def yX7_knows : MethodName := ⟨RX7, "knows", "(LNotaryKiosk$Power;)Z"⟩
abbrev cX7_revokes : ByteArray := prog_9_method_13_code
def yX7_revokes : MethodName := ⟨RX7, "revokes", "(LNotaryKiosk$Power;)Z"⟩
abbrev cX7_revokesAlone : ByteArray := prog_9_method_14_code
def yX7_revokesAlone : MethodName := ⟨RX7, "revokesAlone", "(LNotaryKiosk$Power;)Z"⟩
abbrev cX7_doneWith : ByteArray := prog_9_method_15_code
def yX7_doneWith : MethodName := ⟨RX7, "doneWith", "(LNotaryKiosk$Power;)I"⟩
abbrev cX7_wouldPassTotal : ByteArray := prog_9_method_16_code
def yX7_wouldPassTotal : MethodName := ⟨RX7, "wouldPassTotal", "(LNotaryKiosk$Power;I)Z"⟩
abbrev cX7_deputes : ByteArray := prog_9_method_17_code
def yX7_deputes : MethodName := ⟨RX7, "deputes", "(III)Z"⟩
abbrev cX7_officerAt : ByteArray := prog_9_method_18_code
def yX7_officerAt : MethodName := ⟨RX7, "officerAt", "(II)I"⟩
abbrev cX7_reasonAgainst : ByteArray := prog_9_method_19_code
def yX7_reasonAgainst : MethodName := ⟨RX7, "reasonAgainst", "(LNotaryKiosk$Power;LNotaryKiosk$Deed;)I"⟩
def RX8 : String := "NotaryKiosk$Piece"
def TX8 : u_T := fun k => match k with
  | _ => ("", "", "", false)
def tyX8 : Nat → FieldType := fun k => match k with
  | _ => .int
abbrev wsX80 : List Cond := u_ws RX8 TX8 0
theorem nmX8 : ∀ a, a < 0 → ∀ b, b < 0 → a ≠ b → (TX8 a).2.1 ≠ (TX8 b).2.1 := by decide +kernel
theorem tyX8_ok : ∀ k, k < 0 → parseFieldDescriptor (TX8 k).2.2.1 = some (tyX8 k) := by decide +kernel
abbrev cX8_init : ByteArray := prog_10_method_1_code
def yX8_init : MethodName := ⟨RX8, "<init>", "()V"⟩
abbrev cX8_comeTo : ByteArray := prog_10_method_2_code
def yX8_comeTo : MethodName := ⟨RX8, "comeTo", "(II)V"⟩
abbrev cX8_isInMail : ByteArray := prog_10_method_3_code
def yX8_isInMail : MethodName := ⟨RX8, "isInMail", "(I)Z"⟩
abbrev cX8_couldBeReadFor : ByteArray := prog_10_method_4_code
def yX8_couldBeReadFor : MethodName := ⟨RX8, "couldBeReadFor", "(LNotaryKiosk$Piece;)Z"⟩
abbrev cX8_isRevocationOf : ByteArray := prog_10_method_5_code
def yX8_isRevocationOf : MethodName := ⟨RX8, "isRevocationOf", "(LNotaryKiosk$Power;)Z"⟩
abbrev cX8_isDeputation : ByteArray := prog_10_method_6_code
def yX8_isDeputation : MethodName := ⟨RX8, "isDeputation", "(III)Z"⟩
abbrev cX8_amountBy : ByteArray := prog_10_method_7_code
def yX8_amountBy : MethodName := ⟨RX8, "amountBy", "(LNotaryKiosk$Power;)I"⟩
def RX9 : String := "NotaryKiosk$Power"
def TX9 : u_T := fun k => match k with
  | 0 => ("NotaryKiosk$Piece", "number", "I", false)
  | 1 => ("NotaryKiosk$Piece", "kiosk", "I", false)
  | 2 => ("NotaryKiosk$Piece", "hour", "I", false)
  | 3 => ("NotaryKiosk$Piece", "cameTo", "I", false)
  | 4 => ("NotaryKiosk$Piece", "readAt", "I", false)
  | 5 => ("NotaryKiosk$Piece", "came", "[I", true)
  | 6 => ("NotaryKiosk$Power", "powerNumber", "I", true)
  | 7 => ("NotaryKiosk$Power", "source", "LNotaryKiosk$Power;", true)
  | 8 => ("NotaryKiosk$Power", "giver", "I", true)
  | 9 => ("NotaryKiosk$Power", "holder", "I", true)
  | 10 => ("NotaryKiosk$Power", "scope", "I", true)
  | 11 => ("NotaryKiosk$Power", "limit", "I", true)
  | 12 => ("NotaryKiosk$Power", "total", "I", true)
  | 13 => ("NotaryKiosk$Power", "lastHour", "I", true)
  | _ => ("NotaryKiosk$Power", "depth", "I", true)
def tyX9 : Nat → FieldType := fun k => match k with
  | 0 => .int
  | 1 => .int
  | 2 => .int
  | 3 => .int
  | 4 => .int
  | 5 => .array .int
  | 6 => .int
  | 7 => .object "NotaryKiosk$Power"
  | 8 => .int
  | 9 => .int
  | 10 => .int
  | 11 => .int
  | 12 => .int
  | 13 => .int
  | _ => .int
abbrev wsX90 : List Cond := u_ws RX9 TX9 15
theorem nmX9 : ∀ a, a < 15 → ∀ b, b < 15 → a ≠ b → (TX9 a).2.1 ≠ (TX9 b).2.1 := by decide +kernel
theorem tyX9_ok : ∀ k, k < 15 → parseFieldDescriptor (TX9 k).2.2.1 = some (tyX9 k) := by decide +kernel
abbrev cX9_init : ByteArray := prog_11_method_1_code
def yX9_init : MethodName := ⟨RX9, "<init>", "(ILNotaryKiosk$Power;IILNotaryKiosk$Draft;I)V"⟩
abbrev cX9_covers : ByteArray := prog_11_method_2_code
def yX9_covers : MethodName := ⟨RX9, "covers", "(LNotaryKiosk$Draft;I)Z"⟩
abbrev cX9_hasInLine : ByteArray := prog_11_method_3_code
def yX9_hasInLine : MethodName := ⟨RX9, "hasInLine", "(LNotaryKiosk$Power;)Z"⟩
abbrev cX9_hasGiver : ByteArray := prog_11_method_4_code
def yX9_hasGiver : MethodName := ⟨RX9, "hasGiver", "(I)Z"⟩
abbrev cX9_isOver : ByteArray := prog_11_method_5_code
def yX9_isOver : MethodName := ⟨RX9, "isOver", "(I)Z"⟩
abbrev cX9_limitsBelow : ByteArray := prog_11_method_6_code
def yX9_limitsBelow : MethodName := ⟨RX9, "limitsBelow", "(I)Z"⟩
def RX10 : String := "NotaryKiosk$Revocation"
def TX10 : u_T := fun k => match k with
  | 0 => ("NotaryKiosk$Piece", "number", "I", false)
  | 1 => ("NotaryKiosk$Piece", "kiosk", "I", false)
  | 2 => ("NotaryKiosk$Piece", "hour", "I", false)
  | 3 => ("NotaryKiosk$Piece", "cameTo", "I", false)
  | 4 => ("NotaryKiosk$Piece", "readAt", "I", false)
  | 5 => ("NotaryKiosk$Piece", "came", "[I", true)
  | _ => ("NotaryKiosk$Revocation", "revoked", "LNotaryKiosk$Power;", true)
def tyX10 : Nat → FieldType := fun k => match k with
  | 0 => .int
  | 1 => .int
  | 2 => .int
  | 3 => .int
  | 4 => .int
  | 5 => .array .int
  | _ => .object "NotaryKiosk$Power"
abbrev wsX100 : List Cond := u_ws RX10 TX10 7
theorem nmX10 : ∀ a, a < 7 → ∀ b, b < 7 → a ≠ b → (TX10 a).2.1 ≠ (TX10 b).2.1 := by decide +kernel
theorem tyX10_ok : ∀ k, k < 7 → parseFieldDescriptor (TX10 k).2.2.1 = some (tyX10 k) := by decide +kernel
abbrev cX10_init : ByteArray := prog_12_method_1_code
def yX10_init : MethodName := ⟨RX10, "<init>", "(LNotaryKiosk$Power;)V"⟩
abbrev cX10_isRevocationOf : ByteArray := prog_12_method_2_code
def yX10_isRevocationOf : MethodName := ⟨RX10, "isRevocationOf", "(LNotaryKiosk$Power;)Z"⟩
def RX11 : String := "NotaryKiosk"
def TX11 : u_T := fun k => match k with
  | 0 => ("NotaryKiosk", "links", "LNotaryKiosk$Links;", true)
  | 1 => ("NotaryKiosk", "news", "LNotaryKiosk$News;", true)
  | 2 => ("NotaryKiosk", "powers", "Ljava/util/ArrayList;", true)
  | 3 => ("NotaryKiosk", "chains", "[LNotaryKiosk$Chain;", true)
  | 4 => ("NotaryKiosk", "copies", "Ljava/util/ArrayList;", true)
  | 5 => ("NotaryKiosk", "hour", "I", false)
  | 6 => ("NotaryKiosk", "draft", "LNotaryKiosk$Draft;", false)
  | 7 => ("NotaryKiosk", "officer", "I", false)
  | _ => ("NotaryKiosk", "kind", "I", false)
def tyX11 : Nat → FieldType := fun k => match k with
  | 0 => .object "NotaryKiosk$Links"
  | 1 => .object "NotaryKiosk$News"
  | 2 => .object "java/util/ArrayList"
  | 3 => .array (.object "NotaryKiosk$Chain")
  | 4 => .object "java/util/ArrayList"
  | 5 => .int
  | 6 => .object "NotaryKiosk$Draft"
  | 7 => .int
  | _ => .int
abbrev wsX110 : List Cond := u_ws RX11 TX11 9
theorem nmX11 : ∀ a, a < 9 → ∀ b, b < 9 → a ≠ b → (TX11 a).2.1 ≠ (TX11 b).2.1 := by decide +kernel
theorem tyX11_ok : ∀ k, k < 9 → parseFieldDescriptor (TX11 k).2.2.1 = some (tyX11 k) := by decide +kernel
abbrev cX11_init : ByteArray := prog_1_method_1_code
def yX11_init : MethodName := ⟨RX11, "<init>", "()V"⟩
abbrev cX11_join : ByteArray := prog_1_method_2_code
def yX11_join : MethodName := ⟨RX11, "join", "(II)I"⟩
abbrev cX11_cut : ByteArray := prog_1_method_3_code
def yX11_cut : MethodName := ⟨RX11, "cut", "(II)I"⟩
abbrev cX11_pass : ByteArray := prog_1_method_4_code
def yX11_pass : MethodName := ⟨RX11, "pass", "(I)I"⟩
abbrev cX11_read : ByteArray := prog_1_method_5_code
def yX11_read : MethodName := ⟨RX11, "read", "(I)I"⟩
abbrev cX11_draft : ByteArray := prog_1_method_6_code
def yX11_draft : MethodName := ⟨RX11, "draft", "(IIIII)V"⟩
abbrev cX11_grant : ByteArray := prog_1_method_7_code
def yX11_grant : MethodName := ⟨RX11, "grant", "(III)I"⟩
abbrev cX11_passOn : ByteArray := prog_1_method_8_code
def yX11_passOn : MethodName := ⟨RX11, "passOn", "(III)I"⟩
abbrev cX11_revoke : ByteArray := prog_1_method_9_code
def yX11_revoke : MethodName := ⟨RX11, "revoke", "(III)I"⟩
abbrev cX11_depute : ByteArray := prog_1_method_10_code
def yX11_depute : MethodName := ⟨RX11, "depute", "(III)I"⟩
abbrev cX11_prepare : ByteArray := prog_1_method_11_code
def yX11_prepare : MethodName := ⟨RX11, "prepare", "(II)V"⟩
abbrev cX11_act : ByteArray := prog_1_method_12_code
def yX11_act : MethodName := ⟨RX11, "act", "(IIII)I"⟩
abbrev cX11_tamper : ByteArray := prog_1_method_13_code
def yX11_tamper : MethodName := ⟨RX11, "tamper", "(III)I"⟩
abbrev cX11_copy : ByteArray := prog_1_method_14_code
def yX11_copy : MethodName := ⟨RX11, "copy", "(IIII)I"⟩
abbrev cX11_forge : ByteArray := prog_1_method_15_code
def yX11_forge : MethodName := ⟨RX11, "forge", "(IIII)I"⟩
abbrev cX11_hour : ByteArray := prog_1_method_16_code
def yX11_hour : MethodName := ⟨RX11, "hour", "()I"⟩
abbrev cX11_news : ByteArray := prog_1_method_17_code
def yX11_news : MethodName := ⟨RX11, "news", "()I"⟩
abbrev cX11_powers : ByteArray := prog_1_method_18_code
def yX11_powers : MethodName := ⟨RX11, "powers", "()I"⟩
abbrev cX11_records : ByteArray := prog_1_method_19_code
def yX11_records : MethodName := ⟨RX11, "records", "(I)I"⟩
abbrev cX11_areJoined : ByteArray := prog_1_method_20_code
def yX11_areJoined : MethodName := ⟨RX11, "areJoined", "(II)Z"⟩
abbrev cX11_came : ByteArray := prog_1_method_21_code
def yX11_came : MethodName := ⟨RX11, "came", "(II)I"⟩
abbrev cX11_cameByLinks : ByteArray := prog_1_method_22_code
def yX11_cameByLinks : MethodName := ⟨RX11, "cameByLinks", "(II)I"⟩
abbrev cX11_isRead : ByteArray := prog_1_method_23_code
def yX11_isRead : MethodName := ⟨RX11, "isRead", "(II)Z"⟩
abbrev cX11_mail : ByteArray := prog_1_method_24_code
def yX11_mail : MethodName := ⟨RX11, "mail", "(I)I"⟩
abbrev cX11_source : ByteArray := prog_1_method_25_code
def yX11_source : MethodName := ⟨RX11, "source", "(I)I"⟩
abbrev cX11_holder : ByteArray := prog_1_method_26_code
def yX11_holder : MethodName := ⟨RX11, "holder", "(I)I"⟩
abbrev cX11_isGood : ByteArray := prog_1_method_27_code
def yX11_isGood : MethodName := ⟨RX11, "isGood", "(II)Z"⟩
abbrev cX11_done : ByteArray := prog_1_method_28_code
def yX11_done : MethodName := ⟨RX11, "done", "(II)I"⟩
abbrev cX11_against : ByteArray := prog_1_method_30_code
def yX11_against : MethodName := ⟨RX11, "against", "(IIII)I"⟩
abbrev cX11_choices : ByteArray := prog_1_method_31_code
def yX11_choices : MethodName := ⟨RX11, "choices", "(III)I"⟩
abbrev cX11_stands : ByteArray := prog_1_method_32_code
def yX11_stands : MethodName := ⟨RX11, "stands", "(II)Z"⟩
abbrev cX11_fault : ByteArray := prog_1_method_33_code
def yX11_fault : MethodName := ⟨RX11, "fault", "(II)I"⟩
abbrev cX11_standing : ByteArray := prog_1_method_34_code
def yX11_standing : MethodName := ⟨RX11, "standing", "()I"⟩
abbrev cX11_pieceOf : ByteArray := prog_1_method_35_code
def yX11_pieceOf : MethodName := ⟨RX11, "pieceOf", "(II)I"⟩
abbrev cX11_part : ByteArray := prog_1_method_36_code
def yX11_part : MethodName := ⟨RX11, "part", "(III)I"⟩
abbrev cX11_seal : ByteArray := prog_1_method_37_code
def yX11_seal : MethodName := ⟨RX11, "seal", "(II)I"⟩
abbrev cX11_broken : ByteArray := prog_1_method_38_code
def yX11_broken : MethodName := ⟨RX11, "broken", "(I)I"⟩
abbrev cX11_size : ByteArray := prog_1_method_39_code
def yX11_size : MethodName := ⟨RX11, "size", "(I)I"⟩
abbrev cX11_copied : ByteArray := prog_1_method_40_code
def yX11_copied : MethodName := ⟨RX11, "copied", "(III)I"⟩
abbrev cX11_brokenCopy : ByteArray := prog_1_method_41_code
def yX11_brokenCopy : MethodName := ⟨RX11, "brokenCopy", "(I)I"⟩
abbrev cX11_isTrue : ByteArray := prog_1_method_42_code
def yX11_isTrue : MethodName := ⟨RX11, "isTrue", "(I)Z"⟩
abbrev cX11_makePower : ByteArray := prog_1_method_43_code
def yX11_makePower : MethodName := ⟨RX11, "makePower", "(ILNotaryKiosk$Power;II)I"⟩
abbrev cX11_deedNow : ByteArray := prog_1_method_44_code
def yX11_deedNow : MethodName := ⟨RX11, "deedNow", "(III)LNotaryKiosk$Deed;"⟩
abbrev cX11_isGoodAt : ByteArray := prog_1_method_45_code
def yX11_isGoodAt : MethodName := ⟨RX11, "isGoodAt", "(ILNotaryKiosk$Power;)Z"⟩
abbrev cX11_reasonByMail : ByteArray := prog_1_method_46_code
def yX11_reasonByMail : MethodName := ⟨RX11, "reasonByMail", "(LNotaryKiosk$Act;)I"⟩
abbrev cX11_mustBeKiosk : ByteArray := prog_1_method_47_code
def yX11_mustBeKiosk : MethodName := ⟨RX11, "mustBeKiosk", "(I)V"⟩
abbrev cX11_mustBeTwoKiosks : ByteArray := prog_1_method_48_code
def yX11_mustBeTwoKiosks : MethodName := ⟨RX11, "mustBeTwoKiosks", "(II)V"⟩
abbrev cX11_mustBePerson : ByteArray := prog_1_method_49_code
def yX11_mustBePerson : MethodName := ⟨RX11, "mustBePerson", "(I)V"⟩
abbrev cX11_mustBeOtherPerson : ByteArray := prog_1_method_50_code
def yX11_mustBeOtherPerson : MethodName := ⟨RX11, "mustBeOtherPerson", "(II)V"⟩
abbrev cX11_mustBePart : ByteArray := prog_1_method_51_code
def yX11_mustBePart : MethodName := ⟨RX11, "mustBePart", "(I)V"⟩
abbrev cX11_mustBeWithin : ByteArray := prog_1_method_52_code
def yX11_mustBeWithin : MethodName := ⟨RX11, "mustBeWithin", "(III)V"⟩
abbrev cX11_mustBePower : ByteArray := prog_1_method_53_code
def yX11_mustBePower : MethodName := ⟨RX11, "mustBePower", "(I)V"⟩
abbrev cX11_mustBePiece : ByteArray := prog_1_method_54_code
def yX11_mustBePiece : MethodName := ⟨RX11, "mustBePiece", "(I)V"⟩
abbrev cX11_mustBeRecord : ByteArray := prog_1_method_55_code
def yX11_mustBeRecord : MethodName := ⟨RX11, "mustBeRecord", "(II)V"⟩
abbrev cX11_mustBeCopy : ByteArray := prog_1_method_56_code
def yX11_mustBeCopy : MethodName := ⟨RX11, "mustBeCopy", "(I)V"⟩
abbrev cX11_mustBePlace : ByteArray := prog_1_method_57_code
def yX11_mustBePlace : MethodName := ⟨RX11, "mustBePlace", "(II)V"⟩
abbrev cX11_mustHaveRoomForNews : ByteArray := prog_1_method_58_code
def yX11_mustHaveRoomForNews : MethodName := ⟨RX11, "mustHaveRoomForNews", "()V"⟩
abbrev cX11_mustHaveRoomForPower : ByteArray := prog_1_method_59_code
def yX11_mustHaveRoomForPower : MethodName := ⟨RX11, "mustHaveRoomForPower", "()V"⟩
abbrev cX11_bit : ByteArray := prog_1_method_60_code
def yX11_bit : MethodName := ⟨RX11, "bit", "(I)I"⟩
abbrev cX11_hasBit : ByteArray := prog_1_method_61_code
def yX11_hasBit : MethodName := ⟨RX11, "hasBit", "(II)Z"⟩
abbrev cX11_sealOf : ByteArray := prog_1_method_62_code
def yX11_sealOf : MethodName := ⟨RX11, "sealOf", "(II)I"⟩
abbrev cX11_saltOf : ByteArray := prog_1_method_63_code
def yX11_saltOf : MethodName := ⟨RX11, "saltOf", "(III)I"⟩
abbrev cX11_markOf : ByteArray := prog_1_method_64_code
def yX11_markOf : MethodName := ⟨RX11, "markOf", "(IIII)I"⟩
abbrev cX11_sealFrom : ByteArray := prog_1_method_65_code
def yX11_sealFrom : MethodName := ⟨RX11, "sealFrom", "(III[II)I"⟩
def RX12 : String := "NotaryKioskModel"
def TX12 : u_T := fun k => match k with
  | _ => ("", "", "", false)
def tyX12 : Nat → FieldType := fun k => match k with
  | _ => .int
abbrev wsX120 : List Cond := u_ws RX12 TX12 0
theorem nmX12 : ∀ a, a < 0 → ∀ b, b < 0 → a ≠ b → (TX12 a).2.1 ≠ (TX12 b).2.1 := by decide +kernel
theorem tyX12_ok : ∀ k, k < 0 → parseFieldDescriptor (TX12 k).2.2.1 = some (tyX12 k) := by decide +kernel
def RJx145de : String := "java/io/Serializable"
def TJx145de : u_T := fun k => match k with
  | _ => ("", "", "", false)
def tyJx145de : Nat → FieldType := fun k => match k with
  | _ => .int
abbrev wsJx145de0 : List Cond := u_ws RJx145de TJx145de 0
theorem nmJx145de : ∀ a, a < 0 → ∀ b, b < 0 → a ≠ b → (TJx145de a).2.1 ≠ (TJx145de b).2.1 := by decide +kernel
theorem tyJx145de_ok : ∀ k, k < 0 → parseFieldDescriptor (TJx145de k).2.2.1 = some (tyJx145de k) := by decide +kernel
def RJx8e188 : String := "java/lang/Cloneable"
def TJx8e188 : u_T := fun k => match k with
  | _ => ("", "", "", false)
def tyJx8e188 : Nat → FieldType := fun k => match k with
  | _ => .int
abbrev wsJx8e1880 : List Cond := u_ws RJx8e188 TJx8e188 0
theorem nmJx8e188 : ∀ a, a < 0 → ∀ b, b < 0 → a ≠ b → (TJx8e188 a).2.1 ≠ (TJx8e188 b).2.1 := by decide +kernel
theorem tyJx8e188_ok : ∀ k, k < 0 → parseFieldDescriptor (TJx8e188 k).2.2.1 = some (tyJx8e188 k) := by decide +kernel
def RJ6 : String := "java/lang/Integer"
def TJ6 : u_T := fun k => match k with
  | _ => ("", "", "", false)
def tyJ6 : Nat → FieldType := fun k => match k with
  | _ => .int
abbrev wsJ60 : List Cond := u_ws RJ6 TJ6 0
theorem nmJ6 : ∀ a, a < 0 → ∀ b, b < 0 → a ≠ b → (TJ6 a).2.1 ≠ (TJ6 b).2.1 := by decide +kernel
theorem tyJ6_ok : ∀ k, k < 0 → parseFieldDescriptor (TJ6 k).2.2.1 = some (tyJ6 k) := by decide +kernel
abbrev cJ6_bitCount_0f7a4 : ByteArray := prog_21_method_49_code
def yJ6_bitCount_0f7a4 : MethodName := ⟨RJ6, "bitCount", "(I)I"⟩
def RJxab1ab : String := "java/lang/Iterable"
def TJxab1ab : u_T := fun k => match k with
  | _ => ("", "", "", false)
def tyJxab1ab : Nat → FieldType := fun k => match k with
  | _ => .int
abbrev wsJxab1ab0 : List Cond := u_ws RJxab1ab TJxab1ab 0
theorem nmJxab1ab : ∀ a, a < 0 → ∀ b, b < 0 → a ≠ b → (TJxab1ab a).2.1 ≠ (TJxab1ab b).2.1 := by decide +kernel
theorem tyJxab1ab_ok : ∀ k, k < 0 → parseFieldDescriptor (TJxab1ab k).2.2.1 = some (tyJxab1ab k) := by decide +kernel
def RJ9 : String := "java/lang/Math"
def TJ9 : u_T := fun k => match k with
  | _ => ("", "", "", false)
def tyJ9 : Nat → FieldType := fun k => match k with
  | _ => .int
abbrev wsJ90 : List Cond := u_ws RJ9 TJ9 0
theorem nmJ9 : ∀ a, a < 0 → ∀ b, b < 0 → a ≠ b → (TJ9 a).2.1 ≠ (TJ9 b).2.1 := by decide +kernel
theorem tyJ9_ok : ∀ k, k < 0 → parseFieldDescriptor (TJ9 k).2.2.1 = some (tyJ9 k) := by decide +kernel
abbrev cJ9_max_7cf53 : ByteArray := prog_23_method_65_code
def yJ9_max_7cf53 : MethodName := ⟨RJ9, "max", "(II)I"⟩
abbrev cJ9_min_7cf53 : ByteArray := prog_23_method_69_code
def yJ9_min_7cf53 : MethodName := ⟨RJ9, "min", "(II)I"⟩
def RJ0 : String := "java/lang/String"
def TJ0 : u_T := fun k => match k with
  | _ => ("", "", "", false)
def tyJ0 : Nat → FieldType := fun k => match k with
  | _ => .int
abbrev wsJ00 : List Cond := u_ws RJ0 TJ0 0
theorem nmJ0 : ∀ a, a < 0 → ∀ b, b < 0 → a ≠ b → (TJ0 a).2.1 ≠ (TJ0 b).2.1 := by decide +kernel
theorem tyJ0_ok : ∀ k, k < 0 → parseFieldDescriptor (TJ0 k).2.2.1 = some (tyJ0 k) := by decide +kernel
def RJ10 : String := "java/lang/System"
def TJ10 : u_T := fun k => match k with
  | _ => ("", "", "", false)
def tyJ10 : Nat → FieldType := fun k => match k with
  | _ => .int
abbrev wsJ100 : List Cond := u_ws RJ10 TJ10 0
theorem nmJ10 : ∀ a, a < 0 → ∀ b, b < 0 → a ≠ b → (TJ10 a).2.1 ≠ (TJ10 b).2.1 := by decide +kernel
theorem tyJ10_ok : ∀ k, k < 0 → parseFieldDescriptor (TJ10 k).2.2.1 = some (tyJ10 k) := by decide +kernel
def RJxa1e45 : String := "java/util/AbstractCollection"
def TJxa1e45 : u_T := fun k => match k with
  | _ => ("", "", "", false)
def tyJxa1e45 : Nat → FieldType := fun k => match k with
  | _ => .int
abbrev wsJxa1e450 : List Cond := u_ws RJxa1e45 TJxa1e45 0
theorem nmJxa1e45 : ∀ a, a < 0 → ∀ b, b < 0 → a ≠ b → (TJxa1e45 a).2.1 ≠ (TJxa1e45 b).2.1 := by decide +kernel
theorem tyJxa1e45_ok : ∀ k, k < 0 → parseFieldDescriptor (TJxa1e45 k).2.2.1 = some (tyJxa1e45 k) := by decide +kernel
abbrev cJxa1e45_init_da8c8 : ByteArray := prog_28_method_1_code
def yJxa1e45_init_da8c8 : MethodName := ⟨RJxa1e45, "<init>", "()V"⟩
def RJxc12de : String := "java/util/AbstractList"
def TJxc12de : u_T := fun k => match k with
  | _ => ("", "", "", false)
def tyJxc12de : Nat → FieldType := fun k => match k with
  | _ => .int
abbrev wsJxc12de0 : List Cond := u_ws RJxc12de TJxc12de 0
theorem nmJxc12de : ∀ a, a < 0 → ∀ b, b < 0 → a ≠ b → (TJxc12de a).2.1 ≠ (TJxc12de b).2.1 := by decide +kernel
theorem tyJxc12de_ok : ∀ k, k < 0 → parseFieldDescriptor (TJxc12de k).2.2.1 = some (tyJxc12de k) := by decide +kernel
abbrev cJxc12de_init_da8c8 : ByteArray := prog_29_method_1_code
def yJxc12de_init_da8c8 : MethodName := ⟨RJxc12de, "<init>", "()V"⟩
def RJx4a65c : String := "java/util/ArrayList"
def TJx4a65c : u_T := fun k => match k with
  | 0 => ("java/util/AbstractList", "modCount", "I", false)
  | 1 => ("java/util/ArrayList", "elementData", "[Ljava/lang/Object;", false)
  | _ => ("java/util/ArrayList", "size", "I", false)
def tyJx4a65c : Nat → FieldType := fun k => match k with
  | 0 => .int
  | 1 => .array (.object "java/lang/Object")
  | _ => .int
abbrev wsJx4a65c0 : List Cond := u_ws RJx4a65c TJx4a65c 3
theorem nmJx4a65c : ∀ a, a < 3 → ∀ b, b < 3 → a ≠ b → (TJx4a65c a).2.1 ≠ (TJx4a65c b).2.1 := by decide +kernel
theorem tyJx4a65c_ok : ∀ k, k < 3 → parseFieldDescriptor (TJx4a65c k).2.2.1 = some (tyJx4a65c k) := by decide +kernel
abbrev cJx4a65c_init_da8c8 : ByteArray := prog_30_method_2_code
def yJx4a65c_init_da8c8 : MethodName := ⟨RJx4a65c, "<init>", "()V"⟩
abbrev cJx4a65c_grow_92f84 : ByteArray := prog_30_method_6_code
def yJx4a65c_grow_92f84 : MethodName := ⟨RJx4a65c, "grow", "(I)[Ljava/lang/Object;"⟩
abbrev cJx4a65c_grow_d5877 : ByteArray := prog_30_method_7_code
def yJx4a65c_grow_d5877 : MethodName := ⟨RJx4a65c, "grow", "()[Ljava/lang/Object;"⟩
abbrev cJx4a65c_size_8abf5 : ByteArray := prog_30_method_8_code
def yJx4a65c_size_8abf5 : MethodName := ⟨RJx4a65c, "size", "()I"⟩
abbrev cJx4a65c_elementData_915e3 : ByteArray := prog_30_method_18_code
def yJx4a65c_elementData_915e3 : MethodName := ⟨RJx4a65c, "elementData", "(I)Ljava/lang/Object;"⟩
abbrev cJx4a65c_get_915e3 : ByteArray := prog_30_method_20_code
def yJx4a65c_get_915e3 : MethodName := ⟨RJx4a65c, "get", "(I)Ljava/lang/Object;"⟩
abbrev cJx4a65c_add_72be8 : ByteArray := prog_30_method_24_code
def yJx4a65c_add_72be8 : MethodName := ⟨RJx4a65c, "add", "(Ljava/lang/Object;[Ljava/lang/Object;I)V"⟩
abbrev cJx4a65c_add_9ea2d : ByteArray := prog_30_method_25_code
def yJx4a65c_add_9ea2d : MethodName := ⟨RJx4a65c, "add", "(Ljava/lang/Object;)Z"⟩
def RJ7 : String := "java/util/Arrays"
def TJ7 : u_T := fun k => match k with
  | _ => ("", "", "", false)
def tyJ7 : Nat → FieldType := fun k => match k with
  | _ => .int
abbrev wsJ70 : List Cond := u_ws RJ7 TJ7 0
theorem nmJ7 : ∀ a, a < 0 → ∀ b, b < 0 → a ≠ b → (TJ7 a).2.1 ≠ (TJ7 b).2.1 := by decide +kernel
theorem tyJ7_ok : ∀ k, k < 0 → parseFieldDescriptor (TJ7 k).2.2.1 = some (tyJ7 k) := by decide +kernel
abbrev cJ7_fill_53178 : ByteArray := prog_31_method_103_code
def yJ7_fill_53178 : MethodName := ⟨RJ7, "fill", "([II)V"⟩
abbrev cJ7_copyOf_1904c : ByteArray := prog_31_method_119_code
def yJ7_copyOf_1904c : MethodName := ⟨RJ7, "copyOf", "([Ljava/lang/Object;I)[Ljava/lang/Object;"⟩
abbrev cJ7_copyOf_6403c : ByteArray := prog_31_method_120_code
def yJ7_copyOf_6403c : MethodName := ⟨RJ7, "copyOf", "([Ljava/lang/Object;ILjava/lang/Class;)[Ljava/lang/Object;"⟩
def RJx5ef63 : String := "java/util/Collection"
def TJx5ef63 : u_T := fun k => match k with
  | _ => ("", "", "", false)
def tyJx5ef63 : Nat → FieldType := fun k => match k with
  | _ => .int
abbrev wsJx5ef630 : List Cond := u_ws RJx5ef63 TJx5ef63 0
theorem nmJx5ef63 : ∀ a, a < 0 → ∀ b, b < 0 → a ≠ b → (TJx5ef63 a).2.1 ≠ (TJx5ef63 b).2.1 := by decide +kernel
theorem tyJx5ef63_ok : ∀ k, k < 0 → parseFieldDescriptor (TJx5ef63 k).2.2.1 = some (tyJx5ef63 k) := by decide +kernel
def RJxbd725 : String := "java/util/List"
def TJxbd725 : u_T := fun k => match k with
  | _ => ("", "", "", false)
def tyJxbd725 : Nat → FieldType := fun k => match k with
  | _ => .int
abbrev wsJxbd7250 : List Cond := u_ws RJxbd725 TJxbd725 0
theorem nmJxbd725 : ∀ a, a < 0 → ∀ b, b < 0 → a ≠ b → (TJxbd725 a).2.1 ≠ (TJxbd725 b).2.1 := by decide +kernel
theorem tyJxbd725_ok : ∀ k, k < 0 → parseFieldDescriptor (TJxbd725 k).2.2.1 = some (tyJxbd725 k) := by decide +kernel
def RJ15 : String := "java/util/Objects"
def TJ15 : u_T := fun k => match k with
  | _ => ("", "", "", false)
def tyJ15 : Nat → FieldType := fun k => match k with
  | _ => .int
abbrev wsJ150 : List Cond := u_ws RJ15 TJ15 0
theorem nmJ15 : ∀ a, a < 0 → ∀ b, b < 0 → a ≠ b → (TJ15 a).2.1 ≠ (TJ15 b).2.1 := by decide +kernel
theorem tyJ15_ok : ∀ k, k < 0 → parseFieldDescriptor (TJ15 k).2.2.1 = some (tyJ15 k) := by decide +kernel
abbrev cJ15_checkIndex_7cf53 : ByteArray := prog_34_method_17_code
def yJ15_checkIndex_7cf53 : MethodName := ⟨RJ15, "checkIndex", "(II)I"⟩
def RJxf0a74 : String := "java/util/RandomAccess"
def TJxf0a74 : u_T := fun k => match k with
  | _ => ("", "", "", false)
def tyJxf0a74 : Nat → FieldType := fun k => match k with
  | _ => .int
abbrev wsJxf0a740 : List Cond := u_ws RJxf0a74 TJxf0a74 0
theorem nmJxf0a74 : ∀ a, a < 0 → ∀ b, b < 0 → a ≠ b → (TJxf0a74 a).2.1 ≠ (TJxf0a74 b).2.1 := by decide +kernel
theorem tyJxf0a74_ok : ∀ k, k < 0 → parseFieldDescriptor (TJxf0a74 k).2.2.1 = some (tyJxf0a74 k) := by decide +kernel
def RJxa66e6 : String := "java/util/SequencedCollection"
def TJxa66e6 : u_T := fun k => match k with
  | _ => ("", "", "", false)
def tyJxa66e6 : Nat → FieldType := fun k => match k with
  | _ => .int
abbrev wsJxa66e60 : List Cond := u_ws RJxa66e6 TJxa66e6 0
theorem nmJxa66e6 : ∀ a, a < 0 → ∀ b, b < 0 → a ≠ b → (TJxa66e6 a).2.1 ≠ (TJxa66e6 b).2.1 := by decide +kernel
theorem tyJxa66e6_ok : ∀ k, k < 0 → parseFieldDescriptor (TJxa66e6 k).2.2.1 = some (tyJxa66e6 k) := by decide +kernel
def RJ8 : String := "jdk/internal/util/ArraysSupport"
def TJ8 : u_T := fun k => match k with
  | _ => ("", "", "", false)
def tyJ8 : Nat → FieldType := fun k => match k with
  | _ => .int
abbrev wsJ80 : List Cond := u_ws RJ8 TJ8 0
theorem nmJ8 : ∀ a, a < 0 → ∀ b, b < 0 → a ≠ b → (TJ8 a).2.1 ≠ (TJ8 b).2.1 := by decide +kernel
theorem tyJ8_ok : ∀ k, k < 0 → parseFieldDescriptor (TJ8 k).2.2.1 = some (tyJ8 k) := by decide +kernel
abbrev cJ8_newLength_cabcc : ByteArray := prog_37_method_27_code
def yJ8_newLength_cabcc : MethodName := ⟨RJ8, "newLength", "(III)I"⟩
abbrev cJ8_hugeLength_7cf53 : ByteArray := prog_37_method_28_code
def yJ8_hugeLength_7cf53 : MethodName := ⟨RJ8, "hugeLength", "(II)I"⟩
def RJ3 : String := "jdk/internal/util/Preconditions"
def TJ3 : u_T := fun k => match k with
  | _ => ("", "", "", false)
def tyJ3 : Nat → FieldType := fun k => match k with
  | _ => .int
abbrev wsJ30 : List Cond := u_ws RJ3 TJ3 0
theorem nmJ3 : ∀ a, a < 0 → ∀ b, b < 0 → a ≠ b → (TJ3 a).2.1 ≠ (TJ3 b).2.1 := by decide +kernel
theorem tyJ3_ok : ∀ k, k < 0 → parseFieldDescriptor (TJ3 k).2.2.1 = some (tyJ3 k) := by decide +kernel
abbrev cJ3_checkIndex_8e157 : ByteArray := prog_38_method_11_code
def yJ3_checkIndex_8e157 : MethodName := ⟨RJ3, "checkIndex", "(IILjava/util/function/BiFunction;)I"⟩
def RL : String := "NotaryKioskLaw"
abbrev cL_cell : ByteArray := method_2_code
def yL_cell : MethodName := ⟨RL, "cell", "([II)I"⟩
abbrev cL_low : ByteArray := method_3_code
def yL_low : MethodName := ⟨RL, "low", "(II)I"⟩
abbrev cL_does : ByteArray := method_4_code
def yL_does : MethodName := ⟨RL, "does", "(LNotaryKiosk;IIIII)I"⟩
abbrev cL_tell : ByteArray := method_5_code
def yL_tell : MethodName := ⟨RL, "tell", "(LNotaryKiosk;ZIIIII)I"⟩
abbrev cL_tells : ByteArray := method_6_code
def yL_tells : MethodName := ⟨RL, "tells", "(LNotaryKiosk;ZIIIII)I"⟩
abbrev cL_looks : ByteArray := method_7_code
def yL_looks : MethodName := ⟨RL, "looks", "(LNotaryKiosk;III)I"⟩
abbrev cL_act : ByteArray := method_8_code
def yL_act : MethodName := ⟨RL, "act", "(LNotaryKiosk;I)I"⟩
abbrev cL_areAlike : ByteArray := method_9_code
def yL_areAlike : MethodName := ⟨RL, "areAlike", "(LNotaryKiosk;LNotaryKiosk;)Z"⟩
abbrev cL_isNewsSo : ByteArray := method_10_code
def yL_isNewsSo : MethodName := ⟨RL, "isNewsSo", "(LNotaryKiosk;I)Z"⟩
abbrev cL_isActSo : ByteArray := method_11_code
def yL_isActSo : MethodName := ⟨RL, "isActSo", "(LNotaryKiosk;LNotaryKiosk;III)Z"⟩
abbrev cL_isTamperedSo : ByteArray := method_12_code
def yL_isTamperedSo : MethodName := ⟨RL, "isTamperedSo", "(LNotaryKiosk;LNotaryKiosk;III)Z"⟩
abbrev cL_isCopySo : ByteArray := method_13_code
def yL_isCopySo : MethodName := ⟨RL, "isCopySo", "(LNotaryKiosk;LNotaryKiosk;II)Z"⟩
abbrev cL_law : ByteArray := code
def yL_law : MethodName := ⟨RL, "law", "([I)Z"⟩
