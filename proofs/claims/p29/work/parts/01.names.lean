-- ===== PART A: goes FIRST, ahead of the names: the tables' words, and 'selects' of the private methods out of them =====
/-- a private method of a class that the tables say can be made, by its rows of tables_1 -/
def lw_okq (q : MethodName × Nat) : Prop := (q.1.cls ≠ "java/lang/invoke/MethodHandle" ∧ q.1.cls ≠ "java/lang/invoke/VarHandle") ∧ Cond.instantiable q.1.cls q.2 ∈ tables_1 ∧ Cond.privateMethod q.1 ∈ tables_1 ∧ Cond.instanceMethod q.1 ∈ tables_1
theorem lw_p0 : lw_okq (⟨"MovedStalls", "stallToday", "()I"⟩, 7) := ⟨⟨by decide +kernel, by decide +kernel⟩, List.mem_of_getElem? (i := 11) (by decide +kernel), List.mem_of_getElem? (i := 239) (by decide +kernel), List.mem_of_getElem? (i := 240) (by decide +kernel)⟩
theorem lw_p1 : lw_okq (⟨"MovedStalls$History", "stateAt", "(I)LMovedStalls$Roads;"⟩, 2) := ⟨⟨by decide +kernel, by decide +kernel⟩, List.mem_of_getElem? (i := 161) (by decide +kernel), List.mem_of_getElem? (i := 279) (by decide +kernel), List.mem_of_getElem? (i := 280) (by decide +kernel)⟩
theorem lw_p2 : lw_okq (⟨"MovedStalls$History", "dropOldest", "()V"⟩, 2) := ⟨⟨by decide +kernel, by decide +kernel⟩, List.mem_of_getElem? (i := 161) (by decide +kernel), List.mem_of_getElem? (i := 318) (by decide +kernel), List.mem_of_getElem? (i := 319) (by decide +kernel)⟩
theorem lw_p3 : lw_okq (⟨"MovedStalls", "shiftedDelayOf", "(LMovedStalls$Bundle;)I"⟩, 7) := ⟨⟨by decide +kernel, by decide +kernel⟩, List.mem_of_getElem? (i := 11) (by decide +kernel), List.mem_of_getElem? (i := 363) (by decide +kernel), List.mem_of_getElem? (i := 364) (by decide +kernel)⟩
theorem lw_p4 : lw_okq (⟨"MovedStalls", "delayOf", "(LMovedStalls$Bundle;)I"⟩, 7) := ⟨⟨by decide +kernel, by decide +kernel⟩, List.mem_of_getElem? (i := 11) (by decide +kernel), List.mem_of_getElem? (i := 367) (by decide +kernel), List.mem_of_getElem? (i := 368) (by decide +kernel)⟩
theorem lw_p5 : lw_okq (⟨"MovedStalls$Foresight", "lookBack", "(LMovedStalls$Roads;III)V"⟩, 4) := ⟨⟨by decide +kernel, by decide +kernel⟩, List.mem_of_getElem? (i := 192) (by decide +kernel), List.mem_of_getElem? (i := 376) (by decide +kernel), List.mem_of_getElem? (i := 377) (by decide +kernel)⟩
theorem lw_p6 : lw_okq (⟨"MovedStalls$Foresight", "stepBack", "(LMovedStalls$Roads;III)V"⟩, 4) := ⟨⟨by decide +kernel, by decide +kernel⟩, List.mem_of_getElem? (i := 192) (by decide +kernel), List.mem_of_getElem? (i := 384) (by decide +kernel), List.mem_of_getElem? (i := 385) (by decide +kernel)⟩
theorem lw_p7 : lw_okq (⟨"MovedStalls$Foresight", "ifStaying", "(LMovedStalls$Bundle;)I"⟩, 4) := ⟨⟨by decide +kernel, by decide +kernel⟩, List.mem_of_getElem? (i := 192) (by decide +kernel), List.mem_of_getElem? (i := 393) (by decide +kernel), List.mem_of_getElem? (i := 394) (by decide +kernel)⟩
theorem lw_p8 : lw_okq (⟨"MovedStalls$Roads", "moveOn", "(LMovedStalls$Bundle;LMovedStalls$Foresight;)V"⟩, 12) := ⟨⟨by decide +kernel, by decide +kernel⟩, List.mem_of_getElem? (i := 19) (by decide +kernel), List.mem_of_getElem? (i := 459) (by decide +kernel), List.mem_of_getElem? (i := 460) (by decide +kernel)⟩
theorem lw_p9 : lw_okq (⟨"MovedStalls$Roads", "takersOf", "(LMovedStalls$Bundle;)I"⟩, 12) := ⟨⟨by decide +kernel, by decide +kernel⟩, List.mem_of_getElem? (i := 19) (by decide +kernel), List.mem_of_getElem? (i := 463) (by decide +kernel), List.mem_of_getElem? (i := 464) (by decide +kernel)⟩
theorem lw_p10 : lw_okq (⟨"MovedStalls$Roads", "changeHands", "(LMovedStalls$Bundle;I)V"⟩, 12) := ⟨⟨by decide +kernel, by decide +kernel⟩, List.mem_of_getElem? (i := 19) (by decide +kernel), List.mem_of_getElem? (i := 474) (by decide +kernel), List.mem_of_getElem? (i := 475) (by decide +kernel)⟩
theorem lw_p11 : lw_okq (⟨"MovedStalls$Pad", "fitsLetters", "(I)Z"⟩, 2) := ⟨⟨by decide +kernel, by decide +kernel⟩, List.mem_of_getElem? (i := 178) (by decide +kernel), List.mem_of_getElem? (i := 565) (by decide +kernel), List.mem_of_getElem? (i := 566) (by decide +kernel)⟩
theorem lw_p12 : lw_okq (⟨"MovedStalls", "addCarriersOfPad", "()V"⟩, 7) := ⟨⟨by decide +kernel, by decide +kernel⟩, List.mem_of_getElem? (i := 11) (by decide +kernel), List.mem_of_getElem? (i := 577) (by decide +kernel), List.mem_of_getElem? (i := 578) (by decide +kernel)⟩
def lw_privs_1 : List (MethodName × Nat) := [(⟨"MovedStalls", "stallToday", "()I"⟩, 7), (⟨"MovedStalls$History", "stateAt", "(I)LMovedStalls$Roads;"⟩, 2), (⟨"MovedStalls$History", "dropOldest", "()V"⟩, 2), (⟨"MovedStalls", "shiftedDelayOf", "(LMovedStalls$Bundle;)I"⟩, 7), (⟨"MovedStalls", "delayOf", "(LMovedStalls$Bundle;)I"⟩, 7), (⟨"MovedStalls$Foresight", "lookBack", "(LMovedStalls$Roads;III)V"⟩, 4), (⟨"MovedStalls$Foresight", "stepBack", "(LMovedStalls$Roads;III)V"⟩, 4), (⟨"MovedStalls$Foresight", "ifStaying", "(LMovedStalls$Bundle;)I"⟩, 4), (⟨"MovedStalls$Roads", "moveOn", "(LMovedStalls$Bundle;LMovedStalls$Foresight;)V"⟩, 12), (⟨"MovedStalls$Roads", "takersOf", "(LMovedStalls$Bundle;)I"⟩, 12), (⟨"MovedStalls$Roads", "changeHands", "(LMovedStalls$Bundle;I)V"⟩, 12), (⟨"MovedStalls$Pad", "fitsLetters", "(I)Z"⟩, 2), (⟨"MovedStalls", "addCarriersOfPad", "()V"⟩, 7)]
theorem lw_r1 : ∀ q ∈ lw_privs_1, lw_okq q := List.forall_mem_cons.mpr ⟨lw_p0, List.forall_mem_cons.mpr ⟨lw_p1, List.forall_mem_cons.mpr ⟨lw_p2, List.forall_mem_cons.mpr ⟨lw_p3, List.forall_mem_cons.mpr ⟨lw_p4, List.forall_mem_cons.mpr ⟨lw_p5, List.forall_mem_cons.mpr ⟨lw_p6, List.forall_mem_cons.mpr ⟨lw_p7, List.forall_mem_cons.mpr ⟨lw_p8, List.forall_mem_cons.mpr ⟨lw_p9, List.forall_mem_cons.mpr ⟨lw_p10, List.forall_mem_cons.mpr ⟨lw_p11, List.forall_mem_cons.mpr ⟨lw_p12, fun _ h => absurd h List.not_mem_nil⟩⟩⟩⟩⟩⟩⟩⟩⟩⟩⟩⟩⟩
def lw_privs : List (MethodName × Nat) := lw_privs_1
def lw_tbl : List Cond := k2_sels lw_privs ++ tables_1
theorem lw_privs_ok : ∀ q ∈ lw_privs, lw_okq q := lw_r1
/-- the streams that the claim lets the run draw from -/
abbrev lw_cs : List Choice := [Jvm.Choice.named "NaN.bits"]
theorem lw_bits : nanBits ∈ lw_cs := by first | decide | exact List.mem_cons_self | simp [lw_cs, nanBits]

def RX0 : String := "MovedStalls$Bundle"
def TX0 : u_T := fun k => match k with
  | 0 => ("MovedStalls$Bundle", "to", "I", false)
  | 1 => ("MovedStalls$Bundle", "town", "I", false)
  | 2 => ("MovedStalls$Bundle", "hand", "I", false)
  | 3 => ("MovedStalls$Bundle", "arrivedOn", "I", false)
  | 4 => ("MovedStalls$Bundle", "promise", "I", false)
  | 5 => ("MovedStalls$Bundle", "broken", "Z", false)
  | 6 => ("MovedStalls$Bundle", "changes", "I", false)
  | _ => ("MovedStalls$Bundle", "postedOn", "I", false)
def tyX0 : Nat → FieldType := fun k => match k with
  | 0 => .int
  | 1 => .int
  | 2 => .int
  | 3 => .int
  | 4 => .int
  | 5 => .boolean
  | 6 => .int
  | _ => .int
abbrev wsX00 : List Cond := u_ws RX0 TX0 8
theorem nmX0 : ∀ a, a < 8 → ∀ b, b < 8 → a ≠ b → (TX0 a).2.1 ≠ (TX0 b).2.1 := by decide +kernel
theorem tyX0_ok : ∀ k, k < 8 → parseFieldDescriptor (TX0 k).2.2.1 = some (tyX0 k) := by decide +kernel
abbrev cX0_init : ByteArray := prog_2_method_1_code
def yX0_init : MethodName := ⟨RX0, "<init>", "()V"⟩
abbrev cX0_begin : ByteArray := prog_2_method_2_code
def yX0_begin : MethodName := ⟨RX0, "begin", "(IIII)V"⟩
abbrev cX0_copyFrom : ByteArray := prog_2_method_3_code
def yX0_copyFrom : MethodName := ⟨RX0, "copyFrom", "(LMovedStalls$Bundle;)V"⟩
def RX1 : String := "MovedStalls$Carrier"
def TX1 : u_T := fun k => match k with
  | 0 => ("MovedStalls$Carrier", "tour", "[I", true)
  | 1 => ("MovedStalls$Carrier", "length", "I", false)
  | 2 => ("MovedStalls$Carrier", "roughness", "I", false)
  | 3 => ("MovedStalls$Carrier", "aboutAgain", "I", false)
  | 4 => ("MovedStalls$Carrier", "changes", "I", false)
  | _ => ("MovedStalls$Carrier", "broken", "I", false)
def tyX1 : Nat → FieldType := fun k => match k with
  | 0 => .array .int
  | 1 => .int
  | 2 => .int
  | 3 => .int
  | 4 => .int
  | _ => .int
abbrev wsX10 : List Cond := u_ws RX1 TX1 6
theorem nmX1 : ∀ a, a < 6 → ∀ b, b < 6 → a ≠ b → (TX1 a).2.1 ≠ (TX1 b).2.1 := by decide +kernel
theorem tyX1_ok : ∀ k, k < 6 → parseFieldDescriptor (TX1 k).2.2.1 = some (tyX1 k) := by decide +kernel
abbrev cX1_init : ByteArray := prog_3_method_1_code
def yX1_init : MethodName := ⟨RX1, "<init>", "()V"⟩
abbrev cX1_begin : ByteArray := prog_3_method_2_code
def yX1_begin : MethodName := ⟨RX1, "begin", "()V"⟩
abbrev cX1_addTown : ByteArray := prog_3_method_3_code
def yX1_addTown : MethodName := ⟨RX1, "addTown", "(I)V"⟩
abbrev cX1_copyFrom : ByteArray := prog_3_method_4_code
def yX1_copyFrom : MethodName := ⟨RX1, "copyFrom", "(LMovedStalls$Carrier;)V"⟩
def RX2 : String := "MovedStalls$Foresight"
def TX2 : u_T := fun k => match k with
  | 0 => ("MovedStalls$Foresight", "inHands", "[I", true)
  | 1 => ("MovedStalls$Foresight", "lying", "I", false)
  | 2 => ("MovedStalls$Foresight", "found", "I", false)
  | _ => ("MovedStalls$Foresight", "sum", "I", false)
def tyX2 : Nat → FieldType := fun k => match k with
  | 0 => .array .int
  | 1 => .int
  | 2 => .int
  | _ => .int
abbrev wsX20 : List Cond := u_ws RX2 TX2 4
theorem nmX2 : ∀ a, a < 4 → ∀ b, b < 4 → a ≠ b → (TX2 a).2.1 ≠ (TX2 b).2.1 := by decide +kernel
theorem tyX2_ok : ∀ k, k < 4 → parseFieldDescriptor (TX2 k).2.2.1 = some (tyX2 k) := by decide +kernel
abbrev cX2_init : ByteArray := prog_4_method_1_code
def yX2_init : MethodName := ⟨RX2, "<init>", "()V"⟩
abbrev cX2_ifLying : ByteArray := prog_4_method_2_code
def yX2_ifLying : MethodName := ⟨RX2, "ifLying", "(LMovedStalls$Roads;III)I"⟩
abbrev cX2_arrivalOf : ByteArray := prog_4_method_3_code
def yX2_arrivalOf : MethodName := ⟨RX2, "arrivalOf", "(LMovedStalls$Roads;LMovedStalls$Bundle;)I"⟩
abbrev cX2_addUpArrivals : ByteArray := prog_4_method_4_code
def yX2_addUpArrivals : MethodName := ⟨RX2, "addUpArrivals", "(LMovedStalls$Roads;)V"⟩
abbrev cX2_bestTaker : ByteArray := prog_4_method_5_code
def yX2_bestTaker : MethodName := ⟨RX2, "bestTaker", "(LMovedStalls$Roads;LMovedStalls$Bundle;I)I"⟩
abbrev cX2_ifStaying : ByteArray := prog_4_method_6_code
def yX2_ifStaying : MethodName := ⟨RX2, "ifStaying", "(LMovedStalls$Bundle;)I"⟩
abbrev cX2_lookBack : ByteArray := prog_4_method_7_code
def yX2_lookBack : MethodName := ⟨RX2, "lookBack", "(LMovedStalls$Roads;III)V"⟩
abbrev cX2_stepBack : ByteArray := prog_4_method_8_code
def yX2_stepBack : MethodName := ⟨RX2, "stepBack", "(LMovedStalls$Roads;III)V"⟩
abbrev cX2_arrivalByHands : ByteArray := prog_4_method_9_code
def yX2_arrivalByHands : MethodName := ⟨RX2, "arrivalByHands", "(LMovedStalls$Roads;LMovedStalls$Bundle;)I"⟩
def RX3 : String := "MovedStalls$History"
def TX3 : u_T := fun k => match k with
  | 0 => ("MovedStalls$History", "states", "[LMovedStalls$Roads;", true)
  | _ => ("MovedStalls$History", "length", "I", false)
def tyX3 : Nat → FieldType := fun k => match k with
  | 0 => .array (.object "MovedStalls$Roads")
  | _ => .int
abbrev wsX30 : List Cond := u_ws RX3 TX3 2
theorem nmX3 : ∀ a, a < 2 → ∀ b, b < 2 → a ≠ b → (TX3 a).2.1 ≠ (TX3 b).2.1 := by decide +kernel
theorem tyX3_ok : ∀ k, k < 2 → parseFieldDescriptor (TX3 k).2.2.1 = some (tyX3 k) := by decide +kernel
abbrev cX3_init : ByteArray := prog_5_method_1_code
def yX3_init : MethodName := ⟨RX3, "<init>", "()V"⟩
abbrev cX3_keep : ByteArray := prog_5_method_2_code
def yX3_keep : MethodName := ⟨RX3, "keep", "(LMovedStalls$Roads;)V"⟩
abbrev cX3_takeBack : ByteArray := prog_5_method_3_code
def yX3_takeBack : MethodName := ⟨RX3, "takeBack", "(LMovedStalls$Roads;)V"⟩
abbrev cX3_stateAt : ByteArray := prog_5_method_4_code
def yX3_stateAt : MethodName := ⟨RX3, "stateAt", "(I)LMovedStalls$Roads;"⟩
abbrev cX3_dropOldest : ByteArray := prog_5_method_5_code
def yX3_dropOldest : MethodName := ⟨RX3, "dropOldest", "()V"⟩
def RX4 : String := "MovedStalls$Pad"
def TX4 : u_T := fun k => match k with
  | 0 => ("MovedStalls$Pad", "signs", "[I", true)
  | _ => ("MovedStalls$Pad", "length", "I", false)
def tyX4 : Nat → FieldType := fun k => match k with
  | 0 => .array .int
  | _ => .int
abbrev wsX40 : List Cond := u_ws RX4 TX4 2
theorem nmX4 : ∀ a, a < 2 → ∀ b, b < 2 → a ≠ b → (TX4 a).2.1 ≠ (TX4 b).2.1 := by decide +kernel
theorem tyX4_ok : ∀ k, k < 2 → parseFieldDescriptor (TX4 k).2.2.1 = some (tyX4 k) := by decide +kernel
abbrev cX4_init : ByteArray := prog_6_method_1_code
def yX4_init : MethodName := ⟨RX4, "<init>", "()V"⟩
abbrev cX4_add : ByteArray := prog_6_method_2_code
def yX4_add : MethodName := ⟨RX4, "add", "(I)V"⟩
abbrev cX4_signAt : ByteArray := prog_6_method_3_code
def yX4_signAt : MethodName := ⟨RX4, "signAt", "(I)I"⟩
abbrev cX4_parts : ByteArray := prog_6_method_4_code
def yX4_parts : MethodName := ⟨RX4, "parts", "(I)I"⟩
abbrev cX4_faultAsTours : ByteArray := prog_6_method_5_code
def yX4_faultAsTours : MethodName := ⟨RX4, "faultAsTours", "()I"⟩
abbrev cX4_readTourSign : ByteArray := prog_6_method_6_code
def yX4_readTourSign : MethodName := ⟨RX4, "readTourSign", "(II)I"⟩
abbrev cX4_faultAsLetters : ByteArray := prog_6_method_7_code
def yX4_faultAsLetters : MethodName := ⟨RX4, "faultAsLetters", "()I"⟩
abbrev cX4_fitsLetters : ByteArray := prog_6_method_8_code
def yX4_fitsLetters : MethodName := ⟨RX4, "fitsLetters", "(I)Z"⟩
abbrev cX4_isTown : ByteArray := prog_6_method_9_code
def yX4_isTown : MethodName := ⟨RX4, "isTown", "(I)Z"⟩
def RX5 : String := "MovedStalls$Roads"
def TX5 : u_T := fun k => match k with
  | 0 => ("MovedStalls$Roads", "stalls", "[I", true)
  | 1 => ("MovedStalls$Roads", "carriers", "[LMovedStalls$Carrier;", true)
  | 2 => ("MovedStalls$Roads", "bundles", "[LMovedStalls$Bundle;", true)
  | 3 => ("MovedStalls$Roads", "carrierCount", "I", false)
  | 4 => ("MovedStalls$Roads", "bundleCount", "I", false)
  | 5 => ("MovedStalls$Roads", "today", "I", false)
  | 6 => ("MovedStalls$Roads", "load", "I", false)
  | 7 => ("MovedStalls$Roads", "lot", "I", false)
  | 8 => ("MovedStalls$Roads", "posted", "I", false)
  | 9 => ("MovedStalls$Roads", "arrivals", "I", false)
  | 10 => ("MovedStalls$Roads", "forgotten", "I", false)
  | _ => ("MovedStalls$Roads", "changes", "I", false)
def tyX5 : Nat → FieldType := fun k => match k with
  | 0 => .array .int
  | 1 => .array (.object "MovedStalls$Carrier")
  | 2 => .array (.object "MovedStalls$Bundle")
  | 3 => .int
  | 4 => .int
  | 5 => .int
  | 6 => .int
  | 7 => .int
  | 8 => .int
  | 9 => .int
  | 10 => .int
  | _ => .int
abbrev wsX50 : List Cond := u_ws RX5 TX5 12
theorem nmX5 : ∀ a, a < 12 → ∀ b, b < 12 → a ≠ b → (TX5 a).2.1 ≠ (TX5 b).2.1 := by decide +kernel
theorem tyX5_ok : ∀ k, k < 12 → parseFieldDescriptor (TX5 k).2.2.1 = some (tyX5 k) := by decide +kernel
abbrev cX5_init : ByteArray := prog_7_method_1_code
def yX5_init : MethodName := ⟨RX5, "<init>", "()V"⟩
abbrev cX5_copyFrom : ByteArray := prog_7_method_2_code
def yX5_copyFrom : MethodName := ⟨RX5, "copyFrom", "(LMovedStalls$Roads;)V"⟩
abbrev cX5_copyCarrier : ByteArray := prog_7_method_3_code
def yX5_copyCarrier : MethodName := ⟨RX5, "copyCarrier", "(LMovedStalls$Carrier;LMovedStalls$Carrier;)V"⟩
abbrev cX5_copyBundle : ByteArray := prog_7_method_4_code
def yX5_copyBundle : MethodName := ⟨RX5, "copyBundle", "(LMovedStalls$Bundle;LMovedStalls$Bundle;)V"⟩
abbrev cX5_hasCarrier : ByteArray := prog_7_method_5_code
def yX5_hasCarrier : MethodName := ⟨RX5, "hasCarrier", "(I)Z"⟩
abbrev cX5_carrierAt : ByteArray := prog_7_method_6_code
def yX5_carrierAt : MethodName := ⟨RX5, "carrierAt", "(I)LMovedStalls$Carrier;"⟩
abbrev cX5_bundleAt : ByteArray := prog_7_method_7_code
def yX5_bundleAt : MethodName := ⟨RX5, "bundleAt", "(I)LMovedStalls$Bundle;"⟩
abbrev cX5_addCarrier : ByteArray := prog_7_method_8_code
def yX5_addCarrier : MethodName := ⟨RX5, "addCarrier", "()LMovedStalls$Carrier;"⟩
abbrev cX5_addBundle : ByteArray := prog_7_method_9_code
def yX5_addBundle : MethodName := ⟨RX5, "addBundle", "(III)V"⟩
abbrev cX5_removeBundle : ByteArray := prog_7_method_10_code
def yX5_removeBundle : MethodName := ⟨RX5, "removeBundle", "(I)V"⟩
abbrev cX5_moveStall : ByteArray := prog_7_method_11_code
def yX5_moveStall : MethodName := ⟨RX5, "moveStall", "(II)V"⟩
abbrev cX5_stallOn : ByteArray := prog_7_method_12_code
def yX5_stallOn : MethodName := ⟨RX5, "stallOn", "(I)I"⟩
abbrev cX5_townOf : ByteArray := prog_7_method_13_code
def yX5_townOf : MethodName := ⟨RX5, "townOf", "(II)I"⟩
abbrev cX5_carriersIn : ByteArray := prog_7_method_14_code
def yX5_carriersIn : MethodName := ⟨RX5, "carriersIn", "(II)I"⟩
abbrev cX5_illToday : ByteArray := prog_7_method_15_code
def yX5_illToday : MethodName := ⟨RX5, "illToday", "()I"⟩
abbrev cX5_bundlesWith : ByteArray := prog_7_method_16_code
def yX5_bundlesWith : MethodName := ⟨RX5, "bundlesWith", "(I)I"⟩
abbrev cX5_isFull : ByteArray := prog_7_method_17_code
def yX5_isFull : MethodName := ⟨RX5, "isFull", "(I)Z"⟩
abbrev cX5_lyingBundles : ByteArray := prog_7_method_18_code
def yX5_lyingBundles : MethodName := ⟨RX5, "lyingBundles", "()I"⟩
abbrev cX5_arrivedBundles : ByteArray := prog_7_method_19_code
def yX5_arrivedBundles : MethodName := ⟨RX5, "arrivedBundles", "()I"⟩
abbrev cX5_brokenBundles : ByteArray := prog_7_method_20_code
def yX5_brokenBundles : MethodName := ⟨RX5, "brokenBundles", "()I"⟩
abbrev cX5_passDay : ByteArray := prog_7_method_21_code
def yX5_passDay : MethodName := ⟨RX5, "passDay", "(LMovedStalls$Foresight;)V"⟩
abbrev cX5_moveOn : ByteArray := prog_7_method_22_code
def yX5_moveOn : MethodName := ⟨RX5, "moveOn", "(LMovedStalls$Bundle;LMovedStalls$Foresight;)V"⟩
abbrev cX5_takersOf : ByteArray := prog_7_method_23_code
def yX5_takersOf : MethodName := ⟨RX5, "takersOf", "(LMovedStalls$Bundle;)I"⟩
abbrev cX5_changeHands : ByteArray := prog_7_method_24_code
def yX5_changeHands : MethodName := ⟨RX5, "changeHands", "(LMovedStalls$Bundle;I)V"⟩
def RX6 : String := "MovedStalls"
def TX6 : u_T := fun k => match k with
  | 0 => ("MovedStalls", "now", "LMovedStalls$Roads;", true)
  | 1 => ("MovedStalls", "trial", "LMovedStalls$Roads;", true)
  | 2 => ("MovedStalls", "snapshot", "LMovedStalls$Roads;", true)
  | 3 => ("MovedStalls", "history", "LMovedStalls$History;", true)
  | 4 => ("MovedStalls", "pad", "LMovedStalls$Pad;", true)
  | 5 => ("MovedStalls", "foresight", "LMovedStalls$Foresight;", true)
  | _ => ("MovedStalls", "saved", "Z", false)
def tyX6 : Nat → FieldType := fun k => match k with
  | 0 => .object "MovedStalls$Roads"
  | 1 => .object "MovedStalls$Roads"
  | 2 => .object "MovedStalls$Roads"
  | 3 => .object "MovedStalls$History"
  | 4 => .object "MovedStalls$Pad"
  | 5 => .object "MovedStalls$Foresight"
  | _ => .boolean
abbrev wsX60 : List Cond := u_ws RX6 TX6 7
theorem nmX6 : ∀ a, a < 7 → ∀ b, b < 7 → a ≠ b → (TX6 a).2.1 ≠ (TX6 b).2.1 := by decide +kernel
theorem tyX6_ok : ∀ k, k < 7 → parseFieldDescriptor (TX6 k).2.2.1 = some (tyX6 k) := by decide +kernel
abbrev cX6_init : ByteArray := prog_1_method_1_code
def yX6_init : MethodName := ⟨RX6, "<init>", "()V"⟩
abbrev cX6_stall : ByteArray := prog_1_method_2_code
def yX6_stall : MethodName := ⟨RX6, "stall", "(II)I"⟩
abbrev cX6_ill : ByteArray := prog_1_method_3_code
def yX6_ill : MethodName := ⟨RX6, "ill", "(II)I"⟩
abbrev cX6_rough : ByteArray := prog_1_method_4_code
def yX6_rough : MethodName := ⟨RX6, "rough", "(II)I"⟩
abbrev cX6_load : ByteArray := prog_1_method_5_code
def yX6_load : MethodName := ⟨RX6, "load", "(I)I"⟩
abbrev cX6_post : ByteArray := prog_1_method_6_code
def yX6_post : MethodName := ⟨RX6, "post", "(II)I"⟩
abbrev cX6_forget : ByteArray := prog_1_method_7_code
def yX6_forget : MethodName := ⟨RX6, "forget", "(I)I"⟩
abbrev cX6_pass : ByteArray := prog_1_method_8_code
def yX6_pass : MethodName := ⟨RX6, "pass", "(I)I"⟩
abbrev cX6_append : ByteArray := prog_1_method_9_code
def yX6_append : MethodName := ⟨RX6, "append", "(I)I"⟩
abbrev cX6_clear : ByteArray := prog_1_method_10_code
def yX6_clear : MethodName := ⟨RX6, "clear", "()I"⟩
abbrev cX6_fault : ByteArray := prog_1_method_11_code
def yX6_fault : MethodName := ⟨RX6, "fault", "(I)I"⟩
abbrev cX6_tours : ByteArray := prog_1_method_12_code
def yX6_tours : MethodName := ⟨RX6, "tours", "()I"⟩
abbrev cX6_letters : ByteArray := prog_1_method_13_code
def yX6_letters : MethodName := ⟨RX6, "letters", "()I"⟩
abbrev cX6_where : ByteArray := prog_1_method_14_code
def yX6_where : MethodName := ⟨RX6, "where", "(II)I"⟩
abbrev cX6_carrier : ByteArray := prog_1_method_15_code
def yX6_carrier : MethodName := ⟨RX6, "carrier", "(II)I"⟩
abbrev cX6_bundle : ByteArray := prog_1_method_16_code
def yX6_bundle : MethodName := ⟨RX6, "bundle", "(II)I"⟩
abbrev cX6_arrival : ByteArray := prog_1_method_17_code
def yX6_arrival : MethodName := ⟨RX6, "arrival", "(II)I"⟩
abbrev cX6_meeting : ByteArray := prog_1_method_18_code
def yX6_meeting : MethodName := ⟨RX6, "meeting", "(IIZ)I"⟩
abbrev cX6_count : ByteArray := prog_1_method_19_code
def yX6_count : MethodName := ⟨RX6, "count", "(I)I"⟩
abbrev cX6_lateness : ByteArray := prog_1_method_20_code
def yX6_lateness : MethodName := ⟨RX6, "lateness", "()D"⟩
abbrev cX6_ifPosted : ByteArray := prog_1_method_21_code
def yX6_ifPosted : MethodName := ⟨RX6, "ifPosted", "(III)I"⟩
abbrev cX6_bestDay : ByteArray := prog_1_method_22_code
def yX6_bestDay : MethodName := ⟨RX6, "bestDay", "(II)I"⟩
abbrev cX6_bestTown : ByteArray := prog_1_method_23_code
def yX6_bestTown : MethodName := ⟨RX6, "bestTown", "(I)I"⟩
abbrev cX6_ifPassed : ByteArray := prog_1_method_24_code
def yX6_ifPassed : MethodName := ⟨RX6, "ifPassed", "(II)I"⟩
abbrev cX6_undo : ByteArray := prog_1_method_25_code
def yX6_undo : MethodName := ⟨RX6, "undo", "()I"⟩
abbrev cX6_save : ByteArray := prog_1_method_26_code
def yX6_save : MethodName := ⟨RX6, "save", "()I"⟩
abbrev cX6_restore : ByteArray := prog_1_method_27_code
def yX6_restore : MethodName := ⟨RX6, "restore", "()I"⟩
abbrev cX6_isWeekday : ByteArray := prog_1_method_28_code
def yX6_isWeekday : MethodName := ⟨RX6, "isWeekday", "(I)Z"⟩
abbrev cX6_areTwoTowns : ByteArray := prog_1_method_29_code
def yX6_areTwoTowns : MethodName := ⟨RX6, "areTwoTowns", "(II)Z"⟩
abbrev cX6_stallToday : ByteArray := prog_1_method_30_code
def yX6_stallToday : MethodName := ⟨RX6, "stallToday", "()I"⟩
abbrev cX6_shiftedDelayOf : ByteArray := prog_1_method_31_code
def yX6_shiftedDelayOf : MethodName := ⟨RX6, "shiftedDelayOf", "(LMovedStalls$Bundle;)I"⟩
abbrev cX6_delayOf : ByteArray := prog_1_method_32_code
def yX6_delayOf : MethodName := ⟨RX6, "delayOf", "(LMovedStalls$Bundle;)I"⟩
abbrev cX6_addCarriersOfPad : ByteArray := prog_1_method_33_code
def yX6_addCarriersOfPad : MethodName := ⟨RX6, "addCarriersOfPad", "()V"⟩
def RX7 : String := "MovedStallsModel"
def TX7 : u_T := fun k => match k with
  | _ => ("", "", "", false)
def tyX7 : Nat → FieldType := fun k => match k with
  | _ => .int
abbrev wsX70 : List Cond := u_ws RX7 TX7 0
theorem nmX7 : ∀ a, a < 0 → ∀ b, b < 0 → a ≠ b → (TX7 a).2.1 ≠ (TX7 b).2.1 := by decide +kernel
theorem tyX7_ok : ∀ k, k < 0 → parseFieldDescriptor (TX7 k).2.2.1 = some (tyX7 k) := by decide +kernel
def RJ9 : String := "java/lang/Math"
abbrev cJ9_min_7cf53 : ByteArray := prog_10_method_69_code
def yJ9_min_7cf53 : MethodName := ⟨RJ9, "min", "(II)I"⟩
def RJ7 : String := "java/util/Arrays"
abbrev cJ7_fill_53178 : ByteArray := prog_11_method_103_code
def yJ7_fill_53178 : MethodName := ⟨RJ7, "fill", "([II)V"⟩
def RL : String := "MovedStallsLaw"
abbrev cL_lot : ByteArray := method_2_code
def yL_lot : MethodName := ⟨RL, "lot", "([II)I"⟩
abbrev cL_low : ByteArray := method_3_code
def yL_low : MethodName := ⟨RL, "low", "(II)I"⟩
abbrev cL_look : ByteArray := method_4_code
def yL_look : MethodName := ⟨RL, "look", "(LMovedStalls;)J"⟩
abbrev cL_holds : ByteArray := method_5_code
def yL_holds : MethodName := ⟨RL, "holds", "(LMovedStalls;)Z"⟩
abbrev cL_would : ByteArray := method_6_code
def yL_would : MethodName := ⟨RL, "would", "(LMovedStalls;I)Z"⟩
abbrev cL_types : ByteArray := method_7_code
def yL_types : MethodName := ⟨RL, "types", "(LMovedStalls;ZI)Z"⟩
abbrev cL_reads : ByteArray := method_8_code
def yL_reads : MethodName := ⟨RL, "reads", "(LMovedStalls;I)Z"⟩
abbrev cL_acts : ByteArray := method_9_code
def yL_acts : MethodName := ⟨RL, "acts", "(LMovedStalls;II)Z"⟩
abbrev cL_law : ByteArray := code
def yL_law : MethodName := ⟨RL, "law", "([I)Z"⟩
abbrev vwCl : List vw_C := [(RX0, TX0, 8), (RX1, TX1, 6), (RX2, TX2, 4), (RX3, TX3, 2), (RX4, TX4, 2), (RX5, TX5, 12), (RX6, TX6, 7)]
