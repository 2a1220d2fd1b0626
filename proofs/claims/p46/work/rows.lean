section
-- ===== PART A: goes FIRST, ahead of the names: the tables' words, and 'selects' of the private methods out of them =====
/-- a private method of a class that the tables say can be made, by its rows of tables_1 -/
def lw_okq (q : MethodName × Nat) : Prop := (q.1.cls ≠ "java/lang/invoke/MethodHandle" ∧ q.1.cls ≠ "java/lang/invoke/VarHandle") ∧ Cond.instantiable q.1.cls q.2 ∈ tables_1 ∧ Cond.privateMethod q.1 ∈ tables_1 ∧ Cond.instanceMethod q.1 ∈ tables_1
theorem lw_p0 : lw_okq (⟨"OnlyInFog", "refuse", "(I)I"⟩, 13) := ⟨⟨by decide +kernel, by decide +kernel⟩, List.mem_of_getElem? (i := 11) (by decide +kernel), List.mem_of_getElem? (i := 205) (by decide +kernel), List.mem_of_getElem? (i := 206) (by decide +kernel)⟩
theorem lw_p1 : lw_okq (⟨"OnlyInFog$Sky", "isOf", "(LOnlyInFog$World;)Z"⟩, 8) := ⟨⟨by decide +kernel, by decide +kernel⟩, List.mem_of_getElem? (i := 108) (by decide +kernel), List.mem_of_getElem? (i := 237) (by decide +kernel), List.mem_of_getElem? (i := 238) (by decide +kernel)⟩
theorem lw_p2 : lw_okq (⟨"OnlyInFog$Sky", "turnTo", "(LOnlyInFog$World;)V"⟩, 8) := ⟨⟨by decide +kernel, by decide +kernel⟩, List.mem_of_getElem? (i := 108) (by decide +kernel), List.mem_of_getElem? (i := 241) (by decide +kernel), List.mem_of_getElem? (i := 242) (by decide +kernel)⟩
theorem lw_p3 : lw_okq (⟨"OnlyInFog$Sky", "airAt", "(II)I"⟩, 8) := ⟨⟨by decide +kernel, by decide +kernel⟩, List.mem_of_getElem? (i := 108) (by decide +kernel), List.mem_of_getElem? (i := 246) (by decide +kernel), List.mem_of_getElem? (i := 247) (by decide +kernel)⟩
theorem lw_p4 : lw_okq (⟨"OnlyInFog$Sky", "airOfFront", "(IIII)I"⟩, 8) := ⟨⟨by decide +kernel, by decide +kernel⟩, List.mem_of_getElem? (i := 108) (by decide +kernel), List.mem_of_getElem? (i := 253) (by decide +kernel), List.mem_of_getElem? (i := 254) (by decide +kernel)⟩
theorem lw_p5 : lw_okq (⟨"OnlyInFog$Mind", "airiest", "()I"⟩, 5) := ⟨⟨by decide +kernel, by decide +kernel⟩, List.mem_of_getElem? (i := 100) (by decide +kernel), List.mem_of_getElem? (i := 262) (by decide +kernel), List.mem_of_getElem? (i := 263) (by decide +kernel)⟩
theorem lw_p6 : lw_okq (⟨"OnlyInFog$Mind", "worthiest", "(I)I"⟩, 5) := ⟨⟨by decide +kernel, by decide +kernel⟩, List.mem_of_getElem? (i := 100) (by decide +kernel), List.mem_of_getElem? (i := 270) (by decide +kernel), List.mem_of_getElem? (i := 271) (by decide +kernel)⟩
theorem lw_p7 : lw_okq (⟨"OnlyInFog$Mind", "nearest", "(I)I"⟩, 5) := ⟨⟨by decide +kernel, by decide +kernel⟩, List.mem_of_getElem? (i := 100) (by decide +kernel), List.mem_of_getElem? (i := 274) (by decide +kernel), List.mem_of_getElem? (i := 275) (by decide +kernel)⟩
theorem lw_p8 : lw_okq (⟨"OnlyInFog", "keepForBack", "()V"⟩, 13) := ⟨⟨by decide +kernel, by decide +kernel⟩, List.mem_of_getElem? (i := 11) (by decide +kernel), List.mem_of_getElem? (i := 353) (by decide +kernel), List.mem_of_getElem? (i := 354) (by decide +kernel)⟩
theorem lw_p9 : lw_okq (⟨"OnlyInFog", "thinkOn", "(I)V"⟩, 13) := ⟨⟨by decide +kernel, by decide +kernel⟩, List.mem_of_getElem? (i := 11) (by decide +kernel), List.mem_of_getElem? (i := 365) (by decide +kernel), List.mem_of_getElem? (i := 366) (by decide +kernel)⟩
theorem lw_p10 : lw_okq (⟨"OnlyInFog$Mind", "dropInTheClear", "()V"⟩, 5) := ⟨⟨by decide +kernel, by decide +kernel⟩, List.mem_of_getElem? (i := 100) (by decide +kernel), List.mem_of_getElem? (i := 373) (by decide +kernel), List.mem_of_getElem? (i := 374) (by decide +kernel)⟩
theorem lw_p11 : lw_okq (⟨"OnlyInFog$Mind", "walk", "(II)V"⟩, 5) := ⟨⟨by decide +kernel, by decide +kernel⟩, List.mem_of_getElem? (i := 100) (by decide +kernel), List.mem_of_getElem? (i := 378) (by decide +kernel), List.mem_of_getElem? (i := 379) (by decide +kernel)⟩
theorem lw_p12 : lw_okq (⟨"OnlyInFog$Mind", "grab", "(I)V"⟩, 5) := ⟨⟨by decide +kernel, by decide +kernel⟩, List.mem_of_getElem? (i := 100) (by decide +kernel), List.mem_of_getElem? (i := 383) (by decide +kernel), List.mem_of_getElem? (i := 384) (by decide +kernel)⟩
theorem lw_p13 : lw_okq (⟨"OnlyInFog", "richest", "()I"⟩, 13) := ⟨⟨by decide +kernel, by decide +kernel⟩, List.mem_of_getElem? (i := 11) (by decide +kernel), List.mem_of_getElem? (i := 444) (by decide +kernel), List.mem_of_getElem? (i := 445) (by decide +kernel)⟩
theorem lw_p14 : lw_okq (⟨"OnlyInFog", "wetThings", "()I"⟩, 13) := ⟨⟨by decide +kernel, by decide +kernel⟩, List.mem_of_getElem? (i := 11) (by decide +kernel), List.mem_of_getElem? (i := 448) (by decide +kernel), List.mem_of_getElem? (i := 449) (by decide +kernel)⟩
theorem lw_p15 : lw_okq (⟨"OnlyInFog", "crowdedCell", "()I"⟩, 13) := ⟨⟨by decide +kernel, by decide +kernel⟩, List.mem_of_getElem? (i := 11) (by decide +kernel), List.mem_of_getElem? (i := 452) (by decide +kernel), List.mem_of_getElem? (i := 453) (by decide +kernel)⟩
def lw_privs_1 : List (MethodName × Nat) := [(⟨"OnlyInFog", "refuse", "(I)I"⟩, 13), (⟨"OnlyInFog$Sky", "isOf", "(LOnlyInFog$World;)Z"⟩, 8), (⟨"OnlyInFog$Sky", "turnTo", "(LOnlyInFog$World;)V"⟩, 8), (⟨"OnlyInFog$Sky", "airAt", "(II)I"⟩, 8), (⟨"OnlyInFog$Sky", "airOfFront", "(IIII)I"⟩, 8), (⟨"OnlyInFog$Mind", "airiest", "()I"⟩, 5), (⟨"OnlyInFog$Mind", "worthiest", "(I)I"⟩, 5), (⟨"OnlyInFog$Mind", "nearest", "(I)I"⟩, 5), (⟨"OnlyInFog", "keepForBack", "()V"⟩, 13), (⟨"OnlyInFog", "thinkOn", "(I)V"⟩, 13), (⟨"OnlyInFog$Mind", "dropInTheClear", "()V"⟩, 5), (⟨"OnlyInFog$Mind", "walk", "(II)V"⟩, 5), (⟨"OnlyInFog$Mind", "grab", "(I)V"⟩, 5), (⟨"OnlyInFog", "richest", "()I"⟩, 13), (⟨"OnlyInFog", "wetThings", "()I"⟩, 13), (⟨"OnlyInFog", "crowdedCell", "()I"⟩, 13)]
theorem lw_r1 : ∀ q ∈ lw_privs_1, lw_okq q := List.forall_mem_cons.mpr ⟨lw_p0, List.forall_mem_cons.mpr ⟨lw_p1, List.forall_mem_cons.mpr ⟨lw_p2, List.forall_mem_cons.mpr ⟨lw_p3, List.forall_mem_cons.mpr ⟨lw_p4, List.forall_mem_cons.mpr ⟨lw_p5, List.forall_mem_cons.mpr ⟨lw_p6, List.forall_mem_cons.mpr ⟨lw_p7, List.forall_mem_cons.mpr ⟨lw_p8, List.forall_mem_cons.mpr ⟨lw_p9, List.forall_mem_cons.mpr ⟨lw_p10, List.forall_mem_cons.mpr ⟨lw_p11, List.forall_mem_cons.mpr ⟨lw_p12, List.forall_mem_cons.mpr ⟨lw_p13, List.forall_mem_cons.mpr ⟨lw_p14, List.forall_mem_cons.mpr ⟨lw_p15, fun _ h => absurd h List.not_mem_nil⟩⟩⟩⟩⟩⟩⟩⟩⟩⟩⟩⟩⟩⟩⟩⟩
theorem lw_p16 : lw_okq (⟨"OnlyInFog", "hoursAlike", "()I"⟩, 13) := ⟨⟨by decide +kernel, by decide +kernel⟩, List.mem_of_getElem? (i := 11) (by decide +kernel), List.mem_of_getElem? (i := 457) (by decide +kernel), List.mem_of_getElem? (i := 458) (by decide +kernel)⟩
def lw_privs_2 : List (MethodName × Nat) := [(⟨"OnlyInFog", "hoursAlike", "()I"⟩, 13)]
theorem lw_r2 : ∀ q ∈ lw_privs_2, lw_okq q := List.forall_mem_cons.mpr ⟨lw_p16, fun _ h => absurd h List.not_mem_nil⟩
def lw_privs : List (MethodName × Nat) := lw_privs_1 ++ (lw_privs_2)
def lw_tbl : List Cond := k2_sels lw_privs ++ tables_1
theorem lw_privs_ok : ∀ q ∈ lw_privs, lw_okq q := by
  show ∀ q ∈ lw_privs_1 ++ (lw_privs_2), lw_okq q
  exact List.forall_mem_append.mpr ⟨lw_r1, lw_r2⟩
end
section
def RX0 : String := "OnlyInFog$Mind"
def TX0 : u_T := fun k => match k with
  | 0 => ("OnlyInFog$Mind", "world", "LOnlyInFog$World;", true)
  | 1 => ("OnlyInFog$Mind", "sky", "LOnlyInFog$Sky;", true)
  | 2 => ("OnlyInFog$Mind", "airStart", "I", false)
  | 3 => ("OnlyInFog$Mind", "kettleOn", "I", false)
  | _ => ("OnlyInFog$Mind", "sunny", "Z", false)
def tyX0 : Nat → FieldType := fun k => match k with
  | 0 => .object "OnlyInFog$World"
  | 1 => .object "OnlyInFog$Sky"
  | 2 => .int
  | 3 => .int
  | _ => .boolean
abbrev wsX00 : List Cond := u_ws RX0 TX0 5
theorem nmX0 : ∀ a, a < 5 → ∀ b, b < 5 → a ≠ b → (TX0 a).2.1 ≠ (TX0 b).2.1 := by decide +kernel
theorem tyX0_ok : ∀ k, k < 5 → parseFieldDescriptor (TX0 k).2.2.1 = some (tyX0 k) := by decide +kernel
abbrev cX0_init : ByteArray := prog_2_method_1_code
def yX0_init : MethodName := ⟨RX0, "<init>", "()V"⟩
abbrev cX0_begin : ByteArray := prog_2_method_2_code
def yX0_begin : MethodName := ⟨RX0, "begin", "(LOnlyInFog$World;)V"⟩
abbrev cX0_look : ByteArray := prog_2_method_3_code
def yX0_look : MethodName := ⟨RX0, "look", "()V"⟩
abbrev cX0_airOn : ByteArray := prog_2_method_4_code
def yX0_airOn : MethodName := ⟨RX0, "airOn", "(I)I"⟩
abbrev cX0_fogOn : ByteArray := prog_2_method_5_code
def yX0_fogOn : MethodName := ⟨RX0, "fogOn", "(I)I"⟩
abbrev cX0_isInFog : ByteArray := prog_2_method_6_code
def yX0_isInFog : MethodName := ⟨RX0, "isInFog", "(I)Z"⟩
abbrev cX0_foggyCells : ByteArray := prog_2_method_7_code
def yX0_foggyCells : MethodName := ⟨RX0, "foggyCells", "()I"⟩
abbrev cX0_goOn : ByteArray := prog_2_method_8_code
def yX0_goOn : MethodName := ⟨RX0, "goOn", "(I)V"⟩
abbrev cX0_dropInTheClear : ByteArray := prog_2_method_9_code
def yX0_dropInTheClear : MethodName := ⟨RX0, "dropInTheClear", "()V"⟩
abbrev cX0_walk : ByteArray := prog_2_method_10_code
def yX0_walk : MethodName := ⟨RX0, "walk", "(II)V"⟩
abbrev cX0_grab : ByteArray := prog_2_method_11_code
def yX0_grab : MethodName := ⟨RX0, "grab", "(I)V"⟩
abbrev cX0_goal : ByteArray := prog_2_method_12_code
def yX0_goal : MethodName := ⟨RX0, "goal", "(I)I"⟩
abbrev cX0_airiest : ByteArray := prog_2_method_13_code
def yX0_airiest : MethodName := ⟨RX0, "airiest", "()I"⟩
abbrev cX0_worthiest : ByteArray := prog_2_method_14_code
def yX0_worthiest : MethodName := ⟨RX0, "worthiest", "(I)I"⟩
abbrev cX0_nearest : ByteArray := prog_2_method_15_code
def yX0_nearest : MethodName := ⟨RX0, "nearest", "(I)I"⟩
abbrev cX0_distance : ByteArray := prog_2_method_16_code
def yX0_distance : MethodName := ⟨RX0, "distance", "(II)I"⟩
def RX1 : String := "OnlyInFog$People"
def TX1 : u_T := fun k => match k with
  | _ => ("", "", "", false)
def tyX1 : Nat → FieldType := fun k => match k with
  | _ => .int
abbrev wsX10 : List Cond := u_ws RX1 TX1 0
theorem nmX1 : ∀ a, a < 0 → ∀ b, b < 0 → a ≠ b → (TX1 a).2.1 ≠ (TX1 b).2.1 := by decide +kernel
theorem tyX1_ok : ∀ k, k < 0 → parseFieldDescriptor (TX1 k).2.2.1 = some (tyX1 k) := by decide +kernel
abbrev cX1_pace : ByteArray := prog_3_method_2_code
def yX1_pace : MethodName := ⟨RX1, "pace", "(II)I"⟩
abbrev cX1_grabs : ByteArray := prog_3_method_3_code
def yX1_grabs : MethodName := ⟨RX1, "grabs", "(II)I"⟩
abbrev cX1_steam : ByteArray := prog_3_method_4_code
def yX1_steam : MethodName := ⟨RX1, "steam", "(II)I"⟩
abbrev cX1_mayTakeAnothers : ByteArray := prog_3_method_5_code
def yX1_mayTakeAnothers : MethodName := ⟨RX1, "mayTakeAnothers", "(III)Z"⟩
def RX2 : String := "OnlyInFog$Pieces"
def TX2 : u_T := fun k => match k with
  | _ => ("", "", "", false)
def tyX2 : Nat → FieldType := fun k => match k with
  | _ => .int
abbrev wsX20 : List Cond := u_ws RX2 TX2 0
theorem nmX2 : ∀ a, a < 0 → ∀ b, b < 0 → a ≠ b → (TX2 a).2.1 ≠ (TX2 b).2.1 := by decide +kernel
theorem tyX2_ok : ∀ k, k < 0 → parseFieldDescriptor (TX2 k).2.2.1 = some (tyX2 k) := by decide +kernel
abbrev cX2_spread : ByteArray := prog_4_method_2_code
def yX2_spread : MethodName := ⟨RX2, "spread", "(II)I"⟩
abbrev cX2_pieceWith : ByteArray := prog_4_method_3_code
def yX2_pieceWith : MethodName := ⟨RX2, "pieceWith", "(II)I"⟩
abbrev cX2_howMany : ByteArray := prog_4_method_4_code
def yX2_howMany : MethodName := ⟨RX2, "howMany", "(I)I"⟩
abbrev cX2_greatest : ByteArray := prog_4_method_5_code
def yX2_greatest : MethodName := ⟨RX2, "greatest", "(I)I"⟩
abbrev cX2_steps : ByteArray := prog_4_method_6_code
def yX2_steps : MethodName := ⟨RX2, "steps", "(III)I"⟩
def RX3 : String := "OnlyInFog$Sky"
def TX3 : u_T := fun k => match k with
  | 0 => ("OnlyInFog$Sky", "sort", "[I", true)
  | 1 => ("OnlyInFog$Sky", "a", "[I", true)
  | 2 => ("OnlyInFog$Sky", "b", "[I", true)
  | 3 => ("OnlyInFog$Sky", "fronts", "I", false)
  | 4 => ("OnlyInFog$Sky", "air", "[I", true)
  | 5 => ("OnlyInFog$Sky", "hourKept", "[I", true)
  | 6 => ("OnlyInFog$Sky", "askedCell", "[I", true)
  | _ => ("OnlyInFog$Sky", "askedHour", "[I", true)
def tyX3 : Nat → FieldType := fun k => match k with
  | 0 => .array .int
  | 1 => .array .int
  | 2 => .array .int
  | 3 => .int
  | 4 => .array .int
  | 5 => .array .int
  | 6 => .array .int
  | _ => .array .int
abbrev wsX30 : List Cond := u_ws RX3 TX3 8
theorem nmX3 : ∀ a, a < 8 → ∀ b, b < 8 → a ≠ b → (TX3 a).2.1 ≠ (TX3 b).2.1 := by decide +kernel
theorem tyX3_ok : ∀ k, k < 8 → parseFieldDescriptor (TX3 k).2.2.1 = some (tyX3 k) := by decide +kernel
abbrev cX3_init : ByteArray := prog_5_method_1_code
def yX3_init : MethodName := ⟨RX3, "<init>", "()V"⟩
abbrev cX3_rowOf : ByteArray := prog_5_method_2_code
def yX3_rowOf : MethodName := ⟨RX3, "rowOf", "(LOnlyInFog$World;I)I"⟩
abbrev cX3_isOf : ByteArray := prog_5_method_3_code
def yX3_isOf : MethodName := ⟨RX3, "isOf", "(LOnlyInFog$World;)Z"⟩
abbrev cX3_turnTo : ByteArray := prog_5_method_4_code
def yX3_turnTo : MethodName := ⟨RX3, "turnTo", "(LOnlyInFog$World;)V"⟩
abbrev cX3_airAt : ByteArray := prog_5_method_5_code
def yX3_airAt : MethodName := ⟨RX3, "airAt", "(II)I"⟩
abbrev cX3_airOfFront : ByteArray := prog_5_method_6_code
def yX3_airOfFront : MethodName := ⟨RX3, "airOfFront", "(IIII)I"⟩
def RX4 : String := "OnlyInFog$World"
def TX4 : u_T := fun k => match k with
  | 0 => ("OnlyInFog$World", "sort", "[I", true)
  | 1 => ("OnlyInFog$World", "a", "[I", true)
  | 2 => ("OnlyInFog$World", "b", "[I", true)
  | 3 => ("OnlyInFog$World", "fronts", "I", false)
  | 4 => ("OnlyInFog$World", "worth", "[I", true)
  | 5 => ("OnlyInFog$World", "lying", "[I", true)
  | 6 => ("OnlyInFog$World", "owner", "[I", true)
  | 7 => ("OnlyInFog$World", "things", "I", false)
  | 8 => ("OnlyInFog$World", "kind", "[I", true)
  | 9 => ("OnlyInFog$World", "figure", "[I", true)
  | 10 => ("OnlyInFog$World", "home", "[I", true)
  | 11 => ("OnlyInFog$World", "place", "[I", true)
  | 12 => ("OnlyInFog$World", "people", "I", false)
  | 13 => ("OnlyInFog$World", "hour", "I", false)
  | _ => ("OnlyInFog$World", "thick", "I", false)
def tyX4 : Nat → FieldType := fun k => match k with
  | 0 => .array .int
  | 1 => .array .int
  | 2 => .array .int
  | 3 => .int
  | 4 => .array .int
  | 5 => .array .int
  | 6 => .array .int
  | 7 => .int
  | 8 => .array .int
  | 9 => .array .int
  | 10 => .array .int
  | 11 => .array .int
  | 12 => .int
  | 13 => .int
  | _ => .int
abbrev wsX40 : List Cond := u_ws RX4 TX4 15
theorem nmX4 : ∀ a, a < 15 → ∀ b, b < 15 → a ≠ b → (TX4 a).2.1 ≠ (TX4 b).2.1 := by decide +kernel
theorem tyX4_ok : ∀ k, k < 15 → parseFieldDescriptor (TX4 k).2.2.1 = some (tyX4 k) := by decide +kernel
abbrev cX4_init : ByteArray := prog_6_method_1_code
def yX4_init : MethodName := ⟨RX4, "<init>", "()V"⟩
abbrev cX4_become : ByteArray := prog_6_method_2_code
def yX4_become : MethodName := ⟨RX4, "become", "(LOnlyInFog$World;)V"⟩
abbrev cX4_hasThing : ByteArray := prog_6_method_4_code
def yX4_hasThing : MethodName := ⟨RX4, "hasThing", "(I)Z"⟩
abbrev cX4_hasPerson : ByteArray := prog_6_method_5_code
def yX4_hasPerson : MethodName := ⟨RX4, "hasPerson", "(I)Z"⟩
abbrev cX4_addFront : ByteArray := prog_6_method_6_code
def yX4_addFront : MethodName := ⟨RX4, "addFront", "(III)Z"⟩
abbrev cX4_addPerson : ByteArray := prog_6_method_7_code
def yX4_addPerson : MethodName := ⟨RX4, "addPerson", "(III)Z"⟩
abbrev cX4_addThing : ByteArray := prog_6_method_8_code
def yX4_addThing : MethodName := ⟨RX4, "addThing", "(II)Z"⟩
abbrev cX4_worthsOf : ByteArray := prog_6_method_14_code
def yX4_worthsOf : MethodName := ⟨RX4, "worthsOf", "(I)I"⟩
abbrev cX4_nobodysThings : ByteArray := prog_6_method_16_code
def yX4_nobodysThings : MethodName := ⟨RX4, "nobodysThings", "()I"⟩
abbrev cX4_ownedThings : ByteArray := prog_6_method_17_code
def yX4_ownedThings : MethodName := ⟨RX4, "ownedThings", "()I"⟩
abbrev cX4_peopleOn : ByteArray := prog_6_method_18_code
def yX4_peopleOn : MethodName := ⟨RX4, "peopleOn", "(I)I"⟩
abbrev cX4_thingsOn : ByteArray := prog_6_method_19_code
def yX4_thingsOn : MethodName := ⟨RX4, "thingsOn", "(I)I"⟩
def RX5 : String := "OnlyInFog"
def TX5 : u_T := fun k => match k with
  | 0 => ("OnlyInFog", "now", "LOnlyInFog$World;", true)
  | 1 => ("OnlyInFog", "kept", "LOnlyInFog$World;", true)
  | 2 => ("OnlyInFog", "imageTaken", "Z", false)
  | 3 => ("OnlyInFog", "earlier", "[LOnlyInFog$World;", true)
  | 4 => ("OnlyInFog", "backs", "I", false)
  | 5 => ("OnlyInFog", "letters", "[I", true)
  | 6 => ("OnlyInFog", "lettersIn", "I", false)
  | 7 => ("OnlyInFog", "told", "[I", true)
  | 8 => ("OnlyInFog", "toldIn", "I", false)
  | 9 => ("OnlyInFog", "refusals", "[I", true)
  | 10 => ("OnlyInFog", "mind", "LOnlyInFog$Mind;", true)
  | 11 => ("OnlyInFog", "onesGain", "[I", true)
  | _ => ("OnlyInFog", "othersGain", "[I", true)
def tyX5 : Nat → FieldType := fun k => match k with
  | 0 => .object "OnlyInFog$World"
  | 1 => .object "OnlyInFog$World"
  | 2 => .boolean
  | 3 => .array (.object "OnlyInFog$World")
  | 4 => .int
  | 5 => .array .int
  | 6 => .int
  | 7 => .array .int
  | 8 => .int
  | 9 => .array .int
  | 10 => .object "OnlyInFog$Mind"
  | 11 => .array .int
  | _ => .array .int
abbrev wsX50 : List Cond := u_ws RX5 TX5 13
theorem nmX5 : ∀ a, a < 13 → ∀ b, b < 13 → a ≠ b → (TX5 a).2.1 ≠ (TX5 b).2.1 := by decide +kernel
theorem tyX5_ok : ∀ k, k < 13 → parseFieldDescriptor (TX5 k).2.2.1 = some (tyX5 k) := by decide +kernel
abbrev cX5_init : ByteArray := prog_1_method_1_code
def yX5_init : MethodName := ⟨RX5, "<init>", "()V"⟩
abbrev cX5_person : ByteArray := prog_1_method_11_code
def yX5_person : MethodName := ⟨RX5, "person", "(II)I"⟩
abbrev cX5_thing : ByteArray := prog_1_method_12_code
def yX5_thing : MethodName := ⟨RX5, "thing", "(II)I"⟩
abbrev cX5_cell : ByteArray := prog_1_method_14_code
def yX5_cell : MethodName := ⟨RX5, "cell", "(II)I"⟩
abbrev cX5_count : ByteArray := prog_1_method_15_code
def yX5_count : MethodName := ⟨RX5, "count", "(I)I"⟩
abbrev cX5_blows : ByteArray := prog_1_method_16_code
def yX5_blows : MethodName := ⟨RX5, "blows", "(III)I"⟩
abbrev cX5_comes : ByteArray := prog_1_method_17_code
def yX5_comes : MethodName := ⟨RX5, "comes", "(III)I"⟩
abbrev cX5_lies : ByteArray := prog_1_method_18_code
def yX5_lies : MethodName := ⟨RX5, "lies", "(II)I"⟩
abbrev cX5_thick : ByteArray := prog_1_method_19_code
def yX5_thick : MethodName := ⟨RX5, "thick", "(I)I"⟩
abbrev cX5_owns : ByteArray := prog_1_method_20_code
def yX5_owns : MethodName := ⟨RX5, "owns", "(II)I"⟩
abbrev cX5_stands : ByteArray := prog_1_method_21_code
def yX5_stands : MethodName := ⟨RX5, "stands", "(II)I"⟩
abbrev cX5_hours : ByteArray := prog_1_method_23_code
def yX5_hours : MethodName := ⟨RX5, "hours", "(I)I"⟩
abbrev cX5_back : ByteArray := prog_1_method_24_code
def yX5_back : MethodName := ⟨RX5, "back", "()I"⟩
abbrev cX5_keepForBack : ByteArray := prog_1_method_25_code
def yX5_keepForBack : MethodName := ⟨RX5, "keepForBack", "()V"⟩
abbrev cX5_then : ByteArray := prog_1_method_27_code
def yX5_then : MethodName := ⟨RX5, "then", "(II)I"⟩
abbrev cX5_personThen : ByteArray := prog_1_method_29_code
def yX5_personThen : MethodName := ⟨RX5, "personThen", "(III)I"⟩
abbrev cX5_clears : ByteArray := prog_1_method_32_code
def yX5_clears : MethodName := ⟨RX5, "clears", "(I)I"⟩
abbrev cX5_stand : ByteArray := prog_1_method_33_code
def yX5_stand : MethodName := ⟨RX5, "stand", "(III)I"⟩
abbrev cX5_islands : ByteArray := prog_1_method_44_code
def yX5_islands : MethodName := ⟨RX5, "islands", "(I)I"⟩
abbrev cX5_way : ByteArray := prog_1_method_46_code
def yX5_way : MethodName := ⟨RX5, "way", "(II)I"⟩
abbrev cX5_sight : ByteArray := prog_1_method_48_code
def yX5_sight : MethodName := ⟨RX5, "sight", "(I)I"⟩
abbrev cX5_richest : ByteArray := prog_1_method_49_code
def yX5_richest : MethodName := ⟨RX5, "richest", "()I"⟩
abbrev cX5_wetThings : ByteArray := prog_1_method_50_code
def yX5_wetThings : MethodName := ⟨RX5, "wetThings", "()I"⟩
abbrev cX5_crowdedCell : ByteArray := prog_1_method_51_code
def yX5_crowdedCell : MethodName := ⟨RX5, "crowdedCell", "()I"⟩
abbrev cX5_hoursAlike : ByteArray := prog_1_method_52_code
def yX5_hoursAlike : MethodName := ⟨RX5, "hoursAlike", "()I"⟩
abbrev cX5_image : ByteArray := prog_1_method_58_code
def yX5_image : MethodName := ⟨RX5, "image", "()I"⟩
abbrev cX5_restore : ByteArray := prog_1_method_59_code
def yX5_restore : MethodName := ⟨RX5, "restore", "()I"⟩
abbrev cX5_refuse : ByteArray := prog_1_method_60_code
def yX5_refuse : MethodName := ⟨RX5, "refuse", "(I)I"⟩
abbrev cX5_outOfRange : ByteArray := prog_1_method_62_code
def yX5_outOfRange : MethodName := ⟨RX5, "outOfRange", "(III)I"⟩
abbrev cX5_isCell : ByteArray := prog_1_method_63_code
def yX5_isCell : MethodName := ⟨RX5, "isCell", "(I)Z"⟩
abbrev cX5_orNone : ByteArray := prog_1_method_64_code
def yX5_orNone : MethodName := ⟨RX5, "orNone", "(I)I"⟩
abbrev cX5_thinkOn : ByteArray := prog_1_method_68_code
def yX5_thinkOn : MethodName := ⟨RX5, "thinkOn", "(I)V"⟩
def RX6 : String := "OnlyInFogModel"
def TX6 : u_T := fun k => match k with
  | _ => ("", "", "", false)
def tyX6 : Nat → FieldType := fun k => match k with
  | _ => .int
abbrev wsX60 : List Cond := u_ws RX6 TX6 0
theorem nmX6 : ∀ a, a < 0 → ∀ b, b < 0 → a ≠ b → (TX6 a).2.1 ≠ (TX6 b).2.1 := by decide +kernel
theorem tyX6_ok : ∀ k, k < 0 → parseFieldDescriptor (TX6 k).2.2.1 = some (tyX6 k) := by decide +kernel
def RJ6 : String := "java/lang/Integer"
def TJ6 : u_T := fun k => match k with
  | _ => ("", "", "", false)
def tyJ6 : Nat → FieldType := fun k => match k with
  | _ => .int
theorem nmJ6 : ∀ a, a < 0 → ∀ b, b < 0 → a ≠ b → (TJ6 a).2.1 ≠ (TJ6 b).2.1 := by decide +kernel
theorem tyJ6_ok : ∀ k, k < 0 → parseFieldDescriptor (TJ6 k).2.2.1 = some (tyJ6 k) := by decide +kernel
abbrev cJ6_bitCount_0f7a4 : ByteArray := prog_9_method_49_code
def yJ6_bitCount_0f7a4 : MethodName := ⟨RJ6, "bitCount", "(I)I"⟩
def RJ9 : String := "java/lang/Math"
def TJ9 : u_T := fun k => match k with
  | _ => ("", "", "", false)
def tyJ9 : Nat → FieldType := fun k => match k with
  | _ => .int
theorem nmJ9 : ∀ a, a < 0 → ∀ b, b < 0 → a ≠ b → (TJ9 a).2.1 ≠ (TJ9 b).2.1 := by decide +kernel
theorem tyJ9_ok : ∀ k, k < 0 → parseFieldDescriptor (TJ9 k).2.2.1 = some (tyJ9 k) := by decide +kernel
abbrev cJ9_abs_0f7a4 : ByteArray := prog_10_method_59_code
def yJ9_abs_0f7a4 : MethodName := ⟨RJ9, "abs", "(I)I"⟩
abbrev cJ9_max_7cf53 : ByteArray := prog_10_method_65_code
def yJ9_max_7cf53 : MethodName := ⟨RJ9, "max", "(II)I"⟩
abbrev cJ9_min_7cf53 : ByteArray := prog_10_method_69_code
def yJ9_min_7cf53 : MethodName := ⟨RJ9, "min", "(II)I"⟩
def RJ10 : String := "java/lang/System"
def TJ10 : u_T := fun k => match k with
  | _ => ("", "", "", false)
def tyJ10 : Nat → FieldType := fun k => match k with
  | _ => .int
theorem nmJ10 : ∀ a, a < 0 → ∀ b, b < 0 → a ≠ b → (TJ10 a).2.1 ≠ (TJ10 b).2.1 := by decide +kernel
theorem tyJ10_ok : ∀ k, k < 0 → parseFieldDescriptor (TJ10 k).2.2.1 = some (tyJ10 k) := by decide +kernel
def RL : String := "OnlyInFogLaw"
abbrev cL_cell : ByteArray := method_2_code
def yL_cell : MethodName := ⟨RL, "cell", "([II)I"⟩
abbrev cL_pick : ByteArray := method_3_code
def yL_pick : MethodName := ⟨RL, "pick", "(II)I"⟩
abbrev cL_coast : ByteArray := method_5_code
def yL_coast : MethodName := ⟨RL, "coast", "(LOnlyInFog;[II)V"⟩
abbrev cL_law : ByteArray := code
def yL_law : MethodName := ⟨RL, "law", "([I)Z"⟩
end
section
def lw_g : List Cond := lw_tbl.filter goodWord
theorem gm {w : Cond} {i : Nat} (h : lw_tbl[i]? = some w) (hg : goodWord w = true) : w ∈ lw_g := List.mem_filter.mpr ⟨List.mem_of_getElem? h, hg⟩
abbrev kcl : List vw_C := [(RX0, TX0, 5), (RX3, TX3, 8), (RX4, TX4, 15), (RX5, TX5, 13)]
theorem u_in_of {C : String} {T : u_T} {N : Nat} (h : ∀ k, k < N → u_lay C T k ∈ lw_g) : ∀ w ∈ u_ws C T N, w ∈ lw_g := by
  intro w hw
  obtain ⟨k, hk, rfl⟩ := List.mem_map.mp hw
  exact h k (List.mem_range.mp hk)
def FLk (own : String) (index ci k : Nat) : Prop := ∃ (C : String) (T : u_T) (N : Nat), kcl[ci]? = some (C, T, N) ∧ (∀ w ∈ u_ws C T N, w ∈ lw_g) ∧ k < N ∧ Cond.fieldLink own index (T k).1 (T k).2.1 (T k).2.2.1 ∈ lw_g
def FPk (own : String) (index ci k : Nat) (ft : FieldType) : Prop := ∃ (C : String) (T : u_T) (N : Nat) (ty : Nat → FieldType), kcl[ci]? = some (C, T, N) ∧ (∀ w ∈ u_ws C T N, w ∈ lw_g) ∧ k < N ∧ Cond.fieldLink own index (T k).1 (T k).2.1 (T k).2.2.1 ∈ lw_g ∧ (∀ j, j < N → parseFieldDescriptor (T j).2.2.1 = some (ty j)) ∧ (∀ a, a < N → ∀ b, b < N → a ≠ b → (T a).2.1 ≠ (T b).2.1) ∧ (T k).2.2.2 = false ∧ ty k = ft
def MY (y : MethodName) (b : ByteArray) (n : Nat) (ret : Option FieldType) (np : Nat) : Prop := Cond.initialized y.cls ∈ lw_g ∧ Cond.code y b n ret ∈ lw_g ∧ y.cls ≠ "java/lang/invoke/MethodHandle" ∧ y.cls ≠ "java/lang/invoke/VarHandle" ∧ (parseMethodDescriptor y.desc).map (fun d => d.parameters.length) = some np
def VY (y : MethodName) (b : ByteArray) (n : Nat) (ret : Option FieldType) (np : Nat) : Prop := MY y b n ret np ∧ Cond.instanceMethod y ∈ lw_g ∧ Cond.selects y.cls y y ∈ lw_g
def SY (y : MethodName) (b : ByteArray) (n : Nat) (ret : Option FieldType) (np : Nat) : Prop := MY y b n ret np ∧ Cond.static y ∈ lw_g
theorem fw_X0 : ∀ w ∈ u_ws RX0 TX0 5, w ∈ lw_g := u_in_of (fun k hk => by
  match k, hk with
  | 0, _ => exact gm (i := 162) (by decide +kernel) rfl
  | 1, _ => exact gm (i := 164) (by decide +kernel) rfl
  | 2, _ => exact gm (i := 166) (by decide +kernel) rfl
  | 3, _ => exact gm (i := 168) (by decide +kernel) rfl
  | 4, _ => exact gm (i := 170) (by decide +kernel) rfl
  | k + 5, hk => exact absurd hk (by omega))
theorem fw_X3 : ∀ w ∈ u_ws RX3 TX3 8, w ∈ lw_g := u_in_of (fun k hk => by
  match k, hk with
  | 0, _ => exact gm (i := 139) (by decide +kernel) rfl
  | 1, _ => exact gm (i := 141) (by decide +kernel) rfl
  | 2, _ => exact gm (i := 143) (by decide +kernel) rfl
  | 3, _ => exact gm (i := 145) (by decide +kernel) rfl
  | 4, _ => exact gm (i := 147) (by decide +kernel) rfl
  | 5, _ => exact gm (i := 149) (by decide +kernel) rfl
  | 6, _ => exact gm (i := 151) (by decide +kernel) rfl
  | 7, _ => exact gm (i := 153) (by decide +kernel) rfl
  | k + 8, hk => exact absurd hk (by omega))
theorem fw_X4 : ∀ w ∈ u_ws RX4 TX4 15, w ∈ lw_g := u_in_of (fun k hk => by
  match k, hk with
  | 0, _ => exact gm (i := 83) (by decide +kernel) rfl
  | 1, _ => exact gm (i := 85) (by decide +kernel) rfl
  | 2, _ => exact gm (i := 87) (by decide +kernel) rfl
  | 3, _ => exact gm (i := 89) (by decide +kernel) rfl
  | 4, _ => exact gm (i := 91) (by decide +kernel) rfl
  | 5, _ => exact gm (i := 93) (by decide +kernel) rfl
  | 6, _ => exact gm (i := 95) (by decide +kernel) rfl
  | 7, _ => exact gm (i := 97) (by decide +kernel) rfl
  | 8, _ => exact gm (i := 99) (by decide +kernel) rfl
  | 9, _ => exact gm (i := 101) (by decide +kernel) rfl
  | 10, _ => exact gm (i := 103) (by decide +kernel) rfl
  | 11, _ => exact gm (i := 105) (by decide +kernel) rfl
  | 12, _ => exact gm (i := 107) (by decide +kernel) rfl
  | 13, _ => exact gm (i := 109) (by decide +kernel) rfl
  | 14, _ => exact gm (i := 111) (by decide +kernel) rfl
  | k + 15, hk => exact absurd hk (by omega))
theorem fw_X5 : ∀ w ∈ u_ws RX5 TX5 13, w ∈ lw_g := u_in_of (fun k hk => by
  match k, hk with
  | 0, _ => exact gm (i := 186) (by decide +kernel) rfl
  | 1, _ => exact gm (i := 188) (by decide +kernel) rfl
  | 2, _ => exact gm (i := 190) (by decide +kernel) rfl
  | 3, _ => exact gm (i := 192) (by decide +kernel) rfl
  | 4, _ => exact gm (i := 194) (by decide +kernel) rfl
  | 5, _ => exact gm (i := 196) (by decide +kernel) rfl
  | 6, _ => exact gm (i := 198) (by decide +kernel) rfl
  | 7, _ => exact gm (i := 200) (by decide +kernel) rfl
  | 8, _ => exact gm (i := 202) (by decide +kernel) rfl
  | 9, _ => exact gm (i := 204) (by decide +kernel) rfl
  | 10, _ => exact gm (i := 206) (by decide +kernel) rfl
  | 11, _ => exact gm (i := 208) (by decide +kernel) rfl
  | 12, _ => exact gm (i := 210) (by decide +kernel) rfl
  | k + 13, hk => exact absurd hk (by omega))
theorem f_X4_9 : FLk RX4 9 2 0 := ⟨RX4, TX4, 15, rfl, fw_X4, by decide, gm (i := 41) (by decide +kernel) rfl⟩
theorem f_X3_52 : FLk RX3 52 2 0 := ⟨RX4, TX4, 15, rfl, fw_X4, by decide, gm (i := 42) (by decide +kernel) rfl⟩
theorem f_X4_15 : FLk RX4 15 2 1 := ⟨RX4, TX4, 15, rfl, fw_X4, by decide, gm (i := 43) (by decide +kernel) rfl⟩
theorem f_X3_53 : FLk RX3 53 2 1 := ⟨RX4, TX4, 15, rfl, fw_X4, by decide, gm (i := 44) (by decide +kernel) rfl⟩
theorem f_X4_18 : FLk RX4 18 2 2 := ⟨RX4, TX4, 15, rfl, fw_X4, by decide, gm (i := 45) (by decide +kernel) rfl⟩
theorem f_X3_54 : FLk RX3 54 2 2 := ⟨RX4, TX4, 15, rfl, fw_X4, by decide, gm (i := 46) (by decide +kernel) rfl⟩
theorem f_X4_21 : FLk RX4 21 2 3 := ⟨RX4, TX4, 15, rfl, fw_X4, by decide, gm (i := 47) (by decide +kernel) rfl⟩
theorem p_X4_21 : FPk RX4 21 2 3 .int := ⟨RX4, TX4, 15, tyX4, rfl, fw_X4, by decide, gm (i := 47) (by decide +kernel) rfl, tyX4_ok, nmX4, rfl, rfl⟩
theorem f_X3_49 : FLk RX3 49 2 3 := ⟨RX4, TX4, 15, rfl, fw_X4, by decide, gm (i := 48) (by decide +kernel) rfl⟩
theorem p_X3_49 : FPk RX3 49 2 3 .int := ⟨RX4, TX4, 15, tyX4, rfl, fw_X4, by decide, gm (i := 48) (by decide +kernel) rfl, tyX4_ok, nmX4, rfl, rfl⟩
theorem f_X5_210 : FLk RX5 210 2 3 := ⟨RX4, TX4, 15, rfl, fw_X4, by decide, gm (i := 49) (by decide +kernel) rfl⟩
theorem p_X5_210 : FPk RX5 210 2 3 .int := ⟨RX4, TX4, 15, tyX4, rfl, fw_X4, by decide, gm (i := 49) (by decide +kernel) rfl, tyX4_ok, nmX4, rfl, rfl⟩
theorem f_X4_25 : FLk RX4 25 2 4 := ⟨RX4, TX4, 15, rfl, fw_X4, by decide, gm (i := 50) (by decide +kernel) rfl⟩
theorem f_X0_120 : FLk RX0 120 2 4 := ⟨RX4, TX4, 15, rfl, fw_X4, by decide, gm (i := 51) (by decide +kernel) rfl⟩
theorem f_X5_162 : FLk RX5 162 2 4 := ⟨RX4, TX4, 15, rfl, fw_X4, by decide, gm (i := 52) (by decide +kernel) rfl⟩
theorem f_X4_28 : FLk RX4 28 2 5 := ⟨RX4, TX4, 15, rfl, fw_X4, by decide, gm (i := 53) (by decide +kernel) rfl⟩
theorem f_X0_108 : FLk RX0 108 2 5 := ⟨RX4, TX4, 15, rfl, fw_X4, by decide, gm (i := 54) (by decide +kernel) rfl⟩
theorem f_X5_165 : FLk RX5 165 2 5 := ⟨RX4, TX4, 15, rfl, fw_X4, by decide, gm (i := 55) (by decide +kernel) rfl⟩
theorem f_X4_31 : FLk RX4 31 2 6 := ⟨RX4, TX4, 15, rfl, fw_X4, by decide, gm (i := 56) (by decide +kernel) rfl⟩
theorem f_X0_111 : FLk RX0 111 2 6 := ⟨RX4, TX4, 15, rfl, fw_X4, by decide, gm (i := 57) (by decide +kernel) rfl⟩
theorem f_X5_168 : FLk RX5 168 2 6 := ⟨RX4, TX4, 15, rfl, fw_X4, by decide, gm (i := 58) (by decide +kernel) rfl⟩
theorem f_X4_34 : FLk RX4 34 2 7 := ⟨RX4, TX4, 15, rfl, fw_X4, by decide, gm (i := 59) (by decide +kernel) rfl⟩
theorem p_X4_34 : FPk RX4 34 2 7 .int := ⟨RX4, TX4, 15, tyX4, rfl, fw_X4, by decide, gm (i := 59) (by decide +kernel) rfl, tyX4_ok, nmX4, rfl, rfl⟩
theorem f_X0_105 : FLk RX0 105 2 7 := ⟨RX4, TX4, 15, rfl, fw_X4, by decide, gm (i := 60) (by decide +kernel) rfl⟩
theorem p_X0_105 : FPk RX0 105 2 7 .int := ⟨RX4, TX4, 15, tyX4, rfl, fw_X4, by decide, gm (i := 60) (by decide +kernel) rfl, tyX4_ok, nmX4, rfl, rfl⟩
theorem f_X5_207 : FLk RX5 207 2 7 := ⟨RX4, TX4, 15, rfl, fw_X4, by decide, gm (i := 61) (by decide +kernel) rfl⟩
theorem p_X5_207 : FPk RX5 207 2 7 .int := ⟨RX4, TX4, 15, tyX4, rfl, fw_X4, by decide, gm (i := 61) (by decide +kernel) rfl, tyX4_ok, nmX4, rfl, rfl⟩
theorem f_X4_37 : FLk RX4 37 2 8 := ⟨RX4, TX4, 15, rfl, fw_X4, by decide, gm (i := 62) (by decide +kernel) rfl⟩
theorem f_X0_64 : FLk RX0 64 2 8 := ⟨RX4, TX4, 15, rfl, fw_X4, by decide, gm (i := 63) (by decide +kernel) rfl⟩
theorem f_X5_126 : FLk RX5 126 2 8 := ⟨RX4, TX4, 15, rfl, fw_X4, by decide, gm (i := 64) (by decide +kernel) rfl⟩
theorem f_X4_40 : FLk RX4 40 2 9 := ⟨RX4, TX4, 15, rfl, fw_X4, by decide, gm (i := 65) (by decide +kernel) rfl⟩
theorem f_X0_67 : FLk RX0 67 2 9 := ⟨RX4, TX4, 15, rfl, fw_X4, by decide, gm (i := 66) (by decide +kernel) rfl⟩
theorem f_X5_129 : FLk RX5 129 2 9 := ⟨RX4, TX4, 15, rfl, fw_X4, by decide, gm (i := 67) (by decide +kernel) rfl⟩
theorem f_X4_43 : FLk RX4 43 2 10 := ⟨RX4, TX4, 15, rfl, fw_X4, by decide, gm (i := 68) (by decide +kernel) rfl⟩
theorem f_X5_132 : FLk RX5 132 2 10 := ⟨RX4, TX4, 15, rfl, fw_X4, by decide, gm (i := 69) (by decide +kernel) rfl⟩
theorem f_X0_137 : FLk RX0 137 2 10 := ⟨RX4, TX4, 15, rfl, fw_X4, by decide, gm (i := 70) (by decide +kernel) rfl⟩
theorem f_X4_46 : FLk RX4 46 2 11 := ⟨RX4, TX4, 15, rfl, fw_X4, by decide, gm (i := 71) (by decide +kernel) rfl⟩
theorem f_X0_61 : FLk RX0 61 2 11 := ⟨RX4, TX4, 15, rfl, fw_X4, by decide, gm (i := 72) (by decide +kernel) rfl⟩
theorem f_X5_135 : FLk RX5 135 2 11 := ⟨RX4, TX4, 15, rfl, fw_X4, by decide, gm (i := 73) (by decide +kernel) rfl⟩
theorem f_X4_49 : FLk RX4 49 2 12 := ⟨RX4, TX4, 15, rfl, fw_X4, by decide, gm (i := 74) (by decide +kernel) rfl⟩
theorem p_X4_49 : FPk RX4 49 2 12 .int := ⟨RX4, TX4, 15, tyX4, rfl, fw_X4, by decide, gm (i := 74) (by decide +kernel) rfl, tyX4_ok, nmX4, rfl, rfl⟩
theorem f_X0_58 : FLk RX0 58 2 12 := ⟨RX4, TX4, 15, rfl, fw_X4, by decide, gm (i := 75) (by decide +kernel) rfl⟩
theorem p_X0_58 : FPk RX0 58 2 12 .int := ⟨RX4, TX4, 15, tyX4, rfl, fw_X4, by decide, gm (i := 75) (by decide +kernel) rfl, tyX4_ok, nmX4, rfl, rfl⟩
theorem f_X5_204 : FLk RX5 204 2 12 := ⟨RX4, TX4, 15, rfl, fw_X4, by decide, gm (i := 76) (by decide +kernel) rfl⟩
theorem p_X5_204 : FPk RX5 204 2 12 .int := ⟨RX4, TX4, 15, tyX4, rfl, fw_X4, by decide, gm (i := 76) (by decide +kernel) rfl, tyX4_ok, nmX4, rfl, rfl⟩
theorem f_X4_52 : FLk RX4 52 2 13 := ⟨RX4, TX4, 15, rfl, fw_X4, by decide, gm (i := 77) (by decide +kernel) rfl⟩
theorem p_X4_52 : FPk RX4 52 2 13 .int := ⟨RX4, TX4, 15, tyX4, rfl, fw_X4, by decide, gm (i := 77) (by decide +kernel) rfl, tyX4_ok, nmX4, rfl, rfl⟩
theorem f_X0_43 : FLk RX0 43 2 13 := ⟨RX4, TX4, 15, rfl, fw_X4, by decide, gm (i := 78) (by decide +kernel) rfl⟩
theorem p_X0_43 : FPk RX0 43 2 13 .int := ⟨RX4, TX4, 15, tyX4, rfl, fw_X4, by decide, gm (i := 78) (by decide +kernel) rfl, tyX4_ok, nmX4, rfl, rfl⟩
theorem f_X5_116 : FLk RX5 116 2 13 := ⟨RX4, TX4, 15, rfl, fw_X4, by decide, gm (i := 79) (by decide +kernel) rfl⟩
theorem p_X5_116 : FPk RX5 116 2 13 .int := ⟨RX4, TX4, 15, tyX4, rfl, fw_X4, by decide, gm (i := 79) (by decide +kernel) rfl, tyX4_ok, nmX4, rfl, rfl⟩
theorem f_X4_55 : FLk RX4 55 2 14 := ⟨RX4, TX4, 15, rfl, fw_X4, by decide, gm (i := 80) (by decide +kernel) rfl⟩
theorem p_X4_55 : FPk RX4 55 2 14 .int := ⟨RX4, TX4, 15, tyX4, rfl, fw_X4, by decide, gm (i := 80) (by decide +kernel) rfl, tyX4_ok, nmX4, rfl, rfl⟩
theorem f_X0_84 : FLk RX0 84 2 14 := ⟨RX4, TX4, 15, rfl, fw_X4, by decide, gm (i := 81) (by decide +kernel) rfl⟩
theorem p_X0_84 : FPk RX0 84 2 14 .int := ⟨RX4, TX4, 15, tyX4, rfl, fw_X4, by decide, gm (i := 81) (by decide +kernel) rfl, tyX4_ok, nmX4, rfl, rfl⟩
theorem f_X5_107 : FLk RX5 107 2 14 := ⟨RX4, TX4, 15, rfl, fw_X4, by decide, gm (i := 82) (by decide +kernel) rfl⟩
theorem p_X5_107 : FPk RX5 107 2 14 .int := ⟨RX4, TX4, 15, tyX4, rfl, fw_X4, by decide, gm (i := 82) (by decide +kernel) rfl, tyX4_ok, nmX4, rfl, rfl⟩
theorem f_X3_9 : FLk RX3 9 1 0 := ⟨RX3, TX3, 8, rfl, fw_X3, by decide, gm (i := 130) (by decide +kernel) rfl⟩
theorem f_X3_15 : FLk RX3 15 1 1 := ⟨RX3, TX3, 8, rfl, fw_X3, by decide, gm (i := 131) (by decide +kernel) rfl⟩
theorem f_X3_18 : FLk RX3 18 1 2 := ⟨RX3, TX3, 8, rfl, fw_X3, by decide, gm (i := 132) (by decide +kernel) rfl⟩
theorem f_X3_21 : FLk RX3 21 1 3 := ⟨RX3, TX3, 8, rfl, fw_X3, by decide, gm (i := 133) (by decide +kernel) rfl⟩
theorem p_X3_21 : FPk RX3 21 1 3 .int := ⟨RX3, TX3, 8, tyX3, rfl, fw_X3, by decide, gm (i := 133) (by decide +kernel) rfl, tyX3_ok, nmX3, rfl, rfl⟩
theorem f_X3_25 : FLk RX3 25 1 4 := ⟨RX3, TX3, 8, rfl, fw_X3, by decide, gm (i := 134) (by decide +kernel) rfl⟩
theorem f_X0_50 : FLk RX0 50 1 4 := ⟨RX3, TX3, 8, rfl, fw_X3, by decide, gm (i := 135) (by decide +kernel) rfl⟩
theorem f_X3_28 : FLk RX3 28 1 5 := ⟨RX3, TX3, 8, rfl, fw_X3, by decide, gm (i := 136) (by decide +kernel) rfl⟩
theorem f_X3_31 : FLk RX3 31 1 6 := ⟨RX3, TX3, 8, rfl, fw_X3, by decide, gm (i := 137) (by decide +kernel) rfl⟩
theorem f_X3_34 : FLk RX3 34 1 7 := ⟨RX3, TX3, 8, rfl, fw_X3, by decide, gm (i := 138) (by decide +kernel) rfl⟩
theorem f_X0_12 : FLk RX0 12 0 0 := ⟨RX0, TX0, 5, rfl, fw_X0, by decide, gm (i := 156) (by decide +kernel) rfl⟩
theorem f_X5_81 : FLk RX5 81 0 0 := ⟨RX0, TX0, 5, rfl, fw_X0, by decide, gm (i := 157) (by decide +kernel) rfl⟩
theorem f_X0_21 : FLk RX0 21 0 1 := ⟨RX0, TX0, 5, rfl, fw_X0, by decide, gm (i := 158) (by decide +kernel) rfl⟩
theorem f_X0_25 : FLk RX0 25 0 2 := ⟨RX0, TX0, 5, rfl, fw_X0, by decide, gm (i := 159) (by decide +kernel) rfl⟩
theorem p_X0_25 : FPk RX0 25 0 2 .int := ⟨RX0, TX0, 5, tyX0, rfl, fw_X0, by decide, gm (i := 159) (by decide +kernel) rfl, tyX0_ok, nmX0, rfl, rfl⟩
theorem f_X0_29 : FLk RX0 29 0 3 := ⟨RX0, TX0, 5, rfl, fw_X0, by decide, gm (i := 160) (by decide +kernel) rfl⟩
theorem p_X0_29 : FPk RX0 29 0 3 .int := ⟨RX0, TX0, 5, tyX0, rfl, fw_X0, by decide, gm (i := 160) (by decide +kernel) rfl, tyX0_ok, nmX0, rfl, rfl⟩
theorem f_X0_32 : FLk RX0 32 0 4 := ⟨RX0, TX0, 5, rfl, fw_X0, by decide, gm (i := 161) (by decide +kernel) rfl⟩
theorem p_X0_32 : FPk RX0 32 0 4 .boolean := ⟨RX0, TX0, 5, tyX0, rfl, fw_X0, by decide, gm (i := 161) (by decide +kernel) rfl, tyX0_ok, nmX0, rfl, rfl⟩
theorem f_X5_10 : FLk RX5 10 3 0 := ⟨RX5, TX5, 13, rfl, fw_X5, by decide, gm (i := 173) (by decide +kernel) rfl⟩
theorem f_X5_16 : FLk RX5 16 3 1 := ⟨RX5, TX5, 13, rfl, fw_X5, by decide, gm (i := 174) (by decide +kernel) rfl⟩
theorem f_X5_19 : FLk RX5 19 3 2 := ⟨RX5, TX5, 13, rfl, fw_X5, by decide, gm (i := 175) (by decide +kernel) rfl⟩
theorem p_X5_19 : FPk RX5 19 3 2 .boolean := ⟨RX5, TX5, 13, tyX5, rfl, fw_X5, by decide, gm (i := 175) (by decide +kernel) rfl, tyX5_ok, nmX5, rfl, rfl⟩
theorem f_X5_23 : FLk RX5 23 3 3 := ⟨RX5, TX5, 13, rfl, fw_X5, by decide, gm (i := 176) (by decide +kernel) rfl⟩
theorem f_X5_27 : FLk RX5 27 3 4 := ⟨RX5, TX5, 13, rfl, fw_X5, by decide, gm (i := 177) (by decide +kernel) rfl⟩
theorem p_X5_27 : FPk RX5 27 3 4 .int := ⟨RX5, TX5, 13, tyX5, rfl, fw_X5, by decide, gm (i := 177) (by decide +kernel) rfl, tyX5_ok, nmX5, rfl, rfl⟩
theorem f_X5_31 : FLk RX5 31 3 5 := ⟨RX5, TX5, 13, rfl, fw_X5, by decide, gm (i := 178) (by decide +kernel) rfl⟩
theorem f_X5_35 : FLk RX5 35 3 6 := ⟨RX5, TX5, 13, rfl, fw_X5, by decide, gm (i := 179) (by decide +kernel) rfl⟩
theorem p_X5_35 : FPk RX5 35 3 6 .int := ⟨RX5, TX5, 13, tyX5, rfl, fw_X5, by decide, gm (i := 179) (by decide +kernel) rfl, tyX5_ok, nmX5, rfl, rfl⟩
theorem f_X5_38 : FLk RX5 38 3 7 := ⟨RX5, TX5, 13, rfl, fw_X5, by decide, gm (i := 180) (by decide +kernel) rfl⟩
theorem f_X5_41 : FLk RX5 41 3 8 := ⟨RX5, TX5, 13, rfl, fw_X5, by decide, gm (i := 181) (by decide +kernel) rfl⟩
theorem p_X5_41 : FPk RX5 41 3 8 .int := ⟨RX5, TX5, 13, tyX5, rfl, fw_X5, by decide, gm (i := 181) (by decide +kernel) rfl, tyX5_ok, nmX5, rfl, rfl⟩
theorem f_X5_44 : FLk RX5 44 3 9 := ⟨RX5, TX5, 13, rfl, fw_X5, by decide, gm (i := 182) (by decide +kernel) rfl⟩
theorem f_X5_50 : FLk RX5 50 3 10 := ⟨RX5, TX5, 13, rfl, fw_X5, by decide, gm (i := 183) (by decide +kernel) rfl⟩
theorem f_X5_54 : FLk RX5 54 3 11 := ⟨RX5, TX5, 13, rfl, fw_X5, by decide, gm (i := 184) (by decide +kernel) rfl⟩
theorem f_X5_57 : FLk RX5 57 3 12 := ⟨RX5, TX5, 13, rfl, fw_X5, by decide, gm (i := 185) (by decide +kernel) rfl⟩
theorem v_X5_person : VY yX5_person cX5_person 3 (some .int) 2 := ⟨⟨gm (i := 18) (by decide +kernel) rfl, gm (i := 216) (by decide +kernel) rfl, by decide +kernel, by decide +kernel, by decide +kernel⟩, gm (i := 214) (by decide +kernel) rfl, gm (i := 215) (by decide +kernel) rfl⟩
theorem v_X4_hasPerson : VY yX4_hasPerson cX4_hasPerson 2 (some .boolean) 1 := ⟨⟨gm (i := 19) (by decide +kernel) rfl, gm (i := 220) (by decide +kernel) rfl, by decide +kernel, by decide +kernel, by decide +kernel⟩, gm (i := 218) (by decide +kernel) rfl, gm (i := 219) (by decide +kernel) rfl⟩
theorem v_X5_refuse : VY yX5_refuse cX5_refuse 3 (some .int) 1 := ⟨⟨gm (i := 18) (by decide +kernel) rfl, gm (i := 224) (by decide +kernel) rfl, by decide +kernel, by decide +kernel, by decide +kernel⟩, gm (i := 223) (by decide +kernel) rfl, gm (i := 0) (by decide +kernel) rfl⟩
theorem s_X1_pace : SY yX1_pace cX1_pace 2 (some .int) 2 := ⟨⟨gm (i := 25) (by decide +kernel) rfl, gm (i := 227) (by decide +kernel) rfl, by decide +kernel, by decide +kernel, by decide +kernel⟩, gm (i := 226) (by decide +kernel) rfl⟩
theorem s_X1_grabs : SY yX1_grabs cX1_grabs 2 (some .int) 2 := ⟨⟨gm (i := 25) (by decide +kernel) rfl, gm (i := 230) (by decide +kernel) rfl, by decide +kernel, by decide +kernel, by decide +kernel⟩, gm (i := 229) (by decide +kernel) rfl⟩
theorem s_X1_steam : SY yX1_steam cX1_steam 2 (some .int) 2 := ⟨⟨gm (i := 25) (by decide +kernel) rfl, gm (i := 233) (by decide +kernel) rfl, by decide +kernel, by decide +kernel, by decide +kernel⟩, gm (i := 232) (by decide +kernel) rfl⟩
theorem v_X0_begin : VY yX0_begin cX0_begin 2 none 1 := ⟨⟨gm (i := 20) (by decide +kernel) rfl, gm (i := 237) (by decide +kernel) rfl, by decide +kernel, by decide +kernel, by decide +kernel⟩, gm (i := 235) (by decide +kernel) rfl, gm (i := 236) (by decide +kernel) rfl⟩
theorem v_X4_become : VY yX4_become cX4_become 2 none 1 := ⟨⟨gm (i := 19) (by decide +kernel) rfl, gm (i := 241) (by decide +kernel) rfl, by decide +kernel, by decide +kernel, by decide +kernel⟩, gm (i := 239) (by decide +kernel) rfl, gm (i := 240) (by decide +kernel) rfl⟩
theorem v_X0_look : VY yX0_look cX0_look 1 none 0 := ⟨⟨gm (i := 20) (by decide +kernel) rfl, gm (i := 248) (by decide +kernel) rfl, by decide +kernel, by decide +kernel, by decide +kernel⟩, gm (i := 246) (by decide +kernel) rfl, gm (i := 247) (by decide +kernel) rfl⟩
theorem v_X3_rowOf : VY yX3_rowOf cX3_rowOf 6 (some .int) 2 := ⟨⟨gm (i := 21) (by decide +kernel) rfl, gm (i := 252) (by decide +kernel) rfl, by decide +kernel, by decide +kernel, by decide +kernel⟩, gm (i := 250) (by decide +kernel) rfl, gm (i := 251) (by decide +kernel) rfl⟩
theorem v_X3_isOf : VY yX3_isOf cX3_isOf 3 (some .boolean) 1 := ⟨⟨gm (i := 21) (by decide +kernel) rfl, gm (i := 256) (by decide +kernel) rfl, by decide +kernel, by decide +kernel, by decide +kernel⟩, gm (i := 255) (by decide +kernel) rfl, gm (i := 1) (by decide +kernel) rfl⟩
theorem v_X3_turnTo : VY yX3_turnTo cX3_turnTo 3 none 1 := ⟨⟨gm (i := 21) (by decide +kernel) rfl, gm (i := 260) (by decide +kernel) rfl, by decide +kernel, by decide +kernel, by decide +kernel⟩, gm (i := 259) (by decide +kernel) rfl, gm (i := 2) (by decide +kernel) rfl⟩
theorem v_X3_airAt : VY yX3_airAt cX3_airAt 7 (some .int) 2 := ⟨⟨gm (i := 21) (by decide +kernel) rfl, gm (i := 265) (by decide +kernel) rfl, by decide +kernel, by decide +kernel, by decide +kernel⟩, gm (i := 264) (by decide +kernel) rfl, gm (i := 3) (by decide +kernel) rfl⟩
theorem v_X3_airOfFront : VY yX3_airOfFront cX3_airOfFront 11 (some .int) 4 := ⟨⟨gm (i := 21) (by decide +kernel) rfl, gm (i := 272) (by decide +kernel) rfl, by decide +kernel, by decide +kernel, by decide +kernel⟩, gm (i := 271) (by decide +kernel) rfl, gm (i := 4) (by decide +kernel) rfl⟩
theorem v_X0_goal : VY yX0_goal cX0_goal 5 (some .int) 1 := ⟨⟨gm (i := 20) (by decide +kernel) rfl, gm (i := 277) (by decide +kernel) rfl, by decide +kernel, by decide +kernel, by decide +kernel⟩, gm (i := 275) (by decide +kernel) rfl, gm (i := 276) (by decide +kernel) rfl⟩
theorem v_X0_airiest : VY yX0_airiest cX0_airiest 3 (some .int) 0 := ⟨⟨gm (i := 20) (by decide +kernel) rfl, gm (i := 281) (by decide +kernel) rfl, by decide +kernel, by decide +kernel, by decide +kernel⟩, gm (i := 280) (by decide +kernel) rfl, gm (i := 5) (by decide +kernel) rfl⟩
theorem v_X0_airOn : VY yX0_airOn cX0_airOn 2 (some .int) 1 := ⟨⟨gm (i := 20) (by decide +kernel) rfl, gm (i := 285) (by decide +kernel) rfl, by decide +kernel, by decide +kernel, by decide +kernel⟩, gm (i := 283) (by decide +kernel) rfl, gm (i := 284) (by decide +kernel) rfl⟩
theorem v_X0_worthiest : VY yX0_worthiest cX0_worthiest 5 (some .int) 1 := ⟨⟨gm (i := 20) (by decide +kernel) rfl, gm (i := 289) (by decide +kernel) rfl, by decide +kernel, by decide +kernel, by decide +kernel⟩, gm (i := 288) (by decide +kernel) rfl, gm (i := 6) (by decide +kernel) rfl⟩
theorem v_X0_nearest : VY yX0_nearest cX0_nearest 6 (some .int) 1 := ⟨⟨gm (i := 20) (by decide +kernel) rfl, gm (i := 293) (by decide +kernel) rfl, by decide +kernel, by decide +kernel, by decide +kernel⟩, gm (i := 292) (by decide +kernel) rfl, gm (i := 7) (by decide +kernel) rfl⟩
theorem s_X0_distance : SY yX0_distance cX0_distance 2 (some .int) 2 := ⟨⟨gm (i := 20) (by decide +kernel) rfl, gm (i := 296) (by decide +kernel) rfl, by decide +kernel, by decide +kernel, by decide +kernel⟩, gm (i := 295) (by decide +kernel) rfl⟩
theorem v_X4_worthsOf : VY yX4_worthsOf cX4_worthsOf 4 (some .int) 1 := ⟨⟨gm (i := 19) (by decide +kernel) rfl, gm (i := 303) (by decide +kernel) rfl, by decide +kernel, by decide +kernel, by decide +kernel⟩, gm (i := 301) (by decide +kernel) rfl, gm (i := 302) (by decide +kernel) rfl⟩
theorem v_X5_thing : VY yX5_thing cX5_thing 3 (some .int) 2 := ⟨⟨gm (i := 18) (by decide +kernel) rfl, gm (i := 307) (by decide +kernel) rfl, by decide +kernel, by decide +kernel, by decide +kernel⟩, gm (i := 305) (by decide +kernel) rfl, gm (i := 306) (by decide +kernel) rfl⟩
theorem v_X4_hasThing : VY yX4_hasThing cX4_hasThing 2 (some .boolean) 1 := ⟨⟨gm (i := 19) (by decide +kernel) rfl, gm (i := 311) (by decide +kernel) rfl, by decide +kernel, by decide +kernel, by decide +kernel⟩, gm (i := 309) (by decide +kernel) rfl, gm (i := 310) (by decide +kernel) rfl⟩
theorem s_X5_orNone : SY yX5_orNone cX5_orNone 1 (some .int) 1 := ⟨⟨gm (i := 18) (by decide +kernel) rfl, gm (i := 314) (by decide +kernel) rfl, by decide +kernel, by decide +kernel, by decide +kernel⟩, gm (i := 313) (by decide +kernel) rfl⟩
theorem v_X5_cell : VY yX5_cell cX5_cell 3 (some .int) 2 := ⟨⟨gm (i := 18) (by decide +kernel) rfl, gm (i := 318) (by decide +kernel) rfl, by decide +kernel, by decide +kernel, by decide +kernel⟩, gm (i := 316) (by decide +kernel) rfl, gm (i := 317) (by decide +kernel) rfl⟩
theorem s_X5_isCell : SY yX5_isCell cX5_isCell 1 (some .boolean) 1 := ⟨⟨gm (i := 18) (by decide +kernel) rfl, gm (i := 321) (by decide +kernel) rfl, by decide +kernel, by decide +kernel, by decide +kernel⟩, gm (i := 320) (by decide +kernel) rfl⟩
theorem v_X0_fogOn : VY yX0_fogOn cX0_fogOn 4 (some .int) 1 := ⟨⟨gm (i := 20) (by decide +kernel) rfl, gm (i := 326) (by decide +kernel) rfl, by decide +kernel, by decide +kernel, by decide +kernel⟩, gm (i := 324) (by decide +kernel) rfl, gm (i := 325) (by decide +kernel) rfl⟩
theorem v_X0_isInFog : VY yX0_isInFog cX0_isInFog 2 (some .boolean) 1 := ⟨⟨gm (i := 20) (by decide +kernel) rfl, gm (i := 332) (by decide +kernel) rfl, by decide +kernel, by decide +kernel, by decide +kernel⟩, gm (i := 330) (by decide +kernel) rfl, gm (i := 331) (by decide +kernel) rfl⟩
theorem v_X4_peopleOn : VY yX4_peopleOn cX4_peopleOn 4 (some .int) 1 := ⟨⟨gm (i := 19) (by decide +kernel) rfl, gm (i := 337) (by decide +kernel) rfl, by decide +kernel, by decide +kernel, by decide +kernel⟩, gm (i := 335) (by decide +kernel) rfl, gm (i := 336) (by decide +kernel) rfl⟩
theorem v_X4_thingsOn : VY yX4_thingsOn cX4_thingsOn 4 (some .int) 1 := ⟨⟨gm (i := 19) (by decide +kernel) rfl, gm (i := 341) (by decide +kernel) rfl, by decide +kernel, by decide +kernel, by decide +kernel⟩, gm (i := 339) (by decide +kernel) rfl, gm (i := 340) (by decide +kernel) rfl⟩
theorem v_X5_count : VY yX5_count cX5_count 2 (some .int) 1 := ⟨⟨gm (i := 18) (by decide +kernel) rfl, gm (i := 345) (by decide +kernel) rfl, by decide +kernel, by decide +kernel, by decide +kernel⟩, gm (i := 343) (by decide +kernel) rfl, gm (i := 344) (by decide +kernel) rfl⟩
theorem v_X4_ownedThings : VY yX4_ownedThings cX4_ownedThings 1 (some .int) 0 := ⟨⟨gm (i := 19) (by decide +kernel) rfl, gm (i := 349) (by decide +kernel) rfl, by decide +kernel, by decide +kernel, by decide +kernel⟩, gm (i := 347) (by decide +kernel) rfl, gm (i := 348) (by decide +kernel) rfl⟩
theorem v_X4_nobodysThings : VY yX4_nobodysThings cX4_nobodysThings 3 (some .int) 0 := ⟨⟨gm (i := 19) (by decide +kernel) rfl, gm (i := 353) (by decide +kernel) rfl, by decide +kernel, by decide +kernel, by decide +kernel⟩, gm (i := 351) (by decide +kernel) rfl, gm (i := 352) (by decide +kernel) rfl⟩
theorem s_J6_bitCount_0f7a4 : SY yJ6_bitCount_0f7a4 cJ6_bitCount_0f7a4 1 (some .int) 1 := ⟨⟨gm (i := 22) (by decide +kernel) rfl, gm (i := 356) (by decide +kernel) rfl, by decide +kernel, by decide +kernel, by decide +kernel⟩, gm (i := 355) (by decide +kernel) rfl⟩
theorem v_X0_foggyCells : VY yX0_foggyCells cX0_foggyCells 3 (some .int) 0 := ⟨⟨gm (i := 20) (by decide +kernel) rfl, gm (i := 363) (by decide +kernel) rfl, by decide +kernel, by decide +kernel, by decide +kernel⟩, gm (i := 361) (by decide +kernel) rfl, gm (i := 362) (by decide +kernel) rfl⟩
theorem v_X5_stands : VY yX5_stands cX5_stands 4 (some .int) 2 := ⟨⟨gm (i := 18) (by decide +kernel) rfl, gm (i := 368) (by decide +kernel) rfl, by decide +kernel, by decide +kernel, by decide +kernel⟩, gm (i := 366) (by decide +kernel) rfl, gm (i := 367) (by decide +kernel) rfl⟩
theorem v_X5_keepForBack : VY yX5_keepForBack cX5_keepForBack 3 none 0 := ⟨⟨gm (i := 18) (by decide +kernel) rfl, gm (i := 372) (by decide +kernel) rfl, by decide +kernel, by decide +kernel, by decide +kernel⟩, gm (i := 371) (by decide +kernel) rfl, gm (i := 8) (by decide +kernel) rfl⟩
theorem v_X5_hours : VY yX5_hours cX5_hours 3 (some .int) 1 := ⟨⟨gm (i := 18) (by decide +kernel) rfl, gm (i := 377) (by decide +kernel) rfl, by decide +kernel, by decide +kernel, by decide +kernel⟩, gm (i := 375) (by decide +kernel) rfl, gm (i := 376) (by decide +kernel) rfl⟩
theorem s_X5_outOfRange : SY yX5_outOfRange cX5_outOfRange 3 (some .int) 3 := ⟨⟨gm (i := 18) (by decide +kernel) rfl, gm (i := 380) (by decide +kernel) rfl, by decide +kernel, by decide +kernel, by decide +kernel⟩, gm (i := 379) (by decide +kernel) rfl⟩
theorem v_X5_thinkOn : VY yX5_thinkOn cX5_thinkOn 2 none 1 := ⟨⟨gm (i := 18) (by decide +kernel) rfl, gm (i := 384) (by decide +kernel) rfl, by decide +kernel, by decide +kernel, by decide +kernel⟩, gm (i := 383) (by decide +kernel) rfl, gm (i := 9) (by decide +kernel) rfl⟩
theorem v_X0_goOn : VY yX0_goOn cX0_goOn 4 none 1 := ⟨⟨gm (i := 20) (by decide +kernel) rfl, gm (i := 388) (by decide +kernel) rfl, by decide +kernel, by decide +kernel, by decide +kernel⟩, gm (i := 386) (by decide +kernel) rfl, gm (i := 387) (by decide +kernel) rfl⟩
theorem v_X0_dropInTheClear : VY yX0_dropInTheClear cX0_dropInTheClear 2 none 0 := ⟨⟨gm (i := 20) (by decide +kernel) rfl, gm (i := 392) (by decide +kernel) rfl, by decide +kernel, by decide +kernel, by decide +kernel⟩, gm (i := 391) (by decide +kernel) rfl, gm (i := 10) (by decide +kernel) rfl⟩
theorem v_X0_walk : VY yX0_walk cX0_walk 7 none 2 := ⟨⟨gm (i := 20) (by decide +kernel) rfl, gm (i := 397) (by decide +kernel) rfl, by decide +kernel, by decide +kernel, by decide +kernel⟩, gm (i := 396) (by decide +kernel) rfl, gm (i := 11) (by decide +kernel) rfl⟩
theorem v_X0_grab : VY yX0_grab cX0_grab 7 none 1 := ⟨⟨gm (i := 20) (by decide +kernel) rfl, gm (i := 402) (by decide +kernel) rfl, by decide +kernel, by decide +kernel, by decide +kernel⟩, gm (i := 401) (by decide +kernel) rfl, gm (i := 12) (by decide +kernel) rfl⟩
theorem s_X1_mayTakeAnothers : SY yX1_mayTakeAnothers cX1_mayTakeAnothers 3 (some .boolean) 3 := ⟨⟨gm (i := 25) (by decide +kernel) rfl, gm (i := 406) (by decide +kernel) rfl, by decide +kernel, by decide +kernel, by decide +kernel⟩, gm (i := 405) (by decide +kernel) rfl⟩
theorem v_X5_back : VY yX5_back cX5_back 1 (some .int) 0 := ⟨⟨gm (i := 18) (by decide +kernel) rfl, gm (i := 410) (by decide +kernel) rfl, by decide +kernel, by decide +kernel, by decide +kernel⟩, gm (i := 408) (by decide +kernel) rfl, gm (i := 409) (by decide +kernel) rfl⟩
theorem v_X5_then : VY yX5_then cX5_then 4 (some .int) 2 := ⟨⟨gm (i := 18) (by decide +kernel) rfl, gm (i := 414) (by decide +kernel) rfl, by decide +kernel, by decide +kernel, by decide +kernel⟩, gm (i := 412) (by decide +kernel) rfl, gm (i := 413) (by decide +kernel) rfl⟩
theorem v_X5_personThen : VY yX5_personThen cX5_personThen 5 (some .int) 3 := ⟨⟨gm (i := 18) (by decide +kernel) rfl, gm (i := 419) (by decide +kernel) rfl, by decide +kernel, by decide +kernel, by decide +kernel⟩, gm (i := 417) (by decide +kernel) rfl, gm (i := 418) (by decide +kernel) rfl⟩
theorem v_X5_clears : VY yX5_clears cX5_clears 3 (some .int) 1 := ⟨⟨gm (i := 18) (by decide +kernel) rfl, gm (i := 423) (by decide +kernel) rfl, by decide +kernel, by decide +kernel, by decide +kernel⟩, gm (i := 421) (by decide +kernel) rfl, gm (i := 422) (by decide +kernel) rfl⟩
theorem v_X5_stand : VY yX5_stand cX5_stand 9 (some .int) 3 := ⟨⟨gm (i := 18) (by decide +kernel) rfl, gm (i := 427) (by decide +kernel) rfl, by decide +kernel, by decide +kernel, by decide +kernel⟩, gm (i := 425) (by decide +kernel) rfl, gm (i := 426) (by decide +kernel) rfl⟩
theorem v_X5_islands : VY yX5_islands cX5_islands 3 (some .int) 1 := ⟨⟨gm (i := 18) (by decide +kernel) rfl, gm (i := 431) (by decide +kernel) rfl, by decide +kernel, by decide +kernel, by decide +kernel⟩, gm (i := 429) (by decide +kernel) rfl, gm (i := 430) (by decide +kernel) rfl⟩
theorem s_X2_pieceWith : SY yX2_pieceWith cX2_pieceWith 4 (some .int) 2 := ⟨⟨gm (i := 26) (by decide +kernel) rfl, gm (i := 434) (by decide +kernel) rfl, by decide +kernel, by decide +kernel, by decide +kernel⟩, gm (i := 433) (by decide +kernel) rfl⟩
theorem s_X2_spread : SY yX2_spread cX2_spread 4 (some .int) 2 := ⟨⟨gm (i := 26) (by decide +kernel) rfl, gm (i := 437) (by decide +kernel) rfl, by decide +kernel, by decide +kernel, by decide +kernel⟩, gm (i := 436) (by decide +kernel) rfl⟩
theorem s_X2_howMany : SY yX2_howMany cX2_howMany 4 (some .int) 1 := ⟨⟨gm (i := 26) (by decide +kernel) rfl, gm (i := 442) (by decide +kernel) rfl, by decide +kernel, by decide +kernel, by decide +kernel⟩, gm (i := 441) (by decide +kernel) rfl⟩
theorem s_X2_greatest : SY yX2_greatest cX2_greatest 3 (some .int) 1 := ⟨⟨gm (i := 26) (by decide +kernel) rfl, gm (i := 446) (by decide +kernel) rfl, by decide +kernel, by decide +kernel, by decide +kernel⟩, gm (i := 445) (by decide +kernel) rfl⟩
theorem v_X5_way : VY yX5_way cX5_way 3 (some .int) 2 := ⟨⟨gm (i := 18) (by decide +kernel) rfl, gm (i := 452) (by decide +kernel) rfl, by decide +kernel, by decide +kernel, by decide +kernel⟩, gm (i := 450) (by decide +kernel) rfl, gm (i := 451) (by decide +kernel) rfl⟩
theorem s_X2_steps : SY yX2_steps cX2_steps 5 (some .int) 3 := ⟨⟨gm (i := 26) (by decide +kernel) rfl, gm (i := 455) (by decide +kernel) rfl, by decide +kernel, by decide +kernel, by decide +kernel⟩, gm (i := 454) (by decide +kernel) rfl⟩
theorem v_X5_sight : VY yX5_sight cX5_sight 2 (some .int) 1 := ⟨⟨gm (i := 18) (by decide +kernel) rfl, gm (i := 459) (by decide +kernel) rfl, by decide +kernel, by decide +kernel, by decide +kernel⟩, gm (i := 457) (by decide +kernel) rfl, gm (i := 458) (by decide +kernel) rfl⟩
theorem v_X5_richest : VY yX5_richest cX5_richest 5 (some .int) 0 := ⟨⟨gm (i := 18) (by decide +kernel) rfl, gm (i := 463) (by decide +kernel) rfl, by decide +kernel, by decide +kernel, by decide +kernel⟩, gm (i := 462) (by decide +kernel) rfl, gm (i := 13) (by decide +kernel) rfl⟩
theorem v_X5_wetThings : VY yX5_wetThings cX5_wetThings 3 (some .int) 0 := ⟨⟨gm (i := 18) (by decide +kernel) rfl, gm (i := 467) (by decide +kernel) rfl, by decide +kernel, by decide +kernel, by decide +kernel⟩, gm (i := 466) (by decide +kernel) rfl, gm (i := 14) (by decide +kernel) rfl⟩
theorem v_X5_crowdedCell : VY yX5_crowdedCell cX5_crowdedCell 5 (some .int) 0 := ⟨⟨gm (i := 18) (by decide +kernel) rfl, gm (i := 471) (by decide +kernel) rfl, by decide +kernel, by decide +kernel, by decide +kernel⟩, gm (i := 470) (by decide +kernel) rfl, gm (i := 15) (by decide +kernel) rfl⟩
theorem v_X5_hoursAlike : VY yX5_hoursAlike cX5_hoursAlike 4 (some .int) 0 := ⟨⟨gm (i := 18) (by decide +kernel) rfl, gm (i := 476) (by decide +kernel) rfl, by decide +kernel, by decide +kernel, by decide +kernel⟩, gm (i := 475) (by decide +kernel) rfl, gm (i := 16) (by decide +kernel) rfl⟩
theorem v_X5_image : VY yX5_image cX5_image 1 (some .int) 0 := ⟨⟨gm (i := 18) (by decide +kernel) rfl, gm (i := 480) (by decide +kernel) rfl, by decide +kernel, by decide +kernel, by decide +kernel⟩, gm (i := 478) (by decide +kernel) rfl, gm (i := 479) (by decide +kernel) rfl⟩
theorem v_X5_restore : VY yX5_restore cX5_restore 1 (some .int) 0 := ⟨⟨gm (i := 18) (by decide +kernel) rfl, gm (i := 484) (by decide +kernel) rfl, by decide +kernel, by decide +kernel, by decide +kernel⟩, gm (i := 482) (by decide +kernel) rfl, gm (i := 483) (by decide +kernel) rfl⟩
theorem s_L_coast : SY yL_coast cL_coast 5 none 3 := ⟨⟨gm (i := 17) (by decide +kernel) rfl, gm (i := 487) (by decide +kernel) rfl, by decide +kernel, by decide +kernel, by decide +kernel⟩, gm (i := 486) (by decide +kernel) rfl⟩
theorem s_L_cell : SY yL_cell cL_cell 2 (some .int) 2 := ⟨⟨gm (i := 17) (by decide +kernel) rfl, gm (i := 490) (by decide +kernel) rfl, by decide +kernel, by decide +kernel, by decide +kernel⟩, gm (i := 489) (by decide +kernel) rfl⟩
theorem s_L_pick : SY yL_pick cL_pick 2 (some .int) 2 := ⟨⟨gm (i := 17) (by decide +kernel) rfl, gm (i := 493) (by decide +kernel) rfl, by decide +kernel, by decide +kernel, by decide +kernel⟩, gm (i := 492) (by decide +kernel) rfl⟩
theorem v_X5_blows : VY yX5_blows cX5_blows 4 (some .int) 3 := ⟨⟨gm (i := 18) (by decide +kernel) rfl, gm (i := 498) (by decide +kernel) rfl, by decide +kernel, by decide +kernel, by decide +kernel⟩, gm (i := 496) (by decide +kernel) rfl, gm (i := 497) (by decide +kernel) rfl⟩
theorem v_X4_addFront : VY yX4_addFront cX4_addFront 4 (some .boolean) 3 := ⟨⟨gm (i := 19) (by decide +kernel) rfl, gm (i := 502) (by decide +kernel) rfl, by decide +kernel, by decide +kernel, by decide +kernel⟩, gm (i := 500) (by decide +kernel) rfl, gm (i := 501) (by decide +kernel) rfl⟩
theorem v_X5_comes : VY yX5_comes cX5_comes 4 (some .int) 3 := ⟨⟨gm (i := 18) (by decide +kernel) rfl, gm (i := 506) (by decide +kernel) rfl, by decide +kernel, by decide +kernel, by decide +kernel⟩, gm (i := 504) (by decide +kernel) rfl, gm (i := 505) (by decide +kernel) rfl⟩
theorem v_X4_addPerson : VY yX4_addPerson cX4_addPerson 4 (some .boolean) 3 := ⟨⟨gm (i := 19) (by decide +kernel) rfl, gm (i := 510) (by decide +kernel) rfl, by decide +kernel, by decide +kernel, by decide +kernel⟩, gm (i := 508) (by decide +kernel) rfl, gm (i := 509) (by decide +kernel) rfl⟩
theorem v_X5_lies : VY yX5_lies cX5_lies 3 (some .int) 2 := ⟨⟨gm (i := 18) (by decide +kernel) rfl, gm (i := 515) (by decide +kernel) rfl, by decide +kernel, by decide +kernel, by decide +kernel⟩, gm (i := 513) (by decide +kernel) rfl, gm (i := 514) (by decide +kernel) rfl⟩
theorem v_X4_addThing : VY yX4_addThing cX4_addThing 3 (some .boolean) 2 := ⟨⟨gm (i := 19) (by decide +kernel) rfl, gm (i := 519) (by decide +kernel) rfl, by decide +kernel, by decide +kernel, by decide +kernel⟩, gm (i := 517) (by decide +kernel) rfl, gm (i := 518) (by decide +kernel) rfl⟩
theorem v_X5_owns : VY yX5_owns cX5_owns 4 (some .int) 2 := ⟨⟨gm (i := 18) (by decide +kernel) rfl, gm (i := 523) (by decide +kernel) rfl, by decide +kernel, by decide +kernel, by decide +kernel⟩, gm (i := 521) (by decide +kernel) rfl, gm (i := 522) (by decide +kernel) rfl⟩
theorem v_X5_thick : VY yX5_thick cX5_thick 4 (some .int) 1 := ⟨⟨gm (i := 18) (by decide +kernel) rfl, gm (i := 527) (by decide +kernel) rfl, by decide +kernel, by decide +kernel, by decide +kernel⟩, gm (i := 525) (by decide +kernel) rfl, gm (i := 526) (by decide +kernel) rfl⟩
theorem l_L_72 : Cond.methodLink RL 72 yX5_person ∈ lw_g := gm (i := 213) (by decide +kernel) rfl
theorem l_X5_123 : Cond.methodLink RX5 123 yX4_hasPerson ∈ lw_g := gm (i := 217) (by decide +kernel) rfl
theorem l_X5_60 : Cond.methodLink RX5 60 yX5_refuse ∈ lw_g := gm (i := 221) (by decide +kernel) rfl
theorem l_X5_138 : Cond.methodLink RX5 138 yX1_pace ∈ lw_g := gm (i := 225) (by decide +kernel) rfl
theorem l_X5_144 : Cond.methodLink RX5 144 yX1_grabs ∈ lw_g := gm (i := 228) (by decide +kernel) rfl
theorem l_X5_147 : Cond.methodLink RX5 147 yX1_steam ∈ lw_g := gm (i := 231) (by decide +kernel) rfl
theorem l_X5_67 : Cond.methodLink RX5 67 yX0_begin ∈ lw_g := gm (i := 234) (by decide +kernel) rfl
theorem l_X0_36 : Cond.methodLink RX0 36 yX4_become ∈ lw_g := gm (i := 238) (by decide +kernel) rfl
theorem l_X4_58 : Cond.methodLink RX4 58 arraycopyName ∈ lw_g := gm (i := 242) (by decide +kernel) rfl
theorem l_X0_40 : Cond.methodLink RX0 40 yX0_look ∈ lw_g := gm (i := 245) (by decide +kernel) rfl
theorem l_X0_46 : Cond.methodLink RX0 46 yX3_rowOf ∈ lw_g := gm (i := 249) (by decide +kernel) rfl
theorem l_X3_37 : Cond.methodLink RX3 37 yX3_isOf ∈ lw_g := gm (i := 253) (by decide +kernel) rfl
theorem l_X3_41 : Cond.methodLink RX3 41 yX3_turnTo ∈ lw_g := gm (i := 257) (by decide +kernel) rfl
theorem l_X3_55 : Cond.methodLink RX3 55 arraycopyName ∈ lw_g := gm (i := 261) (by decide +kernel) rfl
theorem l_X3_45 : Cond.methodLink RX3 45 yX3_airAt ∈ lw_g := gm (i := 262) (by decide +kernel) rfl
theorem l_X3_61 : Cond.methodLink RX3 61 yJ9_max_7cf53 ∈ lw_g := gm (i := 266) (by decide +kernel) rfl
theorem l_X3_66 : Cond.methodLink RX3 66 yX3_airOfFront ∈ lw_g := gm (i := 269) (by decide +kernel) rfl
theorem l_X5_150 : Cond.methodLink RX5 150 yX0_look ∈ lw_g := gm (i := 273) (by decide +kernel) rfl
theorem l_X5_153 : Cond.methodLink RX5 153 yX0_goal ∈ lw_g := gm (i := 274) (by decide +kernel) rfl
theorem l_X0_127 : Cond.methodLink RX0 127 yX0_airiest ∈ lw_g := gm (i := 278) (by decide +kernel) rfl
theorem l_X0_54 : Cond.methodLink RX0 54 yX0_airOn ∈ lw_g := gm (i := 282) (by decide +kernel) rfl
theorem l_X0_131 : Cond.methodLink RX0 131 yX0_worthiest ∈ lw_g := gm (i := 286) (by decide +kernel) rfl
theorem l_X0_134 : Cond.methodLink RX0 134 yX0_nearest ∈ lw_g := gm (i := 290) (by decide +kernel) rfl
theorem l_X0_140 : Cond.methodLink RX0 140 yX0_distance ∈ lw_g := gm (i := 294) (by decide +kernel) rfl
theorem l_X0_143 : Cond.methodLink RX0 143 yJ9_abs_0f7a4 ∈ lw_g := gm (i := 297) (by decide +kernel) rfl
theorem l_X5_156 : Cond.methodLink RX5 156 yX4_worthsOf ∈ lw_g := gm (i := 300) (by decide +kernel) rfl
theorem l_L_69 : Cond.methodLink RL 69 yX5_thing ∈ lw_g := gm (i := 304) (by decide +kernel) rfl
theorem l_X5_159 : Cond.methodLink RX5 159 yX4_hasThing ∈ lw_g := gm (i := 308) (by decide +kernel) rfl
theorem l_X5_171 : Cond.methodLink RX5 171 yX5_orNone ∈ lw_g := gm (i := 312) (by decide +kernel) rfl
theorem l_L_94 : Cond.methodLink RL 94 yX5_cell ∈ lw_g := gm (i := 315) (by decide +kernel) rfl
theorem l_X5_186 : Cond.methodLink RX5 186 yX5_isCell ∈ lw_g := gm (i := 319) (by decide +kernel) rfl
theorem l_X5_189 : Cond.methodLink RX5 189 yX0_airOn ∈ lw_g := gm (i := 322) (by decide +kernel) rfl
theorem l_X5_192 : Cond.methodLink RX5 192 yX0_fogOn ∈ lw_g := gm (i := 323) (by decide +kernel) rfl
theorem l_X0_70 : Cond.methodLink RX0 70 yX1_steam ∈ lw_g := gm (i := 327) (by decide +kernel) rfl
theorem l_X0_76 : Cond.methodLink RX0 76 yJ9_max_7cf53 ∈ lw_g := gm (i := 328) (by decide +kernel) rfl
theorem l_X5_195 : Cond.methodLink RX5 195 yX0_isInFog ∈ lw_g := gm (i := 329) (by decide +kernel) rfl
theorem l_X0_81 : Cond.methodLink RX0 81 yX0_fogOn ∈ lw_g := gm (i := 333) (by decide +kernel) rfl
theorem l_X5_198 : Cond.methodLink RX5 198 yX4_peopleOn ∈ lw_g := gm (i := 334) (by decide +kernel) rfl
theorem l_X5_201 : Cond.methodLink RX5 201 yX4_thingsOn ∈ lw_g := gm (i := 338) (by decide +kernel) rfl
theorem l_L_47 : Cond.methodLink RL 47 yX5_count ∈ lw_g := gm (i := 342) (by decide +kernel) rfl
theorem l_X5_213 : Cond.methodLink RX5 213 yX4_ownedThings ∈ lw_g := gm (i := 346) (by decide +kernel) rfl
theorem l_X4_77 : Cond.methodLink RX4 77 yX4_nobodysThings ∈ lw_g := gm (i := 350) (by decide +kernel) rfl
theorem l_X4_81 : Cond.methodLink RX4 81 yJ6_bitCount_0f7a4 ∈ lw_g := gm (i := 354) (by decide +kernel) rfl
theorem k_J6_265 : Cond.constant RJ6 265 (1431655765) ∈ lw_g := gm (i := 357) (by decide +kernel) rfl
theorem k_J6_266 : Cond.constant RJ6 266 (858993459) ∈ lw_g := gm (i := 358) (by decide +kernel) rfl
theorem k_J6_267 : Cond.constant RJ6 267 (252645135) ∈ lw_g := gm (i := 359) (by decide +kernel) rfl
theorem l_X5_217 : Cond.methodLink RX5 217 yX0_foggyCells ∈ lw_g := gm (i := 360) (by decide +kernel) rfl
theorem l_X0_87 : Cond.methodLink RX0 87 yX0_isInFog ∈ lw_g := gm (i := 364) (by decide +kernel) rfl
theorem l_L_53 : Cond.methodLink RL 53 yX5_stands ∈ lw_g := gm (i := 365) (by decide +kernel) rfl
theorem l_X5_224 : Cond.methodLink RX5 224 yX5_keepForBack ∈ lw_g := gm (i := 369) (by decide +kernel) rfl
theorem l_X5_84 : Cond.methodLink RX5 84 yX4_become ∈ lw_g := gm (i := 373) (by decide +kernel) rfl
theorem l_L_59 : Cond.methodLink RL 59 yX5_hours ∈ lw_g := gm (i := 374) (by decide +kernel) rfl
theorem l_X5_220 : Cond.methodLink RX5 220 yX5_outOfRange ∈ lw_g := gm (i := 378) (by decide +kernel) rfl
theorem l_X5_227 : Cond.methodLink RX5 227 yX5_thinkOn ∈ lw_g := gm (i := 381) (by decide +kernel) rfl
theorem l_X5_119 : Cond.methodLink RX5 119 yX0_goOn ∈ lw_g := gm (i := 385) (by decide +kernel) rfl
theorem l_X0_91 : Cond.methodLink RX0 91 yX0_dropInTheClear ∈ lw_g := gm (i := 389) (by decide +kernel) rfl
theorem l_X0_94 : Cond.methodLink RX0 94 yX0_goal ∈ lw_g := gm (i := 393) (by decide +kernel) rfl
theorem l_X0_97 : Cond.methodLink RX0 97 yX0_walk ∈ lw_g := gm (i := 394) (by decide +kernel) rfl
theorem l_X0_114 : Cond.methodLink RX0 114 yX1_pace ∈ lw_g := gm (i := 398) (by decide +kernel) rfl
theorem l_X0_101 : Cond.methodLink RX0 101 yX0_grab ∈ lw_g := gm (i := 399) (by decide +kernel) rfl
theorem l_X0_117 : Cond.methodLink RX0 117 yX1_grabs ∈ lw_g := gm (i := 403) (by decide +kernel) rfl
theorem l_X0_123 : Cond.methodLink RX0 123 yX1_mayTakeAnothers ∈ lw_g := gm (i := 404) (by decide +kernel) rfl
theorem l_L_111 : Cond.methodLink RL 111 yX5_back ∈ lw_g := gm (i := 407) (by decide +kernel) rfl
theorem l_L_75 : Cond.methodLink RL 75 yX5_then ∈ lw_g := gm (i := 411) (by decide +kernel) rfl
theorem l_X5_230 : Cond.methodLink RX5 230 yX4_nobodysThings ∈ lw_g := gm (i := 415) (by decide +kernel) rfl
theorem l_L_108 : Cond.methodLink RL 108 yX5_personThen ∈ lw_g := gm (i := 416) (by decide +kernel) rfl
theorem l_L_96 : Cond.methodLink RL 96 yX5_clears ∈ lw_g := gm (i := 420) (by decide +kernel) rfl
theorem l_L_105 : Cond.methodLink RL 105 yX5_stand ∈ lw_g := gm (i := 424) (by decide +kernel) rfl
theorem l_L_99 : Cond.methodLink RL 99 yX5_islands ∈ lw_g := gm (i := 428) (by decide +kernel) rfl
theorem l_X5_279 : Cond.methodLink RX5 279 yX2_pieceWith ∈ lw_g := gm (i := 432) (by decide +kernel) rfl
theorem l_X2_13 : Cond.methodLink RX2 13 yX2_spread ∈ lw_g := gm (i := 435) (by decide +kernel) rfl
theorem k_X2_11 : Cond.constant RX2 11 (-8521761) ∈ lw_g := gm (i := 438) (by decide +kernel) rfl
theorem k_X2_12 : Cond.constant RX2 12 (-266306) ∈ lw_g := gm (i := 439) (by decide +kernel) rfl
theorem l_X5_284 : Cond.methodLink RX5 284 yX2_howMany ∈ lw_g := gm (i := 440) (by decide +kernel) rfl
theorem l_X2_17 : Cond.methodLink RX2 17 yX2_pieceWith ∈ lw_g := gm (i := 443) (by decide +kernel) rfl
theorem l_X5_287 : Cond.methodLink RX5 287 yX2_greatest ∈ lw_g := gm (i := 444) (by decide +kernel) rfl
theorem l_X2_20 : Cond.methodLink RX2 20 yJ6_bitCount_0f7a4 ∈ lw_g := gm (i := 447) (by decide +kernel) rfl
theorem l_X2_26 : Cond.methodLink RX2 26 yJ9_max_7cf53 ∈ lw_g := gm (i := 448) (by decide +kernel) rfl
theorem l_L_102 : Cond.methodLink RL 102 yX5_way ∈ lw_g := gm (i := 449) (by decide +kernel) rfl
theorem l_X5_295 : Cond.methodLink RX5 295 yX2_steps ∈ lw_g := gm (i := 453) (by decide +kernel) rfl
theorem l_L_78 : Cond.methodLink RL 78 yX5_sight ∈ lw_g := gm (i := 456) (by decide +kernel) rfl
theorem l_X5_298 : Cond.methodLink RX5 298 yX5_richest ∈ lw_g := gm (i := 460) (by decide +kernel) rfl
theorem l_X5_301 : Cond.methodLink RX5 301 yX5_wetThings ∈ lw_g := gm (i := 464) (by decide +kernel) rfl
theorem l_X5_304 : Cond.methodLink RX5 304 yX5_crowdedCell ∈ lw_g := gm (i := 468) (by decide +kernel) rfl
theorem l_X5_242 : Cond.methodLink RX5 242 yJ6_bitCount_0f7a4 ∈ lw_g := gm (i := 472) (by decide +kernel) rfl
theorem l_X5_307 : Cond.methodLink RX5 307 yX5_hoursAlike ∈ lw_g := gm (i := 473) (by decide +kernel) rfl
theorem l_L_66 : Cond.methodLink RL 66 yX5_image ∈ lw_g := gm (i := 477) (by decide +kernel) rfl
theorem l_L_114 : Cond.methodLink RL 114 yX5_restore ∈ lw_g := gm (i := 481) (by decide +kernel) rfl
theorem l_L_63 : Cond.methodLink RL 63 yL_coast ∈ lw_g := gm (i := 485) (by decide +kernel) rfl
theorem l_L_27 : Cond.methodLink RL 27 yL_cell ∈ lw_g := gm (i := 488) (by decide +kernel) rfl
theorem l_L_33 : Cond.methodLink RL 33 yL_pick ∈ lw_g := gm (i := 491) (by decide +kernel) rfl
theorem k_L_7 : Cond.constant RL 7 (2147483647) ∈ lw_g := gm (i := 494) (by decide +kernel) rfl
theorem l_L_37 : Cond.methodLink RL 37 yX5_blows ∈ lw_g := gm (i := 495) (by decide +kernel) rfl
theorem l_X5_93 : Cond.methodLink RX5 93 yX4_addFront ∈ lw_g := gm (i := 499) (by decide +kernel) rfl
theorem l_L_41 : Cond.methodLink RL 41 yX5_comes ∈ lw_g := gm (i := 503) (by decide +kernel) rfl
theorem l_X5_100 : Cond.methodLink RX5 100 yX4_addPerson ∈ lw_g := gm (i := 507) (by decide +kernel) rfl
theorem l_L_44 : Cond.methodLink RL 44 yX5_lies ∈ lw_g := gm (i := 512) (by decide +kernel) rfl
theorem l_X5_103 : Cond.methodLink RX5 103 yX4_addThing ∈ lw_g := gm (i := 516) (by decide +kernel) rfl
theorem l_L_50 : Cond.methodLink RL 50 yX5_owns ∈ lw_g := gm (i := 520) (by decide +kernel) rfl
theorem l_L_56 : Cond.methodLink RL 56 yX5_thick ∈ lw_g := gm (i := 524) (by decide +kernel) rfl
theorem l_L_81 : Cond.methodLink RL 81 yJ6_bitCount_0f7a4 ∈ lw_g := gm (i := 528) (by decide +kernel) rfl
theorem l_L_86 : Cond.methodLink RL 86 yJ9_abs_0f7a4 ∈ lw_g := gm (i := 529) (by decide +kernel) rfl
theorem l_L_91 : Cond.methodLink RL 91 yJ9_min_7cf53 ∈ lw_g := gm (i := 530) (by decide +kernel) rfl
theorem w_acN : Cond.native arraycopyName ∈ lw_g := gm (i := 244) (by decide +kernel) rfl
theorem w_acS : Cond.static arraycopyName ∈ lw_g := gm (i := 243) (by decide +kernel) rfl
theorem w_acI : Cond.initialized "java/lang/System" ∈ lw_g := gm (i := 23) (by decide +kernel) rfl
theorem w_mI : Cond.initialized "java/lang/Math" ∈ lw_g := gm (i := 24) (by decide +kernel) rfl
theorem w_maxS : Cond.static Lib.Math.max.name ∈ lw_g := gm (i := 267) (by decide +kernel) rfl
theorem w_maxC : Cond.code Lib.Math.max.name Lib.Math.max.code 2 (some .int) ∈ lw_g := gm (i := 268) (by decide +kernel) rfl
theorem w_absS : Cond.static Lib.Math.abs.name ∈ lw_g := gm (i := 298) (by decide +kernel) rfl
theorem w_absC : Cond.code Lib.Math.abs.name Lib.Math.abs.code 1 (some .int) ∈ lw_g := gm (i := 299) (by decide +kernel) rfl
theorem w_minS : Cond.static Lib.Math.min.name ∈ lw_g := gm (i := 531) (by decide +kernel) rfl
theorem w_minC : Cond.code Lib.Math.min.name Lib.Math.min.code 2 (some .int) ∈ lw_g := gm (i := 532) (by decide +kernel) rfl
end
section
theorem dX0_init_0 : decode cX0_init 0 = .ok (.aload_n 0, 1) := by decide +kernel
theorem dX0_init_1 : decode cX0_init 1 = .ok (.invokespecial 3, 3) := by decide +kernel
theorem dX0_init_4 : decode cX0_init 4 = .ok (.aload_n 0, 1) := by decide +kernel
theorem dX0_init_5 : decode cX0_init 5 = .ok (.new 9, 3) := by decide +kernel
theorem dX0_init_8 : decode cX0_init 8 = .ok (.dup, 1) := by decide +kernel
theorem dX0_init_9 : decode cX0_init 9 = .ok (.invokespecial 11, 3) := by decide +kernel
theorem dX0_init_12 : decode cX0_init 12 = .ok (.putfield 12, 3) := by decide +kernel
theorem dX0_init_15 : decode cX0_init 15 = .ok (.aload_n 0, 1) := by decide +kernel
theorem dX0_init_16 : decode cX0_init 16 = .ok (.new 18, 3) := by decide +kernel
theorem dX0_init_19 : decode cX0_init 19 = .ok (.dup, 1) := by decide +kernel
theorem dX0_init_20 : decode cX0_init 20 = .ok (.invokespecial 20, 3) := by decide +kernel
theorem dX0_init_23 : decode cX0_init 23 = .ok (.putfield 21, 3) := by decide +kernel
theorem dX0_init_26 : decode cX0_init 26 = .ok (.aload_n 0, 1) := by decide +kernel
theorem dX0_init_27 : decode cX0_init 27 = .ok (.iconst 0, 1) := by decide +kernel
theorem dX0_init_28 : decode cX0_init 28 = .ok (.putfield 25, 3) := by decide +kernel
theorem dX0_init_31 : decode cX0_init 31 = .ok (.aload_n 0, 1) := by decide +kernel
theorem dX0_init_32 : decode cX0_init 32 = .ok (.iconst (-1), 1) := by decide +kernel
theorem dX0_init_33 : decode cX0_init 33 = .ok (.putfield 29, 3) := by decide +kernel
theorem dX0_init_36 : decode cX0_init 36 = .ok (.aload_n 0, 1) := by decide +kernel
theorem dX0_init_37 : decode cX0_init 37 = .ok (.iconst 0, 1) := by decide +kernel
theorem dX0_init_38 : decode cX0_init 38 = .ok (.putfield 32, 3) := by decide +kernel
theorem dX0_init_41 : decode cX0_init 41 = .ok (.return_, 1) := by decide +kernel
theorem dX0_begin_0 : decode cX0_begin 0 = .ok (.aload_n 0, 1) := by decide +kernel
theorem dX0_begin_1 : decode cX0_begin 1 = .ok (.getfield 12, 3) := by decide +kernel
theorem dX0_begin_4 : decode cX0_begin 4 = .ok (.aload_n 1, 1) := by decide +kernel
theorem dX0_begin_5 : decode cX0_begin 5 = .ok (.invokevirtual 36, 3) := by decide +kernel
theorem dX0_begin_8 : decode cX0_begin 8 = .ok (.aload_n 0, 1) := by decide +kernel
theorem dX0_begin_9 : decode cX0_begin 9 = .ok (.iconst (-1), 1) := by decide +kernel
theorem dX0_begin_10 : decode cX0_begin 10 = .ok (.putfield 29, 3) := by decide +kernel
theorem dX0_begin_13 : decode cX0_begin 13 = .ok (.aload_n 0, 1) := by decide +kernel
theorem dX0_begin_14 : decode cX0_begin 14 = .ok (.iconst 0, 1) := by decide +kernel
theorem dX0_begin_15 : decode cX0_begin 15 = .ok (.putfield 32, 3) := by decide +kernel
theorem dX0_begin_18 : decode cX0_begin 18 = .ok (.aload_n 0, 1) := by decide +kernel
theorem dX0_begin_19 : decode cX0_begin 19 = .ok (.invokevirtual 40, 3) := by decide +kernel
theorem dX0_begin_22 : decode cX0_begin 22 = .ok (.return_, 1) := by decide +kernel
theorem dX0_look_0 : decode cX0_look 0 = .ok (.aload_n 0, 1) := by decide +kernel
theorem dX0_look_1 : decode cX0_look 1 = .ok (.aload_n 0, 1) := by decide +kernel
theorem dX0_look_2 : decode cX0_look 2 = .ok (.getfield 21, 3) := by decide +kernel
theorem dX0_look_5 : decode cX0_look 5 = .ok (.aload_n 0, 1) := by decide +kernel
theorem dX0_look_6 : decode cX0_look 6 = .ok (.getfield 12, 3) := by decide +kernel
theorem dX0_look_9 : decode cX0_look 9 = .ok (.aload_n 0, 1) := by decide +kernel
theorem dX0_look_10 : decode cX0_look 10 = .ok (.getfield 12, 3) := by decide +kernel
theorem dX0_look_13 : decode cX0_look 13 = .ok (.getfield 43, 3) := by decide +kernel
theorem dX0_look_16 : decode cX0_look 16 = .ok (.invokevirtual 46, 3) := by decide +kernel
theorem dX0_look_19 : decode cX0_look 19 = .ok (.putfield 25, 3) := by decide +kernel
theorem dX0_look_22 : decode cX0_look 22 = .ok (.return_, 1) := by decide +kernel
theorem dX0_airOn_0 : decode cX0_airOn 0 = .ok (.aload_n 0, 1) := by decide +kernel
theorem dX0_airOn_1 : decode cX0_airOn 1 = .ok (.getfield 32, 3) := by decide +kernel
theorem dX0_airOn_4 : decode cX0_airOn 4 = .ok (.ifCond .ne 13, 3) := by decide +kernel
theorem dX0_airOn_7 : decode cX0_airOn 7 = .ok (.iload_n 1, 1) := by decide +kernel
theorem dX0_airOn_8 : decode cX0_airOn 8 = .ok (.ifCond .lt 9, 3) := by decide +kernel
theorem dX0_airOn_11 : decode cX0_airOn 11 = .ok (.iload_n 1, 1) := by decide +kernel
theorem dX0_airOn_12 : decode cX0_airOn 12 = .ok (.bipush 24, 2) := by decide +kernel
theorem dX0_airOn_14 : decode cX0_airOn 14 = .ok (.if_icmp .lt 7, 3) := by decide +kernel
theorem dX0_airOn_17 : decode cX0_airOn 17 = .ok (.iconst 0, 1) := by decide +kernel
theorem dX0_airOn_18 : decode cX0_airOn 18 = .ok (.goto 17, 3) := by decide +kernel
theorem dX0_airOn_21 : decode cX0_airOn 21 = .ok (.aload_n 0, 1) := by decide +kernel
theorem dX0_airOn_22 : decode cX0_airOn 22 = .ok (.getfield 21, 3) := by decide +kernel
theorem dX0_airOn_25 : decode cX0_airOn 25 = .ok (.getfield 50, 3) := by decide +kernel
theorem dX0_airOn_28 : decode cX0_airOn 28 = .ok (.aload_n 0, 1) := by decide +kernel
theorem dX0_airOn_29 : decode cX0_airOn 29 = .ok (.getfield 25, 3) := by decide +kernel
theorem dX0_airOn_32 : decode cX0_airOn 32 = .ok (.iload_n 1, 1) := by decide +kernel
theorem dX0_airOn_33 : decode cX0_airOn 33 = .ok (.iadd, 1) := by decide +kernel
theorem dX0_airOn_34 : decode cX0_airOn 34 = .ok (.iaload, 1) := by decide +kernel
theorem dX0_airOn_35 : decode cX0_airOn 35 = .ok (.ireturn, 1) := by decide +kernel
theorem dX0_fogOn_0 : decode cX0_fogOn 0 = .ok (.iload_n 1, 1) := by decide +kernel
theorem dX0_fogOn_1 : decode cX0_fogOn 1 = .ok (.aload_n 0, 1) := by decide +kernel
theorem dX0_fogOn_2 : decode cX0_fogOn 2 = .ok (.getfield 29, 3) := by decide +kernel
theorem dX0_fogOn_5 : decode cX0_fogOn 5 = .ok (.if_icmp .ne 8, 3) := by decide +kernel
theorem dX0_fogOn_8 : decode cX0_fogOn 8 = .ok (.bipush 9, 2) := by decide +kernel
theorem dX0_fogOn_10 : decode cX0_fogOn 10 = .ok (.goto 8, 3) := by decide +kernel
theorem dX0_fogOn_13 : decode cX0_fogOn 13 = .ok (.aload_n 0, 1) := by decide +kernel
theorem dX0_fogOn_14 : decode cX0_fogOn 14 = .ok (.iload_n 1, 1) := by decide +kernel
theorem dX0_fogOn_15 : decode cX0_fogOn 15 = .ok (.invokevirtual 54, 3) := by decide +kernel
theorem dX0_fogOn_18 : decode cX0_fogOn 18 = .ok (.istore_n 2, 1) := by decide +kernel
theorem dX0_fogOn_19 : decode cX0_fogOn 19 = .ok (.iconst 0, 1) := by decide +kernel
theorem dX0_fogOn_20 : decode cX0_fogOn 20 = .ok (.istore_n 3, 1) := by decide +kernel
theorem dX0_fogOn_21 : decode cX0_fogOn 21 = .ok (.iload_n 3, 1) := by decide +kernel
theorem dX0_fogOn_22 : decode cX0_fogOn 22 = .ok (.aload_n 0, 1) := by decide +kernel
theorem dX0_fogOn_23 : decode cX0_fogOn 23 = .ok (.getfield 12, 3) := by decide +kernel
theorem dX0_fogOn_26 : decode cX0_fogOn 26 = .ok (.getfield 58, 3) := by decide +kernel
theorem dX0_fogOn_29 : decode cX0_fogOn 29 = .ok (.if_icmp .ge 48, 3) := by decide +kernel
theorem dX0_fogOn_32 : decode cX0_fogOn 32 = .ok (.aload_n 0, 1) := by decide +kernel
theorem dX0_fogOn_33 : decode cX0_fogOn 33 = .ok (.getfield 12, 3) := by decide +kernel
theorem dX0_fogOn_36 : decode cX0_fogOn 36 = .ok (.getfield 61, 3) := by decide +kernel
theorem dX0_fogOn_39 : decode cX0_fogOn 39 = .ok (.iload_n 3, 1) := by decide +kernel
theorem dX0_fogOn_40 : decode cX0_fogOn 40 = .ok (.iaload, 1) := by decide +kernel
theorem dX0_fogOn_41 : decode cX0_fogOn 41 = .ok (.iload_n 1, 1) := by decide +kernel
theorem dX0_fogOn_42 : decode cX0_fogOn 42 = .ok (.if_icmp .ne 29, 3) := by decide +kernel
theorem dX0_fogOn_45 : decode cX0_fogOn 45 = .ok (.iload_n 2, 1) := by decide +kernel
theorem dX0_fogOn_46 : decode cX0_fogOn 46 = .ok (.aload_n 0, 1) := by decide +kernel
theorem dX0_fogOn_47 : decode cX0_fogOn 47 = .ok (.getfield 12, 3) := by decide +kernel
theorem dX0_fogOn_50 : decode cX0_fogOn 50 = .ok (.getfield 64, 3) := by decide +kernel
theorem dX0_fogOn_53 : decode cX0_fogOn 53 = .ok (.iload_n 3, 1) := by decide +kernel
theorem dX0_fogOn_54 : decode cX0_fogOn 54 = .ok (.iaload, 1) := by decide +kernel
theorem dX0_fogOn_55 : decode cX0_fogOn 55 = .ok (.aload_n 0, 1) := by decide +kernel
theorem dX0_fogOn_56 : decode cX0_fogOn 56 = .ok (.getfield 12, 3) := by decide +kernel
theorem dX0_fogOn_59 : decode cX0_fogOn 59 = .ok (.getfield 67, 3) := by decide +kernel
theorem dX0_fogOn_62 : decode cX0_fogOn 62 = .ok (.iload_n 3, 1) := by decide +kernel
theorem dX0_fogOn_63 : decode cX0_fogOn 63 = .ok (.iaload, 1) := by decide +kernel
theorem dX0_fogOn_64 : decode cX0_fogOn 64 = .ok (.invokestatic 70, 3) := by decide +kernel
theorem dX0_fogOn_67 : decode cX0_fogOn 67 = .ok (.invokestatic 76, 3) := by decide +kernel
theorem dX0_fogOn_70 : decode cX0_fogOn 70 = .ok (.istore_n 2, 1) := by decide +kernel
theorem dX0_fogOn_71 : decode cX0_fogOn 71 = .ok (.iinc 3 1, 3) := by decide +kernel
theorem dX0_fogOn_74 : decode cX0_fogOn 74 = .ok (.goto (-53), 3) := by decide +kernel
theorem dX0_fogOn_77 : decode cX0_fogOn 77 = .ok (.iload_n 2, 1) := by decide +kernel
theorem dX0_fogOn_78 : decode cX0_fogOn 78 = .ok (.ireturn, 1) := by decide +kernel
theorem dX0_isInFog_0 : decode cX0_isInFog 0 = .ok (.aload_n 0, 1) := by decide +kernel
theorem dX0_isInFog_1 : decode cX0_isInFog 1 = .ok (.iload_n 1, 1) := by decide +kernel
theorem dX0_isInFog_2 : decode cX0_isInFog 2 = .ok (.invokevirtual 81, 3) := by decide +kernel
theorem dX0_isInFog_5 : decode cX0_isInFog 5 = .ok (.aload_n 0, 1) := by decide +kernel
theorem dX0_isInFog_6 : decode cX0_isInFog 6 = .ok (.getfield 12, 3) := by decide +kernel
theorem dX0_isInFog_9 : decode cX0_isInFog 9 = .ok (.getfield 84, 3) := by decide +kernel
theorem dX0_isInFog_12 : decode cX0_isInFog 12 = .ok (.if_icmp .lt 7, 3) := by decide +kernel
theorem dX0_isInFog_15 : decode cX0_isInFog 15 = .ok (.iconst 1, 1) := by decide +kernel
theorem dX0_isInFog_16 : decode cX0_isInFog 16 = .ok (.goto 4, 3) := by decide +kernel
theorem dX0_isInFog_19 : decode cX0_isInFog 19 = .ok (.iconst 0, 1) := by decide +kernel
theorem dX0_isInFog_20 : decode cX0_isInFog 20 = .ok (.ireturn, 1) := by decide +kernel
theorem dX0_foggyCells_0 : decode cX0_foggyCells 0 = .ok (.iconst 0, 1) := by decide +kernel
theorem dX0_foggyCells_1 : decode cX0_foggyCells 1 = .ok (.istore_n 1, 1) := by decide +kernel
theorem dX0_foggyCells_2 : decode cX0_foggyCells 2 = .ok (.iconst 0, 1) := by decide +kernel
theorem dX0_foggyCells_3 : decode cX0_foggyCells 3 = .ok (.istore_n 2, 1) := by decide +kernel
theorem dX0_foggyCells_4 : decode cX0_foggyCells 4 = .ok (.iload_n 2, 1) := by decide +kernel
theorem dX0_foggyCells_5 : decode cX0_foggyCells 5 = .ok (.bipush 24, 2) := by decide +kernel
theorem dX0_foggyCells_7 : decode cX0_foggyCells 7 = .ok (.if_icmp .ge 23, 3) := by decide +kernel
theorem dX0_foggyCells_10 : decode cX0_foggyCells 10 = .ok (.aload_n 0, 1) := by decide +kernel
theorem dX0_foggyCells_11 : decode cX0_foggyCells 11 = .ok (.iload_n 2, 1) := by decide +kernel
theorem dX0_foggyCells_12 : decode cX0_foggyCells 12 = .ok (.invokevirtual 87, 3) := by decide +kernel
theorem dX0_foggyCells_15 : decode cX0_foggyCells 15 = .ok (.ifCond .eq 9, 3) := by decide +kernel
theorem dX0_foggyCells_18 : decode cX0_foggyCells 18 = .ok (.iload_n 1, 1) := by decide +kernel
theorem dX0_foggyCells_19 : decode cX0_foggyCells 19 = .ok (.iconst 1, 1) := by decide +kernel
theorem dX0_foggyCells_20 : decode cX0_foggyCells 20 = .ok (.iload_n 2, 1) := by decide +kernel
theorem dX0_foggyCells_21 : decode cX0_foggyCells 21 = .ok (.ishl, 1) := by decide +kernel
theorem dX0_foggyCells_22 : decode cX0_foggyCells 22 = .ok (.ior, 1) := by decide +kernel
theorem dX0_foggyCells_23 : decode cX0_foggyCells 23 = .ok (.istore_n 1, 1) := by decide +kernel
theorem dX0_foggyCells_24 : decode cX0_foggyCells 24 = .ok (.iinc 2 1, 3) := by decide +kernel
theorem dX0_foggyCells_27 : decode cX0_foggyCells 27 = .ok (.goto (-23), 3) := by decide +kernel
theorem dX0_foggyCells_30 : decode cX0_foggyCells 30 = .ok (.iload_n 1, 1) := by decide +kernel
theorem dX0_foggyCells_31 : decode cX0_foggyCells 31 = .ok (.ireturn, 1) := by decide +kernel
theorem dX0_goOn_0 : decode cX0_goOn 0 = .ok (.aload_n 0, 1) := by decide +kernel
theorem dX0_goOn_1 : decode cX0_goOn 1 = .ok (.invokevirtual 40, 3) := by decide +kernel
theorem dX0_goOn_4 : decode cX0_goOn 4 = .ok (.iconst 0, 1) := by decide +kernel
theorem dX0_goOn_5 : decode cX0_goOn 5 = .ok (.istore_n 2, 1) := by decide +kernel
theorem dX0_goOn_6 : decode cX0_goOn 6 = .ok (.iload_n 2, 1) := by decide +kernel
theorem dX0_goOn_7 : decode cX0_goOn 7 = .ok (.iload_n 1, 1) := by decide +kernel
theorem dX0_goOn_8 : decode cX0_goOn 8 = .ok (.if_icmp .ge 80, 3) := by decide +kernel
theorem dX0_goOn_11 : decode cX0_goOn 11 = .ok (.aload_n 0, 1) := by decide +kernel
theorem dX0_goOn_12 : decode cX0_goOn 12 = .ok (.getfield 12, 3) := by decide +kernel
theorem dX0_goOn_15 : decode cX0_goOn 15 = .ok (.dup, 1) := by decide +kernel
theorem dX0_goOn_16 : decode cX0_goOn 16 = .ok (.getfield 43, 3) := by decide +kernel
theorem dX0_goOn_19 : decode cX0_goOn 19 = .ok (.iconst 1, 1) := by decide +kernel
theorem dX0_goOn_20 : decode cX0_goOn 20 = .ok (.iadd, 1) := by decide +kernel
theorem dX0_goOn_21 : decode cX0_goOn 21 = .ok (.putfield 43, 3) := by decide +kernel
theorem dX0_goOn_24 : decode cX0_goOn 24 = .ok (.aload_n 0, 1) := by decide +kernel
theorem dX0_goOn_25 : decode cX0_goOn 25 = .ok (.invokevirtual 40, 3) := by decide +kernel
theorem dX0_goOn_28 : decode cX0_goOn 28 = .ok (.aload_n 0, 1) := by decide +kernel
theorem dX0_goOn_29 : decode cX0_goOn 29 = .ok (.invokevirtual 91, 3) := by decide +kernel
theorem dX0_goOn_32 : decode cX0_goOn 32 = .ok (.iconst 0, 1) := by decide +kernel
theorem dX0_goOn_33 : decode cX0_goOn 33 = .ok (.istore_n 3, 1) := by decide +kernel
theorem dX0_goOn_34 : decode cX0_goOn 34 = .ok (.iload_n 3, 1) := by decide +kernel
theorem dX0_goOn_35 : decode cX0_goOn 35 = .ok (.aload_n 0, 1) := by decide +kernel
theorem dX0_goOn_36 : decode cX0_goOn 36 = .ok (.getfield 12, 3) := by decide +kernel
theorem dX0_goOn_39 : decode cX0_goOn 39 = .ok (.getfield 58, 3) := by decide +kernel
theorem dX0_goOn_42 : decode cX0_goOn 42 = .ok (.if_icmp .ge 40, 3) := by decide +kernel
theorem dX0_goOn_45 : decode cX0_goOn 45 = .ok (.aload_n 0, 1) := by decide +kernel
theorem dX0_goOn_46 : decode cX0_goOn 46 = .ok (.iload_n 3, 1) := by decide +kernel
theorem dX0_goOn_47 : decode cX0_goOn 47 = .ok (.aload_n 0, 1) := by decide +kernel
theorem dX0_goOn_48 : decode cX0_goOn 48 = .ok (.iload_n 3, 1) := by decide +kernel
theorem dX0_goOn_49 : decode cX0_goOn 49 = .ok (.invokevirtual 94, 3) := by decide +kernel
theorem dX0_goOn_52 : decode cX0_goOn 52 = .ok (.invokevirtual 97, 3) := by decide +kernel
theorem dX0_goOn_55 : decode cX0_goOn 55 = .ok (.aload_n 0, 1) := by decide +kernel
theorem dX0_goOn_56 : decode cX0_goOn 56 = .ok (.aload_n 0, 1) := by decide +kernel
theorem dX0_goOn_57 : decode cX0_goOn 57 = .ok (.getfield 12, 3) := by decide +kernel
theorem dX0_goOn_60 : decode cX0_goOn 60 = .ok (.getfield 61, 3) := by decide +kernel
theorem dX0_goOn_63 : decode cX0_goOn 63 = .ok (.iload_n 3, 1) := by decide +kernel
theorem dX0_goOn_64 : decode cX0_goOn 64 = .ok (.iaload, 1) := by decide +kernel
theorem dX0_goOn_65 : decode cX0_goOn 65 = .ok (.invokevirtual 87, 3) := by decide +kernel
theorem dX0_goOn_68 : decode cX0_goOn 68 = .ok (.ifCond .eq 8, 3) := by decide +kernel
theorem dX0_goOn_71 : decode cX0_goOn 71 = .ok (.aload_n 0, 1) := by decide +kernel
theorem dX0_goOn_72 : decode cX0_goOn 72 = .ok (.iload_n 3, 1) := by decide +kernel
theorem dX0_goOn_73 : decode cX0_goOn 73 = .ok (.invokevirtual 101, 3) := by decide +kernel
theorem dX0_goOn_76 : decode cX0_goOn 76 = .ok (.iinc 3 1, 3) := by decide +kernel
theorem dX0_goOn_79 : decode cX0_goOn 79 = .ok (.goto (-45), 3) := by decide +kernel
theorem dX0_goOn_82 : decode cX0_goOn 82 = .ok (.iinc 2 1, 3) := by decide +kernel
theorem dX0_goOn_85 : decode cX0_goOn 85 = .ok (.goto (-79), 3) := by decide +kernel
theorem dX0_goOn_88 : decode cX0_goOn 88 = .ok (.return_, 1) := by decide +kernel
theorem dX0_dropInTheClear_0 : decode cX0_dropInTheClear 0 = .ok (.iconst 0, 1) := by decide +kernel
theorem dX0_dropInTheClear_1 : decode cX0_dropInTheClear 1 = .ok (.istore_n 1, 1) := by decide +kernel
theorem dX0_dropInTheClear_2 : decode cX0_dropInTheClear 2 = .ok (.iload_n 1, 1) := by decide +kernel
theorem dX0_dropInTheClear_3 : decode cX0_dropInTheClear 3 = .ok (.aload_n 0, 1) := by decide +kernel
theorem dX0_dropInTheClear_4 : decode cX0_dropInTheClear 4 = .ok (.getfield 12, 3) := by decide +kernel
theorem dX0_dropInTheClear_7 : decode cX0_dropInTheClear 7 = .ok (.getfield 105, 3) := by decide +kernel
theorem dX0_dropInTheClear_10 : decode cX0_dropInTheClear 10 = .ok (.if_icmp .ge 35, 3) := by decide +kernel
theorem dX0_dropInTheClear_13 : decode cX0_dropInTheClear 13 = .ok (.aload_n 0, 1) := by decide +kernel
theorem dX0_dropInTheClear_14 : decode cX0_dropInTheClear 14 = .ok (.aload_n 0, 1) := by decide +kernel
theorem dX0_dropInTheClear_15 : decode cX0_dropInTheClear 15 = .ok (.getfield 12, 3) := by decide +kernel
theorem dX0_dropInTheClear_18 : decode cX0_dropInTheClear 18 = .ok (.getfield 108, 3) := by decide +kernel
theorem dX0_dropInTheClear_21 : decode cX0_dropInTheClear 21 = .ok (.iload_n 1, 1) := by decide +kernel
theorem dX0_dropInTheClear_22 : decode cX0_dropInTheClear 22 = .ok (.iaload, 1) := by decide +kernel
theorem dX0_dropInTheClear_23 : decode cX0_dropInTheClear 23 = .ok (.invokevirtual 87, 3) := by decide +kernel
theorem dX0_dropInTheClear_26 : decode cX0_dropInTheClear 26 = .ok (.ifCond .ne 13, 3) := by decide +kernel
theorem dX0_dropInTheClear_29 : decode cX0_dropInTheClear 29 = .ok (.aload_n 0, 1) := by decide +kernel
theorem dX0_dropInTheClear_30 : decode cX0_dropInTheClear 30 = .ok (.getfield 12, 3) := by decide +kernel
theorem dX0_dropInTheClear_33 : decode cX0_dropInTheClear 33 = .ok (.getfield 111, 3) := by decide +kernel
theorem dX0_dropInTheClear_36 : decode cX0_dropInTheClear 36 = .ok (.iload_n 1, 1) := by decide +kernel
theorem dX0_dropInTheClear_37 : decode cX0_dropInTheClear 37 = .ok (.iconst (-1), 1) := by decide +kernel
theorem dX0_dropInTheClear_38 : decode cX0_dropInTheClear 38 = .ok (.iastore, 1) := by decide +kernel
theorem dX0_dropInTheClear_39 : decode cX0_dropInTheClear 39 = .ok (.iinc 1 1, 3) := by decide +kernel
theorem dX0_dropInTheClear_42 : decode cX0_dropInTheClear 42 = .ok (.goto (-40), 3) := by decide +kernel
theorem dX0_dropInTheClear_45 : decode cX0_dropInTheClear 45 = .ok (.return_, 1) := by decide +kernel
theorem dX0_walk_0 : decode cX0_walk 0 = .ok (.aload_n 0, 1) := by decide +kernel
theorem dX0_walk_1 : decode cX0_walk 1 = .ok (.getfield 12, 3) := by decide +kernel
theorem dX0_walk_4 : decode cX0_walk 4 = .ok (.getfield 64, 3) := by decide +kernel
theorem dX0_walk_7 : decode cX0_walk 7 = .ok (.iload_n 1, 1) := by decide +kernel
theorem dX0_walk_8 : decode cX0_walk 8 = .ok (.iaload, 1) := by decide +kernel
theorem dX0_walk_9 : decode cX0_walk 9 = .ok (.aload_n 0, 1) := by decide +kernel
theorem dX0_walk_10 : decode cX0_walk 10 = .ok (.getfield 12, 3) := by decide +kernel
theorem dX0_walk_13 : decode cX0_walk 13 = .ok (.getfield 67, 3) := by decide +kernel
theorem dX0_walk_16 : decode cX0_walk 16 = .ok (.iload_n 1, 1) := by decide +kernel
theorem dX0_walk_17 : decode cX0_walk 17 = .ok (.iaload, 1) := by decide +kernel
theorem dX0_walk_18 : decode cX0_walk 18 = .ok (.invokestatic 114, 3) := by decide +kernel
theorem dX0_walk_21 : decode cX0_walk 21 = .ok (.istore_n 3, 1) := by decide +kernel
theorem dX0_walk_22 : decode cX0_walk 22 = .ok (.aload_n 0, 1) := by decide +kernel
theorem dX0_walk_23 : decode cX0_walk 23 = .ok (.getfield 12, 3) := by decide +kernel
theorem dX0_walk_26 : decode cX0_walk 26 = .ok (.getfield 61, 3) := by decide +kernel
theorem dX0_walk_29 : decode cX0_walk 29 = .ok (.iload_n 1, 1) := by decide +kernel
theorem dX0_walk_30 : decode cX0_walk 30 = .ok (.iaload, 1) := by decide +kernel
theorem dX0_walk_31 : decode cX0_walk 31 = .ok (.istore 4, 2) := by decide +kernel
theorem dX0_walk_33 : decode cX0_walk 33 = .ok (.iconst 0, 1) := by decide +kernel
theorem dX0_walk_34 : decode cX0_walk 34 = .ok (.istore 5, 2) := by decide +kernel
theorem dX0_walk_36 : decode cX0_walk 36 = .ok (.iload 5, 2) := by decide +kernel
theorem dX0_walk_38 : decode cX0_walk 38 = .ok (.iload_n 3, 1) := by decide +kernel
theorem dX0_walk_39 : decode cX0_walk 39 = .ok (.if_icmp .ge 68, 3) := by decide +kernel
theorem dX0_walk_42 : decode cX0_walk 42 = .ok (.iload 4, 2) := by decide +kernel
theorem dX0_walk_44 : decode cX0_walk 44 = .ok (.iload_n 2, 1) := by decide +kernel
theorem dX0_walk_45 : decode cX0_walk 45 = .ok (.if_icmp .eq 62, 3) := by decide +kernel
theorem dX0_walk_48 : decode cX0_walk 48 = .ok (.iload_n 2, 1) := by decide +kernel
theorem dX0_walk_49 : decode cX0_walk 49 = .ok (.bipush 6, 2) := by decide +kernel
theorem dX0_walk_51 : decode cX0_walk 51 = .ok (.idiv, 1) := by decide +kernel
theorem dX0_walk_52 : decode cX0_walk 52 = .ok (.iload 4, 2) := by decide +kernel
theorem dX0_walk_54 : decode cX0_walk 54 = .ok (.bipush 6, 2) := by decide +kernel
theorem dX0_walk_56 : decode cX0_walk 56 = .ok (.idiv, 1) := by decide +kernel
theorem dX0_walk_57 : decode cX0_walk 57 = .ok (.isub, 1) := by decide +kernel
theorem dX0_walk_58 : decode cX0_walk 58 = .ok (.istore 6, 2) := by decide +kernel
theorem dX0_walk_60 : decode cX0_walk 60 = .ok (.iload 6, 2) := by decide +kernel
theorem dX0_walk_62 : decode cX0_walk 62 = .ok (.ifCond .eq 23, 3) := by decide +kernel
theorem dX0_walk_65 : decode cX0_walk 65 = .ok (.iload 4, 2) := by decide +kernel
theorem dX0_walk_67 : decode cX0_walk 67 = .ok (.iload 6, 2) := by decide +kernel
theorem dX0_walk_69 : decode cX0_walk 69 = .ok (.ifCond .le 8, 3) := by decide +kernel
theorem dX0_walk_72 : decode cX0_walk 72 = .ok (.bipush 6, 2) := by decide +kernel
theorem dX0_walk_74 : decode cX0_walk 74 = .ok (.goto 5, 3) := by decide +kernel
theorem dX0_walk_77 : decode cX0_walk 77 = .ok (.bipush (-6), 2) := by decide +kernel
theorem dX0_walk_79 : decode cX0_walk 79 = .ok (.iadd, 1) := by decide +kernel
theorem dX0_walk_80 : decode cX0_walk 80 = .ok (.istore 4, 2) := by decide +kernel
theorem dX0_walk_82 : decode cX0_walk 82 = .ok (.goto 19, 3) := by decide +kernel
theorem dX0_walk_85 : decode cX0_walk 85 = .ok (.iload 4, 2) := by decide +kernel
theorem dX0_walk_87 : decode cX0_walk 87 = .ok (.iload_n 2, 1) := by decide +kernel
theorem dX0_walk_88 : decode cX0_walk 88 = .ok (.iload 4, 2) := by decide +kernel
theorem dX0_walk_90 : decode cX0_walk 90 = .ok (.if_icmp .le 7, 3) := by decide +kernel
theorem dX0_walk_93 : decode cX0_walk 93 = .ok (.iconst 1, 1) := by decide +kernel
theorem dX0_walk_94 : decode cX0_walk 94 = .ok (.goto 4, 3) := by decide +kernel
theorem dX0_walk_97 : decode cX0_walk 97 = .ok (.iconst (-1), 1) := by decide +kernel
theorem dX0_walk_98 : decode cX0_walk 98 = .ok (.iadd, 1) := by decide +kernel
theorem dX0_walk_99 : decode cX0_walk 99 = .ok (.istore 4, 2) := by decide +kernel
theorem dX0_walk_101 : decode cX0_walk 101 = .ok (.iinc 5 1, 3) := by decide +kernel
theorem dX0_walk_104 : decode cX0_walk 104 = .ok (.goto (-68), 3) := by decide +kernel
theorem dX0_walk_107 : decode cX0_walk 107 = .ok (.aload_n 0, 1) := by decide +kernel
theorem dX0_walk_108 : decode cX0_walk 108 = .ok (.getfield 12, 3) := by decide +kernel
theorem dX0_walk_111 : decode cX0_walk 111 = .ok (.getfield 61, 3) := by decide +kernel
theorem dX0_walk_114 : decode cX0_walk 114 = .ok (.iload_n 1, 1) := by decide +kernel
theorem dX0_walk_115 : decode cX0_walk 115 = .ok (.iload 4, 2) := by decide +kernel
theorem dX0_walk_117 : decode cX0_walk 117 = .ok (.iastore, 1) := by decide +kernel
theorem dX0_walk_118 : decode cX0_walk 118 = .ok (.return_, 1) := by decide +kernel
theorem dX0_grab_0 : decode cX0_grab 0 = .ok (.aload_n 0, 1) := by decide +kernel
theorem dX0_grab_1 : decode cX0_grab 1 = .ok (.getfield 12, 3) := by decide +kernel
theorem dX0_grab_4 : decode cX0_grab 4 = .ok (.getfield 64, 3) := by decide +kernel
theorem dX0_grab_7 : decode cX0_grab 7 = .ok (.iload_n 1, 1) := by decide +kernel
theorem dX0_grab_8 : decode cX0_grab 8 = .ok (.iaload, 1) := by decide +kernel
theorem dX0_grab_9 : decode cX0_grab 9 = .ok (.istore_n 2, 1) := by decide +kernel
theorem dX0_grab_10 : decode cX0_grab 10 = .ok (.aload_n 0, 1) := by decide +kernel
theorem dX0_grab_11 : decode cX0_grab 11 = .ok (.getfield 12, 3) := by decide +kernel
theorem dX0_grab_14 : decode cX0_grab 14 = .ok (.getfield 67, 3) := by decide +kernel
theorem dX0_grab_17 : decode cX0_grab 17 = .ok (.iload_n 1, 1) := by decide +kernel
theorem dX0_grab_18 : decode cX0_grab 18 = .ok (.iaload, 1) := by decide +kernel
theorem dX0_grab_19 : decode cX0_grab 19 = .ok (.istore_n 3, 1) := by decide +kernel
theorem dX0_grab_20 : decode cX0_grab 20 = .ok (.iload_n 2, 1) := by decide +kernel
theorem dX0_grab_21 : decode cX0_grab 21 = .ok (.iload_n 3, 1) := by decide +kernel
theorem dX0_grab_22 : decode cX0_grab 22 = .ok (.invokestatic 117, 3) := by decide +kernel
theorem dX0_grab_25 : decode cX0_grab 25 = .ok (.istore 4, 2) := by decide +kernel
theorem dX0_grab_27 : decode cX0_grab 27 = .ok (.iconst 0, 1) := by decide +kernel
theorem dX0_grab_28 : decode cX0_grab 28 = .ok (.istore 5, 2) := by decide +kernel
theorem dX0_grab_30 : decode cX0_grab 30 = .ok (.iload 5, 2) := by decide +kernel
theorem dX0_grab_32 : decode cX0_grab 32 = .ok (.aload_n 0, 1) := by decide +kernel
theorem dX0_grab_33 : decode cX0_grab 33 = .ok (.getfield 12, 3) := by decide +kernel
theorem dX0_grab_36 : decode cX0_grab 36 = .ok (.getfield 105, 3) := by decide +kernel
theorem dX0_grab_39 : decode cX0_grab 39 = .ok (.if_icmp .ge 92, 3) := by decide +kernel
theorem dX0_grab_42 : decode cX0_grab 42 = .ok (.iload 4, 2) := by decide +kernel
theorem dX0_grab_44 : decode cX0_grab 44 = .ok (.ifCond .le 87, 3) := by decide +kernel
theorem dX0_grab_47 : decode cX0_grab 47 = .ok (.aload_n 0, 1) := by decide +kernel
theorem dX0_grab_48 : decode cX0_grab 48 = .ok (.getfield 12, 3) := by decide +kernel
theorem dX0_grab_51 : decode cX0_grab 51 = .ok (.getfield 111, 3) := by decide +kernel
theorem dX0_grab_54 : decode cX0_grab 54 = .ok (.iload 5, 2) := by decide +kernel
theorem dX0_grab_56 : decode cX0_grab 56 = .ok (.iaload, 1) := by decide +kernel
theorem dX0_grab_57 : decode cX0_grab 57 = .ok (.istore 6, 2) := by decide +kernel
theorem dX0_grab_59 : decode cX0_grab 59 = .ok (.aload_n 0, 1) := by decide +kernel
theorem dX0_grab_60 : decode cX0_grab 60 = .ok (.getfield 12, 3) := by decide +kernel
theorem dX0_grab_63 : decode cX0_grab 63 = .ok (.getfield 108, 3) := by decide +kernel
theorem dX0_grab_66 : decode cX0_grab 66 = .ok (.iload 5, 2) := by decide +kernel
theorem dX0_grab_68 : decode cX0_grab 68 = .ok (.iaload, 1) := by decide +kernel
theorem dX0_grab_69 : decode cX0_grab 69 = .ok (.aload_n 0, 1) := by decide +kernel
theorem dX0_grab_70 : decode cX0_grab 70 = .ok (.getfield 12, 3) := by decide +kernel
theorem dX0_grab_73 : decode cX0_grab 73 = .ok (.getfield 61, 3) := by decide +kernel
theorem dX0_grab_76 : decode cX0_grab 76 = .ok (.iload_n 1, 1) := by decide +kernel
theorem dX0_grab_77 : decode cX0_grab 77 = .ok (.iaload, 1) := by decide +kernel
theorem dX0_grab_78 : decode cX0_grab 78 = .ok (.if_icmp .ne 47, 3) := by decide +kernel
theorem dX0_grab_81 : decode cX0_grab 81 = .ok (.iload 6, 2) := by decide +kernel
theorem dX0_grab_83 : decode cX0_grab 83 = .ok (.iload_n 1, 1) := by decide +kernel
theorem dX0_grab_84 : decode cX0_grab 84 = .ok (.if_icmp .eq 41, 3) := by decide +kernel
theorem dX0_grab_87 : decode cX0_grab 87 = .ok (.iload 6, 2) := by decide +kernel
theorem dX0_grab_89 : decode cX0_grab 89 = .ok (.iconst (-1), 1) := by decide +kernel
theorem dX0_grab_90 : decode cX0_grab 90 = .ok (.if_icmp .eq 21, 3) := by decide +kernel
theorem dX0_grab_93 : decode cX0_grab 93 = .ok (.iload_n 2, 1) := by decide +kernel
theorem dX0_grab_94 : decode cX0_grab 94 = .ok (.iload_n 3, 1) := by decide +kernel
theorem dX0_grab_95 : decode cX0_grab 95 = .ok (.aload_n 0, 1) := by decide +kernel
theorem dX0_grab_96 : decode cX0_grab 96 = .ok (.getfield 12, 3) := by decide +kernel
theorem dX0_grab_99 : decode cX0_grab 99 = .ok (.getfield 120, 3) := by decide +kernel
theorem dX0_grab_102 : decode cX0_grab 102 = .ok (.iload 5, 2) := by decide +kernel
theorem dX0_grab_104 : decode cX0_grab 104 = .ok (.iaload, 1) := by decide +kernel
theorem dX0_grab_105 : decode cX0_grab 105 = .ok (.invokestatic 123, 3) := by decide +kernel
theorem dX0_grab_108 : decode cX0_grab 108 = .ok (.ifCond .eq 17, 3) := by decide +kernel
theorem dX0_grab_111 : decode cX0_grab 111 = .ok (.aload_n 0, 1) := by decide +kernel
theorem dX0_grab_112 : decode cX0_grab 112 = .ok (.getfield 12, 3) := by decide +kernel
theorem dX0_grab_115 : decode cX0_grab 115 = .ok (.getfield 111, 3) := by decide +kernel
theorem dX0_grab_118 : decode cX0_grab 118 = .ok (.iload 5, 2) := by decide +kernel
theorem dX0_grab_120 : decode cX0_grab 120 = .ok (.iload_n 1, 1) := by decide +kernel
theorem dX0_grab_121 : decode cX0_grab 121 = .ok (.iastore, 1) := by decide +kernel
theorem dX0_grab_122 : decode cX0_grab 122 = .ok (.iinc 4 (-1), 3) := by decide +kernel
theorem dX0_grab_125 : decode cX0_grab 125 = .ok (.iinc 5 1, 3) := by decide +kernel
theorem dX0_grab_128 : decode cX0_grab 128 = .ok (.goto (-98), 3) := by decide +kernel
theorem dX0_grab_131 : decode cX0_grab 131 = .ok (.return_, 1) := by decide +kernel
theorem dX0_goal_0 : decode cX0_goal 0 = .ok (.aload_n 0, 1) := by decide +kernel
theorem dX0_goal_1 : decode cX0_goal 1 = .ok (.getfield 12, 3) := by decide +kernel
theorem dX0_goal_4 : decode cX0_goal 4 = .ok (.getfield 64, 3) := by decide +kernel
theorem dX0_goal_7 : decode cX0_goal 7 = .ok (.iload_n 1, 1) := by decide +kernel
theorem dX0_goal_8 : decode cX0_goal 8 = .ok (.iaload, 1) := by decide +kernel
theorem dX0_goal_9 : decode cX0_goal 9 = .ok (.istore_n 2, 1) := by decide +kernel
theorem dX0_goal_10 : decode cX0_goal 10 = .ok (.iload_n 2, 1) := by decide +kernel
theorem dX0_goal_11 : decode cX0_goal 11 = .ok (.iconst 5, 1) := by decide +kernel
theorem dX0_goal_12 : decode cX0_goal 12 = .ok (.if_icmp .eq 9, 3) := by decide +kernel
theorem dX0_goal_15 : decode cX0_goal 15 = .ok (.iload_n 2, 1) := by decide +kernel
theorem dX0_goal_16 : decode cX0_goal 16 = .ok (.bipush 6, 2) := by decide +kernel
theorem dX0_goal_18 : decode cX0_goal 18 = .ok (.if_icmp .ne 8, 3) := by decide +kernel
theorem dX0_goal_21 : decode cX0_goal 21 = .ok (.aload_n 0, 1) := by decide +kernel
theorem dX0_goal_22 : decode cX0_goal 22 = .ok (.invokevirtual 127, 3) := by decide +kernel
theorem dX0_goal_25 : decode cX0_goal 25 = .ok (.ireturn, 1) := by decide +kernel
theorem dX0_goal_26 : decode cX0_goal 26 = .ok (.iload_n 2, 1) := by decide +kernel
theorem dX0_goal_27 : decode cX0_goal 27 = .ok (.iconst 2, 1) := by decide +kernel
theorem dX0_goal_28 : decode cX0_goal 28 = .ok (.if_icmp .eq 21, 3) := by decide +kernel
theorem dX0_goal_31 : decode cX0_goal 31 = .ok (.iload_n 2, 1) := by decide +kernel
theorem dX0_goal_32 : decode cX0_goal 32 = .ok (.bipush 7, 2) := by decide +kernel
theorem dX0_goal_34 : decode cX0_goal 34 = .ok (.if_icmp .ne 19, 3) := by decide +kernel
theorem dX0_goal_37 : decode cX0_goal 37 = .ok (.aload_n 0, 1) := by decide +kernel
theorem dX0_goal_38 : decode cX0_goal 38 = .ok (.getfield 12, 3) := by decide +kernel
theorem dX0_goal_41 : decode cX0_goal 41 = .ok (.getfield 43, 3) := by decide +kernel
theorem dX0_goal_44 : decode cX0_goal 44 = .ok (.iconst 2, 1) := by decide +kernel
theorem dX0_goal_45 : decode cX0_goal 45 = .ok (.irem, 1) := by decide +kernel
theorem dX0_goal_46 : decode cX0_goal 46 = .ok (.ifCond .ne 7, 3) := by decide +kernel
theorem dX0_goal_49 : decode cX0_goal 49 = .ok (.iconst 1, 1) := by decide +kernel
theorem dX0_goal_50 : decode cX0_goal 50 = .ok (.goto 4, 3) := by decide +kernel
theorem dX0_goal_53 : decode cX0_goal 53 = .ok (.iconst 0, 1) := by decide +kernel
theorem dX0_goal_54 : decode cX0_goal 54 = .ok (.istore_n 3, 1) := by decide +kernel
theorem dX0_goal_55 : decode cX0_goal 55 = .ok (.iconst (-1), 1) := by decide +kernel
theorem dX0_goal_56 : decode cX0_goal 56 = .ok (.istore 4, 2) := by decide +kernel
theorem dX0_goal_58 : decode cX0_goal 58 = .ok (.iload_n 3, 1) := by decide +kernel
theorem dX0_goal_59 : decode cX0_goal 59 = .ok (.ifCond .eq 10, 3) := by decide +kernel
theorem dX0_goal_62 : decode cX0_goal 62 = .ok (.aload_n 0, 1) := by decide +kernel
theorem dX0_goal_63 : decode cX0_goal 63 = .ok (.iload_n 1, 1) := by decide +kernel
theorem dX0_goal_64 : decode cX0_goal 64 = .ok (.invokevirtual 131, 3) := by decide +kernel
theorem dX0_goal_67 : decode cX0_goal 67 = .ok (.istore 4, 2) := by decide +kernel
theorem dX0_goal_69 : decode cX0_goal 69 = .ok (.iload 4, 2) := by decide +kernel
theorem dX0_goal_71 : decode cX0_goal 71 = .ok (.iconst (-1), 1) := by decide +kernel
theorem dX0_goal_72 : decode cX0_goal 72 = .ok (.if_icmp .ne 19, 3) := by decide +kernel
theorem dX0_goal_75 : decode cX0_goal 75 = .ok (.iload_n 3, 1) := by decide +kernel
theorem dX0_goal_76 : decode cX0_goal 76 = .ok (.ifCond .ne 8, 3) := by decide +kernel
theorem dX0_goal_79 : decode cX0_goal 79 = .ok (.iload_n 2, 1) := by decide +kernel
theorem dX0_goal_80 : decode cX0_goal 80 = .ok (.iconst 1, 1) := by decide +kernel
theorem dX0_goal_81 : decode cX0_goal 81 = .ok (.if_icmp .ne 10, 3) := by decide +kernel
theorem dX0_goal_84 : decode cX0_goal 84 = .ok (.aload_n 0, 1) := by decide +kernel
theorem dX0_goal_85 : decode cX0_goal 85 = .ok (.iload_n 1, 1) := by decide +kernel
theorem dX0_goal_86 : decode cX0_goal 86 = .ok (.invokevirtual 134, 3) := by decide +kernel
theorem dX0_goal_89 : decode cX0_goal 89 = .ok (.istore 4, 2) := by decide +kernel
theorem dX0_goal_91 : decode cX0_goal 91 = .ok (.iload 4, 2) := by decide +kernel
theorem dX0_goal_93 : decode cX0_goal 93 = .ok (.iconst (-1), 1) := by decide +kernel
theorem dX0_goal_94 : decode cX0_goal 94 = .ok (.if_icmp .ne 15, 3) := by decide +kernel
theorem dX0_goal_97 : decode cX0_goal 97 = .ok (.aload_n 0, 1) := by decide +kernel
theorem dX0_goal_98 : decode cX0_goal 98 = .ok (.getfield 12, 3) := by decide +kernel
theorem dX0_goal_101 : decode cX0_goal 101 = .ok (.getfield 137, 3) := by decide +kernel
theorem dX0_goal_104 : decode cX0_goal 104 = .ok (.iload_n 1, 1) := by decide +kernel
theorem dX0_goal_105 : decode cX0_goal 105 = .ok (.iaload, 1) := by decide +kernel
theorem dX0_goal_106 : decode cX0_goal 106 = .ok (.goto 13, 3) := by decide +kernel
theorem dX0_goal_109 : decode cX0_goal 109 = .ok (.aload_n 0, 1) := by decide +kernel
theorem dX0_goal_110 : decode cX0_goal 110 = .ok (.getfield 12, 3) := by decide +kernel
theorem dX0_goal_113 : decode cX0_goal 113 = .ok (.getfield 108, 3) := by decide +kernel
theorem dX0_goal_116 : decode cX0_goal 116 = .ok (.iload 4, 2) := by decide +kernel
theorem dX0_goal_118 : decode cX0_goal 118 = .ok (.iaload, 1) := by decide +kernel
theorem dX0_goal_119 : decode cX0_goal 119 = .ok (.ireturn, 1) := by decide +kernel
theorem dX0_airiest_0 : decode cX0_airiest 0 = .ok (.iconst 0, 1) := by decide +kernel
theorem dX0_airiest_1 : decode cX0_airiest 1 = .ok (.istore_n 1, 1) := by decide +kernel
theorem dX0_airiest_2 : decode cX0_airiest 2 = .ok (.iconst 1, 1) := by decide +kernel
theorem dX0_airiest_3 : decode cX0_airiest 3 = .ok (.istore_n 2, 1) := by decide +kernel
theorem dX0_airiest_4 : decode cX0_airiest 4 = .ok (.iload_n 2, 1) := by decide +kernel
theorem dX0_airiest_5 : decode cX0_airiest 5 = .ok (.bipush 24, 2) := by decide +kernel
theorem dX0_airiest_7 : decode cX0_airiest 7 = .ok (.if_icmp .ge 24, 3) := by decide +kernel
theorem dX0_airiest_10 : decode cX0_airiest 10 = .ok (.aload_n 0, 1) := by decide +kernel
theorem dX0_airiest_11 : decode cX0_airiest 11 = .ok (.iload_n 2, 1) := by decide +kernel
theorem dX0_airiest_12 : decode cX0_airiest 12 = .ok (.invokevirtual 54, 3) := by decide +kernel
theorem dX0_airiest_15 : decode cX0_airiest 15 = .ok (.aload_n 0, 1) := by decide +kernel
theorem dX0_airiest_16 : decode cX0_airiest 16 = .ok (.iload_n 1, 1) := by decide +kernel
theorem dX0_airiest_17 : decode cX0_airiest 17 = .ok (.invokevirtual 54, 3) := by decide +kernel
theorem dX0_airiest_20 : decode cX0_airiest 20 = .ok (.if_icmp .le 5, 3) := by decide +kernel
theorem dX0_airiest_23 : decode cX0_airiest 23 = .ok (.iload_n 2, 1) := by decide +kernel
theorem dX0_airiest_24 : decode cX0_airiest 24 = .ok (.istore_n 1, 1) := by decide +kernel
theorem dX0_airiest_25 : decode cX0_airiest 25 = .ok (.iinc 2 1, 3) := by decide +kernel
theorem dX0_airiest_28 : decode cX0_airiest 28 = .ok (.goto (-24), 3) := by decide +kernel
theorem dX0_airiest_31 : decode cX0_airiest 31 = .ok (.iload_n 1, 1) := by decide +kernel
theorem dX0_airiest_32 : decode cX0_airiest 32 = .ok (.ireturn, 1) := by decide +kernel
theorem dX0_worthiest_0 : decode cX0_worthiest 0 = .ok (.iconst (-1), 1) := by decide +kernel
theorem dX0_worthiest_1 : decode cX0_worthiest 1 = .ok (.istore_n 2, 1) := by decide +kernel
theorem dX0_worthiest_2 : decode cX0_worthiest 2 = .ok (.iconst 0, 1) := by decide +kernel
theorem dX0_worthiest_3 : decode cX0_worthiest 3 = .ok (.istore_n 3, 1) := by decide +kernel
theorem dX0_worthiest_4 : decode cX0_worthiest 4 = .ok (.iload_n 3, 1) := by decide +kernel
theorem dX0_worthiest_5 : decode cX0_worthiest 5 = .ok (.aload_n 0, 1) := by decide +kernel
theorem dX0_worthiest_6 : decode cX0_worthiest 6 = .ok (.getfield 12, 3) := by decide +kernel
theorem dX0_worthiest_9 : decode cX0_worthiest 9 = .ok (.getfield 105, 3) := by decide +kernel
theorem dX0_worthiest_12 : decode cX0_worthiest 12 = .ok (.if_icmp .ge 62, 3) := by decide +kernel
theorem dX0_worthiest_15 : decode cX0_worthiest 15 = .ok (.aload_n 0, 1) := by decide +kernel
theorem dX0_worthiest_16 : decode cX0_worthiest 16 = .ok (.getfield 12, 3) := by decide +kernel
theorem dX0_worthiest_19 : decode cX0_worthiest 19 = .ok (.getfield 111, 3) := by decide +kernel
theorem dX0_worthiest_22 : decode cX0_worthiest 22 = .ok (.iload_n 3, 1) := by decide +kernel
theorem dX0_worthiest_23 : decode cX0_worthiest 23 = .ok (.iaload, 1) := by decide +kernel
theorem dX0_worthiest_24 : decode cX0_worthiest 24 = .ok (.iload_n 1, 1) := by decide +kernel
theorem dX0_worthiest_25 : decode cX0_worthiest 25 = .ok (.if_icmp .ne 7, 3) := by decide +kernel
theorem dX0_worthiest_28 : decode cX0_worthiest 28 = .ok (.iconst 1, 1) := by decide +kernel
theorem dX0_worthiest_29 : decode cX0_worthiest 29 = .ok (.goto 4, 3) := by decide +kernel
theorem dX0_worthiest_32 : decode cX0_worthiest 32 = .ok (.iconst 0, 1) := by decide +kernel
theorem dX0_worthiest_33 : decode cX0_worthiest 33 = .ok (.istore 4, 2) := by decide +kernel
theorem dX0_worthiest_35 : decode cX0_worthiest 35 = .ok (.iload 4, 2) := by decide +kernel
theorem dX0_worthiest_37 : decode cX0_worthiest 37 = .ok (.ifCond .ne 31, 3) := by decide +kernel
theorem dX0_worthiest_40 : decode cX0_worthiest 40 = .ok (.iload_n 2, 1) := by decide +kernel
theorem dX0_worthiest_41 : decode cX0_worthiest 41 = .ok (.iconst (-1), 1) := by decide +kernel
theorem dX0_worthiest_42 : decode cX0_worthiest 42 = .ok (.if_icmp .eq 24, 3) := by decide +kernel
theorem dX0_worthiest_45 : decode cX0_worthiest 45 = .ok (.aload_n 0, 1) := by decide +kernel
theorem dX0_worthiest_46 : decode cX0_worthiest 46 = .ok (.getfield 12, 3) := by decide +kernel
theorem dX0_worthiest_49 : decode cX0_worthiest 49 = .ok (.getfield 120, 3) := by decide +kernel
theorem dX0_worthiest_52 : decode cX0_worthiest 52 = .ok (.iload_n 3, 1) := by decide +kernel
theorem dX0_worthiest_53 : decode cX0_worthiest 53 = .ok (.iaload, 1) := by decide +kernel
theorem dX0_worthiest_54 : decode cX0_worthiest 54 = .ok (.aload_n 0, 1) := by decide +kernel
theorem dX0_worthiest_55 : decode cX0_worthiest 55 = .ok (.getfield 12, 3) := by decide +kernel
theorem dX0_worthiest_58 : decode cX0_worthiest 58 = .ok (.getfield 120, 3) := by decide +kernel
theorem dX0_worthiest_61 : decode cX0_worthiest 61 = .ok (.iload_n 2, 1) := by decide +kernel
theorem dX0_worthiest_62 : decode cX0_worthiest 62 = .ok (.iaload, 1) := by decide +kernel
theorem dX0_worthiest_63 : decode cX0_worthiest 63 = .ok (.if_icmp .le 5, 3) := by decide +kernel
theorem dX0_worthiest_66 : decode cX0_worthiest 66 = .ok (.iload_n 3, 1) := by decide +kernel
theorem dX0_worthiest_67 : decode cX0_worthiest 67 = .ok (.istore_n 2, 1) := by decide +kernel
theorem dX0_worthiest_68 : decode cX0_worthiest 68 = .ok (.iinc 3 1, 3) := by decide +kernel
theorem dX0_worthiest_71 : decode cX0_worthiest 71 = .ok (.goto (-67), 3) := by decide +kernel
theorem dX0_worthiest_74 : decode cX0_worthiest 74 = .ok (.iload_n 2, 1) := by decide +kernel
theorem dX0_worthiest_75 : decode cX0_worthiest 75 = .ok (.ireturn, 1) := by decide +kernel
theorem dX0_nearest_0 : decode cX0_nearest 0 = .ok (.iconst (-1), 1) := by decide +kernel
theorem dX0_nearest_1 : decode cX0_nearest 1 = .ok (.istore_n 2, 1) := by decide +kernel
theorem dX0_nearest_2 : decode cX0_nearest 2 = .ok (.iconst 0, 1) := by decide +kernel
theorem dX0_nearest_3 : decode cX0_nearest 3 = .ok (.istore_n 3, 1) := by decide +kernel
theorem dX0_nearest_4 : decode cX0_nearest 4 = .ok (.iconst 0, 1) := by decide +kernel
theorem dX0_nearest_5 : decode cX0_nearest 5 = .ok (.istore 4, 2) := by decide +kernel
theorem dX0_nearest_7 : decode cX0_nearest 7 = .ok (.iload 4, 2) := by decide +kernel
theorem dX0_nearest_9 : decode cX0_nearest 9 = .ok (.aload_n 0, 1) := by decide +kernel
theorem dX0_nearest_10 : decode cX0_nearest 10 = .ok (.getfield 12, 3) := by decide +kernel
theorem dX0_nearest_13 : decode cX0_nearest 13 = .ok (.getfield 105, 3) := by decide +kernel
theorem dX0_nearest_16 : decode cX0_nearest 16 = .ok (.if_icmp .ge 64, 3) := by decide +kernel
theorem dX0_nearest_19 : decode cX0_nearest 19 = .ok (.aload_n 0, 1) := by decide +kernel
theorem dX0_nearest_20 : decode cX0_nearest 20 = .ok (.getfield 12, 3) := by decide +kernel
theorem dX0_nearest_23 : decode cX0_nearest 23 = .ok (.getfield 111, 3) := by decide +kernel
theorem dX0_nearest_26 : decode cX0_nearest 26 = .ok (.iload 4, 2) := by decide +kernel
theorem dX0_nearest_28 : decode cX0_nearest 28 = .ok (.iaload, 1) := by decide +kernel
theorem dX0_nearest_29 : decode cX0_nearest 29 = .ok (.iconst (-1), 1) := by decide +kernel
theorem dX0_nearest_30 : decode cX0_nearest 30 = .ok (.if_icmp .ne 44, 3) := by decide +kernel
theorem dX0_nearest_33 : decode cX0_nearest 33 = .ok (.aload_n 0, 1) := by decide +kernel
theorem dX0_nearest_34 : decode cX0_nearest 34 = .ok (.getfield 12, 3) := by decide +kernel
theorem dX0_nearest_37 : decode cX0_nearest 37 = .ok (.getfield 61, 3) := by decide +kernel
theorem dX0_nearest_40 : decode cX0_nearest 40 = .ok (.iload_n 1, 1) := by decide +kernel
theorem dX0_nearest_41 : decode cX0_nearest 41 = .ok (.iaload, 1) := by decide +kernel
theorem dX0_nearest_42 : decode cX0_nearest 42 = .ok (.aload_n 0, 1) := by decide +kernel
theorem dX0_nearest_43 : decode cX0_nearest 43 = .ok (.getfield 12, 3) := by decide +kernel
theorem dX0_nearest_46 : decode cX0_nearest 46 = .ok (.getfield 108, 3) := by decide +kernel
theorem dX0_nearest_49 : decode cX0_nearest 49 = .ok (.iload 4, 2) := by decide +kernel
theorem dX0_nearest_51 : decode cX0_nearest 51 = .ok (.iaload, 1) := by decide +kernel
theorem dX0_nearest_52 : decode cX0_nearest 52 = .ok (.invokestatic 140, 3) := by decide +kernel
theorem dX0_nearest_55 : decode cX0_nearest 55 = .ok (.istore 5, 2) := by decide +kernel
theorem dX0_nearest_57 : decode cX0_nearest 57 = .ok (.iload_n 2, 1) := by decide +kernel
theorem dX0_nearest_58 : decode cX0_nearest 58 = .ok (.iconst (-1), 1) := by decide +kernel
theorem dX0_nearest_59 : decode cX0_nearest 59 = .ok (.if_icmp .eq 9, 3) := by decide +kernel
theorem dX0_nearest_62 : decode cX0_nearest 62 = .ok (.iload 5, 2) := by decide +kernel
theorem dX0_nearest_64 : decode cX0_nearest 64 = .ok (.iload_n 3, 1) := by decide +kernel
theorem dX0_nearest_65 : decode cX0_nearest 65 = .ok (.if_icmp .ge 9, 3) := by decide +kernel
theorem dX0_nearest_68 : decode cX0_nearest 68 = .ok (.iload 4, 2) := by decide +kernel
theorem dX0_nearest_70 : decode cX0_nearest 70 = .ok (.istore_n 2, 1) := by decide +kernel
theorem dX0_nearest_71 : decode cX0_nearest 71 = .ok (.iload 5, 2) := by decide +kernel
theorem dX0_nearest_73 : decode cX0_nearest 73 = .ok (.istore_n 3, 1) := by decide +kernel
theorem dX0_nearest_74 : decode cX0_nearest 74 = .ok (.iinc 4 1, 3) := by decide +kernel
theorem dX0_nearest_77 : decode cX0_nearest 77 = .ok (.goto (-70), 3) := by decide +kernel
theorem dX0_nearest_80 : decode cX0_nearest 80 = .ok (.iload_n 2, 1) := by decide +kernel
theorem dX0_nearest_81 : decode cX0_nearest 81 = .ok (.ireturn, 1) := by decide +kernel
theorem dX0_distance_0 : decode cX0_distance 0 = .ok (.iload_n 0, 1) := by decide +kernel
theorem dX0_distance_1 : decode cX0_distance 1 = .ok (.bipush 6, 2) := by decide +kernel
theorem dX0_distance_3 : decode cX0_distance 3 = .ok (.idiv, 1) := by decide +kernel
theorem dX0_distance_4 : decode cX0_distance 4 = .ok (.iload_n 1, 1) := by decide +kernel
theorem dX0_distance_5 : decode cX0_distance 5 = .ok (.bipush 6, 2) := by decide +kernel
theorem dX0_distance_7 : decode cX0_distance 7 = .ok (.idiv, 1) := by decide +kernel
theorem dX0_distance_8 : decode cX0_distance 8 = .ok (.isub, 1) := by decide +kernel
theorem dX0_distance_9 : decode cX0_distance 9 = .ok (.invokestatic 143, 3) := by decide +kernel
theorem dX0_distance_12 : decode cX0_distance 12 = .ok (.iload_n 0, 1) := by decide +kernel
theorem dX0_distance_13 : decode cX0_distance 13 = .ok (.bipush 6, 2) := by decide +kernel
theorem dX0_distance_15 : decode cX0_distance 15 = .ok (.irem, 1) := by decide +kernel
theorem dX0_distance_16 : decode cX0_distance 16 = .ok (.iload_n 1, 1) := by decide +kernel
theorem dX0_distance_17 : decode cX0_distance 17 = .ok (.bipush 6, 2) := by decide +kernel
theorem dX0_distance_19 : decode cX0_distance 19 = .ok (.irem, 1) := by decide +kernel
theorem dX0_distance_20 : decode cX0_distance 20 = .ok (.isub, 1) := by decide +kernel
theorem dX0_distance_21 : decode cX0_distance 21 = .ok (.invokestatic 143, 3) := by decide +kernel
theorem dX0_distance_24 : decode cX0_distance 24 = .ok (.iadd, 1) := by decide +kernel
theorem dX0_distance_25 : decode cX0_distance 25 = .ok (.ireturn, 1) := by decide +kernel
theorem dX1_pace_0 : decode cX1_pace 0 = .ok (.iload_n 0, 1) := by decide +kernel
theorem dX1_pace_1 : decode cX1_pace 1 = .ok (.tableswitch 59 1 7 #[43, 43, 45, 43, 47, 53, 57], 43) := by decide +kernel
theorem dX1_pace_44 : decode cX1_pace 44 = .ok (.iconst 2, 1) := by decide +kernel
theorem dX1_pace_45 : decode cX1_pace 45 = .ok (.ireturn, 1) := by decide +kernel
theorem dX1_pace_46 : decode cX1_pace 46 = .ok (.iconst 0, 1) := by decide +kernel
theorem dX1_pace_47 : decode cX1_pace 47 = .ok (.ireturn, 1) := by decide +kernel
theorem dX1_pace_48 : decode cX1_pace 48 = .ok (.iload_n 1, 1) := by decide +kernel
theorem dX1_pace_49 : decode cX1_pace 49 = .ok (.iconst 3, 1) := by decide +kernel
theorem dX1_pace_50 : decode cX1_pace 50 = .ok (.idiv, 1) := by decide +kernel
theorem dX1_pace_51 : decode cX1_pace 51 = .ok (.iconst 1, 1) := by decide +kernel
theorem dX1_pace_52 : decode cX1_pace 52 = .ok (.iadd, 1) := by decide +kernel
theorem dX1_pace_53 : decode cX1_pace 53 = .ok (.ireturn, 1) := by decide +kernel
theorem dX1_pace_54 : decode cX1_pace 54 = .ok (.iload_n 1, 1) := by decide +kernel
theorem dX1_pace_55 : decode cX1_pace 55 = .ok (.iconst 3, 1) := by decide +kernel
theorem dX1_pace_56 : decode cX1_pace 56 = .ok (.idiv, 1) := by decide +kernel
theorem dX1_pace_57 : decode cX1_pace 57 = .ok (.ireturn, 1) := by decide +kernel
theorem dX1_pace_58 : decode cX1_pace 58 = .ok (.iconst 3, 1) := by decide +kernel
theorem dX1_pace_59 : decode cX1_pace 59 = .ok (.ireturn, 1) := by decide +kernel
theorem dX1_pace_60 : decode cX1_pace 60 = .ok (.iconst 1, 1) := by decide +kernel
theorem dX1_pace_61 : decode cX1_pace 61 = .ok (.ireturn, 1) := by decide +kernel
theorem dX1_grabs_0 : decode cX1_grabs 0 = .ok (.iload_n 0, 1) := by decide +kernel
theorem dX1_grabs_1 : decode cX1_grabs 1 = .ok (.tableswitch 61 1 7 #[43, 49, 61, 55, 57, 59, 49], 43) := by decide +kernel
theorem dX1_grabs_44 : decode cX1_grabs 44 = .ok (.iload_n 1, 1) := by decide +kernel
theorem dX1_grabs_45 : decode cX1_grabs 45 = .ok (.iconst 2, 1) := by decide +kernel
theorem dX1_grabs_46 : decode cX1_grabs 46 = .ok (.idiv, 1) := by decide +kernel
theorem dX1_grabs_47 : decode cX1_grabs 47 = .ok (.iconst 1, 1) := by decide +kernel
theorem dX1_grabs_48 : decode cX1_grabs 48 = .ok (.iadd, 1) := by decide +kernel
theorem dX1_grabs_49 : decode cX1_grabs 49 = .ok (.ireturn, 1) := by decide +kernel
theorem dX1_grabs_50 : decode cX1_grabs 50 = .ok (.iload_n 1, 1) := by decide +kernel
theorem dX1_grabs_51 : decode cX1_grabs 51 = .ok (.iconst 2, 1) := by decide +kernel
theorem dX1_grabs_52 : decode cX1_grabs 52 = .ok (.idiv, 1) := by decide +kernel
theorem dX1_grabs_53 : decode cX1_grabs 53 = .ok (.iconst 2, 1) := by decide +kernel
theorem dX1_grabs_54 : decode cX1_grabs 54 = .ok (.iadd, 1) := by decide +kernel
theorem dX1_grabs_55 : decode cX1_grabs 55 = .ok (.ireturn, 1) := by decide +kernel
theorem dX1_grabs_56 : decode cX1_grabs 56 = .ok (.iconst 3, 1) := by decide +kernel
theorem dX1_grabs_57 : decode cX1_grabs 57 = .ok (.ireturn, 1) := by decide +kernel
theorem dX1_grabs_58 : decode cX1_grabs 58 = .ok (.iload_n 1, 1) := by decide +kernel
theorem dX1_grabs_59 : decode cX1_grabs 59 = .ok (.ireturn, 1) := by decide +kernel
theorem dX1_grabs_60 : decode cX1_grabs 60 = .ok (.iconst 0, 1) := by decide +kernel
theorem dX1_grabs_61 : decode cX1_grabs 61 = .ok (.ireturn, 1) := by decide +kernel
theorem dX1_grabs_62 : decode cX1_grabs 62 = .ok (.iconst 1, 1) := by decide +kernel
theorem dX1_grabs_63 : decode cX1_grabs 63 = .ok (.ireturn, 1) := by decide +kernel
theorem dX1_steam_0 : decode cX1_steam 0 = .ok (.iload_n 0, 1) := by decide +kernel
theorem dX1_steam_1 : decode cX1_steam 1 = .ok (.tableswitch 41 3 6 #[31, 33, 41, 39], 31) := by decide +kernel
theorem dX1_steam_32 : decode cX1_steam 32 = .ok (.iconst 5, 1) := by decide +kernel
theorem dX1_steam_33 : decode cX1_steam 33 = .ok (.ireturn, 1) := by decide +kernel
theorem dX1_steam_34 : decode cX1_steam 34 = .ok (.iload_n 1, 1) := by decide +kernel
theorem dX1_steam_35 : decode cX1_steam 35 = .ok (.iconst 2, 1) := by decide +kernel
theorem dX1_steam_36 : decode cX1_steam 36 = .ok (.idiv, 1) := by decide +kernel
theorem dX1_steam_37 : decode cX1_steam 37 = .ok (.iconst 5, 1) := by decide +kernel
theorem dX1_steam_38 : decode cX1_steam 38 = .ok (.iadd, 1) := by decide +kernel
theorem dX1_steam_39 : decode cX1_steam 39 = .ok (.ireturn, 1) := by decide +kernel
theorem dX1_steam_40 : decode cX1_steam 40 = .ok (.iconst 3, 1) := by decide +kernel
theorem dX1_steam_41 : decode cX1_steam 41 = .ok (.ireturn, 1) := by decide +kernel
theorem dX1_steam_42 : decode cX1_steam 42 = .ok (.iconst 0, 1) := by decide +kernel
theorem dX1_steam_43 : decode cX1_steam 43 = .ok (.ireturn, 1) := by decide +kernel
theorem dX1_mayTakeAnothers_0 : decode cX1_mayTakeAnothers 0 = .ok (.iload_n 0, 1) := by decide +kernel
theorem dX1_mayTakeAnothers_1 : decode cX1_mayTakeAnothers 1 = .ok (.lookupswitch 49 #[(2, 27), (7, 38)], 27) := by decide +kernel
theorem dX1_mayTakeAnothers_28 : decode cX1_mayTakeAnothers 28 = .ok (.iload_n 2, 1) := by decide +kernel
theorem dX1_mayTakeAnothers_29 : decode cX1_mayTakeAnothers 29 = .ok (.iload_n 1, 1) := by decide +kernel
theorem dX1_mayTakeAnothers_30 : decode cX1_mayTakeAnothers 30 = .ok (.if_icmp .ge 7, 3) := by decide +kernel
theorem dX1_mayTakeAnothers_33 : decode cX1_mayTakeAnothers 33 = .ok (.iconst 1, 1) := by decide +kernel
theorem dX1_mayTakeAnothers_34 : decode cX1_mayTakeAnothers 34 = .ok (.goto 4, 3) := by decide +kernel
theorem dX1_mayTakeAnothers_37 : decode cX1_mayTakeAnothers 37 = .ok (.iconst 0, 1) := by decide +kernel
theorem dX1_mayTakeAnothers_38 : decode cX1_mayTakeAnothers 38 = .ok (.ireturn, 1) := by decide +kernel
theorem dX1_mayTakeAnothers_39 : decode cX1_mayTakeAnothers 39 = .ok (.iload_n 2, 1) := by decide +kernel
theorem dX1_mayTakeAnothers_40 : decode cX1_mayTakeAnothers 40 = .ok (.iload_n 1, 1) := by decide +kernel
theorem dX1_mayTakeAnothers_41 : decode cX1_mayTakeAnothers 41 = .ok (.if_icmp .gt 7, 3) := by decide +kernel
theorem dX1_mayTakeAnothers_44 : decode cX1_mayTakeAnothers 44 = .ok (.iconst 1, 1) := by decide +kernel
theorem dX1_mayTakeAnothers_45 : decode cX1_mayTakeAnothers 45 = .ok (.goto 4, 3) := by decide +kernel
theorem dX1_mayTakeAnothers_48 : decode cX1_mayTakeAnothers 48 = .ok (.iconst 0, 1) := by decide +kernel
theorem dX1_mayTakeAnothers_49 : decode cX1_mayTakeAnothers 49 = .ok (.ireturn, 1) := by decide +kernel
theorem dX1_mayTakeAnothers_50 : decode cX1_mayTakeAnothers 50 = .ok (.iconst 0, 1) := by decide +kernel
theorem dX1_mayTakeAnothers_51 : decode cX1_mayTakeAnothers 51 = .ok (.ireturn, 1) := by decide +kernel
theorem dX2_spread_0 : decode cX2_spread 0 = .ok (.iload_n 0, 1) := by decide +kernel
theorem dX2_spread_1 : decode cX2_spread 1 = .ok (.ldc 11, 2) := by decide +kernel
theorem dX2_spread_3 : decode cX2_spread 3 = .ok (.iand, 1) := by decide +kernel
theorem dX2_spread_4 : decode cX2_spread 4 = .ok (.iconst 1, 1) := by decide +kernel
theorem dX2_spread_5 : decode cX2_spread 5 = .ok (.ishl, 1) := by decide +kernel
theorem dX2_spread_6 : decode cX2_spread 6 = .ok (.istore_n 2, 1) := by decide +kernel
theorem dX2_spread_7 : decode cX2_spread 7 = .ok (.iload_n 0, 1) := by decide +kernel
theorem dX2_spread_8 : decode cX2_spread 8 = .ok (.ldc 12, 2) := by decide +kernel
theorem dX2_spread_10 : decode cX2_spread 10 = .ok (.iand, 1) := by decide +kernel
theorem dX2_spread_11 : decode cX2_spread 11 = .ok (.iconst 1, 1) := by decide +kernel
theorem dX2_spread_12 : decode cX2_spread 12 = .ok (.ishr, 1) := by decide +kernel
theorem dX2_spread_13 : decode cX2_spread 13 = .ok (.istore_n 3, 1) := by decide +kernel
theorem dX2_spread_14 : decode cX2_spread 14 = .ok (.iload_n 0, 1) := by decide +kernel
theorem dX2_spread_15 : decode cX2_spread 15 = .ok (.iload_n 0, 1) := by decide +kernel
theorem dX2_spread_16 : decode cX2_spread 16 = .ok (.bipush 6, 2) := by decide +kernel
theorem dX2_spread_18 : decode cX2_spread 18 = .ok (.ishl, 1) := by decide +kernel
theorem dX2_spread_19 : decode cX2_spread 19 = .ok (.ior, 1) := by decide +kernel
theorem dX2_spread_20 : decode cX2_spread 20 = .ok (.iload_n 0, 1) := by decide +kernel
theorem dX2_spread_21 : decode cX2_spread 21 = .ok (.bipush 6, 2) := by decide +kernel
theorem dX2_spread_23 : decode cX2_spread 23 = .ok (.ishr, 1) := by decide +kernel
theorem dX2_spread_24 : decode cX2_spread 24 = .ok (.ior, 1) := by decide +kernel
theorem dX2_spread_25 : decode cX2_spread 25 = .ok (.iload_n 2, 1) := by decide +kernel
theorem dX2_spread_26 : decode cX2_spread 26 = .ok (.ior, 1) := by decide +kernel
theorem dX2_spread_27 : decode cX2_spread 27 = .ok (.iload_n 3, 1) := by decide +kernel
theorem dX2_spread_28 : decode cX2_spread 28 = .ok (.ior, 1) := by decide +kernel
theorem dX2_spread_29 : decode cX2_spread 29 = .ok (.iload_n 1, 1) := by decide +kernel
theorem dX2_spread_30 : decode cX2_spread 30 = .ok (.iand, 1) := by decide +kernel
theorem dX2_spread_31 : decode cX2_spread 31 = .ok (.ireturn, 1) := by decide +kernel
theorem dX2_pieceWith_0 : decode cX2_pieceWith 0 = .ok (.iload_n 1, 1) := by decide +kernel
theorem dX2_pieceWith_1 : decode cX2_pieceWith 1 = .ok (.iconst 1, 1) := by decide +kernel
theorem dX2_pieceWith_2 : decode cX2_pieceWith 2 = .ok (.iload_n 0, 1) := by decide +kernel
theorem dX2_pieceWith_3 : decode cX2_pieceWith 3 = .ok (.ishl, 1) := by decide +kernel
theorem dX2_pieceWith_4 : decode cX2_pieceWith 4 = .ok (.iand, 1) := by decide +kernel
theorem dX2_pieceWith_5 : decode cX2_pieceWith 5 = .ok (.istore_n 2, 1) := by decide +kernel
theorem dX2_pieceWith_6 : decode cX2_pieceWith 6 = .ok (.iconst 0, 1) := by decide +kernel
theorem dX2_pieceWith_7 : decode cX2_pieceWith 7 = .ok (.istore_n 3, 1) := by decide +kernel
theorem dX2_pieceWith_8 : decode cX2_pieceWith 8 = .ok (.iload_n 3, 1) := by decide +kernel
theorem dX2_pieceWith_9 : decode cX2_pieceWith 9 = .ok (.bipush 24, 2) := by decide +kernel
theorem dX2_pieceWith_11 : decode cX2_pieceWith 11 = .ok (.if_icmp .ge 15, 3) := by decide +kernel
theorem dX2_pieceWith_14 : decode cX2_pieceWith 14 = .ok (.iload_n 2, 1) := by decide +kernel
theorem dX2_pieceWith_15 : decode cX2_pieceWith 15 = .ok (.iload_n 1, 1) := by decide +kernel
theorem dX2_pieceWith_16 : decode cX2_pieceWith 16 = .ok (.invokestatic 13, 3) := by decide +kernel
theorem dX2_pieceWith_19 : decode cX2_pieceWith 19 = .ok (.istore_n 2, 1) := by decide +kernel
theorem dX2_pieceWith_20 : decode cX2_pieceWith 20 = .ok (.iinc 3 1, 3) := by decide +kernel
theorem dX2_pieceWith_23 : decode cX2_pieceWith 23 = .ok (.goto (-15), 3) := by decide +kernel
theorem dX2_pieceWith_26 : decode cX2_pieceWith 26 = .ok (.iload_n 2, 1) := by decide +kernel
theorem dX2_pieceWith_27 : decode cX2_pieceWith 27 = .ok (.ireturn, 1) := by decide +kernel
theorem dX2_howMany_0 : decode cX2_howMany 0 = .ok (.iconst 0, 1) := by decide +kernel
theorem dX2_howMany_1 : decode cX2_howMany 1 = .ok (.istore_n 1, 1) := by decide +kernel
theorem dX2_howMany_2 : decode cX2_howMany 2 = .ok (.iload_n 0, 1) := by decide +kernel
theorem dX2_howMany_3 : decode cX2_howMany 3 = .ok (.istore_n 2, 1) := by decide +kernel
theorem dX2_howMany_4 : decode cX2_howMany 4 = .ok (.iconst 0, 1) := by decide +kernel
theorem dX2_howMany_5 : decode cX2_howMany 5 = .ok (.istore_n 3, 1) := by decide +kernel
theorem dX2_howMany_6 : decode cX2_howMany 6 = .ok (.iload_n 3, 1) := by decide +kernel
theorem dX2_howMany_7 : decode cX2_howMany 7 = .ok (.bipush 24, 2) := by decide +kernel
theorem dX2_howMany_9 : decode cX2_howMany 9 = .ok (.if_icmp .ge 30, 3) := by decide +kernel
theorem dX2_howMany_12 : decode cX2_howMany 12 = .ok (.iload_n 2, 1) := by decide +kernel
theorem dX2_howMany_13 : decode cX2_howMany 13 = .ok (.iconst 1, 1) := by decide +kernel
theorem dX2_howMany_14 : decode cX2_howMany 14 = .ok (.iload_n 3, 1) := by decide +kernel
theorem dX2_howMany_15 : decode cX2_howMany 15 = .ok (.ishl, 1) := by decide +kernel
theorem dX2_howMany_16 : decode cX2_howMany 16 = .ok (.iand, 1) := by decide +kernel
theorem dX2_howMany_17 : decode cX2_howMany 17 = .ok (.ifCond .eq 16, 3) := by decide +kernel
theorem dX2_howMany_20 : decode cX2_howMany 20 = .ok (.iload_n 2, 1) := by decide +kernel
theorem dX2_howMany_21 : decode cX2_howMany 21 = .ok (.iload_n 3, 1) := by decide +kernel
theorem dX2_howMany_22 : decode cX2_howMany 22 = .ok (.iload_n 0, 1) := by decide +kernel
theorem dX2_howMany_23 : decode cX2_howMany 23 = .ok (.invokestatic 17, 3) := by decide +kernel
theorem dX2_howMany_26 : decode cX2_howMany 26 = .ok (.iconst (-1), 1) := by decide +kernel
theorem dX2_howMany_27 : decode cX2_howMany 27 = .ok (.ixor, 1) := by decide +kernel
theorem dX2_howMany_28 : decode cX2_howMany 28 = .ok (.iand, 1) := by decide +kernel
theorem dX2_howMany_29 : decode cX2_howMany 29 = .ok (.istore_n 2, 1) := by decide +kernel
theorem dX2_howMany_30 : decode cX2_howMany 30 = .ok (.iinc 1 1, 3) := by decide +kernel
theorem dX2_howMany_33 : decode cX2_howMany 33 = .ok (.iinc 3 1, 3) := by decide +kernel
theorem dX2_howMany_36 : decode cX2_howMany 36 = .ok (.goto (-30), 3) := by decide +kernel
theorem dX2_howMany_39 : decode cX2_howMany 39 = .ok (.iload_n 1, 1) := by decide +kernel
theorem dX2_howMany_40 : decode cX2_howMany 40 = .ok (.ireturn, 1) := by decide +kernel
theorem dX2_greatest_0 : decode cX2_greatest 0 = .ok (.iconst 0, 1) := by decide +kernel
theorem dX2_greatest_1 : decode cX2_greatest 1 = .ok (.istore_n 1, 1) := by decide +kernel
theorem dX2_greatest_2 : decode cX2_greatest 2 = .ok (.iconst 0, 1) := by decide +kernel
theorem dX2_greatest_3 : decode cX2_greatest 3 = .ok (.istore_n 2, 1) := by decide +kernel
theorem dX2_greatest_4 : decode cX2_greatest 4 = .ok (.iload_n 2, 1) := by decide +kernel
theorem dX2_greatest_5 : decode cX2_greatest 5 = .ok (.bipush 24, 2) := by decide +kernel
theorem dX2_greatest_7 : decode cX2_greatest 7 = .ok (.if_icmp .ge 22, 3) := by decide +kernel
theorem dX2_greatest_10 : decode cX2_greatest 10 = .ok (.iload_n 1, 1) := by decide +kernel
theorem dX2_greatest_11 : decode cX2_greatest 11 = .ok (.iload_n 2, 1) := by decide +kernel
theorem dX2_greatest_12 : decode cX2_greatest 12 = .ok (.iload_n 0, 1) := by decide +kernel
theorem dX2_greatest_13 : decode cX2_greatest 13 = .ok (.invokestatic 17, 3) := by decide +kernel
theorem dX2_greatest_16 : decode cX2_greatest 16 = .ok (.invokestatic 20, 3) := by decide +kernel
theorem dX2_greatest_19 : decode cX2_greatest 19 = .ok (.invokestatic 26, 3) := by decide +kernel
theorem dX2_greatest_22 : decode cX2_greatest 22 = .ok (.istore_n 1, 1) := by decide +kernel
theorem dX2_greatest_23 : decode cX2_greatest 23 = .ok (.iinc 2 1, 3) := by decide +kernel
theorem dX2_greatest_26 : decode cX2_greatest 26 = .ok (.goto (-22), 3) := by decide +kernel
theorem dX2_greatest_29 : decode cX2_greatest 29 = .ok (.iload_n 1, 1) := by decide +kernel
theorem dX2_greatest_30 : decode cX2_greatest 30 = .ok (.ireturn, 1) := by decide +kernel
theorem dX2_steps_0 : decode cX2_steps 0 = .ok (.iload_n 2, 1) := by decide +kernel
theorem dX2_steps_1 : decode cX2_steps 1 = .ok (.iconst 1, 1) := by decide +kernel
theorem dX2_steps_2 : decode cX2_steps 2 = .ok (.iload_n 0, 1) := by decide +kernel
theorem dX2_steps_3 : decode cX2_steps 3 = .ok (.ishl, 1) := by decide +kernel
theorem dX2_steps_4 : decode cX2_steps 4 = .ok (.iand, 1) := by decide +kernel
theorem dX2_steps_5 : decode cX2_steps 5 = .ok (.istore_n 3, 1) := by decide +kernel
theorem dX2_steps_6 : decode cX2_steps 6 = .ok (.iconst 0, 1) := by decide +kernel
theorem dX2_steps_7 : decode cX2_steps 7 = .ok (.istore 4, 2) := by decide +kernel
theorem dX2_steps_9 : decode cX2_steps 9 = .ok (.iload 4, 2) := by decide +kernel
theorem dX2_steps_11 : decode cX2_steps 11 = .ok (.bipush 24, 2) := by decide +kernel
theorem dX2_steps_13 : decode cX2_steps 13 = .ok (.if_icmp .ge 26, 3) := by decide +kernel
theorem dX2_steps_16 : decode cX2_steps 16 = .ok (.iload_n 3, 1) := by decide +kernel
theorem dX2_steps_17 : decode cX2_steps 17 = .ok (.iconst 1, 1) := by decide +kernel
theorem dX2_steps_18 : decode cX2_steps 18 = .ok (.iload_n 1, 1) := by decide +kernel
theorem dX2_steps_19 : decode cX2_steps 19 = .ok (.ishl, 1) := by decide +kernel
theorem dX2_steps_20 : decode cX2_steps 20 = .ok (.iand, 1) := by decide +kernel
theorem dX2_steps_21 : decode cX2_steps 21 = .ok (.ifCond .eq 6, 3) := by decide +kernel
theorem dX2_steps_24 : decode cX2_steps 24 = .ok (.iload 4, 2) := by decide +kernel
theorem dX2_steps_26 : decode cX2_steps 26 = .ok (.ireturn, 1) := by decide +kernel
theorem dX2_steps_27 : decode cX2_steps 27 = .ok (.iload_n 3, 1) := by decide +kernel
theorem dX2_steps_28 : decode cX2_steps 28 = .ok (.iload_n 2, 1) := by decide +kernel
theorem dX2_steps_29 : decode cX2_steps 29 = .ok (.invokestatic 13, 3) := by decide +kernel
theorem dX2_steps_32 : decode cX2_steps 32 = .ok (.istore_n 3, 1) := by decide +kernel
theorem dX2_steps_33 : decode cX2_steps 33 = .ok (.iinc 4 1, 3) := by decide +kernel
theorem dX2_steps_36 : decode cX2_steps 36 = .ok (.goto (-27), 3) := by decide +kernel
theorem dX2_steps_39 : decode cX2_steps 39 = .ok (.bipush (-9), 2) := by decide +kernel
theorem dX2_steps_41 : decode cX2_steps 41 = .ok (.ireturn, 1) := by decide +kernel
theorem dX3_init_0 : decode cX3_init 0 = .ok (.aload_n 0, 1) := by decide +kernel
theorem dX3_init_1 : decode cX3_init 1 = .ok (.invokespecial 3, 3) := by decide +kernel
theorem dX3_init_4 : decode cX3_init 4 = .ok (.aload_n 0, 1) := by decide +kernel
theorem dX3_init_5 : decode cX3_init 5 = .ok (.bipush 6, 2) := by decide +kernel
theorem dX3_init_7 : decode cX3_init 7 = .ok (.newarray .int, 2) := by decide +kernel
theorem dX3_init_9 : decode cX3_init 9 = .ok (.putfield 9, 3) := by decide +kernel
theorem dX3_init_12 : decode cX3_init 12 = .ok (.aload_n 0, 1) := by decide +kernel
theorem dX3_init_13 : decode cX3_init 13 = .ok (.bipush 6, 2) := by decide +kernel
theorem dX3_init_15 : decode cX3_init 15 = .ok (.newarray .int, 2) := by decide +kernel
theorem dX3_init_17 : decode cX3_init 17 = .ok (.putfield 15, 3) := by decide +kernel
theorem dX3_init_20 : decode cX3_init 20 = .ok (.aload_n 0, 1) := by decide +kernel
theorem dX3_init_21 : decode cX3_init 21 = .ok (.bipush 6, 2) := by decide +kernel
theorem dX3_init_23 : decode cX3_init 23 = .ok (.newarray .int, 2) := by decide +kernel
theorem dX3_init_25 : decode cX3_init 25 = .ok (.putfield 18, 3) := by decide +kernel
theorem dX3_init_28 : decode cX3_init 28 = .ok (.aload_n 0, 1) := by decide +kernel
theorem dX3_init_29 : decode cX3_init 29 = .ok (.iconst 0, 1) := by decide +kernel
theorem dX3_init_30 : decode cX3_init 30 = .ok (.putfield 21, 3) := by decide +kernel
theorem dX3_init_33 : decode cX3_init 33 = .ok (.aload_n 0, 1) := by decide +kernel
theorem dX3_init_34 : decode cX3_init 34 = .ok (.sipush 1536, 3) := by decide +kernel
theorem dX3_init_37 : decode cX3_init 37 = .ok (.newarray .int, 2) := by decide +kernel
theorem dX3_init_39 : decode cX3_init 39 = .ok (.putfield 25, 3) := by decide +kernel
theorem dX3_init_42 : decode cX3_init 42 = .ok (.aload_n 0, 1) := by decide +kernel
theorem dX3_init_43 : decode cX3_init 43 = .ok (.bipush 64, 2) := by decide +kernel
theorem dX3_init_45 : decode cX3_init 45 = .ok (.newarray .int, 2) := by decide +kernel
theorem dX3_init_47 : decode cX3_init 47 = .ok (.putfield 28, 3) := by decide +kernel
theorem dX3_init_50 : decode cX3_init 50 = .ok (.aload_n 0, 1) := by decide +kernel
theorem dX3_init_51 : decode cX3_init 51 = .ok (.bipush 6, 2) := by decide +kernel
theorem dX3_init_53 : decode cX3_init 53 = .ok (.newarray .int, 2) := by decide +kernel
theorem dX3_init_55 : decode cX3_init 55 = .ok (.putfield 31, 3) := by decide +kernel
theorem dX3_init_58 : decode cX3_init 58 = .ok (.aload_n 0, 1) := by decide +kernel
theorem dX3_init_59 : decode cX3_init 59 = .ok (.bipush 6, 2) := by decide +kernel
theorem dX3_init_61 : decode cX3_init 61 = .ok (.newarray .int, 2) := by decide +kernel
theorem dX3_init_63 : decode cX3_init 63 = .ok (.putfield 34, 3) := by decide +kernel
theorem dX3_init_66 : decode cX3_init 66 = .ok (.iconst 0, 1) := by decide +kernel
theorem dX3_init_67 : decode cX3_init 67 = .ok (.istore_n 1, 1) := by decide +kernel
theorem dX3_init_68 : decode cX3_init 68 = .ok (.iload_n 1, 1) := by decide +kernel
theorem dX3_init_69 : decode cX3_init 69 = .ok (.bipush 64, 2) := by decide +kernel
theorem dX3_init_71 : decode cX3_init 71 = .ok (.if_icmp .ge 16, 3) := by decide +kernel
theorem dX3_init_74 : decode cX3_init 74 = .ok (.aload_n 0, 1) := by decide +kernel
theorem dX3_init_75 : decode cX3_init 75 = .ok (.getfield 28, 3) := by decide +kernel
theorem dX3_init_78 : decode cX3_init 78 = .ok (.iload_n 1, 1) := by decide +kernel
theorem dX3_init_79 : decode cX3_init 79 = .ok (.iconst (-1), 1) := by decide +kernel
theorem dX3_init_80 : decode cX3_init 80 = .ok (.iastore, 1) := by decide +kernel
theorem dX3_init_81 : decode cX3_init 81 = .ok (.iinc 1 1, 3) := by decide +kernel
theorem dX3_init_84 : decode cX3_init 84 = .ok (.goto (-16), 3) := by decide +kernel
theorem dX3_init_87 : decode cX3_init 87 = .ok (.return_, 1) := by decide +kernel
theorem dX3_rowOf_0 : decode cX3_rowOf 0 = .ok (.aload_n 0, 1) := by decide +kernel
theorem dX3_rowOf_1 : decode cX3_rowOf 1 = .ok (.aload_n 1, 1) := by decide +kernel
theorem dX3_rowOf_2 : decode cX3_rowOf 2 = .ok (.invokevirtual 37, 3) := by decide +kernel
theorem dX3_rowOf_5 : decode cX3_rowOf 5 = .ok (.ifCond .ne 8, 3) := by decide +kernel
theorem dX3_rowOf_8 : decode cX3_rowOf 8 = .ok (.aload_n 0, 1) := by decide +kernel
theorem dX3_rowOf_9 : decode cX3_rowOf 9 = .ok (.aload_n 1, 1) := by decide +kernel
theorem dX3_rowOf_10 : decode cX3_rowOf 10 = .ok (.invokevirtual 41, 3) := by decide +kernel
theorem dX3_rowOf_13 : decode cX3_rowOf 13 = .ok (.iload_n 2, 1) := by decide +kernel
theorem dX3_rowOf_14 : decode cX3_rowOf 14 = .ok (.bipush 63, 2) := by decide +kernel
theorem dX3_rowOf_16 : decode cX3_rowOf 16 = .ok (.iand, 1) := by decide +kernel
theorem dX3_rowOf_17 : decode cX3_rowOf 17 = .ok (.istore_n 3, 1) := by decide +kernel
theorem dX3_rowOf_18 : decode cX3_rowOf 18 = .ok (.iload_n 3, 1) := by decide +kernel
theorem dX3_rowOf_19 : decode cX3_rowOf 19 = .ok (.bipush 24, 2) := by decide +kernel
theorem dX3_rowOf_21 : decode cX3_rowOf 21 = .ok (.imul, 1) := by decide +kernel
theorem dX3_rowOf_22 : decode cX3_rowOf 22 = .ok (.istore 4, 2) := by decide +kernel
theorem dX3_rowOf_24 : decode cX3_rowOf 24 = .ok (.aload_n 0, 1) := by decide +kernel
theorem dX3_rowOf_25 : decode cX3_rowOf 25 = .ok (.getfield 28, 3) := by decide +kernel
theorem dX3_rowOf_28 : decode cX3_rowOf 28 = .ok (.iload_n 3, 1) := by decide +kernel
theorem dX3_rowOf_29 : decode cX3_rowOf 29 = .ok (.iaload, 1) := by decide +kernel
theorem dX3_rowOf_30 : decode cX3_rowOf 30 = .ok (.iload_n 2, 1) := by decide +kernel
theorem dX3_rowOf_31 : decode cX3_rowOf 31 = .ok (.if_icmp .eq 43, 3) := by decide +kernel
theorem dX3_rowOf_34 : decode cX3_rowOf 34 = .ok (.iconst 0, 1) := by decide +kernel
theorem dX3_rowOf_35 : decode cX3_rowOf 35 = .ok (.istore 5, 2) := by decide +kernel
theorem dX3_rowOf_37 : decode cX3_rowOf 37 = .ok (.iload 5, 2) := by decide +kernel
theorem dX3_rowOf_39 : decode cX3_rowOf 39 = .ok (.bipush 24, 2) := by decide +kernel
theorem dX3_rowOf_41 : decode cX3_rowOf 41 = .ok (.if_icmp .ge 26, 3) := by decide +kernel
theorem dX3_rowOf_44 : decode cX3_rowOf 44 = .ok (.aload_n 0, 1) := by decide +kernel
theorem dX3_rowOf_45 : decode cX3_rowOf 45 = .ok (.getfield 25, 3) := by decide +kernel
theorem dX3_rowOf_48 : decode cX3_rowOf 48 = .ok (.iload 4, 2) := by decide +kernel
theorem dX3_rowOf_50 : decode cX3_rowOf 50 = .ok (.iload 5, 2) := by decide +kernel
theorem dX3_rowOf_52 : decode cX3_rowOf 52 = .ok (.iadd, 1) := by decide +kernel
theorem dX3_rowOf_53 : decode cX3_rowOf 53 = .ok (.aload_n 0, 1) := by decide +kernel
theorem dX3_rowOf_54 : decode cX3_rowOf 54 = .ok (.iload 5, 2) := by decide +kernel
theorem dX3_rowOf_56 : decode cX3_rowOf 56 = .ok (.iload_n 2, 1) := by decide +kernel
theorem dX3_rowOf_57 : decode cX3_rowOf 57 = .ok (.invokevirtual 45, 3) := by decide +kernel
theorem dX3_rowOf_60 : decode cX3_rowOf 60 = .ok (.iastore, 1) := by decide +kernel
theorem dX3_rowOf_61 : decode cX3_rowOf 61 = .ok (.iinc 5 1, 3) := by decide +kernel
theorem dX3_rowOf_64 : decode cX3_rowOf 64 = .ok (.goto (-27), 3) := by decide +kernel
theorem dX3_rowOf_67 : decode cX3_rowOf 67 = .ok (.aload_n 0, 1) := by decide +kernel
theorem dX3_rowOf_68 : decode cX3_rowOf 68 = .ok (.getfield 28, 3) := by decide +kernel
theorem dX3_rowOf_71 : decode cX3_rowOf 71 = .ok (.iload_n 3, 1) := by decide +kernel
theorem dX3_rowOf_72 : decode cX3_rowOf 72 = .ok (.iload_n 2, 1) := by decide +kernel
theorem dX3_rowOf_73 : decode cX3_rowOf 73 = .ok (.iastore, 1) := by decide +kernel
theorem dX3_rowOf_74 : decode cX3_rowOf 74 = .ok (.iload 4, 2) := by decide +kernel
theorem dX3_rowOf_76 : decode cX3_rowOf 76 = .ok (.ireturn, 1) := by decide +kernel
theorem dX3_isOf_0 : decode cX3_isOf 0 = .ok (.aload_n 0, 1) := by decide +kernel
theorem dX3_isOf_1 : decode cX3_isOf 1 = .ok (.getfield 21, 3) := by decide +kernel
theorem dX3_isOf_4 : decode cX3_isOf 4 = .ok (.aload_n 1, 1) := by decide +kernel
theorem dX3_isOf_5 : decode cX3_isOf 5 = .ok (.getfield 49, 3) := by decide +kernel
theorem dX3_isOf_8 : decode cX3_isOf 8 = .ok (.if_icmp .eq 5, 3) := by decide +kernel
theorem dX3_isOf_11 : decode cX3_isOf 11 = .ok (.iconst 0, 1) := by decide +kernel
theorem dX3_isOf_12 : decode cX3_isOf 12 = .ok (.ireturn, 1) := by decide +kernel
theorem dX3_isOf_13 : decode cX3_isOf 13 = .ok (.iconst 0, 1) := by decide +kernel
theorem dX3_isOf_14 : decode cX3_isOf 14 = .ok (.istore_n 2, 1) := by decide +kernel
theorem dX3_isOf_15 : decode cX3_isOf 15 = .ok (.iload_n 2, 1) := by decide +kernel
theorem dX3_isOf_16 : decode cX3_isOf 16 = .ok (.aload_n 0, 1) := by decide +kernel
theorem dX3_isOf_17 : decode cX3_isOf 17 = .ok (.getfield 21, 3) := by decide +kernel
theorem dX3_isOf_20 : decode cX3_isOf 20 = .ok (.if_icmp .ge 56, 3) := by decide +kernel
theorem dX3_isOf_23 : decode cX3_isOf 23 = .ok (.aload_n 0, 1) := by decide +kernel
theorem dX3_isOf_24 : decode cX3_isOf 24 = .ok (.getfield 9, 3) := by decide +kernel
theorem dX3_isOf_27 : decode cX3_isOf 27 = .ok (.iload_n 2, 1) := by decide +kernel
theorem dX3_isOf_28 : decode cX3_isOf 28 = .ok (.iaload, 1) := by decide +kernel
theorem dX3_isOf_29 : decode cX3_isOf 29 = .ok (.aload_n 1, 1) := by decide +kernel
theorem dX3_isOf_30 : decode cX3_isOf 30 = .ok (.getfield 52, 3) := by decide +kernel
theorem dX3_isOf_33 : decode cX3_isOf 33 = .ok (.iload_n 2, 1) := by decide +kernel
theorem dX3_isOf_34 : decode cX3_isOf 34 = .ok (.iaload, 1) := by decide +kernel
theorem dX3_isOf_35 : decode cX3_isOf 35 = .ok (.if_icmp .ne 33, 3) := by decide +kernel
theorem dX3_isOf_38 : decode cX3_isOf 38 = .ok (.aload_n 0, 1) := by decide +kernel
theorem dX3_isOf_39 : decode cX3_isOf 39 = .ok (.getfield 15, 3) := by decide +kernel
theorem dX3_isOf_42 : decode cX3_isOf 42 = .ok (.iload_n 2, 1) := by decide +kernel
theorem dX3_isOf_43 : decode cX3_isOf 43 = .ok (.iaload, 1) := by decide +kernel
theorem dX3_isOf_44 : decode cX3_isOf 44 = .ok (.aload_n 1, 1) := by decide +kernel
theorem dX3_isOf_45 : decode cX3_isOf 45 = .ok (.getfield 53, 3) := by decide +kernel
theorem dX3_isOf_48 : decode cX3_isOf 48 = .ok (.iload_n 2, 1) := by decide +kernel
theorem dX3_isOf_49 : decode cX3_isOf 49 = .ok (.iaload, 1) := by decide +kernel
theorem dX3_isOf_50 : decode cX3_isOf 50 = .ok (.if_icmp .ne 18, 3) := by decide +kernel
theorem dX3_isOf_53 : decode cX3_isOf 53 = .ok (.aload_n 0, 1) := by decide +kernel
theorem dX3_isOf_54 : decode cX3_isOf 54 = .ok (.getfield 18, 3) := by decide +kernel
theorem dX3_isOf_57 : decode cX3_isOf 57 = .ok (.iload_n 2, 1) := by decide +kernel
theorem dX3_isOf_58 : decode cX3_isOf 58 = .ok (.iaload, 1) := by decide +kernel
theorem dX3_isOf_59 : decode cX3_isOf 59 = .ok (.aload_n 1, 1) := by decide +kernel
theorem dX3_isOf_60 : decode cX3_isOf 60 = .ok (.getfield 54, 3) := by decide +kernel
theorem dX3_isOf_63 : decode cX3_isOf 63 = .ok (.iload_n 2, 1) := by decide +kernel
theorem dX3_isOf_64 : decode cX3_isOf 64 = .ok (.iaload, 1) := by decide +kernel
theorem dX3_isOf_65 : decode cX3_isOf 65 = .ok (.if_icmp .eq 5, 3) := by decide +kernel
theorem dX3_isOf_68 : decode cX3_isOf 68 = .ok (.iconst 0, 1) := by decide +kernel
theorem dX3_isOf_69 : decode cX3_isOf 69 = .ok (.ireturn, 1) := by decide +kernel
theorem dX3_isOf_70 : decode cX3_isOf 70 = .ok (.iinc 2 1, 3) := by decide +kernel
theorem dX3_isOf_73 : decode cX3_isOf 73 = .ok (.goto (-58), 3) := by decide +kernel
theorem dX3_isOf_76 : decode cX3_isOf 76 = .ok (.iconst 1, 1) := by decide +kernel
theorem dX3_isOf_77 : decode cX3_isOf 77 = .ok (.ireturn, 1) := by decide +kernel
theorem dX3_turnTo_0 : decode cX3_turnTo 0 = .ok (.aload_n 1, 1) := by decide +kernel
theorem dX3_turnTo_1 : decode cX3_turnTo 1 = .ok (.getfield 52, 3) := by decide +kernel
theorem dX3_turnTo_4 : decode cX3_turnTo 4 = .ok (.iconst 0, 1) := by decide +kernel
theorem dX3_turnTo_5 : decode cX3_turnTo 5 = .ok (.aload_n 0, 1) := by decide +kernel
theorem dX3_turnTo_6 : decode cX3_turnTo 6 = .ok (.getfield 9, 3) := by decide +kernel
theorem dX3_turnTo_9 : decode cX3_turnTo 9 = .ok (.iconst 0, 1) := by decide +kernel
theorem dX3_turnTo_10 : decode cX3_turnTo 10 = .ok (.bipush 6, 2) := by decide +kernel
theorem dX3_turnTo_12 : decode cX3_turnTo 12 = .ok (.invokestatic 55, 3) := by decide +kernel
theorem dX3_turnTo_15 : decode cX3_turnTo 15 = .ok (.aload_n 1, 1) := by decide +kernel
theorem dX3_turnTo_16 : decode cX3_turnTo 16 = .ok (.getfield 53, 3) := by decide +kernel
theorem dX3_turnTo_19 : decode cX3_turnTo 19 = .ok (.iconst 0, 1) := by decide +kernel
theorem dX3_turnTo_20 : decode cX3_turnTo 20 = .ok (.aload_n 0, 1) := by decide +kernel
theorem dX3_turnTo_21 : decode cX3_turnTo 21 = .ok (.getfield 15, 3) := by decide +kernel
theorem dX3_turnTo_24 : decode cX3_turnTo 24 = .ok (.iconst 0, 1) := by decide +kernel
theorem dX3_turnTo_25 : decode cX3_turnTo 25 = .ok (.bipush 6, 2) := by decide +kernel
theorem dX3_turnTo_27 : decode cX3_turnTo 27 = .ok (.invokestatic 55, 3) := by decide +kernel
theorem dX3_turnTo_30 : decode cX3_turnTo 30 = .ok (.aload_n 1, 1) := by decide +kernel
theorem dX3_turnTo_31 : decode cX3_turnTo 31 = .ok (.getfield 54, 3) := by decide +kernel
theorem dX3_turnTo_34 : decode cX3_turnTo 34 = .ok (.iconst 0, 1) := by decide +kernel
theorem dX3_turnTo_35 : decode cX3_turnTo 35 = .ok (.aload_n 0, 1) := by decide +kernel
theorem dX3_turnTo_36 : decode cX3_turnTo 36 = .ok (.getfield 18, 3) := by decide +kernel
theorem dX3_turnTo_39 : decode cX3_turnTo 39 = .ok (.iconst 0, 1) := by decide +kernel
theorem dX3_turnTo_40 : decode cX3_turnTo 40 = .ok (.bipush 6, 2) := by decide +kernel
theorem dX3_turnTo_42 : decode cX3_turnTo 42 = .ok (.invokestatic 55, 3) := by decide +kernel
theorem dX3_turnTo_45 : decode cX3_turnTo 45 = .ok (.aload_n 0, 1) := by decide +kernel
theorem dX3_turnTo_46 : decode cX3_turnTo 46 = .ok (.aload_n 1, 1) := by decide +kernel
theorem dX3_turnTo_47 : decode cX3_turnTo 47 = .ok (.getfield 49, 3) := by decide +kernel
theorem dX3_turnTo_50 : decode cX3_turnTo 50 = .ok (.putfield 21, 3) := by decide +kernel
theorem dX3_turnTo_53 : decode cX3_turnTo 53 = .ok (.iconst 0, 1) := by decide +kernel
theorem dX3_turnTo_54 : decode cX3_turnTo 54 = .ok (.istore_n 2, 1) := by decide +kernel
theorem dX3_turnTo_55 : decode cX3_turnTo 55 = .ok (.iload_n 2, 1) := by decide +kernel
theorem dX3_turnTo_56 : decode cX3_turnTo 56 = .ok (.bipush 64, 2) := by decide +kernel
theorem dX3_turnTo_58 : decode cX3_turnTo 58 = .ok (.if_icmp .ge 16, 3) := by decide +kernel
theorem dX3_turnTo_61 : decode cX3_turnTo 61 = .ok (.aload_n 0, 1) := by decide +kernel
theorem dX3_turnTo_62 : decode cX3_turnTo 62 = .ok (.getfield 28, 3) := by decide +kernel
theorem dX3_turnTo_65 : decode cX3_turnTo 65 = .ok (.iload_n 2, 1) := by decide +kernel
theorem dX3_turnTo_66 : decode cX3_turnTo 66 = .ok (.iconst (-1), 1) := by decide +kernel
theorem dX3_turnTo_67 : decode cX3_turnTo 67 = .ok (.iastore, 1) := by decide +kernel
theorem dX3_turnTo_68 : decode cX3_turnTo 68 = .ok (.iinc 2 1, 3) := by decide +kernel
theorem dX3_turnTo_71 : decode cX3_turnTo 71 = .ok (.goto (-16), 3) := by decide +kernel
theorem dX3_turnTo_74 : decode cX3_turnTo 74 = .ok (.return_, 1) := by decide +kernel
theorem dX3_airAt_0 : decode cX3_airAt 0 = .ok (.iload_n 1, 1) := by decide +kernel
theorem dX3_airAt_1 : decode cX3_airAt 1 = .ok (.istore_n 3, 1) := by decide +kernel
theorem dX3_airAt_2 : decode cX3_airAt 2 = .ok (.iload_n 2, 1) := by decide +kernel
theorem dX3_airAt_3 : decode cX3_airAt 3 = .ok (.istore 4, 2) := by decide +kernel
theorem dX3_airAt_5 : decode cX3_airAt 5 = .ok (.aload_n 0, 1) := by decide +kernel
theorem dX3_airAt_6 : decode cX3_airAt 6 = .ok (.getfield 21, 3) := by decide +kernel
theorem dX3_airAt_9 : decode cX3_airAt 9 = .ok (.iconst 1, 1) := by decide +kernel
theorem dX3_airAt_10 : decode cX3_airAt 10 = .ok (.isub, 1) := by decide +kernel
theorem dX3_airAt_11 : decode cX3_airAt 11 = .ok (.istore 5, 2) := by decide +kernel
theorem dX3_airAt_13 : decode cX3_airAt 13 = .ok (.iload 5, 2) := by decide +kernel
theorem dX3_airAt_15 : decode cX3_airAt 15 = .ok (.ifCond .lt 79, 3) := by decide +kernel
theorem dX3_airAt_18 : decode cX3_airAt 18 = .ok (.aload_n 0, 1) := by decide +kernel
theorem dX3_airAt_19 : decode cX3_airAt 19 = .ok (.getfield 31, 3) := by decide +kernel
theorem dX3_airAt_22 : decode cX3_airAt 22 = .ok (.iload 5, 2) := by decide +kernel
theorem dX3_airAt_24 : decode cX3_airAt 24 = .ok (.iload_n 3, 1) := by decide +kernel
theorem dX3_airAt_25 : decode cX3_airAt 25 = .ok (.iastore, 1) := by decide +kernel
theorem dX3_airAt_26 : decode cX3_airAt 26 = .ok (.aload_n 0, 1) := by decide +kernel
theorem dX3_airAt_27 : decode cX3_airAt 27 = .ok (.getfield 34, 3) := by decide +kernel
theorem dX3_airAt_30 : decode cX3_airAt 30 = .ok (.iload 5, 2) := by decide +kernel
theorem dX3_airAt_32 : decode cX3_airAt 32 = .ok (.iload 4, 2) := by decide +kernel
theorem dX3_airAt_34 : decode cX3_airAt 34 = .ok (.iastore, 1) := by decide +kernel
theorem dX3_airAt_35 : decode cX3_airAt 35 = .ok (.aload_n 0, 1) := by decide +kernel
theorem dX3_airAt_36 : decode cX3_airAt 36 = .ok (.getfield 9, 3) := by decide +kernel
theorem dX3_airAt_39 : decode cX3_airAt 39 = .ok (.iload 5, 2) := by decide +kernel
theorem dX3_airAt_41 : decode cX3_airAt 41 = .ok (.iaload, 1) := by decide +kernel
theorem dX3_airAt_42 : decode cX3_airAt 42 = .ok (.iconst 5, 1) := by decide +kernel
theorem dX3_airAt_43 : decode cX3_airAt 43 = .ok (.if_icmp .ne 17, 3) := by decide +kernel
theorem dX3_airAt_46 : decode cX3_airAt 46 = .ok (.iload_n 3, 1) := by decide +kernel
theorem dX3_airAt_47 : decode cX3_airAt 47 = .ok (.iconst 5, 1) := by decide +kernel
theorem dX3_airAt_48 : decode cX3_airAt 48 = .ok (.iadd, 1) := by decide +kernel
theorem dX3_airAt_49 : decode cX3_airAt 49 = .ok (.iconst 2, 1) := by decide +kernel
theorem dX3_airAt_50 : decode cX3_airAt 50 = .ok (.iload_n 3, 1) := by decide +kernel
theorem dX3_airAt_51 : decode cX3_airAt 51 = .ok (.bipush 6, 2) := by decide +kernel
theorem dX3_airAt_53 : decode cX3_airAt 53 = .ok (.irem, 1) := by decide +kernel
theorem dX3_airAt_54 : decode cX3_airAt 54 = .ok (.imul, 1) := by decide +kernel
theorem dX3_airAt_55 : decode cX3_airAt 55 = .ok (.isub, 1) := by decide +kernel
theorem dX3_airAt_56 : decode cX3_airAt 56 = .ok (.istore_n 3, 1) := by decide +kernel
theorem dX3_airAt_57 : decode cX3_airAt 57 = .ok (.goto 31, 3) := by decide +kernel
theorem dX3_airAt_60 : decode cX3_airAt 60 = .ok (.aload_n 0, 1) := by decide +kernel
theorem dX3_airAt_61 : decode cX3_airAt 61 = .ok (.getfield 9, 3) := by decide +kernel
theorem dX3_airAt_64 : decode cX3_airAt 64 = .ok (.iload 5, 2) := by decide +kernel
theorem dX3_airAt_66 : decode cX3_airAt 66 = .ok (.iaload, 1) := by decide +kernel
theorem dX3_airAt_67 : decode cX3_airAt 67 = .ok (.bipush 6, 2) := by decide +kernel
theorem dX3_airAt_69 : decode cX3_airAt 69 = .ok (.if_icmp .ne 19, 3) := by decide +kernel
theorem dX3_airAt_72 : decode cX3_airAt 72 = .ok (.iload 4, 2) := by decide +kernel
theorem dX3_airAt_74 : decode cX3_airAt 74 = .ok (.aload_n 0, 1) := by decide +kernel
theorem dX3_airAt_75 : decode cX3_airAt 75 = .ok (.getfield 18, 3) := by decide +kernel
theorem dX3_airAt_78 : decode cX3_airAt 78 = .ok (.iload 5, 2) := by decide +kernel
theorem dX3_airAt_80 : decode cX3_airAt 80 = .ok (.iaload, 1) := by decide +kernel
theorem dX3_airAt_81 : decode cX3_airAt 81 = .ok (.isub, 1) := by decide +kernel
theorem dX3_airAt_82 : decode cX3_airAt 82 = .ok (.iconst 0, 1) := by decide +kernel
theorem dX3_airAt_83 : decode cX3_airAt 83 = .ok (.invokestatic 61, 3) := by decide +kernel
theorem dX3_airAt_86 : decode cX3_airAt 86 = .ok (.istore 4, 2) := by decide +kernel
theorem dX3_airAt_88 : decode cX3_airAt 88 = .ok (.iinc 5 (-1), 3) := by decide +kernel
theorem dX3_airAt_91 : decode cX3_airAt 91 = .ok (.goto (-78), 3) := by decide +kernel
theorem dX3_airAt_94 : decode cX3_airAt 94 = .ok (.iconst 0, 1) := by decide +kernel
theorem dX3_airAt_95 : decode cX3_airAt 95 = .ok (.istore 5, 2) := by decide +kernel
theorem dX3_airAt_97 : decode cX3_airAt 97 = .ok (.iconst 0, 1) := by decide +kernel
theorem dX3_airAt_98 : decode cX3_airAt 98 = .ok (.istore 6, 2) := by decide +kernel
theorem dX3_airAt_100 : decode cX3_airAt 100 = .ok (.iload 6, 2) := by decide +kernel
theorem dX3_airAt_102 : decode cX3_airAt 102 = .ok (.aload_n 0, 1) := by decide +kernel
theorem dX3_airAt_103 : decode cX3_airAt 103 = .ok (.getfield 21, 3) := by decide +kernel
theorem dX3_airAt_106 : decode cX3_airAt 106 = .ok (.if_icmp .ge 33, 3) := by decide +kernel
theorem dX3_airAt_109 : decode cX3_airAt 109 = .ok (.aload_n 0, 1) := by decide +kernel
theorem dX3_airAt_110 : decode cX3_airAt 110 = .ok (.iload 6, 2) := by decide +kernel
theorem dX3_airAt_112 : decode cX3_airAt 112 = .ok (.iload 5, 2) := by decide +kernel
theorem dX3_airAt_114 : decode cX3_airAt 114 = .ok (.aload_n 0, 1) := by decide +kernel
theorem dX3_airAt_115 : decode cX3_airAt 115 = .ok (.getfield 31, 3) := by decide +kernel
theorem dX3_airAt_118 : decode cX3_airAt 118 = .ok (.iload 6, 2) := by decide +kernel
theorem dX3_airAt_120 : decode cX3_airAt 120 = .ok (.iaload, 1) := by decide +kernel
theorem dX3_airAt_121 : decode cX3_airAt 121 = .ok (.aload_n 0, 1) := by decide +kernel
theorem dX3_airAt_122 : decode cX3_airAt 122 = .ok (.getfield 34, 3) := by decide +kernel
theorem dX3_airAt_125 : decode cX3_airAt 125 = .ok (.iload 6, 2) := by decide +kernel
theorem dX3_airAt_127 : decode cX3_airAt 127 = .ok (.iaload, 1) := by decide +kernel
theorem dX3_airAt_128 : decode cX3_airAt 128 = .ok (.invokevirtual 66, 3) := by decide +kernel
theorem dX3_airAt_131 : decode cX3_airAt 131 = .ok (.istore 5, 2) := by decide +kernel
theorem dX3_airAt_133 : decode cX3_airAt 133 = .ok (.iinc 6 1, 3) := by decide +kernel
theorem dX3_airAt_136 : decode cX3_airAt 136 = .ok (.goto (-36), 3) := by decide +kernel
theorem dX3_airAt_139 : decode cX3_airAt 139 = .ok (.iload 5, 2) := by decide +kernel
theorem dX3_airAt_141 : decode cX3_airAt 141 = .ok (.ireturn, 1) := by decide +kernel
theorem dX3_airOfFront_0 : decode cX3_airOfFront 0 = .ok (.aload_n 0, 1) := by decide +kernel
theorem dX3_airOfFront_1 : decode cX3_airOfFront 1 = .ok (.getfield 15, 3) := by decide +kernel
theorem dX3_airOfFront_4 : decode cX3_airOfFront 4 = .ok (.iload_n 1, 1) := by decide +kernel
theorem dX3_airOfFront_5 : decode cX3_airOfFront 5 = .ok (.iaload, 1) := by decide +kernel
theorem dX3_airOfFront_6 : decode cX3_airOfFront 6 = .ok (.istore 5, 2) := by decide +kernel
theorem dX3_airOfFront_8 : decode cX3_airOfFront 8 = .ok (.iload_n 3, 1) := by decide +kernel
theorem dX3_airOfFront_9 : decode cX3_airOfFront 9 = .ok (.bipush 6, 2) := by decide +kernel
theorem dX3_airOfFront_11 : decode cX3_airOfFront 11 = .ok (.irem, 1) := by decide +kernel
theorem dX3_airOfFront_12 : decode cX3_airOfFront 12 = .ok (.istore 6, 2) := by decide +kernel
theorem dX3_airOfFront_14 : decode cX3_airOfFront 14 = .ok (.iconst 0, 1) := by decide +kernel
theorem dX3_airOfFront_15 : decode cX3_airOfFront 15 = .ok (.istore 7, 2) := by decide +kernel
theorem dX3_airOfFront_17 : decode cX3_airOfFront 17 = .ok (.aload_n 0, 1) := by decide +kernel
theorem dX3_airOfFront_18 : decode cX3_airOfFront 18 = .ok (.getfield 9, 3) := by decide +kernel
theorem dX3_airOfFront_21 : decode cX3_airOfFront 21 = .ok (.iload_n 1, 1) := by decide +kernel
theorem dX3_airOfFront_22 : decode cX3_airOfFront 22 = .ok (.iaload, 1) := by decide +kernel
theorem dX3_airOfFront_23 : decode cX3_airOfFront 23 = .ok (.tableswitch 175 0 4 #[33, 69, 95, 129, 160], 33) := by decide +kernel
theorem dX3_airOfFront_56 : decode cX3_airOfFront 56 = .ok (.aload_n 0, 1) := by decide +kernel
theorem dX3_airOfFront_57 : decode cX3_airOfFront 57 = .ok (.getfield 18, 3) := by decide +kernel
theorem dX3_airOfFront_60 : decode cX3_airOfFront 60 = .ok (.iload_n 1, 1) := by decide +kernel
theorem dX3_airOfFront_61 : decode cX3_airOfFront 61 = .ok (.iaload, 1) := by decide +kernel
theorem dX3_airOfFront_62 : decode cX3_airOfFront 62 = .ok (.iconst 2, 1) := by decide +kernel
theorem dX3_airOfFront_63 : decode cX3_airOfFront 63 = .ok (.iadd, 1) := by decide +kernel
theorem dX3_airOfFront_64 : decode cX3_airOfFront 64 = .ok (.istore 8, 2) := by decide +kernel
theorem dX3_airOfFront_66 : decode cX3_airOfFront 66 = .ok (.iload 8, 2) := by decide +kernel
theorem dX3_airOfFront_68 : decode cX3_airOfFront 68 = .ok (.ifCond .le 18, 3) := by decide +kernel
theorem dX3_airOfFront_71 : decode cX3_airOfFront 71 = .ok (.iload 6, 2) := by decide +kernel
theorem dX3_airOfFront_73 : decode cX3_airOfFront 73 = .ok (.iload 4, 2) := by decide +kernel
theorem dX3_airOfFront_75 : decode cX3_airOfFront 75 = .ok (.iload 8, 2) := by decide +kernel
theorem dX3_airOfFront_77 : decode cX3_airOfFront 77 = .ok (.irem, 1) := by decide +kernel
theorem dX3_airOfFront_78 : decode cX3_airOfFront 78 = .ok (.if_icmp .gt 8, 3) := by decide +kernel
theorem dX3_airOfFront_81 : decode cX3_airOfFront 81 = .ok (.iload 5, 2) := by decide +kernel
theorem dX3_airOfFront_83 : decode cX3_airOfFront 83 = .ok (.goto 4, 3) := by decide +kernel
theorem dX3_airOfFront_86 : decode cX3_airOfFront 86 = .ok (.iconst 0, 1) := by decide +kernel
theorem dX3_airOfFront_87 : decode cX3_airOfFront 87 = .ok (.istore 7, 2) := by decide +kernel
theorem dX3_airOfFront_89 : decode cX3_airOfFront 89 = .ok (.goto 109, 3) := by decide +kernel
theorem dX3_airOfFront_92 : decode cX3_airOfFront 92 = .ok (.iload_n 3, 1) := by decide +kernel
theorem dX3_airOfFront_93 : decode cX3_airOfFront 93 = .ok (.bipush 6, 2) := by decide +kernel
theorem dX3_airOfFront_95 : decode cX3_airOfFront 95 = .ok (.idiv, 1) := by decide +kernel
theorem dX3_airOfFront_96 : decode cX3_airOfFront 96 = .ok (.aload_n 0, 1) := by decide +kernel
theorem dX3_airOfFront_97 : decode cX3_airOfFront 97 = .ok (.getfield 18, 3) := by decide +kernel
theorem dX3_airOfFront_100 : decode cX3_airOfFront 100 = .ok (.iload_n 1, 1) := by decide +kernel
theorem dX3_airOfFront_101 : decode cX3_airOfFront 101 = .ok (.iaload, 1) := by decide +kernel
theorem dX3_airOfFront_102 : decode cX3_airOfFront 102 = .ok (.iconst 4, 1) := by decide +kernel
theorem dX3_airOfFront_103 : decode cX3_airOfFront 103 = .ok (.irem, 1) := by decide +kernel
theorem dX3_airOfFront_104 : decode cX3_airOfFront 104 = .ok (.if_icmp .ne 8, 3) := by decide +kernel
theorem dX3_airOfFront_107 : decode cX3_airOfFront 107 = .ok (.iload 5, 2) := by decide +kernel
theorem dX3_airOfFront_109 : decode cX3_airOfFront 109 = .ok (.goto 4, 3) := by decide +kernel
theorem dX3_airOfFront_112 : decode cX3_airOfFront 112 = .ok (.iconst 0, 1) := by decide +kernel
theorem dX3_airOfFront_113 : decode cX3_airOfFront 113 = .ok (.istore 7, 2) := by decide +kernel
theorem dX3_airOfFront_115 : decode cX3_airOfFront 115 = .ok (.goto 83, 3) := by decide +kernel
theorem dX3_airOfFront_118 : decode cX3_airOfFront 118 = .ok (.aload_n 0, 1) := by decide +kernel
theorem dX3_airOfFront_119 : decode cX3_airOfFront 119 = .ok (.getfield 18, 3) := by decide +kernel
theorem dX3_airOfFront_122 : decode cX3_airOfFront 122 = .ok (.iload_n 1, 1) := by decide +kernel
theorem dX3_airOfFront_123 : decode cX3_airOfFront 123 = .ok (.iaload, 1) := by decide +kernel
theorem dX3_airOfFront_124 : decode cX3_airOfFront 124 = .ok (.iconst 1, 1) := by decide +kernel
theorem dX3_airOfFront_125 : decode cX3_airOfFront 125 = .ok (.iadd, 1) := by decide +kernel
theorem dX3_airOfFront_126 : decode cX3_airOfFront 126 = .ok (.istore 9, 2) := by decide +kernel
theorem dX3_airOfFront_128 : decode cX3_airOfFront 128 = .ok (.iload 9, 2) := by decide +kernel
theorem dX3_airOfFront_130 : decode cX3_airOfFront 130 = .ok (.ifCond .le 16, 3) := by decide +kernel
theorem dX3_airOfFront_133 : decode cX3_airOfFront 133 = .ok (.iload 4, 2) := by decide +kernel
theorem dX3_airOfFront_135 : decode cX3_airOfFront 135 = .ok (.iload 9, 2) := by decide +kernel
theorem dX3_airOfFront_137 : decode cX3_airOfFront 137 = .ok (.irem, 1) := by decide +kernel
theorem dX3_airOfFront_138 : decode cX3_airOfFront 138 = .ok (.ifCond .ne 8, 3) := by decide +kernel
theorem dX3_airOfFront_141 : decode cX3_airOfFront 141 = .ok (.iload 5, 2) := by decide +kernel
theorem dX3_airOfFront_143 : decode cX3_airOfFront 143 = .ok (.goto 4, 3) := by decide +kernel
theorem dX3_airOfFront_146 : decode cX3_airOfFront 146 = .ok (.iconst 0, 1) := by decide +kernel
theorem dX3_airOfFront_147 : decode cX3_airOfFront 147 = .ok (.istore 7, 2) := by decide +kernel
theorem dX3_airOfFront_149 : decode cX3_airOfFront 149 = .ok (.goto 49, 3) := by decide +kernel
theorem dX3_airOfFront_152 : decode cX3_airOfFront 152 = .ok (.iload 6, 2) := by decide +kernel
theorem dX3_airOfFront_154 : decode cX3_airOfFront 154 = .ok (.iload 4, 2) := by decide +kernel
theorem dX3_airOfFront_156 : decode cX3_airOfFront 156 = .ok (.bipush 6, 2) := by decide +kernel
theorem dX3_airOfFront_158 : decode cX3_airOfFront 158 = .ok (.irem, 1) := by decide +kernel
theorem dX3_airOfFront_159 : decode cX3_airOfFront 159 = .ok (.isub, 1) := by decide +kernel
theorem dX3_airOfFront_160 : decode cX3_airOfFront 160 = .ok (.istore 10, 2) := by decide +kernel
theorem dX3_airOfFront_162 : decode cX3_airOfFront 162 = .ok (.iload 5, 2) := by decide +kernel
theorem dX3_airOfFront_164 : decode cX3_airOfFront 164 = .ok (.iload 10, 2) := by decide +kernel
theorem dX3_airOfFront_166 : decode cX3_airOfFront 166 = .ok (.ifCond .ge 9, 3) := by decide +kernel
theorem dX3_airOfFront_169 : decode cX3_airOfFront 169 = .ok (.iload 10, 2) := by decide +kernel
theorem dX3_airOfFront_171 : decode cX3_airOfFront 171 = .ok (.ineg, 1) := by decide +kernel
theorem dX3_airOfFront_172 : decode cX3_airOfFront 172 = .ok (.goto 5, 3) := by decide +kernel
theorem dX3_airOfFront_175 : decode cX3_airOfFront 175 = .ok (.iload 10, 2) := by decide +kernel
theorem dX3_airOfFront_177 : decode cX3_airOfFront 177 = .ok (.isub, 1) := by decide +kernel
theorem dX3_airOfFront_178 : decode cX3_airOfFront 178 = .ok (.istore 7, 2) := by decide +kernel
theorem dX3_airOfFront_180 : decode cX3_airOfFront 180 = .ok (.goto 18, 3) := by decide +kernel
theorem dX3_airOfFront_183 : decode cX3_airOfFront 183 = .ok (.iload_n 2, 1) := by decide +kernel
theorem dX3_airOfFront_184 : decode cX3_airOfFront 184 = .ok (.iload 5, 2) := by decide +kernel
theorem dX3_airOfFront_186 : decode cX3_airOfFront 186 = .ok (.if_icmp .le 10, 3) := by decide +kernel
theorem dX3_airOfFront_189 : decode cX3_airOfFront 189 = .ok (.iload_n 2, 1) := by decide +kernel
theorem dX3_airOfFront_190 : decode cX3_airOfFront 190 = .ok (.iload 5, 2) := by decide +kernel
theorem dX3_airOfFront_192 : decode cX3_airOfFront 192 = .ok (.isub, 1) := by decide +kernel
theorem dX3_airOfFront_193 : decode cX3_airOfFront 193 = .ok (.goto 4, 3) := by decide +kernel
theorem dX3_airOfFront_196 : decode cX3_airOfFront 196 = .ok (.iconst 0, 1) := by decide +kernel
theorem dX3_airOfFront_197 : decode cX3_airOfFront 197 = .ok (.ireturn, 1) := by decide +kernel
theorem dX3_airOfFront_198 : decode cX3_airOfFront 198 = .ok (.iload 7, 2) := by decide +kernel
theorem dX3_airOfFront_200 : decode cX3_airOfFront 200 = .ok (.iload_n 2, 1) := by decide +kernel
theorem dX3_airOfFront_201 : decode cX3_airOfFront 201 = .ok (.if_icmp .le 8, 3) := by decide +kernel
theorem dX3_airOfFront_204 : decode cX3_airOfFront 204 = .ok (.iload 7, 2) := by decide +kernel
theorem dX3_airOfFront_206 : decode cX3_airOfFront 206 = .ok (.goto 4, 3) := by decide +kernel
theorem dX3_airOfFront_209 : decode cX3_airOfFront 209 = .ok (.iload_n 2, 1) := by decide +kernel
theorem dX3_airOfFront_210 : decode cX3_airOfFront 210 = .ok (.ireturn, 1) := by decide +kernel
theorem dX4_init_0 : decode cX4_init 0 = .ok (.aload_n 0, 1) := by decide +kernel
theorem dX4_init_1 : decode cX4_init 1 = .ok (.invokespecial 3, 3) := by decide +kernel
theorem dX4_init_4 : decode cX4_init 4 = .ok (.aload_n 0, 1) := by decide +kernel
theorem dX4_init_5 : decode cX4_init 5 = .ok (.bipush 6, 2) := by decide +kernel
theorem dX4_init_7 : decode cX4_init 7 = .ok (.newarray .int, 2) := by decide +kernel
theorem dX4_init_9 : decode cX4_init 9 = .ok (.putfield 9, 3) := by decide +kernel
theorem dX4_init_12 : decode cX4_init 12 = .ok (.aload_n 0, 1) := by decide +kernel
theorem dX4_init_13 : decode cX4_init 13 = .ok (.bipush 6, 2) := by decide +kernel
theorem dX4_init_15 : decode cX4_init 15 = .ok (.newarray .int, 2) := by decide +kernel
theorem dX4_init_17 : decode cX4_init 17 = .ok (.putfield 15, 3) := by decide +kernel
theorem dX4_init_20 : decode cX4_init 20 = .ok (.aload_n 0, 1) := by decide +kernel
theorem dX4_init_21 : decode cX4_init 21 = .ok (.bipush 6, 2) := by decide +kernel
theorem dX4_init_23 : decode cX4_init 23 = .ok (.newarray .int, 2) := by decide +kernel
theorem dX4_init_25 : decode cX4_init 25 = .ok (.putfield 18, 3) := by decide +kernel
theorem dX4_init_28 : decode cX4_init 28 = .ok (.aload_n 0, 1) := by decide +kernel
theorem dX4_init_29 : decode cX4_init 29 = .ok (.iconst 0, 1) := by decide +kernel
theorem dX4_init_30 : decode cX4_init 30 = .ok (.putfield 21, 3) := by decide +kernel
theorem dX4_init_33 : decode cX4_init 33 = .ok (.aload_n 0, 1) := by decide +kernel
theorem dX4_init_34 : decode cX4_init 34 = .ok (.bipush 8, 2) := by decide +kernel
theorem dX4_init_36 : decode cX4_init 36 = .ok (.newarray .int, 2) := by decide +kernel
theorem dX4_init_38 : decode cX4_init 38 = .ok (.putfield 25, 3) := by decide +kernel
theorem dX4_init_41 : decode cX4_init 41 = .ok (.aload_n 0, 1) := by decide +kernel
theorem dX4_init_42 : decode cX4_init 42 = .ok (.bipush 8, 2) := by decide +kernel
theorem dX4_init_44 : decode cX4_init 44 = .ok (.newarray .int, 2) := by decide +kernel
theorem dX4_init_46 : decode cX4_init 46 = .ok (.putfield 28, 3) := by decide +kernel
theorem dX4_init_49 : decode cX4_init 49 = .ok (.aload_n 0, 1) := by decide +kernel
theorem dX4_init_50 : decode cX4_init 50 = .ok (.bipush 8, 2) := by decide +kernel
theorem dX4_init_52 : decode cX4_init 52 = .ok (.newarray .int, 2) := by decide +kernel
theorem dX4_init_54 : decode cX4_init 54 = .ok (.putfield 31, 3) := by decide +kernel
theorem dX4_init_57 : decode cX4_init 57 = .ok (.aload_n 0, 1) := by decide +kernel
theorem dX4_init_58 : decode cX4_init 58 = .ok (.iconst 0, 1) := by decide +kernel
theorem dX4_init_59 : decode cX4_init 59 = .ok (.putfield 34, 3) := by decide +kernel
theorem dX4_init_62 : decode cX4_init 62 = .ok (.aload_n 0, 1) := by decide +kernel
theorem dX4_init_63 : decode cX4_init 63 = .ok (.iconst 5, 1) := by decide +kernel
theorem dX4_init_64 : decode cX4_init 64 = .ok (.newarray .int, 2) := by decide +kernel
theorem dX4_init_66 : decode cX4_init 66 = .ok (.putfield 37, 3) := by decide +kernel
theorem dX4_init_69 : decode cX4_init 69 = .ok (.aload_n 0, 1) := by decide +kernel
theorem dX4_init_70 : decode cX4_init 70 = .ok (.iconst 5, 1) := by decide +kernel
theorem dX4_init_71 : decode cX4_init 71 = .ok (.newarray .int, 2) := by decide +kernel
theorem dX4_init_73 : decode cX4_init 73 = .ok (.putfield 40, 3) := by decide +kernel
theorem dX4_init_76 : decode cX4_init 76 = .ok (.aload_n 0, 1) := by decide +kernel
theorem dX4_init_77 : decode cX4_init 77 = .ok (.iconst 5, 1) := by decide +kernel
theorem dX4_init_78 : decode cX4_init 78 = .ok (.newarray .int, 2) := by decide +kernel
theorem dX4_init_80 : decode cX4_init 80 = .ok (.putfield 43, 3) := by decide +kernel
theorem dX4_init_83 : decode cX4_init 83 = .ok (.aload_n 0, 1) := by decide +kernel
theorem dX4_init_84 : decode cX4_init 84 = .ok (.iconst 5, 1) := by decide +kernel
theorem dX4_init_85 : decode cX4_init 85 = .ok (.newarray .int, 2) := by decide +kernel
theorem dX4_init_87 : decode cX4_init 87 = .ok (.putfield 46, 3) := by decide +kernel
theorem dX4_init_90 : decode cX4_init 90 = .ok (.aload_n 0, 1) := by decide +kernel
theorem dX4_init_91 : decode cX4_init 91 = .ok (.iconst 0, 1) := by decide +kernel
theorem dX4_init_92 : decode cX4_init 92 = .ok (.putfield 49, 3) := by decide +kernel
theorem dX4_init_95 : decode cX4_init 95 = .ok (.aload_n 0, 1) := by decide +kernel
theorem dX4_init_96 : decode cX4_init 96 = .ok (.iconst 0, 1) := by decide +kernel
theorem dX4_init_97 : decode cX4_init 97 = .ok (.putfield 52, 3) := by decide +kernel
theorem dX4_init_100 : decode cX4_init 100 = .ok (.aload_n 0, 1) := by decide +kernel
theorem dX4_init_101 : decode cX4_init 101 = .ok (.iconst 3, 1) := by decide +kernel
theorem dX4_init_102 : decode cX4_init 102 = .ok (.putfield 55, 3) := by decide +kernel
theorem dX4_init_105 : decode cX4_init 105 = .ok (.return_, 1) := by decide +kernel
theorem dX4_become_0 : decode cX4_become 0 = .ok (.aload_n 1, 1) := by decide +kernel
theorem dX4_become_1 : decode cX4_become 1 = .ok (.getfield 9, 3) := by decide +kernel
theorem dX4_become_4 : decode cX4_become 4 = .ok (.iconst 0, 1) := by decide +kernel
theorem dX4_become_5 : decode cX4_become 5 = .ok (.aload_n 0, 1) := by decide +kernel
theorem dX4_become_6 : decode cX4_become 6 = .ok (.getfield 9, 3) := by decide +kernel
theorem dX4_become_9 : decode cX4_become 9 = .ok (.iconst 0, 1) := by decide +kernel
theorem dX4_become_10 : decode cX4_become 10 = .ok (.bipush 6, 2) := by decide +kernel
theorem dX4_become_12 : decode cX4_become 12 = .ok (.invokestatic 58, 3) := by decide +kernel
theorem dX4_become_15 : decode cX4_become 15 = .ok (.aload_n 1, 1) := by decide +kernel
theorem dX4_become_16 : decode cX4_become 16 = .ok (.getfield 15, 3) := by decide +kernel
theorem dX4_become_19 : decode cX4_become 19 = .ok (.iconst 0, 1) := by decide +kernel
theorem dX4_become_20 : decode cX4_become 20 = .ok (.aload_n 0, 1) := by decide +kernel
theorem dX4_become_21 : decode cX4_become 21 = .ok (.getfield 15, 3) := by decide +kernel
theorem dX4_become_24 : decode cX4_become 24 = .ok (.iconst 0, 1) := by decide +kernel
theorem dX4_become_25 : decode cX4_become 25 = .ok (.bipush 6, 2) := by decide +kernel
theorem dX4_become_27 : decode cX4_become 27 = .ok (.invokestatic 58, 3) := by decide +kernel
theorem dX4_become_30 : decode cX4_become 30 = .ok (.aload_n 1, 1) := by decide +kernel
theorem dX4_become_31 : decode cX4_become 31 = .ok (.getfield 18, 3) := by decide +kernel
theorem dX4_become_34 : decode cX4_become 34 = .ok (.iconst 0, 1) := by decide +kernel
theorem dX4_become_35 : decode cX4_become 35 = .ok (.aload_n 0, 1) := by decide +kernel
theorem dX4_become_36 : decode cX4_become 36 = .ok (.getfield 18, 3) := by decide +kernel
theorem dX4_become_39 : decode cX4_become 39 = .ok (.iconst 0, 1) := by decide +kernel
theorem dX4_become_40 : decode cX4_become 40 = .ok (.bipush 6, 2) := by decide +kernel
theorem dX4_become_42 : decode cX4_become 42 = .ok (.invokestatic 58, 3) := by decide +kernel
theorem dX4_become_45 : decode cX4_become 45 = .ok (.aload_n 0, 1) := by decide +kernel
theorem dX4_become_46 : decode cX4_become 46 = .ok (.aload_n 1, 1) := by decide +kernel
theorem dX4_become_47 : decode cX4_become 47 = .ok (.getfield 21, 3) := by decide +kernel
theorem dX4_become_50 : decode cX4_become 50 = .ok (.putfield 21, 3) := by decide +kernel
theorem dX4_become_53 : decode cX4_become 53 = .ok (.aload_n 1, 1) := by decide +kernel
theorem dX4_become_54 : decode cX4_become 54 = .ok (.getfield 25, 3) := by decide +kernel
theorem dX4_become_57 : decode cX4_become 57 = .ok (.iconst 0, 1) := by decide +kernel
theorem dX4_become_58 : decode cX4_become 58 = .ok (.aload_n 0, 1) := by decide +kernel
theorem dX4_become_59 : decode cX4_become 59 = .ok (.getfield 25, 3) := by decide +kernel
theorem dX4_become_62 : decode cX4_become 62 = .ok (.iconst 0, 1) := by decide +kernel
theorem dX4_become_63 : decode cX4_become 63 = .ok (.bipush 8, 2) := by decide +kernel
theorem dX4_become_65 : decode cX4_become 65 = .ok (.invokestatic 58, 3) := by decide +kernel
theorem dX4_become_68 : decode cX4_become 68 = .ok (.aload_n 1, 1) := by decide +kernel
theorem dX4_become_69 : decode cX4_become 69 = .ok (.getfield 28, 3) := by decide +kernel
theorem dX4_become_72 : decode cX4_become 72 = .ok (.iconst 0, 1) := by decide +kernel
theorem dX4_become_73 : decode cX4_become 73 = .ok (.aload_n 0, 1) := by decide +kernel
theorem dX4_become_74 : decode cX4_become 74 = .ok (.getfield 28, 3) := by decide +kernel
theorem dX4_become_77 : decode cX4_become 77 = .ok (.iconst 0, 1) := by decide +kernel
theorem dX4_become_78 : decode cX4_become 78 = .ok (.bipush 8, 2) := by decide +kernel
theorem dX4_become_80 : decode cX4_become 80 = .ok (.invokestatic 58, 3) := by decide +kernel
theorem dX4_become_83 : decode cX4_become 83 = .ok (.aload_n 1, 1) := by decide +kernel
theorem dX4_become_84 : decode cX4_become 84 = .ok (.getfield 31, 3) := by decide +kernel
theorem dX4_become_87 : decode cX4_become 87 = .ok (.iconst 0, 1) := by decide +kernel
theorem dX4_become_88 : decode cX4_become 88 = .ok (.aload_n 0, 1) := by decide +kernel
theorem dX4_become_89 : decode cX4_become 89 = .ok (.getfield 31, 3) := by decide +kernel
theorem dX4_become_92 : decode cX4_become 92 = .ok (.iconst 0, 1) := by decide +kernel
theorem dX4_become_93 : decode cX4_become 93 = .ok (.bipush 8, 2) := by decide +kernel
theorem dX4_become_95 : decode cX4_become 95 = .ok (.invokestatic 58, 3) := by decide +kernel
theorem dX4_become_98 : decode cX4_become 98 = .ok (.aload_n 0, 1) := by decide +kernel
theorem dX4_become_99 : decode cX4_become 99 = .ok (.aload_n 1, 1) := by decide +kernel
theorem dX4_become_100 : decode cX4_become 100 = .ok (.getfield 34, 3) := by decide +kernel
theorem dX4_become_103 : decode cX4_become 103 = .ok (.putfield 34, 3) := by decide +kernel
theorem dX4_become_106 : decode cX4_become 106 = .ok (.aload_n 1, 1) := by decide +kernel
theorem dX4_become_107 : decode cX4_become 107 = .ok (.getfield 37, 3) := by decide +kernel
theorem dX4_become_110 : decode cX4_become 110 = .ok (.iconst 0, 1) := by decide +kernel
theorem dX4_become_111 : decode cX4_become 111 = .ok (.aload_n 0, 1) := by decide +kernel
end
section
theorem dX4_become_112 : decode cX4_become 112 = .ok (.getfield 37, 3) := by decide +kernel
theorem dX4_become_115 : decode cX4_become 115 = .ok (.iconst 0, 1) := by decide +kernel
theorem dX4_become_116 : decode cX4_become 116 = .ok (.iconst 5, 1) := by decide +kernel
theorem dX4_become_117 : decode cX4_become 117 = .ok (.invokestatic 58, 3) := by decide +kernel
theorem dX4_become_120 : decode cX4_become 120 = .ok (.aload_n 1, 1) := by decide +kernel
theorem dX4_become_121 : decode cX4_become 121 = .ok (.getfield 40, 3) := by decide +kernel
theorem dX4_become_124 : decode cX4_become 124 = .ok (.iconst 0, 1) := by decide +kernel
theorem dX4_become_125 : decode cX4_become 125 = .ok (.aload_n 0, 1) := by decide +kernel
theorem dX4_become_126 : decode cX4_become 126 = .ok (.getfield 40, 3) := by decide +kernel
theorem dX4_become_129 : decode cX4_become 129 = .ok (.iconst 0, 1) := by decide +kernel
theorem dX4_become_130 : decode cX4_become 130 = .ok (.iconst 5, 1) := by decide +kernel
theorem dX4_become_131 : decode cX4_become 131 = .ok (.invokestatic 58, 3) := by decide +kernel
theorem dX4_become_134 : decode cX4_become 134 = .ok (.aload_n 1, 1) := by decide +kernel
theorem dX4_become_135 : decode cX4_become 135 = .ok (.getfield 43, 3) := by decide +kernel
theorem dX4_become_138 : decode cX4_become 138 = .ok (.iconst 0, 1) := by decide +kernel
theorem dX4_become_139 : decode cX4_become 139 = .ok (.aload_n 0, 1) := by decide +kernel
theorem dX4_become_140 : decode cX4_become 140 = .ok (.getfield 43, 3) := by decide +kernel
theorem dX4_become_143 : decode cX4_become 143 = .ok (.iconst 0, 1) := by decide +kernel
theorem dX4_become_144 : decode cX4_become 144 = .ok (.iconst 5, 1) := by decide +kernel
theorem dX4_become_145 : decode cX4_become 145 = .ok (.invokestatic 58, 3) := by decide +kernel
theorem dX4_become_148 : decode cX4_become 148 = .ok (.aload_n 1, 1) := by decide +kernel
theorem dX4_become_149 : decode cX4_become 149 = .ok (.getfield 46, 3) := by decide +kernel
theorem dX4_become_152 : decode cX4_become 152 = .ok (.iconst 0, 1) := by decide +kernel
theorem dX4_become_153 : decode cX4_become 153 = .ok (.aload_n 0, 1) := by decide +kernel
theorem dX4_become_154 : decode cX4_become 154 = .ok (.getfield 46, 3) := by decide +kernel
theorem dX4_become_157 : decode cX4_become 157 = .ok (.iconst 0, 1) := by decide +kernel
theorem dX4_become_158 : decode cX4_become 158 = .ok (.iconst 5, 1) := by decide +kernel
theorem dX4_become_159 : decode cX4_become 159 = .ok (.invokestatic 58, 3) := by decide +kernel
theorem dX4_become_162 : decode cX4_become 162 = .ok (.aload_n 0, 1) := by decide +kernel
theorem dX4_become_163 : decode cX4_become 163 = .ok (.aload_n 1, 1) := by decide +kernel
theorem dX4_become_164 : decode cX4_become 164 = .ok (.getfield 49, 3) := by decide +kernel
theorem dX4_become_167 : decode cX4_become 167 = .ok (.putfield 49, 3) := by decide +kernel
theorem dX4_become_170 : decode cX4_become 170 = .ok (.aload_n 0, 1) := by decide +kernel
theorem dX4_become_171 : decode cX4_become 171 = .ok (.aload_n 1, 1) := by decide +kernel
theorem dX4_become_172 : decode cX4_become 172 = .ok (.getfield 52, 3) := by decide +kernel
theorem dX4_become_175 : decode cX4_become 175 = .ok (.putfield 52, 3) := by decide +kernel
theorem dX4_become_178 : decode cX4_become 178 = .ok (.aload_n 0, 1) := by decide +kernel
theorem dX4_become_179 : decode cX4_become 179 = .ok (.aload_n 1, 1) := by decide +kernel
theorem dX4_become_180 : decode cX4_become 180 = .ok (.getfield 55, 3) := by decide +kernel
theorem dX4_become_183 : decode cX4_become 183 = .ok (.putfield 55, 3) := by decide +kernel
theorem dX4_become_186 : decode cX4_become 186 = .ok (.return_, 1) := by decide +kernel
theorem dX4_hasThing_0 : decode cX4_hasThing 0 = .ok (.iload_n 1, 1) := by decide +kernel
theorem dX4_hasThing_1 : decode cX4_hasThing 1 = .ok (.ifCond .lt 15, 3) := by decide +kernel
theorem dX4_hasThing_4 : decode cX4_hasThing 4 = .ok (.iload_n 1, 1) := by decide +kernel
theorem dX4_hasThing_5 : decode cX4_hasThing 5 = .ok (.aload_n 0, 1) := by decide +kernel
theorem dX4_hasThing_6 : decode cX4_hasThing 6 = .ok (.getfield 34, 3) := by decide +kernel
theorem dX4_hasThing_9 : decode cX4_hasThing 9 = .ok (.if_icmp .ge 7, 3) := by decide +kernel
theorem dX4_hasThing_12 : decode cX4_hasThing 12 = .ok (.iconst 1, 1) := by decide +kernel
theorem dX4_hasThing_13 : decode cX4_hasThing 13 = .ok (.goto 4, 3) := by decide +kernel
theorem dX4_hasThing_16 : decode cX4_hasThing 16 = .ok (.iconst 0, 1) := by decide +kernel
theorem dX4_hasThing_17 : decode cX4_hasThing 17 = .ok (.ireturn, 1) := by decide +kernel
theorem dX4_hasPerson_0 : decode cX4_hasPerson 0 = .ok (.iload_n 1, 1) := by decide +kernel
theorem dX4_hasPerson_1 : decode cX4_hasPerson 1 = .ok (.ifCond .lt 15, 3) := by decide +kernel
theorem dX4_hasPerson_4 : decode cX4_hasPerson 4 = .ok (.iload_n 1, 1) := by decide +kernel
theorem dX4_hasPerson_5 : decode cX4_hasPerson 5 = .ok (.aload_n 0, 1) := by decide +kernel
theorem dX4_hasPerson_6 : decode cX4_hasPerson 6 = .ok (.getfield 49, 3) := by decide +kernel
theorem dX4_hasPerson_9 : decode cX4_hasPerson 9 = .ok (.if_icmp .ge 7, 3) := by decide +kernel
theorem dX4_hasPerson_12 : decode cX4_hasPerson 12 = .ok (.iconst 1, 1) := by decide +kernel
theorem dX4_hasPerson_13 : decode cX4_hasPerson 13 = .ok (.goto 4, 3) := by decide +kernel
theorem dX4_hasPerson_16 : decode cX4_hasPerson 16 = .ok (.iconst 0, 1) := by decide +kernel
theorem dX4_hasPerson_17 : decode cX4_hasPerson 17 = .ok (.ireturn, 1) := by decide +kernel
theorem dX4_addFront_0 : decode cX4_addFront 0 = .ok (.iload_n 2, 1) := by decide +kernel
theorem dX4_addFront_1 : decode cX4_addFront 1 = .ok (.bipush 9, 2) := by decide +kernel
theorem dX4_addFront_3 : decode cX4_addFront 3 = .ok (.if_icmp .gt 18, 3) := by decide +kernel
theorem dX4_addFront_6 : decode cX4_addFront 6 = .ok (.iload_n 3, 1) := by decide +kernel
theorem dX4_addFront_7 : decode cX4_addFront 7 = .ok (.bipush 9, 2) := by decide +kernel
theorem dX4_addFront_9 : decode cX4_addFront 9 = .ok (.if_icmp .gt 12, 3) := by decide +kernel
theorem dX4_addFront_12 : decode cX4_addFront 12 = .ok (.aload_n 0, 1) := by decide +kernel
theorem dX4_addFront_13 : decode cX4_addFront 13 = .ok (.getfield 21, 3) := by decide +kernel
theorem dX4_addFront_16 : decode cX4_addFront 16 = .ok (.bipush 6, 2) := by decide +kernel
theorem dX4_addFront_18 : decode cX4_addFront 18 = .ok (.if_icmp .lt 5, 3) := by decide +kernel
theorem dX4_addFront_21 : decode cX4_addFront 21 = .ok (.iconst 0, 1) := by decide +kernel
theorem dX4_addFront_22 : decode cX4_addFront 22 = .ok (.ireturn, 1) := by decide +kernel
theorem dX4_addFront_23 : decode cX4_addFront 23 = .ok (.aload_n 0, 1) := by decide +kernel
theorem dX4_addFront_24 : decode cX4_addFront 24 = .ok (.getfield 9, 3) := by decide +kernel
theorem dX4_addFront_27 : decode cX4_addFront 27 = .ok (.aload_n 0, 1) := by decide +kernel
theorem dX4_addFront_28 : decode cX4_addFront 28 = .ok (.getfield 21, 3) := by decide +kernel
theorem dX4_addFront_31 : decode cX4_addFront 31 = .ok (.iload_n 1, 1) := by decide +kernel
theorem dX4_addFront_32 : decode cX4_addFront 32 = .ok (.iastore, 1) := by decide +kernel
theorem dX4_addFront_33 : decode cX4_addFront 33 = .ok (.aload_n 0, 1) := by decide +kernel
theorem dX4_addFront_34 : decode cX4_addFront 34 = .ok (.getfield 15, 3) := by decide +kernel
theorem dX4_addFront_37 : decode cX4_addFront 37 = .ok (.aload_n 0, 1) := by decide +kernel
theorem dX4_addFront_38 : decode cX4_addFront 38 = .ok (.getfield 21, 3) := by decide +kernel
theorem dX4_addFront_41 : decode cX4_addFront 41 = .ok (.iload_n 2, 1) := by decide +kernel
theorem dX4_addFront_42 : decode cX4_addFront 42 = .ok (.iastore, 1) := by decide +kernel
theorem dX4_addFront_43 : decode cX4_addFront 43 = .ok (.aload_n 0, 1) := by decide +kernel
theorem dX4_addFront_44 : decode cX4_addFront 44 = .ok (.getfield 18, 3) := by decide +kernel
theorem dX4_addFront_47 : decode cX4_addFront 47 = .ok (.aload_n 0, 1) := by decide +kernel
theorem dX4_addFront_48 : decode cX4_addFront 48 = .ok (.getfield 21, 3) := by decide +kernel
theorem dX4_addFront_51 : decode cX4_addFront 51 = .ok (.iload_n 3, 1) := by decide +kernel
theorem dX4_addFront_52 : decode cX4_addFront 52 = .ok (.iastore, 1) := by decide +kernel
theorem dX4_addFront_53 : decode cX4_addFront 53 = .ok (.aload_n 0, 1) := by decide +kernel
theorem dX4_addFront_54 : decode cX4_addFront 54 = .ok (.dup, 1) := by decide +kernel
theorem dX4_addFront_55 : decode cX4_addFront 55 = .ok (.getfield 21, 3) := by decide +kernel
theorem dX4_addFront_58 : decode cX4_addFront 58 = .ok (.iconst 1, 1) := by decide +kernel
theorem dX4_addFront_59 : decode cX4_addFront 59 = .ok (.iadd, 1) := by decide +kernel
theorem dX4_addFront_60 : decode cX4_addFront 60 = .ok (.putfield 21, 3) := by decide +kernel
theorem dX4_addFront_63 : decode cX4_addFront 63 = .ok (.iconst 1, 1) := by decide +kernel
theorem dX4_addFront_64 : decode cX4_addFront 64 = .ok (.ireturn, 1) := by decide +kernel
theorem dX4_addPerson_0 : decode cX4_addPerson 0 = .ok (.iload_n 3, 1) := by decide +kernel
theorem dX4_addPerson_1 : decode cX4_addPerson 1 = .ok (.invokestatic 64, 3) := by decide +kernel
theorem dX4_addPerson_4 : decode cX4_addPerson 4 = .ok (.ifCond .eq 11, 3) := by decide +kernel
theorem dX4_addPerson_7 : decode cX4_addPerson 7 = .ok (.aload_n 0, 1) := by decide +kernel
theorem dX4_addPerson_8 : decode cX4_addPerson 8 = .ok (.getfield 49, 3) := by decide +kernel
theorem dX4_addPerson_11 : decode cX4_addPerson 11 = .ok (.iconst 5, 1) := by decide +kernel
theorem dX4_addPerson_12 : decode cX4_addPerson 12 = .ok (.if_icmp .lt 5, 3) := by decide +kernel
theorem dX4_addPerson_15 : decode cX4_addPerson 15 = .ok (.iconst 0, 1) := by decide +kernel
theorem dX4_addPerson_16 : decode cX4_addPerson 16 = .ok (.ireturn, 1) := by decide +kernel
theorem dX4_addPerson_17 : decode cX4_addPerson 17 = .ok (.aload_n 0, 1) := by decide +kernel
theorem dX4_addPerson_18 : decode cX4_addPerson 18 = .ok (.getfield 37, 3) := by decide +kernel
theorem dX4_addPerson_21 : decode cX4_addPerson 21 = .ok (.aload_n 0, 1) := by decide +kernel
theorem dX4_addPerson_22 : decode cX4_addPerson 22 = .ok (.getfield 49, 3) := by decide +kernel
theorem dX4_addPerson_25 : decode cX4_addPerson 25 = .ok (.iload_n 1, 1) := by decide +kernel
theorem dX4_addPerson_26 : decode cX4_addPerson 26 = .ok (.iastore, 1) := by decide +kernel
theorem dX4_addPerson_27 : decode cX4_addPerson 27 = .ok (.aload_n 0, 1) := by decide +kernel
theorem dX4_addPerson_28 : decode cX4_addPerson 28 = .ok (.getfield 40, 3) := by decide +kernel
theorem dX4_addPerson_31 : decode cX4_addPerson 31 = .ok (.aload_n 0, 1) := by decide +kernel
theorem dX4_addPerson_32 : decode cX4_addPerson 32 = .ok (.getfield 49, 3) := by decide +kernel
theorem dX4_addPerson_35 : decode cX4_addPerson 35 = .ok (.iload_n 2, 1) := by decide +kernel
theorem dX4_addPerson_36 : decode cX4_addPerson 36 = .ok (.iastore, 1) := by decide +kernel
theorem dX4_addPerson_37 : decode cX4_addPerson 37 = .ok (.aload_n 0, 1) := by decide +kernel
theorem dX4_addPerson_38 : decode cX4_addPerson 38 = .ok (.getfield 43, 3) := by decide +kernel
theorem dX4_addPerson_41 : decode cX4_addPerson 41 = .ok (.aload_n 0, 1) := by decide +kernel
theorem dX4_addPerson_42 : decode cX4_addPerson 42 = .ok (.getfield 49, 3) := by decide +kernel
theorem dX4_addPerson_45 : decode cX4_addPerson 45 = .ok (.iload_n 3, 1) := by decide +kernel
theorem dX4_addPerson_46 : decode cX4_addPerson 46 = .ok (.iastore, 1) := by decide +kernel
theorem dX4_addPerson_47 : decode cX4_addPerson 47 = .ok (.aload_n 0, 1) := by decide +kernel
theorem dX4_addPerson_48 : decode cX4_addPerson 48 = .ok (.getfield 46, 3) := by decide +kernel
theorem dX4_addPerson_51 : decode cX4_addPerson 51 = .ok (.aload_n 0, 1) := by decide +kernel
theorem dX4_addPerson_52 : decode cX4_addPerson 52 = .ok (.getfield 49, 3) := by decide +kernel
theorem dX4_addPerson_55 : decode cX4_addPerson 55 = .ok (.iload_n 3, 1) := by decide +kernel
theorem dX4_addPerson_56 : decode cX4_addPerson 56 = .ok (.iastore, 1) := by decide +kernel
theorem dX4_addPerson_57 : decode cX4_addPerson 57 = .ok (.aload_n 0, 1) := by decide +kernel
theorem dX4_addPerson_58 : decode cX4_addPerson 58 = .ok (.dup, 1) := by decide +kernel
theorem dX4_addPerson_59 : decode cX4_addPerson 59 = .ok (.getfield 49, 3) := by decide +kernel
theorem dX4_addPerson_62 : decode cX4_addPerson 62 = .ok (.iconst 1, 1) := by decide +kernel
theorem dX4_addPerson_63 : decode cX4_addPerson 63 = .ok (.iadd, 1) := by decide +kernel
theorem dX4_addPerson_64 : decode cX4_addPerson 64 = .ok (.putfield 49, 3) := by decide +kernel
theorem dX4_addPerson_67 : decode cX4_addPerson 67 = .ok (.iconst 1, 1) := by decide +kernel
theorem dX4_addPerson_68 : decode cX4_addPerson 68 = .ok (.ireturn, 1) := by decide +kernel
theorem dX4_addThing_0 : decode cX4_addThing 0 = .ok (.iload_n 2, 1) := by decide +kernel
theorem dX4_addThing_1 : decode cX4_addThing 1 = .ok (.invokestatic 64, 3) := by decide +kernel
theorem dX4_addThing_4 : decode cX4_addThing 4 = .ok (.ifCond .eq 12, 3) := by decide +kernel
theorem dX4_addThing_7 : decode cX4_addThing 7 = .ok (.aload_n 0, 1) := by decide +kernel
theorem dX4_addThing_8 : decode cX4_addThing 8 = .ok (.getfield 34, 3) := by decide +kernel
theorem dX4_addThing_11 : decode cX4_addThing 11 = .ok (.bipush 8, 2) := by decide +kernel
theorem dX4_addThing_13 : decode cX4_addThing 13 = .ok (.if_icmp .lt 5, 3) := by decide +kernel
theorem dX4_addThing_16 : decode cX4_addThing 16 = .ok (.iconst 0, 1) := by decide +kernel
theorem dX4_addThing_17 : decode cX4_addThing 17 = .ok (.ireturn, 1) := by decide +kernel
theorem dX4_addThing_18 : decode cX4_addThing 18 = .ok (.aload_n 0, 1) := by decide +kernel
theorem dX4_addThing_19 : decode cX4_addThing 19 = .ok (.getfield 25, 3) := by decide +kernel
theorem dX4_addThing_22 : decode cX4_addThing 22 = .ok (.aload_n 0, 1) := by decide +kernel
theorem dX4_addThing_23 : decode cX4_addThing 23 = .ok (.getfield 34, 3) := by decide +kernel
theorem dX4_addThing_26 : decode cX4_addThing 26 = .ok (.iload_n 1, 1) := by decide +kernel
theorem dX4_addThing_27 : decode cX4_addThing 27 = .ok (.iastore, 1) := by decide +kernel
theorem dX4_addThing_28 : decode cX4_addThing 28 = .ok (.aload_n 0, 1) := by decide +kernel
theorem dX4_addThing_29 : decode cX4_addThing 29 = .ok (.getfield 28, 3) := by decide +kernel
theorem dX4_addThing_32 : decode cX4_addThing 32 = .ok (.aload_n 0, 1) := by decide +kernel
theorem dX4_addThing_33 : decode cX4_addThing 33 = .ok (.getfield 34, 3) := by decide +kernel
theorem dX4_addThing_36 : decode cX4_addThing 36 = .ok (.iload_n 2, 1) := by decide +kernel
theorem dX4_addThing_37 : decode cX4_addThing 37 = .ok (.iastore, 1) := by decide +kernel
theorem dX4_addThing_38 : decode cX4_addThing 38 = .ok (.aload_n 0, 1) := by decide +kernel
theorem dX4_addThing_39 : decode cX4_addThing 39 = .ok (.getfield 31, 3) := by decide +kernel
theorem dX4_addThing_42 : decode cX4_addThing 42 = .ok (.aload_n 0, 1) := by decide +kernel
theorem dX4_addThing_43 : decode cX4_addThing 43 = .ok (.getfield 34, 3) := by decide +kernel
theorem dX4_addThing_46 : decode cX4_addThing 46 = .ok (.iconst (-1), 1) := by decide +kernel
theorem dX4_addThing_47 : decode cX4_addThing 47 = .ok (.iastore, 1) := by decide +kernel
theorem dX4_addThing_48 : decode cX4_addThing 48 = .ok (.aload_n 0, 1) := by decide +kernel
theorem dX4_addThing_49 : decode cX4_addThing 49 = .ok (.dup, 1) := by decide +kernel
theorem dX4_addThing_50 : decode cX4_addThing 50 = .ok (.getfield 34, 3) := by decide +kernel
theorem dX4_addThing_53 : decode cX4_addThing 53 = .ok (.iconst 1, 1) := by decide +kernel
theorem dX4_addThing_54 : decode cX4_addThing 54 = .ok (.iadd, 1) := by decide +kernel
theorem dX4_addThing_55 : decode cX4_addThing 55 = .ok (.putfield 34, 3) := by decide +kernel
theorem dX4_addThing_58 : decode cX4_addThing 58 = .ok (.iconst 1, 1) := by decide +kernel
theorem dX4_addThing_59 : decode cX4_addThing 59 = .ok (.ireturn, 1) := by decide +kernel
theorem dX4_worthsOf_0 : decode cX4_worthsOf 0 = .ok (.iconst 0, 1) := by decide +kernel
theorem dX4_worthsOf_1 : decode cX4_worthsOf 1 = .ok (.istore_n 2, 1) := by decide +kernel
theorem dX4_worthsOf_2 : decode cX4_worthsOf 2 = .ok (.iconst 0, 1) := by decide +kernel
theorem dX4_worthsOf_3 : decode cX4_worthsOf 3 = .ok (.istore_n 3, 1) := by decide +kernel
theorem dX4_worthsOf_4 : decode cX4_worthsOf 4 = .ok (.iload_n 3, 1) := by decide +kernel
theorem dX4_worthsOf_5 : decode cX4_worthsOf 5 = .ok (.aload_n 0, 1) := by decide +kernel
theorem dX4_worthsOf_6 : decode cX4_worthsOf 6 = .ok (.getfield 34, 3) := by decide +kernel
theorem dX4_worthsOf_9 : decode cX4_worthsOf 9 = .ok (.if_icmp .ge 28, 3) := by decide +kernel
theorem dX4_worthsOf_12 : decode cX4_worthsOf 12 = .ok (.aload_n 0, 1) := by decide +kernel
theorem dX4_worthsOf_13 : decode cX4_worthsOf 13 = .ok (.getfield 31, 3) := by decide +kernel
theorem dX4_worthsOf_16 : decode cX4_worthsOf 16 = .ok (.iload_n 3, 1) := by decide +kernel
theorem dX4_worthsOf_17 : decode cX4_worthsOf 17 = .ok (.iaload, 1) := by decide +kernel
theorem dX4_worthsOf_18 : decode cX4_worthsOf 18 = .ok (.iload_n 1, 1) := by decide +kernel
theorem dX4_worthsOf_19 : decode cX4_worthsOf 19 = .ok (.if_icmp .ne 12, 3) := by decide +kernel
theorem dX4_worthsOf_22 : decode cX4_worthsOf 22 = .ok (.iload_n 2, 1) := by decide +kernel
theorem dX4_worthsOf_23 : decode cX4_worthsOf 23 = .ok (.aload_n 0, 1) := by decide +kernel
theorem dX4_worthsOf_24 : decode cX4_worthsOf 24 = .ok (.getfield 25, 3) := by decide +kernel
theorem dX4_worthsOf_27 : decode cX4_worthsOf 27 = .ok (.iload_n 3, 1) := by decide +kernel
theorem dX4_worthsOf_28 : decode cX4_worthsOf 28 = .ok (.iaload, 1) := by decide +kernel
theorem dX4_worthsOf_29 : decode cX4_worthsOf 29 = .ok (.iadd, 1) := by decide +kernel
theorem dX4_worthsOf_30 : decode cX4_worthsOf 30 = .ok (.istore_n 2, 1) := by decide +kernel
theorem dX4_worthsOf_31 : decode cX4_worthsOf 31 = .ok (.iinc 3 1, 3) := by decide +kernel
theorem dX4_worthsOf_34 : decode cX4_worthsOf 34 = .ok (.goto (-30), 3) := by decide +kernel
theorem dX4_worthsOf_37 : decode cX4_worthsOf 37 = .ok (.iload_n 2, 1) := by decide +kernel
theorem dX4_worthsOf_38 : decode cX4_worthsOf 38 = .ok (.ireturn, 1) := by decide +kernel
theorem dX4_nobodysThings_0 : decode cX4_nobodysThings 0 = .ok (.iconst 0, 1) := by decide +kernel
theorem dX4_nobodysThings_1 : decode cX4_nobodysThings 1 = .ok (.istore_n 1, 1) := by decide +kernel
theorem dX4_nobodysThings_2 : decode cX4_nobodysThings 2 = .ok (.iconst 0, 1) := by decide +kernel
theorem dX4_nobodysThings_3 : decode cX4_nobodysThings 3 = .ok (.istore_n 2, 1) := by decide +kernel
theorem dX4_nobodysThings_4 : decode cX4_nobodysThings 4 = .ok (.iload_n 2, 1) := by decide +kernel
theorem dX4_nobodysThings_5 : decode cX4_nobodysThings 5 = .ok (.aload_n 0, 1) := by decide +kernel
theorem dX4_nobodysThings_6 : decode cX4_nobodysThings 6 = .ok (.getfield 34, 3) := by decide +kernel
theorem dX4_nobodysThings_9 : decode cX4_nobodysThings 9 = .ok (.if_icmp .ge 25, 3) := by decide +kernel
theorem dX4_nobodysThings_12 : decode cX4_nobodysThings 12 = .ok (.aload_n 0, 1) := by decide +kernel
theorem dX4_nobodysThings_13 : decode cX4_nobodysThings 13 = .ok (.getfield 31, 3) := by decide +kernel
theorem dX4_nobodysThings_16 : decode cX4_nobodysThings 16 = .ok (.iload_n 2, 1) := by decide +kernel
theorem dX4_nobodysThings_17 : decode cX4_nobodysThings 17 = .ok (.iaload, 1) := by decide +kernel
theorem dX4_nobodysThings_18 : decode cX4_nobodysThings 18 = .ok (.iconst (-1), 1) := by decide +kernel
theorem dX4_nobodysThings_19 : decode cX4_nobodysThings 19 = .ok (.if_icmp .ne 9, 3) := by decide +kernel
theorem dX4_nobodysThings_22 : decode cX4_nobodysThings 22 = .ok (.iload_n 1, 1) := by decide +kernel
theorem dX4_nobodysThings_23 : decode cX4_nobodysThings 23 = .ok (.iconst 1, 1) := by decide +kernel
theorem dX4_nobodysThings_24 : decode cX4_nobodysThings 24 = .ok (.iload_n 2, 1) := by decide +kernel
theorem dX4_nobodysThings_25 : decode cX4_nobodysThings 25 = .ok (.ishl, 1) := by decide +kernel
theorem dX4_nobodysThings_26 : decode cX4_nobodysThings 26 = .ok (.ior, 1) := by decide +kernel
theorem dX4_nobodysThings_27 : decode cX4_nobodysThings 27 = .ok (.istore_n 1, 1) := by decide +kernel
theorem dX4_nobodysThings_28 : decode cX4_nobodysThings 28 = .ok (.iinc 2 1, 3) := by decide +kernel
theorem dX4_nobodysThings_31 : decode cX4_nobodysThings 31 = .ok (.goto (-27), 3) := by decide +kernel
theorem dX4_nobodysThings_34 : decode cX4_nobodysThings 34 = .ok (.iload_n 1, 1) := by decide +kernel
theorem dX4_nobodysThings_35 : decode cX4_nobodysThings 35 = .ok (.ireturn, 1) := by decide +kernel
theorem dX4_ownedThings_0 : decode cX4_ownedThings 0 = .ok (.aload_n 0, 1) := by decide +kernel
theorem dX4_ownedThings_1 : decode cX4_ownedThings 1 = .ok (.getfield 34, 3) := by decide +kernel
theorem dX4_ownedThings_4 : decode cX4_ownedThings 4 = .ok (.aload_n 0, 1) := by decide +kernel
theorem dX4_ownedThings_5 : decode cX4_ownedThings 5 = .ok (.invokevirtual 77, 3) := by decide +kernel
theorem dX4_ownedThings_8 : decode cX4_ownedThings 8 = .ok (.invokestatic 81, 3) := by decide +kernel
theorem dX4_ownedThings_11 : decode cX4_ownedThings 11 = .ok (.isub, 1) := by decide +kernel
theorem dX4_ownedThings_12 : decode cX4_ownedThings 12 = .ok (.ireturn, 1) := by decide +kernel
theorem dX4_peopleOn_0 : decode cX4_peopleOn 0 = .ok (.iconst 0, 1) := by decide +kernel
theorem dX4_peopleOn_1 : decode cX4_peopleOn 1 = .ok (.istore_n 2, 1) := by decide +kernel
theorem dX4_peopleOn_2 : decode cX4_peopleOn 2 = .ok (.iconst 0, 1) := by decide +kernel
theorem dX4_peopleOn_3 : decode cX4_peopleOn 3 = .ok (.istore_n 3, 1) := by decide +kernel
theorem dX4_peopleOn_4 : decode cX4_peopleOn 4 = .ok (.iload_n 3, 1) := by decide +kernel
theorem dX4_peopleOn_5 : decode cX4_peopleOn 5 = .ok (.aload_n 0, 1) := by decide +kernel
theorem dX4_peopleOn_6 : decode cX4_peopleOn 6 = .ok (.getfield 49, 3) := by decide +kernel
theorem dX4_peopleOn_9 : decode cX4_peopleOn 9 = .ok (.if_icmp .ge 25, 3) := by decide +kernel
theorem dX4_peopleOn_12 : decode cX4_peopleOn 12 = .ok (.aload_n 0, 1) := by decide +kernel
theorem dX4_peopleOn_13 : decode cX4_peopleOn 13 = .ok (.getfield 46, 3) := by decide +kernel
theorem dX4_peopleOn_16 : decode cX4_peopleOn 16 = .ok (.iload_n 3, 1) := by decide +kernel
theorem dX4_peopleOn_17 : decode cX4_peopleOn 17 = .ok (.iaload, 1) := by decide +kernel
theorem dX4_peopleOn_18 : decode cX4_peopleOn 18 = .ok (.iload_n 1, 1) := by decide +kernel
theorem dX4_peopleOn_19 : decode cX4_peopleOn 19 = .ok (.if_icmp .ne 9, 3) := by decide +kernel
theorem dX4_peopleOn_22 : decode cX4_peopleOn 22 = .ok (.iload_n 2, 1) := by decide +kernel
theorem dX4_peopleOn_23 : decode cX4_peopleOn 23 = .ok (.iconst 1, 1) := by decide +kernel
theorem dX4_peopleOn_24 : decode cX4_peopleOn 24 = .ok (.iload_n 3, 1) := by decide +kernel
theorem dX4_peopleOn_25 : decode cX4_peopleOn 25 = .ok (.ishl, 1) := by decide +kernel
theorem dX4_peopleOn_26 : decode cX4_peopleOn 26 = .ok (.ior, 1) := by decide +kernel
theorem dX4_peopleOn_27 : decode cX4_peopleOn 27 = .ok (.istore_n 2, 1) := by decide +kernel
theorem dX4_peopleOn_28 : decode cX4_peopleOn 28 = .ok (.iinc 3 1, 3) := by decide +kernel
theorem dX4_peopleOn_31 : decode cX4_peopleOn 31 = .ok (.goto (-27), 3) := by decide +kernel
theorem dX4_peopleOn_34 : decode cX4_peopleOn 34 = .ok (.iload_n 2, 1) := by decide +kernel
theorem dX4_peopleOn_35 : decode cX4_peopleOn 35 = .ok (.ireturn, 1) := by decide +kernel
theorem dX4_thingsOn_0 : decode cX4_thingsOn 0 = .ok (.iconst 0, 1) := by decide +kernel
theorem dX4_thingsOn_1 : decode cX4_thingsOn 1 = .ok (.istore_n 2, 1) := by decide +kernel
theorem dX4_thingsOn_2 : decode cX4_thingsOn 2 = .ok (.iconst 0, 1) := by decide +kernel
theorem dX4_thingsOn_3 : decode cX4_thingsOn 3 = .ok (.istore_n 3, 1) := by decide +kernel
theorem dX4_thingsOn_4 : decode cX4_thingsOn 4 = .ok (.iload_n 3, 1) := by decide +kernel
theorem dX4_thingsOn_5 : decode cX4_thingsOn 5 = .ok (.aload_n 0, 1) := by decide +kernel
theorem dX4_thingsOn_6 : decode cX4_thingsOn 6 = .ok (.getfield 34, 3) := by decide +kernel
theorem dX4_thingsOn_9 : decode cX4_thingsOn 9 = .ok (.if_icmp .ge 25, 3) := by decide +kernel
theorem dX4_thingsOn_12 : decode cX4_thingsOn 12 = .ok (.aload_n 0, 1) := by decide +kernel
theorem dX4_thingsOn_13 : decode cX4_thingsOn 13 = .ok (.getfield 28, 3) := by decide +kernel
theorem dX4_thingsOn_16 : decode cX4_thingsOn 16 = .ok (.iload_n 3, 1) := by decide +kernel
theorem dX4_thingsOn_17 : decode cX4_thingsOn 17 = .ok (.iaload, 1) := by decide +kernel
theorem dX4_thingsOn_18 : decode cX4_thingsOn 18 = .ok (.iload_n 1, 1) := by decide +kernel
theorem dX4_thingsOn_19 : decode cX4_thingsOn 19 = .ok (.if_icmp .ne 9, 3) := by decide +kernel
theorem dX4_thingsOn_22 : decode cX4_thingsOn 22 = .ok (.iload_n 2, 1) := by decide +kernel
theorem dX4_thingsOn_23 : decode cX4_thingsOn 23 = .ok (.iconst 1, 1) := by decide +kernel
theorem dX4_thingsOn_24 : decode cX4_thingsOn 24 = .ok (.iload_n 3, 1) := by decide +kernel
theorem dX4_thingsOn_25 : decode cX4_thingsOn 25 = .ok (.ishl, 1) := by decide +kernel
theorem dX4_thingsOn_26 : decode cX4_thingsOn 26 = .ok (.ior, 1) := by decide +kernel
theorem dX4_thingsOn_27 : decode cX4_thingsOn 27 = .ok (.istore_n 2, 1) := by decide +kernel
theorem dX4_thingsOn_28 : decode cX4_thingsOn 28 = .ok (.iinc 3 1, 3) := by decide +kernel
theorem dX4_thingsOn_31 : decode cX4_thingsOn 31 = .ok (.goto (-27), 3) := by decide +kernel
theorem dX4_thingsOn_34 : decode cX4_thingsOn 34 = .ok (.iload_n 2, 1) := by decide +kernel
theorem dX4_thingsOn_35 : decode cX4_thingsOn 35 = .ok (.ireturn, 1) := by decide +kernel
theorem dX5_init_0 : decode cX5_init 0 = .ok (.aload_n 0, 1) := by decide +kernel
theorem dX5_init_1 : decode cX5_init 1 = .ok (.invokespecial 1, 3) := by decide +kernel
theorem dX5_init_4 : decode cX5_init 4 = .ok (.aload_n 0, 1) := by decide +kernel
theorem dX5_init_5 : decode cX5_init 5 = .ok (.new 7, 3) := by decide +kernel
theorem dX5_init_8 : decode cX5_init 8 = .ok (.dup, 1) := by decide +kernel
theorem dX5_init_9 : decode cX5_init 9 = .ok (.invokespecial 9, 3) := by decide +kernel
theorem dX5_init_12 : decode cX5_init 12 = .ok (.putfield 10, 3) := by decide +kernel
theorem dX5_init_15 : decode cX5_init 15 = .ok (.aload_n 0, 1) := by decide +kernel
theorem dX5_init_16 : decode cX5_init 16 = .ok (.new 7, 3) := by decide +kernel
theorem dX5_init_19 : decode cX5_init 19 = .ok (.dup, 1) := by decide +kernel
theorem dX5_init_20 : decode cX5_init 20 = .ok (.invokespecial 9, 3) := by decide +kernel
theorem dX5_init_23 : decode cX5_init 23 = .ok (.putfield 16, 3) := by decide +kernel
theorem dX5_init_26 : decode cX5_init 26 = .ok (.aload_n 0, 1) := by decide +kernel
theorem dX5_init_27 : decode cX5_init 27 = .ok (.iconst 0, 1) := by decide +kernel
theorem dX5_init_28 : decode cX5_init 28 = .ok (.putfield 19, 3) := by decide +kernel
theorem dX5_init_31 : decode cX5_init 31 = .ok (.aload_n 0, 1) := by decide +kernel
theorem dX5_init_32 : decode cX5_init 32 = .ok (.bipush 8, 2) := by decide +kernel
theorem dX5_init_34 : decode cX5_init 34 = .ok (.anewarray 7, 3) := by decide +kernel
theorem dX5_init_37 : decode cX5_init 37 = .ok (.putfield 23, 3) := by decide +kernel
theorem dX5_init_40 : decode cX5_init 40 = .ok (.aload_n 0, 1) := by decide +kernel
theorem dX5_init_41 : decode cX5_init 41 = .ok (.iconst 0, 1) := by decide +kernel
theorem dX5_init_42 : decode cX5_init 42 = .ok (.putfield 27, 3) := by decide +kernel
theorem dX5_init_45 : decode cX5_init 45 = .ok (.aload_n 0, 1) := by decide +kernel
theorem dX5_init_46 : decode cX5_init 46 = .ok (.bipush 96, 2) := by decide +kernel
theorem dX5_init_48 : decode cX5_init 48 = .ok (.newarray .int, 2) := by decide +kernel
theorem dX5_init_50 : decode cX5_init 50 = .ok (.putfield 31, 3) := by decide +kernel
theorem dX5_init_53 : decode cX5_init 53 = .ok (.aload_n 0, 1) := by decide +kernel
theorem dX5_init_54 : decode cX5_init 54 = .ok (.iconst 0, 1) := by decide +kernel
theorem dX5_init_55 : decode cX5_init 55 = .ok (.putfield 35, 3) := by decide +kernel
theorem dX5_init_58 : decode cX5_init 58 = .ok (.aload_n 0, 1) := by decide +kernel
theorem dX5_init_59 : decode cX5_init 59 = .ok (.bipush 12, 2) := by decide +kernel
theorem dX5_init_61 : decode cX5_init 61 = .ok (.newarray .int, 2) := by decide +kernel
theorem dX5_init_63 : decode cX5_init 63 = .ok (.putfield 38, 3) := by decide +kernel
theorem dX5_init_66 : decode cX5_init 66 = .ok (.aload_n 0, 1) := by decide +kernel
theorem dX5_init_67 : decode cX5_init 67 = .ok (.iconst 0, 1) := by decide +kernel
theorem dX5_init_68 : decode cX5_init 68 = .ok (.putfield 41, 3) := by decide +kernel
theorem dX5_init_71 : decode cX5_init 71 = .ok (.aload_n 0, 1) := by decide +kernel
theorem dX5_init_72 : decode cX5_init 72 = .ok (.bipush 7, 2) := by decide +kernel
theorem dX5_init_74 : decode cX5_init 74 = .ok (.newarray .int, 2) := by decide +kernel
theorem dX5_init_76 : decode cX5_init 76 = .ok (.putfield 44, 3) := by decide +kernel
theorem dX5_init_79 : decode cX5_init 79 = .ok (.aload_n 0, 1) := by decide +kernel
theorem dX5_init_80 : decode cX5_init 80 = .ok (.new 47, 3) := by decide +kernel
theorem dX5_init_83 : decode cX5_init 83 = .ok (.dup, 1) := by decide +kernel
theorem dX5_init_84 : decode cX5_init 84 = .ok (.invokespecial 49, 3) := by decide +kernel
theorem dX5_init_87 : decode cX5_init 87 = .ok (.putfield 50, 3) := by decide +kernel
theorem dX5_init_90 : decode cX5_init 90 = .ok (.aload_n 0, 1) := by decide +kernel
theorem dX5_init_91 : decode cX5_init 91 = .ok (.iconst 4, 1) := by decide +kernel
theorem dX5_init_92 : decode cX5_init 92 = .ok (.newarray .int, 2) := by decide +kernel
theorem dX5_init_94 : decode cX5_init 94 = .ok (.putfield 54, 3) := by decide +kernel
theorem dX5_init_97 : decode cX5_init 97 = .ok (.aload_n 0, 1) := by decide +kernel
theorem dX5_init_98 : decode cX5_init 98 = .ok (.iconst 4, 1) := by decide +kernel
theorem dX5_init_99 : decode cX5_init 99 = .ok (.newarray .int, 2) := by decide +kernel
theorem dX5_init_101 : decode cX5_init 101 = .ok (.putfield 57, 3) := by decide +kernel
theorem dX5_init_104 : decode cX5_init 104 = .ok (.iconst 0, 1) := by decide +kernel
theorem dX5_init_105 : decode cX5_init 105 = .ok (.istore_n 1, 1) := by decide +kernel
theorem dX5_init_106 : decode cX5_init 106 = .ok (.iload_n 1, 1) := by decide +kernel
theorem dX5_init_107 : decode cX5_init 107 = .ok (.bipush 8, 2) := by decide +kernel
theorem dX5_init_109 : decode cX5_init 109 = .ok (.if_icmp .ge 22, 3) := by decide +kernel
theorem dX5_init_112 : decode cX5_init 112 = .ok (.aload_n 0, 1) := by decide +kernel
theorem dX5_init_113 : decode cX5_init 113 = .ok (.getfield 23, 3) := by decide +kernel
theorem dX5_init_116 : decode cX5_init 116 = .ok (.iload_n 1, 1) := by decide +kernel
theorem dX5_init_117 : decode cX5_init 117 = .ok (.new 7, 3) := by decide +kernel
theorem dX5_init_120 : decode cX5_init 120 = .ok (.dup, 1) := by decide +kernel
theorem dX5_init_121 : decode cX5_init 121 = .ok (.invokespecial 9, 3) := by decide +kernel
theorem dX5_init_124 : decode cX5_init 124 = .ok (.aastore, 1) := by decide +kernel
theorem dX5_init_125 : decode cX5_init 125 = .ok (.iinc 1 1, 3) := by decide +kernel
theorem dX5_init_128 : decode cX5_init 128 = .ok (.goto (-22), 3) := by decide +kernel
theorem dX5_init_131 : decode cX5_init 131 = .ok (.return_, 1) := by decide +kernel
theorem dX5_person_0 : decode cX5_person 0 = .ok (.aload_n 0, 1) := by decide +kernel
theorem dX5_person_1 : decode cX5_person 1 = .ok (.getfield 10, 3) := by decide +kernel
theorem dX5_person_4 : decode cX5_person 4 = .ok (.iload_n 1, 1) := by decide +kernel
theorem dX5_person_5 : decode cX5_person 5 = .ok (.invokevirtual 123, 3) := by decide +kernel
theorem dX5_person_8 : decode cX5_person 8 = .ok (.ifCond .ne 9, 3) := by decide +kernel
theorem dX5_person_11 : decode cX5_person 11 = .ok (.aload_n 0, 1) := by decide +kernel
theorem dX5_person_12 : decode cX5_person 12 = .ok (.iconst (-1), 1) := by decide +kernel
theorem dX5_person_13 : decode cX5_person 13 = .ok (.invokevirtual 60, 3) := by decide +kernel
theorem dX5_person_16 : decode cX5_person 16 = .ok (.ireturn, 1) := by decide +kernel
theorem dX5_person_17 : decode cX5_person 17 = .ok (.iload_n 2, 1) := by decide +kernel
theorem dX5_person_18 : decode cX5_person 18 = .ok (.tableswitch 208 0 8 #[50, 60, 70, 80, 90, 112, 134, 156, 199], 50) := by decide +kernel
theorem dX5_person_68 : decode cX5_person 68 = .ok (.aload_n 0, 1) := by decide +kernel
theorem dX5_person_69 : decode cX5_person 69 = .ok (.getfield 10, 3) := by decide +kernel
theorem dX5_person_72 : decode cX5_person 72 = .ok (.getfield 126, 3) := by decide +kernel
theorem dX5_person_75 : decode cX5_person 75 = .ok (.iload_n 1, 1) := by decide +kernel
theorem dX5_person_76 : decode cX5_person 76 = .ok (.iaload, 1) := by decide +kernel
theorem dX5_person_77 : decode cX5_person 77 = .ok (.ireturn, 1) := by decide +kernel
theorem dX5_person_78 : decode cX5_person 78 = .ok (.aload_n 0, 1) := by decide +kernel
theorem dX5_person_79 : decode cX5_person 79 = .ok (.getfield 10, 3) := by decide +kernel
theorem dX5_person_82 : decode cX5_person 82 = .ok (.getfield 129, 3) := by decide +kernel
theorem dX5_person_85 : decode cX5_person 85 = .ok (.iload_n 1, 1) := by decide +kernel
theorem dX5_person_86 : decode cX5_person 86 = .ok (.iaload, 1) := by decide +kernel
theorem dX5_person_87 : decode cX5_person 87 = .ok (.ireturn, 1) := by decide +kernel
theorem dX5_person_88 : decode cX5_person 88 = .ok (.aload_n 0, 1) := by decide +kernel
theorem dX5_person_89 : decode cX5_person 89 = .ok (.getfield 10, 3) := by decide +kernel
theorem dX5_person_92 : decode cX5_person 92 = .ok (.getfield 132, 3) := by decide +kernel
theorem dX5_person_95 : decode cX5_person 95 = .ok (.iload_n 1, 1) := by decide +kernel
theorem dX5_person_96 : decode cX5_person 96 = .ok (.iaload, 1) := by decide +kernel
theorem dX5_person_97 : decode cX5_person 97 = .ok (.ireturn, 1) := by decide +kernel
theorem dX5_person_98 : decode cX5_person 98 = .ok (.aload_n 0, 1) := by decide +kernel
theorem dX5_person_99 : decode cX5_person 99 = .ok (.getfield 10, 3) := by decide +kernel
theorem dX5_person_102 : decode cX5_person 102 = .ok (.getfield 135, 3) := by decide +kernel
theorem dX5_person_105 : decode cX5_person 105 = .ok (.iload_n 1, 1) := by decide +kernel
theorem dX5_person_106 : decode cX5_person 106 = .ok (.iaload, 1) := by decide +kernel
theorem dX5_person_107 : decode cX5_person 107 = .ok (.ireturn, 1) := by decide +kernel
theorem dX5_person_108 : decode cX5_person 108 = .ok (.aload_n 0, 1) := by decide +kernel
theorem dX5_person_109 : decode cX5_person 109 = .ok (.getfield 10, 3) := by decide +kernel
theorem dX5_person_112 : decode cX5_person 112 = .ok (.getfield 126, 3) := by decide +kernel
theorem dX5_person_115 : decode cX5_person 115 = .ok (.iload_n 1, 1) := by decide +kernel
theorem dX5_person_116 : decode cX5_person 116 = .ok (.iaload, 1) := by decide +kernel
theorem dX5_person_117 : decode cX5_person 117 = .ok (.aload_n 0, 1) := by decide +kernel
theorem dX5_person_118 : decode cX5_person 118 = .ok (.getfield 10, 3) := by decide +kernel
theorem dX5_person_121 : decode cX5_person 121 = .ok (.getfield 129, 3) := by decide +kernel
theorem dX5_person_124 : decode cX5_person 124 = .ok (.iload_n 1, 1) := by decide +kernel
theorem dX5_person_125 : decode cX5_person 125 = .ok (.iaload, 1) := by decide +kernel
theorem dX5_person_126 : decode cX5_person 126 = .ok (.invokestatic 138, 3) := by decide +kernel
theorem dX5_person_129 : decode cX5_person 129 = .ok (.ireturn, 1) := by decide +kernel
theorem dX5_person_130 : decode cX5_person 130 = .ok (.aload_n 0, 1) := by decide +kernel
theorem dX5_person_131 : decode cX5_person 131 = .ok (.getfield 10, 3) := by decide +kernel
theorem dX5_person_134 : decode cX5_person 134 = .ok (.getfield 126, 3) := by decide +kernel
theorem dX5_person_137 : decode cX5_person 137 = .ok (.iload_n 1, 1) := by decide +kernel
theorem dX5_person_138 : decode cX5_person 138 = .ok (.iaload, 1) := by decide +kernel
theorem dX5_person_139 : decode cX5_person 139 = .ok (.aload_n 0, 1) := by decide +kernel
theorem dX5_person_140 : decode cX5_person 140 = .ok (.getfield 10, 3) := by decide +kernel
theorem dX5_person_143 : decode cX5_person 143 = .ok (.getfield 129, 3) := by decide +kernel
theorem dX5_person_146 : decode cX5_person 146 = .ok (.iload_n 1, 1) := by decide +kernel
theorem dX5_person_147 : decode cX5_person 147 = .ok (.iaload, 1) := by decide +kernel
theorem dX5_person_148 : decode cX5_person 148 = .ok (.invokestatic 144, 3) := by decide +kernel
theorem dX5_person_151 : decode cX5_person 151 = .ok (.ireturn, 1) := by decide +kernel
theorem dX5_person_152 : decode cX5_person 152 = .ok (.aload_n 0, 1) := by decide +kernel
theorem dX5_person_153 : decode cX5_person 153 = .ok (.getfield 10, 3) := by decide +kernel
theorem dX5_person_156 : decode cX5_person 156 = .ok (.getfield 126, 3) := by decide +kernel
theorem dX5_person_159 : decode cX5_person 159 = .ok (.iload_n 1, 1) := by decide +kernel
theorem dX5_person_160 : decode cX5_person 160 = .ok (.iaload, 1) := by decide +kernel
theorem dX5_person_161 : decode cX5_person 161 = .ok (.aload_n 0, 1) := by decide +kernel
theorem dX5_person_162 : decode cX5_person 162 = .ok (.getfield 10, 3) := by decide +kernel
theorem dX5_person_165 : decode cX5_person 165 = .ok (.getfield 129, 3) := by decide +kernel
theorem dX5_person_168 : decode cX5_person 168 = .ok (.iload_n 1, 1) := by decide +kernel
theorem dX5_person_169 : decode cX5_person 169 = .ok (.iaload, 1) := by decide +kernel
theorem dX5_person_170 : decode cX5_person 170 = .ok (.invokestatic 147, 3) := by decide +kernel
theorem dX5_person_173 : decode cX5_person 173 = .ok (.ireturn, 1) := by decide +kernel
theorem dX5_person_174 : decode cX5_person 174 = .ok (.aload_n 0, 1) := by decide +kernel
theorem dX5_person_175 : decode cX5_person 175 = .ok (.getfield 50, 3) := by decide +kernel
theorem dX5_person_178 : decode cX5_person 178 = .ok (.aload_n 0, 1) := by decide +kernel
theorem dX5_person_179 : decode cX5_person 179 = .ok (.getfield 10, 3) := by decide +kernel
theorem dX5_person_182 : decode cX5_person 182 = .ok (.invokevirtual 67, 3) := by decide +kernel
theorem dX5_person_185 : decode cX5_person 185 = .ok (.aload_n 0, 1) := by decide +kernel
theorem dX5_person_186 : decode cX5_person 186 = .ok (.getfield 50, 3) := by decide +kernel
theorem dX5_person_189 : decode cX5_person 189 = .ok (.getfield 81, 3) := by decide +kernel
theorem dX5_person_192 : decode cX5_person 192 = .ok (.dup, 1) := by decide +kernel
theorem dX5_person_193 : decode cX5_person 193 = .ok (.getfield 116, 3) := by decide +kernel
theorem dX5_person_196 : decode cX5_person 196 = .ok (.iconst 1, 1) := by decide +kernel
theorem dX5_person_197 : decode cX5_person 197 = .ok (.iadd, 1) := by decide +kernel
theorem dX5_person_198 : decode cX5_person 198 = .ok (.putfield 116, 3) := by decide +kernel
theorem dX5_person_201 : decode cX5_person 201 = .ok (.aload_n 0, 1) := by decide +kernel
theorem dX5_person_202 : decode cX5_person 202 = .ok (.getfield 50, 3) := by decide +kernel
theorem dX5_person_205 : decode cX5_person 205 = .ok (.invokevirtual 150, 3) := by decide +kernel
theorem dX5_person_208 : decode cX5_person 208 = .ok (.aload_n 0, 1) := by decide +kernel
theorem dX5_person_209 : decode cX5_person 209 = .ok (.getfield 50, 3) := by decide +kernel
theorem dX5_person_212 : decode cX5_person 212 = .ok (.iload_n 1, 1) := by decide +kernel
theorem dX5_person_213 : decode cX5_person 213 = .ok (.invokevirtual 153, 3) := by decide +kernel
theorem dX5_person_216 : decode cX5_person 216 = .ok (.ireturn, 1) := by decide +kernel
theorem dX5_person_217 : decode cX5_person 217 = .ok (.aload_n 0, 1) := by decide +kernel
theorem dX5_person_218 : decode cX5_person 218 = .ok (.getfield 10, 3) := by decide +kernel
theorem dX5_person_221 : decode cX5_person 221 = .ok (.iload_n 1, 1) := by decide +kernel
theorem dX5_person_222 : decode cX5_person 222 = .ok (.invokevirtual 156, 3) := by decide +kernel
theorem dX5_person_225 : decode cX5_person 225 = .ok (.ireturn, 1) := by decide +kernel
theorem dX5_person_226 : decode cX5_person 226 = .ok (.aload_n 0, 1) := by decide +kernel
theorem dX5_person_227 : decode cX5_person 227 = .ok (.bipush (-2), 2) := by decide +kernel
theorem dX5_person_229 : decode cX5_person 229 = .ok (.invokevirtual 60, 3) := by decide +kernel
theorem dX5_person_232 : decode cX5_person 232 = .ok (.ireturn, 1) := by decide +kernel
theorem dX5_thing_0 : decode cX5_thing 0 = .ok (.aload_n 0, 1) := by decide +kernel
theorem dX5_thing_1 : decode cX5_thing 1 = .ok (.getfield 10, 3) := by decide +kernel
theorem dX5_thing_4 : decode cX5_thing 4 = .ok (.iload_n 1, 1) := by decide +kernel
theorem dX5_thing_5 : decode cX5_thing 5 = .ok (.invokevirtual 159, 3) := by decide +kernel
theorem dX5_thing_8 : decode cX5_thing 8 = .ok (.ifCond .ne 9, 3) := by decide +kernel
theorem dX5_thing_11 : decode cX5_thing 11 = .ok (.aload_n 0, 1) := by decide +kernel
theorem dX5_thing_12 : decode cX5_thing 12 = .ok (.iconst (-1), 1) := by decide +kernel
theorem dX5_thing_13 : decode cX5_thing 13 = .ok (.invokevirtual 60, 3) := by decide +kernel
theorem dX5_thing_16 : decode cX5_thing 16 = .ok (.ireturn, 1) := by decide +kernel
theorem dX5_thing_17 : decode cX5_thing 17 = .ok (.iload_n 2, 1) := by decide +kernel
theorem dX5_thing_18 : decode cX5_thing 18 = .ok (.tableswitch 59 0 2 #[26, 36, 46], 26) := by decide +kernel
theorem dX5_thing_44 : decode cX5_thing 44 = .ok (.aload_n 0, 1) := by decide +kernel
theorem dX5_thing_45 : decode cX5_thing 45 = .ok (.getfield 10, 3) := by decide +kernel
theorem dX5_thing_48 : decode cX5_thing 48 = .ok (.getfield 162, 3) := by decide +kernel
theorem dX5_thing_51 : decode cX5_thing 51 = .ok (.iload_n 1, 1) := by decide +kernel
theorem dX5_thing_52 : decode cX5_thing 52 = .ok (.iaload, 1) := by decide +kernel
theorem dX5_thing_53 : decode cX5_thing 53 = .ok (.ireturn, 1) := by decide +kernel
theorem dX5_thing_54 : decode cX5_thing 54 = .ok (.aload_n 0, 1) := by decide +kernel
theorem dX5_thing_55 : decode cX5_thing 55 = .ok (.getfield 10, 3) := by decide +kernel
theorem dX5_thing_58 : decode cX5_thing 58 = .ok (.getfield 165, 3) := by decide +kernel
theorem dX5_thing_61 : decode cX5_thing 61 = .ok (.iload_n 1, 1) := by decide +kernel
theorem dX5_thing_62 : decode cX5_thing 62 = .ok (.iaload, 1) := by decide +kernel
theorem dX5_thing_63 : decode cX5_thing 63 = .ok (.ireturn, 1) := by decide +kernel
theorem dX5_thing_64 : decode cX5_thing 64 = .ok (.aload_n 0, 1) := by decide +kernel
theorem dX5_thing_65 : decode cX5_thing 65 = .ok (.getfield 10, 3) := by decide +kernel
theorem dX5_thing_68 : decode cX5_thing 68 = .ok (.getfield 168, 3) := by decide +kernel
theorem dX5_thing_71 : decode cX5_thing 71 = .ok (.iload_n 1, 1) := by decide +kernel
theorem dX5_thing_72 : decode cX5_thing 72 = .ok (.iaload, 1) := by decide +kernel
theorem dX5_thing_73 : decode cX5_thing 73 = .ok (.invokestatic 171, 3) := by decide +kernel
theorem dX5_thing_76 : decode cX5_thing 76 = .ok (.ireturn, 1) := by decide +kernel
theorem dX5_thing_77 : decode cX5_thing 77 = .ok (.aload_n 0, 1) := by decide +kernel
theorem dX5_thing_78 : decode cX5_thing 78 = .ok (.bipush (-2), 2) := by decide +kernel
theorem dX5_thing_80 : decode cX5_thing 80 = .ok (.invokevirtual 60, 3) := by decide +kernel
theorem dX5_thing_83 : decode cX5_thing 83 = .ok (.ireturn, 1) := by decide +kernel
theorem dX5_cell_0 : decode cX5_cell 0 = .ok (.iload_n 1, 1) := by decide +kernel
theorem dX5_cell_1 : decode cX5_cell 1 = .ok (.invokestatic 186, 3) := by decide +kernel
theorem dX5_cell_4 : decode cX5_cell 4 = .ok (.ifCond .ne 9, 3) := by decide +kernel
theorem dX5_cell_7 : decode cX5_cell 7 = .ok (.aload_n 0, 1) := by decide +kernel
theorem dX5_cell_8 : decode cX5_cell 8 = .ok (.iconst (-1), 1) := by decide +kernel
theorem dX5_cell_9 : decode cX5_cell 9 = .ok (.invokevirtual 60, 3) := by decide +kernel
theorem dX5_cell_12 : decode cX5_cell 12 = .ok (.ireturn, 1) := by decide +kernel
theorem dX5_cell_13 : decode cX5_cell 13 = .ok (.iload_n 2, 1) := by decide +kernel
theorem dX5_cell_14 : decode cX5_cell 14 = .ok (.ifCond .lt 8, 3) := by decide +kernel
theorem dX5_cell_17 : decode cX5_cell 17 = .ok (.iload_n 2, 1) := by decide +kernel
theorem dX5_cell_18 : decode cX5_cell 18 = .ok (.iconst 4, 1) := by decide +kernel
theorem dX5_cell_19 : decode cX5_cell 19 = .ok (.if_icmp .le 10, 3) := by decide +kernel
theorem dX5_cell_22 : decode cX5_cell 22 = .ok (.aload_n 0, 1) := by decide +kernel
theorem dX5_cell_23 : decode cX5_cell 23 = .ok (.bipush (-2), 2) := by decide +kernel
theorem dX5_cell_25 : decode cX5_cell 25 = .ok (.invokevirtual 60, 3) := by decide +kernel
theorem dX5_cell_28 : decode cX5_cell 28 = .ok (.ireturn, 1) := by decide +kernel
theorem dX5_cell_29 : decode cX5_cell 29 = .ok (.aload_n 0, 1) := by decide +kernel
theorem dX5_cell_30 : decode cX5_cell 30 = .ok (.getfield 50, 3) := by decide +kernel
theorem dX5_cell_33 : decode cX5_cell 33 = .ok (.aload_n 0, 1) := by decide +kernel
theorem dX5_cell_34 : decode cX5_cell 34 = .ok (.getfield 10, 3) := by decide +kernel
theorem dX5_cell_37 : decode cX5_cell 37 = .ok (.invokevirtual 67, 3) := by decide +kernel
theorem dX5_cell_40 : decode cX5_cell 40 = .ok (.iload_n 2, 1) := by decide +kernel
theorem dX5_cell_41 : decode cX5_cell 41 = .ok (.tableswitch 75 0 3 #[31, 40, 49, 66], 31) := by decide +kernel
theorem dX5_cell_72 : decode cX5_cell 72 = .ok (.aload_n 0, 1) := by decide +kernel
theorem dX5_cell_73 : decode cX5_cell 73 = .ok (.getfield 50, 3) := by decide +kernel
theorem dX5_cell_76 : decode cX5_cell 76 = .ok (.iload_n 1, 1) := by decide +kernel
theorem dX5_cell_77 : decode cX5_cell 77 = .ok (.invokevirtual 189, 3) := by decide +kernel
theorem dX5_cell_80 : decode cX5_cell 80 = .ok (.ireturn, 1) := by decide +kernel
theorem dX5_cell_81 : decode cX5_cell 81 = .ok (.aload_n 0, 1) := by decide +kernel
theorem dX5_cell_82 : decode cX5_cell 82 = .ok (.getfield 50, 3) := by decide +kernel
theorem dX5_cell_85 : decode cX5_cell 85 = .ok (.iload_n 1, 1) := by decide +kernel
theorem dX5_cell_86 : decode cX5_cell 86 = .ok (.invokevirtual 192, 3) := by decide +kernel
theorem dX5_cell_89 : decode cX5_cell 89 = .ok (.ireturn, 1) := by decide +kernel
theorem dX5_cell_90 : decode cX5_cell 90 = .ok (.aload_n 0, 1) := by decide +kernel
theorem dX5_cell_91 : decode cX5_cell 91 = .ok (.getfield 50, 3) := by decide +kernel
theorem dX5_cell_94 : decode cX5_cell 94 = .ok (.iload_n 1, 1) := by decide +kernel
theorem dX5_cell_95 : decode cX5_cell 95 = .ok (.invokevirtual 195, 3) := by decide +kernel
theorem dX5_cell_98 : decode cX5_cell 98 = .ok (.ifCond .eq 7, 3) := by decide +kernel
theorem dX5_cell_101 : decode cX5_cell 101 = .ok (.iconst 1, 1) := by decide +kernel
theorem dX5_cell_102 : decode cX5_cell 102 = .ok (.goto 4, 3) := by decide +kernel
theorem dX5_cell_105 : decode cX5_cell 105 = .ok (.iconst 0, 1) := by decide +kernel
theorem dX5_cell_106 : decode cX5_cell 106 = .ok (.ireturn, 1) := by decide +kernel
theorem dX5_cell_107 : decode cX5_cell 107 = .ok (.aload_n 0, 1) := by decide +kernel
theorem dX5_cell_108 : decode cX5_cell 108 = .ok (.getfield 10, 3) := by decide +kernel
theorem dX5_cell_111 : decode cX5_cell 111 = .ok (.iload_n 1, 1) := by decide +kernel
theorem dX5_cell_112 : decode cX5_cell 112 = .ok (.invokevirtual 198, 3) := by decide +kernel
theorem dX5_cell_115 : decode cX5_cell 115 = .ok (.ireturn, 1) := by decide +kernel
theorem dX5_cell_116 : decode cX5_cell 116 = .ok (.aload_n 0, 1) := by decide +kernel
theorem dX5_cell_117 : decode cX5_cell 117 = .ok (.getfield 10, 3) := by decide +kernel
theorem dX5_cell_120 : decode cX5_cell 120 = .ok (.iload_n 1, 1) := by decide +kernel
theorem dX5_cell_121 : decode cX5_cell 121 = .ok (.invokevirtual 201, 3) := by decide +kernel
theorem dX5_cell_124 : decode cX5_cell 124 = .ok (.ireturn, 1) := by decide +kernel
theorem dX5_count_0 : decode cX5_count 0 = .ok (.iload_n 1, 1) := by decide +kernel
theorem dX5_count_1 : decode cX5_count 1 = .ok (.tableswitch 137 0 9 #[55, 63, 71, 79, 87, 95, 103, 108, 113, 118], 55) := by decide +kernel
theorem dX5_count_56 : decode cX5_count 56 = .ok (.aload_n 0, 1) := by decide +kernel
theorem dX5_count_57 : decode cX5_count 57 = .ok (.getfield 10, 3) := by decide +kernel
theorem dX5_count_60 : decode cX5_count 60 = .ok (.getfield 204, 3) := by decide +kernel
theorem dX5_count_63 : decode cX5_count 63 = .ok (.ireturn, 1) := by decide +kernel
theorem dX5_count_64 : decode cX5_count 64 = .ok (.aload_n 0, 1) := by decide +kernel
theorem dX5_count_65 : decode cX5_count 65 = .ok (.getfield 10, 3) := by decide +kernel
theorem dX5_count_68 : decode cX5_count 68 = .ok (.getfield 207, 3) := by decide +kernel
theorem dX5_count_71 : decode cX5_count 71 = .ok (.ireturn, 1) := by decide +kernel
theorem dX5_count_72 : decode cX5_count 72 = .ok (.aload_n 0, 1) := by decide +kernel
theorem dX5_count_73 : decode cX5_count 73 = .ok (.getfield 10, 3) := by decide +kernel
theorem dX5_count_76 : decode cX5_count 76 = .ok (.getfield 210, 3) := by decide +kernel
theorem dX5_count_79 : decode cX5_count 79 = .ok (.ireturn, 1) := by decide +kernel
theorem dX5_count_80 : decode cX5_count 80 = .ok (.aload_n 0, 1) := by decide +kernel
theorem dX5_count_81 : decode cX5_count 81 = .ok (.getfield 10, 3) := by decide +kernel
theorem dX5_count_84 : decode cX5_count 84 = .ok (.getfield 116, 3) := by decide +kernel
theorem dX5_count_87 : decode cX5_count 87 = .ok (.ireturn, 1) := by decide +kernel
theorem dX5_count_88 : decode cX5_count 88 = .ok (.aload_n 0, 1) := by decide +kernel
theorem dX5_count_89 : decode cX5_count 89 = .ok (.getfield 10, 3) := by decide +kernel
theorem dX5_count_92 : decode cX5_count 92 = .ok (.getfield 107, 3) := by decide +kernel
theorem dX5_count_95 : decode cX5_count 95 = .ok (.ireturn, 1) := by decide +kernel
theorem dX5_count_96 : decode cX5_count 96 = .ok (.aload_n 0, 1) := by decide +kernel
theorem dX5_count_97 : decode cX5_count 97 = .ok (.getfield 10, 3) := by decide +kernel
theorem dX5_count_100 : decode cX5_count 100 = .ok (.invokevirtual 213, 3) := by decide +kernel
theorem dX5_count_103 : decode cX5_count 103 = .ok (.ireturn, 1) := by decide +kernel
theorem dX5_count_104 : decode cX5_count 104 = .ok (.aload_n 0, 1) := by decide +kernel
theorem dX5_count_105 : decode cX5_count 105 = .ok (.getfield 35, 3) := by decide +kernel
theorem dX5_count_108 : decode cX5_count 108 = .ok (.ireturn, 1) := by decide +kernel
theorem dX5_count_109 : decode cX5_count 109 = .ok (.aload_n 0, 1) := by decide +kernel
theorem dX5_count_110 : decode cX5_count 110 = .ok (.getfield 41, 3) := by decide +kernel
theorem dX5_count_113 : decode cX5_count 113 = .ok (.ireturn, 1) := by decide +kernel
theorem dX5_count_114 : decode cX5_count 114 = .ok (.aload_n 0, 1) := by decide +kernel
theorem dX5_count_115 : decode cX5_count 115 = .ok (.getfield 27, 3) := by decide +kernel
theorem dX5_count_118 : decode cX5_count 118 = .ok (.ireturn, 1) := by decide +kernel
theorem dX5_count_119 : decode cX5_count 119 = .ok (.aload_n 0, 1) := by decide +kernel
theorem dX5_count_120 : decode cX5_count 120 = .ok (.getfield 50, 3) := by decide +kernel
theorem dX5_count_123 : decode cX5_count 123 = .ok (.aload_n 0, 1) := by decide +kernel
theorem dX5_count_124 : decode cX5_count 124 = .ok (.getfield 10, 3) := by decide +kernel
theorem dX5_count_127 : decode cX5_count 127 = .ok (.invokevirtual 67, 3) := by decide +kernel
theorem dX5_count_130 : decode cX5_count 130 = .ok (.aload_n 0, 1) := by decide +kernel
theorem dX5_count_131 : decode cX5_count 131 = .ok (.getfield 50, 3) := by decide +kernel
theorem dX5_count_134 : decode cX5_count 134 = .ok (.invokevirtual 217, 3) := by decide +kernel
theorem dX5_count_137 : decode cX5_count 137 = .ok (.ireturn, 1) := by decide +kernel
theorem dX5_count_138 : decode cX5_count 138 = .ok (.iload_n 1, 1) := by decide +kernel
theorem dX5_count_139 : decode cX5_count 139 = .ok (.bipush 10, 2) := by decide +kernel
theorem dX5_count_141 : decode cX5_count 141 = .ok (.if_icmp .le 21, 3) := by decide +kernel
theorem dX5_count_144 : decode cX5_count 144 = .ok (.iload_n 1, 1) := by decide +kernel
theorem dX5_count_145 : decode cX5_count 145 = .ok (.bipush 16, 2) := by decide +kernel
theorem dX5_count_147 : decode cX5_count 147 = .ok (.if_icmp .gt 15, 3) := by decide +kernel
theorem dX5_count_150 : decode cX5_count 150 = .ok (.aload_n 0, 1) := by decide +kernel
theorem dX5_count_151 : decode cX5_count 151 = .ok (.getfield 44, 3) := by decide +kernel
theorem dX5_count_154 : decode cX5_count 154 = .ok (.iload_n 1, 1) := by decide +kernel
theorem dX5_count_155 : decode cX5_count 155 = .ok (.bipush 10, 2) := by decide +kernel
theorem dX5_count_157 : decode cX5_count 157 = .ok (.isub, 1) := by decide +kernel
theorem dX5_count_158 : decode cX5_count 158 = .ok (.iaload, 1) := by decide +kernel
theorem dX5_count_159 : decode cX5_count 159 = .ok (.goto 5, 3) := by decide +kernel
theorem dX5_count_162 : decode cX5_count 162 = .ok (.bipush (-9), 2) := by decide +kernel
theorem dX5_count_164 : decode cX5_count 164 = .ok (.ireturn, 1) := by decide +kernel
theorem dX5_blows_0 : decode cX5_blows 0 = .ok (.iload_n 1, 1) := by decide +kernel
theorem dX5_blows_1 : decode cX5_blows 1 = .ok (.ifCond .lt 9, 3) := by decide +kernel
theorem dX5_blows_4 : decode cX5_blows 4 = .ok (.iload_n 1, 1) := by decide +kernel
theorem dX5_blows_5 : decode cX5_blows 5 = .ok (.bipush 7, 2) := by decide +kernel
theorem dX5_blows_7 : decode cX5_blows 7 = .ok (.if_icmp .lt 10, 3) := by decide +kernel
theorem dX5_blows_10 : decode cX5_blows 10 = .ok (.aload_n 0, 1) := by decide +kernel
theorem dX5_blows_11 : decode cX5_blows 11 = .ok (.bipush (-2), 2) := by decide +kernel
theorem dX5_blows_13 : decode cX5_blows 13 = .ok (.invokevirtual 60, 3) := by decide +kernel
theorem dX5_blows_16 : decode cX5_blows 16 = .ok (.ireturn, 1) := by decide +kernel
theorem dX5_blows_17 : decode cX5_blows 17 = .ok (.iload_n 2, 1) := by decide +kernel
theorem dX5_blows_18 : decode cX5_blows 18 = .ok (.ifCond .lt 7, 3) := by decide +kernel
theorem dX5_blows_21 : decode cX5_blows 21 = .ok (.iload_n 3, 1) := by decide +kernel
theorem dX5_blows_22 : decode cX5_blows 22 = .ok (.ifCond .ge 10, 3) := by decide +kernel
theorem dX5_blows_25 : decode cX5_blows 25 = .ok (.aload_n 0, 1) := by decide +kernel
theorem dX5_blows_26 : decode cX5_blows 26 = .ok (.bipush (-4), 2) := by decide +kernel
theorem dX5_blows_28 : decode cX5_blows 28 = .ok (.invokevirtual 60, 3) := by decide +kernel
theorem dX5_blows_31 : decode cX5_blows 31 = .ok (.ireturn, 1) := by decide +kernel
theorem dX5_blows_32 : decode cX5_blows 32 = .ok (.aload_n 0, 1) := by decide +kernel
theorem dX5_blows_33 : decode cX5_blows 33 = .ok (.getfield 10, 3) := by decide +kernel
theorem dX5_blows_36 : decode cX5_blows 36 = .ok (.iload_n 1, 1) := by decide +kernel
theorem dX5_blows_37 : decode cX5_blows 37 = .ok (.iload_n 2, 1) := by decide +kernel
theorem dX5_blows_38 : decode cX5_blows 38 = .ok (.iload_n 3, 1) := by decide +kernel
theorem dX5_blows_39 : decode cX5_blows 39 = .ok (.invokevirtual 93, 3) := by decide +kernel
theorem dX5_blows_42 : decode cX5_blows 42 = .ok (.ifCond .ne 10, 3) := by decide +kernel
theorem dX5_blows_45 : decode cX5_blows 45 = .ok (.aload_n 0, 1) := by decide +kernel
theorem dX5_blows_46 : decode cX5_blows 46 = .ok (.bipush (-6), 2) := by decide +kernel
theorem dX5_blows_48 : decode cX5_blows 48 = .ok (.invokevirtual 60, 3) := by decide +kernel
theorem dX5_blows_51 : decode cX5_blows 51 = .ok (.ireturn, 1) := by decide +kernel
theorem dX5_blows_52 : decode cX5_blows 52 = .ok (.aload_n 0, 1) := by decide +kernel
theorem dX5_blows_53 : decode cX5_blows 53 = .ok (.iconst 0, 1) := by decide +kernel
theorem dX5_blows_54 : decode cX5_blows 54 = .ok (.putfield 27, 3) := by decide +kernel
theorem dX5_blows_57 : decode cX5_blows 57 = .ok (.aload_n 0, 1) := by decide +kernel
theorem dX5_blows_58 : decode cX5_blows 58 = .ok (.getfield 10, 3) := by decide +kernel
theorem dX5_blows_61 : decode cX5_blows 61 = .ok (.getfield 210, 3) := by decide +kernel
theorem dX5_blows_64 : decode cX5_blows 64 = .ok (.iconst 1, 1) := by decide +kernel
theorem dX5_blows_65 : decode cX5_blows 65 = .ok (.isub, 1) := by decide +kernel
theorem dX5_blows_66 : decode cX5_blows 66 = .ok (.ireturn, 1) := by decide +kernel
theorem dX5_comes_0 : decode cX5_comes 0 = .ok (.iload_n 1, 1) := by decide +kernel
theorem dX5_comes_1 : decode cX5_comes 1 = .ok (.ifCond .lt 9, 3) := by decide +kernel
theorem dX5_comes_4 : decode cX5_comes 4 = .ok (.iload_n 1, 1) := by decide +kernel
theorem dX5_comes_5 : decode cX5_comes 5 = .ok (.bipush 8, 2) := by decide +kernel
theorem dX5_comes_7 : decode cX5_comes 7 = .ok (.if_icmp .lt 10, 3) := by decide +kernel
theorem dX5_comes_10 : decode cX5_comes 10 = .ok (.aload_n 0, 1) := by decide +kernel
theorem dX5_comes_11 : decode cX5_comes 11 = .ok (.bipush (-2), 2) := by decide +kernel
theorem dX5_comes_13 : decode cX5_comes 13 = .ok (.invokevirtual 60, 3) := by decide +kernel
theorem dX5_comes_16 : decode cX5_comes 16 = .ok (.ireturn, 1) := by decide +kernel
theorem dX5_comes_17 : decode cX5_comes 17 = .ok (.iload_n 2, 1) := by decide +kernel
theorem dX5_comes_18 : decode cX5_comes 18 = .ok (.ifCond .ge 10, 3) := by decide +kernel
theorem dX5_comes_21 : decode cX5_comes 21 = .ok (.aload_n 0, 1) := by decide +kernel
theorem dX5_comes_22 : decode cX5_comes 22 = .ok (.bipush (-4), 2) := by decide +kernel
theorem dX5_comes_24 : decode cX5_comes 24 = .ok (.invokevirtual 60, 3) := by decide +kernel
theorem dX5_comes_27 : decode cX5_comes 27 = .ok (.ireturn, 1) := by decide +kernel
theorem dX5_comes_28 : decode cX5_comes 28 = .ok (.iload_n 2, 1) := by decide +kernel
theorem dX5_comes_29 : decode cX5_comes 29 = .ok (.bipush 9, 2) := by decide +kernel
theorem dX5_comes_31 : decode cX5_comes 31 = .ok (.if_icmp .gt 14, 3) := by decide +kernel
theorem dX5_comes_34 : decode cX5_comes 34 = .ok (.aload_n 0, 1) := by decide +kernel
theorem dX5_comes_35 : decode cX5_comes 35 = .ok (.getfield 10, 3) := by decide +kernel
theorem dX5_comes_38 : decode cX5_comes 38 = .ok (.getfield 204, 3) := by decide +kernel
theorem dX5_comes_41 : decode cX5_comes 41 = .ok (.iconst 5, 1) := by decide +kernel
theorem dX5_comes_42 : decode cX5_comes 42 = .ok (.if_icmp .lt 10, 3) := by decide +kernel
theorem dX5_comes_45 : decode cX5_comes 45 = .ok (.aload_n 0, 1) := by decide +kernel
theorem dX5_comes_46 : decode cX5_comes 46 = .ok (.bipush (-6), 2) := by decide +kernel
theorem dX5_comes_48 : decode cX5_comes 48 = .ok (.invokevirtual 60, 3) := by decide +kernel
theorem dX5_comes_51 : decode cX5_comes 51 = .ok (.ireturn, 1) := by decide +kernel
theorem dX5_comes_52 : decode cX5_comes 52 = .ok (.aload_n 0, 1) := by decide +kernel
theorem dX5_comes_53 : decode cX5_comes 53 = .ok (.getfield 10, 3) := by decide +kernel
theorem dX5_comes_56 : decode cX5_comes 56 = .ok (.iload_n 1, 1) := by decide +kernel
theorem dX5_comes_57 : decode cX5_comes 57 = .ok (.iload_n 2, 1) := by decide +kernel
theorem dX5_comes_58 : decode cX5_comes 58 = .ok (.iload_n 3, 1) := by decide +kernel
theorem dX5_comes_59 : decode cX5_comes 59 = .ok (.invokevirtual 100, 3) := by decide +kernel
theorem dX5_comes_62 : decode cX5_comes 62 = .ok (.ifCond .ne 9, 3) := by decide +kernel
theorem dX5_comes_65 : decode cX5_comes 65 = .ok (.aload_n 0, 1) := by decide +kernel
theorem dX5_comes_66 : decode cX5_comes 66 = .ok (.iconst (-1), 1) := by decide +kernel
theorem dX5_comes_67 : decode cX5_comes 67 = .ok (.invokevirtual 60, 3) := by decide +kernel
theorem dX5_comes_70 : decode cX5_comes 70 = .ok (.ireturn, 1) := by decide +kernel
theorem dX5_comes_71 : decode cX5_comes 71 = .ok (.aload_n 0, 1) := by decide +kernel
theorem dX5_comes_72 : decode cX5_comes 72 = .ok (.iconst 0, 1) := by decide +kernel
theorem dX5_comes_73 : decode cX5_comes 73 = .ok (.putfield 27, 3) := by decide +kernel
theorem dX5_comes_76 : decode cX5_comes 76 = .ok (.aload_n 0, 1) := by decide +kernel
theorem dX5_comes_77 : decode cX5_comes 77 = .ok (.getfield 10, 3) := by decide +kernel
theorem dX5_comes_80 : decode cX5_comes 80 = .ok (.getfield 204, 3) := by decide +kernel
theorem dX5_comes_83 : decode cX5_comes 83 = .ok (.iconst 1, 1) := by decide +kernel
theorem dX5_comes_84 : decode cX5_comes 84 = .ok (.isub, 1) := by decide +kernel
theorem dX5_comes_85 : decode cX5_comes 85 = .ok (.ireturn, 1) := by decide +kernel
theorem dX5_lies_0 : decode cX5_lies 0 = .ok (.iload_n 1, 1) := by decide +kernel
theorem dX5_lies_1 : decode cX5_lies 1 = .ok (.ifCond .ge 10, 3) := by decide +kernel
theorem dX5_lies_4 : decode cX5_lies 4 = .ok (.aload_n 0, 1) := by decide +kernel
theorem dX5_lies_5 : decode cX5_lies 5 = .ok (.bipush (-4), 2) := by decide +kernel
theorem dX5_lies_7 : decode cX5_lies 7 = .ok (.invokevirtual 60, 3) := by decide +kernel
theorem dX5_lies_10 : decode cX5_lies 10 = .ok (.ireturn, 1) := by decide +kernel
theorem dX5_lies_11 : decode cX5_lies 11 = .ok (.iload_n 1, 1) := by decide +kernel
theorem dX5_lies_12 : decode cX5_lies 12 = .ok (.bipush 9, 2) := by decide +kernel
theorem dX5_lies_14 : decode cX5_lies 14 = .ok (.if_icmp .gt 15, 3) := by decide +kernel
theorem dX5_lies_17 : decode cX5_lies 17 = .ok (.aload_n 0, 1) := by decide +kernel
theorem dX5_lies_18 : decode cX5_lies 18 = .ok (.getfield 10, 3) := by decide +kernel
theorem dX5_lies_21 : decode cX5_lies 21 = .ok (.getfield 207, 3) := by decide +kernel
theorem dX5_lies_24 : decode cX5_lies 24 = .ok (.bipush 8, 2) := by decide +kernel
theorem dX5_lies_26 : decode cX5_lies 26 = .ok (.if_icmp .lt 10, 3) := by decide +kernel
theorem dX5_lies_29 : decode cX5_lies 29 = .ok (.aload_n 0, 1) := by decide +kernel
theorem dX5_lies_30 : decode cX5_lies 30 = .ok (.bipush (-6), 2) := by decide +kernel
theorem dX5_lies_32 : decode cX5_lies 32 = .ok (.invokevirtual 60, 3) := by decide +kernel
theorem dX5_lies_35 : decode cX5_lies 35 = .ok (.ireturn, 1) := by decide +kernel
theorem dX5_lies_36 : decode cX5_lies 36 = .ok (.aload_n 0, 1) := by decide +kernel
theorem dX5_lies_37 : decode cX5_lies 37 = .ok (.getfield 10, 3) := by decide +kernel
theorem dX5_lies_40 : decode cX5_lies 40 = .ok (.iload_n 1, 1) := by decide +kernel
theorem dX5_lies_41 : decode cX5_lies 41 = .ok (.iload_n 2, 1) := by decide +kernel
theorem dX5_lies_42 : decode cX5_lies 42 = .ok (.invokevirtual 103, 3) := by decide +kernel
theorem dX5_lies_45 : decode cX5_lies 45 = .ok (.ifCond .ne 9, 3) := by decide +kernel
theorem dX5_lies_48 : decode cX5_lies 48 = .ok (.aload_n 0, 1) := by decide +kernel
theorem dX5_lies_49 : decode cX5_lies 49 = .ok (.iconst (-1), 1) := by decide +kernel
theorem dX5_lies_50 : decode cX5_lies 50 = .ok (.invokevirtual 60, 3) := by decide +kernel
theorem dX5_lies_53 : decode cX5_lies 53 = .ok (.ireturn, 1) := by decide +kernel
theorem dX5_lies_54 : decode cX5_lies 54 = .ok (.aload_n 0, 1) := by decide +kernel
theorem dX5_lies_55 : decode cX5_lies 55 = .ok (.iconst 0, 1) := by decide +kernel
theorem dX5_lies_56 : decode cX5_lies 56 = .ok (.putfield 27, 3) := by decide +kernel
theorem dX5_lies_59 : decode cX5_lies 59 = .ok (.aload_n 0, 1) := by decide +kernel
theorem dX5_lies_60 : decode cX5_lies 60 = .ok (.getfield 10, 3) := by decide +kernel
theorem dX5_lies_63 : decode cX5_lies 63 = .ok (.getfield 207, 3) := by decide +kernel
theorem dX5_lies_66 : decode cX5_lies 66 = .ok (.iconst 1, 1) := by decide +kernel
theorem dX5_lies_67 : decode cX5_lies 67 = .ok (.isub, 1) := by decide +kernel
theorem dX5_lies_68 : decode cX5_lies 68 = .ok (.ireturn, 1) := by decide +kernel
theorem dX5_thick_0 : decode cX5_thick 0 = .ok (.iload_n 1, 1) := by decide +kernel
theorem dX5_thick_1 : decode cX5_thick 1 = .ok (.iconst 1, 1) := by decide +kernel
theorem dX5_thick_2 : decode cX5_thick 2 = .ok (.bipush 9, 2) := by decide +kernel
theorem dX5_thick_4 : decode cX5_thick 4 = .ok (.invokestatic 220, 3) := by decide +kernel
theorem dX5_thick_7 : decode cX5_thick 7 = .ok (.istore_n 2, 1) := by decide +kernel
theorem dX5_thick_8 : decode cX5_thick 8 = .ok (.iload_n 2, 1) := by decide +kernel
theorem dX5_thick_9 : decode cX5_thick 9 = .ok (.ifCond .eq 9, 3) := by decide +kernel
theorem dX5_thick_12 : decode cX5_thick 12 = .ok (.aload_n 0, 1) := by decide +kernel
theorem dX5_thick_13 : decode cX5_thick 13 = .ok (.iload_n 2, 1) := by decide +kernel
theorem dX5_thick_14 : decode cX5_thick 14 = .ok (.invokevirtual 60, 3) := by decide +kernel
theorem dX5_thick_17 : decode cX5_thick 17 = .ok (.ireturn, 1) := by decide +kernel
theorem dX5_thick_18 : decode cX5_thick 18 = .ok (.aload_n 0, 1) := by decide +kernel
theorem dX5_thick_19 : decode cX5_thick 19 = .ok (.invokevirtual 224, 3) := by decide +kernel
theorem dX5_thick_22 : decode cX5_thick 22 = .ok (.aload_n 0, 1) := by decide +kernel
theorem dX5_thick_23 : decode cX5_thick 23 = .ok (.getfield 10, 3) := by decide +kernel
theorem dX5_thick_26 : decode cX5_thick 26 = .ok (.getfield 107, 3) := by decide +kernel
theorem dX5_thick_29 : decode cX5_thick 29 = .ok (.istore_n 3, 1) := by decide +kernel
theorem dX5_thick_30 : decode cX5_thick 30 = .ok (.aload_n 0, 1) := by decide +kernel
theorem dX5_thick_31 : decode cX5_thick 31 = .ok (.getfield 10, 3) := by decide +kernel
theorem dX5_thick_34 : decode cX5_thick 34 = .ok (.iload_n 1, 1) := by decide +kernel
theorem dX5_thick_35 : decode cX5_thick 35 = .ok (.putfield 107, 3) := by decide +kernel
theorem dX5_thick_38 : decode cX5_thick 38 = .ok (.iload_n 3, 1) := by decide +kernel
theorem dX5_thick_39 : decode cX5_thick 39 = .ok (.ireturn, 1) := by decide +kernel
theorem dX5_owns_0 : decode cX5_owns 0 = .ok (.aload_n 0, 1) := by decide +kernel
theorem dX5_owns_1 : decode cX5_owns 1 = .ok (.getfield 10, 3) := by decide +kernel
theorem dX5_owns_4 : decode cX5_owns 4 = .ok (.iload_n 1, 1) := by decide +kernel
theorem dX5_owns_5 : decode cX5_owns 5 = .ok (.invokevirtual 159, 3) := by decide +kernel
theorem dX5_owns_8 : decode cX5_owns 8 = .ok (.ifCond .eq 19, 3) := by decide +kernel
theorem dX5_owns_11 : decode cX5_owns 11 = .ok (.iload_n 2, 1) := by decide +kernel
theorem dX5_owns_12 : decode cX5_owns 12 = .ok (.iconst (-1), 1) := by decide +kernel
theorem dX5_owns_13 : decode cX5_owns 13 = .ok (.if_icmp .eq 20, 3) := by decide +kernel
theorem dX5_owns_16 : decode cX5_owns 16 = .ok (.aload_n 0, 1) := by decide +kernel
theorem dX5_owns_17 : decode cX5_owns 17 = .ok (.getfield 10, 3) := by decide +kernel
theorem dX5_owns_20 : decode cX5_owns 20 = .ok (.iload_n 2, 1) := by decide +kernel
theorem dX5_owns_21 : decode cX5_owns 21 = .ok (.invokevirtual 123, 3) := by decide +kernel
theorem dX5_owns_24 : decode cX5_owns 24 = .ok (.ifCond .ne 9, 3) := by decide +kernel
theorem dX5_owns_27 : decode cX5_owns 27 = .ok (.aload_n 0, 1) := by decide +kernel
theorem dX5_owns_28 : decode cX5_owns 28 = .ok (.iconst (-1), 1) := by decide +kernel
theorem dX5_owns_29 : decode cX5_owns 29 = .ok (.invokevirtual 60, 3) := by decide +kernel
theorem dX5_owns_32 : decode cX5_owns 32 = .ok (.ireturn, 1) := by decide +kernel
theorem dX5_owns_33 : decode cX5_owns 33 = .ok (.aload_n 0, 1) := by decide +kernel
theorem dX5_owns_34 : decode cX5_owns 34 = .ok (.invokevirtual 224, 3) := by decide +kernel
theorem dX5_owns_37 : decode cX5_owns 37 = .ok (.aload_n 0, 1) := by decide +kernel
theorem dX5_owns_38 : decode cX5_owns 38 = .ok (.getfield 10, 3) := by decide +kernel
theorem dX5_owns_41 : decode cX5_owns 41 = .ok (.getfield 168, 3) := by decide +kernel
theorem dX5_owns_44 : decode cX5_owns 44 = .ok (.iload_n 1, 1) := by decide +kernel
theorem dX5_owns_45 : decode cX5_owns 45 = .ok (.iaload, 1) := by decide +kernel
theorem dX5_owns_46 : decode cX5_owns 46 = .ok (.istore_n 3, 1) := by decide +kernel
theorem dX5_owns_47 : decode cX5_owns 47 = .ok (.aload_n 0, 1) := by decide +kernel
theorem dX5_owns_48 : decode cX5_owns 48 = .ok (.getfield 10, 3) := by decide +kernel
theorem dX5_owns_51 : decode cX5_owns 51 = .ok (.getfield 168, 3) := by decide +kernel
theorem dX5_owns_54 : decode cX5_owns 54 = .ok (.iload_n 1, 1) := by decide +kernel
theorem dX5_owns_55 : decode cX5_owns 55 = .ok (.iload_n 2, 1) := by decide +kernel
theorem dX5_owns_56 : decode cX5_owns 56 = .ok (.iastore, 1) := by decide +kernel
theorem dX5_owns_57 : decode cX5_owns 57 = .ok (.iload_n 3, 1) := by decide +kernel
theorem dX5_owns_58 : decode cX5_owns 58 = .ok (.invokestatic 171, 3) := by decide +kernel
theorem dX5_owns_61 : decode cX5_owns 61 = .ok (.ireturn, 1) := by decide +kernel
theorem dX5_stands_0 : decode cX5_stands 0 = .ok (.aload_n 0, 1) := by decide +kernel
theorem dX5_stands_1 : decode cX5_stands 1 = .ok (.getfield 10, 3) := by decide +kernel
theorem dX5_stands_4 : decode cX5_stands 4 = .ok (.iload_n 1, 1) := by decide +kernel
theorem dX5_stands_5 : decode cX5_stands 5 = .ok (.invokevirtual 123, 3) := by decide +kernel
theorem dX5_stands_8 : decode cX5_stands 8 = .ok (.ifCond .eq 10, 3) := by decide +kernel
theorem dX5_stands_11 : decode cX5_stands 11 = .ok (.iload_n 2, 1) := by decide +kernel
theorem dX5_stands_12 : decode cX5_stands 12 = .ok (.invokestatic 186, 3) := by decide +kernel
theorem dX5_stands_15 : decode cX5_stands 15 = .ok (.ifCond .ne 9, 3) := by decide +kernel
theorem dX5_stands_18 : decode cX5_stands 18 = .ok (.aload_n 0, 1) := by decide +kernel
theorem dX5_stands_19 : decode cX5_stands 19 = .ok (.iconst (-1), 1) := by decide +kernel
theorem dX5_stands_20 : decode cX5_stands 20 = .ok (.invokevirtual 60, 3) := by decide +kernel
theorem dX5_stands_23 : decode cX5_stands 23 = .ok (.ireturn, 1) := by decide +kernel
theorem dX5_stands_24 : decode cX5_stands 24 = .ok (.aload_n 0, 1) := by decide +kernel
theorem dX5_stands_25 : decode cX5_stands 25 = .ok (.invokevirtual 224, 3) := by decide +kernel
theorem dX5_stands_28 : decode cX5_stands 28 = .ok (.aload_n 0, 1) := by decide +kernel
theorem dX5_stands_29 : decode cX5_stands 29 = .ok (.getfield 10, 3) := by decide +kernel
theorem dX5_stands_32 : decode cX5_stands 32 = .ok (.getfield 135, 3) := by decide +kernel
theorem dX5_stands_35 : decode cX5_stands 35 = .ok (.iload_n 1, 1) := by decide +kernel
theorem dX5_stands_36 : decode cX5_stands 36 = .ok (.iaload, 1) := by decide +kernel
theorem dX5_stands_37 : decode cX5_stands 37 = .ok (.istore_n 3, 1) := by decide +kernel
theorem dX5_stands_38 : decode cX5_stands 38 = .ok (.aload_n 0, 1) := by decide +kernel
theorem dX5_stands_39 : decode cX5_stands 39 = .ok (.getfield 10, 3) := by decide +kernel
theorem dX5_stands_42 : decode cX5_stands 42 = .ok (.getfield 135, 3) := by decide +kernel
theorem dX5_stands_45 : decode cX5_stands 45 = .ok (.iload_n 1, 1) := by decide +kernel
theorem dX5_stands_46 : decode cX5_stands 46 = .ok (.iload_n 2, 1) := by decide +kernel
theorem dX5_stands_47 : decode cX5_stands 47 = .ok (.iastore, 1) := by decide +kernel
theorem dX5_stands_48 : decode cX5_stands 48 = .ok (.iload_n 3, 1) := by decide +kernel
theorem dX5_stands_49 : decode cX5_stands 49 = .ok (.ireturn, 1) := by decide +kernel
theorem dX5_hours_0 : decode cX5_hours 0 = .ok (.iload_n 1, 1) := by decide +kernel
theorem dX5_hours_1 : decode cX5_hours 1 = .ok (.iconst 1, 1) := by decide +kernel
theorem dX5_hours_2 : decode cX5_hours 2 = .ok (.bipush 60, 2) := by decide +kernel
theorem dX5_hours_4 : decode cX5_hours 4 = .ok (.invokestatic 220, 3) := by decide +kernel
theorem dX5_hours_7 : decode cX5_hours 7 = .ok (.istore_n 2, 1) := by decide +kernel
theorem dX5_hours_8 : decode cX5_hours 8 = .ok (.iload_n 2, 1) := by decide +kernel
theorem dX5_hours_9 : decode cX5_hours 9 = .ok (.ifCond .eq 9, 3) := by decide +kernel
theorem dX5_hours_12 : decode cX5_hours 12 = .ok (.aload_n 0, 1) := by decide +kernel
theorem dX5_hours_13 : decode cX5_hours 13 = .ok (.iload_n 2, 1) := by decide +kernel
theorem dX5_hours_14 : decode cX5_hours 14 = .ok (.invokevirtual 60, 3) := by decide +kernel
theorem dX5_hours_17 : decode cX5_hours 17 = .ok (.ireturn, 1) := by decide +kernel
theorem dX5_hours_18 : decode cX5_hours 18 = .ok (.aload_n 0, 1) := by decide +kernel
theorem dX5_hours_19 : decode cX5_hours 19 = .ok (.getfield 10, 3) := by decide +kernel
theorem dX5_hours_22 : decode cX5_hours 22 = .ok (.getfield 116, 3) := by decide +kernel
theorem dX5_hours_25 : decode cX5_hours 25 = .ok (.iload_n 1, 1) := by decide +kernel
theorem dX5_hours_26 : decode cX5_hours 26 = .ok (.iadd, 1) := by decide +kernel
theorem dX5_hours_27 : decode cX5_hours 27 = .ok (.sipush 999, 3) := by decide +kernel
theorem dX5_hours_30 : decode cX5_hours 30 = .ok (.if_icmp .le 10, 3) := by decide +kernel
theorem dX5_hours_33 : decode cX5_hours 33 = .ok (.aload_n 0, 1) := by decide +kernel
theorem dX5_hours_34 : decode cX5_hours 34 = .ok (.bipush (-6), 2) := by decide +kernel
theorem dX5_hours_36 : decode cX5_hours 36 = .ok (.invokevirtual 60, 3) := by decide +kernel
theorem dX5_hours_39 : decode cX5_hours 39 = .ok (.ireturn, 1) := by decide +kernel
theorem dX5_hours_40 : decode cX5_hours 40 = .ok (.aload_n 0, 1) := by decide +kernel
theorem dX5_hours_41 : decode cX5_hours 41 = .ok (.invokevirtual 224, 3) := by decide +kernel
theorem dX5_hours_44 : decode cX5_hours 44 = .ok (.aload_n 0, 1) := by decide +kernel
theorem dX5_hours_45 : decode cX5_hours 45 = .ok (.iload_n 1, 1) := by decide +kernel
theorem dX5_hours_46 : decode cX5_hours 46 = .ok (.invokevirtual 227, 3) := by decide +kernel
theorem dX5_hours_49 : decode cX5_hours 49 = .ok (.aload_n 0, 1) := by decide +kernel
theorem dX5_hours_50 : decode cX5_hours 50 = .ok (.getfield 10, 3) := by decide +kernel
theorem dX5_hours_53 : decode cX5_hours 53 = .ok (.aload_n 0, 1) := by decide +kernel
theorem dX5_hours_54 : decode cX5_hours 54 = .ok (.getfield 50, 3) := by decide +kernel
theorem dX5_hours_57 : decode cX5_hours 57 = .ok (.getfield 81, 3) := by decide +kernel
theorem dX5_hours_60 : decode cX5_hours 60 = .ok (.invokevirtual 84, 3) := by decide +kernel
theorem dX5_hours_63 : decode cX5_hours 63 = .ok (.aload_n 0, 1) := by decide +kernel
theorem dX5_hours_64 : decode cX5_hours 64 = .ok (.getfield 10, 3) := by decide +kernel
theorem dX5_hours_67 : decode cX5_hours 67 = .ok (.invokevirtual 213, 3) := by decide +kernel
theorem dX5_hours_70 : decode cX5_hours 70 = .ok (.ireturn, 1) := by decide +kernel
theorem dX5_back_0 : decode cX5_back 0 = .ok (.aload_n 0, 1) := by decide +kernel
theorem dX5_back_1 : decode cX5_back 1 = .ok (.getfield 27, 3) := by decide +kernel
theorem dX5_back_4 : decode cX5_back 4 = .ok (.ifCond .le 12, 3) := by decide +kernel
theorem dX5_back_7 : decode cX5_back 7 = .ok (.aload_n 0, 1) := by decide +kernel
theorem dX5_back_8 : decode cX5_back 8 = .ok (.getfield 27, 3) := by decide +kernel
theorem dX5_back_11 : decode cX5_back 11 = .ok (.bipush 8, 2) := by decide +kernel
theorem dX5_back_13 : decode cX5_back 13 = .ok (.if_icmp .le 10, 3) := by decide +kernel
theorem dX5_back_16 : decode cX5_back 16 = .ok (.aload_n 0, 1) := by decide +kernel
theorem dX5_back_17 : decode cX5_back 17 = .ok (.bipush (-3), 2) := by decide +kernel
theorem dX5_back_19 : decode cX5_back 19 = .ok (.invokevirtual 60, 3) := by decide +kernel
theorem dX5_back_22 : decode cX5_back 22 = .ok (.ireturn, 1) := by decide +kernel
theorem dX5_back_23 : decode cX5_back 23 = .ok (.aload_n 0, 1) := by decide +kernel
theorem dX5_back_24 : decode cX5_back 24 = .ok (.dup, 1) := by decide +kernel
theorem dX5_back_25 : decode cX5_back 25 = .ok (.getfield 27, 3) := by decide +kernel
theorem dX5_back_28 : decode cX5_back 28 = .ok (.iconst 1, 1) := by decide +kernel
theorem dX5_back_29 : decode cX5_back 29 = .ok (.isub, 1) := by decide +kernel
theorem dX5_back_30 : decode cX5_back 30 = .ok (.putfield 27, 3) := by decide +kernel
theorem dX5_back_33 : decode cX5_back 33 = .ok (.aload_n 0, 1) := by decide +kernel
theorem dX5_back_34 : decode cX5_back 34 = .ok (.getfield 10, 3) := by decide +kernel
theorem dX5_back_37 : decode cX5_back 37 = .ok (.aload_n 0, 1) := by decide +kernel
theorem dX5_back_38 : decode cX5_back 38 = .ok (.getfield 23, 3) := by decide +kernel
theorem dX5_back_41 : decode cX5_back 41 = .ok (.aload_n 0, 1) := by decide +kernel
theorem dX5_back_42 : decode cX5_back 42 = .ok (.getfield 27, 3) := by decide +kernel
theorem dX5_back_45 : decode cX5_back 45 = .ok (.aaload, 1) := by decide +kernel
theorem dX5_back_46 : decode cX5_back 46 = .ok (.invokevirtual 84, 3) := by decide +kernel
theorem dX5_back_49 : decode cX5_back 49 = .ok (.aload_n 0, 1) := by decide +kernel
theorem dX5_back_50 : decode cX5_back 50 = .ok (.getfield 27, 3) := by decide +kernel
theorem dX5_back_53 : decode cX5_back 53 = .ok (.ireturn, 1) := by decide +kernel
theorem dX5_keepForBack_0 : decode cX5_keepForBack 0 = .ok (.aload_n 0, 1) := by decide +kernel
theorem dX5_keepForBack_1 : decode cX5_keepForBack 1 = .ok (.getfield 27, 3) := by decide +kernel
theorem dX5_keepForBack_4 : decode cX5_keepForBack 4 = .ok (.bipush 8, 2) := by decide +kernel
theorem dX5_keepForBack_6 : decode cX5_keepForBack 6 = .ok (.if_icmp .lt 52, 3) := by decide +kernel
theorem dX5_keepForBack_9 : decode cX5_keepForBack 9 = .ok (.aload_n 0, 1) := by decide +kernel
theorem dX5_keepForBack_10 : decode cX5_keepForBack 10 = .ok (.getfield 23, 3) := by decide +kernel
theorem dX5_keepForBack_13 : decode cX5_keepForBack 13 = .ok (.iconst 0, 1) := by decide +kernel
theorem dX5_keepForBack_14 : decode cX5_keepForBack 14 = .ok (.aaload, 1) := by decide +kernel
theorem dX5_keepForBack_15 : decode cX5_keepForBack 15 = .ok (.astore_n 1, 1) := by decide +kernel
theorem dX5_keepForBack_16 : decode cX5_keepForBack 16 = .ok (.iconst 1, 1) := by decide +kernel
theorem dX5_keepForBack_17 : decode cX5_keepForBack 17 = .ok (.istore_n 2, 1) := by decide +kernel
theorem dX5_keepForBack_18 : decode cX5_keepForBack 18 = .ok (.iload_n 2, 1) := by decide +kernel
theorem dX5_keepForBack_19 : decode cX5_keepForBack 19 = .ok (.bipush 8, 2) := by decide +kernel
theorem dX5_keepForBack_21 : decode cX5_keepForBack 21 = .ok (.if_icmp .ge 23, 3) := by decide +kernel
theorem dX5_keepForBack_24 : decode cX5_keepForBack 24 = .ok (.aload_n 0, 1) := by decide +kernel
theorem dX5_keepForBack_25 : decode cX5_keepForBack 25 = .ok (.getfield 23, 3) := by decide +kernel
theorem dX5_keepForBack_28 : decode cX5_keepForBack 28 = .ok (.iload_n 2, 1) := by decide +kernel
theorem dX5_keepForBack_29 : decode cX5_keepForBack 29 = .ok (.iconst 1, 1) := by decide +kernel
theorem dX5_keepForBack_30 : decode cX5_keepForBack 30 = .ok (.isub, 1) := by decide +kernel
theorem dX5_keepForBack_31 : decode cX5_keepForBack 31 = .ok (.aload_n 0, 1) := by decide +kernel
theorem dX5_keepForBack_32 : decode cX5_keepForBack 32 = .ok (.getfield 23, 3) := by decide +kernel
theorem dX5_keepForBack_35 : decode cX5_keepForBack 35 = .ok (.iload_n 2, 1) := by decide +kernel
theorem dX5_keepForBack_36 : decode cX5_keepForBack 36 = .ok (.aaload, 1) := by decide +kernel
theorem dX5_keepForBack_37 : decode cX5_keepForBack 37 = .ok (.aastore, 1) := by decide +kernel
theorem dX5_keepForBack_38 : decode cX5_keepForBack 38 = .ok (.iinc 2 1, 3) := by decide +kernel
theorem dX5_keepForBack_41 : decode cX5_keepForBack 41 = .ok (.goto (-23), 3) := by decide +kernel
theorem dX5_keepForBack_44 : decode cX5_keepForBack 44 = .ok (.aload_n 0, 1) := by decide +kernel
theorem dX5_keepForBack_45 : decode cX5_keepForBack 45 = .ok (.getfield 23, 3) := by decide +kernel
theorem dX5_keepForBack_48 : decode cX5_keepForBack 48 = .ok (.bipush 7, 2) := by decide +kernel
theorem dX5_keepForBack_50 : decode cX5_keepForBack 50 = .ok (.aload_n 1, 1) := by decide +kernel
theorem dX5_keepForBack_51 : decode cX5_keepForBack 51 = .ok (.aastore, 1) := by decide +kernel
theorem dX5_keepForBack_52 : decode cX5_keepForBack 52 = .ok (.aload_n 0, 1) := by decide +kernel
theorem dX5_keepForBack_53 : decode cX5_keepForBack 53 = .ok (.bipush 7, 2) := by decide +kernel
theorem dX5_keepForBack_55 : decode cX5_keepForBack 55 = .ok (.putfield 27, 3) := by decide +kernel
theorem dX5_keepForBack_58 : decode cX5_keepForBack 58 = .ok (.aload_n 0, 1) := by decide +kernel
theorem dX5_keepForBack_59 : decode cX5_keepForBack 59 = .ok (.getfield 23, 3) := by decide +kernel
theorem dX5_keepForBack_62 : decode cX5_keepForBack 62 = .ok (.aload_n 0, 1) := by decide +kernel
theorem dX5_keepForBack_63 : decode cX5_keepForBack 63 = .ok (.getfield 27, 3) := by decide +kernel
theorem dX5_keepForBack_66 : decode cX5_keepForBack 66 = .ok (.aaload, 1) := by decide +kernel
theorem dX5_keepForBack_67 : decode cX5_keepForBack 67 = .ok (.aload_n 0, 1) := by decide +kernel
theorem dX5_keepForBack_68 : decode cX5_keepForBack 68 = .ok (.getfield 10, 3) := by decide +kernel
theorem dX5_keepForBack_71 : decode cX5_keepForBack 71 = .ok (.invokevirtual 84, 3) := by decide +kernel
theorem dX5_keepForBack_74 : decode cX5_keepForBack 74 = .ok (.aload_n 0, 1) := by decide +kernel
theorem dX5_keepForBack_75 : decode cX5_keepForBack 75 = .ok (.dup, 1) := by decide +kernel
theorem dX5_keepForBack_76 : decode cX5_keepForBack 76 = .ok (.getfield 27, 3) := by decide +kernel
theorem dX5_keepForBack_79 : decode cX5_keepForBack 79 = .ok (.iconst 1, 1) := by decide +kernel
theorem dX5_keepForBack_80 : decode cX5_keepForBack 80 = .ok (.iadd, 1) := by decide +kernel
theorem dX5_keepForBack_81 : decode cX5_keepForBack 81 = .ok (.putfield 27, 3) := by decide +kernel
theorem dX5_keepForBack_84 : decode cX5_keepForBack 84 = .ok (.return_, 1) := by decide +kernel
theorem dX5_then_0 : decode cX5_then 0 = .ok (.iload_n 1, 1) := by decide +kernel
theorem dX5_then_1 : decode cX5_then 1 = .ok (.iconst 0, 1) := by decide +kernel
theorem dX5_then_2 : decode cX5_then 2 = .ok (.bipush 60, 2) := by decide +kernel
theorem dX5_then_4 : decode cX5_then 4 = .ok (.invokestatic 220, 3) := by decide +kernel
theorem dX5_then_7 : decode cX5_then 7 = .ok (.istore_n 3, 1) := by decide +kernel
theorem dX5_then_8 : decode cX5_then 8 = .ok (.iload_n 3, 1) := by decide +kernel
theorem dX5_then_9 : decode cX5_then 9 = .ok (.ifCond .eq 9, 3) := by decide +kernel
theorem dX5_then_12 : decode cX5_then 12 = .ok (.aload_n 0, 1) := by decide +kernel
theorem dX5_then_13 : decode cX5_then 13 = .ok (.iload_n 3, 1) := by decide +kernel
theorem dX5_then_14 : decode cX5_then 14 = .ok (.invokevirtual 60, 3) := by decide +kernel
theorem dX5_then_17 : decode cX5_then 17 = .ok (.ireturn, 1) := by decide +kernel
theorem dX5_then_18 : decode cX5_then 18 = .ok (.iload_n 2, 1) := by decide +kernel
theorem dX5_then_19 : decode cX5_then 19 = .ok (.ifCond .lt 8, 3) := by decide +kernel
theorem dX5_then_22 : decode cX5_then 22 = .ok (.iload_n 2, 1) := by decide +kernel
theorem dX5_then_23 : decode cX5_then 23 = .ok (.iconst 2, 1) := by decide +kernel
theorem dX5_then_24 : decode cX5_then 24 = .ok (.if_icmp .le 10, 3) := by decide +kernel
theorem dX5_then_27 : decode cX5_then 27 = .ok (.aload_n 0, 1) := by decide +kernel
theorem dX5_then_28 : decode cX5_then 28 = .ok (.bipush (-2), 2) := by decide +kernel
theorem dX5_then_30 : decode cX5_then 30 = .ok (.invokevirtual 60, 3) := by decide +kernel
theorem dX5_then_33 : decode cX5_then 33 = .ok (.ireturn, 1) := by decide +kernel
theorem dX5_then_34 : decode cX5_then 34 = .ok (.aload_n 0, 1) := by decide +kernel
theorem dX5_then_35 : decode cX5_then 35 = .ok (.iload_n 1, 1) := by decide +kernel
theorem dX5_then_36 : decode cX5_then 36 = .ok (.invokevirtual 227, 3) := by decide +kernel
theorem dX5_then_39 : decode cX5_then 39 = .ok (.iload_n 2, 1) := by decide +kernel
theorem dX5_then_40 : decode cX5_then 40 = .ok (.lookupswitch 47 #[(0, 28), (1, 36)], 28) := by decide +kernel
theorem dX5_then_68 : decode cX5_then 68 = .ok (.aload_n 0, 1) := by decide +kernel
theorem dX5_then_69 : decode cX5_then 69 = .ok (.getfield 50, 3) := by decide +kernel
theorem dX5_then_72 : decode cX5_then 72 = .ok (.invokevirtual 217, 3) := by decide +kernel
theorem dX5_then_75 : decode cX5_then 75 = .ok (.ireturn, 1) := by decide +kernel
theorem dX5_then_76 : decode cX5_then 76 = .ok (.aload_n 0, 1) := by decide +kernel
theorem dX5_then_77 : decode cX5_then 77 = .ok (.getfield 50, 3) := by decide +kernel
theorem dX5_then_80 : decode cX5_then 80 = .ok (.getfield 81, 3) := by decide +kernel
theorem dX5_then_83 : decode cX5_then 83 = .ok (.invokevirtual 213, 3) := by decide +kernel
theorem dX5_then_86 : decode cX5_then 86 = .ok (.ireturn, 1) := by decide +kernel
theorem dX5_then_87 : decode cX5_then 87 = .ok (.aload_n 0, 1) := by decide +kernel
theorem dX5_then_88 : decode cX5_then 88 = .ok (.getfield 50, 3) := by decide +kernel
theorem dX5_then_91 : decode cX5_then 91 = .ok (.getfield 81, 3) := by decide +kernel
theorem dX5_then_94 : decode cX5_then 94 = .ok (.invokevirtual 230, 3) := by decide +kernel
theorem dX5_then_97 : decode cX5_then 97 = .ok (.ireturn, 1) := by decide +kernel
theorem dX5_personThen_0 : decode cX5_personThen 0 = .ok (.aload_n 0, 1) := by decide +kernel
theorem dX5_personThen_1 : decode cX5_personThen 1 = .ok (.getfield 10, 3) := by decide +kernel
theorem dX5_personThen_4 : decode cX5_personThen 4 = .ok (.iload_n 1, 1) := by decide +kernel
theorem dX5_personThen_5 : decode cX5_personThen 5 = .ok (.invokevirtual 123, 3) := by decide +kernel
theorem dX5_personThen_8 : decode cX5_personThen 8 = .ok (.ifCond .ne 9, 3) := by decide +kernel
theorem dX5_personThen_11 : decode cX5_personThen 11 = .ok (.aload_n 0, 1) := by decide +kernel
theorem dX5_personThen_12 : decode cX5_personThen 12 = .ok (.iconst (-1), 1) := by decide +kernel
theorem dX5_personThen_13 : decode cX5_personThen 13 = .ok (.invokevirtual 60, 3) := by decide +kernel
theorem dX5_personThen_16 : decode cX5_personThen 16 = .ok (.ireturn, 1) := by decide +kernel
theorem dX5_personThen_17 : decode cX5_personThen 17 = .ok (.iload_n 2, 1) := by decide +kernel
theorem dX5_personThen_18 : decode cX5_personThen 18 = .ok (.iconst 0, 1) := by decide +kernel
theorem dX5_personThen_19 : decode cX5_personThen 19 = .ok (.bipush 60, 2) := by decide +kernel
theorem dX5_personThen_21 : decode cX5_personThen 21 = .ok (.invokestatic 220, 3) := by decide +kernel
theorem dX5_personThen_24 : decode cX5_personThen 24 = .ok (.istore 4, 2) := by decide +kernel
theorem dX5_personThen_26 : decode cX5_personThen 26 = .ok (.iload 4, 2) := by decide +kernel
theorem dX5_personThen_28 : decode cX5_personThen 28 = .ok (.ifCond .eq 10, 3) := by decide +kernel
theorem dX5_personThen_31 : decode cX5_personThen 31 = .ok (.aload_n 0, 1) := by decide +kernel
theorem dX5_personThen_32 : decode cX5_personThen 32 = .ok (.iload 4, 2) := by decide +kernel
theorem dX5_personThen_34 : decode cX5_personThen 34 = .ok (.invokevirtual 60, 3) := by decide +kernel
theorem dX5_personThen_37 : decode cX5_personThen 37 = .ok (.ireturn, 1) := by decide +kernel
theorem dX5_personThen_38 : decode cX5_personThen 38 = .ok (.iload_n 3, 1) := by decide +kernel
theorem dX5_personThen_39 : decode cX5_personThen 39 = .ok (.ifCond .eq 15, 3) := by decide +kernel
theorem dX5_personThen_42 : decode cX5_personThen 42 = .ok (.iload_n 3, 1) := by decide +kernel
theorem dX5_personThen_43 : decode cX5_personThen 43 = .ok (.iconst 1, 1) := by decide +kernel
theorem dX5_personThen_44 : decode cX5_personThen 44 = .ok (.if_icmp .eq 10, 3) := by decide +kernel
theorem dX5_personThen_47 : decode cX5_personThen 47 = .ok (.aload_n 0, 1) := by decide +kernel
theorem dX5_personThen_48 : decode cX5_personThen 48 = .ok (.bipush (-2), 2) := by decide +kernel
theorem dX5_personThen_50 : decode cX5_personThen 50 = .ok (.invokevirtual 60, 3) := by decide +kernel
theorem dX5_personThen_53 : decode cX5_personThen 53 = .ok (.ireturn, 1) := by decide +kernel
theorem dX5_personThen_54 : decode cX5_personThen 54 = .ok (.aload_n 0, 1) := by decide +kernel
theorem dX5_personThen_55 : decode cX5_personThen 55 = .ok (.iload_n 2, 1) := by decide +kernel
theorem dX5_personThen_56 : decode cX5_personThen 56 = .ok (.invokevirtual 227, 3) := by decide +kernel
theorem dX5_personThen_59 : decode cX5_personThen 59 = .ok (.iload_n 3, 1) := by decide +kernel
theorem dX5_personThen_60 : decode cX5_personThen 60 = .ok (.ifCond .ne 18, 3) := by decide +kernel
theorem dX5_personThen_63 : decode cX5_personThen 63 = .ok (.aload_n 0, 1) := by decide +kernel
theorem dX5_personThen_64 : decode cX5_personThen 64 = .ok (.getfield 50, 3) := by decide +kernel
theorem dX5_personThen_67 : decode cX5_personThen 67 = .ok (.getfield 81, 3) := by decide +kernel
theorem dX5_personThen_70 : decode cX5_personThen 70 = .ok (.getfield 135, 3) := by decide +kernel
theorem dX5_personThen_73 : decode cX5_personThen 73 = .ok (.iload_n 1, 1) := by decide +kernel
theorem dX5_personThen_74 : decode cX5_personThen 74 = .ok (.iaload, 1) := by decide +kernel
theorem dX5_personThen_75 : decode cX5_personThen 75 = .ok (.goto 14, 3) := by decide +kernel
theorem dX5_personThen_78 : decode cX5_personThen 78 = .ok (.aload_n 0, 1) := by decide +kernel
theorem dX5_personThen_79 : decode cX5_personThen 79 = .ok (.getfield 50, 3) := by decide +kernel
theorem dX5_personThen_82 : decode cX5_personThen 82 = .ok (.getfield 81, 3) := by decide +kernel
theorem dX5_personThen_85 : decode cX5_personThen 85 = .ok (.iload_n 1, 1) := by decide +kernel
theorem dX5_personThen_86 : decode cX5_personThen 86 = .ok (.invokevirtual 156, 3) := by decide +kernel
theorem dX5_personThen_89 : decode cX5_personThen 89 = .ok (.ireturn, 1) := by decide +kernel
theorem dX5_clears_0 : decode cX5_clears 0 = .ok (.iload_n 1, 1) := by decide +kernel
theorem dX5_clears_1 : decode cX5_clears 1 = .ok (.invokestatic 186, 3) := by decide +kernel
theorem dX5_clears_4 : decode cX5_clears 4 = .ok (.ifCond .ne 9, 3) := by decide +kernel
theorem dX5_clears_7 : decode cX5_clears 7 = .ok (.aload_n 0, 1) := by decide +kernel
theorem dX5_clears_8 : decode cX5_clears 8 = .ok (.iconst (-1), 1) := by decide +kernel
theorem dX5_clears_9 : decode cX5_clears 9 = .ok (.invokevirtual 60, 3) := by decide +kernel
theorem dX5_clears_12 : decode cX5_clears 12 = .ok (.ireturn, 1) := by decide +kernel
theorem dX5_clears_13 : decode cX5_clears 13 = .ok (.aload_n 0, 1) := by decide +kernel
theorem dX5_clears_14 : decode cX5_clears 14 = .ok (.getfield 50, 3) := by decide +kernel
theorem dX5_clears_17 : decode cX5_clears 17 = .ok (.aload_n 0, 1) := by decide +kernel
theorem dX5_clears_18 : decode cX5_clears 18 = .ok (.getfield 10, 3) := by decide +kernel
theorem dX5_clears_21 : decode cX5_clears 21 = .ok (.invokevirtual 67, 3) := by decide +kernel
theorem dX5_clears_24 : decode cX5_clears 24 = .ok (.iconst 0, 1) := by decide +kernel
theorem dX5_clears_25 : decode cX5_clears 25 = .ok (.istore_n 2, 1) := by decide +kernel
theorem dX5_clears_26 : decode cX5_clears 26 = .ok (.iload_n 2, 1) := by decide +kernel
theorem dX5_clears_27 : decode cX5_clears 27 = .ok (.bipush 60, 2) := by decide +kernel
theorem dX5_clears_29 : decode cX5_clears 29 = .ok (.if_icmp .gt 30, 3) := by decide +kernel
theorem dX5_clears_32 : decode cX5_clears 32 = .ok (.aload_n 0, 1) := by decide +kernel
theorem dX5_clears_33 : decode cX5_clears 33 = .ok (.getfield 50, 3) := by decide +kernel
theorem dX5_clears_36 : decode cX5_clears 36 = .ok (.iload_n 1, 1) := by decide +kernel
theorem dX5_clears_37 : decode cX5_clears 37 = .ok (.invokevirtual 195, 3) := by decide +kernel
theorem dX5_clears_40 : decode cX5_clears 40 = .ok (.ifCond .ne 5, 3) := by decide +kernel
theorem dX5_clears_43 : decode cX5_clears 43 = .ok (.iload_n 2, 1) := by decide +kernel
theorem dX5_clears_44 : decode cX5_clears 44 = .ok (.ireturn, 1) := by decide +kernel
theorem dX5_clears_45 : decode cX5_clears 45 = .ok (.aload_n 0, 1) := by decide +kernel
theorem dX5_clears_46 : decode cX5_clears 46 = .ok (.getfield 50, 3) := by decide +kernel
theorem dX5_clears_49 : decode cX5_clears 49 = .ok (.iconst 1, 1) := by decide +kernel
theorem dX5_clears_50 : decode cX5_clears 50 = .ok (.invokevirtual 119, 3) := by decide +kernel
theorem dX5_clears_53 : decode cX5_clears 53 = .ok (.iinc 2 1, 3) := by decide +kernel
theorem dX5_clears_56 : decode cX5_clears 56 = .ok (.goto (-30), 3) := by decide +kernel
theorem dX5_clears_59 : decode cX5_clears 59 = .ok (.bipush (-9), 2) := by decide +kernel
theorem dX5_clears_61 : decode cX5_clears 61 = .ok (.ireturn, 1) := by decide +kernel
theorem dX5_stand_0 : decode cX5_stand 0 = .ok (.aload_n 0, 1) := by decide +kernel
theorem dX5_stand_1 : decode cX5_stand 1 = .ok (.getfield 10, 3) := by decide +kernel
theorem dX5_stand_4 : decode cX5_stand 4 = .ok (.iload_n 1, 1) := by decide +kernel
theorem dX5_stand_5 : decode cX5_stand 5 = .ok (.invokevirtual 123, 3) := by decide +kernel
theorem dX5_stand_8 : decode cX5_stand 8 = .ok (.ifCond .ne 9, 3) := by decide +kernel
theorem dX5_stand_11 : decode cX5_stand 11 = .ok (.aload_n 0, 1) := by decide +kernel
theorem dX5_stand_12 : decode cX5_stand 12 = .ok (.iconst (-1), 1) := by decide +kernel
theorem dX5_stand_13 : decode cX5_stand 13 = .ok (.invokevirtual 60, 3) := by decide +kernel
theorem dX5_stand_16 : decode cX5_stand 16 = .ok (.ireturn, 1) := by decide +kernel
theorem dX5_stand_17 : decode cX5_stand 17 = .ok (.iload_n 2, 1) := by decide +kernel
theorem dX5_stand_18 : decode cX5_stand 18 = .ok (.iconst 0, 1) := by decide +kernel
theorem dX5_stand_19 : decode cX5_stand 19 = .ok (.bipush 30, 2) := by decide +kernel
theorem dX5_stand_21 : decode cX5_stand 21 = .ok (.invokestatic 220, 3) := by decide +kernel
theorem dX5_stand_24 : decode cX5_stand 24 = .ok (.istore 4, 2) := by decide +kernel
theorem dX5_stand_26 : decode cX5_stand 26 = .ok (.iload 4, 2) := by decide +kernel
theorem dX5_stand_28 : decode cX5_stand 28 = .ok (.ifCond .eq 10, 3) := by decide +kernel
theorem dX5_stand_31 : decode cX5_stand 31 = .ok (.aload_n 0, 1) := by decide +kernel
theorem dX5_stand_32 : decode cX5_stand 32 = .ok (.iload 4, 2) := by decide +kernel
theorem dX5_stand_34 : decode cX5_stand 34 = .ok (.invokevirtual 60, 3) := by decide +kernel
theorem dX5_stand_37 : decode cX5_stand 37 = .ok (.ireturn, 1) := by decide +kernel
theorem dX5_stand_38 : decode cX5_stand 38 = .ok (.iload_n 3, 1) := by decide +kernel
theorem dX5_stand_39 : decode cX5_stand 39 = .ok (.ifCond .eq 15, 3) := by decide +kernel
theorem dX5_stand_42 : decode cX5_stand 42 = .ok (.iload_n 3, 1) := by decide +kernel
theorem dX5_stand_43 : decode cX5_stand 43 = .ok (.iconst 1, 1) := by decide +kernel
theorem dX5_stand_44 : decode cX5_stand 44 = .ok (.if_icmp .eq 10, 3) := by decide +kernel
theorem dX5_stand_47 : decode cX5_stand 47 = .ok (.aload_n 0, 1) := by decide +kernel
theorem dX5_stand_48 : decode cX5_stand 48 = .ok (.bipush (-2), 2) := by decide +kernel
theorem dX5_stand_50 : decode cX5_stand 50 = .ok (.invokevirtual 60, 3) := by decide +kernel
theorem dX5_stand_53 : decode cX5_stand 53 = .ok (.ireturn, 1) := by decide +kernel
theorem dX5_stand_54 : decode cX5_stand 54 = .ok (.iconst (-1), 1) := by decide +kernel
theorem dX5_stand_55 : decode cX5_stand 55 = .ok (.istore 5, 2) := by decide +kernel
theorem dX5_stand_57 : decode cX5_stand 57 = .ok (.iconst (-1), 1) := by decide +kernel
theorem dX5_stand_58 : decode cX5_stand 58 = .ok (.istore 6, 2) := by decide +kernel
theorem dX5_stand_60 : decode cX5_stand 60 = .ok (.iconst 0, 1) := by decide +kernel
theorem dX5_stand_61 : decode cX5_stand 61 = .ok (.istore 7, 2) := by decide +kernel
theorem dX5_stand_63 : decode cX5_stand 63 = .ok (.iload 7, 2) := by decide +kernel
theorem dX5_stand_65 : decode cX5_stand 65 = .ok (.bipush 24, 2) := by decide +kernel
theorem dX5_stand_67 : decode cX5_stand 67 = .ok (.if_icmp .ge 70, 3) := by decide +kernel
theorem dX5_stand_70 : decode cX5_stand 70 = .ok (.aload_n 0, 1) := by decide +kernel
theorem dX5_stand_71 : decode cX5_stand 71 = .ok (.getfield 50, 3) := by decide +kernel
theorem dX5_stand_74 : decode cX5_stand 74 = .ok (.aload_n 0, 1) := by decide +kernel
theorem dX5_stand_75 : decode cX5_stand 75 = .ok (.getfield 10, 3) := by decide +kernel
theorem dX5_stand_78 : decode cX5_stand 78 = .ok (.invokevirtual 67, 3) := by decide +kernel
theorem dX5_stand_81 : decode cX5_stand 81 = .ok (.aload_n 0, 1) := by decide +kernel
theorem dX5_stand_82 : decode cX5_stand 82 = .ok (.getfield 50, 3) := by decide +kernel
theorem dX5_stand_85 : decode cX5_stand 85 = .ok (.getfield 81, 3) := by decide +kernel
theorem dX5_stand_88 : decode cX5_stand 88 = .ok (.getfield 135, 3) := by decide +kernel
theorem dX5_stand_91 : decode cX5_stand 91 = .ok (.iload_n 1, 1) := by decide +kernel
theorem dX5_stand_92 : decode cX5_stand 92 = .ok (.iload 7, 2) := by decide +kernel
theorem dX5_stand_94 : decode cX5_stand 94 = .ok (.iastore, 1) := by decide +kernel
theorem dX5_stand_95 : decode cX5_stand 95 = .ok (.aload_n 0, 1) := by decide +kernel
theorem dX5_stand_96 : decode cX5_stand 96 = .ok (.getfield 50, 3) := by decide +kernel
theorem dX5_stand_99 : decode cX5_stand 99 = .ok (.iload_n 2, 1) := by decide +kernel
theorem dX5_stand_100 : decode cX5_stand 100 = .ok (.invokevirtual 119, 3) := by decide +kernel
theorem dX5_stand_103 : decode cX5_stand 103 = .ok (.aload_n 0, 1) := by decide +kernel
theorem dX5_stand_104 : decode cX5_stand 104 = .ok (.getfield 50, 3) := by decide +kernel
theorem dX5_stand_107 : decode cX5_stand 107 = .ok (.getfield 81, 3) := by decide +kernel
theorem dX5_stand_110 : decode cX5_stand 110 = .ok (.iload_n 1, 1) := by decide +kernel
theorem dX5_stand_111 : decode cX5_stand 111 = .ok (.invokevirtual 156, 3) := by decide +kernel
theorem dX5_stand_114 : decode cX5_stand 114 = .ok (.istore 8, 2) := by decide +kernel
theorem dX5_stand_116 : decode cX5_stand 116 = .ok (.iload 8, 2) := by decide +kernel
theorem dX5_stand_118 : decode cX5_stand 118 = .ok (.iload 6, 2) := by decide +kernel
theorem dX5_stand_120 : decode cX5_stand 120 = .ok (.if_icmp .le 11, 3) := by decide +kernel
theorem dX5_stand_123 : decode cX5_stand 123 = .ok (.iload 8, 2) := by decide +kernel
theorem dX5_stand_125 : decode cX5_stand 125 = .ok (.istore 6, 2) := by decide +kernel
theorem dX5_stand_127 : decode cX5_stand 127 = .ok (.iload 7, 2) := by decide +kernel
theorem dX5_stand_129 : decode cX5_stand 129 = .ok (.istore 5, 2) := by decide +kernel
theorem dX5_stand_131 : decode cX5_stand 131 = .ok (.iinc 7 1, 3) := by decide +kernel
theorem dX5_stand_134 : decode cX5_stand 134 = .ok (.goto (-71), 3) := by decide +kernel
theorem dX5_stand_137 : decode cX5_stand 137 = .ok (.iload_n 3, 1) := by decide +kernel
theorem dX5_stand_138 : decode cX5_stand 138 = .ok (.ifCond .ne 8, 3) := by decide +kernel
theorem dX5_stand_141 : decode cX5_stand 141 = .ok (.iload 5, 2) := by decide +kernel
theorem dX5_stand_143 : decode cX5_stand 143 = .ok (.goto 5, 3) := by decide +kernel
theorem dX5_stand_146 : decode cX5_stand 146 = .ok (.iload 6, 2) := by decide +kernel
theorem dX5_stand_148 : decode cX5_stand 148 = .ok (.ireturn, 1) := by decide +kernel
theorem dX5_islands_0 : decode cX5_islands 0 = .ok (.iload_n 1, 1) := by decide +kernel
theorem dX5_islands_1 : decode cX5_islands 1 = .ok (.bipush (-2), 2) := by decide +kernel
theorem dX5_islands_3 : decode cX5_islands 3 = .ok (.if_icmp .lt 9, 3) := by decide +kernel
theorem dX5_islands_6 : decode cX5_islands 6 = .ok (.iload_n 1, 1) := by decide +kernel
theorem dX5_islands_7 : decode cX5_islands 7 = .ok (.bipush 24, 2) := by decide +kernel
theorem dX5_islands_9 : decode cX5_islands 9 = .ok (.if_icmp .lt 9, 3) := by decide +kernel
theorem dX5_islands_12 : decode cX5_islands 12 = .ok (.aload_n 0, 1) := by decide +kernel
theorem dX5_islands_13 : decode cX5_islands 13 = .ok (.iconst (-1), 1) := by decide +kernel
theorem dX5_islands_14 : decode cX5_islands 14 = .ok (.invokevirtual 60, 3) := by decide +kernel
theorem dX5_islands_17 : decode cX5_islands 17 = .ok (.ireturn, 1) := by decide +kernel
theorem dX5_islands_18 : decode cX5_islands 18 = .ok (.aload_n 0, 1) := by decide +kernel
theorem dX5_islands_19 : decode cX5_islands 19 = .ok (.getfield 50, 3) := by decide +kernel
theorem dX5_islands_22 : decode cX5_islands 22 = .ok (.aload_n 0, 1) := by decide +kernel
theorem dX5_islands_23 : decode cX5_islands 23 = .ok (.getfield 10, 3) := by decide +kernel
theorem dX5_islands_26 : decode cX5_islands 26 = .ok (.invokevirtual 67, 3) := by decide +kernel
theorem dX5_islands_29 : decode cX5_islands 29 = .ok (.aload_n 0, 1) := by decide +kernel
theorem dX5_islands_30 : decode cX5_islands 30 = .ok (.getfield 50, 3) := by decide +kernel
theorem dX5_islands_33 : decode cX5_islands 33 = .ok (.invokevirtual 217, 3) := by decide +kernel
theorem dX5_islands_36 : decode cX5_islands 36 = .ok (.istore_n 2, 1) := by decide +kernel
theorem dX5_islands_37 : decode cX5_islands 37 = .ok (.iload_n 1, 1) := by decide +kernel
theorem dX5_islands_38 : decode cX5_islands 38 = .ok (.ifCond .lt 9, 3) := by decide +kernel
theorem dX5_islands_41 : decode cX5_islands 41 = .ok (.iload_n 1, 1) := by decide +kernel
theorem dX5_islands_42 : decode cX5_islands 42 = .ok (.iload_n 2, 1) := by decide +kernel
theorem dX5_islands_43 : decode cX5_islands 43 = .ok (.invokestatic 279, 3) := by decide +kernel
theorem dX5_islands_46 : decode cX5_islands 46 = .ok (.ireturn, 1) := by decide +kernel
theorem dX5_islands_47 : decode cX5_islands 47 = .ok (.iload_n 1, 1) := by decide +kernel
theorem dX5_islands_48 : decode cX5_islands 48 = .ok (.iconst (-1), 1) := by decide +kernel
theorem dX5_islands_49 : decode cX5_islands 49 = .ok (.if_icmp .ne 10, 3) := by decide +kernel
theorem dX5_islands_52 : decode cX5_islands 52 = .ok (.iload_n 2, 1) := by decide +kernel
theorem dX5_islands_53 : decode cX5_islands 53 = .ok (.invokestatic 284, 3) := by decide +kernel
theorem dX5_islands_56 : decode cX5_islands 56 = .ok (.goto 7, 3) := by decide +kernel
theorem dX5_islands_59 : decode cX5_islands 59 = .ok (.iload_n 2, 1) := by decide +kernel
theorem dX5_islands_60 : decode cX5_islands 60 = .ok (.invokestatic 287, 3) := by decide +kernel
theorem dX5_islands_63 : decode cX5_islands 63 = .ok (.ireturn, 1) := by decide +kernel
theorem dX5_way_0 : decode cX5_way 0 = .ok (.iload_n 1, 1) := by decide +kernel
theorem dX5_way_1 : decode cX5_way 1 = .ok (.invokestatic 186, 3) := by decide +kernel
theorem dX5_way_4 : decode cX5_way 4 = .ok (.ifCond .eq 10, 3) := by decide +kernel
theorem dX5_way_7 : decode cX5_way 7 = .ok (.iload_n 2, 1) := by decide +kernel
theorem dX5_way_8 : decode cX5_way 8 = .ok (.invokestatic 186, 3) := by decide +kernel
theorem dX5_way_11 : decode cX5_way 11 = .ok (.ifCond .ne 9, 3) := by decide +kernel
theorem dX5_way_14 : decode cX5_way 14 = .ok (.aload_n 0, 1) := by decide +kernel
theorem dX5_way_15 : decode cX5_way 15 = .ok (.iconst (-1), 1) := by decide +kernel
theorem dX5_way_16 : decode cX5_way 16 = .ok (.invokevirtual 60, 3) := by decide +kernel
theorem dX5_way_19 : decode cX5_way 19 = .ok (.ireturn, 1) := by decide +kernel
theorem dX5_way_20 : decode cX5_way 20 = .ok (.aload_n 0, 1) := by decide +kernel
theorem dX5_way_21 : decode cX5_way 21 = .ok (.getfield 50, 3) := by decide +kernel
theorem dX5_way_24 : decode cX5_way 24 = .ok (.aload_n 0, 1) := by decide +kernel
theorem dX5_way_25 : decode cX5_way 25 = .ok (.getfield 10, 3) := by decide +kernel
theorem dX5_way_28 : decode cX5_way 28 = .ok (.invokevirtual 67, 3) := by decide +kernel
theorem dX5_way_31 : decode cX5_way 31 = .ok (.iload_n 1, 1) := by decide +kernel
theorem dX5_way_32 : decode cX5_way 32 = .ok (.iload_n 2, 1) := by decide +kernel
theorem dX5_way_33 : decode cX5_way 33 = .ok (.aload_n 0, 1) := by decide +kernel
theorem dX5_way_34 : decode cX5_way 34 = .ok (.getfield 50, 3) := by decide +kernel
theorem dX5_way_37 : decode cX5_way 37 = .ok (.invokevirtual 217, 3) := by decide +kernel
theorem dX5_way_40 : decode cX5_way 40 = .ok (.invokestatic 295, 3) := by decide +kernel
theorem dX5_way_43 : decode cX5_way 43 = .ok (.ireturn, 1) := by decide +kernel
theorem dX5_sight_0 : decode cX5_sight 0 = .ok (.iload_n 1, 1) := by decide +kernel
theorem dX5_sight_1 : decode cX5_sight 1 = .ok (.tableswitch 63 0 4 #[35, 40, 48, 53, 58], 35) := by decide +kernel
theorem dX5_sight_36 : decode cX5_sight 36 = .ok (.aload_n 0, 1) := by decide +kernel
theorem dX5_sight_37 : decode cX5_sight 37 = .ok (.invokevirtual 298, 3) := by decide +kernel
theorem dX5_sight_40 : decode cX5_sight 40 = .ok (.ireturn, 1) := by decide +kernel
theorem dX5_sight_41 : decode cX5_sight 41 = .ok (.aload_n 0, 1) := by decide +kernel
theorem dX5_sight_42 : decode cX5_sight 42 = .ok (.getfield 10, 3) := by decide +kernel
theorem dX5_sight_45 : decode cX5_sight 45 = .ok (.invokevirtual 230, 3) := by decide +kernel
theorem dX5_sight_48 : decode cX5_sight 48 = .ok (.ireturn, 1) := by decide +kernel
theorem dX5_sight_49 : decode cX5_sight 49 = .ok (.aload_n 0, 1) := by decide +kernel
theorem dX5_sight_50 : decode cX5_sight 50 = .ok (.invokevirtual 301, 3) := by decide +kernel
theorem dX5_sight_53 : decode cX5_sight 53 = .ok (.ireturn, 1) := by decide +kernel
theorem dX5_sight_54 : decode cX5_sight 54 = .ok (.aload_n 0, 1) := by decide +kernel
theorem dX5_sight_55 : decode cX5_sight 55 = .ok (.invokevirtual 304, 3) := by decide +kernel
theorem dX5_sight_58 : decode cX5_sight 58 = .ok (.ireturn, 1) := by decide +kernel
theorem dX5_sight_59 : decode cX5_sight 59 = .ok (.aload_n 0, 1) := by decide +kernel
theorem dX5_sight_60 : decode cX5_sight 60 = .ok (.invokevirtual 307, 3) := by decide +kernel
theorem dX5_sight_63 : decode cX5_sight 63 = .ok (.ireturn, 1) := by decide +kernel
theorem dX5_sight_64 : decode cX5_sight 64 = .ok (.aload_n 0, 1) := by decide +kernel
theorem dX5_sight_65 : decode cX5_sight 65 = .ok (.bipush (-2), 2) := by decide +kernel
theorem dX5_sight_67 : decode cX5_sight 67 = .ok (.invokevirtual 60, 3) := by decide +kernel
theorem dX5_sight_70 : decode cX5_sight 70 = .ok (.ireturn, 1) := by decide +kernel
theorem dX5_richest_0 : decode cX5_richest 0 = .ok (.bipush (-9), 2) := by decide +kernel
theorem dX5_richest_2 : decode cX5_richest 2 = .ok (.istore_n 1, 1) := by decide +kernel
theorem dX5_richest_3 : decode cX5_richest 3 = .ok (.iconst (-1), 1) := by decide +kernel
theorem dX5_richest_4 : decode cX5_richest 4 = .ok (.istore_n 2, 1) := by decide +kernel
theorem dX5_richest_5 : decode cX5_richest 5 = .ok (.iconst 0, 1) := by decide +kernel
theorem dX5_richest_6 : decode cX5_richest 6 = .ok (.istore_n 3, 1) := by decide +kernel
theorem dX5_richest_7 : decode cX5_richest 7 = .ok (.iload_n 3, 1) := by decide +kernel
theorem dX5_richest_8 : decode cX5_richest 8 = .ok (.aload_n 0, 1) := by decide +kernel
theorem dX5_richest_9 : decode cX5_richest 9 = .ok (.getfield 10, 3) := by decide +kernel
theorem dX5_richest_12 : decode cX5_richest 12 = .ok (.getfield 204, 3) := by decide +kernel
theorem dX5_richest_15 : decode cX5_richest 15 = .ok (.if_icmp .ge 30, 3) := by decide +kernel
theorem dX5_richest_18 : decode cX5_richest 18 = .ok (.aload_n 0, 1) := by decide +kernel
theorem dX5_richest_19 : decode cX5_richest 19 = .ok (.getfield 10, 3) := by decide +kernel
theorem dX5_richest_22 : decode cX5_richest 22 = .ok (.iload_n 3, 1) := by decide +kernel
theorem dX5_richest_23 : decode cX5_richest 23 = .ok (.invokevirtual 156, 3) := by decide +kernel
theorem dX5_richest_26 : decode cX5_richest 26 = .ok (.istore 4, 2) := by decide +kernel
end
section
theorem dX5_richest_28 : decode cX5_richest 28 = .ok (.iload 4, 2) := by decide +kernel
theorem dX5_richest_30 : decode cX5_richest 30 = .ok (.iload_n 2, 1) := by decide +kernel
theorem dX5_richest_31 : decode cX5_richest 31 = .ok (.if_icmp .le 8, 3) := by decide +kernel
theorem dX5_richest_34 : decode cX5_richest 34 = .ok (.iload 4, 2) := by decide +kernel
theorem dX5_richest_36 : decode cX5_richest 36 = .ok (.istore_n 2, 1) := by decide +kernel
theorem dX5_richest_37 : decode cX5_richest 37 = .ok (.iload_n 3, 1) := by decide +kernel
theorem dX5_richest_38 : decode cX5_richest 38 = .ok (.istore_n 1, 1) := by decide +kernel
theorem dX5_richest_39 : decode cX5_richest 39 = .ok (.iinc 3 1, 3) := by decide +kernel
theorem dX5_richest_42 : decode cX5_richest 42 = .ok (.goto (-35), 3) := by decide +kernel
theorem dX5_richest_45 : decode cX5_richest 45 = .ok (.iload_n 1, 1) := by decide +kernel
theorem dX5_richest_46 : decode cX5_richest 46 = .ok (.ireturn, 1) := by decide +kernel
theorem dX5_wetThings_0 : decode cX5_wetThings 0 = .ok (.aload_n 0, 1) := by decide +kernel
theorem dX5_wetThings_1 : decode cX5_wetThings 1 = .ok (.getfield 50, 3) := by decide +kernel
theorem dX5_wetThings_4 : decode cX5_wetThings 4 = .ok (.aload_n 0, 1) := by decide +kernel
theorem dX5_wetThings_5 : decode cX5_wetThings 5 = .ok (.getfield 10, 3) := by decide +kernel
theorem dX5_wetThings_8 : decode cX5_wetThings 8 = .ok (.invokevirtual 67, 3) := by decide +kernel
theorem dX5_wetThings_11 : decode cX5_wetThings 11 = .ok (.iconst 0, 1) := by decide +kernel
theorem dX5_wetThings_12 : decode cX5_wetThings 12 = .ok (.istore_n 1, 1) := by decide +kernel
theorem dX5_wetThings_13 : decode cX5_wetThings 13 = .ok (.iconst 0, 1) := by decide +kernel
theorem dX5_wetThings_14 : decode cX5_wetThings 14 = .ok (.istore_n 2, 1) := by decide +kernel
theorem dX5_wetThings_15 : decode cX5_wetThings 15 = .ok (.iload_n 2, 1) := by decide +kernel
theorem dX5_wetThings_16 : decode cX5_wetThings 16 = .ok (.aload_n 0, 1) := by decide +kernel
theorem dX5_wetThings_17 : decode cX5_wetThings 17 = .ok (.getfield 10, 3) := by decide +kernel
theorem dX5_wetThings_20 : decode cX5_wetThings 20 = .ok (.getfield 207, 3) := by decide +kernel
theorem dX5_wetThings_23 : decode cX5_wetThings 23 = .ok (.if_icmp .ge 34, 3) := by decide +kernel
theorem dX5_wetThings_26 : decode cX5_wetThings 26 = .ok (.aload_n 0, 1) := by decide +kernel
theorem dX5_wetThings_27 : decode cX5_wetThings 27 = .ok (.getfield 50, 3) := by decide +kernel
theorem dX5_wetThings_30 : decode cX5_wetThings 30 = .ok (.aload_n 0, 1) := by decide +kernel
theorem dX5_wetThings_31 : decode cX5_wetThings 31 = .ok (.getfield 10, 3) := by decide +kernel
theorem dX5_wetThings_34 : decode cX5_wetThings 34 = .ok (.getfield 165, 3) := by decide +kernel
theorem dX5_wetThings_37 : decode cX5_wetThings 37 = .ok (.iload_n 2, 1) := by decide +kernel
theorem dX5_wetThings_38 : decode cX5_wetThings 38 = .ok (.iaload, 1) := by decide +kernel
theorem dX5_wetThings_39 : decode cX5_wetThings 39 = .ok (.invokevirtual 195, 3) := by decide +kernel
theorem dX5_wetThings_42 : decode cX5_wetThings 42 = .ok (.ifCond .eq 9, 3) := by decide +kernel
theorem dX5_wetThings_45 : decode cX5_wetThings 45 = .ok (.iload_n 1, 1) := by decide +kernel
theorem dX5_wetThings_46 : decode cX5_wetThings 46 = .ok (.iconst 1, 1) := by decide +kernel
theorem dX5_wetThings_47 : decode cX5_wetThings 47 = .ok (.iload_n 2, 1) := by decide +kernel
theorem dX5_wetThings_48 : decode cX5_wetThings 48 = .ok (.ishl, 1) := by decide +kernel
theorem dX5_wetThings_49 : decode cX5_wetThings 49 = .ok (.ior, 1) := by decide +kernel
theorem dX5_wetThings_50 : decode cX5_wetThings 50 = .ok (.istore_n 1, 1) := by decide +kernel
theorem dX5_wetThings_51 : decode cX5_wetThings 51 = .ok (.iinc 2 1, 3) := by decide +kernel
theorem dX5_wetThings_54 : decode cX5_wetThings 54 = .ok (.goto (-39), 3) := by decide +kernel
theorem dX5_wetThings_57 : decode cX5_wetThings 57 = .ok (.iload_n 1, 1) := by decide +kernel
theorem dX5_wetThings_58 : decode cX5_wetThings 58 = .ok (.ireturn, 1) := by decide +kernel
theorem dX5_crowdedCell_0 : decode cX5_crowdedCell 0 = .ok (.bipush (-9), 2) := by decide +kernel
theorem dX5_crowdedCell_2 : decode cX5_crowdedCell 2 = .ok (.istore_n 1, 1) := by decide +kernel
theorem dX5_crowdedCell_3 : decode cX5_crowdedCell 3 = .ok (.iconst 0, 1) := by decide +kernel
theorem dX5_crowdedCell_4 : decode cX5_crowdedCell 4 = .ok (.istore_n 2, 1) := by decide +kernel
theorem dX5_crowdedCell_5 : decode cX5_crowdedCell 5 = .ok (.iconst 0, 1) := by decide +kernel
theorem dX5_crowdedCell_6 : decode cX5_crowdedCell 6 = .ok (.istore_n 3, 1) := by decide +kernel
theorem dX5_crowdedCell_7 : decode cX5_crowdedCell 7 = .ok (.iload_n 3, 1) := by decide +kernel
theorem dX5_crowdedCell_8 : decode cX5_crowdedCell 8 = .ok (.bipush 24, 2) := by decide +kernel
theorem dX5_crowdedCell_10 : decode cX5_crowdedCell 10 = .ok (.if_icmp .ge 33, 3) := by decide +kernel
theorem dX5_crowdedCell_13 : decode cX5_crowdedCell 13 = .ok (.aload_n 0, 1) := by decide +kernel
theorem dX5_crowdedCell_14 : decode cX5_crowdedCell 14 = .ok (.getfield 10, 3) := by decide +kernel
theorem dX5_crowdedCell_17 : decode cX5_crowdedCell 17 = .ok (.iload_n 3, 1) := by decide +kernel
theorem dX5_crowdedCell_18 : decode cX5_crowdedCell 18 = .ok (.invokevirtual 198, 3) := by decide +kernel
theorem dX5_crowdedCell_21 : decode cX5_crowdedCell 21 = .ok (.invokestatic 242, 3) := by decide +kernel
theorem dX5_crowdedCell_24 : decode cX5_crowdedCell 24 = .ok (.istore 4, 2) := by decide +kernel
theorem dX5_crowdedCell_26 : decode cX5_crowdedCell 26 = .ok (.iload 4, 2) := by decide +kernel
theorem dX5_crowdedCell_28 : decode cX5_crowdedCell 28 = .ok (.iload_n 2, 1) := by decide +kernel
theorem dX5_crowdedCell_29 : decode cX5_crowdedCell 29 = .ok (.if_icmp .le 8, 3) := by decide +kernel
theorem dX5_crowdedCell_32 : decode cX5_crowdedCell 32 = .ok (.iload 4, 2) := by decide +kernel
theorem dX5_crowdedCell_34 : decode cX5_crowdedCell 34 = .ok (.istore_n 2, 1) := by decide +kernel
theorem dX5_crowdedCell_35 : decode cX5_crowdedCell 35 = .ok (.iload_n 3, 1) := by decide +kernel
theorem dX5_crowdedCell_36 : decode cX5_crowdedCell 36 = .ok (.istore_n 1, 1) := by decide +kernel
theorem dX5_crowdedCell_37 : decode cX5_crowdedCell 37 = .ok (.iinc 3 1, 3) := by decide +kernel
theorem dX5_crowdedCell_40 : decode cX5_crowdedCell 40 = .ok (.goto (-33), 3) := by decide +kernel
theorem dX5_crowdedCell_43 : decode cX5_crowdedCell 43 = .ok (.iload_n 1, 1) := by decide +kernel
theorem dX5_crowdedCell_44 : decode cX5_crowdedCell 44 = .ok (.ireturn, 1) := by decide +kernel
theorem dX5_hoursAlike_0 : decode cX5_hoursAlike 0 = .ok (.aload_n 0, 1) := by decide +kernel
theorem dX5_hoursAlike_1 : decode cX5_hoursAlike 1 = .ok (.getfield 50, 3) := by decide +kernel
theorem dX5_hoursAlike_4 : decode cX5_hoursAlike 4 = .ok (.aload_n 0, 1) := by decide +kernel
theorem dX5_hoursAlike_5 : decode cX5_hoursAlike 5 = .ok (.getfield 10, 3) := by decide +kernel
theorem dX5_hoursAlike_8 : decode cX5_hoursAlike 8 = .ok (.invokevirtual 67, 3) := by decide +kernel
theorem dX5_hoursAlike_11 : decode cX5_hoursAlike 11 = .ok (.aload_n 0, 1) := by decide +kernel
theorem dX5_hoursAlike_12 : decode cX5_hoursAlike 12 = .ok (.getfield 50, 3) := by decide +kernel
theorem dX5_hoursAlike_15 : decode cX5_hoursAlike 15 = .ok (.invokevirtual 217, 3) := by decide +kernel
theorem dX5_hoursAlike_18 : decode cX5_hoursAlike 18 = .ok (.invokestatic 242, 3) := by decide +kernel
theorem dX5_hoursAlike_21 : decode cX5_hoursAlike 21 = .ok (.istore_n 1, 1) := by decide +kernel
theorem dX5_hoursAlike_22 : decode cX5_hoursAlike 22 = .ok (.iconst 0, 1) := by decide +kernel
theorem dX5_hoursAlike_23 : decode cX5_hoursAlike 23 = .ok (.istore_n 2, 1) := by decide +kernel
theorem dX5_hoursAlike_24 : decode cX5_hoursAlike 24 = .ok (.iconst 0, 1) := by decide +kernel
theorem dX5_hoursAlike_25 : decode cX5_hoursAlike 25 = .ok (.istore_n 3, 1) := by decide +kernel
theorem dX5_hoursAlike_26 : decode cX5_hoursAlike 26 = .ok (.iload_n 3, 1) := by decide +kernel
theorem dX5_hoursAlike_27 : decode cX5_hoursAlike 27 = .ok (.bipush 60, 2) := by decide +kernel
theorem dX5_hoursAlike_29 : decode cX5_hoursAlike 29 = .ok (.if_icmp .ge 34, 3) := by decide +kernel
theorem dX5_hoursAlike_32 : decode cX5_hoursAlike 32 = .ok (.aload_n 0, 1) := by decide +kernel
theorem dX5_hoursAlike_33 : decode cX5_hoursAlike 33 = .ok (.getfield 50, 3) := by decide +kernel
theorem dX5_hoursAlike_36 : decode cX5_hoursAlike 36 = .ok (.iconst 1, 1) := by decide +kernel
theorem dX5_hoursAlike_37 : decode cX5_hoursAlike 37 = .ok (.invokevirtual 119, 3) := by decide +kernel
theorem dX5_hoursAlike_40 : decode cX5_hoursAlike 40 = .ok (.aload_n 0, 1) := by decide +kernel
theorem dX5_hoursAlike_41 : decode cX5_hoursAlike 41 = .ok (.getfield 50, 3) := by decide +kernel
theorem dX5_hoursAlike_44 : decode cX5_hoursAlike 44 = .ok (.invokevirtual 217, 3) := by decide +kernel
theorem dX5_hoursAlike_47 : decode cX5_hoursAlike 47 = .ok (.invokestatic 242, 3) := by decide +kernel
theorem dX5_hoursAlike_50 : decode cX5_hoursAlike 50 = .ok (.iload_n 1, 1) := by decide +kernel
theorem dX5_hoursAlike_51 : decode cX5_hoursAlike 51 = .ok (.if_icmp .ne 6, 3) := by decide +kernel
theorem dX5_hoursAlike_54 : decode cX5_hoursAlike 54 = .ok (.iinc 2 1, 3) := by decide +kernel
theorem dX5_hoursAlike_57 : decode cX5_hoursAlike 57 = .ok (.iinc 3 1, 3) := by decide +kernel
theorem dX5_hoursAlike_60 : decode cX5_hoursAlike 60 = .ok (.goto (-34), 3) := by decide +kernel
theorem dX5_hoursAlike_63 : decode cX5_hoursAlike 63 = .ok (.iload_n 2, 1) := by decide +kernel
theorem dX5_hoursAlike_64 : decode cX5_hoursAlike 64 = .ok (.ireturn, 1) := by decide +kernel
theorem dX5_image_0 : decode cX5_image 0 = .ok (.aload_n 0, 1) := by decide +kernel
theorem dX5_image_1 : decode cX5_image 1 = .ok (.getfield 16, 3) := by decide +kernel
theorem dX5_image_4 : decode cX5_image 4 = .ok (.aload_n 0, 1) := by decide +kernel
theorem dX5_image_5 : decode cX5_image 5 = .ok (.getfield 10, 3) := by decide +kernel
theorem dX5_image_8 : decode cX5_image 8 = .ok (.invokevirtual 84, 3) := by decide +kernel
theorem dX5_image_11 : decode cX5_image 11 = .ok (.aload_n 0, 1) := by decide +kernel
theorem dX5_image_12 : decode cX5_image 12 = .ok (.iconst 1, 1) := by decide +kernel
theorem dX5_image_13 : decode cX5_image 13 = .ok (.putfield 19, 3) := by decide +kernel
theorem dX5_image_16 : decode cX5_image 16 = .ok (.aload_n 0, 1) := by decide +kernel
theorem dX5_image_17 : decode cX5_image 17 = .ok (.getfield 10, 3) := by decide +kernel
theorem dX5_image_20 : decode cX5_image 20 = .ok (.getfield 116, 3) := by decide +kernel
theorem dX5_image_23 : decode cX5_image 23 = .ok (.ireturn, 1) := by decide +kernel
theorem dX5_restore_0 : decode cX5_restore 0 = .ok (.aload_n 0, 1) := by decide +kernel
theorem dX5_restore_1 : decode cX5_restore 1 = .ok (.getfield 19, 3) := by decide +kernel
theorem dX5_restore_4 : decode cX5_restore 4 = .ok (.ifCond .ne 10, 3) := by decide +kernel
theorem dX5_restore_7 : decode cX5_restore 7 = .ok (.aload_n 0, 1) := by decide +kernel
theorem dX5_restore_8 : decode cX5_restore 8 = .ok (.bipush (-3), 2) := by decide +kernel
theorem dX5_restore_10 : decode cX5_restore 10 = .ok (.invokevirtual 60, 3) := by decide +kernel
theorem dX5_restore_13 : decode cX5_restore 13 = .ok (.ireturn, 1) := by decide +kernel
theorem dX5_restore_14 : decode cX5_restore 14 = .ok (.aload_n 0, 1) := by decide +kernel
theorem dX5_restore_15 : decode cX5_restore 15 = .ok (.getfield 10, 3) := by decide +kernel
theorem dX5_restore_18 : decode cX5_restore 18 = .ok (.aload_n 0, 1) := by decide +kernel
theorem dX5_restore_19 : decode cX5_restore 19 = .ok (.getfield 16, 3) := by decide +kernel
theorem dX5_restore_22 : decode cX5_restore 22 = .ok (.invokevirtual 84, 3) := by decide +kernel
theorem dX5_restore_25 : decode cX5_restore 25 = .ok (.aload_n 0, 1) := by decide +kernel
theorem dX5_restore_26 : decode cX5_restore 26 = .ok (.iconst 0, 1) := by decide +kernel
theorem dX5_restore_27 : decode cX5_restore 27 = .ok (.putfield 27, 3) := by decide +kernel
theorem dX5_restore_30 : decode cX5_restore 30 = .ok (.aload_n 0, 1) := by decide +kernel
theorem dX5_restore_31 : decode cX5_restore 31 = .ok (.getfield 10, 3) := by decide +kernel
theorem dX5_restore_34 : decode cX5_restore 34 = .ok (.getfield 116, 3) := by decide +kernel
theorem dX5_restore_37 : decode cX5_restore 37 = .ok (.ireturn, 1) := by decide +kernel
theorem dX5_refuse_0 : decode cX5_refuse 0 = .ok (.iload_n 1, 1) := by decide +kernel
theorem dX5_refuse_1 : decode cX5_refuse 1 = .ok (.ineg, 1) := by decide +kernel
theorem dX5_refuse_2 : decode cX5_refuse 2 = .ok (.istore_n 2, 1) := by decide +kernel
theorem dX5_refuse_3 : decode cX5_refuse 3 = .ok (.iload_n 2, 1) := by decide +kernel
theorem dX5_refuse_4 : decode cX5_refuse 4 = .ok (.ifCond .lt 19, 3) := by decide +kernel
theorem dX5_refuse_7 : decode cX5_refuse 7 = .ok (.iload_n 2, 1) := by decide +kernel
theorem dX5_refuse_8 : decode cX5_refuse 8 = .ok (.bipush 6, 2) := by decide +kernel
theorem dX5_refuse_10 : decode cX5_refuse 10 = .ok (.if_icmp .gt 13, 3) := by decide +kernel
theorem dX5_refuse_13 : decode cX5_refuse 13 = .ok (.aload_n 0, 1) := by decide +kernel
theorem dX5_refuse_14 : decode cX5_refuse 14 = .ok (.getfield 44, 3) := by decide +kernel
theorem dX5_refuse_17 : decode cX5_refuse 17 = .ok (.iload_n 2, 1) := by decide +kernel
theorem dX5_refuse_18 : decode cX5_refuse 18 = .ok (.dup2, 1) := by decide +kernel
theorem dX5_refuse_19 : decode cX5_refuse 19 = .ok (.iaload, 1) := by decide +kernel
theorem dX5_refuse_20 : decode cX5_refuse 20 = .ok (.iconst 1, 1) := by decide +kernel
theorem dX5_refuse_21 : decode cX5_refuse 21 = .ok (.iadd, 1) := by decide +kernel
theorem dX5_refuse_22 : decode cX5_refuse 22 = .ok (.iastore, 1) := by decide +kernel
theorem dX5_refuse_23 : decode cX5_refuse 23 = .ok (.iload_n 1, 1) := by decide +kernel
theorem dX5_refuse_24 : decode cX5_refuse 24 = .ok (.ireturn, 1) := by decide +kernel
theorem dX5_outOfRange_0 : decode cX5_outOfRange 0 = .ok (.iload_n 0, 1) := by decide +kernel
theorem dX5_outOfRange_1 : decode cX5_outOfRange 1 = .ok (.iload_n 1, 1) := by decide +kernel
theorem dX5_outOfRange_2 : decode cX5_outOfRange 2 = .ok (.if_icmp .ge 6, 3) := by decide +kernel
theorem dX5_outOfRange_5 : decode cX5_outOfRange 5 = .ok (.bipush (-4), 2) := by decide +kernel
theorem dX5_outOfRange_7 : decode cX5_outOfRange 7 = .ok (.ireturn, 1) := by decide +kernel
theorem dX5_outOfRange_8 : decode cX5_outOfRange 8 = .ok (.iload_n 0, 1) := by decide +kernel
theorem dX5_outOfRange_9 : decode cX5_outOfRange 9 = .ok (.iload_n 2, 1) := by decide +kernel
theorem dX5_outOfRange_10 : decode cX5_outOfRange 10 = .ok (.if_icmp .le 8, 3) := by decide +kernel
theorem dX5_outOfRange_13 : decode cX5_outOfRange 13 = .ok (.bipush (-6), 2) := by decide +kernel
theorem dX5_outOfRange_15 : decode cX5_outOfRange 15 = .ok (.goto 4, 3) := by decide +kernel
theorem dX5_outOfRange_18 : decode cX5_outOfRange 18 = .ok (.iconst 0, 1) := by decide +kernel
theorem dX5_outOfRange_19 : decode cX5_outOfRange 19 = .ok (.ireturn, 1) := by decide +kernel
theorem dX5_isCell_0 : decode cX5_isCell 0 = .ok (.iload_n 0, 1) := by decide +kernel
theorem dX5_isCell_1 : decode cX5_isCell 1 = .ok (.ifCond .lt 13, 3) := by decide +kernel
theorem dX5_isCell_4 : decode cX5_isCell 4 = .ok (.iload_n 0, 1) := by decide +kernel
theorem dX5_isCell_5 : decode cX5_isCell 5 = .ok (.bipush 24, 2) := by decide +kernel
theorem dX5_isCell_7 : decode cX5_isCell 7 = .ok (.if_icmp .ge 7, 3) := by decide +kernel
theorem dX5_isCell_10 : decode cX5_isCell 10 = .ok (.iconst 1, 1) := by decide +kernel
theorem dX5_isCell_11 : decode cX5_isCell 11 = .ok (.goto 4, 3) := by decide +kernel
theorem dX5_isCell_14 : decode cX5_isCell 14 = .ok (.iconst 0, 1) := by decide +kernel
theorem dX5_isCell_15 : decode cX5_isCell 15 = .ok (.ireturn, 1) := by decide +kernel
theorem dX5_orNone_0 : decode cX5_orNone 0 = .ok (.iload_n 0, 1) := by decide +kernel
theorem dX5_orNone_1 : decode cX5_orNone 1 = .ok (.iconst (-1), 1) := by decide +kernel
theorem dX5_orNone_2 : decode cX5_orNone 2 = .ok (.if_icmp .ne 8, 3) := by decide +kernel
theorem dX5_orNone_5 : decode cX5_orNone 5 = .ok (.bipush (-9), 2) := by decide +kernel
theorem dX5_orNone_7 : decode cX5_orNone 7 = .ok (.goto 4, 3) := by decide +kernel
theorem dX5_orNone_10 : decode cX5_orNone 10 = .ok (.iload_n 0, 1) := by decide +kernel
theorem dX5_orNone_11 : decode cX5_orNone 11 = .ok (.ireturn, 1) := by decide +kernel
theorem dX5_thinkOn_0 : decode cX5_thinkOn 0 = .ok (.aload_n 0, 1) := by decide +kernel
theorem dX5_thinkOn_1 : decode cX5_thinkOn 1 = .ok (.getfield 50, 3) := by decide +kernel
theorem dX5_thinkOn_4 : decode cX5_thinkOn 4 = .ok (.aload_n 0, 1) := by decide +kernel
theorem dX5_thinkOn_5 : decode cX5_thinkOn 5 = .ok (.getfield 10, 3) := by decide +kernel
theorem dX5_thinkOn_8 : decode cX5_thinkOn 8 = .ok (.invokevirtual 67, 3) := by decide +kernel
theorem dX5_thinkOn_11 : decode cX5_thinkOn 11 = .ok (.aload_n 0, 1) := by decide +kernel
theorem dX5_thinkOn_12 : decode cX5_thinkOn 12 = .ok (.getfield 50, 3) := by decide +kernel
theorem dX5_thinkOn_15 : decode cX5_thinkOn 15 = .ok (.iload_n 1, 1) := by decide +kernel
theorem dX5_thinkOn_16 : decode cX5_thinkOn 16 = .ok (.invokevirtual 119, 3) := by decide +kernel
theorem dX5_thinkOn_19 : decode cX5_thinkOn 19 = .ok (.return_, 1) := by decide +kernel
theorem dJ6_bitCount_0f7a4_0 : decode cJ6_bitCount_0f7a4 0 = .ok (.iload_n 0, 1) := by decide +kernel
theorem dJ6_bitCount_0f7a4_1 : decode cJ6_bitCount_0f7a4 1 = .ok (.iload_n 0, 1) := by decide +kernel
theorem dJ6_bitCount_0f7a4_2 : decode cJ6_bitCount_0f7a4 2 = .ok (.iconst 1, 1) := by decide +kernel
theorem dJ6_bitCount_0f7a4_3 : decode cJ6_bitCount_0f7a4 3 = .ok (.iushr, 1) := by decide +kernel
theorem dJ6_bitCount_0f7a4_4 : decode cJ6_bitCount_0f7a4 4 = .ok (.ldc_w 265, 3) := by decide +kernel
theorem dJ6_bitCount_0f7a4_7 : decode cJ6_bitCount_0f7a4 7 = .ok (.iand, 1) := by decide +kernel
theorem dJ6_bitCount_0f7a4_8 : decode cJ6_bitCount_0f7a4 8 = .ok (.isub, 1) := by decide +kernel
theorem dJ6_bitCount_0f7a4_9 : decode cJ6_bitCount_0f7a4 9 = .ok (.istore_n 0, 1) := by decide +kernel
theorem dJ6_bitCount_0f7a4_10 : decode cJ6_bitCount_0f7a4 10 = .ok (.iload_n 0, 1) := by decide +kernel
theorem dJ6_bitCount_0f7a4_11 : decode cJ6_bitCount_0f7a4 11 = .ok (.ldc_w 266, 3) := by decide +kernel
theorem dJ6_bitCount_0f7a4_14 : decode cJ6_bitCount_0f7a4 14 = .ok (.iand, 1) := by decide +kernel
theorem dJ6_bitCount_0f7a4_15 : decode cJ6_bitCount_0f7a4 15 = .ok (.iload_n 0, 1) := by decide +kernel
theorem dJ6_bitCount_0f7a4_16 : decode cJ6_bitCount_0f7a4 16 = .ok (.iconst 2, 1) := by decide +kernel
theorem dJ6_bitCount_0f7a4_17 : decode cJ6_bitCount_0f7a4 17 = .ok (.iushr, 1) := by decide +kernel
theorem dJ6_bitCount_0f7a4_18 : decode cJ6_bitCount_0f7a4 18 = .ok (.ldc_w 266, 3) := by decide +kernel
theorem dJ6_bitCount_0f7a4_21 : decode cJ6_bitCount_0f7a4 21 = .ok (.iand, 1) := by decide +kernel
theorem dJ6_bitCount_0f7a4_22 : decode cJ6_bitCount_0f7a4 22 = .ok (.iadd, 1) := by decide +kernel
theorem dJ6_bitCount_0f7a4_23 : decode cJ6_bitCount_0f7a4 23 = .ok (.istore_n 0, 1) := by decide +kernel
theorem dJ6_bitCount_0f7a4_24 : decode cJ6_bitCount_0f7a4 24 = .ok (.iload_n 0, 1) := by decide +kernel
theorem dJ6_bitCount_0f7a4_25 : decode cJ6_bitCount_0f7a4 25 = .ok (.iload_n 0, 1) := by decide +kernel
theorem dJ6_bitCount_0f7a4_26 : decode cJ6_bitCount_0f7a4 26 = .ok (.iconst 4, 1) := by decide +kernel
theorem dJ6_bitCount_0f7a4_27 : decode cJ6_bitCount_0f7a4 27 = .ok (.iushr, 1) := by decide +kernel
theorem dJ6_bitCount_0f7a4_28 : decode cJ6_bitCount_0f7a4 28 = .ok (.iadd, 1) := by decide +kernel
theorem dJ6_bitCount_0f7a4_29 : decode cJ6_bitCount_0f7a4 29 = .ok (.ldc_w 267, 3) := by decide +kernel
theorem dJ6_bitCount_0f7a4_32 : decode cJ6_bitCount_0f7a4 32 = .ok (.iand, 1) := by decide +kernel
theorem dJ6_bitCount_0f7a4_33 : decode cJ6_bitCount_0f7a4 33 = .ok (.istore_n 0, 1) := by decide +kernel
theorem dJ6_bitCount_0f7a4_34 : decode cJ6_bitCount_0f7a4 34 = .ok (.iload_n 0, 1) := by decide +kernel
theorem dJ6_bitCount_0f7a4_35 : decode cJ6_bitCount_0f7a4 35 = .ok (.iload_n 0, 1) := by decide +kernel
theorem dJ6_bitCount_0f7a4_36 : decode cJ6_bitCount_0f7a4 36 = .ok (.bipush 8, 2) := by decide +kernel
theorem dJ6_bitCount_0f7a4_38 : decode cJ6_bitCount_0f7a4 38 = .ok (.iushr, 1) := by decide +kernel
theorem dJ6_bitCount_0f7a4_39 : decode cJ6_bitCount_0f7a4 39 = .ok (.iadd, 1) := by decide +kernel
theorem dJ6_bitCount_0f7a4_40 : decode cJ6_bitCount_0f7a4 40 = .ok (.istore_n 0, 1) := by decide +kernel
theorem dJ6_bitCount_0f7a4_41 : decode cJ6_bitCount_0f7a4 41 = .ok (.iload_n 0, 1) := by decide +kernel
theorem dJ6_bitCount_0f7a4_42 : decode cJ6_bitCount_0f7a4 42 = .ok (.iload_n 0, 1) := by decide +kernel
theorem dJ6_bitCount_0f7a4_43 : decode cJ6_bitCount_0f7a4 43 = .ok (.bipush 16, 2) := by decide +kernel
theorem dJ6_bitCount_0f7a4_45 : decode cJ6_bitCount_0f7a4 45 = .ok (.iushr, 1) := by decide +kernel
theorem dJ6_bitCount_0f7a4_46 : decode cJ6_bitCount_0f7a4 46 = .ok (.iadd, 1) := by decide +kernel
theorem dJ6_bitCount_0f7a4_47 : decode cJ6_bitCount_0f7a4 47 = .ok (.istore_n 0, 1) := by decide +kernel
theorem dJ6_bitCount_0f7a4_48 : decode cJ6_bitCount_0f7a4 48 = .ok (.iload_n 0, 1) := by decide +kernel
theorem dJ6_bitCount_0f7a4_49 : decode cJ6_bitCount_0f7a4 49 = .ok (.bipush 63, 2) := by decide +kernel
theorem dJ6_bitCount_0f7a4_51 : decode cJ6_bitCount_0f7a4 51 = .ok (.iand, 1) := by decide +kernel
theorem dJ6_bitCount_0f7a4_52 : decode cJ6_bitCount_0f7a4 52 = .ok (.ireturn, 1) := by decide +kernel
theorem dJ9_abs_0f7a4_0 : decode cJ9_abs_0f7a4 0 = .ok (.iload_n 0, 1) := by decide +kernel
theorem dJ9_abs_0f7a4_1 : decode cJ9_abs_0f7a4 1 = .ok (.ifCond .ge 8, 3) := by decide +kernel
theorem dJ9_abs_0f7a4_4 : decode cJ9_abs_0f7a4 4 = .ok (.iload_n 0, 1) := by decide +kernel
theorem dJ9_abs_0f7a4_5 : decode cJ9_abs_0f7a4 5 = .ok (.ineg, 1) := by decide +kernel
theorem dJ9_abs_0f7a4_6 : decode cJ9_abs_0f7a4 6 = .ok (.goto 4, 3) := by decide +kernel
theorem dJ9_abs_0f7a4_9 : decode cJ9_abs_0f7a4 9 = .ok (.iload_n 0, 1) := by decide +kernel
theorem dJ9_abs_0f7a4_10 : decode cJ9_abs_0f7a4 10 = .ok (.ireturn, 1) := by decide +kernel
theorem dJ9_max_7cf53_0 : decode cJ9_max_7cf53 0 = .ok (.iload_n 0, 1) := by decide +kernel
theorem dJ9_max_7cf53_1 : decode cJ9_max_7cf53 1 = .ok (.iload_n 1, 1) := by decide +kernel
theorem dJ9_max_7cf53_2 : decode cJ9_max_7cf53 2 = .ok (.if_icmp .lt 7, 3) := by decide +kernel
theorem dJ9_max_7cf53_5 : decode cJ9_max_7cf53 5 = .ok (.iload_n 0, 1) := by decide +kernel
theorem dJ9_max_7cf53_6 : decode cJ9_max_7cf53 6 = .ok (.goto 4, 3) := by decide +kernel
theorem dJ9_max_7cf53_9 : decode cJ9_max_7cf53 9 = .ok (.iload_n 1, 1) := by decide +kernel
theorem dJ9_max_7cf53_10 : decode cJ9_max_7cf53 10 = .ok (.ireturn, 1) := by decide +kernel
theorem dJ9_min_7cf53_0 : decode cJ9_min_7cf53 0 = .ok (.iload_n 0, 1) := by decide +kernel
theorem dJ9_min_7cf53_1 : decode cJ9_min_7cf53 1 = .ok (.iload_n 1, 1) := by decide +kernel
theorem dJ9_min_7cf53_2 : decode cJ9_min_7cf53 2 = .ok (.if_icmp .gt 7, 3) := by decide +kernel
theorem dJ9_min_7cf53_5 : decode cJ9_min_7cf53 5 = .ok (.iload_n 0, 1) := by decide +kernel
theorem dJ9_min_7cf53_6 : decode cJ9_min_7cf53 6 = .ok (.goto 4, 3) := by decide +kernel
theorem dJ9_min_7cf53_9 : decode cJ9_min_7cf53 9 = .ok (.iload_n 1, 1) := by decide +kernel
theorem dJ9_min_7cf53_10 : decode cJ9_min_7cf53 10 = .ok (.ireturn, 1) := by decide +kernel
theorem dL_cell_0 : decode cL_cell 0 = .ok (.iload_n 1, 1) := by decide +kernel
theorem dL_cell_1 : decode cL_cell 1 = .ok (.aload_n 0, 1) := by decide +kernel
theorem dL_cell_2 : decode cL_cell 2 = .ok (.arraylength, 1) := by decide +kernel
theorem dL_cell_3 : decode cL_cell 3 = .ok (.if_icmp .ge 9, 3) := by decide +kernel
theorem dL_cell_6 : decode cL_cell 6 = .ok (.aload_n 0, 1) := by decide +kernel
theorem dL_cell_7 : decode cL_cell 7 = .ok (.iload_n 1, 1) := by decide +kernel
theorem dL_cell_8 : decode cL_cell 8 = .ok (.iaload, 1) := by decide +kernel
theorem dL_cell_9 : decode cL_cell 9 = .ok (.goto 11, 3) := by decide +kernel
theorem dL_cell_12 : decode cL_cell 12 = .ok (.sipush 7919, 3) := by decide +kernel
theorem dL_cell_15 : decode cL_cell 15 = .ok (.iload_n 1, 1) := by decide +kernel
theorem dL_cell_16 : decode cL_cell 16 = .ok (.imul, 1) := by decide +kernel
theorem dL_cell_17 : decode cL_cell 17 = .ok (.bipush 12, 2) := by decide +kernel
theorem dL_cell_19 : decode cL_cell 19 = .ok (.iadd, 1) := by decide +kernel
theorem dL_cell_20 : decode cL_cell 20 = .ok (.ireturn, 1) := by decide +kernel
theorem dL_pick_0 : decode cL_pick 0 = .ok (.iload_n 0, 1) := by decide +kernel
theorem dL_pick_1 : decode cL_pick 1 = .ok (.ldc 7, 2) := by decide +kernel
theorem dL_pick_3 : decode cL_pick 3 = .ok (.iand, 1) := by decide +kernel
theorem dL_pick_4 : decode cL_pick 4 = .ok (.iload_n 1, 1) := by decide +kernel
theorem dL_pick_5 : decode cL_pick 5 = .ok (.irem, 1) := by decide +kernel
theorem dL_pick_6 : decode cL_pick 6 = .ok (.ireturn, 1) := by decide +kernel
theorem dL_coast_0 : decode cL_coast 0 = .ok (.aload_n 1, 1) := by decide +kernel
theorem dL_coast_1 : decode cL_coast 1 = .ok (.iconst 0, 1) := by decide +kernel
theorem dL_coast_2 : decode cL_coast 2 = .ok (.invokestatic 27, 3) := by decide +kernel
theorem dL_coast_5 : decode cL_coast 5 = .ok (.bipush 6, 2) := by decide +kernel
theorem dL_coast_7 : decode cL_coast 7 = .ok (.invokestatic 33, 3) := by decide +kernel
theorem dL_coast_10 : decode cL_coast 10 = .ok (.istore_n 3, 1) := by decide +kernel
theorem dL_coast_11 : decode cL_coast 11 = .ok (.iload_n 3, 1) := by decide +kernel
theorem dL_coast_12 : decode cL_coast 12 = .ok (.ifCond .le 68, 3) := by decide +kernel
theorem dL_coast_15 : decode cL_coast 15 = .ok (.aload_n 0, 1) := by decide +kernel
theorem dL_coast_16 : decode cL_coast 16 = .ok (.aload_n 1, 1) := by decide +kernel
theorem dL_coast_17 : decode cL_coast 17 = .ok (.iload_n 3, 1) := by decide +kernel
theorem dL_coast_18 : decode cL_coast 18 = .ok (.invokestatic 27, 3) := by decide +kernel
theorem dL_coast_21 : decode cL_coast 21 = .ok (.bipush 7, 2) := by decide +kernel
theorem dL_coast_23 : decode cL_coast 23 = .ok (.invokestatic 33, 3) := by decide +kernel
theorem dL_coast_26 : decode cL_coast 26 = .ok (.aload_n 1, 1) := by decide +kernel
theorem dL_coast_27 : decode cL_coast 27 = .ok (.iload_n 3, 1) := by decide +kernel
theorem dL_coast_28 : decode cL_coast 28 = .ok (.invokestatic 27, 3) := by decide +kernel
theorem dL_coast_31 : decode cL_coast 31 = .ok (.iconst 3, 1) := by decide +kernel
theorem dL_coast_32 : decode cL_coast 32 = .ok (.ishr, 1) := by decide +kernel
theorem dL_coast_33 : decode cL_coast 33 = .ok (.bipush 10, 2) := by decide +kernel
theorem dL_coast_35 : decode cL_coast 35 = .ok (.invokestatic 33, 3) := by decide +kernel
theorem dL_coast_38 : decode cL_coast 38 = .ok (.aload_n 1, 1) := by decide +kernel
theorem dL_coast_39 : decode cL_coast 39 = .ok (.iload_n 3, 1) := by decide +kernel
theorem dL_coast_40 : decode cL_coast 40 = .ok (.invokestatic 27, 3) := by decide +kernel
theorem dL_coast_43 : decode cL_coast 43 = .ok (.bipush 7, 2) := by decide +kernel
theorem dL_coast_45 : decode cL_coast 45 = .ok (.ishr, 1) := by decide +kernel
theorem dL_coast_46 : decode cL_coast 46 = .ok (.aload_n 1, 1) := by decide +kernel
theorem dL_coast_47 : decode cL_coast 47 = .ok (.iload_n 3, 1) := by decide +kernel
theorem dL_coast_48 : decode cL_coast 48 = .ok (.invokestatic 27, 3) := by decide +kernel
theorem dL_coast_51 : decode cL_coast 51 = .ok (.bipush 12, 2) := by decide +kernel
theorem dL_coast_53 : decode cL_coast 53 = .ok (.ishr, 1) := by decide +kernel
theorem dL_coast_54 : decode cL_coast 54 = .ok (.iconst 2, 1) := by decide +kernel
theorem dL_coast_55 : decode cL_coast 55 = .ok (.invokestatic 33, 3) := by decide +kernel
theorem dL_coast_58 : decode cL_coast 58 = .ok (.ifCond .ne 8, 3) := by decide +kernel
theorem dL_coast_61 : decode cL_coast 61 = .ok (.bipush 10, 2) := by decide +kernel
theorem dL_coast_63 : decode cL_coast 63 = .ok (.goto 4, 3) := by decide +kernel
theorem dL_coast_66 : decode cL_coast 66 = .ok (.iconst 4, 1) := by decide +kernel
theorem dL_coast_67 : decode cL_coast 67 = .ok (.invokestatic 33, 3) := by decide +kernel
theorem dL_coast_70 : decode cL_coast 70 = .ok (.invokevirtual 37, 3) := by decide +kernel
theorem dL_coast_73 : decode cL_coast 73 = .ok (.pop, 1) := by decide +kernel
theorem dL_coast_74 : decode cL_coast 74 = .ok (.iinc 3 (-1), 3) := by decide +kernel
theorem dL_coast_77 : decode cL_coast 77 = .ok (.goto (-66), 3) := by decide +kernel
theorem dL_coast_80 : decode cL_coast 80 = .ok (.iconst 1, 1) := by decide +kernel
theorem dL_coast_81 : decode cL_coast 81 = .ok (.aload_n 1, 1) := by decide +kernel
theorem dL_coast_82 : decode cL_coast 82 = .ok (.bipush 7, 2) := by decide +kernel
theorem dL_coast_84 : decode cL_coast 84 = .ok (.invokestatic 27, 3) := by decide +kernel
theorem dL_coast_87 : decode cL_coast 87 = .ok (.iload_n 2, 1) := by decide +kernel
theorem dL_coast_88 : decode cL_coast 88 = .ok (.invokestatic 33, 3) := by decide +kernel
theorem dL_coast_91 : decode cL_coast 91 = .ok (.iadd, 1) := by decide +kernel
theorem dL_coast_92 : decode cL_coast 92 = .ok (.istore_n 3, 1) := by decide +kernel
theorem dL_coast_93 : decode cL_coast 93 = .ok (.iload_n 3, 1) := by decide +kernel
theorem dL_coast_94 : decode cL_coast 94 = .ok (.ifCond .le 58, 3) := by decide +kernel
theorem dL_coast_97 : decode cL_coast 97 = .ok (.aload_n 0, 1) := by decide +kernel
theorem dL_coast_98 : decode cL_coast 98 = .ok (.aload_n 1, 1) := by decide +kernel
theorem dL_coast_99 : decode cL_coast 99 = .ok (.bipush 7, 2) := by decide +kernel
theorem dL_coast_101 : decode cL_coast 101 = .ok (.iload_n 3, 1) := by decide +kernel
theorem dL_coast_102 : decode cL_coast 102 = .ok (.iadd, 1) := by decide +kernel
theorem dL_coast_103 : decode cL_coast 103 = .ok (.invokestatic 27, 3) := by decide +kernel
theorem dL_coast_106 : decode cL_coast 106 = .ok (.bipush 8, 2) := by decide +kernel
theorem dL_coast_108 : decode cL_coast 108 = .ok (.invokestatic 33, 3) := by decide +kernel
theorem dL_coast_111 : decode cL_coast 111 = .ok (.aload_n 1, 1) := by decide +kernel
theorem dL_coast_112 : decode cL_coast 112 = .ok (.bipush 7, 2) := by decide +kernel
theorem dL_coast_114 : decode cL_coast 114 = .ok (.iload_n 3, 1) := by decide +kernel
theorem dL_coast_115 : decode cL_coast 115 = .ok (.iadd, 1) := by decide +kernel
theorem dL_coast_116 : decode cL_coast 116 = .ok (.invokestatic 27, 3) := by decide +kernel
theorem dL_coast_119 : decode cL_coast 119 = .ok (.iconst 3, 1) := by decide +kernel
theorem dL_coast_120 : decode cL_coast 120 = .ok (.ishr, 1) := by decide +kernel
theorem dL_coast_121 : decode cL_coast 121 = .ok (.bipush 10, 2) := by decide +kernel
theorem dL_coast_123 : decode cL_coast 123 = .ok (.invokestatic 33, 3) := by decide +kernel
theorem dL_coast_126 : decode cL_coast 126 = .ok (.aload_n 1, 1) := by decide +kernel
theorem dL_coast_127 : decode cL_coast 127 = .ok (.bipush 7, 2) := by decide +kernel
theorem dL_coast_129 : decode cL_coast 129 = .ok (.iload_n 3, 1) := by decide +kernel
theorem dL_coast_130 : decode cL_coast 130 = .ok (.iadd, 1) := by decide +kernel
theorem dL_coast_131 : decode cL_coast 131 = .ok (.invokestatic 27, 3) := by decide +kernel
theorem dL_coast_134 : decode cL_coast 134 = .ok (.bipush 7, 2) := by decide +kernel
theorem dL_coast_136 : decode cL_coast 136 = .ok (.ishr, 1) := by decide +kernel
theorem dL_coast_137 : decode cL_coast 137 = .ok (.bipush 24, 2) := by decide +kernel
theorem dL_coast_139 : decode cL_coast 139 = .ok (.invokestatic 33, 3) := by decide +kernel
theorem dL_coast_142 : decode cL_coast 142 = .ok (.invokevirtual 41, 3) := by decide +kernel
theorem dL_coast_145 : decode cL_coast 145 = .ok (.pop, 1) := by decide +kernel
theorem dL_coast_146 : decode cL_coast 146 = .ok (.iinc 3 (-1), 3) := by decide +kernel
theorem dL_coast_149 : decode cL_coast 149 = .ok (.goto (-56), 3) := by decide +kernel
theorem dL_coast_152 : decode cL_coast 152 = .ok (.iconst 1, 1) := by decide +kernel
theorem dL_coast_153 : decode cL_coast 153 = .ok (.aload_n 1, 1) := by decide +kernel
theorem dL_coast_154 : decode cL_coast 154 = .ok (.bipush 13, 2) := by decide +kernel
theorem dL_coast_156 : decode cL_coast 156 = .ok (.invokestatic 27, 3) := by decide +kernel
theorem dL_coast_159 : decode cL_coast 159 = .ok (.bipush 7, 2) := by decide +kernel
theorem dL_coast_161 : decode cL_coast 161 = .ok (.invokestatic 33, 3) := by decide +kernel
theorem dL_coast_164 : decode cL_coast 164 = .ok (.iadd, 1) := by decide +kernel
theorem dL_coast_165 : decode cL_coast 165 = .ok (.istore_n 3, 1) := by decide +kernel
theorem dL_coast_166 : decode cL_coast 166 = .ok (.iload_n 3, 1) := by decide +kernel
theorem dL_coast_167 : decode cL_coast 167 = .ok (.ifCond .le 42, 3) := by decide +kernel
theorem dL_coast_170 : decode cL_coast 170 = .ok (.aload_n 0, 1) := by decide +kernel
theorem dL_coast_171 : decode cL_coast 171 = .ok (.aload_n 1, 1) := by decide +kernel
theorem dL_coast_172 : decode cL_coast 172 = .ok (.bipush 13, 2) := by decide +kernel
theorem dL_coast_174 : decode cL_coast 174 = .ok (.iload_n 3, 1) := by decide +kernel
theorem dL_coast_175 : decode cL_coast 175 = .ok (.iadd, 1) := by decide +kernel
theorem dL_coast_176 : decode cL_coast 176 = .ok (.invokestatic 27, 3) := by decide +kernel
theorem dL_coast_179 : decode cL_coast 179 = .ok (.bipush 10, 2) := by decide +kernel
theorem dL_coast_181 : decode cL_coast 181 = .ok (.invokestatic 33, 3) := by decide +kernel
theorem dL_coast_184 : decode cL_coast 184 = .ok (.aload_n 1, 1) := by decide +kernel
theorem dL_coast_185 : decode cL_coast 185 = .ok (.bipush 13, 2) := by decide +kernel
theorem dL_coast_187 : decode cL_coast 187 = .ok (.iload_n 3, 1) := by decide +kernel
theorem dL_coast_188 : decode cL_coast 188 = .ok (.iadd, 1) := by decide +kernel
theorem dL_coast_189 : decode cL_coast 189 = .ok (.invokestatic 27, 3) := by decide +kernel
theorem dL_coast_192 : decode cL_coast 192 = .ok (.iconst 4, 1) := by decide +kernel
theorem dL_coast_193 : decode cL_coast 193 = .ok (.ishr, 1) := by decide +kernel
theorem dL_coast_194 : decode cL_coast 194 = .ok (.bipush 24, 2) := by decide +kernel
theorem dL_coast_196 : decode cL_coast 196 = .ok (.invokestatic 33, 3) := by decide +kernel
theorem dL_coast_199 : decode cL_coast 199 = .ok (.invokevirtual 44, 3) := by decide +kernel
theorem dL_coast_202 : decode cL_coast 202 = .ok (.pop, 1) := by decide +kernel
theorem dL_coast_203 : decode cL_coast 203 = .ok (.iinc 3 (-1), 3) := by decide +kernel
theorem dL_coast_206 : decode cL_coast 206 = .ok (.goto (-40), 3) := by decide +kernel
theorem dL_coast_209 : decode cL_coast 209 = .ok (.aload_n 0, 1) := by decide +kernel
theorem dL_coast_210 : decode cL_coast 210 = .ok (.iconst 0, 1) := by decide +kernel
theorem dL_coast_211 : decode cL_coast 211 = .ok (.invokevirtual 47, 3) := by decide +kernel
theorem dL_coast_214 : decode cL_coast 214 = .ok (.istore_n 3, 1) := by decide +kernel
theorem dL_coast_215 : decode cL_coast 215 = .ok (.iconst 0, 1) := by decide +kernel
theorem dL_coast_216 : decode cL_coast 216 = .ok (.istore 4, 2) := by decide +kernel
theorem dL_coast_218 : decode cL_coast 218 = .ok (.iload 4, 2) := by decide +kernel
theorem dL_coast_220 : decode cL_coast 220 = .ok (.iconst 3, 1) := by decide +kernel
theorem dL_coast_221 : decode cL_coast 221 = .ok (.if_icmp .ge 88, 3) := by decide +kernel
theorem dL_coast_224 : decode cL_coast 224 = .ok (.aload_n 0, 1) := by decide +kernel
theorem dL_coast_225 : decode cL_coast 225 = .ok (.aload_n 1, 1) := by decide +kernel
theorem dL_coast_226 : decode cL_coast 226 = .ok (.bipush 21, 2) := by decide +kernel
theorem dL_coast_228 : decode cL_coast 228 = .ok (.iload 4, 2) := by decide +kernel
theorem dL_coast_230 : decode cL_coast 230 = .ok (.iadd, 1) := by decide +kernel
theorem dL_coast_231 : decode cL_coast 231 = .ok (.invokestatic 27, 3) := by decide +kernel
theorem dL_coast_234 : decode cL_coast 234 = .ok (.aload_n 0, 1) := by decide +kernel
theorem dL_coast_235 : decode cL_coast 235 = .ok (.iconst 1, 1) := by decide +kernel
theorem dL_coast_236 : decode cL_coast 236 = .ok (.invokevirtual 47, 3) := by decide +kernel
theorem dL_coast_239 : decode cL_coast 239 = .ok (.invokestatic 33, 3) := by decide +kernel
theorem dL_coast_242 : decode cL_coast 242 = .ok (.aload_n 1, 1) := by decide +kernel
theorem dL_coast_243 : decode cL_coast 243 = .ok (.bipush 21, 2) := by decide +kernel
theorem dL_coast_245 : decode cL_coast 245 = .ok (.iload 4, 2) := by decide +kernel
theorem dL_coast_247 : decode cL_coast 247 = .ok (.iadd, 1) := by decide +kernel
theorem dL_coast_248 : decode cL_coast 248 = .ok (.invokestatic 27, 3) := by decide +kernel
theorem dL_coast_251 : decode cL_coast 251 = .ok (.iconst 3, 1) := by decide +kernel
theorem dL_coast_252 : decode cL_coast 252 = .ok (.ishr, 1) := by decide +kernel
theorem dL_coast_253 : decode cL_coast 253 = .ok (.iload_n 3, 1) := by decide +kernel
theorem dL_coast_254 : decode cL_coast 254 = .ok (.iconst 1, 1) := by decide +kernel
theorem dL_coast_255 : decode cL_coast 255 = .ok (.iadd, 1) := by decide +kernel
theorem dL_coast_256 : decode cL_coast 256 = .ok (.invokestatic 33, 3) := by decide +kernel
theorem dL_coast_259 : decode cL_coast 259 = .ok (.iconst 1, 1) := by decide +kernel
theorem dL_coast_260 : decode cL_coast 260 = .ok (.isub, 1) := by decide +kernel
theorem dL_coast_261 : decode cL_coast 261 = .ok (.invokevirtual 50, 3) := by decide +kernel
theorem dL_coast_264 : decode cL_coast 264 = .ok (.pop, 1) := by decide +kernel
theorem dL_coast_265 : decode cL_coast 265 = .ok (.aload_n 0, 1) := by decide +kernel
theorem dL_coast_266 : decode cL_coast 266 = .ok (.aload_n 1, 1) := by decide +kernel
theorem dL_coast_267 : decode cL_coast 267 = .ok (.bipush 21, 2) := by decide +kernel
theorem dL_coast_269 : decode cL_coast 269 = .ok (.iload 4, 2) := by decide +kernel
theorem dL_coast_271 : decode cL_coast 271 = .ok (.iadd, 1) := by decide +kernel
theorem dL_coast_272 : decode cL_coast 272 = .ok (.invokestatic 27, 3) := by decide +kernel
theorem dL_coast_275 : decode cL_coast 275 = .ok (.bipush 6, 2) := by decide +kernel
theorem dL_coast_277 : decode cL_coast 277 = .ok (.ishr, 1) := by decide +kernel
theorem dL_coast_278 : decode cL_coast 278 = .ok (.iload_n 3, 1) := by decide +kernel
theorem dL_coast_279 : decode cL_coast 279 = .ok (.invokestatic 33, 3) := by decide +kernel
theorem dL_coast_282 : decode cL_coast 282 = .ok (.aload_n 1, 1) := by decide +kernel
theorem dL_coast_283 : decode cL_coast 283 = .ok (.bipush 21, 2) := by decide +kernel
theorem dL_coast_285 : decode cL_coast 285 = .ok (.iload 4, 2) := by decide +kernel
theorem dL_coast_287 : decode cL_coast 287 = .ok (.iadd, 1) := by decide +kernel
theorem dL_coast_288 : decode cL_coast 288 = .ok (.invokestatic 27, 3) := by decide +kernel
theorem dL_coast_291 : decode cL_coast 291 = .ok (.bipush 9, 2) := by decide +kernel
theorem dL_coast_293 : decode cL_coast 293 = .ok (.ishr, 1) := by decide +kernel
theorem dL_coast_294 : decode cL_coast 294 = .ok (.bipush 24, 2) := by decide +kernel
theorem dL_coast_296 : decode cL_coast 296 = .ok (.invokestatic 33, 3) := by decide +kernel
theorem dL_coast_299 : decode cL_coast 299 = .ok (.invokevirtual 53, 3) := by decide +kernel
theorem dL_coast_302 : decode cL_coast 302 = .ok (.pop, 1) := by decide +kernel
theorem dL_coast_303 : decode cL_coast 303 = .ok (.iinc 4 1, 3) := by decide +kernel
theorem dL_coast_306 : decode cL_coast 306 = .ok (.goto (-88), 3) := by decide +kernel
theorem dL_coast_309 : decode cL_coast 309 = .ok (.aload_n 0, 1) := by decide +kernel
theorem dL_coast_310 : decode cL_coast 310 = .ok (.iconst 1, 1) := by decide +kernel
theorem dL_coast_311 : decode cL_coast 311 = .ok (.aload_n 1, 1) := by decide +kernel
theorem dL_coast_312 : decode cL_coast 312 = .ok (.bipush 24, 2) := by decide +kernel
theorem dL_coast_314 : decode cL_coast 314 = .ok (.invokestatic 27, 3) := by decide +kernel
theorem dL_coast_317 : decode cL_coast 317 = .ok (.bipush 9, 2) := by decide +kernel
theorem dL_coast_319 : decode cL_coast 319 = .ok (.invokestatic 33, 3) := by decide +kernel
theorem dL_coast_322 : decode cL_coast 322 = .ok (.iadd, 1) := by decide +kernel
theorem dL_coast_323 : decode cL_coast 323 = .ok (.invokevirtual 56, 3) := by decide +kernel
theorem dL_coast_326 : decode cL_coast 326 = .ok (.pop, 1) := by decide +kernel
theorem dL_coast_327 : decode cL_coast 327 = .ok (.aload_n 1, 1) := by decide +kernel
theorem dL_coast_328 : decode cL_coast 328 = .ok (.bipush 25, 2) := by decide +kernel
theorem dL_coast_330 : decode cL_coast 330 = .ok (.invokestatic 27, 3) := by decide +kernel
theorem dL_coast_333 : decode cL_coast 333 = .ok (.bipush 12, 2) := by decide +kernel
theorem dL_coast_335 : decode cL_coast 335 = .ok (.invokestatic 33, 3) := by decide +kernel
theorem dL_coast_338 : decode cL_coast 338 = .ok (.istore 4, 2) := by decide +kernel
theorem dL_coast_340 : decode cL_coast 340 = .ok (.iload 4, 2) := by decide +kernel
theorem dL_coast_342 : decode cL_coast 342 = .ok (.ifCond .le 10, 3) := by decide +kernel
theorem dL_coast_345 : decode cL_coast 345 = .ok (.aload_n 0, 1) := by decide +kernel
theorem dL_coast_346 : decode cL_coast 346 = .ok (.iload 4, 2) := by decide +kernel
theorem dL_coast_348 : decode cL_coast 348 = .ok (.invokevirtual 59, 3) := by decide +kernel
theorem dL_coast_351 : decode cL_coast 351 = .ok (.pop, 1) := by decide +kernel
theorem dL_coast_352 : decode cL_coast 352 = .ok (.return_, 1) := by decide +kernel
theorem dL_law_0 : decode cL_law 0 = .ok (.new 19, 3) := by decide +kernel
theorem dL_law_3 : decode cL_law 3 = .ok (.dup, 1) := by decide +kernel
theorem dL_law_4 : decode cL_law 4 = .ok (.invokespecial 62, 3) := by decide +kernel
theorem dL_law_7 : decode cL_law 7 = .ok (.astore_n 1, 1) := by decide +kernel
theorem dL_law_8 : decode cL_law 8 = .ok (.aload_n 1, 1) := by decide +kernel
theorem dL_law_9 : decode cL_law 9 = .ok (.aload_n 0, 1) := by decide +kernel
theorem dL_law_10 : decode cL_law 10 = .ok (.iconst 5, 1) := by decide +kernel
theorem dL_law_11 : decode cL_law 11 = .ok (.invokestatic 63, 3) := by decide +kernel
theorem dL_law_14 : decode cL_law 14 = .ok (.aload_n 1, 1) := by decide +kernel
theorem dL_law_15 : decode cL_law 15 = .ok (.iconst 0, 1) := by decide +kernel
theorem dL_law_16 : decode cL_law 16 = .ok (.invokevirtual 47, 3) := by decide +kernel
theorem dL_law_19 : decode cL_law 19 = .ok (.istore_n 2, 1) := by decide +kernel
theorem dL_law_20 : decode cL_law 20 = .ok (.aload_n 1, 1) := by decide +kernel
theorem dL_law_21 : decode cL_law 21 = .ok (.iconst 1, 1) := by decide +kernel
theorem dL_law_22 : decode cL_law 22 = .ok (.invokevirtual 47, 3) := by decide +kernel
theorem dL_law_25 : decode cL_law 25 = .ok (.istore_n 3, 1) := by decide +kernel
theorem dL_law_26 : decode cL_law 26 = .ok (.aload_n 1, 1) := by decide +kernel
theorem dL_law_27 : decode cL_law 27 = .ok (.invokevirtual 66, 3) := by decide +kernel
theorem dL_law_30 : decode cL_law 30 = .ok (.istore 4, 2) := by decide +kernel
theorem dL_law_32 : decode cL_law 32 = .ok (.iconst 0, 1) := by decide +kernel
theorem dL_law_33 : decode cL_law 33 = .ok (.istore 5, 2) := by decide +kernel
theorem dL_law_35 : decode cL_law 35 = .ok (.iload 5, 2) := by decide +kernel
theorem dL_law_37 : decode cL_law 37 = .ok (.bipush 12, 2) := by decide +kernel
theorem dL_law_39 : decode cL_law 39 = .ok (.if_icmp .ge 609, 3) := by decide +kernel
theorem dL_law_42 : decode cL_law 42 = .ok (.bipush 8, 2) := by decide +kernel
theorem dL_law_44 : decode cL_law 44 = .ok (.newarray .int, 2) := by decide +kernel
theorem dL_law_46 : decode cL_law 46 = .ok (.astore 6, 2) := by decide +kernel
theorem dL_law_48 : decode cL_law 48 = .ok (.bipush 8, 2) := by decide +kernel
theorem dL_law_50 : decode cL_law 50 = .ok (.newarray .int, 2) := by decide +kernel
theorem dL_law_52 : decode cL_law 52 = .ok (.astore 7, 2) := by decide +kernel
theorem dL_law_54 : decode cL_law 54 = .ok (.iconst 5, 1) := by decide +kernel
theorem dL_law_55 : decode cL_law 55 = .ok (.newarray .int, 2) := by decide +kernel
theorem dL_law_57 : decode cL_law 57 = .ok (.astore 8, 2) := by decide +kernel
theorem dL_law_59 : decode cL_law 59 = .ok (.iconst 5, 1) := by decide +kernel
theorem dL_law_60 : decode cL_law 60 = .ok (.newarray .int, 2) := by decide +kernel
theorem dL_law_62 : decode cL_law 62 = .ok (.astore 9, 2) := by decide +kernel
theorem dL_law_64 : decode cL_law 64 = .ok (.iconst 0, 1) := by decide +kernel
theorem dL_law_65 : decode cL_law 65 = .ok (.istore 10, 2) := by decide +kernel
theorem dL_law_67 : decode cL_law 67 = .ok (.iload 10, 2) := by decide +kernel
theorem dL_law_69 : decode cL_law 69 = .ok (.iload_n 3, 1) := by decide +kernel
theorem dL_law_70 : decode cL_law 70 = .ok (.if_icmp .ge 33, 3) := by decide +kernel
theorem dL_law_73 : decode cL_law 73 = .ok (.aload 6, 2) := by decide +kernel
theorem dL_law_75 : decode cL_law 75 = .ok (.iload 10, 2) := by decide +kernel
theorem dL_law_77 : decode cL_law 77 = .ok (.aload_n 1, 1) := by decide +kernel
theorem dL_law_78 : decode cL_law 78 = .ok (.iload 10, 2) := by decide +kernel
theorem dL_law_80 : decode cL_law 80 = .ok (.iconst 2, 1) := by decide +kernel
theorem dL_law_81 : decode cL_law 81 = .ok (.invokevirtual 69, 3) := by decide +kernel
theorem dL_law_84 : decode cL_law 84 = .ok (.iastore, 1) := by decide +kernel
theorem dL_law_85 : decode cL_law 85 = .ok (.aload 7, 2) := by decide +kernel
theorem dL_law_87 : decode cL_law 87 = .ok (.iload 10, 2) := by decide +kernel
theorem dL_law_89 : decode cL_law 89 = .ok (.aload_n 1, 1) := by decide +kernel
theorem dL_law_90 : decode cL_law 90 = .ok (.iload 10, 2) := by decide +kernel
theorem dL_law_92 : decode cL_law 92 = .ok (.iconst 0, 1) := by decide +kernel
theorem dL_law_93 : decode cL_law 93 = .ok (.invokevirtual 69, 3) := by decide +kernel
theorem dL_law_96 : decode cL_law 96 = .ok (.iastore, 1) := by decide +kernel
theorem dL_law_97 : decode cL_law 97 = .ok (.iinc 10 1, 3) := by decide +kernel
theorem dL_law_100 : decode cL_law 100 = .ok (.goto (-33), 3) := by decide +kernel
theorem dL_law_103 : decode cL_law 103 = .ok (.iconst 0, 1) := by decide +kernel
theorem dL_law_104 : decode cL_law 104 = .ok (.istore 10, 2) := by decide +kernel
theorem dL_law_106 : decode cL_law 106 = .ok (.iload 10, 2) := by decide +kernel
theorem dL_law_108 : decode cL_law 108 = .ok (.iload_n 2, 1) := by decide +kernel
theorem dL_law_109 : decode cL_law 109 = .ok (.if_icmp .ge 34, 3) := by decide +kernel
theorem dL_law_112 : decode cL_law 112 = .ok (.aload 8, 2) := by decide +kernel
theorem dL_law_114 : decode cL_law 114 = .ok (.iload 10, 2) := by decide +kernel
theorem dL_law_116 : decode cL_law 116 = .ok (.aload_n 1, 1) := by decide +kernel
theorem dL_law_117 : decode cL_law 117 = .ok (.iload 10, 2) := by decide +kernel
theorem dL_law_119 : decode cL_law 119 = .ok (.iconst 3, 1) := by decide +kernel
theorem dL_law_120 : decode cL_law 120 = .ok (.invokevirtual 72, 3) := by decide +kernel
theorem dL_law_123 : decode cL_law 123 = .ok (.iastore, 1) := by decide +kernel
theorem dL_law_124 : decode cL_law 124 = .ok (.aload 9, 2) := by decide +kernel
theorem dL_law_126 : decode cL_law 126 = .ok (.iload 10, 2) := by decide +kernel
theorem dL_law_128 : decode cL_law 128 = .ok (.aload_n 1, 1) := by decide +kernel
theorem dL_law_129 : decode cL_law 129 = .ok (.iload 10, 2) := by decide +kernel
theorem dL_law_131 : decode cL_law 131 = .ok (.bipush 7, 2) := by decide +kernel
theorem dL_law_133 : decode cL_law 133 = .ok (.invokevirtual 72, 3) := by decide +kernel
theorem dL_law_136 : decode cL_law 136 = .ok (.iastore, 1) := by decide +kernel
theorem dL_law_137 : decode cL_law 137 = .ok (.iinc 10 1, 3) := by decide +kernel
theorem dL_law_140 : decode cL_law 140 = .ok (.goto (-34), 3) := by decide +kernel
theorem dL_law_143 : decode cL_law 143 = .ok (.aload_n 1, 1) := by decide +kernel
theorem dL_law_144 : decode cL_law 144 = .ok (.iconst 1, 1) := by decide +kernel
theorem dL_law_145 : decode cL_law 145 = .ok (.iconst 0, 1) := by decide +kernel
theorem dL_law_146 : decode cL_law 146 = .ok (.invokevirtual 75, 3) := by decide +kernel
theorem dL_law_149 : decode cL_law 149 = .ok (.istore 10, 2) := by decide +kernel
theorem dL_law_151 : decode cL_law 151 = .ok (.aload_n 1, 1) := by decide +kernel
theorem dL_law_152 : decode cL_law 152 = .ok (.iconst 1, 1) := by decide +kernel
theorem dL_law_153 : decode cL_law 153 = .ok (.iconst 1, 1) := by decide +kernel
theorem dL_law_154 : decode cL_law 154 = .ok (.invokevirtual 75, 3) := by decide +kernel
theorem dL_law_157 : decode cL_law 157 = .ok (.istore 11, 2) := by decide +kernel
theorem dL_law_159 : decode cL_law 159 = .ok (.aload_n 1, 1) := by decide +kernel
theorem dL_law_160 : decode cL_law 160 = .ok (.iconst 1, 1) := by decide +kernel
theorem dL_law_161 : decode cL_law 161 = .ok (.iconst 2, 1) := by decide +kernel
theorem dL_law_162 : decode cL_law 162 = .ok (.invokevirtual 75, 3) := by decide +kernel
theorem dL_law_165 : decode cL_law 165 = .ok (.istore 12, 2) := by decide +kernel
theorem dL_law_167 : decode cL_law 167 = .ok (.aload_n 1, 1) := by decide +kernel
theorem dL_law_168 : decode cL_law 168 = .ok (.iconst 1, 1) := by decide +kernel
theorem dL_law_169 : decode cL_law 169 = .ok (.invokevirtual 59, 3) := by decide +kernel
theorem dL_law_172 : decode cL_law 172 = .ok (.iload 11, 2) := by decide +kernel
theorem dL_law_174 : decode cL_law 174 = .ok (.if_icmp .ne 61, 3) := by decide +kernel
theorem dL_law_177 : decode cL_law 177 = .ok (.aload_n 1, 1) := by decide +kernel
theorem dL_law_178 : decode cL_law 178 = .ok (.iconst 3, 1) := by decide +kernel
theorem dL_law_179 : decode cL_law 179 = .ok (.invokevirtual 47, 3) := by decide +kernel
theorem dL_law_182 : decode cL_law 182 = .ok (.iload 4, 2) := by decide +kernel
theorem dL_law_184 : decode cL_law 184 = .ok (.iload 5, 2) := by decide +kernel
theorem dL_law_186 : decode cL_law 186 = .ok (.iadd, 1) := by decide +kernel
theorem dL_law_187 : decode cL_law 187 = .ok (.iconst 1, 1) := by decide +kernel
theorem dL_law_188 : decode cL_law 188 = .ok (.iadd, 1) := by decide +kernel
theorem dL_law_189 : decode cL_law 189 = .ok (.if_icmp .ne 46, 3) := by decide +kernel
theorem dL_law_192 : decode cL_law 192 = .ok (.aload_n 1, 1) := by decide +kernel
theorem dL_law_193 : decode cL_law 193 = .ok (.bipush 9, 2) := by decide +kernel
theorem dL_law_195 : decode cL_law 195 = .ok (.invokevirtual 47, 3) := by decide +kernel
theorem dL_law_198 : decode cL_law 198 = .ok (.iload 10, 2) := by decide +kernel
theorem dL_law_200 : decode cL_law 200 = .ok (.if_icmp .ne 35, 3) := by decide +kernel
theorem dL_law_203 : decode cL_law 203 = .ok (.aload_n 1, 1) := by decide +kernel
theorem dL_law_204 : decode cL_law 204 = .ok (.iconst 1, 1) := by decide +kernel
theorem dL_law_205 : decode cL_law 205 = .ok (.invokevirtual 78, 3) := by decide +kernel
theorem dL_law_208 : decode cL_law 208 = .ok (.iload 12, 2) := by decide +kernel
theorem dL_law_210 : decode cL_law 210 = .ok (.if_icmp .ne 25, 3) := by decide +kernel
theorem dL_law_213 : decode cL_law 213 = .ok (.aload_n 1, 1) := by decide +kernel
theorem dL_law_214 : decode cL_law 214 = .ok (.iconst 5, 1) := by decide +kernel
theorem dL_law_215 : decode cL_law 215 = .ok (.invokevirtual 47, 3) := by decide +kernel
theorem dL_law_218 : decode cL_law 218 = .ok (.iload 11, 2) := by decide +kernel
theorem dL_law_220 : decode cL_law 220 = .ok (.if_icmp .ne 15, 3) := by decide +kernel
theorem dL_law_223 : decode cL_law 223 = .ok (.iload_n 3, 1) := by decide +kernel
theorem dL_law_224 : decode cL_law 224 = .ok (.iload 12, 2) := by decide +kernel
theorem dL_law_226 : decode cL_law 226 = .ok (.invokestatic 81, 3) := by decide +kernel
theorem dL_law_229 : decode cL_law 229 = .ok (.isub, 1) := by decide +kernel
theorem dL_law_230 : decode cL_law 230 = .ok (.iload 11, 2) := by decide +kernel
theorem dL_law_232 : decode cL_law 232 = .ok (.if_icmp .eq 5, 3) := by decide +kernel
theorem dL_law_235 : decode cL_law 235 = .ok (.iconst 0, 1) := by decide +kernel
theorem dL_law_236 : decode cL_law 236 = .ok (.ireturn, 1) := by decide +kernel
theorem dL_law_237 : decode cL_law 237 = .ok (.iconst 5, 1) := by decide +kernel
theorem dL_law_238 : decode cL_law 238 = .ok (.newarray .int, 2) := by decide +kernel
theorem dL_law_240 : decode cL_law 240 = .ok (.astore 13, 2) := by decide +kernel
theorem dL_law_242 : decode cL_law 242 = .ok (.iconst 0, 1) := by decide +kernel
theorem dL_law_243 : decode cL_law 243 = .ok (.istore 14, 2) := by decide +kernel
theorem dL_law_245 : decode cL_law 245 = .ok (.iload 14, 2) := by decide +kernel
theorem dL_law_247 : decode cL_law 247 = .ok (.iload_n 3, 1) := by decide +kernel
theorem dL_law_248 : decode cL_law 248 = .ok (.if_icmp .ge 96, 3) := by decide +kernel
theorem dL_law_251 : decode cL_law 251 = .ok (.aload_n 1, 1) := by decide +kernel
theorem dL_law_252 : decode cL_law 252 = .ok (.iload 14, 2) := by decide +kernel
theorem dL_law_254 : decode cL_law 254 = .ok (.iconst 2, 1) := by decide +kernel
theorem dL_law_255 : decode cL_law 255 = .ok (.invokevirtual 69, 3) := by decide +kernel
theorem dL_law_258 : decode cL_law 258 = .ok (.istore 15, 2) := by decide +kernel
theorem dL_law_260 : decode cL_law 260 = .ok (.aload_n 1, 1) := by decide +kernel
theorem dL_law_261 : decode cL_law 261 = .ok (.iload 14, 2) := by decide +kernel
theorem dL_law_263 : decode cL_law 263 = .ok (.iconst 1, 1) := by decide +kernel
theorem dL_law_264 : decode cL_law 264 = .ok (.invokevirtual 69, 3) := by decide +kernel
theorem dL_law_267 : decode cL_law 267 = .ok (.istore 16, 2) := by decide +kernel
theorem dL_law_269 : decode cL_law 269 = .ok (.aload_n 1, 1) := by decide +kernel
theorem dL_law_270 : decode cL_law 270 = .ok (.iload 14, 2) := by decide +kernel
theorem dL_law_272 : decode cL_law 272 = .ok (.iconst 0, 1) := by decide +kernel
theorem dL_law_273 : decode cL_law 273 = .ok (.invokevirtual 69, 3) := by decide +kernel
theorem dL_law_276 : decode cL_law 276 = .ok (.aload 7, 2) := by decide +kernel
theorem dL_law_278 : decode cL_law 278 = .ok (.iload 14, 2) := by decide +kernel
theorem dL_law_280 : decode cL_law 280 = .ok (.iaload, 1) := by decide +kernel
theorem dL_law_281 : decode cL_law 281 = .ok (.if_icmp .eq 5, 3) := by decide +kernel
theorem dL_law_284 : decode cL_law 284 = .ok (.iconst 0, 1) := by decide +kernel
theorem dL_law_285 : decode cL_law 285 = .ok (.ireturn, 1) := by decide +kernel
theorem dL_law_286 : decode cL_law 286 = .ok (.iload 15, 2) := by decide +kernel
theorem dL_law_288 : decode cL_law 288 = .ok (.ifCond .lt 50, 3) := by decide +kernel
theorem dL_law_291 : decode cL_law 291 = .ok (.iload 15, 2) := by decide +kernel
theorem dL_law_293 : decode cL_law 293 = .ok (.aload 6, 2) := by decide +kernel
theorem dL_law_295 : decode cL_law 295 = .ok (.iload 14, 2) := by decide +kernel
theorem dL_law_297 : decode cL_law 297 = .ok (.iaload, 1) := by decide +kernel
theorem dL_law_298 : decode cL_law 298 = .ok (.if_icmp .ne 6, 3) := by decide +kernel
theorem dL_law_301 : decode cL_law 301 = .ok (.goto 37, 3) := by decide +kernel
theorem dL_law_304 : decode cL_law 304 = .ok (.aload 13, 2) := by decide +kernel
theorem dL_law_306 : decode cL_law 306 = .ok (.iload 15, 2) := by decide +kernel
theorem dL_law_308 : decode cL_law 308 = .ok (.dup2, 1) := by decide +kernel
theorem dL_law_309 : decode cL_law 309 = .ok (.iaload, 1) := by decide +kernel
theorem dL_law_310 : decode cL_law 310 = .ok (.iconst 1, 1) := by decide +kernel
theorem dL_law_311 : decode cL_law 311 = .ok (.iadd, 1) := by decide +kernel
theorem dL_law_312 : decode cL_law 312 = .ok (.iastore, 1) := by decide +kernel
theorem dL_law_313 : decode cL_law 313 = .ok (.aload_n 1, 1) := by decide +kernel
theorem dL_law_314 : decode cL_law 314 = .ok (.iload 15, 2) := by decide +kernel
theorem dL_law_316 : decode cL_law 316 = .ok (.iconst 3, 1) := by decide +kernel
theorem dL_law_317 : decode cL_law 317 = .ok (.invokevirtual 72, 3) := by decide +kernel
theorem dL_law_320 : decode cL_law 320 = .ok (.iload 16, 2) := by decide +kernel
theorem dL_law_322 : decode cL_law 322 = .ok (.if_icmp .ne 14, 3) := by decide +kernel
theorem dL_law_325 : decode cL_law 325 = .ok (.aload_n 1, 1) := by decide +kernel
theorem dL_law_326 : decode cL_law 326 = .ok (.iload 15, 2) := by decide +kernel
theorem dL_law_328 : decode cL_law 328 = .ok (.iconst 5, 1) := by decide +kernel
theorem dL_law_329 : decode cL_law 329 = .ok (.invokevirtual 72, 3) := by decide +kernel
theorem dL_law_332 : decode cL_law 332 = .ok (.iconst 1, 1) := by decide +kernel
theorem dL_law_333 : decode cL_law 333 = .ok (.if_icmp .ge 5, 3) := by decide +kernel
theorem dL_law_336 : decode cL_law 336 = .ok (.iconst 0, 1) := by decide +kernel
theorem dL_law_337 : decode cL_law 337 = .ok (.ireturn, 1) := by decide +kernel
theorem dL_law_338 : decode cL_law 338 = .ok (.iinc 14 1, 3) := by decide +kernel
theorem dL_law_341 : decode cL_law 341 = .ok (.goto (-96), 3) := by decide +kernel
theorem dL_law_344 : decode cL_law 344 = .ok (.iconst 0, 1) := by decide +kernel
theorem dL_law_345 : decode cL_law 345 = .ok (.istore 14, 2) := by decide +kernel
theorem dL_law_347 : decode cL_law 347 = .ok (.iload 14, 2) := by decide +kernel
theorem dL_law_349 : decode cL_law 349 = .ok (.iload_n 2, 1) := by decide +kernel
theorem dL_law_350 : decode cL_law 350 = .ok (.if_icmp .ge 292, 3) := by decide +kernel
theorem dL_law_353 : decode cL_law 353 = .ok (.aload_n 1, 1) := by decide +kernel
theorem dL_law_354 : decode cL_law 354 = .ok (.iload 14, 2) := by decide +kernel
theorem dL_law_356 : decode cL_law 356 = .ok (.iconst 3, 1) := by decide +kernel
theorem dL_law_357 : decode cL_law 357 = .ok (.invokevirtual 72, 3) := by decide +kernel
theorem dL_law_360 : decode cL_law 360 = .ok (.bipush 6, 2) := by decide +kernel
theorem dL_law_362 : decode cL_law 362 = .ok (.idiv, 1) := by decide +kernel
theorem dL_law_363 : decode cL_law 363 = .ok (.aload 8, 2) := by decide +kernel
theorem dL_law_365 : decode cL_law 365 = .ok (.iload 14, 2) := by decide +kernel
theorem dL_law_367 : decode cL_law 367 = .ok (.iaload, 1) := by decide +kernel
theorem dL_law_368 : decode cL_law 368 = .ok (.bipush 6, 2) := by decide +kernel
theorem dL_law_370 : decode cL_law 370 = .ok (.idiv, 1) := by decide +kernel
theorem dL_law_371 : decode cL_law 371 = .ok (.isub, 1) := by decide +kernel
theorem dL_law_372 : decode cL_law 372 = .ok (.invokestatic 86, 3) := by decide +kernel
theorem dL_law_375 : decode cL_law 375 = .ok (.aload_n 1, 1) := by decide +kernel
theorem dL_law_376 : decode cL_law 376 = .ok (.iload 14, 2) := by decide +kernel
theorem dL_law_378 : decode cL_law 378 = .ok (.iconst 3, 1) := by decide +kernel
theorem dL_law_379 : decode cL_law 379 = .ok (.invokevirtual 72, 3) := by decide +kernel
theorem dL_law_382 : decode cL_law 382 = .ok (.bipush 6, 2) := by decide +kernel
theorem dL_law_384 : decode cL_law 384 = .ok (.irem, 1) := by decide +kernel
theorem dL_law_385 : decode cL_law 385 = .ok (.aload 8, 2) := by decide +kernel
theorem dL_law_387 : decode cL_law 387 = .ok (.iload 14, 2) := by decide +kernel
theorem dL_law_389 : decode cL_law 389 = .ok (.iaload, 1) := by decide +kernel
theorem dL_law_390 : decode cL_law 390 = .ok (.bipush 6, 2) := by decide +kernel
theorem dL_law_392 : decode cL_law 392 = .ok (.irem, 1) := by decide +kernel
theorem dL_law_393 : decode cL_law 393 = .ok (.isub, 1) := by decide +kernel
theorem dL_law_394 : decode cL_law 394 = .ok (.invokestatic 86, 3) := by decide +kernel
theorem dL_law_397 : decode cL_law 397 = .ok (.iadd, 1) := by decide +kernel
theorem dL_law_398 : decode cL_law 398 = .ok (.istore 15, 2) := by decide +kernel
theorem dL_law_400 : decode cL_law 400 = .ok (.aload_n 1, 1) := by decide +kernel
theorem dL_law_401 : decode cL_law 401 = .ok (.iload 14, 2) := by decide +kernel
theorem dL_law_403 : decode cL_law 403 = .ok (.iconst 0, 1) := by decide +kernel
theorem dL_law_404 : decode cL_law 404 = .ok (.invokevirtual 72, 3) := by decide +kernel
theorem dL_law_407 : decode cL_law 407 = .ok (.istore 16, 2) := by decide +kernel
theorem dL_law_409 : decode cL_law 409 = .ok (.aload 13, 2) := by decide +kernel
theorem dL_law_411 : decode cL_law 411 = .ok (.iload 14, 2) := by decide +kernel
theorem dL_law_413 : decode cL_law 413 = .ok (.iaload, 1) := by decide +kernel
theorem dL_law_414 : decode cL_law 414 = .ok (.aload_n 1, 1) := by decide +kernel
theorem dL_law_415 : decode cL_law 415 = .ok (.iload 14, 2) := by decide +kernel
theorem dL_law_417 : decode cL_law 417 = .ok (.iconst 5, 1) := by decide +kernel
theorem dL_law_418 : decode cL_law 418 = .ok (.invokevirtual 72, 3) := by decide +kernel
theorem dL_law_421 : decode cL_law 421 = .ok (.if_icmp .gt 47, 3) := by decide +kernel
theorem dL_law_424 : decode cL_law 424 = .ok (.iload 15, 2) := by decide +kernel
theorem dL_law_426 : decode cL_law 426 = .ok (.aload_n 1, 1) := by decide +kernel
theorem dL_law_427 : decode cL_law 427 = .ok (.iload 14, 2) := by decide +kernel
theorem dL_law_429 : decode cL_law 429 = .ok (.iconst 4, 1) := by decide +kernel
theorem dL_law_430 : decode cL_law 430 = .ok (.invokevirtual 72, 3) := by decide +kernel
theorem dL_law_433 : decode cL_law 433 = .ok (.if_icmp .gt 35, 3) := by decide +kernel
theorem dL_law_436 : decode cL_law 436 = .ok (.iload 16, 2) := by decide +kernel
theorem dL_law_438 : decode cL_law 438 = .ok (.ifCond .eq 15, 3) := by decide +kernel
theorem dL_law_441 : decode cL_law 441 = .ok (.iload 16, 2) := by decide +kernel
theorem dL_law_443 : decode cL_law 443 = .ok (.iconst 3, 1) := by decide +kernel
theorem dL_law_444 : decode cL_law 444 = .ok (.if_icmp .eq 9, 3) := by decide +kernel
theorem dL_law_447 : decode cL_law 447 = .ok (.iload 16, 2) := by decide +kernel
theorem dL_law_449 : decode cL_law 449 = .ok (.iconst 4, 1) := by decide +kernel
theorem dL_law_450 : decode cL_law 450 = .ok (.if_icmp .ne 20, 3) := by decide +kernel
theorem dL_law_453 : decode cL_law 453 = .ok (.aload 9, 2) := by decide +kernel
theorem dL_law_455 : decode cL_law 455 = .ok (.iload 14, 2) := by decide +kernel
theorem dL_law_457 : decode cL_law 457 = .ok (.iaload, 1) := by decide +kernel
theorem dL_law_458 : decode cL_law 458 = .ok (.aload_n 1, 1) := by decide +kernel
theorem dL_law_459 : decode cL_law 459 = .ok (.iload 14, 2) := by decide +kernel
theorem dL_law_461 : decode cL_law 461 = .ok (.iconst 2, 1) := by decide +kernel
theorem dL_law_462 : decode cL_law 462 = .ok (.invokevirtual 72, 3) := by decide +kernel
theorem dL_law_465 : decode cL_law 465 = .ok (.if_icmp .eq 5, 3) := by decide +kernel
theorem dL_law_468 : decode cL_law 468 = .ok (.iconst 0, 1) := by decide +kernel
theorem dL_law_469 : decode cL_law 469 = .ok (.ireturn, 1) := by decide +kernel
theorem dL_law_470 : decode cL_law 470 = .ok (.iload 14, 2) := by decide +kernel
theorem dL_law_472 : decode cL_law 472 = .ok (.ifCond .ne 84, 3) := by decide +kernel
theorem dL_law_475 : decode cL_law 475 = .ok (.iload 16, 2) := by decide +kernel
theorem dL_law_477 : decode cL_law 477 = .ok (.bipush 7, 2) := by decide +kernel
theorem dL_law_479 : decode cL_law 479 = .ok (.if_icmp .eq 77, 3) := by decide +kernel
theorem dL_law_482 : decode cL_law 482 = .ok (.aload 9, 2) := by decide +kernel
theorem dL_law_484 : decode cL_law 484 = .ok (.iload 14, 2) := by decide +kernel
theorem dL_law_486 : decode cL_law 486 = .ok (.iaload, 1) := by decide +kernel
theorem dL_law_487 : decode cL_law 487 = .ok (.bipush 6, 2) := by decide +kernel
theorem dL_law_489 : decode cL_law 489 = .ok (.idiv, 1) := by decide +kernel
theorem dL_law_490 : decode cL_law 490 = .ok (.aload 8, 2) := by decide +kernel
theorem dL_law_492 : decode cL_law 492 = .ok (.iload 14, 2) := by decide +kernel
theorem dL_law_494 : decode cL_law 494 = .ok (.iaload, 1) := by decide +kernel
theorem dL_law_495 : decode cL_law 495 = .ok (.bipush 6, 2) := by decide +kernel
theorem dL_law_497 : decode cL_law 497 = .ok (.idiv, 1) := by decide +kernel
theorem dL_law_498 : decode cL_law 498 = .ok (.isub, 1) := by decide +kernel
theorem dL_law_499 : decode cL_law 499 = .ok (.invokestatic 86, 3) := by decide +kernel
theorem dL_law_502 : decode cL_law 502 = .ok (.aload 9, 2) := by decide +kernel
theorem dL_law_504 : decode cL_law 504 = .ok (.iload 14, 2) := by decide +kernel
theorem dL_law_506 : decode cL_law 506 = .ok (.iaload, 1) := by decide +kernel
theorem dL_law_507 : decode cL_law 507 = .ok (.bipush 6, 2) := by decide +kernel
theorem dL_law_509 : decode cL_law 509 = .ok (.irem, 1) := by decide +kernel
theorem dL_law_510 : decode cL_law 510 = .ok (.aload 8, 2) := by decide +kernel
theorem dL_law_512 : decode cL_law 512 = .ok (.iload 14, 2) := by decide +kernel
theorem dL_law_514 : decode cL_law 514 = .ok (.iaload, 1) := by decide +kernel
theorem dL_law_515 : decode cL_law 515 = .ok (.bipush 6, 2) := by decide +kernel
theorem dL_law_517 : decode cL_law 517 = .ok (.irem, 1) := by decide +kernel
theorem dL_law_518 : decode cL_law 518 = .ok (.isub, 1) := by decide +kernel
theorem dL_law_519 : decode cL_law 519 = .ok (.invokestatic 86, 3) := by decide +kernel
theorem dL_law_522 : decode cL_law 522 = .ok (.iadd, 1) := by decide +kernel
theorem dL_law_523 : decode cL_law 523 = .ok (.istore 17, 2) := by decide +kernel
theorem dL_law_525 : decode cL_law 525 = .ok (.iload 16, 2) := by decide +kernel
theorem dL_law_527 : decode cL_law 527 = .ok (.iconst 1, 1) := by decide +kernel
theorem dL_law_528 : decode cL_law 528 = .ok (.if_icmp .eq 28, 3) := by decide +kernel
theorem dL_law_531 : decode cL_law 531 = .ok (.iload 16, 2) := by decide +kernel
theorem dL_law_533 : decode cL_law 533 = .ok (.iconst 2, 1) := by decide +kernel
theorem dL_law_534 : decode cL_law 534 = .ok (.if_icmp .eq 22, 3) := by decide +kernel
theorem dL_law_537 : decode cL_law 537 = .ok (.iload 15, 2) := by decide +kernel
theorem dL_law_539 : decode cL_law 539 = .ok (.iload 17, 2) := by decide +kernel
theorem dL_law_541 : decode cL_law 541 = .ok (.aload_n 1, 1) := by decide +kernel
theorem dL_law_542 : decode cL_law 542 = .ok (.iload 14, 2) := by decide +kernel
theorem dL_law_544 : decode cL_law 544 = .ok (.iconst 4, 1) := by decide +kernel
theorem dL_law_545 : decode cL_law 545 = .ok (.invokevirtual 72, 3) := by decide +kernel
theorem dL_law_548 : decode cL_law 548 = .ok (.invokestatic 91, 3) := by decide +kernel
theorem dL_law_551 : decode cL_law 551 = .ok (.if_icmp .eq 5, 3) := by decide +kernel
theorem dL_law_554 : decode cL_law 554 = .ok (.iconst 0, 1) := by decide +kernel
theorem dL_law_555 : decode cL_law 555 = .ok (.ireturn, 1) := by decide +kernel
theorem dL_law_556 : decode cL_law 556 = .ok (.iconst 0, 1) := by decide +kernel
theorem dL_law_557 : decode cL_law 557 = .ok (.istore 17, 2) := by decide +kernel
theorem dL_law_559 : decode cL_law 559 = .ok (.iconst 0, 1) := by decide +kernel
theorem dL_law_560 : decode cL_law 560 = .ok (.istore 18, 2) := by decide +kernel
theorem dL_law_562 : decode cL_law 562 = .ok (.iload 18, 2) := by decide +kernel
theorem dL_law_564 : decode cL_law 564 = .ok (.iload_n 3, 1) := by decide +kernel
theorem dL_law_565 : decode cL_law 565 = .ok (.if_icmp .ge 35, 3) := by decide +kernel
theorem dL_law_568 : decode cL_law 568 = .ok (.iload 17, 2) := by decide +kernel
theorem dL_law_570 : decode cL_law 570 = .ok (.aload_n 1, 1) := by decide +kernel
theorem dL_law_571 : decode cL_law 571 = .ok (.iload 18, 2) := by decide +kernel
theorem dL_law_573 : decode cL_law 573 = .ok (.iconst 2, 1) := by decide +kernel
theorem dL_law_574 : decode cL_law 574 = .ok (.invokevirtual 69, 3) := by decide +kernel
theorem dL_law_577 : decode cL_law 577 = .ok (.iload 14, 2) := by decide +kernel
theorem dL_law_579 : decode cL_law 579 = .ok (.if_icmp .ne 11, 3) := by decide +kernel
theorem dL_law_582 : decode cL_law 582 = .ok (.aload 7, 2) := by decide +kernel
theorem dL_law_584 : decode cL_law 584 = .ok (.iload 18, 2) := by decide +kernel
theorem dL_law_586 : decode cL_law 586 = .ok (.iaload, 1) := by decide +kernel
theorem dL_law_587 : decode cL_law 587 = .ok (.goto 4, 3) := by decide +kernel
theorem dL_law_590 : decode cL_law 590 = .ok (.iconst 0, 1) := by decide +kernel
theorem dL_law_591 : decode cL_law 591 = .ok (.iadd, 1) := by decide +kernel
theorem dL_law_592 : decode cL_law 592 = .ok (.istore 17, 2) := by decide +kernel
theorem dL_law_594 : decode cL_law 594 = .ok (.iinc 18 1, 3) := by decide +kernel
theorem dL_law_597 : decode cL_law 597 = .ok (.goto (-35), 3) := by decide +kernel
theorem dL_law_600 : decode cL_law 600 = .ok (.aload_n 1, 1) := by decide +kernel
theorem dL_law_601 : decode cL_law 601 = .ok (.iload 14, 2) := by decide +kernel
theorem dL_law_603 : decode cL_law 603 = .ok (.bipush 8, 2) := by decide +kernel
theorem dL_law_605 : decode cL_law 605 = .ok (.invokevirtual 72, 3) := by decide +kernel
theorem dL_law_608 : decode cL_law 608 = .ok (.iload 17, 2) := by decide +kernel
theorem dL_law_610 : decode cL_law 610 = .ok (.if_icmp .ne 24, 3) := by decide +kernel
theorem dL_law_613 : decode cL_law 613 = .ok (.aload_n 1, 1) := by decide +kernel
theorem dL_law_614 : decode cL_law 614 = .ok (.aload_n 1, 1) := by decide +kernel
theorem dL_law_615 : decode cL_law 615 = .ok (.iload 14, 2) := by decide +kernel
theorem dL_law_617 : decode cL_law 617 = .ok (.iconst 3, 1) := by decide +kernel
theorem dL_law_618 : decode cL_law 618 = .ok (.invokevirtual 72, 3) := by decide +kernel
theorem dL_law_621 : decode cL_law 621 = .ok (.iconst 3, 1) := by decide +kernel
theorem dL_law_622 : decode cL_law 622 = .ok (.invokevirtual 94, 3) := by decide +kernel
theorem dL_law_625 : decode cL_law 625 = .ok (.iload 14, 2) := by decide +kernel
theorem dL_law_627 : decode cL_law 627 = .ok (.ishr, 1) := by decide +kernel
theorem dL_law_628 : decode cL_law 628 = .ok (.iconst 1, 1) := by decide +kernel
theorem dL_law_629 : decode cL_law 629 = .ok (.iand, 1) := by decide +kernel
theorem dL_law_630 : decode cL_law 630 = .ok (.iconst 1, 1) := by decide +kernel
theorem dL_law_631 : decode cL_law 631 = .ok (.if_icmp .eq 5, 3) := by decide +kernel
theorem dL_law_634 : decode cL_law 634 = .ok (.iconst 0, 1) := by decide +kernel
theorem dL_law_635 : decode cL_law 635 = .ok (.ireturn, 1) := by decide +kernel
theorem dL_law_636 : decode cL_law 636 = .ok (.iinc 14 1, 3) := by decide +kernel
theorem dL_law_639 : decode cL_law 639 = .ok (.goto (-292), 3) := by decide +kernel
theorem dL_law_642 : decode cL_law 642 = .ok (.iinc 5 1, 3) := by decide +kernel
theorem dL_law_645 : decode cL_law 645 = .ok (.goto (-610), 3) := by decide +kernel
theorem dL_law_648 : decode cL_law 648 = .ok (.aload_n 1, 1) := by decide +kernel
theorem dL_law_649 : decode cL_law 649 = .ok (.bipush 9, 2) := by decide +kernel
theorem dL_law_651 : decode cL_law 651 = .ok (.invokevirtual 47, 3) := by decide +kernel
theorem dL_law_654 : decode cL_law 654 = .ok (.istore 5, 2) := by decide +kernel
theorem dL_law_656 : decode cL_law 656 = .ok (.iconst 0, 1) := by decide +kernel
theorem dL_law_657 : decode cL_law 657 = .ok (.istore 6, 2) := by decide +kernel
theorem dL_law_659 : decode cL_law 659 = .ok (.iload 5, 2) := by decide +kernel
theorem dL_law_661 : decode cL_law 661 = .ok (.istore 7, 2) := by decide +kernel
theorem dL_law_663 : decode cL_law 663 = .ok (.iconst 0, 1) := by decide +kernel
theorem dL_law_664 : decode cL_law 664 = .ok (.istore 8, 2) := by decide +kernel
theorem dL_law_666 : decode cL_law 666 = .ok (.iload 8, 2) := by decide +kernel
theorem dL_law_668 : decode cL_law 668 = .ok (.bipush 24, 2) := by decide +kernel
theorem dL_law_670 : decode cL_law 670 = .ok (.if_icmp .ge 211, 3) := by decide +kernel
theorem dL_law_673 : decode cL_law 673 = .ok (.aload_n 1, 1) := by decide +kernel
theorem dL_law_674 : decode cL_law 674 = .ok (.iload 8, 2) := by decide +kernel
theorem dL_law_676 : decode cL_law 676 = .ok (.iconst 1, 1) := by decide +kernel
theorem dL_law_677 : decode cL_law 677 = .ok (.invokevirtual 94, 3) := by decide +kernel
theorem dL_law_680 : decode cL_law 680 = .ok (.aload_n 1, 1) := by decide +kernel
theorem dL_law_681 : decode cL_law 681 = .ok (.iconst 4, 1) := by decide +kernel
theorem dL_law_682 : decode cL_law 682 = .ok (.invokevirtual 47, 3) := by decide +kernel
theorem dL_law_685 : decode cL_law 685 = .ok (.if_icmp .lt 7, 3) := by decide +kernel
theorem dL_law_688 : decode cL_law 688 = .ok (.iconst 1, 1) := by decide +kernel
theorem dL_law_689 : decode cL_law 689 = .ok (.goto 4, 3) := by decide +kernel
theorem dL_law_692 : decode cL_law 692 = .ok (.iconst 0, 1) := by decide +kernel
theorem dL_law_693 : decode cL_law 693 = .ok (.iload 5, 2) := by decide +kernel
theorem dL_law_695 : decode cL_law 695 = .ok (.iload 8, 2) := by decide +kernel
theorem dL_law_697 : decode cL_law 697 = .ok (.ishr, 1) := by decide +kernel
theorem dL_law_698 : decode cL_law 698 = .ok (.iconst 1, 1) := by decide +kernel
theorem dL_law_699 : decode cL_law 699 = .ok (.iand, 1) := by decide +kernel
theorem dL_law_700 : decode cL_law 700 = .ok (.iconst 1, 1) := by decide +kernel
theorem dL_law_701 : decode cL_law 701 = .ok (.if_icmp .ne 7, 3) := by decide +kernel
theorem dL_law_704 : decode cL_law 704 = .ok (.iconst 1, 1) := by decide +kernel
theorem dL_law_705 : decode cL_law 705 = .ok (.goto 4, 3) := by decide +kernel
theorem dL_law_708 : decode cL_law 708 = .ok (.iconst 0, 1) := by decide +kernel
theorem dL_law_709 : decode cL_law 709 = .ok (.if_icmp .ne 94, 3) := by decide +kernel
theorem dL_law_712 : decode cL_law 712 = .ok (.aload_n 1, 1) := by decide +kernel
theorem dL_law_713 : decode cL_law 713 = .ok (.iload 8, 2) := by decide +kernel
theorem dL_law_715 : decode cL_law 715 = .ok (.iconst 0, 1) := by decide +kernel
theorem dL_law_716 : decode cL_law 716 = .ok (.invokevirtual 94, 3) := by decide +kernel
theorem dL_law_719 : decode cL_law 719 = .ok (.aload_n 1, 1) := by decide +kernel
theorem dL_law_720 : decode cL_law 720 = .ok (.iload 8, 2) := by decide +kernel
theorem dL_law_722 : decode cL_law 722 = .ok (.iconst 1, 1) := by decide +kernel
theorem dL_law_723 : decode cL_law 723 = .ok (.invokevirtual 94, 3) := by decide +kernel
theorem dL_law_726 : decode cL_law 726 = .ok (.if_icmp .gt 77, 3) := by decide +kernel
theorem dL_law_729 : decode cL_law 729 = .ok (.aload_n 1, 1) := by decide +kernel
theorem dL_law_730 : decode cL_law 730 = .ok (.iload 8, 2) := by decide +kernel
theorem dL_law_732 : decode cL_law 732 = .ok (.invokevirtual 96, 3) := by decide +kernel
theorem dL_law_735 : decode cL_law 735 = .ok (.ifCond .ne 7, 3) := by decide +kernel
theorem dL_law_738 : decode cL_law 738 = .ok (.iconst 1, 1) := by decide +kernel
theorem dL_law_739 : decode cL_law 739 = .ok (.goto 4, 3) := by decide +kernel
theorem dL_law_742 : decode cL_law 742 = .ok (.iconst 0, 1) := by decide +kernel
theorem dL_law_743 : decode cL_law 743 = .ok (.iload 5, 2) := by decide +kernel
theorem dL_law_745 : decode cL_law 745 = .ok (.iload 8, 2) := by decide +kernel
theorem dL_law_747 : decode cL_law 747 = .ok (.ishr, 1) := by decide +kernel
theorem dL_law_748 : decode cL_law 748 = .ok (.iconst 1, 1) := by decide +kernel
theorem dL_law_749 : decode cL_law 749 = .ok (.iand, 1) := by decide +kernel
theorem dL_law_750 : decode cL_law 750 = .ok (.ifCond .ne 7, 3) := by decide +kernel
theorem dL_law_753 : decode cL_law 753 = .ok (.iconst 1, 1) := by decide +kernel
theorem dL_law_754 : decode cL_law 754 = .ok (.goto 4, 3) := by decide +kernel
theorem dL_law_757 : decode cL_law 757 = .ok (.iconst 0, 1) := by decide +kernel
theorem dL_law_758 : decode cL_law 758 = .ok (.if_icmp .ne 45, 3) := by decide +kernel
theorem dL_law_761 : decode cL_law 761 = .ok (.aload_n 1, 1) := by decide +kernel
theorem dL_law_762 : decode cL_law 762 = .ok (.iload 8, 2) := by decide +kernel
theorem dL_law_764 : decode cL_law 764 = .ok (.invokevirtual 99, 3) := by decide +kernel
theorem dL_law_767 : decode cL_law 767 = .ok (.iload 5, 2) := by decide +kernel
theorem dL_law_769 : decode cL_law 769 = .ok (.iconst (-1), 1) := by decide +kernel
theorem dL_law_770 : decode cL_law 770 = .ok (.ixor, 1) := by decide +kernel
theorem dL_law_771 : decode cL_law 771 = .ok (.iand, 1) := by decide +kernel
theorem dL_law_772 : decode cL_law 772 = .ok (.ifCond .ne 31, 3) := by decide +kernel
theorem dL_law_775 : decode cL_law 775 = .ok (.aload_n 1, 1) := by decide +kernel
theorem dL_law_776 : decode cL_law 776 = .ok (.iload 8, 2) := by decide +kernel
theorem dL_law_778 : decode cL_law 778 = .ok (.iload 8, 2) := by decide +kernel
theorem dL_law_780 : decode cL_law 780 = .ok (.invokevirtual 102, 3) := by decide +kernel
theorem dL_law_783 : decode cL_law 783 = .ok (.iload 5, 2) := by decide +kernel
theorem dL_law_785 : decode cL_law 785 = .ok (.iload 8, 2) := by decide +kernel
theorem dL_law_787 : decode cL_law 787 = .ok (.ishr, 1) := by decide +kernel
theorem dL_law_788 : decode cL_law 788 = .ok (.iconst 1, 1) := by decide +kernel
theorem dL_law_789 : decode cL_law 789 = .ok (.iand, 1) := by decide +kernel
theorem dL_law_790 : decode cL_law 790 = .ok (.iconst 1, 1) := by decide +kernel
theorem dL_law_791 : decode cL_law 791 = .ok (.if_icmp .ne 7, 3) := by decide +kernel
theorem dL_law_794 : decode cL_law 794 = .ok (.iconst 0, 1) := by decide +kernel
theorem dL_law_795 : decode cL_law 795 = .ok (.goto 5, 3) := by decide +kernel
theorem dL_law_798 : decode cL_law 798 = .ok (.bipush (-9), 2) := by decide +kernel
theorem dL_law_800 : decode cL_law 800 = .ok (.if_icmp .eq 5, 3) := by decide +kernel
theorem dL_law_803 : decode cL_law 803 = .ok (.iconst 0, 1) := by decide +kernel
theorem dL_law_804 : decode cL_law 804 = .ok (.ireturn, 1) := by decide +kernel
theorem dL_law_805 : decode cL_law 805 = .ok (.iload 7, 2) := by decide +kernel
theorem dL_law_807 : decode cL_law 807 = .ok (.iload 8, 2) := by decide +kernel
theorem dL_law_809 : decode cL_law 809 = .ok (.ishr, 1) := by decide +kernel
theorem dL_law_810 : decode cL_law 810 = .ok (.iconst 1, 1) := by decide +kernel
theorem dL_law_811 : decode cL_law 811 = .ok (.iand, 1) := by decide +kernel
theorem dL_law_812 : decode cL_law 812 = .ok (.ifCond .ne 6, 3) := by decide +kernel
theorem dL_law_815 : decode cL_law 815 = .ok (.goto 60, 3) := by decide +kernel
theorem dL_law_818 : decode cL_law 818 = .ok (.aload_n 1, 1) := by decide +kernel
theorem dL_law_819 : decode cL_law 819 = .ok (.iload 8, 2) := by decide +kernel
theorem dL_law_821 : decode cL_law 821 = .ok (.invokevirtual 99, 3) := by decide +kernel
theorem dL_law_824 : decode cL_law 824 = .ok (.istore 9, 2) := by decide +kernel
theorem dL_law_826 : decode cL_law 826 = .ok (.iload 7, 2) := by decide +kernel
theorem dL_law_828 : decode cL_law 828 = .ok (.iload 9, 2) := by decide +kernel
theorem dL_law_830 : decode cL_law 830 = .ok (.iand, 1) := by decide +kernel
theorem dL_law_831 : decode cL_law 831 = .ok (.iload 9, 2) := by decide +kernel
theorem dL_law_833 : decode cL_law 833 = .ok (.if_icmp .ne 28, 3) := by decide +kernel
theorem dL_law_836 : decode cL_law 836 = .ok (.iload 9, 2) := by decide +kernel
theorem dL_law_838 : decode cL_law 838 = .ok (.iload 8, 2) := by decide +kernel
theorem dL_law_840 : decode cL_law 840 = .ok (.ishr, 1) := by decide +kernel
theorem dL_law_841 : decode cL_law 841 = .ok (.iconst 1, 1) := by decide +kernel
theorem dL_law_842 : decode cL_law 842 = .ok (.iand, 1) := by decide +kernel
theorem dL_law_843 : decode cL_law 843 = .ok (.iconst 1, 1) := by decide +kernel
theorem dL_law_844 : decode cL_law 844 = .ok (.if_icmp .ne 17, 3) := by decide +kernel
theorem dL_law_847 : decode cL_law 847 = .ok (.iload 9, 2) := by decide +kernel
theorem dL_law_849 : decode cL_law 849 = .ok (.invokestatic 81, 3) := by decide +kernel
theorem dL_law_852 : decode cL_law 852 = .ok (.aload_n 1, 1) := by decide +kernel
theorem dL_law_853 : decode cL_law 853 = .ok (.bipush (-2), 2) := by decide +kernel
theorem dL_law_855 : decode cL_law 855 = .ok (.invokevirtual 99, 3) := by decide +kernel
theorem dL_law_858 : decode cL_law 858 = .ok (.if_icmp .le 5, 3) := by decide +kernel
theorem dL_law_861 : decode cL_law 861 = .ok (.iconst 0, 1) := by decide +kernel
theorem dL_law_862 : decode cL_law 862 = .ok (.ireturn, 1) := by decide +kernel
theorem dL_law_863 : decode cL_law 863 = .ok (.iload 7, 2) := by decide +kernel
theorem dL_law_865 : decode cL_law 865 = .ok (.iload 9, 2) := by decide +kernel
theorem dL_law_867 : decode cL_law 867 = .ok (.iconst (-1), 1) := by decide +kernel
theorem dL_law_868 : decode cL_law 868 = .ok (.ixor, 1) := by decide +kernel
theorem dL_law_869 : decode cL_law 869 = .ok (.iand, 1) := by decide +kernel
theorem dL_law_870 : decode cL_law 870 = .ok (.istore 7, 2) := by decide +kernel
theorem dL_law_872 : decode cL_law 872 = .ok (.iinc 6 1, 3) := by decide +kernel
theorem dL_law_875 : decode cL_law 875 = .ok (.iinc 8 1, 3) := by decide +kernel
theorem dL_law_878 : decode cL_law 878 = .ok (.goto (-212), 3) := by decide +kernel
theorem dL_law_881 : decode cL_law 881 = .ok (.iload 7, 2) := by decide +kernel
theorem dL_law_883 : decode cL_law 883 = .ok (.ifCond .ne 13, 3) := by decide +kernel
theorem dL_law_886 : decode cL_law 886 = .ok (.iload 6, 2) := by decide +kernel
theorem dL_law_888 : decode cL_law 888 = .ok (.aload_n 1, 1) := by decide +kernel
theorem dL_law_889 : decode cL_law 889 = .ok (.iconst (-1), 1) := by decide +kernel
theorem dL_law_890 : decode cL_law 890 = .ok (.invokevirtual 99, 3) := by decide +kernel
theorem dL_law_893 : decode cL_law 893 = .ok (.if_icmp .eq 5, 3) := by decide +kernel
theorem dL_law_896 : decode cL_law 896 = .ok (.iconst 0, 1) := by decide +kernel
theorem dL_law_897 : decode cL_law 897 = .ok (.ireturn, 1) := by decide +kernel
theorem dL_law_898 : decode cL_law 898 = .ok (.iconst 0, 1) := by decide +kernel
theorem dL_law_899 : decode cL_law 899 = .ok (.istore 8, 2) := by decide +kernel
theorem dL_law_901 : decode cL_law 901 = .ok (.iload 8, 2) := by decide +kernel
theorem dL_law_903 : decode cL_law 903 = .ok (.iload_n 2, 1) := by decide +kernel
theorem dL_law_904 : decode cL_law 904 = .ok (.if_icmp .ge 95, 3) := by decide +kernel
theorem dL_law_907 : decode cL_law 907 = .ok (.aload_n 1, 1) := by decide +kernel
theorem dL_law_908 : decode cL_law 908 = .ok (.iload 8, 2) := by decide +kernel
theorem dL_law_910 : decode cL_law 910 = .ok (.bipush 9, 2) := by decide +kernel
theorem dL_law_912 : decode cL_law 912 = .ok (.iconst 0, 1) := by decide +kernel
theorem dL_law_913 : decode cL_law 913 = .ok (.invokevirtual 105, 3) := by decide +kernel
theorem dL_law_916 : decode cL_law 916 = .ok (.istore 9, 2) := by decide +kernel
theorem dL_law_918 : decode cL_law 918 = .ok (.aload_n 1, 1) := by decide +kernel
theorem dL_law_919 : decode cL_law 919 = .ok (.iload 8, 2) := by decide +kernel
theorem dL_law_921 : decode cL_law 921 = .ok (.bipush 9, 2) := by decide +kernel
theorem dL_law_923 : decode cL_law 923 = .ok (.iconst 1, 1) := by decide +kernel
theorem dL_law_924 : decode cL_law 924 = .ok (.invokevirtual 105, 3) := by decide +kernel
theorem dL_law_927 : decode cL_law 927 = .ok (.istore 10, 2) := by decide +kernel
theorem dL_law_929 : decode cL_law 929 = .ok (.aload_n 1, 1) := by decide +kernel
theorem dL_law_930 : decode cL_law 930 = .ok (.iload 8, 2) := by decide +kernel
theorem dL_law_932 : decode cL_law 932 = .ok (.iload 9, 2) := by decide +kernel
theorem dL_law_934 : decode cL_law 934 = .ok (.invokevirtual 53, 3) := by decide +kernel
theorem dL_law_937 : decode cL_law 937 = .ok (.istore 11, 2) := by decide +kernel
theorem dL_law_939 : decode cL_law 939 = .ok (.iload 11, 2) := by decide +kernel
theorem dL_law_941 : decode cL_law 941 = .ok (.ifCond .lt 50, 3) := by decide +kernel
theorem dL_law_944 : decode cL_law 944 = .ok (.aload_n 1, 1) := by decide +kernel
theorem dL_law_945 : decode cL_law 945 = .ok (.iload 8, 2) := by decide +kernel
theorem dL_law_947 : decode cL_law 947 = .ok (.bipush 9, 2) := by decide +kernel
theorem dL_law_949 : decode cL_law 949 = .ok (.iconst 1, 1) := by decide +kernel
theorem dL_law_950 : decode cL_law 950 = .ok (.invokevirtual 108, 3) := by decide +kernel
theorem dL_law_953 : decode cL_law 953 = .ok (.iload 10, 2) := by decide +kernel
theorem dL_law_955 : decode cL_law 955 = .ok (.if_icmp .ne 36, 3) := by decide +kernel
theorem dL_law_958 : decode cL_law 958 = .ok (.aload_n 1, 1) := by decide +kernel
theorem dL_law_959 : decode cL_law 959 = .ok (.invokevirtual 111, 3) := by decide +kernel
theorem dL_law_962 : decode cL_law 962 = .ok (.ifCond .lt 29, 3) := by decide +kernel
theorem dL_law_965 : decode cL_law 965 = .ok (.aload_n 1, 1) := by decide +kernel
theorem dL_law_966 : decode cL_law 966 = .ok (.iload 8, 2) := by decide +kernel
theorem dL_law_968 : decode cL_law 968 = .ok (.iconst 3, 1) := by decide +kernel
theorem dL_law_969 : decode cL_law 969 = .ok (.invokevirtual 72, 3) := by decide +kernel
theorem dL_law_972 : decode cL_law 972 = .ok (.iload 11, 2) := by decide +kernel
theorem dL_law_974 : decode cL_law 974 = .ok (.if_icmp .ne 17, 3) := by decide +kernel
theorem dL_law_977 : decode cL_law 977 = .ok (.iload 10, 2) := by decide +kernel
theorem dL_law_979 : decode cL_law 979 = .ok (.aload_n 1, 1) := by decide +kernel
theorem dL_law_980 : decode cL_law 980 = .ok (.iload 8, 2) := by decide +kernel
theorem dL_law_982 : decode cL_law 982 = .ok (.bipush 9, 2) := by decide +kernel
theorem dL_law_984 : decode cL_law 984 = .ok (.iconst 1, 1) := by decide +kernel
theorem dL_law_985 : decode cL_law 985 = .ok (.invokevirtual 108, 3) := by decide +kernel
theorem dL_law_988 : decode cL_law 988 = .ok (.if_icmp .ge 5, 3) := by decide +kernel
theorem dL_law_991 : decode cL_law 991 = .ok (.iconst 0, 1) := by decide +kernel
theorem dL_law_992 : decode cL_law 992 = .ok (.ireturn, 1) := by decide +kernel
theorem dL_law_993 : decode cL_law 993 = .ok (.iinc 8 1, 3) := by decide +kernel
theorem dL_law_996 : decode cL_law 996 = .ok (.goto (-95), 3) := by decide +kernel
theorem dL_law_999 : decode cL_law 999 = .ok (.aload_n 1, 1) := by decide +kernel
theorem dL_law_1000 : decode cL_law 1000 = .ok (.invokevirtual 111, 3) := by decide +kernel
theorem dL_law_1003 : decode cL_law 1003 = .ok (.ifCond .lt 48, 3) := by decide +kernel
theorem dL_law_1006 : decode cL_law 1006 = .ok (.aload_n 1, 1) := by decide +kernel
theorem dL_law_1007 : decode cL_law 1007 = .ok (.iconst 3, 1) := by decide +kernel
theorem dL_law_1008 : decode cL_law 1008 = .ok (.invokevirtual 47, 3) := by decide +kernel
theorem dL_law_1011 : decode cL_law 1011 = .ok (.iload 4, 2) := by decide +kernel
theorem dL_law_1013 : decode cL_law 1013 = .ok (.bipush 11, 2) := by decide +kernel
theorem dL_law_1015 : decode cL_law 1015 = .ok (.iadd, 1) := by decide +kernel
theorem dL_law_1016 : decode cL_law 1016 = .ok (.if_icmp .ne 35, 3) := by decide +kernel
theorem dL_law_1019 : decode cL_law 1019 = .ok (.aload_n 1, 1) := by decide +kernel
theorem dL_law_1020 : decode cL_law 1020 = .ok (.invokevirtual 114, 3) := by decide +kernel
theorem dL_law_1023 : decode cL_law 1023 = .ok (.iload 4, 2) := by decide +kernel
theorem dL_law_1025 : decode cL_law 1025 = .ok (.if_icmp .ne 26, 3) := by decide +kernel
theorem dL_law_1028 : decode cL_law 1028 = .ok (.aload_n 1, 1) := by decide +kernel
theorem dL_law_1029 : decode cL_law 1029 = .ok (.iconst 3, 1) := by decide +kernel
theorem dL_law_1030 : decode cL_law 1030 = .ok (.invokevirtual 47, 3) := by decide +kernel
theorem dL_law_1033 : decode cL_law 1033 = .ok (.iload 4, 2) := by decide +kernel
theorem dL_law_1035 : decode cL_law 1035 = .ok (.if_icmp .ne 16, 3) := by decide +kernel
theorem dL_law_1038 : decode cL_law 1038 = .ok (.aload_n 1, 1) := by decide +kernel
theorem dL_law_1039 : decode cL_law 1039 = .ok (.bipush 8, 2) := by decide +kernel
theorem dL_law_1041 : decode cL_law 1041 = .ok (.invokevirtual 47, 3) := by decide +kernel
theorem dL_law_1044 : decode cL_law 1044 = .ok (.ifCond .ne 7, 3) := by decide +kernel
theorem dL_law_1047 : decode cL_law 1047 = .ok (.iconst 1, 1) := by decide +kernel
theorem dL_law_1048 : decode cL_law 1048 = .ok (.goto 4, 3) := by decide +kernel
theorem dL_law_1051 : decode cL_law 1051 = .ok (.iconst 0, 1) := by decide +kernel
theorem dL_law_1052 : decode cL_law 1052 = .ok (.ireturn, 1) := by decide +kernel
end
section
abbrev I32 (a : Int) : Prop := -2147483648 ≤ a ∧ a ≤ 2147483647
abbrev I64 (a : Int) : Prop := -9223372036854775808 ≤ a ∧ a ≤ 9223372036854775807
theorem i_toInt {a : Int} (h : I32 a) : (Int32.ofInt a).toInt = a := Int32.toInt_ofInt_of_le (by have := h.1; simpa using this) (by have := h.2; simp; omega)
theorem l_toInt {a : Int} (h : I64 a) : (Int64.ofInt a).toInt = a := Int64.toInt_ofInt_of_le (by have := h.1; simpa using this) (by have := h.2; simp; omega)
theorem i_rng (x : Int32) : I32 x.toInt := ⟨by have := x.le_toInt; simpa using this, by have := x.toInt_lt; simp at this; omega⟩
theorem l_rng (x : Int64) : I64 x.toInt := ⟨by have := x.le_toInt; simpa using this, by have := x.toInt_lt; simp at this; omega⟩
theorem i_ofToInt (x : Int32) : Int32.ofInt x.toInt = x := Int32.ofInt_toInt x
theorem i_inj {a b : Int} (ha : I32 a) (hb : I32 b) : Int32.ofInt a = Int32.ofInt b ↔ a = b := by
  constructor
  · intro h
    rw [← i_toInt ha, ← i_toInt hb, h]
  · intro h
    rw [h]
theorem l_inj {a b : Int} (ha : I64 a) (hb : I64 b) : Int64.ofInt a = Int64.ofInt b ↔ a = b := by
  constructor
  · intro h
    rw [← l_toInt ha, ← l_toInt hb, h]
  · intro h
    rw [h]
theorem i_lt {a b : Int} (ha : I32 a) (hb : I32 b) : Int32.ofInt a < Int32.ofInt b ↔ a < b := by
  rw [Int32.lt_iff_toInt_lt, i_toInt ha, i_toInt hb]
theorem i_le {a b : Int} (ha : I32 a) (hb : I32 b) : Int32.ofInt a ≤ Int32.ofInt b ↔ a ≤ b := by
  rw [Int32.le_iff_toInt_le, i_toInt ha, i_toInt hb]
theorem l_lt {a b : Int} (ha : I64 a) (hb : I64 b) : Int64.ofInt a < Int64.ofInt b ↔ a < b := by
  rw [Int64.lt_iff_toInt_lt, l_toInt ha, l_toInt hb]
theorem z32 : (0 : Int32) = Int32.ofInt 0 := by decide
theorem z64 : (0 : Int64) = Int64.ofInt 0 := by decide
theorem i32_0 : I32 0 := by decide
theorem i64_0 : I64 0 := by decide
theorem i_div {a b : Int} (ha : I32 a) (hb : I32 b) : Int32.ofInt a / Int32.ofInt b = Int32.ofInt (a.tdiv b) := (Int32.ofInt_tdiv (by have := ha.1; rw [Int32.toInt_minValue]; omega) (by have := ha.2; rw [Int32.toInt_maxValue]; omega) (by have := hb.1; rw [Int32.toInt_minValue]; omega) (by have := hb.2; rw [Int32.toInt_maxValue]; omega)).symm
theorem l_div {a b : Int} (ha : I64 a) (hb : I64 b) : Int64.ofInt a / Int64.ofInt b = Int64.ofInt (a.tdiv b) := (Int64.ofInt_tdiv (by have := ha.1; rw [Int64.toInt_minValue]; omega) (by have := ha.2; rw [Int64.toInt_maxValue]; omega) (by have := hb.1; rw [Int64.toInt_minValue]; omega) (by have := hb.2; rw [Int64.toInt_maxValue]; omega)).symm
theorem i_rem {a b : Int} (ha : I32 a) (hb : I32 b) : Int32.ofInt a - Int32.ofInt a / Int32.ofInt b * Int32.ofInt b = Int32.ofInt (a.tmod b) := by
  rw [i_div ha hb, ← Int32.ofInt_mul, ← Int32.ofInt_sub, Int.tmod_def, Int.mul_comm]
theorem l_rem {a b : Int} (ha : I64 a) (hb : I64 b) : Int64.ofInt a - Int64.ofInt a / Int64.ofInt b * Int64.ofInt b = Int64.ofInt (a.tmod b) := by
  rw [l_div ha hb, ← Int64.ofInt_mul, ← Int64.ofInt_sub, Int.tmod_def, Int.mul_comm]
def bAnd (a b : Int) : Int := (Int32.ofInt a &&& Int32.ofInt b).toInt
def bOr (a b : Int) : Int := (Int32.ofInt a ||| Int32.ofInt b).toInt
def bXor (a b : Int) : Int := (Int32.ofInt a ^^^ Int32.ofInt b).toInt
def bShl (a b : Int) : Int := (Int32.ofInt a <<< (Int32.ofInt b &&& 31)).toInt
def bShr (a b : Int) : Int := (Int32.ofInt a >>> (Int32.ofInt b &&& 31)).toInt
theorem c_and (a b : Int) : Int32.ofInt (bAnd a b) = Int32.ofInt a &&& Int32.ofInt b := i_ofToInt _
theorem c_or (a b : Int) : Int32.ofInt (bOr a b) = Int32.ofInt a ||| Int32.ofInt b := i_ofToInt _
theorem c_xor (a b : Int) : Int32.ofInt (bXor a b) = Int32.ofInt a ^^^ Int32.ofInt b := i_ofToInt _
theorem c_shl (a b : Int) : Int32.ofInt (bShl a b) = Int32.ofInt a <<< (Int32.ofInt b &&& 31) := i_ofToInt _
theorem c_shr (a b : Int) : Int32.ofInt (bShr a b) = Int32.ofInt a >>> (Int32.ofInt b &&& 31) := i_ofToInt _
theorem c_i2l {a : Int} (h : I32 a) : (Int32.ofInt a).toInt64 = Int64.ofInt a := by
  apply Int64.toInt.inj
  rw [Int32.toInt_toInt64, i_toInt h, l_toInt ⟨by have := h.1; omega, by have := h.2; omega⟩]
/-- the answer of lcmp -/
def cmpZ (a b : Int) : Int := if b < a then 1 else if a = b then 0 else -1
theorem l_cmp {a b : Int} (ha : I64 a) (hb : I64 b) : lg_cmp (Int64.ofInt a) (Int64.ofInt b) = Int32.ofInt (cmpZ a b) := by
  unfold lg_cmp cmpZ
  by_cases h1 : b < a
  · have h2 : Int64.ofInt a > Int64.ofInt b := (l_lt hb ha).mpr h1
    rw [if_pos h2, if_pos h1]; rfl
  · have h2 : ¬ Int64.ofInt a > Int64.ofInt b := fun q => h1 ((l_lt hb ha).mp q)
    rw [if_neg h2, if_neg h1]
    by_cases h3 : a = b
    · rw [if_pos (by rw [h3]), if_pos h3]; rfl
    · rw [if_neg (fun q => h3 ((l_inj ha hb).mp q)), if_neg h3]; rfl
theorem i_max {a b : Int} (ha : I32 a) (hb : I32 b) : (if Int32.ofInt a < Int32.ofInt b then Int32.ofInt b else Int32.ofInt a) = Int32.ofInt (if a < b then b else a) := by
  by_cases h : a < b
  · rw [if_pos h, if_pos ((i_lt ha hb).mpr h)]
  · rw [if_neg h, if_neg (fun q => h ((i_lt ha hb).mp q))]
theorem i_abs {a : Int} (ha : I32 a) : (if 0 ≤ Int32.ofInt a then Int32.ofInt a else 0 - Int32.ofInt a) = Int32.ofInt (if 0 ≤ a then a else -a) := by
  rw [z32]
  by_cases h : 0 ≤ a
  · rw [if_pos h, if_pos ((i_le i32_0 ha).mpr h)]
  · rw [if_neg h, if_neg (fun q => h ((i_le i32_0 ha).mp q)), ← Int32.ofInt_sub]
    congr 1
    omega
theorem i_in {a : Int} {n : Nat} (h : 0 ≤ a) (h1 : a < (n : Int)) (hn : n < 2147483648) : vp_in (Int32.ofInt a) n := by
  rw [vp_in_iff, i_toInt ⟨by omega, by omega⟩]
  exact ⟨h, h1⟩
theorem i_ix {a : Int} (h : 0 ≤ a) (h1 : a < 2147483648) : (Int32.ofInt a).toNatClampNeg = a.toNat := by
  have e := i_toInt (a := a) ⟨by omega, by omega⟩
  show (Int32.ofInt a).toInt.toNat = a.toNat
  rw [e]
theorem i_min {a b : Int} (ha : I32 a) (hb : I32 b) : (if Int32.ofInt a < Int32.ofInt b then Int32.ofInt a else Int32.ofInt b) = Int32.ofInt (if a < b then a else b) := by
  by_cases h : a < b
  · rw [if_pos h, if_pos ((i_lt ha hb).mpr h)]
  · rw [if_neg h, if_neg (fun q => h ((i_lt ha hb).mp q))]
end
section
abbrev AV : Type := Int ⊕ (Int ⊕ Nat)
abbrev iv (a : Int) : AV := Sum.inl a
abbrev jv (a : Int) : AV := Sum.inr (Sum.inl a)
abbrev rv (q : Nat) : AV := Sum.inr (Sum.inr q)
abbrev Mem : Type := Nat → Nat → Int32
abbrev KP : Type := (Nat → Nat) × (Nat → ClassId) × va_G
abbrev SC : Type := Option (Nat × (Nat → Int32))
abbrev Rs : Type := Option (Int × Mem)
def cv (κ : KP) : AV → Value
  | .inl a => .int (Int32.ofInt a)
  | .inr (.inl a) => .long (Int64.ofInt a)
  | .inr (.inr q) => .ref (κ.1 q)
def catA : AV → Nat
  | .inl _ => 1
  | .inr (.inl _) => 2
  | .inr (.inr _) => 1
theorem cat_cv (κ : KP) (v : AV) : (cv κ v).category = catA v := by
  rcases v with a | a | q <;> rfl
theorem cats_cv (κ : KP) (st : List AV) : ((st.map (cv κ)).map fun v => v.category).sum = (st.map catA).sum := by
  rw [List.map_map]
  congr 1
  exact List.map_congr_left (fun v _ => cat_cv κ v)
def flW (w : Nat) : List (Nat ⊕ Nat) := [.inl (w+1), .inl (w+2), .inl (w+3), .inr 3, .inl (w+4), .inl (w+5), .inl (w+6), .inr 7, .inl (w+7), .inl (w+8), .inl (w+9), .inl (w+10), .inr 12, .inr 13, .inr 14]
def fl121 : List (Nat ⊕ Nat) := [.inl 122, .inl 123, .inl 124, .inr 3, .inl 125, .inl 126, .inl 127, .inl 128]
def fl129 : List (Nat ⊕ Nat) := [.inl 22, .inl 121, .inr 2, .inr 3, .inr 4]
def fl130 : List (Nat ⊕ Nat) := [.inl 0, .inl 11, .inr 2, .inl 131, .inr 4, .inl 132, .inr 6, .inl 133, .inr 8, .inl 134, .inl 129, .inl 135, .inl 136]
abbrev isW (q : Nat) : Prop := q < 121 ∧ q % 11 = 0
def ob (q : Nat) : Option (Nat × List (Nat ⊕ Nat)) :=
  if q < 121 ∧ q % 11 = 0 then some (2, flW q) else if q = 121 then some (1, fl121) else if q = 129 then some (0, fl129) else if q = 130 then some (3, fl130) else none
def ln (q : Nat) : Nat :=
  if q < 121 then (if q % 11 ≤ 3 then 6 else if q % 11 ≤ 6 then 8 else 5) else if q ≤ 124 then 6 else if q = 125 then 1536 else if q = 126 then 64 else if q ≤ 128 then 6 else if q ≤ 131 then 8 else if q = 132 then 96 else if q = 133 then 12 else if q = 134 then 7 else if q ≤ 136 then 4 else if q ≤ 140 then 6 else if q ≤ 143 then 8 else if q ≤ 147 then 5 else if q = 148 then 7 else if q ≤ 150 then 6 else if q = 151 then 96 else if q ≤ 153 then 33 else if q = 154 then 99 else if q = 155 then 750 else if q = 156 then 12 else 8
def fv (κ : KP) (f : Nat → Int32) : Nat ⊕ Nat → Value
  | .inl p => .ref (κ.1 p)
  | .inr i => .int (f i)
def cell (κ : KP) (q : Nat) (f : Nat → Int32) : va_E :=
  match ob q with
  | some x => .inr (x.1, x.2.map (fv κ f))
  | none => if q = 131 then .inl (κ.2.1 q, 8, .inr (.inr (.inr (.inr (fun i => some (κ.1 (f i).toInt.toNat)))))) else .inl (κ.2.1 q, ln q, .inl f)
def cw (κ : KP) (M : Mem) : va_W := (List.range 137).map (fun q => (κ.1 q, cell κ q (M q)))
def tys (κ : KP) : List (ClassId × FieldType) := (List.range 137).map (fun q => (κ.2.1 q, if q = 131 then .object "OnlyInFog$World" else .int))
def rd (M : Mem) (q i : Nat) : Int := (M q i).toInt
def mup (M : Mem) (q i : Nat) (v : Int) : Mem := fun a b => if a = q ∧ b = i then Int32.ofInt v else M a b
theorem rd_rng (M : Mem) (q i : Nat) : I32 (rd M q i) := i_rng _
theorem rd_c (M : Mem) (q i : Nat) : Int32.ofInt (rd M q i) = M q i := i_ofToInt _
theorem cw_at (κ : KP) (M : Mem) {q : Nat} (h : q < 137) : (cw κ M)[q]? = some (κ.1 q, cell κ q (M q)) := by
  unfold cw
  rw [List.getElem?_map, List.getElem?_range h]
  rfl
theorem cw_len (κ : KP) (M : Mem) : (cw κ M).length = 137 := by
  unfold cw
  rw [List.length_map, List.length_range]
theorem cw_ge (κ : KP) (M : Mem) {q : Nat} (h : ¬ q < 137) : (cw κ M)[q]? = none := List.getElem?_eq_none (by rw [cw_len]; omega)
theorem tys_at (κ : KP) {q : Nat} (h : q < 137) : (tys κ)[q]? = some (κ.2.1 q, if q = 131 then .object "OnlyInFog$World" else .int) := by
  unfold tys
  rw [List.getElem?_map, List.getElem?_range h]
  rfl
theorem mup_ne (M : Mem) {q i a : Nat} {v : Int} (h : a ≠ q) : mup M q i v a = M a := by
  funext b
  show (if a = q ∧ b = i then _ else _) = _
  rw [if_neg (fun z => h z.1)]
theorem mup_self (M : Mem) (q i : Nat) (v : Int) : mup M q i v q = upd (M q) i (Int32.ofInt v) := by
  funext b
  show (if q = q ∧ b = i then _ else _) = (if b = i then _ else _)
  by_cases h : b = i
  · rw [if_pos ⟨rfl, h⟩, if_pos h]
  · rw [if_neg (fun z => h z.2), if_neg h]
theorem cw_set (κ : KP) {M M' : Mem} {q : Nat} (h : ∀ a, a ≠ q → M' a = M a) : (cw κ M).set q (κ.1 q, cell κ q (M' q)) = cw κ M' := by
  apply List.ext_getElem?
  intro j
  rw [List.getElem?_set]
  by_cases hj : q = j
  · subst hj
    rw [if_pos rfl, cw_len]
    by_cases h1 : q < 137
    · rw [if_pos h1, cw_at κ M' h1]
    · rw [if_neg h1, cw_ge κ M' h1]
  · rw [if_neg hj]
    by_cases h1 : j < 137
    · rw [cw_at κ M h1, cw_at κ M' h1, h j (fun z => hj z.symm)]
    · rw [cw_ge κ M h1, cw_ge κ M' h1]
theorem cw_fst (κ : KP) (M M' : Mem) {k : Nat} {e : Nat × va_E} (h : (cw κ M)[k]? = some e) : ∃ e', (cw κ M')[k]? = some e' ∧ e'.1 = e.1 := by
  have hk : k < 137 := by
    by_cases hk : k < 137
    · exact hk
    · rw [cw_ge κ M hk] at h; cases h
  rw [cw_at κ M hk] at h
  cases h
  exact ⟨_, cw_at κ M' hk, rfl⟩
theorem cell_ob (κ : KP) {q ci : Nat} {fl : List (Nat ⊕ Nat)} (h : ob q = some (ci, fl)) (f : Nat → Int32) : cell κ q f = .inr (ci, fl.map (fv κ f)) := by
  unfold cell
  rw [h]
abbrev ar (q n : Nat) : Prop := ob q = none ∧ q ≠ 131 ∧ q < 137 ∧ ln q = n
theorem cell_ar (κ : KP) {q n : Nat} (h : ar q n) (f : Nat → Int32) : cell κ q f = .inl (κ.2.1 q, n, .inl f) := by
  unfold cell
  rw [h.1]
  show (if q = 131 then _ else _) = _
  rw [if_neg h.2.1, h.2.2.2]
theorem ob_w {q : Nat} (h : isW q) : ob q = some (2, flW q) := by
  unfold ob
  rw [if_pos h]
theorem ob_121 : ob 121 = some (1, fl121) := rfl
theorem ob_129 : ob 129 = some (0, fl129) := rfl
theorem ob_130 : ob 130 = some (3, fl130) := rfl
theorem ob_lt {q : Nat} {x : Nat × List (Nat ⊕ Nat)} (h : ob q = some x) : q < 137 := by
  unfold ob at h
  by_cases h1 : q < 121 ∧ q % 11 = 0
  · omega
  · rw [if_neg h1] at h
    by_cases h2 : q = 121
    · omega
    · rw [if_neg h2] at h
      by_cases h3 : q = 129
      · omega
      · rw [if_neg h3] at h
        by_cases h4 : q = 130
        · omega
        · rw [if_neg h4] at h; cases h
theorem ite_lt {P : Prop} {dP : Decidable P} {a b N : Nat} (ha : a < N) (hb : b < N) : (if P then a else b) < N := by
  by_cases h : P
  · rw [if_pos h]; exact ha
  · rw [if_neg h]; exact hb
theorem ln_lt (q : Nat) : ln q < 2147483648 := by
  unfold ln
  repeat' apply ite_lt
  all_goals decide
theorem ar_lt {q n : Nat} (h : ar q n) : n < 2147483648 := by
  rw [← h.2.2.2]; exact ln_lt q
/-- an array of a world's own -/
theorem ar_w {w k : Nat} (h : isW w) (h1 : 0 < k) (h2 : k < 11) : ar (w + k) (if k ≤ 3 then 6 else if k ≤ 6 then 8 else 5) := by
  have e : (w + k) % 11 = k := by omega
  have l : w + k < 121 := by omega
  refine ⟨?_, by omega, by omega, ?_⟩
  · unfold ob
    rw [if_neg (by omega), if_neg (by omega), if_neg (by omega), if_neg (by omega)]
  · unfold ln
    rw [if_pos l, e]
/-- an object's int fields: no index twice -/
def flI (fl : List (Nat ⊕ Nat)) : List Nat := fl.filterMap (fun x => match x with | .inl _ => none | .inr i => some i)
theorem flW_nd (w : Nat) : (flI (flW w)).Nodup := by
  show ([3, 7, 12, 13, 14] : List Nat).Nodup
  decide
theorem ob_nd {q ci : Nat} {fl : List (Nat ⊕ Nat)} (h : ob q = some (ci, fl)) : (flI fl).Nodup := by
  unfold ob at h
  by_cases h1 : q < 121 ∧ q % 11 = 0
  · rw [if_pos h1] at h; cases h; exact flW_nd q
  · rw [if_neg h1] at h
    by_cases h2 : q = 121
    · rw [if_pos h2] at h; cases h; decide
    · rw [if_neg h2] at h
      by_cases h3 : q = 129
      · rw [if_pos h3] at h; cases h; decide
      · rw [if_neg h3] at h
        by_cases h4 : q = 130
        · rw [if_pos h4] at h; cases h; decide
        · rw [if_neg h4] at h; cases h
theorem fl_set (κ : KP) (f : Nat → Int32) (v : Int32) : ∀ (fl : List (Nat ⊕ Nat)) (k i : Nat), (flI fl).Nodup → fl[k]? = some (.inr i) → (fl.map (fv κ f)).set k (.int v) = fl.map (fv κ (upd f i v))
  | [], k, i, _, h => by simp at h
  | x :: fl, 0, i, hn, h => by
    simp at h
    subst h
    have hn' : i ∉ flI fl := (List.nodup_cons.mp hn).1
    show (.int v : Value) :: fl.map (fv κ f) = fv κ (upd f i v) (.inr i) :: fl.map (fv κ (upd f i v))
    have e1 : fv κ (upd f i v) (.inr i) = .int v := by
      show Value.int (if i = i then v else f i) = _
      rw [if_pos rfl]
    rw [e1]
    congr 1
    refine List.map_congr_left (fun y hy => ?_)
    rcases y with p | j
    · rfl
    · have hj : j ≠ i := by
        intro e
        subst e
        exact hn' (List.mem_filterMap.mpr ⟨_, hy, rfl⟩)
      show Value.int (f j) = Value.int (if j = i then v else f j)
      rw [if_neg hj]
  | x :: fl, k + 1, i, hn, h => by
    have h' : fl[k]? = some (.inr i) := by simpa using h
    have hi : i ∈ flI fl := List.mem_filterMap.mpr ⟨_, List.mem_of_getElem? h', rfl⟩
    show fv κ f x :: (fl.map (fv κ f)).set k (.int v) = fv κ (upd f i v) x :: fl.map (fv κ (upd f i v))
    rcases x with p | j
    · have hn' : (flI fl).Nodup := hn
      rw [fl_set κ f v fl k i hn' h']
      rfl
    · have hn' : j ∉ flI fl ∧ (flI fl).Nodup := List.nodup_cons.mp hn
      rw [fl_set κ f v fl k i hn'.2 h']
      congr 1
      show Value.int (f j) = Value.int (if j = i then v else f j)
      rw [if_neg (fun e : j = i => hn'.1 (by rw [e]; exact hi))]
/-! the locals -/
def pr (κ : KP) : Nat → List (Option AV) → List (Nat × Value)
  | _, [] => []
  | i, none :: L => pr κ (i + 1) L
  | i, some v :: L => (i, cv κ v) :: pr κ (i + 1) L
theorem mem_pr (κ : KP) (x : Nat × Value) : ∀ (L : List (Option AV)) (i : Nat), x ∈ pr κ i L ↔ ∃ (j : Nat) (v : AV), L[j]? = some (some v) ∧ x = (i + j, cv κ v)
  | [], i => by simp [pr]
  | none :: L, i => by
    rw [show pr κ i (none :: L) = pr κ (i + 1) L from rfl, mem_pr κ x L (i + 1)]
    constructor
    · rintro ⟨j, v, h1, h2⟩
      exact ⟨j + 1, v, by simpa using h1, by rw [h2]; congr 1; omega⟩
    · rintro ⟨j, v, h1, h2⟩
      rcases j with _ | j
      · simp at h1
      · exact ⟨j, v, by simpa using h1, by rw [h2]; congr 1; omega⟩
  | some w :: L, i => by
    rw [show pr κ i (some w :: L) = (i, cv κ w) :: pr κ (i + 1) L from rfl, List.mem_cons, mem_pr κ x L (i + 1)]
    constructor
    · rintro (h | ⟨j, v, h1, h2⟩)
      · exact ⟨0, w, rfl, by rw [h]; rfl⟩
      · exact ⟨j + 1, v, by simpa using h1, by rw [h2]; congr 1; omega⟩
    · rintro ⟨j, v, h1, h2⟩
      rcases j with _ | j
      · simp at h1
        subst h1
        exact Or.inl h2
      · exact Or.inr ⟨j, v, by simpa using h1, by rw [h2]; congr 1; omega⟩
def agr (κ : KP) (ls : Array Slot) (nL : Nat) (L : List (Option AV)) : Prop := lv_has ls nL (pr κ 0 L)
theorem agr_at {κ : KP} {ls : Array Slot} {nL : Nat} {L : List (Option AV)} (h : agr κ ls nL L) {i : Nat} {v : AV} (hL : L[i]? = some (some v)) : ls[i]? = some (.val (cv κ v)) :=
  h.2.2 (i, cv κ v) ((mem_pr κ _ L 0).mpr ⟨i, v, hL, by simp⟩)
theorem agr_of {κ : KP} {ls : Array Slot} {nL : Nat} {lv : List (Nat × Value)} {L : List (Option AV)} (h : lv_has ls nL lv) (hL : ∀ (i : Nat) (v : AV), L[i]? = some (some v) → (i, cv κ v) ∈ lv) : agr κ ls nL L := by
  refine ⟨h.1, h.2.1, fun q hq => ?_⟩
  obtain ⟨j, v, h1, h2⟩ := (mem_pr κ q L 0).mp hq
  rw [Nat.zero_add] at h2
  subst h2
  exact h.2.2 _ (hL j v h1)
def okst (L : List (Option AV)) : Nat → Bool
  | 0 => true
  | j + 1 => match L[j]? with
    | some (some v) => catA v == 1
    | _ => true
theorem okst_spec {L : List (Option AV)} {i j : Nat} {v : AV} (h : okst L i = true) (hj : j + 1 = i) (hv : L[j]? = some (some v)) : catA v = 1 := by
  subst hj
  simp only [okst, hv] at h
  simpa using h
theorem agr_set1 {κ : KP} {ls : Array Slot} {nL i : Nat} {x : AV} {L L' : List (Option AV)} (hok : okst L i = true) (hs : L.set i (some x) = L')
    (h : lv_has ls nL ((i, cv κ x) :: (pr κ 0 L).filter (fun q => !(q.1 == i) && !(q.1 + 1 == i && q.2.category == 2)))) : agr κ ls nL L' := by
  subst hs
  refine agr_of h (fun j v hj => ?_)
  rw [List.getElem?_set] at hj
  by_cases e : i = j
  · subst e
    rw [if_pos rfl] at hj
    by_cases hl : i < L.length
    · rw [if_pos hl] at hj
      cases hj
      exact List.mem_cons_self
    · rw [if_neg hl] at hj
      cases hj
  · rw [if_neg e] at hj
    refine List.mem_cons_of_mem _ (List.mem_filter.mpr ⟨(mem_pr κ _ L 0).mpr ⟨j, v, hj, by simp⟩, ?_⟩)
    have h1 : (j == i) = false := by simpa using fun z => e z.symm
    by_cases e2 : j + 1 = i
    · have h2 : (cv κ v).category = 1 := by rw [cat_cv]; exact okst_spec hok e2 hj
      simp [h1, h2]
    · simp [h1, e2]
theorem agr_set2 {κ : KP} {ls : Array Slot} {nL i : Nat} {x : AV} {L L' : List (Option AV)} (hok : okst L i = true) (hs : (L.set i (some x)).set (i + 1) none = L')
    (h : lv_has ls nL ((i, cv κ x) :: (pr κ 0 L).filter (fun q => !(q.1 == i) && (!(q.1 == i + 1) && !(q.1 + 1 == i && q.2.category == 2))))) : agr κ ls nL L' := by
  subst hs
  refine agr_of h (fun j v hj => ?_)
  rw [List.getElem?_set] at hj
  by_cases e : i + 1 = j
  · rw [if_pos e] at hj
    by_cases hl : i + 1 < (L.set i (some x)).length
    · rw [if_pos hl] at hj
      cases hj
    · rw [if_neg hl] at hj
      cases hj
  · rw [if_neg e, List.getElem?_set] at hj
    by_cases e : i = j
    · subst e
      rw [if_pos rfl] at hj
      by_cases hl : i < L.length
      · rw [if_pos hl] at hj
        cases hj
        exact List.mem_cons_self
      · rw [if_neg hl] at hj
        cases hj
    · rename_i e0
      rw [if_neg e] at hj
      refine List.mem_cons_of_mem _ (List.mem_filter.mpr ⟨(mem_pr κ _ L 0).mpr ⟨j, v, hj, by simp⟩, ?_⟩)
      have h1 : (j == i) = false := by simpa using fun z => e z.symm
      have h3 : (j == i + 1) = false := by simpa using fun z => e0 z.symm
      by_cases e2 : j + 1 = i
      · have h2 : (cv κ v).category = 1 := by rw [cat_cv]; exact okst_spec hok e2 hj
        simp [h1, h2, h3]
      · simp [h1, e2, h3]
/-- fewer locals known -/
def Lsub : List (Option AV) → List (Option AV) → Prop
  | [], _ => True
  | none :: a, [] => Lsub a []
  | none :: a, _ :: b => Lsub a b
  | some _ :: _, [] => False
  | some x :: a, y :: b => y = some x ∧ Lsub a b
theorem Lsub.at : ∀ {a b : List (Option AV)} (_ : Lsub a b) {i : Nat} {v : AV}, a[i]? = some (some v) → b[i]? = some (some v)
  | [], _, _, i, v, h => by simp at h
  | none :: a, [], h0, i, v, h => by
    rcases i with _ | i
    · simp at h
    · have := Lsub.at (a := a) (b := []) h0 (i := i) (v := v) (by simpa using h)
      simp at this
  | none :: a, _ :: b, h0, i, v, h => by
    rcases i with _ | i
    · simp at h
    · simpa using Lsub.at (a := a) (b := b) h0 (i := i) (v := v) (by simpa using h)
  | some _ :: _, [], h0, _, _, _ => h0.elim
  | some x :: a, y :: b, h0, i, v, h => by
    rcases i with _ | i
    · simp at h
      subst h
      simpa using h0.1
    · simpa using Lsub.at (a := a) (b := b) h0.2 (i := i) (v := v) (by simpa using h)
theorem agr_sub {κ : KP} {ls : Array Slot} {nL : Nat} {L L' : List (Option AV)} (h : agr κ ls nL L) (hs : Lsub L' L) : agr κ ls nL L' :=
  agr_of h (fun i v hv => (mem_pr κ _ L 0).mpr ⟨i, v, hs.at hv, by simp⟩)
def la : List AV → List (Option AV)
  | [] => []
  | v :: vs => if catA v = 2 then some v :: none :: la vs else some v :: la vs
theorem pr_nones (κ : KP) : ∀ (k i : Nat), pr κ i (List.replicate k none) = []
  | 0, _ => rfl
  | k + 1, i => pr_nones κ k (i + 1)
theorem pr_args (κ : KP) (k : Nat) : ∀ (as : List AV) (i : Nat), pr κ i (la as ++ List.replicate k none) = lv_args i (as.map (cv κ))
  | [], i => pr_nones κ k i
  | v :: vs, i => by
    by_cases h : catA v = 2
    · have e : la (v :: vs) = some v :: none :: la vs := by rw [la, if_pos h]
      rw [e]
      show (i, cv κ v) :: pr κ (i + 1 + 1) (la vs ++ List.replicate k none) = (i, cv κ v) :: lv_args (if (cv κ v).category = 2 then i + 2 else i + 1) (vs.map (cv κ))
      rw [cat_cv, if_pos h, pr_args κ k vs]
    · have e : la (v :: vs) = some v :: la vs := by rw [la, if_neg h]
      rw [e]
      show (i, cv κ v) :: pr κ (i + 1) (la vs ++ List.replicate k none) = (i, cv κ v) :: lv_args (if (cv κ v).category = 2 then i + 2 else i + 1) (vs.map (cv κ))
      rw [cat_cv, if_neg h, pr_args κ k vs]
theorem la_len (κ : KP) : ∀ as : List AV, (lg_sl (as.map (cv κ))).length = (la as).length
  | [] => rfl
  | v :: vs => by
    have ih := la_len κ vs
    unfold lg_sl at ih ⊢
    rw [List.map_cons, List.flatMap_cons, List.length_append, ih, cat_cv, la]
    by_cases h : catA v = 2
    · rw [if_pos h, if_pos h]; simp; omega
    · rw [if_neg h, if_neg h]; simp; omega
theorem agr_entry (κ : KP) (as : List AV) {n : Nat} {L : List (Option AV)} (hn : (la as).length ≤ n) (hL : la as ++ List.replicate (n - (la as).length) none = L) : agr κ ((lg_sl (as.map (cv κ)) ++ List.replicate (n - (lg_sl (as.map (cv κ))).length) Slot.unset).toArray) n L := by
  have h := lv_entry (as.map (cv κ)) (n := n) (by rw [la_len]; exact hn)
  subst hL
  unfold agr
  rw [pr_args]
  exact h
def bd (o : Rs) (k : Int → Mem → Rs) : Rs := match o with
  | some x => k x.1 x.2
  | none => none
theorem bd_some {o : Rs} {k : Int → Mem → Rs} {res : Int × Mem} (h : bd o k = some res) : ∃ x, o = some x ∧ k x.1 x.2 = some res := by
  unfold bd at h
  cases o with
  | none => cases h
  | some x => exact ⟨x, rfl, h⟩
theorem gd_some {P : Prop} {d : Decidable P} {o : Rs} {res : Int × Mem} (h : (if P then o else none) = some res) : P ∧ o = some res := by
  by_cases hp : P
  · rw [if_pos hp] at h
    exact ⟨hp, h⟩
  · rw [if_neg hp] at h
    cases h
def rmd (d : Nat) : Room := { frames := d, cells := 0, slots := 0, locals := 34 * d }
/-- the one link to a nest mate's private method: World asks OnlyInFog.isCell -/
def NW (U : State) : Prop := va_Nw (.methodLinkNest RX4 64 yX5_isCell RX5) U
def Fx (own : String) (cc : ByteArray) (nL d : Nat) (sc : SC) (κ : KP) (p : Program) (R : Room) (s : State) (m : MethodId) (args : Array Value) (c : Code) (cells slots : Nat) (A : Nat → Prop) : Prop :=
  p.tables.exec = Jvm.exec ∧ c.code = cc ∧ c.maxLocals = nL ∧ s.vm.findClass own = some m.cls ∧ (∀ w ∈ lw_g, w.before args s = true) ∧ d ≤ R.frames ∧ 34 * d ≤ R.locals ∧ cells ≤ R.cells ∧ slots ≤ R.slots ∧ va_K κ.2.2 kcl (tys κ) s ∧ (∀ q, s.heap.size ≤ q → A q) ∧ (∀ L xs, sc = some (L, xs) → va_X (κ.1 158) L xs s s.heap ∧ κ.1 158 < s.heap.size ∧ ¬ A (κ.1 158)) ∧ NW s
def Pic (κ : KP) (s : State) (A : Nat → Prop) (M : Mem) (H : Heap) (locs : List Loc) : Prop := va_P κ.2.2 kcl (cw κ M) H ∧ va_D A (cw κ M) ∧ va_S A s.heap H locs
def Hr (cc : ByteArray) (rk : Nat) (res : Int × Mem) (κ : KP) (p : Program) (l : Launch) (e : Env) (R : Room) (s : State) (m : MethodId) (args : Array Value) (below : List Frame) (meth : Method) (c : Code) (cells slots : Nat) (A : Nat → Prop) (Fin : State → Prop) : Prop :=
  ∀ H locs ls pc, Pic κ s A res.2 H locs → ((rk = 0 ∨ (rk = 1 ∧ (res.1 = 0 ∨ res.1 = 1))) → decode cc pc = .ok (.ireturn, 1) → W p l e R s m args below meth c H locs cells slots Fin (F0 m pc ls [.int (Int32.ofInt res.1)])) ∧ (rk = 2 → decode cc pc = .ok (.lreturn, 1) → W p l e R s m args below meth c H locs cells slots Fin (F0 m pc ls [.long (Int64.ofInt res.1)])) ∧ (rk = 3 → decode cc pc = .ok (.return_, 1) → W p l e R s m args below meth c H locs cells slots Fin (F0 m pc ls []))
/-- THE LIGHT JUDGEMENT: the machine at pc with locals L, stack st, memory M ends with the answer that o tells -/
def Y (own : String) (cc : ByteArray) (nL d rk : Nat) (sc : SC) (pc : Nat) (L : List (Option AV)) (st : List AV) (M : Mem) (o : Rs) : Prop :=
  ∀ (res : Int × Mem), o = some res → ∀ (κ : KP) (p : Program) (l : Launch) (e : Env) (R : Room) (s : State) (m : MethodId) (args : Array Value) (below : List Frame) (meth : Method) (c : Code) (cells slots : Nat) (A : Nat → Prop) (Fin : State → Prop),
    Fx own cc nL d sc κ p R s m args c cells slots A → Hr cc rk res κ p l e R s m args below meth c cells slots A Fin →
    ∀ (H : Heap) (locs : List Loc) (ls : Array Slot), Pic κ s A M H locs → agr κ ls nL L → W p l e R s m args below meth c H locs cells slots Fin (F0 m pc ls (st.map (cv κ)))
end
section
section ROWS
variable {own : String} {cc : ByteArray} {nL d rk : Nat} {sc : SC} {pc : Nat} {L : List (Option AV)} {st : List AV} {M : Mem} {o o1 o2 : Rs}
theorem y_iconst {n : Int} (hd : decode cc pc = .ok (.iconst n, 1)) (k : Y own cc nL d rk sc (pc + 1) L (iv n :: st) M o) : Y own cc nL d rk sc pc L st M o := by
  intro res ho κ p l eV R s m args below meth c cells slots A Fin hF hR H locs ls hP hl
  exact lv_iconst hF.1 hF.2.1 hd rfl (k res ho κ p l eV R s m args below meth c cells slots A Fin hF hR H locs ls hP hl)
theorem y_bipush {n : Int} (hd : decode cc pc = .ok (.bipush n, 2)) (hv : (Int8.ofInt n).toInt32 = Int32.ofInt n) (k : Y own cc nL d rk sc (pc + 2) L (iv n :: st) M o) : Y own cc nL d rk sc pc L st M o := by
  intro res ho κ p l eV R s m args below meth c cells slots A Fin hF hR H locs ls hP hl
  exact lv_bipush hF.1 hF.2.1 hd hv (k res ho κ p l eV R s m args below meth c cells slots A Fin hF hR H locs ls hP hl)
theorem y_sipush {n : Int} (hd : decode cc pc = .ok (.sipush n, 3)) (hv : (Int16.ofInt n).toInt32 = Int32.ofInt n) (k : Y own cc nL d rk sc (pc + 3) L (iv n :: st) M o) : Y own cc nL d rk sc pc L st M o := by
  intro res ho κ p l eV R s m args below meth c cells slots A Fin hF hR H locs ls hP hl
  exact lv_sipush hF.1 hF.2.1 hd hv (k res ho κ p l eV R s m args below meth c cells slots A Fin hF hR H locs ls hP hl)
theorem y_ldc {index : Nat} {v : Int32} {n : Int} (hw : Cond.constant own index v ∈ lw_g) (hv : v = Int32.ofInt n) (hd : decode cc pc = .ok (.ldc index, 2)) (k : Y own cc nL d rk sc (pc + 2) L (iv n :: st) M o) : Y own cc nL d rk sc pc L st M o := by
  intro res ho κ p l eV R s m args below meth c cells slots A Fin hF hR H locs ls hP hl
  exact lv_ldc hF.1 hF.2.1 hF.2.2.2.1 (hF.2.2.2.2.1 _ (hv ▸ hw)) hd (k res ho κ p l eV R s m args below meth c cells slots A Fin hF hR H locs ls hP hl)
theorem y_ldcw {index : Nat} {v : Int32} {n : Int} (hw : Cond.constant own index v ∈ lw_g) (hv : v = Int32.ofInt n) (hd : decode cc pc = .ok (.ldc_w index, 3)) (k : Y own cc nL d rk sc (pc + 3) L (iv n :: st) M o) : Y own cc nL d rk sc pc L st M o := by
  intro res ho κ p l eV R s m args below meth c cells slots A Fin hF hR H locs ls hP hl
  exact lv_ldcw hF.1 hF.2.1 hF.2.2.2.1 (hF.2.2.2.2.1 _ (hv ▸ hw)) hd (k res ho κ p l eV R s m args below meth c cells slots A Fin hF hR H locs ls hP hl)
theorem y_ldc2 {index : Nat} {v : Int64} {n : Int} (hw : Cond.constantLong own index v ∈ lw_g) (hv : v = Int64.ofInt n) (hd : decode cc pc = .ok (.ldc2_w index, 3)) (k : Y own cc nL d rk sc (pc + 3) L (jv n :: st) M o) : Y own cc nL d rk sc pc L st M o := by
  intro res ho κ p l eV R s m args below meth c cells slots A Fin hF hR H locs ls hP hl
  exact lv_ldc2 hF.1 hF.2.1 hF.2.2.2.1 (hF.2.2.2.2.1 _ (hv ▸ hw)) hd (k res ho κ p l eV R s m args below meth c cells slots A Fin hF hR H locs ls hP hl)
theorem y_lconst {n : Fin 2} {a : Int} (hd : decode cc pc = .ok (.lconst n, 1)) (hv : Int64.ofNat (n : Nat) = Int64.ofInt a) (k : Y own cc nL d rk sc (pc + 1) L (jv a :: st) M o) : Y own cc nL d rk sc pc L st M o := by
  intro res ho κ p l eV R s m args below meth c cells slots A Fin hF hR H locs ls hP hl
  exact lv_lconst hF.1 hF.2.1 hd hv (k res ho κ p l eV R s m args below meth c cells slots A Fin hF hR H locs ls hP hl)
theorem y_iload_n {i : Fin 4} {a : Int} (hd : decode cc pc = .ok (.iload_n i, 1)) (hL : L[(i : Nat)]? = some (some (iv a))) (k : Y own cc nL d rk sc (pc + 1) L (iv a :: st) M o) : Y own cc nL d rk sc pc L st M o := by
  intro res ho κ p l eV R s m args below meth c cells slots A Fin hF hR H locs ls hP hl
  exact lv_iload_n hF.1 hF.2.1 hd rfl (agr_at hl hL) (k res ho κ p l eV R s m args below meth c cells slots A Fin hF hR H locs ls hP hl)
theorem y_iload {i : Nat} {a : Int} (hd : decode cc pc = .ok (.iload i, 2)) (hL : L[i]? = some (some (iv a))) (k : Y own cc nL d rk sc (pc + 2) L (iv a :: st) M o) : Y own cc nL d rk sc pc L st M o := by
  intro res ho κ p l eV R s m args below meth c cells slots A Fin hF hR H locs ls hP hl
  exact lv_iload hF.1 hF.2.1 hd (agr_at hl hL) (k res ho κ p l eV R s m args below meth c cells slots A Fin hF hR H locs ls hP hl)
theorem y_lload_n {i : Fin 4} {a : Int} (hd : decode cc pc = .ok (.lload_n i, 1)) (hL : L[(i : Nat)]? = some (some (jv a))) (k : Y own cc nL d rk sc (pc + 1) L (jv a :: st) M o) : Y own cc nL d rk sc pc L st M o := by
  intro res ho κ p l eV R s m args below meth c cells slots A Fin hF hR H locs ls hP hl
  exact lv_lload_n hF.1 hF.2.1 hd rfl (agr_at hl hL) (k res ho κ p l eV R s m args below meth c cells slots A Fin hF hR H locs ls hP hl)
theorem y_lload {i : Nat} {a : Int} (hd : decode cc pc = .ok (.lload i, 2)) (hL : L[i]? = some (some (jv a))) (k : Y own cc nL d rk sc (pc + 2) L (jv a :: st) M o) : Y own cc nL d rk sc pc L st M o := by
  intro res ho κ p l eV R s m args below meth c cells slots A Fin hF hR H locs ls hP hl
  exact lv_lload hF.1 hF.2.1 hd (agr_at hl hL) (k res ho κ p l eV R s m args below meth c cells slots A Fin hF hR H locs ls hP hl)
theorem y_aload_n {i : Fin 4} {a : Nat} (hd : decode cc pc = .ok (.aload_n i, 1)) (hL : L[(i : Nat)]? = some (some (rv a))) (k : Y own cc nL d rk sc (pc + 1) L (rv a :: st) M o) : Y own cc nL d rk sc pc L st M o := by
  intro res ho κ p l eV R s m args below meth c cells slots A Fin hF hR H locs ls hP hl
  exact lv_aload_n hF.1 hF.2.1 hd rfl (agr_at hl hL) (k res ho κ p l eV R s m args below meth c cells slots A Fin hF hR H locs ls hP hl)
theorem y_aload {i : Nat} {a : Nat} (hd : decode cc pc = .ok (.aload i, 2)) (hL : L[i]? = some (some (rv a))) (k : Y own cc nL d rk sc (pc + 2) L (rv a :: st) M o) : Y own cc nL d rk sc pc L st M o := by
  intro res ho κ p l eV R s m args below meth c cells slots A Fin hF hR H locs ls hP hl
  exact lv_aload hF.1 hF.2.1 hd (agr_at hl hL) (k res ho κ p l eV R s m args below meth c cells slots A Fin hF hR H locs ls hP hl)
theorem y_istore_n {i : Fin 4} {a : Int} {L' : List (Option AV)} (hd : decode cc pc = .ok (.istore_n i, 1)) (hn : (i : Nat) < nL) (hok : okst L i = true) (hs : L.set i (some (iv a)) = L') (k : Y own cc nL d rk sc (pc + 1) L' st M o) : Y own cc nL d rk sc pc L (iv a :: st) M o := by
  intro res ho κ p l eV R s m args below meth c cells slots A Fin hF hR H locs ls hP hl
  exact lv_istore_n hF.1 hF.2.1 hd rfl hl hn rfl (fun ls' h' => k res ho κ p l eV R s m args below meth c cells slots A Fin hF hR H locs ls' hP (agr_set1 hok hs h'))
theorem y_istore {i : Nat} {a : Int} {L' : List (Option AV)} (hd : decode cc pc = .ok (.istore i, 2)) (hn : i < nL) (hok : okst L i = true) (hs : L.set i (some (iv a)) = L') (k : Y own cc nL d rk sc (pc + 2) L' st M o) : Y own cc nL d rk sc pc L (iv a :: st) M o := by
  intro res ho κ p l eV R s m args below meth c cells slots A Fin hF hR H locs ls hP hl
  exact lv_istore hF.1 hF.2.1 hd hl hn rfl (fun ls' h' => k res ho κ p l eV R s m args below meth c cells slots A Fin hF hR H locs ls' hP (agr_set1 hok hs h'))
theorem y_astore_n {i : Fin 4} {a : Nat} {L' : List (Option AV)} (hd : decode cc pc = .ok (.astore_n i, 1)) (hn : (i : Nat) < nL) (hok : okst L i = true) (hs : L.set i (some (rv a)) = L') (k : Y own cc nL d rk sc (pc + 1) L' st M o) : Y own cc nL d rk sc pc L (rv a :: st) M o := by
  intro res ho κ p l eV R s m args below meth c cells slots A Fin hF hR H locs ls hP hl
  exact lv_astore_n hF.1 hF.2.1 hd rfl hl hn rfl (fun ls' h' => k res ho κ p l eV R s m args below meth c cells slots A Fin hF hR H locs ls' hP (agr_set1 hok hs h'))
theorem y_astore {i : Nat} {a : Nat} {L' : List (Option AV)} (hd : decode cc pc = .ok (.astore i, 2)) (hn : i < nL) (hok : okst L i = true) (hs : L.set i (some (rv a)) = L') (k : Y own cc nL d rk sc (pc + 2) L' st M o) : Y own cc nL d rk sc pc L (rv a :: st) M o := by
  intro res ho κ p l eV R s m args below meth c cells slots A Fin hF hR H locs ls hP hl
  exact lv_astore hF.1 hF.2.1 hd hl hn rfl (fun ls' h' => k res ho κ p l eV R s m args below meth c cells slots A Fin hF hR H locs ls' hP (agr_set1 hok hs h'))
theorem y_lstore_n {i : Fin 4} {a : Int} {L' : List (Option AV)} (hd : decode cc pc = .ok (.lstore_n i, 1)) (hn : (i : Nat) + 1 < nL) (hok : okst L i = true) (hs : (L.set i (some (jv a))).set (i + 1) none = L') (k : Y own cc nL d rk sc (pc + 1) L' st M o) : Y own cc nL d rk sc pc L (jv a :: st) M o := by
  intro res ho κ p l eV R s m args below meth c cells slots A Fin hF hR H locs ls hP hl
  exact lv_lstore_n hF.1 hF.2.1 hd rfl hl hn rfl (fun ls' h' => k res ho κ p l eV R s m args below meth c cells slots A Fin hF hR H locs ls' hP (agr_set2 hok hs h'))
theorem y_lstore {i : Nat} {a : Int} {L' : List (Option AV)} (hd : decode cc pc = .ok (.lstore i, 2)) (hn : i + 1 < nL) (hok : okst L i = true) (hs : (L.set i (some (jv a))).set (i + 1) none = L') (k : Y own cc nL d rk sc (pc + 2) L' st M o) : Y own cc nL d rk sc pc L (jv a :: st) M o := by
  intro res ho κ p l eV R s m args below meth c cells slots A Fin hF hR H locs ls hP hl
  exact lv_lstore hF.1 hF.2.1 hd hl hn rfl (fun ls' h' => k res ho κ p l eV R s m args below meth c cells slots A Fin hF hR H locs ls' hP (agr_set2 hok hs h'))
theorem y_iinc {i : Nat} {n a : Int} {L' : List (Option AV)} (hd : decode cc pc = .ok (.iinc i n, 3)) (hL : L[i]? = some (some (iv a))) (hn : i < nL) (hok : okst L i = true) (hs : L.set i (some (iv (a + n))) = L') (k : Y own cc nL d rk sc (pc + 3) L' st M o) : Y own cc nL d rk sc pc L st M o := by
  intro res ho κ p l eV R s m args below meth c cells slots A Fin hF hR H locs ls hP hl
  have h1 : lv_has ls nL ((i, Value.int (Int32.ofInt a)) :: pr κ 0 L) := ⟨hl.1, hl.2.1, fun q hq => by
    rcases List.mem_cons.mp hq with h | h
    · rw [h]; exact agr_at hl hL
    · exact hl.2.2 q h⟩
  refine lv_iinc (k := 0) (v := Int32.ofInt (a + n)) hF.1 hF.2.1 hd h1 rfl (Int32.ofInt_add a n).symm hn rfl (fun ls' h' => k res ho κ p l eV R s m args below meth c cells slots A Fin hF hR H locs ls' hP ?_)
  refine agr_set1 hok hs ⟨h'.1, h'.2.1, fun q hq => h'.2.2 q ?_⟩
  rcases List.mem_cons.mp hq with h | h
  · rw [h]; exact List.mem_cons_self
  · obtain ⟨h2, h3⟩ := List.mem_filter.mp h
    exact List.mem_cons_of_mem _ (List.mem_filter.mpr ⟨List.mem_cons_of_mem _ h2, h3⟩)
theorem y_dup {v : AV} (hd : decode cc pc = .ok (.dup, 1)) (hc : catA v = 1) (k : Y own cc nL d rk sc (pc + 1) L (v :: v :: st) M o) : Y own cc nL d rk sc pc L (v :: st) M o := by
  intro res ho κ p l eV R s m args below meth c cells slots A Fin hF hR H locs ls hP hl
  exact lv_dup hF.1 hF.2.1 hd ((cat_cv κ v).trans hc) (k res ho κ p l eV R s m args below meth c cells slots A Fin hF hR H locs ls hP hl)
theorem y_pop {v : AV} (hd : decode cc pc = .ok (.pop, 1)) (hc : catA v = 1) (k : Y own cc nL d rk sc (pc + 1) L st M o) : Y own cc nL d rk sc pc L (v :: st) M o := by
  intro res ho κ p l eV R s m args below meth c cells slots A Fin hF hR H locs ls hP hl
  exact lv_pop hF.1 hF.2.1 hd ((cat_cv κ v).trans hc) (k res ho κ p l eV R s m args below meth c cells slots A Fin hF hR H locs ls hP hl)
theorem y_dup2 {v u : AV} (hd : decode cc pc = .ok (.dup2, 1)) (hc : catA v = 1) (hc' : catA u = 1) (k : Y own cc nL d rk sc (pc + 1) L (v :: u :: v :: u :: st) M o) : Y own cc nL d rk sc pc L (v :: u :: st) M o := by
  intro res ho κ p l eV R s m args below meth c cells slots A Fin hF hR H locs ls hP hl
  exact lv_dup2_11 hF.1 hF.2.1 hd ((cat_cv κ v).trans hc) ((cat_cv κ u).trans hc') (k res ho κ p l eV R s m args below meth c cells slots A Fin hF hR H locs ls hP hl)
theorem y_goto {off : Int} {tgt : Nat} (hd : decode cc pc = .ok (.goto off, 3)) (ht : (pc : Int) + off = (tgt : Int)) (k : Y own cc nL d rk sc tgt L st M o) : Y own cc nL d rk sc pc L st M o := by
  intro res ho κ p l eV R s m args below meth c cells slots A Fin hF hR H locs ls hP hl
  exact lv_goto hF.1 hF.2.1 hd ht (k res ho κ p l eV R s m args below meth c cells slots A Fin hF hR H locs ls hP hl)
theorem y_iadd {a b : Int} (hd : decode cc pc = .ok (.iadd, 1)) (k : Y own cc nL d rk sc (pc + 1) L (iv (a + b) :: st) M o) : Y own cc nL d rk sc pc L (iv b :: iv a :: st) M o := by
  intro res ho κ p l eV R s m args below meth c cells slots A Fin hF hR H locs ls hP hl
  have k' := k res ho κ p l eV R s m args below meth c cells slots A Fin hF hR H locs ls hP hl
  refine lv_iadd hF.1 hF.2.1 hd ?_
  have e : Int32.ofInt (a + b) = Int32.ofInt a + Int32.ofInt b := Int32.ofInt_add a b
  rw [show List.map (cv κ) (iv (a + b) :: st) = .int (Int32.ofInt (a + b)) :: st.map (cv κ) from rfl, e] at k'
  exact k'
theorem y_isub {a b : Int} (hd : decode cc pc = .ok (.isub, 1)) (k : Y own cc nL d rk sc (pc + 1) L (iv (a - b) :: st) M o) : Y own cc nL d rk sc pc L (iv b :: iv a :: st) M o := by
  intro res ho κ p l eV R s m args below meth c cells slots A Fin hF hR H locs ls hP hl
  have k' := k res ho κ p l eV R s m args below meth c cells slots A Fin hF hR H locs ls hP hl
  refine lv_isub hF.1 hF.2.1 hd ?_
  have e : Int32.ofInt (a - b) = Int32.ofInt a - Int32.ofInt b := Int32.ofInt_sub a b
  rw [show List.map (cv κ) (iv (a - b) :: st) = .int (Int32.ofInt (a - b)) :: st.map (cv κ) from rfl, e] at k'
  exact k'
theorem y_imul {a b : Int} (hd : decode cc pc = .ok (.imul, 1)) (k : Y own cc nL d rk sc (pc + 1) L (iv (a * b) :: st) M o) : Y own cc nL d rk sc pc L (iv b :: iv a :: st) M o := by
  intro res ho κ p l eV R s m args below meth c cells slots A Fin hF hR H locs ls hP hl
  have k' := k res ho κ p l eV R s m args below meth c cells slots A Fin hF hR H locs ls hP hl
  refine lv_imul hF.1 hF.2.1 hd ?_
  have e : Int32.ofInt (a * b) = Int32.ofInt a * Int32.ofInt b := Int32.ofInt_mul a b
  rw [show List.map (cv κ) (iv (a * b) :: st) = .int (Int32.ofInt (a * b)) :: st.map (cv κ) from rfl, e] at k'
  exact k'
theorem y_iand {a b : Int} (hd : decode cc pc = .ok (.iand, 1)) (k : Y own cc nL d rk sc (pc + 1) L (iv (bAnd a b) :: st) M o) : Y own cc nL d rk sc pc L (iv b :: iv a :: st) M o := by
  intro res ho κ p l eV R s m args below meth c cells slots A Fin hF hR H locs ls hP hl
  have k' := k res ho κ p l eV R s m args below meth c cells slots A Fin hF hR H locs ls hP hl
  refine lv_iand hF.1 hF.2.1 hd ?_
  have e : Int32.ofInt (bAnd a b) = Int32.ofInt a &&& Int32.ofInt b := c_and a b
  rw [show List.map (cv κ) (iv (bAnd a b) :: st) = .int (Int32.ofInt (bAnd a b)) :: st.map (cv κ) from rfl, e] at k'
  exact k'
theorem y_ior {a b : Int} (hd : decode cc pc = .ok (.ior, 1)) (k : Y own cc nL d rk sc (pc + 1) L (iv (bOr a b) :: st) M o) : Y own cc nL d rk sc pc L (iv b :: iv a :: st) M o := by
  intro res ho κ p l eV R s m args below meth c cells slots A Fin hF hR H locs ls hP hl
  have k' := k res ho κ p l eV R s m args below meth c cells slots A Fin hF hR H locs ls hP hl
  refine lv_ior hF.1 hF.2.1 hd ?_
  have e : Int32.ofInt (bOr a b) = Int32.ofInt a ||| Int32.ofInt b := c_or a b
  rw [show List.map (cv κ) (iv (bOr a b) :: st) = .int (Int32.ofInt (bOr a b)) :: st.map (cv κ) from rfl, e] at k'
  exact k'
theorem y_ixor {a b : Int} (hd : decode cc pc = .ok (.ixor, 1)) (k : Y own cc nL d rk sc (pc + 1) L (iv (bXor a b) :: st) M o) : Y own cc nL d rk sc pc L (iv b :: iv a :: st) M o := by
  intro res ho κ p l eV R s m args below meth c cells slots A Fin hF hR H locs ls hP hl
  have k' := k res ho κ p l eV R s m args below meth c cells slots A Fin hF hR H locs ls hP hl
  refine lv_ixor hF.1 hF.2.1 hd ?_
  have e : Int32.ofInt (bXor a b) = Int32.ofInt a ^^^ Int32.ofInt b := c_xor a b
  rw [show List.map (cv κ) (iv (bXor a b) :: st) = .int (Int32.ofInt (bXor a b)) :: st.map (cv κ) from rfl, e] at k'
  exact k'
theorem y_ishl {a b : Int} (hd : decode cc pc = .ok (.ishl, 1)) (k : Y own cc nL d rk sc (pc + 1) L (iv (bShl a b) :: st) M o) : Y own cc nL d rk sc pc L (iv b :: iv a :: st) M o := by
  intro res ho κ p l eV R s m args below meth c cells slots A Fin hF hR H locs ls hP hl
  have k' := k res ho κ p l eV R s m args below meth c cells slots A Fin hF hR H locs ls hP hl
  refine lv_ishl hF.1 hF.2.1 hd ?_
  have e : Int32.ofInt (bShl a b) = Int32.ofInt a <<< (Int32.ofInt b &&& 31) := c_shl a b
  rw [show List.map (cv κ) (iv (bShl a b) :: st) = .int (Int32.ofInt (bShl a b)) :: st.map (cv κ) from rfl, e] at k'
  exact k'
theorem y_ishr {a b : Int} (hd : decode cc pc = .ok (.ishr, 1)) (k : Y own cc nL d rk sc (pc + 1) L (iv (bShr a b) :: st) M o) : Y own cc nL d rk sc pc L (iv b :: iv a :: st) M o := by
  intro res ho κ p l eV R s m args below meth c cells slots A Fin hF hR H locs ls hP hl
  have k' := k res ho κ p l eV R s m args below meth c cells slots A Fin hF hR H locs ls hP hl
  refine lv_ishr hF.1 hF.2.1 hd ?_
  have e : Int32.ofInt (bShr a b) = Int32.ofInt a >>> (Int32.ofInt b &&& 31) := c_shr a b
  rw [show List.map (cv κ) (iv (bShr a b) :: st) = .int (Int32.ofInt (bShr a b)) :: st.map (cv κ) from rfl, e] at k'
  exact k'
theorem y_ladd {a b : Int} (hd : decode cc pc = .ok (.ladd, 1)) (k : Y own cc nL d rk sc (pc + 1) L (jv (a + b) :: st) M o) : Y own cc nL d rk sc pc L (jv b :: jv a :: st) M o := by
  intro res ho κ p l eV R s m args below meth c cells slots A Fin hF hR H locs ls hP hl
  have k' := k res ho κ p l eV R s m args below meth c cells slots A Fin hF hR H locs ls hP hl
  refine lv_ladd hF.1 hF.2.1 hd ?_
  have e : Int64.ofInt (a + b) = Int64.ofInt a + Int64.ofInt b := Int64.ofInt_add a b
  rw [show List.map (cv κ) (jv (a + b) :: st) = .long (Int64.ofInt (a + b)) :: st.map (cv κ) from rfl, e] at k'
  exact k'
theorem y_lsub {a b : Int} (hd : decode cc pc = .ok (.lsub, 1)) (k : Y own cc nL d rk sc (pc + 1) L (jv (a - b) :: st) M o) : Y own cc nL d rk sc pc L (jv b :: jv a :: st) M o := by
  intro res ho κ p l eV R s m args below meth c cells slots A Fin hF hR H locs ls hP hl
  have k' := k res ho κ p l eV R s m args below meth c cells slots A Fin hF hR H locs ls hP hl
  refine lv_lsub hF.1 hF.2.1 hd ?_
  have e : Int64.ofInt (a - b) = Int64.ofInt a - Int64.ofInt b := Int64.ofInt_sub a b
  rw [show List.map (cv κ) (jv (a - b) :: st) = .long (Int64.ofInt (a - b)) :: st.map (cv κ) from rfl, e] at k'
  exact k'
theorem y_lmul {a b : Int} (hd : decode cc pc = .ok (.lmul, 1)) (k : Y own cc nL d rk sc (pc + 1) L (jv (a * b) :: st) M o) : Y own cc nL d rk sc pc L (jv b :: jv a :: st) M o := by
  intro res ho κ p l eV R s m args below meth c cells slots A Fin hF hR H locs ls hP hl
  have k' := k res ho κ p l eV R s m args below meth c cells slots A Fin hF hR H locs ls hP hl
  refine lv_lmul hF.1 hF.2.1 hd ?_
  have e : Int64.ofInt (a * b) = Int64.ofInt a * Int64.ofInt b := Int64.ofInt_mul a b
  rw [show List.map (cv κ) (jv (a * b) :: st) = .long (Int64.ofInt (a * b)) :: st.map (cv κ) from rfl, e] at k'
  exact k'
theorem y_idiv {a b : Int} (hd : decode cc pc = .ok (.idiv, 1)) (ha : I32 a) (hb : I32 b) (hb0 : b ≠ 0) (k : Y own cc nL d rk sc (pc + 1) L (iv (a.tdiv b) :: st) M o) : Y own cc nL d rk sc pc L (iv b :: iv a :: st) M o := by
  intro res ho κ p l eV R s m args below meth c cells slots A Fin hF hR H locs ls hP hl
  have k' := k res ho κ p l eV R s m args below meth c cells slots A Fin hF hR H locs ls hP hl
  refine lv_idiv hF.1 hF.2.1 hd (fun z => hb0 ((i_inj hb i32_0).mp (z.trans z32))) ?_
  have e : Int32.ofInt (a.tdiv b) = Int32.ofInt a / Int32.ofInt b := (i_div ha hb).symm
  rw [show List.map (cv κ) (iv (a.tdiv b) :: st) = .int (Int32.ofInt (a.tdiv b)) :: st.map (cv κ) from rfl, e] at k'
  exact k'
theorem y_irem {a b : Int} (hd : decode cc pc = .ok (.irem, 1)) (ha : I32 a) (hb : I32 b) (hb0 : b ≠ 0) (k : Y own cc nL d rk sc (pc + 1) L (iv (a.tmod b) :: st) M o) : Y own cc nL d rk sc pc L (iv b :: iv a :: st) M o := by
  intro res ho κ p l eV R s m args below meth c cells slots A Fin hF hR H locs ls hP hl
  have k' := k res ho κ p l eV R s m args below meth c cells slots A Fin hF hR H locs ls hP hl
  refine lv_irem hF.1 hF.2.1 hd (fun z => hb0 ((i_inj hb i32_0).mp (z.trans z32))) ?_
  have e : Int32.ofInt (a.tmod b) = Int32.ofInt a - Int32.ofInt a / Int32.ofInt b * Int32.ofInt b := (i_rem ha hb).symm
  rw [show List.map (cv κ) (iv (a.tmod b) :: st) = .int (Int32.ofInt (a.tmod b)) :: st.map (cv κ) from rfl, e] at k'
  exact k'
theorem y_ldiv {a b : Int} (hd : decode cc pc = .ok (.ldiv, 1)) (ha : I64 a) (hb : I64 b) (hb0 : b ≠ 0) (k : Y own cc nL d rk sc (pc + 1) L (jv (a.tdiv b) :: st) M o) : Y own cc nL d rk sc pc L (jv b :: jv a :: st) M o := by
  intro res ho κ p l eV R s m args below meth c cells slots A Fin hF hR H locs ls hP hl
  have k' := k res ho κ p l eV R s m args below meth c cells slots A Fin hF hR H locs ls hP hl
  refine lv_ldiv hF.1 hF.2.1 hd (fun z => hb0 ((l_inj hb i64_0).mp (z.trans z64))) ?_
  have e : Int64.ofInt (a.tdiv b) = Int64.ofInt a / Int64.ofInt b := (l_div ha hb).symm
  rw [show List.map (cv κ) (jv (a.tdiv b) :: st) = .long (Int64.ofInt (a.tdiv b)) :: st.map (cv κ) from rfl, e] at k'
  exact k'
theorem y_lrem {a b : Int} (hd : decode cc pc = .ok (.lrem, 1)) (ha : I64 a) (hb : I64 b) (hb0 : b ≠ 0) (k : Y own cc nL d rk sc (pc + 1) L (jv (a.tmod b) :: st) M o) : Y own cc nL d rk sc pc L (jv b :: jv a :: st) M o := by
  intro res ho κ p l eV R s m args below meth c cells slots A Fin hF hR H locs ls hP hl
  have k' := k res ho κ p l eV R s m args below meth c cells slots A Fin hF hR H locs ls hP hl
  refine lv_lrem hF.1 hF.2.1 hd (fun z => hb0 ((l_inj hb i64_0).mp (z.trans z64))) ?_
  have e : Int64.ofInt (a.tmod b) = Int64.ofInt a - Int64.ofInt a / Int64.ofInt b * Int64.ofInt b := (l_rem ha hb).symm
  rw [show List.map (cv κ) (jv (a.tmod b) :: st) = .long (Int64.ofInt (a.tmod b)) :: st.map (cv κ) from rfl, e] at k'
  exact k'
theorem y_ineg {a : Int} (hd : decode cc pc = .ok (.ineg, 1)) (k : Y own cc nL d rk sc (pc + 1) L (iv (-a) :: st) M o) : Y own cc nL d rk sc pc L (iv a :: st) M o := by
  intro res ho κ p l eV R s m args below meth c cells slots A Fin hF hR H locs ls hP hl
  have k' := k res ho κ p l eV R s m args below meth c cells slots A Fin hF hR H locs ls hP hl
  refine lv_ineg hF.1 hF.2.1 hd ?_
  rw [show List.map (cv κ) (iv (-a) :: st) = .int (Int32.ofInt (-a)) :: st.map (cv κ) from rfl, Int32.ofInt_neg] at k'
  exact k'
theorem y_i2l {a : Int} (hd : decode cc pc = .ok (.i2l, 1)) (ha : I32 a) (k : Y own cc nL d rk sc (pc + 1) L (jv a :: st) M o) : Y own cc nL d rk sc pc L (iv a :: st) M o := by
  intro res ho κ p l eV R s m args below meth c cells slots A Fin hF hR H locs ls hP hl
  exact lv_i2l hF.1 hF.2.1 hd (c_i2l ha) (k res ho κ p l eV R s m args below meth c cells slots A Fin hF hR H locs ls hP hl)
theorem y_lcmp {a b : Int} (hd : decode cc pc = .ok (.lcmp, 1)) (ha : I64 a) (hb : I64 b) (k : Y own cc nL d rk sc (pc + 1) L (iv (cmpZ a b) :: st) M o) : Y own cc nL d rk sc pc L (jv b :: jv a :: st) M o := by
  intro res ho κ p l eV R s m args below meth c cells slots A Fin hF hR H locs ls hP hl
  have k' := k res ho κ p l eV R s m args below meth c cells slots A Fin hF hR H locs ls hP hl
  refine W.lcmp hF.1 hF.2.1 hd ?_
  rw [show List.map (cv κ) (iv (cmpZ a b) :: st) = .int (Int32.ofInt (cmpZ a b)) :: st.map (cv κ) from rfl, ← l_cmp ha hb] at k'
  exact k'
theorem y_icmp_eq {a b : Int} {off : Int} {tgt : Nat} (hd : decode cc pc = .ok (.if_icmp .eq off, 3)) (ht : (pc : Int) + off = (tgt : Int)) (ha : I32 a) (hb : I32 b) (kt : a = b → Y own cc nL d rk sc tgt L st M o1) (kf : ¬ (a = b) → Y own cc nL d rk sc (pc + 3) L st M o2) : Y own cc nL d rk sc pc L (iv b :: iv a :: st) M (if a = b then o1 else o2) := by
  intro res ho κ p l eV R s m args below meth c cells slots A Fin hF hR H locs ls hP hl
  refine lv_icmp_eq hF.1 hF.2.1 hd ht (fun h => ?_) (fun h => ?_)
  ·
    have h' : a = b := by exact (i_inj ha hb).mp h
    rw [if_pos h'] at ho
    exact kt h' res ho κ p l eV R s m args below meth c cells slots A Fin hF hR H locs ls hP hl
  ·
    have h' : ¬ (a = b) := by exact fun q => h ((i_inj ha hb).mpr q)
    rw [if_neg h'] at ho
    exact kf h' res ho κ p l eV R s m args below meth c cells slots A Fin hF hR H locs ls hP hl
theorem y_if_eq {a : Int} {off : Int} {tgt : Nat} (hd : decode cc pc = .ok (.ifCond .eq off, 3)) (ht : (pc : Int) + off = (tgt : Int)) (ha : I32 a) (kt : a = 0 → Y own cc nL d rk sc tgt L st M o1) (kf : ¬ (a = 0) → Y own cc nL d rk sc (pc + 3) L st M o2) : Y own cc nL d rk sc pc L (iv a :: st) M (if a = 0 then o1 else o2) := by
  intro res ho κ p l eV R s m args below meth c cells slots A Fin hF hR H locs ls hP hl
  refine lv_if_eq hF.1 hF.2.1 hd ht (fun h => ?_) (fun h => ?_)
  ·
    have h' : a = 0 := by rw [z32] at h; exact (i_inj ha i32_0).mp h
    rw [if_pos h'] at ho
    exact kt h' res ho κ p l eV R s m args below meth c cells slots A Fin hF hR H locs ls hP hl
  ·
    have h' : ¬ (a = 0) := by rw [z32] at h; exact fun q => h ((i_inj ha i32_0).mpr q)
    rw [if_neg h'] at ho
    exact kf h' res ho κ p l eV R s m args below meth c cells slots A Fin hF hR H locs ls hP hl
theorem y_icmp_ne {a b : Int} {off : Int} {tgt : Nat} (hd : decode cc pc = .ok (.if_icmp .ne off, 3)) (ht : (pc : Int) + off = (tgt : Int)) (ha : I32 a) (hb : I32 b) (kt : ¬ (a = b) → Y own cc nL d rk sc tgt L st M o1) (kf : a = b → Y own cc nL d rk sc (pc + 3) L st M o2) : Y own cc nL d rk sc pc L (iv b :: iv a :: st) M (if a = b then o2 else o1) := by
  intro res ho κ p l eV R s m args below meth c cells slots A Fin hF hR H locs ls hP hl
  refine lv_icmp_ne hF.1 hF.2.1 hd ht (fun h => ?_) (fun h => ?_)
  ·
    have h' : ¬ (a = b) := by exact fun q => h ((i_inj ha hb).mpr q)
    rw [if_neg h'] at ho
    exact kt h' res ho κ p l eV R s m args below meth c cells slots A Fin hF hR H locs ls hP hl
  ·
    have h' : a = b := by exact (i_inj ha hb).mp h
    rw [if_pos h'] at ho
    exact kf h' res ho κ p l eV R s m args below meth c cells slots A Fin hF hR H locs ls hP hl
theorem y_if_ne {a : Int} {off : Int} {tgt : Nat} (hd : decode cc pc = .ok (.ifCond .ne off, 3)) (ht : (pc : Int) + off = (tgt : Int)) (ha : I32 a) (kt : ¬ (a = 0) → Y own cc nL d rk sc tgt L st M o1) (kf : a = 0 → Y own cc nL d rk sc (pc + 3) L st M o2) : Y own cc nL d rk sc pc L (iv a :: st) M (if a = 0 then o2 else o1) := by
  intro res ho κ p l eV R s m args below meth c cells slots A Fin hF hR H locs ls hP hl
  refine lv_if_ne hF.1 hF.2.1 hd ht (fun h => ?_) (fun h => ?_)
  ·
    have h' : ¬ (a = 0) := by rw [z32] at h; exact fun q => h ((i_inj ha i32_0).mpr q)
    rw [if_neg h'] at ho
    exact kt h' res ho κ p l eV R s m args below meth c cells slots A Fin hF hR H locs ls hP hl
  ·
    have h' : a = 0 := by rw [z32] at h; exact (i_inj ha i32_0).mp h
    rw [if_pos h'] at ho
    exact kf h' res ho κ p l eV R s m args below meth c cells slots A Fin hF hR H locs ls hP hl
theorem y_icmp_lt {a b : Int} {off : Int} {tgt : Nat} (hd : decode cc pc = .ok (.if_icmp .lt off, 3)) (ht : (pc : Int) + off = (tgt : Int)) (ha : I32 a) (hb : I32 b) (kt : a < b → Y own cc nL d rk sc tgt L st M o1) (kf : ¬ (a < b) → Y own cc nL d rk sc (pc + 3) L st M o2) : Y own cc nL d rk sc pc L (iv b :: iv a :: st) M (if a < b then o1 else o2) := by
  intro res ho κ p l eV R s m args below meth c cells slots A Fin hF hR H locs ls hP hl
  refine lv_icmp_lt hF.1 hF.2.1 hd ht (fun h => ?_) (fun h => ?_)
  ·
    have h' : a < b := by exact (i_lt ha hb).mp h
    rw [if_pos h'] at ho
    exact kt h' res ho κ p l eV R s m args below meth c cells slots A Fin hF hR H locs ls hP hl
  ·
    have h' : ¬ (a < b) := by exact fun q => h ((i_lt ha hb).mpr q)
    rw [if_neg h'] at ho
    exact kf h' res ho κ p l eV R s m args below meth c cells slots A Fin hF hR H locs ls hP hl
theorem y_if_lt {a : Int} {off : Int} {tgt : Nat} (hd : decode cc pc = .ok (.ifCond .lt off, 3)) (ht : (pc : Int) + off = (tgt : Int)) (ha : I32 a) (kt : a < 0 → Y own cc nL d rk sc tgt L st M o1) (kf : ¬ (a < 0) → Y own cc nL d rk sc (pc + 3) L st M o2) : Y own cc nL d rk sc pc L (iv a :: st) M (if a < 0 then o1 else o2) := by
  intro res ho κ p l eV R s m args below meth c cells slots A Fin hF hR H locs ls hP hl
  refine lv_if_lt hF.1 hF.2.1 hd ht (fun h => ?_) (fun h => ?_)
  ·
    have h' : a < 0 := by rw [z32] at h; exact (i_lt ha i32_0).mp h
    rw [if_pos h'] at ho
    exact kt h' res ho κ p l eV R s m args below meth c cells slots A Fin hF hR H locs ls hP hl
  ·
    have h' : ¬ (a < 0) := by rw [z32] at h; exact fun q => h ((i_lt ha i32_0).mpr q)
    rw [if_neg h'] at ho
    exact kf h' res ho κ p l eV R s m args below meth c cells slots A Fin hF hR H locs ls hP hl
theorem y_icmp_ge {a b : Int} {off : Int} {tgt : Nat} (hd : decode cc pc = .ok (.if_icmp .ge off, 3)) (ht : (pc : Int) + off = (tgt : Int)) (ha : I32 a) (hb : I32 b) (kt : b ≤ a → Y own cc nL d rk sc tgt L st M o1) (kf : ¬ (b ≤ a) → Y own cc nL d rk sc (pc + 3) L st M o2) : Y own cc nL d rk sc pc L (iv b :: iv a :: st) M (if b ≤ a then o1 else o2) := by
  intro res ho κ p l eV R s m args below meth c cells slots A Fin hF hR H locs ls hP hl
  refine lv_icmp_ge hF.1 hF.2.1 hd ht (fun h => ?_) (fun h => ?_)
  ·
    have h' : b ≤ a := by exact (i_le hb ha).mp h
    rw [if_pos h'] at ho
    exact kt h' res ho κ p l eV R s m args below meth c cells slots A Fin hF hR H locs ls hP hl
  ·
    have h' : ¬ (b ≤ a) := by exact fun q => h ((i_le hb ha).mpr q)
    rw [if_neg h'] at ho
    exact kf h' res ho κ p l eV R s m args below meth c cells slots A Fin hF hR H locs ls hP hl
theorem y_if_ge {a : Int} {off : Int} {tgt : Nat} (hd : decode cc pc = .ok (.ifCond .ge off, 3)) (ht : (pc : Int) + off = (tgt : Int)) (ha : I32 a) (kt : 0 ≤ a → Y own cc nL d rk sc tgt L st M o1) (kf : ¬ (0 ≤ a) → Y own cc nL d rk sc (pc + 3) L st M o2) : Y own cc nL d rk sc pc L (iv a :: st) M (if 0 ≤ a then o1 else o2) := by
  intro res ho κ p l eV R s m args below meth c cells slots A Fin hF hR H locs ls hP hl
  refine lv_if_ge hF.1 hF.2.1 hd ht (fun h => ?_) (fun h => ?_)
  ·
    have h' : 0 ≤ a := by rw [z32] at h; exact (i_le i32_0 ha).mp h
    rw [if_pos h'] at ho
    exact kt h' res ho κ p l eV R s m args below meth c cells slots A Fin hF hR H locs ls hP hl
  ·
    have h' : ¬ (0 ≤ a) := by rw [z32] at h; exact fun q => h ((i_le i32_0 ha).mpr q)
    rw [if_neg h'] at ho
    exact kf h' res ho κ p l eV R s m args below meth c cells slots A Fin hF hR H locs ls hP hl
theorem y_icmp_gt {a b : Int} {off : Int} {tgt : Nat} (hd : decode cc pc = .ok (.if_icmp .gt off, 3)) (ht : (pc : Int) + off = (tgt : Int)) (ha : I32 a) (hb : I32 b) (kt : b < a → Y own cc nL d rk sc tgt L st M o1) (kf : ¬ (b < a) → Y own cc nL d rk sc (pc + 3) L st M o2) : Y own cc nL d rk sc pc L (iv b :: iv a :: st) M (if b < a then o1 else o2) := by
  intro res ho κ p l eV R s m args below meth c cells slots A Fin hF hR H locs ls hP hl
  refine lv_icmp_gt hF.1 hF.2.1 hd ht (fun h => ?_) (fun h => ?_)
  ·
    have h' : b < a := by exact (i_lt hb ha).mp h
    rw [if_pos h'] at ho
    exact kt h' res ho κ p l eV R s m args below meth c cells slots A Fin hF hR H locs ls hP hl
  ·
    have h' : ¬ (b < a) := by exact fun q => h ((i_lt hb ha).mpr q)
    rw [if_neg h'] at ho
    exact kf h' res ho κ p l eV R s m args below meth c cells slots A Fin hF hR H locs ls hP hl
theorem y_if_gt {a : Int} {off : Int} {tgt : Nat} (hd : decode cc pc = .ok (.ifCond .gt off, 3)) (ht : (pc : Int) + off = (tgt : Int)) (ha : I32 a) (kt : 0 < a → Y own cc nL d rk sc tgt L st M o1) (kf : ¬ (0 < a) → Y own cc nL d rk sc (pc + 3) L st M o2) : Y own cc nL d rk sc pc L (iv a :: st) M (if 0 < a then o1 else o2) := by
  intro res ho κ p l eV R s m args below meth c cells slots A Fin hF hR H locs ls hP hl
  refine lv_if_gt hF.1 hF.2.1 hd ht (fun h => ?_) (fun h => ?_)
  ·
    have h' : 0 < a := by rw [z32] at h; exact (i_lt i32_0 ha).mp h
    rw [if_pos h'] at ho
    exact kt h' res ho κ p l eV R s m args below meth c cells slots A Fin hF hR H locs ls hP hl
  ·
    have h' : ¬ (0 < a) := by rw [z32] at h; exact fun q => h ((i_lt i32_0 ha).mpr q)
    rw [if_neg h'] at ho
    exact kf h' res ho κ p l eV R s m args below meth c cells slots A Fin hF hR H locs ls hP hl
theorem y_icmp_le {a b : Int} {off : Int} {tgt : Nat} (hd : decode cc pc = .ok (.if_icmp .le off, 3)) (ht : (pc : Int) + off = (tgt : Int)) (ha : I32 a) (hb : I32 b) (kt : a ≤ b → Y own cc nL d rk sc tgt L st M o1) (kf : ¬ (a ≤ b) → Y own cc nL d rk sc (pc + 3) L st M o2) : Y own cc nL d rk sc pc L (iv b :: iv a :: st) M (if a ≤ b then o1 else o2) := by
  intro res ho κ p l eV R s m args below meth c cells slots A Fin hF hR H locs ls hP hl
  refine lv_icmp_le hF.1 hF.2.1 hd ht (fun h => ?_) (fun h => ?_)
  ·
    have h' : a ≤ b := by exact (i_le ha hb).mp h
    rw [if_pos h'] at ho
    exact kt h' res ho κ p l eV R s m args below meth c cells slots A Fin hF hR H locs ls hP hl
  ·
    have h' : ¬ (a ≤ b) := by exact fun q => h ((i_le ha hb).mpr q)
    rw [if_neg h'] at ho
    exact kf h' res ho κ p l eV R s m args below meth c cells slots A Fin hF hR H locs ls hP hl
theorem y_if_le {a : Int} {off : Int} {tgt : Nat} (hd : decode cc pc = .ok (.ifCond .le off, 3)) (ht : (pc : Int) + off = (tgt : Int)) (ha : I32 a) (kt : a ≤ 0 → Y own cc nL d rk sc tgt L st M o1) (kf : ¬ (a ≤ 0) → Y own cc nL d rk sc (pc + 3) L st M o2) : Y own cc nL d rk sc pc L (iv a :: st) M (if a ≤ 0 then o1 else o2) := by
  intro res ho κ p l eV R s m args below meth c cells slots A Fin hF hR H locs ls hP hl
  refine lv_if_le hF.1 hF.2.1 hd ht (fun h => ?_) (fun h => ?_)
  ·
    have h' : a ≤ 0 := by rw [z32] at h; exact (i_le ha i32_0).mp h
    rw [if_pos h'] at ho
    exact kt h' res ho κ p l eV R s m args below meth c cells slots A Fin hF hR H locs ls hP hl
  ·
    have h' : ¬ (a ≤ 0) := by rw [z32] at h; exact fun q => h ((i_le ha i32_0).mpr q)
    rw [if_neg h'] at ho
    exact kf h' res ho κ p l eV R s m args below meth c cells slots A Fin hF hR H locs ls hP hl
theorem y_gd {P : Prop} {dP : Decidable P} (k : P → Y own cc nL d rk sc pc L st M o) : Y own cc nL d rk sc pc L st M (if P then o else none) := by
  intro res ho κ p l eV R s m args below meth c cells slots A Fin hF hR H locs ls hP hl
  obtain ⟨h, ho⟩ := gd_some ho
  exact k h res ho κ p l eV R s m args below meth c cells slots A Fin hF hR H locs ls hP hl
theorem y_br {P : Prop} {dP : Decidable P} (kt : P → Y own cc nL d rk sc pc L st M o1) (kf : ¬ P → Y own cc nL d rk sc pc L st M o2) : Y own cc nL d rk sc pc L st M (if P then o1 else o2) := by
  intro res ho κ p l eV R s m args below meth c cells slots A Fin hF hR H locs ls hP hl
  by_cases h : P
  · rw [if_pos h] at ho
    exact kt h res ho κ p l eV R s m args below meth c cells slots A Fin hF hR H locs ls hP hl
  · rw [if_neg h] at ho
    exact kf h res ho κ p l eV R s m args below meth c cells slots A Fin hF hR H locs ls hP hl
theorem y_none : Y own cc nL d rk sc pc L st M none := by
  intro res ho
  cases ho
theorem y_sub {L' : List (Option AV)} (hs : Lsub L' L) (k : Y own cc nL d rk sc pc L' st M o) : Y own cc nL d rk sc pc L st M o := by
  intro res ho κ p l eV R s m args below meth c cells slots A Fin hF hR H locs ls hP hl
  exact k res ho κ p l eV R s m args below meth c cells slots A Fin hF hR H locs ls hP (agr_sub hl hs)
theorem y_tableIn {dflt lo hi : Int} {offs : Array Int} {len : Nat} {a v off : Int} {tgt : Nat} (hd : decode cc pc = .ok (.tableswitch dflt lo hi offs, len)) (h : a = v) (hv : I32 v) (h1 : ¬ v < lo) (h2 : ¬ hi < v) (hof : offs[(v - lo).toNat]? = some off) (ht : (pc : Int) + off = (tgt : Int)) (k : Y own cc nL d rk sc tgt L st M o) : Y own cc nL d rk sc pc L (iv a :: st) M o := by
  intro res ho κ p l eV R s m args below meth c cells slots A Fin hF hR H locs ls hP hl
  subst h
  have e := i_toInt hv
  exact lv_tableIn (x := Int32.ofInt a) (off := off) hF.1 hF.2.1 hd (by rw [e]; exact h1) (by rw [e]; exact h2) (by rw [e]; exact hof) ht (k res ho κ p l eV R s m args below meth c cells slots A Fin hF hR H locs ls hP hl)
theorem y_tableOut {dflt lo hi : Int} {offs : Array Int} {len : Nat} {a : Int} {tgt : Nat} (hd : decode cc pc = .ok (.tableswitch dflt lo hi offs, len)) (ha : I32 a) (h : a < lo ∨ hi < a) (ht : (pc : Int) + dflt = (tgt : Int)) (k : Y own cc nL d rk sc tgt L st M o) : Y own cc nL d rk sc pc L (iv a :: st) M o := by
  intro res ho κ p l eV R s m args below meth c cells slots A Fin hF hR H locs ls hP hl
  exact lv_tableOut (x := Int32.ofInt a) hF.1 hF.2.1 hd (by rw [i_toInt ha]; exact h) ht (k res ho κ p l eV R s m args below meth c cells slots A Fin hF hR H locs ls hP hl)
theorem y_lookup {dflt : Int} {ps : Array (Int × Int)} {len : Nat} {a off : Int} {tgt : Nat} (hd : decode cc pc = .ok (.lookupswitch dflt ps, len)) (hp : (ps.toList.zip (ps.toList.drop 1)).all (fun (a, next) => a.1 < next.1) = true) (ha : I32 a) (hof : Op.lookupswitch.offset ps.toList dflt a = off) (ht : (pc : Int) + off = (tgt : Int)) (k : Y own cc nL d rk sc tgt L st M o) : Y own cc nL d rk sc pc L (iv a :: st) M o := by
  intro res ho κ p l eV R s m args below meth c cells slots A Fin hF hR H locs ls hP hl
  exact lv_lookup (x := Int32.ofInt a) hF.1 hF.2.1 hd hp (by rw [i_toInt ha]; exact hof) ht (k res ho κ p l eV R s m args below meth c cells slots A Fin hF hR H locs ls hP hl)
theorem y_iret {a : Int} (hd : decode cc pc = .ok (.ireturn, 1)) : Y own cc nL d 0 sc pc L [iv a] M (some (a, M)) := by
  intro res ho κ p l eV R s m args below meth c cells slots A Fin hF hR H locs ls hP hl
  cases ho
  exact (hR H locs ls pc hP).1 (Or.inl rfl) hd
theorem y_zret {a : Int} (hd : decode cc pc = .ok (.ireturn, 1)) (ha : a = 0 ∨ a = 1) : Y own cc nL d 1 sc pc L [iv a] M (some (a, M)) := by
  intro res ho κ p l eV R s m args below meth c cells slots A Fin hF hR H locs ls hP hl
  cases ho
  exact (hR H locs ls pc hP).1 (Or.inr ⟨rfl, ha⟩) hd
theorem y_lret {a : Int} (hd : decode cc pc = .ok (.lreturn, 1)) : Y own cc nL d 2 sc pc L [jv a] M (some (a, M)) := by
  intro res ho κ p l eV R s m args below meth c cells slots A Fin hF hR H locs ls hP hl
  cases ho
  exact (hR H locs ls pc hP).2.1 rfl hd
theorem y_vret (hd : decode cc pc = .ok (.return_, 1)) : Y own cc nL d 3 sc pc L [] M (some (0, M)) := by
  intro res ho κ p l eV R s m args below meth c cells slots A Fin hF hR H locs ls hP hl
  cases ho
  exact (hR H locs ls pc hP).2.2 rfl hd
def GR (own : String) (index q p : Nat) : Prop := ∃ (ci : Nat) (fl : List (Nat ⊕ Nat)) (k : Nat), FLk own index ci k ∧ ob q = some (ci, fl) ∧ fl[k]? = some (.inl p)
def GI (own : String) (index q i : Nat) : Prop := ∃ (ci : Nat) (fl : List (Nat ⊕ Nat)) (k : Nat), FLk own index ci k ∧ ob q = some (ci, fl) ∧ fl[k]? = some (.inr i)
def PI (own : String) (index q i : Nat) (ft : FieldType) : Prop := ∃ (ci : Nat) (fl : List (Nat ⊕ Nat)) (k : Nat), FPk own index ci k ft ∧ ob q = some (ci, fl) ∧ fl[k]? = some (.inr i)
theorem y_getref {index q x : Nat} (hg : GR own index q x) (hd : decode cc pc = .ok (.getfield index, 3)) (k : Y own cc nL d rk sc (pc + 3) L (rv x :: st) M o) : Y own cc nL d rk sc pc L (rv q :: st) M o := by
  intro res ho κ p l eV R s m args below meth c cells slots A Fin hF hR H locs ls hP hl
  obtain ⟨ci, fl, j, ⟨C, T, N, hc, hin, hk, hlink⟩, hob, hfl⟩ := hg
  refine va_get (v := .ref (κ.1 x)) hF.1 hF.2.1 hF.2.2.2.2.1 hin hF.2.2.2.1 hF.2.2.2.2.2.2.2.2.2.1 hP.1 q ((cw_at κ M (ob_lt hob)).trans (by rw [cell_ob κ hob])) hc j hk (hF.2.2.2.2.1 _ hlink) (fun _ h => h) ?_ hd (k res ho κ p l eV R s m args below meth c cells slots A Fin hF hR H locs ls hP hl)
  rw [List.getElem?_map, hfl]; rfl
theorem y_getint {index q x : Nat} (hg : GI own index q x) (hd : decode cc pc = .ok (.getfield index, 3)) (k : Y own cc nL d rk sc (pc + 3) L (iv (rd M q x) :: st) M o) : Y own cc nL d rk sc pc L (rv q :: st) M o := by
  intro res ho κ p l eV R s m args below meth c cells slots A Fin hF hR H locs ls hP hl
  obtain ⟨ci, fl, j, ⟨C, T, N, hc, hin, hk, hlink⟩, hob, hfl⟩ := hg
  refine va_get (v := .int (Int32.ofInt (rd M q x))) hF.1 hF.2.1 hF.2.2.2.2.1 hin hF.2.2.2.1 hF.2.2.2.2.2.2.2.2.2.1 hP.1 q ((cw_at κ M (ob_lt hob)).trans (by rw [cell_ob κ hob])) hc j hk (hF.2.2.2.2.1 _ hlink) (fun _ h => h) ?_ hd (k res ho κ p l eV R s m args below meth c cells slots A Fin hF hR H locs ls hP hl)
  rw [List.getElem?_map, hfl, rd_c]; rfl
theorem y_putint {index q x : Nat} {a : Int} (hg : PI own index q x .int) (hd : decode cc pc = .ok (.putfield index, 3)) (k : Y own cc nL d rk sc (pc + 3) L st (mup M q x a) o) : Y own cc nL d rk sc pc L (iv a :: rv q :: st) M o := by
  intro res ho κ p l eV R s m args below meth c cells slots A Fin hF hR H locs ls hP hl
  obtain ⟨ci, fl, j, ⟨C, T, N, ty, hc, hin, hk, hlink, hty, hnm, hfin, hft⟩, hob, hfl⟩ := hg
  refine va_put (v := .int (Int32.ofInt a)) (ty := .int) hF.1 hF.2.1 hF.2.2.2.2.1 hin ty hty hnm hF.2.2.2.1 hF.2.2.2.2.2.2.2.2.2.1 hP.1 hP.2.1 hP.2.2 q ((cw_at κ M (ob_lt hob)).trans (by rw [cell_ob κ hob])) hc j hk (hF.2.2.2.2.1 _ hlink) (fun _ h => h) hfin (by rw [hty j hk, hft]) rfl rfl (by rw [List.length_map]; exact (List.getElem?_eq_some_iff.mp hfl).1) hd (fun H1 locs1 hP1 hD1 hS1 => ?_)
  have e : (cw κ M).set q (κ.1 q, .inr (ci, (fl.map (fv κ (M q))).set j (.int (Int32.ofInt a)))) = cw κ (mup M q x a) := by
    rw [fl_set κ (M q) (Int32.ofInt a) fl j x (ob_nd hob) hfl, ← cw_set κ (M := M) (M' := mup M q x a) (q := q) (fun z hz => mup_ne M hz), cell_ob κ hob, mup_self]
  rw [e] at hP1 hD1
  exact k res ho κ p l eV R s m args below meth c cells slots A Fin hF hR H1 locs1 ls ⟨hP1, hD1, hS1⟩ hl
theorem y_putbool {index q x : Nat} {a : Int} (hg : PI own index q x .boolean) (ha : a = 0 ∨ a = 1) (hd : decode cc pc = .ok (.putfield index, 3)) (k : Y own cc nL d rk sc (pc + 3) L st (mup M q x a) o) : Y own cc nL d rk sc pc L (iv a :: rv q :: st) M o := by
  intro res ho κ p l eV R s m args below meth c cells slots A Fin hF hR H locs ls hP hl
  obtain ⟨ci, fl, j, ⟨C, T, N, ty, hc, hin, hk, hlink, hty, hnm, hfin, hft⟩, hob, hfl⟩ := hg
  refine va_put (v := .int (Int32.ofInt a)) (ty := .boolean) hF.1 hF.2.1 hF.2.2.2.2.1 hin ty hty hnm hF.2.2.2.1 hF.2.2.2.2.2.2.2.2.2.1 hP.1 hP.2.1 hP.2.2 q ((cw_at κ M (ob_lt hob)).trans (by rw [cell_ob κ hob])) hc j hk (hF.2.2.2.2.1 _ hlink) (fun _ h => h) hfin (by rw [hty j hk, hft]) (by rcases ha with h | h <;> subst h <;> rfl) (by rcases ha with h | h <;> subst h <;> rfl) (by rw [List.length_map]; exact (List.getElem?_eq_some_iff.mp hfl).1) hd (fun H1 locs1 hP1 hD1 hS1 => ?_)
  have e : (cw κ M).set q (κ.1 q, .inr (ci, (fl.map (fv κ (M q))).set j (.int (Int32.ofInt a)))) = cw κ (mup M q x a) := by
    rw [fl_set κ (M q) (Int32.ofInt a) fl j x (ob_nd hob) hfl, ← cw_set κ (M := M) (M' := mup M q x a) (q := q) (fun z hz => mup_ne M hz), cell_ob κ hob, mup_self]
  rw [e] at hP1 hD1
  exact k res ho κ p l eV R s m args below meth c cells slots A Fin hF hR H1 locs1 ls ⟨hP1, hD1, hS1⟩ hl
theorem ty_ar (κ : KP) {q n : Nat} (h : ar q n) : (tys κ)[q]? = some (κ.2.1 q, .int) := by
  rw [tys_at κ h.2.2.1, if_neg h.2.1]
theorem at_ar (κ : KP) (M : Mem) {q n : Nat} (h : ar q n) : (cw κ M)[q]? = some (κ.1 q, .inl (κ.2.1 q, n, .inl (M q))) := by
  rw [cw_at κ M h.2.2.1, cell_ar κ h]
theorem set_ar (κ : KP) (M : Mem) {q n i : Nat} {v : Int} (h : ar q n) : (cw κ M).set q (κ.1 q, .inl (κ.2.1 q, n, .inl (upd (M q) i (Int32.ofInt v)))) = cw κ (mup M q i v) := by
  rw [← cw_set κ (M := M) (M' := mup M q i v) (q := q) (fun z hz => mup_ne M hz), cell_ar κ h, mup_self]
theorem ob_131 : ob 131 = none := rfl
theorem at_131 (κ : KP) (M : Mem) : (cw κ M)[131]? = some (κ.1 131, .inl (κ.2.1 131, 8, .inr (.inr (.inr (.inr (fun i => some (κ.1 (M 131 i).toInt.toNat))))))) := by
  rw [cw_at κ M (by decide)]
  rfl
theorem ty_131 (κ : KP) : (tys κ)[131]? = some (κ.2.1 131, .object "OnlyInFog$World") := by
  rw [tys_at κ (by decide)]
  rfl
theorem y_iald {q n : Nat} {a : Int} (hd : decode cc pc = .ok (.iaload, 1)) (har : ar q n) (h : 0 ≤ a ∧ a < (n : Int)) (k : Y own cc nL d rk sc (pc + 1) L (iv (rd M q a.toNat) :: st) M o) : Y own cc nL d rk sc pc L (iv a :: rv q :: st) M o := by
  intro res ho κ p l eV R s m args below meth c cells slots A Fin hF hR H locs ls hP hl
  have k' := k res ho κ p l eV R s m args below meth c cells slots A Fin hF hR H locs ls hP hl
  refine va_iald hF.1 hF.2.1 hF.2.2.2.2.2.2.2.2.2.1 hP.1 q q (at_ar κ M har) (ty_ar κ har) (i_in h.1 h.2 (ar_lt har)) hd ?_
  rw [show List.map (cv κ) (iv (rd M q a.toNat) :: st) = .int (Int32.ofInt (rd M q a.toNat)) :: st.map (cv κ) from rfl, rd_c] at k'
  rw [i_ix h.1 (by have := ar_lt har; omega)]
  exact k'
theorem y_iast {q n : Nat} {a v : Int} (hd : decode cc pc = .ok (.iastore, 1)) (har : ar q n) (h : 0 ≤ a ∧ a < (n : Int)) (k : Y own cc nL d rk sc (pc + 1) L st (mup M q a.toNat v) o) : Y own cc nL d rk sc pc L (iv v :: iv a :: rv q :: st) M o := by
  intro res ho κ p l eV R s m args below meth c cells slots A Fin hF hR H locs ls hP hl
  refine va_iast (x := Int32.ofInt v) hF.1 hF.2.1 hF.2.2.2.2.2.2.2.2.2.1 hP.1 hP.2.1 hP.2.2 q q (at_ar κ M har) (ty_ar κ har) (i_in h.1 h.2 (ar_lt har)) hd (fun H1 locs1 hP1 hD1 hS1 => ?_)
  rw [i_ix h.1 (by have := ar_lt har; omega), set_ar κ M har] at hP1 hD1
  exact k res ho κ p l eV R s m args below meth c cells slots A Fin hF hR H1 locs1 ls ⟨hP1, hD1, hS1⟩ hl
theorem y_aald {a : Int} (hd : decode cc pc = .ok (.aaload, 1)) (h : 0 ≤ a ∧ a < 8) (k : Y own cc nL d rk sc (pc + 1) L (rv (rd M 131 a.toNat).toNat :: st) M o) : Y own cc nL d rk sc pc L (iv a :: rv 131 :: st) M o := by
  intro res ho κ p l eV R s m args below meth c cells slots A Fin hF hR H locs ls hP hl
  have k' := k res ho κ p l eV R s m args below meth c cells slots A Fin hF hR H locs ls hP hl
  refine va_aldq hF.1 hF.2.1 hF.2.2.2.2.2.2.2.2.2.1 hP.1 131 131 (at_131 κ M) (ty_131 κ) (i_in h.1 h.2 (by decide)) hd ?_
  rw [i_ix h.1 (by omega)]
  exact k'
theorem y_aast {a : Int} {q : Nat} (hd : decode cc pc = .ok (.aastore, 1)) (h : 0 ≤ a ∧ a < 8) (hq : isW q) (k : Y own cc nL d rk sc (pc + 1) L st (mup M 131 a.toNat (q : Int)) o) : Y own cc nL d rk sc pc L (rv q :: iv a :: rv 131 :: st) M o := by
  intro res ho κ p l eV R s m args below meth c cells slots A Fin hF hR H locs ls hP hl
  refine va_astq (r := (RX4, TX4, 15)) hF.1 hF.2.1 hF.2.2.2.2.2.2.2.2.2.1 hP.1 hP.2.1 hP.2.2 131 131 q 2 (at_131 κ M) (ty_131 κ) ((cw_at κ M (ob_lt (ob_w hq))).trans (by rw [cell_ob κ (ob_w hq)])) rfl (i_in h.1 h.2 (by decide)) hd (fun H1 locs1 hP1 hD1 hS1 => ?_)
  have e1 : cell κ 131 (mup M 131 a.toNat (q : Int) 131) = .inl (κ.2.1 131, 8, .inr (.inr (.inr (.inr (fun i => some (κ.1 (mup M 131 a.toNat (q : Int) 131 i).toInt.toNat)))))) := rfl
  have e2 : (fun i => some (κ.1 (mup M 131 a.toNat (q : Int) 131 i).toInt.toNat)) = va_up (fun i => some (κ.1 (M 131 i).toInt.toNat)) a.toNat (some (κ.1 q)) := by
    funext i
    rw [mup_self]
    unfold upd va_up
    by_cases hi : i = a.toNat
    · rw [if_pos hi, if_pos hi, i_toInt ⟨by omega, by have := hq.1; omega⟩]; rfl
    · rw [if_neg hi, if_neg hi]
  have e : (cw κ M).set 131 (κ.1 131, .inl (κ.2.1 131, 8, .inr (.inr (.inr (.inr (va_up (fun i => some (κ.1 (M 131 i).toInt.toNat)) a.toNat (some (κ.1 q)))))))) = cw κ (mup M 131 a.toNat (q : Int)) := by
    rw [← cw_set κ (M := M) (M' := mup M 131 a.toNat (q : Int)) (q := 131) (fun z hz => mup_ne M hz), e1, e2]
  rw [i_ix h.1 (by omega), e] at hP1 hD1
  exact k res ho κ p l eV R s m args below meth c cells slots A Fin hF hR H1 locs1 ls ⟨hP1, hD1, hS1⟩ hl
theorem y_alen {q n : Nat} (hd : decode cc pc = .ok (.arraylength, 1)) (har : ar q n) (k : Y own cc nL d rk sc (pc + 1) L (iv (n : Int) :: st) M o) : Y own cc nL d rk sc pc L (rv q :: st) M o := by
  intro res ho κ p l eV R s m args below meth c cells slots A Fin hF hR H locs ls hP hl
  exact va_alen (v := Int32.ofInt (n : Int)) hF.1 hF.2.1 hF.2.2.2.2.2.2.2.2.2.1 hP.1 q q (at_ar κ M har) (ty_ar κ har) (Int32.ofInt_eq_ofNat).symm hd (k res ho κ p l eV R s m args below meth c cells slots A Fin hF hR H locs ls hP hl)
def mcp (M : Mem) (q0 sp q1 dp n : Nat) : Mem := fun a b => if a = q1 ∧ dp ≤ b ∧ b < dp + n then M q0 (sp + (b - dp)) else M a b
theorem mcp_ne (M : Mem) {q0 sp q1 dp n a : Nat} (h : a ≠ q1) : mcp M q0 sp q1 dp n a = M a := by
  funext b
  show (if a = q1 ∧ dp ≤ b ∧ b < dp + n then _ else _) = _
  rw [if_neg (fun z => h z.1)]
theorem mcp_self (M : Mem) (q0 sp q1 dp n : Nat) : mcp M q0 sp q1 dp n q1 = va_cpy (M q0) (M q1) sp dp n := by
  funext b
  show (if q1 = q1 ∧ dp ≤ b ∧ b < dp + n then _ else _) = (if dp ≤ b ∧ b < dp + n then _ else _)
  by_cases h : dp ≤ b ∧ b < dp + n
  · rw [if_pos ⟨rfl, h⟩, if_pos h]
  · rw [if_neg (fun z => h z.2), if_neg h]
theorem y_copy {index q0 q1 n0 n1 : Nat} {sp dp n : Int} (hlk : Cond.methodLink own index arraycopyName ∈ lw_g) (hd : decode cc pc = .ok (.invokestatic index, 3)) (h0 : ar q0 n0) (h1 : ar q1 n1) (hs : 0 ≤ sp ∧ 0 ≤ dp ∧ 0 ≤ n ∧ sp + n ≤ (n0 : Int) ∧ dp + n ≤ (n1 : Int)) (hcat : (st.map catA).sum ≤ 8) (hfr : 1 ≤ d) (k : Y own cc nL d rk sc (pc + 3) L st (mcp M q0 sp.toNat q1 dp.toNat n.toNat) o) : Y own cc nL d rk sc pc L (iv n :: iv dp :: rv q1 :: iv sp :: rv q0 :: st) M o := by
  intro res ho κ p l eV R s m args below meth c cells slots A Fin hF hR H locs ls hP hl
  have hts := hF.2.2.2.2.1
  have a0 := ar_lt h0
  have a1 := ar_lt h1
  have es := i_ix (a := sp) hs.1 (by omega)
  have ed := i_ix (a := dp) hs.2.1 (by omega)
  have en := i_ix (a := n) hs.2.2.1 (by omega)
  have nn : ∀ z : Int, 0 ≤ z → z < 2147483648 → ¬ Int32.ofInt z < 0 := by
    intro z hz hz2
    rw [z32, i_lt ⟨by omega, by omega⟩ i32_0]
    omega
  have hcs : ((st.map (cv κ)).map fun v => v.category).sum ≤ 8 := by rw [cats_cv]; exact hcat
  have hd34 : 34 ≤ 34 * d := by omega
  refine va_copyi (sp := Int32.ofInt sp) (dp := Int32.ofInt dp) (n := Int32.ofInt n) hF.1 hF.2.1 (hF.2.2.1.trans hl.1.symm) hF.2.2.2.1 (hts _ hlk) (hts _ w_acN) (hts _ w_acS) (hts _ w_acI) hF.2.2.2.2.2.2.2.2.2.1 hP.1 hP.2.1 hP.2.2 q0 q1 q0 q1 (at_ar κ M h0) (at_ar κ M h1) (ty_ar κ h0) (ty_ar κ h1) rfl (nn sp hs.1 (by omega)) (nn dp hs.2.1 (by omega)) (nn n hs.2.2.1 (by omega)) (by rw [es, en]; omega) (by rw [ed, en]; omega) (fun i _ => rfl) (Nat.le_trans hfr hF.2.2.2.2.2.1) (Nat.le_trans (Nat.add_le_add hcs (Nat.le_of_ble_eq_true rfl : nativeFrameWords "java/lang/System" "arraycopy" 5 + 11 ≤ 26)) (Nat.le_trans hd34 hF.2.2.2.2.2.2.1)) hd (fun H1 locs1 hP1 hD1 hS1 => ?_)
  have e : (cw κ M).set q1 (κ.1 q1, .inl (κ.2.1 q1, n1, .inl (va_cpy (M q0) (M q1) sp.toNat dp.toNat n.toNat))) = cw κ (mcp M q0 sp.toNat q1 dp.toNat n.toNat) := by
    rw [← cw_set κ (M := M) (M' := mcp M q0 sp.toNat q1 dp.toNat n.toNat) (q := q1) (fun z hz => mcp_ne M hz), cell_ar κ h1, mcp_self]
  rw [es, ed, en, e] at hP1 hD1
  exact k res ho κ p l eV R s m args below meth c cells slots A Fin hF hR H1 locs1 ls ⟨hP1, hD1, hS1⟩ hl
theorem y_mmax {index : Nat} {a b : Int} (ha : I32 a) (hb : I32 b) (hlk : Cond.methodLink own index Lib.Math.max.name ∈ lw_g) (hd : decode cc pc = .ok (.invokestatic index, 3)) (hcat : (st.map catA).sum ≤ 8) (hfr : 1 ≤ d) (k : Y own cc nL d rk sc (pc + 3) L (iv (if a < b then b else a) :: st) M o) : Y own cc nL d rk sc pc L (iv b :: iv a :: st) M o := by
  intro res ho κ p l eV R s m args below meth c cells slots A Fin hF hR H locs ls hP hl
  have hts := hF.2.2.2.2.1
  have k' := k res ho κ p l eV R s m args below meth c cells slots A Fin hF hR H locs ls hP hl
  have hcs : ((st.map (cv κ)).map fun v => v.category).sum ≤ 8 := by rw [cats_cv]; exact hcat
  have hd34 : 34 ≤ 34 * d := by omega
  refine va_mmax (x := Int32.ofInt a) (y := Int32.ofInt b) hF.1 hF.2.1 (hF.2.2.1.trans hl.1.symm) hF.2.2.2.1 (hts _ hlk) (hts _ w_maxS) (hts _ w_mI) (hts _ w_maxC) (Nat.le_trans hfr hF.2.2.2.2.2.1) (Nat.le_trans (Nat.add_le_add_right hcs 13) (Nat.le_trans (by omega) (Nat.le_trans hd34 hF.2.2.2.2.2.2.1))) hF.2.2.2.2.2.2.2.1 hF.2.2.2.2.2.2.2.2.1 hd ?_
  rw [show List.map (cv κ) (iv (if a < b then b else a) :: st) = .int (Int32.ofInt (if a < b then b else a)) :: st.map (cv κ) from rfl, ← i_max ha hb] at k'
  exact k'
theorem y_mabs {index : Nat} {a : Int} (ha : I32 a) (hlk : Cond.methodLink own index Lib.Math.abs.name ∈ lw_g) (hd : decode cc pc = .ok (.invokestatic index, 3)) (hcat : (st.map catA).sum ≤ 8) (hfr : 1 ≤ d) (k : Y own cc nL d rk sc (pc + 3) L (iv (if 0 ≤ a then a else -a) :: st) M o) : Y own cc nL d rk sc pc L (iv a :: st) M o := by
  intro res ho κ p l eV R s m args below meth c cells slots A Fin hF hR H locs ls hP hl
  have hts := hF.2.2.2.2.1
  have k' := k res ho κ p l eV R s m args below meth c cells slots A Fin hF hR H locs ls hP hl
  have hcs : ((st.map (cv κ)).map fun v => v.category).sum ≤ 8 := by rw [cats_cv]; exact hcat
  have hd34 : 34 ≤ 34 * d := by omega
  refine va_mabs (x := Int32.ofInt a) hF.1 hF.2.1 (hF.2.2.1.trans hl.1.symm) hF.2.2.2.1 (hts _ hlk) (hts _ w_absS) (hts _ w_mI) (hts _ w_absC) (Nat.le_trans hfr hF.2.2.2.2.2.1) (Nat.le_trans (Nat.add_le_add_right hcs 13) (Nat.le_trans (by omega) (Nat.le_trans hd34 hF.2.2.2.2.2.2.1))) hF.2.2.2.2.2.2.2.1 hF.2.2.2.2.2.2.2.2.1 hd ?_
  rw [show List.map (cv κ) (iv (if 0 ≤ a then a else -a) :: st) = .int (Int32.ofInt (if 0 ≤ a then a else -a)) :: st.map (cv κ) from rfl, ← i_abs ha] at k'
  exact k'
theorem y_sld {Ls : Nat} {xs : Nat → Int32} {a : Int} (hd : decode cc pc = .ok (.iaload, 1)) (hsc : sc = some (Ls, xs)) (hLs : Ls < 2147483648) (h : 0 ≤ a ∧ a < (Ls : Int)) (k : Y own cc nL d rk sc (pc + 1) L (iv (xs a.toNat).toInt :: st) M o) : Y own cc nL d rk sc pc L (iv a :: rv 158 :: st) M o := by
  intro res ho κ p l eV R s m args below meth c cells slots A Fin hF hR H locs ls hP hl
  have k' := k res ho κ p l eV R s m args below meth c cells slots A Fin hF hR H locs ls hP hl
  obtain ⟨hX, hbl, hbA⟩ := hF.2.2.2.2.2.2.2.2.2.2.2.1 Ls xs hsc
  refine va_sld hF.1 hF.2.1 hX hbl hbA hP.2.2 (i_in h.1 h.2 hLs) hd ?_
  rw [show List.map (cv κ) (iv (xs a.toNat).toInt :: st) = .int (Int32.ofInt (xs a.toNat).toInt) :: st.map (cv κ) from rfl, i_ofToInt] at k'
  rw [i_ix h.1 (by omega)]
  exact k'
theorem y_slen {Ls : Nat} {xs : Nat → Int32} (hd : decode cc pc = .ok (.arraylength, 1)) (hsc : sc = some (Ls, xs)) (k : Y own cc nL d rk sc (pc + 1) L (iv (Ls : Int) :: st) M o) : Y own cc nL d rk sc pc L (rv 158 :: st) M o := by
  intro res ho κ p l eV R s m args below meth c cells slots A Fin hF hR H locs ls hP hl
  have k' := k res ho κ p l eV R s m args below meth c cells slots A Fin hF hR H locs ls hP hl
  obtain ⟨hX, hbl, hbA⟩ := hF.2.2.2.2.2.2.2.2.2.2.2.1 Ls xs hsc
  refine va_slen hF.1 hF.2.1 hX hbl hbA hP.2.2 hd ?_
  rw [show List.map (cv κ) (iv (Ls : Int) :: st) = .int (Int32.ofInt (Ls : Int)) :: st.map (cv κ) from rfl, Int32.ofInt_eq_ofNat] at k'
  exact k'
end ROWS
end
section
def BT (κ : KP) (M M' : Mem) (sz : Nat) (t : State) : Prop := va_P κ.2.2 kcl (cw κ M') t.heap ∧ va_K κ.2.2 kcl (tys κ) t ∧ va_D (va_A (cw κ M) sz) (cw κ M')
/-- the law's script lies beside the world, where a method is told of it -/
def SX (sc : SC) (κ : KP) (M : Mem) (sz : Nat) (U : State) : Prop := ∀ L xs, sc = some (L, xs) → va_X (κ.1 158) L xs U U.heap ∧ κ.1 158 < sz ∧ ¬ va_A (cw κ M) sz (κ.1 158)
def PT (sc : SC) (κ : KP) (as : List AV) (M : Mem) (sz : Nat) : Array Value → State → Prop := va_Pc (as.map (cv κ)) (fun U => U.heap.size = sz ∧ va_P κ.2.2 kcl (cw κ M) U.heap ∧ va_K κ.2.2 kcl (tys κ) U ∧ va_D (fun _ => True) (cw κ M) ∧ NW U ∧ SX sc κ M sz U)
theorem PT_blind (sc : SC) (κ : KP) (as : List AV) (M : Mem) (sz : Nat) : FrameBlind (PT sc κ as M sz) := by
  intro a U g mk q
  obtain ⟨q0, q1, qP, qK, qD, qN, qX⟩ := q
  exact ⟨q0, q1, qP, va_K.moved (u := U) (U := U.calling g mk a) (Vm.Alike.refl U.vm) qK, qD, va_Nw.same rfl rfl qN, fun L xs h => ⟨va_X.moved (u := U) (U := U.calling g mk a) (Vm.Alike.refl U.vm) (qX L xs h).1, (qX L xs h).2⟩⟩
theorem sx_call {sc sc' : SC} {κ : KP} {s U : State} {A : Nat → Prop} {M : Mem} {H : Heap} {locs : List Loc} (hsc : ∀ x, sc' = some x → sc = some x) (h : ∀ L xs, sc = some (L, xs) → va_X (κ.1 158) L xs s s.heap ∧ κ.1 158 < s.heap.size ∧ ¬ A (κ.1 158)) (hD : va_D A (cw κ M)) (hS : va_S A s.heap H locs) (hU : U.heap = H) (hA : s.vm.Alike U.vm) : SX sc' κ M H.size U := by
  intro L xs hx
  obtain ⟨h1, h2, h3⟩ := h L xs (hsc _ hx)
  have h4 : κ.1 158 < H.size := Nat.lt_of_lt_of_le h2 hS.1
  refine ⟨?_, h4, ?_⟩
  · rw [hU]
    exact va_X.moved hA (h1.kept (hS.2.1 _ h2 h3))
  · rintro (⟨k, e, hk⟩ | h)
    · exact h3 (hD.2 k _ hk)
    · exact absurd h4 (Nat.not_lt.mpr h)
theorem gd_in {w : Cond} (h : w ∈ lw_g) : w ∈ lw_g ∧ ((w.onTables && w.keeps) = true ∨ ∃ ty, w = .arrayClass ty) := ⟨h, good_of_word (List.mem_filter.mp h).2⟩
theorem good_S {own : String} {index : Nat} {y : MethodName} {b : ByteArray} {n np : Nat} {ret : Option FieldType} (hS : SY y b n ret np) (hl : Cond.methodLink own index y ∈ lw_g) : GoodIn lw_g (va_wsS own index y (Cond.code y b n ret :: lw_g)) := by
  intro w hw
  apply gd_in
  unfold va_wsS at hw
  rcases List.mem_append.mp hw with h | h
  · rcases List.mem_cons.mp h with h | h
    · rw [h]; exact hl
    · rcases List.mem_cons.mp h with h | h
      · rw [h]; exact hS.2
      · rcases List.mem_cons.mp h with h | h
        · rw [h]; exact hS.1.1
        · cases h
  · rcases List.mem_cons.mp h with h | h
    · rw [h]; exact hS.1.2.1
    · exact h
theorem good_V {own : String} {index : Nat} {y : MethodName} {b : ByteArray} {n np : Nat} {ret : Option FieldType} (hS : VY y b n ret np) (hl : Cond.methodLink own index y ∈ lw_g) : GoodIn lw_g (wsV own index y.cls y (Cond.code y b n ret :: lw_g)) := by
  intro w hw
  apply gd_in
  unfold wsV at hw
  rcases List.mem_append.mp hw with h | h
  · rcases List.mem_cons.mp h with h | h
    · rw [h]; exact hl
    · rcases List.mem_cons.mp h with h | h
      · rw [h]; exact hS.2.1
      · rcases List.mem_cons.mp h with h | h
        · rw [h]; exact hS.2.2
        · rcases List.mem_cons.mp h with h | h
          · rw [h]; exact hS.1.1
          · cases h
  · rcases List.mem_cons.mp h with h | h
    · rw [h]; exact hS.1.2.1
    · exact h
theorem pic_free {κ : KP} {s : State} {A : Nat → Prop} {M : Mem} {H : Heap} {locs : List Loc} (hP : Pic κ s A M H locs) (hA : ∀ q, s.heap.size ≤ q → A q) : ∀ q, va_A (cw κ M) H.size q → A q := by
  rintro q (⟨k, e, hk⟩ | h)
  · exact hP.2.1.2 k _ hk
  · exact hA q (Nat.le_trans hP.2.2.1 h)
theorem pic_back {κ : KP} {s t : State} {A : Nat → Prop} {M M' : Mem} {H H1 : Heap} {locs locs1 : List Loc} (hP : Pic κ s A M H locs) (hB : BT κ M M' H.size t) (ht : t.heap = H1) (hS : va_S A s.heap H1 locs1) : Pic κ s A M' H1 locs1 := by
  refine ⟨by rw [← ht]; exact hB.1, ⟨hB.2.2.1, fun k q hk => ?_⟩, hS⟩
  obtain ⟨e', h1, h2⟩ := cw_fst κ M' M hk
  rw [← h2]
  exact hP.2.1.2 k e' h1
def CTi (sc : SC) (y : MethodName) (b : ByteArray) (n : Nat) (ret : Option FieldType) (d : Nat) (as : List AV) (M : Mem) (res : Int × Mem) : Prop := ∀ (κ : KP) (l : Launch) (sz : Nat), Met l y (Cond.code y b n ret :: lw_g) (rmd d) (PT sc κ as M sz) (va_Qi (fun (r : Int32) (_ : Unit) => r = Int32.ofInt res.1) (fun _ t => BT κ M res.2 sz t) (va_A (cw κ M) sz)) 0 0 (va_A (cw κ M) sz)
def CTl (sc : SC) (y : MethodName) (b : ByteArray) (n : Nat) (d : Nat) (as : List AV) (M : Mem) (res : Int × Mem) : Prop := ∀ (κ : KP) (l : Launch) (sz : Nat), Met l y (Cond.code y b n (some .long) :: lw_g) (rmd d) (PT sc κ as M sz) (va_Ql (fun (r : Int64) (_ : Unit) => r = Int64.ofInt res.1) (fun _ t => BT κ M res.2 sz t) (va_A (cw κ M) sz)) 0 0 (va_A (cw κ M) sz)
def CTv (sc : SC) (y : MethodName) (b : ByteArray) (n : Nat) (d : Nat) (as : List AV) (M : Mem) (res : Int × Mem) : Prop := ∀ (κ : KP) (l : Launch) (sz : Nat), Met l y (Cond.code y b n none :: lw_g) (rmd d) (PT sc κ as M sz) (va_Qv (fun (_ : Unit) => True) (fun _ t => BT κ M res.2 sz t) (va_A (cw κ M) sz)) 0 0 (va_A (cw κ M) sz)
section CALLS
variable {own : String} {cc : ByteArray} {nL d rk : Nat} {sc : SC} {pc : Nat} {L : List (Option AV)} {st : List AV} {M : Mem}
theorem y_callSi {index np d' n' : Nat} {sc' : SC} {y : MethodName} {b : ByteArray} {ret : Option FieldType} {as st1 : List AV} {o1 : Rs} {k : Int → Mem → Rs} (hS : SY y b n' ret np) (hlk : Cond.methodLink own index y ∈ lw_g) (hd : decode cc pc = .ok (.invokestatic index, 3)) (hc : ∀ r, o1 = some r → CTi sc' y b n' ret d' as M r) (hsc : ∀ x, sc' = some x → sc = some x) (hst : as.reverse ++ st = st1) (hnp : as.length = np) (hd' : d' + 1 ≤ d) (hn' : n' ≤ 15) (hcat : (st.map catA).sum ≤ 8) (kk : ∀ r M', o1 = some (r, M') → Y own cc nL d rk sc (pc + 3) L (iv r :: st) M' (k r M')) : Y own cc nL d rk sc pc L st1 M (bd o1 k) := by
  intro res ho κ p l eV R s m args below meth c cells slots A Fin hF hR H locs ls hP hl
  obtain ⟨x, h1, h2⟩ := bd_some ho
  subst hst
  have hts := hF.2.2.2.2.1
  have hK := hF.2.2.2.2.2.2.2.2.2.1
  have hM := hc x h1 κ l H.size
  have hfree := pic_free hP hF.2.2.2.2.2.2.2.2.2.2.1
  have hfr : (rmd d').frames + 1 ≤ R.frames := Nat.le_trans hd' hF.2.2.2.2.2.1
  have hlo : 8 + (n' + 11) + (rmd d').locals ≤ R.locals := Nat.le_trans (by show 8 + (n' + 11) + 34 * d' ≤ 34 * d; omega) hF.2.2.2.2.2.2.1
  have hcs : ((st.map (cv κ)).map fun v => v.category).sum ≤ 8 := by rw [cats_cv]; exact hcat
  have hM' := fun (U : State) (hU : U.heap = H) (hW : s.WarmedH U.vm) => (⟨rfl, by rw [hU], by rw [hU]; exact hP.1, va_K.moved hW.alike hK, hP.2.1.weaken (fun _ _ _ _ => trivial), va_Nw.warmM hW hF.2.2.2.2.2.2.2.2.2.2.2.2, sx_call hsc hF.2.2.2.2.2.2.2.2.2.2.2.1 hP.2.1 hP.2.2 hU hW.alike⟩ : PT sc' κ as M H.size (as.map (cv κ)).toArray U)
  refine va_calli (va_runS (As := as.map (cv κ)) (rest := st.map (cv κ)) ⟨hF.1, hF.2.1, hF.2.2.1, hF.2.2.2.1, hts⟩ hM (va_cwS np hts (good_S hS hlk) rfl rfl rfl ⟨hS.1.2.2.1, hS.1.2.2.2.1, hS.1.2.2.2.2⟩ ⟨hfr, hlo⟩) ⟨PT_blind sc' κ _ M H.size, hM'⟩ rfl (by rw [List.length_map]; exact hnp) hl.1 (by rw [← List.map_reverse]; exact List.map_append) (lv_room hcs) hd ⟨hF.2.2.2.2.2.2.2.1, hF.2.2.2.2.2.2.2.2.1⟩) hP.2.2 (fun q _ h => hfree q h) hfree (fun r u t H1 locs1 ht hvm hw hB hz1 hk1 hS1 => ?_)
  rw [hw]
  exact kk x.1 x.2 h1 res h2 κ p l eV R s m args below meth c cells slots A Fin hF hR H1 locs1 ls (pic_back hP hB ht hS1) hl
theorem y_callSl {index np d' n' : Nat} {sc' : SC} {y : MethodName} {b : ByteArray} {as st1 : List AV} {o1 : Rs} {k : Int → Mem → Rs} (hS : SY y b n' (some .long) np) (hlk : Cond.methodLink own index y ∈ lw_g) (hd : decode cc pc = .ok (.invokestatic index, 3)) (hc : ∀ r, o1 = some r → CTl sc' y b n' d' as M r) (hsc : ∀ x, sc' = some x → sc = some x) (hst : as.reverse ++ st = st1) (hnp : as.length = np) (hd' : d' + 1 ≤ d) (hn' : n' ≤ 15) (hcat : (st.map catA).sum ≤ 8) (kk : ∀ r M', o1 = some (r, M') → Y own cc nL d rk sc (pc + 3) L (jv r :: st) M' (k r M')) : Y own cc nL d rk sc pc L st1 M (bd o1 k) := by
  intro res ho κ p l eV R s m args below meth c cells slots A Fin hF hR H locs ls hP hl
  obtain ⟨x, h1, h2⟩ := bd_some ho
  subst hst
  have hts := hF.2.2.2.2.1
  have hK := hF.2.2.2.2.2.2.2.2.2.1
  have hM := hc x h1 κ l H.size
  have hfree := pic_free hP hF.2.2.2.2.2.2.2.2.2.2.1
  have hfr : (rmd d').frames + 1 ≤ R.frames := Nat.le_trans hd' hF.2.2.2.2.2.1
  have hlo : 8 + (n' + 11) + (rmd d').locals ≤ R.locals := Nat.le_trans (by show 8 + (n' + 11) + 34 * d' ≤ 34 * d; omega) hF.2.2.2.2.2.2.1
  have hcs : ((st.map (cv κ)).map fun v => v.category).sum ≤ 8 := by rw [cats_cv]; exact hcat
  have hM' := fun (U : State) (hU : U.heap = H) (hW : s.WarmedH U.vm) => (⟨rfl, by rw [hU], by rw [hU]; exact hP.1, va_K.moved hW.alike hK, hP.2.1.weaken (fun _ _ _ _ => trivial), va_Nw.warmM hW hF.2.2.2.2.2.2.2.2.2.2.2.2, sx_call hsc hF.2.2.2.2.2.2.2.2.2.2.2.1 hP.2.1 hP.2.2 hU hW.alike⟩ : PT sc' κ as M H.size (as.map (cv κ)).toArray U)
  refine va_calll (va_runS (As := as.map (cv κ)) (rest := st.map (cv κ)) ⟨hF.1, hF.2.1, hF.2.2.1, hF.2.2.2.1, hts⟩ hM (va_cwS np hts (good_S hS hlk) rfl rfl rfl ⟨hS.1.2.2.1, hS.1.2.2.2.1, hS.1.2.2.2.2⟩ ⟨hfr, hlo⟩) ⟨PT_blind sc' κ _ M H.size, hM'⟩ rfl (by rw [List.length_map]; exact hnp) hl.1 (by rw [← List.map_reverse]; exact List.map_append) (lv_room hcs) hd ⟨hF.2.2.2.2.2.2.2.1, hF.2.2.2.2.2.2.2.2.1⟩) hP.2.2 (fun q _ h => hfree q h) hfree (fun r u t H1 locs1 ht hvm hw hB hz1 hk1 hS1 => ?_)
  rw [hw]
  exact kk x.1 x.2 h1 res h2 κ p l eV R s m args below meth c cells slots A Fin hF hR H1 locs1 ls (pic_back hP hB ht hS1) hl
theorem y_callSv {index np d' n' : Nat} {sc' : SC} {y : MethodName} {b : ByteArray} {as st1 : List AV} {o1 : Rs} {k : Mem → Rs} (hS : SY y b n' none np) (hlk : Cond.methodLink own index y ∈ lw_g) (hd : decode cc pc = .ok (.invokestatic index, 3)) (hc : ∀ r, o1 = some r → CTv sc' y b n' d' as M r) (hsc : ∀ x, sc' = some x → sc = some x) (hst : as.reverse ++ st = st1) (hnp : as.length = np) (hd' : d' + 1 ≤ d) (hn' : n' ≤ 15) (hcat : (st.map catA).sum ≤ 8) (kk : ∀ r M', o1 = some (r, M') → Y own cc nL d rk sc (pc + 3) L st M' (k M')) : Y own cc nL d rk sc pc L st1 M (bd o1 (fun _ => k)) := by
  intro res ho κ p l eV R s m args below meth c cells slots A Fin hF hR H locs ls hP hl
  obtain ⟨x, h1, h2⟩ := bd_some ho
  subst hst
  have hts := hF.2.2.2.2.1
  have hK := hF.2.2.2.2.2.2.2.2.2.1
  have hM := hc x h1 κ l H.size
  have hfree := pic_free hP hF.2.2.2.2.2.2.2.2.2.2.1
  have hfr : (rmd d').frames + 1 ≤ R.frames := Nat.le_trans hd' hF.2.2.2.2.2.1
  have hlo : 8 + (n' + 11) + (rmd d').locals ≤ R.locals := Nat.le_trans (by show 8 + (n' + 11) + 34 * d' ≤ 34 * d; omega) hF.2.2.2.2.2.2.1
  have hcs : ((st.map (cv κ)).map fun v => v.category).sum ≤ 8 := by rw [cats_cv]; exact hcat
  have hM' := fun (U : State) (hU : U.heap = H) (hW : s.WarmedH U.vm) => (⟨rfl, by rw [hU], by rw [hU]; exact hP.1, va_K.moved hW.alike hK, hP.2.1.weaken (fun _ _ _ _ => trivial), va_Nw.warmM hW hF.2.2.2.2.2.2.2.2.2.2.2.2, sx_call hsc hF.2.2.2.2.2.2.2.2.2.2.2.1 hP.2.1 hP.2.2 hU hW.alike⟩ : PT sc' κ as M H.size (as.map (cv κ)).toArray U)
  refine va_callv (va_runS (As := as.map (cv κ)) (rest := st.map (cv κ)) ⟨hF.1, hF.2.1, hF.2.2.1, hF.2.2.2.1, hts⟩ hM (va_cwS np hts (good_S hS hlk) rfl rfl rfl ⟨hS.1.2.2.1, hS.1.2.2.2.1, hS.1.2.2.2.2⟩ ⟨hfr, hlo⟩) ⟨PT_blind sc' κ _ M H.size, hM'⟩ rfl (by rw [List.length_map]; exact hnp) hl.1 (by rw [← List.map_reverse]; exact List.map_append) (lv_room hcs) hd ⟨hF.2.2.2.2.2.2.2.1, hF.2.2.2.2.2.2.2.2.1⟩) hP.2.2 (fun q _ h => hfree q h) hfree (fun u t H1 locs1 ht hvm hw hB hz1 hk1 hS1 => ?_)
  exact kk x.1 x.2 h1 res h2 κ p l eV R s m args below meth c cells slots A Fin hF hR H1 locs1 ls (pic_back hP hB ht hS1) hl
/-- place q holds an object of the class C -/
def RC (C : String) (q : Nat) : Prop := ∃ (ci : Nat) (fl : List (Nat ⊕ Nat)) (T : u_T) (N : Nat), ob q = some (ci, fl) ∧ kcl[ci]? = some (C, T, N)
theorem y_callVi {index np d' n' : Nat} {sc' : SC} {q : Nat} {y : MethodName} {b : ByteArray} {ret : Option FieldType} {as st1 : List AV} {o1 : Rs} {k : Int → Mem → Rs} (hS : VY y b n' ret np) (hlk : Cond.methodLink own index y ∈ lw_g) (hd : decode cc pc = .ok (.invokevirtual index, 3)) (hc : ∀ r, o1 = some r → CTi sc' y b n' ret d' (rv q :: as) M r) (hsc : ∀ x, sc' = some x → sc = some x) (hst : as.reverse ++ rv q :: st = st1) (hrv : RC y.cls q) (hnp : as.length = np) (hd' : d' + 1 ≤ d) (hn' : n' ≤ 15) (hcat : (st.map catA).sum ≤ 8) (kk : ∀ r M', o1 = some (r, M') → Y own cc nL d rk sc (pc + 3) L (iv r :: st) M' (k r M')) : Y own cc nL d rk sc pc L st1 M (bd o1 k) := by
  intro res ho κ p l eV R s m args below meth c cells slots A Fin hF hR H locs ls hP hl
  obtain ⟨x, h1, h2⟩ := bd_some ho
  subst hst
  have hts := hF.2.2.2.2.1
  have hK := hF.2.2.2.2.2.2.2.2.2.1
  have hM := hc x h1 κ l H.size
  have hfree := pic_free hP hF.2.2.2.2.2.2.2.2.2.2.1
  have hfr : (rmd d').frames + 1 ≤ R.frames := Nat.le_trans hd' hF.2.2.2.2.2.1
  have hlo : 8 + (n' + 11) + (rmd d').locals ≤ R.locals := Nat.le_trans (by show 8 + (n' + 11) + 34 * d' ≤ 34 * d; omega) hF.2.2.2.2.2.2.1
  have hcs : ((st.map (cv κ)).map fun v => v.category).sum ≤ 8 := by rw [cats_cv]; exact hcat
  obtain ⟨ci, fl, T, N, hob, hkc⟩ := hrv
  have hrc := va_recv hK hP.1 (ci := ci) (q0 := q) hkc ((cw_at κ M (ob_lt hob)).trans (by rw [cell_ob κ hob]))
  have hM' := fun (U : State) (hU : U.heap = H) (hW : s.WarmedH U.vm) => (⟨rfl, by rw [hU], by rw [hU]; exact hP.1, va_K.moved hW.alike hK, hP.2.1.weaken (fun _ _ _ _ => trivial), va_Nw.warmM hW hF.2.2.2.2.2.2.2.2.2.2.2.2, sx_call hsc hF.2.2.2.2.2.2.2.2.2.2.2.1 hP.2.1 hP.2.2 hU hW.alike⟩ : PT sc' κ (rv q :: as) M H.size ((rv q :: as).map (cv κ)).toArray U)
  refine va_calli (va_runV (C := y.cls) (b := κ.1 q) (As := as.map (cv κ)) (rest := st.map (cv κ)) ⟨hF.1, hF.2.1, hF.2.2.1, hF.2.2.2.1, hts⟩ hM (cwV np hts (good_V hS hlk) rfl rfl rfl ⟨rfl, hS.1.2.2.1, hS.1.2.2.2.1, hS.1.2.2.2.2⟩ ⟨hfr, hlo⟩) ⟨PT_blind sc' κ _ M H.size, hrc, hM'⟩ rfl (by rw [List.length_map]; exact hnp) hl.1 (by rw [← List.map_reverse]; exact List.map_append) (lv_room hcs) hd ⟨hF.2.2.2.2.2.2.2.1, hF.2.2.2.2.2.2.2.2.1⟩) hP.2.2 (fun q _ h => hfree q h) hfree (fun r u t H1 locs1 ht hvm hw hB hz1 hk1 hS1 => ?_)
  rw [hw]
  exact kk x.1 x.2 h1 res h2 κ p l eV R s m args below meth c cells slots A Fin hF hR H1 locs1 ls (pic_back hP hB ht hS1) hl
theorem y_callVl {index np d' n' : Nat} {sc' : SC} {q : Nat} {y : MethodName} {b : ByteArray} {as st1 : List AV} {o1 : Rs} {k : Int → Mem → Rs} (hS : VY y b n' (some .long) np) (hlk : Cond.methodLink own index y ∈ lw_g) (hd : decode cc pc = .ok (.invokevirtual index, 3)) (hc : ∀ r, o1 = some r → CTl sc' y b n' d' (rv q :: as) M r) (hsc : ∀ x, sc' = some x → sc = some x) (hst : as.reverse ++ rv q :: st = st1) (hrv : RC y.cls q) (hnp : as.length = np) (hd' : d' + 1 ≤ d) (hn' : n' ≤ 15) (hcat : (st.map catA).sum ≤ 8) (kk : ∀ r M', o1 = some (r, M') → Y own cc nL d rk sc (pc + 3) L (jv r :: st) M' (k r M')) : Y own cc nL d rk sc pc L st1 M (bd o1 k) := by
  intro res ho κ p l eV R s m args below meth c cells slots A Fin hF hR H locs ls hP hl
  obtain ⟨x, h1, h2⟩ := bd_some ho
  subst hst
  have hts := hF.2.2.2.2.1
  have hK := hF.2.2.2.2.2.2.2.2.2.1
  have hM := hc x h1 κ l H.size
  have hfree := pic_free hP hF.2.2.2.2.2.2.2.2.2.2.1
  have hfr : (rmd d').frames + 1 ≤ R.frames := Nat.le_trans hd' hF.2.2.2.2.2.1
  have hlo : 8 + (n' + 11) + (rmd d').locals ≤ R.locals := Nat.le_trans (by show 8 + (n' + 11) + 34 * d' ≤ 34 * d; omega) hF.2.2.2.2.2.2.1
  have hcs : ((st.map (cv κ)).map fun v => v.category).sum ≤ 8 := by rw [cats_cv]; exact hcat
  obtain ⟨ci, fl, T, N, hob, hkc⟩ := hrv
  have hrc := va_recv hK hP.1 (ci := ci) (q0 := q) hkc ((cw_at κ M (ob_lt hob)).trans (by rw [cell_ob κ hob]))
  have hM' := fun (U : State) (hU : U.heap = H) (hW : s.WarmedH U.vm) => (⟨rfl, by rw [hU], by rw [hU]; exact hP.1, va_K.moved hW.alike hK, hP.2.1.weaken (fun _ _ _ _ => trivial), va_Nw.warmM hW hF.2.2.2.2.2.2.2.2.2.2.2.2, sx_call hsc hF.2.2.2.2.2.2.2.2.2.2.2.1 hP.2.1 hP.2.2 hU hW.alike⟩ : PT sc' κ (rv q :: as) M H.size ((rv q :: as).map (cv κ)).toArray U)
  refine va_calll (va_runV (C := y.cls) (b := κ.1 q) (As := as.map (cv κ)) (rest := st.map (cv κ)) ⟨hF.1, hF.2.1, hF.2.2.1, hF.2.2.2.1, hts⟩ hM (cwV np hts (good_V hS hlk) rfl rfl rfl ⟨rfl, hS.1.2.2.1, hS.1.2.2.2.1, hS.1.2.2.2.2⟩ ⟨hfr, hlo⟩) ⟨PT_blind sc' κ _ M H.size, hrc, hM'⟩ rfl (by rw [List.length_map]; exact hnp) hl.1 (by rw [← List.map_reverse]; exact List.map_append) (lv_room hcs) hd ⟨hF.2.2.2.2.2.2.2.1, hF.2.2.2.2.2.2.2.2.1⟩) hP.2.2 (fun q _ h => hfree q h) hfree (fun r u t H1 locs1 ht hvm hw hB hz1 hk1 hS1 => ?_)
  rw [hw]
  exact kk x.1 x.2 h1 res h2 κ p l eV R s m args below meth c cells slots A Fin hF hR H1 locs1 ls (pic_back hP hB ht hS1) hl
theorem y_callVv {index np d' n' : Nat} {sc' : SC} {q : Nat} {y : MethodName} {b : ByteArray} {as st1 : List AV} {o1 : Rs} {k : Mem → Rs} (hS : VY y b n' none np) (hlk : Cond.methodLink own index y ∈ lw_g) (hd : decode cc pc = .ok (.invokevirtual index, 3)) (hc : ∀ r, o1 = some r → CTv sc' y b n' d' (rv q :: as) M r) (hsc : ∀ x, sc' = some x → sc = some x) (hst : as.reverse ++ rv q :: st = st1) (hrv : RC y.cls q) (hnp : as.length = np) (hd' : d' + 1 ≤ d) (hn' : n' ≤ 15) (hcat : (st.map catA).sum ≤ 8) (kk : ∀ r M', o1 = some (r, M') → Y own cc nL d rk sc (pc + 3) L st M' (k M')) : Y own cc nL d rk sc pc L st1 M (bd o1 (fun _ => k)) := by
  intro res ho κ p l eV R s m args below meth c cells slots A Fin hF hR H locs ls hP hl
  obtain ⟨x, h1, h2⟩ := bd_some ho
  subst hst
  have hts := hF.2.2.2.2.1
  have hK := hF.2.2.2.2.2.2.2.2.2.1
  have hM := hc x h1 κ l H.size
  have hfree := pic_free hP hF.2.2.2.2.2.2.2.2.2.2.1
  have hfr : (rmd d').frames + 1 ≤ R.frames := Nat.le_trans hd' hF.2.2.2.2.2.1
  have hlo : 8 + (n' + 11) + (rmd d').locals ≤ R.locals := Nat.le_trans (by show 8 + (n' + 11) + 34 * d' ≤ 34 * d; omega) hF.2.2.2.2.2.2.1
  have hcs : ((st.map (cv κ)).map fun v => v.category).sum ≤ 8 := by rw [cats_cv]; exact hcat
  obtain ⟨ci, fl, T, N, hob, hkc⟩ := hrv
  have hrc := va_recv hK hP.1 (ci := ci) (q0 := q) hkc ((cw_at κ M (ob_lt hob)).trans (by rw [cell_ob κ hob]))
  have hM' := fun (U : State) (hU : U.heap = H) (hW : s.WarmedH U.vm) => (⟨rfl, by rw [hU], by rw [hU]; exact hP.1, va_K.moved hW.alike hK, hP.2.1.weaken (fun _ _ _ _ => trivial), va_Nw.warmM hW hF.2.2.2.2.2.2.2.2.2.2.2.2, sx_call hsc hF.2.2.2.2.2.2.2.2.2.2.2.1 hP.2.1 hP.2.2 hU hW.alike⟩ : PT sc' κ (rv q :: as) M H.size ((rv q :: as).map (cv κ)).toArray U)
  refine va_callv (va_runV (C := y.cls) (b := κ.1 q) (As := as.map (cv κ)) (rest := st.map (cv κ)) ⟨hF.1, hF.2.1, hF.2.2.1, hF.2.2.2.1, hts⟩ hM (cwV np hts (good_V hS hlk) rfl rfl rfl ⟨rfl, hS.1.2.2.1, hS.1.2.2.2.1, hS.1.2.2.2.2⟩ ⟨hfr, hlo⟩) ⟨PT_blind sc' κ _ M H.size, hrc, hM'⟩ rfl (by rw [List.length_map]; exact hnp) hl.1 (by rw [← List.map_reverse]; exact List.map_append) (lv_room hcs) hd ⟨hF.2.2.2.2.2.2.2.1, hF.2.2.2.2.2.2.2.2.1⟩) hP.2.2 (fun q _ h => hfree q h) hfree (fun u t H1 locs1 ht hvm hw hB hz1 hk1 hS1 => ?_)
  exact kk x.1 x.2 h1 res h2 κ p l eV R s m args below meth c cells slots A Fin hF hR H1 locs1 ls (pic_back hP hB ht hS1) hl
theorem y_callNi {index np d' n' : Nat} {sc' : SC} {y : MethodName} {b : ByteArray} {ret : Option FieldType} {as st1 : List AV} {o1 : Rs} {k : Int → Mem → Rs} (hS : SY y b n' ret np) (hlk : Cond.methodLinkNest RX4 64 yX5_isCell RX5 = Cond.methodLinkNest own index y RX5) (hd : decode cc pc = .ok (.invokestatic index, 3)) (hc : ∀ r, o1 = some r → CTi sc' y b n' ret d' as M r) (hsc : ∀ x, sc' = some x → sc = some x) (hst : as.reverse ++ st = st1) (hnp : as.length = np) (hd' : d' + 1 ≤ d) (hn' : n' ≤ 15) (hcat : (st.map catA).sum ≤ 8) (kk : ∀ r M', o1 = some (r, M') → Y own cc nL d rk sc (pc + 3) L (iv r :: st) M' (k r M')) : Y own cc nL d rk sc pc L st1 M (bd o1 k) := by
  intro res ho κ p l eV R s m args below meth c cells slots A Fin hF hR H locs ls hP hl
  obtain ⟨x, h1, h2⟩ := bd_some ho
  subst hst
  have hts := hF.2.2.2.2.1
  have hK := hF.2.2.2.2.2.2.2.2.2.1
  have hM := hc x h1 κ l H.size
  have hfree := pic_free hP hF.2.2.2.2.2.2.2.2.2.2.1
  have hfr : (rmd d').frames + 1 ≤ R.frames := Nat.le_trans hd' hF.2.2.2.2.2.1
  have hlo : 8 + (n' + 11) + (rmd d').locals ≤ R.locals := Nat.le_trans (by show 8 + (n' + 11) + 34 * d' ≤ 34 * d; omega) hF.2.2.2.2.2.2.1
  have hcs : ((st.map (cv κ)).map fun v => v.category).sum ≤ 8 := by rw [cats_cv]; exact hcat
  have hM' := fun (U : State) (hU : U.heap = H) (hW : s.WarmedH U.vm) => (⟨rfl, by rw [hU], by rw [hU]; exact hP.1, va_K.moved hW.alike hK, hP.2.1.weaken (fun _ _ _ _ => trivial), va_Nw.warmM hW hF.2.2.2.2.2.2.2.2.2.2.2.2, sx_call hsc hF.2.2.2.2.2.2.2.2.2.2.2.1 hP.2.1 hP.2.2 hU hW.alike⟩ : PT sc' κ as M H.size (as.map (cv κ)).toArray U)
  refine va_calli (va_runSN (As := as.map (cv κ)) (rest := st.map (cv κ)) ⟨hF.1, hF.2.1, hF.2.2.1, hF.2.2.2.1, hts⟩ hM ⟨va_cnB (host := RX5) np hts (fun w hw => by rcases List.mem_cons.mp hw with h | h <;> first | (subst h; exact gd_in hS.1.2.1) | exact gd_in h) rfl rfl rfl (hlk ▸ hF.2.2.2.2.2.2.2.2.2.2.2.2) (hts _ hS.1.1) ⟨hS.1.2.2.1, hS.1.2.2.2.1, hS.1.2.2.2.2⟩ ⟨hfr, hlo⟩, hts _ hS.2, trivial⟩ ⟨PT_blind sc' κ _ M H.size, hM'⟩ rfl (by rw [List.length_map]; exact hnp) hl.1 (by rw [← List.map_reverse]; exact List.map_append) (lv_room hcs) hd ⟨hF.2.2.2.2.2.2.2.1, hF.2.2.2.2.2.2.2.2.1⟩) hP.2.2 (fun q _ h => hfree q h) hfree (fun r u t H1 locs1 ht hvm hw hB hz1 hk1 hS1 => ?_)
  rw [hw]
  exact kk x.1 x.2 h1 res h2 κ p l eV R s m args below meth c cells slots A Fin hF hR H1 locs1 ls (pic_back hP hB ht hS1) hl
end CALLS
theorem CTi_of {sc : SC} {own : String} {y : MethodName} {b : ByteArray} {n d : Nat} {as : List AV} {L0 : List (Option AV)} {M : Mem} {o : Rs} (hp : plainName y.cls = true) (hc : y.cls = own) (hn : (la as).length ≤ n) (hL : la as ++ List.replicate (n - (la as).length) none = L0) (hY : Y own b n d 0 sc 0 L0 [] M o) (res : Int × Mem) (ho : o = some res) : CTi sc y b n (some .int) d as M res := by
  intro κ l sz
  refine Met.ofW (cc := b) (maxL := n) (ret := (some .int)) hp rfl ?_
  intro p eV s m args below meth c s₁ B hml hv
  obtain ⟨rfl, hsz, hP, hK, hD0, hN, hX⟩ := hv
  have hx := B.exec
  have hb := B.bytes
  have hr := B.returns
  have hts := atoms_spec (ws := Cond.code y b n (some .int) :: lw_g) B.pre
  have hown := findClass_of_methodNamed B.named
  have hlocks := B.notSynchronized
  subst hsz
  have hD := hD0.self (sz := s.heap.size)
  rw [lg_entry_eq]
  have hl := agr_entry κ as hn hL
  have hF : Fx own b n d sc κ p (headSpec (Cond.code y b n (some .int) :: lw_g) (rmd d)).room s m (as.map (cv κ)).toArray c 0 0 (va_A (cw κ M) s.heap.size) := ⟨hx, hb, hml, hc ▸ hown, fun w hw => hts w (List.mem_cons_of_mem _ hw), Nat.le_refl _, Nat.le_refl _, Nat.le_refl _, Nat.le_refl _, hK, fun q h => Or.inr h, hX, hN⟩
  refine hY res ho κ p l eV _ s m _ below meth c 0 0 (va_A (cw κ M) s.heap.size) _ hF ?_ s.heap [] _ ⟨hP, hD, va_S.rf⟩ hl
  intro H locs ls pc hP
  exact ⟨fun _ hd => W.iret (v := Int32.ofInt res.1) hx hb hr (fun t ht hW => ⟨⟨_, (), rfl, rfl, ⟨by rw [ht]; exact hP.1, va_K.moved hW.alike hK, hP.2.1⟩⟩, hP.2.2.F ht⟩) hP.2.2.2.2 hd, fun h => absurd h (by decide), fun h => absurd h (by decide)⟩
theorem CTz_of {sc : SC} {own : String} {y : MethodName} {b : ByteArray} {n d : Nat} {as : List AV} {L0 : List (Option AV)} {M : Mem} {o : Rs} (hp : plainName y.cls = true) (hc : y.cls = own) (hn : (la as).length ≤ n) (hL : la as ++ List.replicate (n - (la as).length) none = L0) (hY : Y own b n d 1 sc 0 L0 [] M o) (res : Int × Mem) (ho : o = some res) : CTi sc y b n (some .boolean) d as M res := by
  intro κ l sz
  refine Met.ofW (cc := b) (maxL := n) (ret := (some .boolean)) hp rfl ?_
  intro p eV s m args below meth c s₁ B hml hv
  obtain ⟨rfl, hsz, hP, hK, hD0, hN, hX⟩ := hv
  have hx := B.exec
  have hb := B.bytes
  have hr := B.returns
  have hts := atoms_spec (ws := Cond.code y b n (some .boolean) :: lw_g) B.pre
  have hown := findClass_of_methodNamed B.named
  have hlocks := B.notSynchronized
  subst hsz
  have hD := hD0.self (sz := s.heap.size)
  rw [lg_entry_eq]
  have hl := agr_entry κ as hn hL
  have hF : Fx own b n d sc κ p (headSpec (Cond.code y b n (some .boolean) :: lw_g) (rmd d)).room s m (as.map (cv κ)).toArray c 0 0 (va_A (cw κ M) s.heap.size) := ⟨hx, hb, hml, hc ▸ hown, fun w hw => hts w (List.mem_cons_of_mem _ hw), Nat.le_refl _, Nat.le_refl _, Nat.le_refl _, Nat.le_refl _, hK, fun q h => Or.inr h, hX, hN⟩
  refine hY res ho κ p l eV _ s m _ below meth c 0 0 (va_A (cw κ M) s.heap.size) _ hF ?_ s.heap [] _ ⟨hP, hD, va_S.rf⟩ hl
  intro H locs ls pc hP
  exact ⟨fun h01 hd => W.zret (v := Int32.ofInt res.1) hx hb hr (by rcases h01 with h | ⟨_, h | h⟩ <;> first | (cases h; done) | (rw [h]; rfl)) (fun t ht hW => ⟨⟨_, (), rfl, rfl, ⟨by rw [ht]; exact hP.1, va_K.moved hW.alike hK, hP.2.1⟩⟩, hP.2.2.F ht⟩) hP.2.2.2.2 hd, fun h => absurd h (by decide), fun h => absurd h (by decide)⟩
theorem CTl_of {sc : SC} {own : String} {y : MethodName} {b : ByteArray} {n d : Nat} {as : List AV} {L0 : List (Option AV)} {M : Mem} {o : Rs} (hp : plainName y.cls = true) (hc : y.cls = own) (hn : (la as).length ≤ n) (hL : la as ++ List.replicate (n - (la as).length) none = L0) (hY : Y own b n d 2 sc 0 L0 [] M o) (res : Int × Mem) (ho : o = some res) : CTl sc y b n d as M res := by
  intro κ l sz
  refine Met.ofW (cc := b) (maxL := n) (ret := (some .long)) hp rfl ?_
  intro p eV s m args below meth c s₁ B hml hv
  obtain ⟨rfl, hsz, hP, hK, hD0, hN, hX⟩ := hv
  have hx := B.exec
  have hb := B.bytes
  have hr := B.returns
  have hts := atoms_spec (ws := Cond.code y b n (some .long) :: lw_g) B.pre
  have hown := findClass_of_methodNamed B.named
  have hlocks := B.notSynchronized
  subst hsz
  have hD := hD0.self (sz := s.heap.size)
  rw [lg_entry_eq]
  have hl := agr_entry κ as hn hL
  have hF : Fx own b n d sc κ p (headSpec (Cond.code y b n (some .long) :: lw_g) (rmd d)).room s m (as.map (cv κ)).toArray c 0 0 (va_A (cw κ M) s.heap.size) := ⟨hx, hb, hml, hc ▸ hown, fun w hw => hts w (List.mem_cons_of_mem _ hw), Nat.le_refl _, Nat.le_refl _, Nat.le_refl _, Nat.le_refl _, hK, fun q h => Or.inr h, hX, hN⟩
  refine hY res ho κ p l eV _ s m _ below meth c 0 0 (va_A (cw κ M) s.heap.size) _ hF ?_ s.heap [] _ ⟨hP, hD, va_S.rf⟩ hl
  intro H locs ls pc hP
  exact ⟨fun h01 _ => (by rcases h01 with h | ⟨h, _⟩ <;> cases h), fun _ hd => W.lret (v := Int64.ofInt res.1) hx hb hr (fun t ht hW => ⟨⟨_, (), rfl, rfl, ⟨by rw [ht]; exact hP.1, va_K.moved hW.alike hK, hP.2.1⟩⟩, hP.2.2.F ht⟩) hP.2.2.2.2 hd, fun h => absurd h (by decide)⟩
theorem CTv_of {sc : SC} {own : String} {y : MethodName} {b : ByteArray} {n d : Nat} {as : List AV} {L0 : List (Option AV)} {M : Mem} {o : Rs} (hp : plainName y.cls = true) (hc : y.cls = own) (hn : (la as).length ≤ n) (hL : la as ++ List.replicate (n - (la as).length) none = L0) (hY : Y own b n d 3 sc 0 L0 [] M o) (res : Int × Mem) (ho : o = some res) : CTv sc y b n d as M res := by
  intro κ l sz
  refine Met.ofW (cc := b) (maxL := n) (ret := none) hp rfl ?_
  intro p eV s m args below meth c s₁ B hml hv
  obtain ⟨rfl, hsz, hP, hK, hD0, hN, hX⟩ := hv
  have hx := B.exec
  have hb := B.bytes
  have hr := B.returns
  have hts := atoms_spec (ws := Cond.code y b n none :: lw_g) B.pre
  have hown := findClass_of_methodNamed B.named
  have hlocks := B.notSynchronized
  subst hsz
  have hD := hD0.self (sz := s.heap.size)
  rw [lg_entry_eq]
  have hl := agr_entry κ as hn hL
  have hF : Fx own b n d sc κ p (headSpec (Cond.code y b n none :: lw_g) (rmd d)).room s m (as.map (cv κ)).toArray c 0 0 (va_A (cw κ M) s.heap.size) := ⟨hx, hb, hml, hc ▸ hown, fun w hw => hts w (List.mem_cons_of_mem _ hw), Nat.le_refl _, Nat.le_refl _, Nat.le_refl _, Nat.le_refl _, hK, fun q h => Or.inr h, hX, hN⟩
  refine hY res ho κ p l eV _ s m _ below meth c 0 0 (va_A (cw κ M) s.heap.size) _ hF ?_ s.heap [] _ ⟨hP, hD, va_S.rf⟩ hl
  intro H locs ls pc hP
  exact ⟨fun h01 _ => (by rcases h01 with h | ⟨h, _⟩ <;> cases h), fun h => absurd h (by decide), fun _ hd => W.vret hx hb hr (fun t ht hW => ⟨⟨(), rfl, trivial, ⟨by rw [ht]; exact hP.1, va_K.moved hW.alike hK, hP.2.1⟩⟩, hP.2.2.F ht⟩) hP.2.2.2.2 hd⟩
end
section
def wr (M : Mem) (q i : Nat) (v : Int) (k : Mem → Rs) : Rs := k (mup M q i v)
def cpw (M : Mem) (q0 sp q1 dp n : Nat) (k : Mem → Rs) : Rs := k (mcp M q0 sp q1 dp n)
def lt (v : Int) (k : Int → Rs) : Rs := k v
def mxZ (a b : Int) : Int := if a < b then b else a
def abZ (a : Int) : Int := if 0 ≤ a then a else -a
def bUshr (a b : Int) : Int := ((Int32.ofInt a).toUInt32 >>> ((Int32.ofInt b).toUInt32 &&& Int32.toUInt32 31)).toInt32.toInt
theorem mx_rng {a b : Int} (ha : I32 a) (hb : I32 b) : I32 (mxZ a b) := by
  unfold mxZ
  by_cases h : a < b
  · rw [if_pos h]; exact hb
  · rw [if_neg h]; exact ha
theorem cmp_rng (a b : Int) : I32 (cmpZ a b) := by
  unfold cmpZ
  by_cases h : b < a
  · rw [if_pos h]; decide
  · rw [if_neg h]
    by_cases h2 : a = b
    · rw [if_pos h2]; decide
    · rw [if_neg h2]; decide
theorem ix32 {a z : Int} (h : 0 ≤ a ∧ a < z) (hz : z ≤ 2147483648) : I32 a := ⟨by omega, by omega⟩
def mnZ (a b : Int) : Int := if a < b then a else b
theorem ln_rng (q : Nat) : I32 ((ln q : Nat) : Int) := ⟨by omega, by have := ln_lt q; omega⟩
theorem ls_0 {b : List (Option AV)} : Lsub [] b := trivial
theorem ls_n {a b : List (Option AV)} {y : Option AV} (h : Lsub a b) : Lsub (none :: a) (y :: b) := h
theorem ls_s {a b : List (Option AV)} {x : AV} (h : Lsub a b) : Lsub (some x :: a) (some x :: b) := ⟨rfl, h⟩
theorem ar_w1 {w : Nat} (h : isW w) : ar (w + 1) 6 := ar_w h (by decide) (by decide)
theorem ar_w2 {w : Nat} (h : isW w) : ar (w + 2) 6 := ar_w h (by decide) (by decide)
theorem ar_w3 {w : Nat} (h : isW w) : ar (w + 3) 6 := ar_w h (by decide) (by decide)
theorem ar_w4 {w : Nat} (h : isW w) : ar (w + 4) 8 := ar_w h (by decide) (by decide)
theorem ar_w5 {w : Nat} (h : isW w) : ar (w + 5) 8 := ar_w h (by decide) (by decide)
theorem ar_w6 {w : Nat} (h : isW w) : ar (w + 6) 8 := ar_w h (by decide) (by decide)
theorem ar_w7 {w : Nat} (h : isW w) : ar (w + 7) 5 := ar_w h (by decide) (by decide)
theorem ar_w8 {w : Nat} (h : isW w) : ar (w + 8) 5 := ar_w h (by decide) (by decide)
theorem ar_w9 {w : Nat} (h : isW w) : ar (w + 9) 5 := ar_w h (by decide) (by decide)
theorem ar_w10 {w : Nat} (h : isW w) : ar (w + 10) 5 := ar_w h (by decide) (by decide)
theorem ar_1 : ar 1 6 := ⟨rfl, by decide, by decide, rfl⟩
theorem ar_2 : ar 2 6 := ⟨rfl, by decide, by decide, rfl⟩
theorem ar_3 : ar 3 6 := ⟨rfl, by decide, by decide, rfl⟩
theorem ar_4 : ar 4 8 := ⟨rfl, by decide, by decide, rfl⟩
theorem ar_5 : ar 5 8 := ⟨rfl, by decide, by decide, rfl⟩
theorem ar_6 : ar 6 8 := ⟨rfl, by decide, by decide, rfl⟩
theorem ar_7 : ar 7 5 := ⟨rfl, by decide, by decide, rfl⟩
theorem ar_8 : ar 8 5 := ⟨rfl, by decide, by decide, rfl⟩
theorem ar_9 : ar 9 5 := ⟨rfl, by decide, by decide, rfl⟩
theorem ar_10 : ar 10 5 := ⟨rfl, by decide, by decide, rfl⟩
theorem ar_12 : ar 12 6 := ⟨rfl, by decide, by decide, rfl⟩
theorem ar_13 : ar 13 6 := ⟨rfl, by decide, by decide, rfl⟩
theorem ar_14 : ar 14 6 := ⟨rfl, by decide, by decide, rfl⟩
theorem ar_15 : ar 15 8 := ⟨rfl, by decide, by decide, rfl⟩
theorem ar_16 : ar 16 8 := ⟨rfl, by decide, by decide, rfl⟩
theorem ar_17 : ar 17 8 := ⟨rfl, by decide, by decide, rfl⟩
theorem ar_18 : ar 18 5 := ⟨rfl, by decide, by decide, rfl⟩
theorem ar_19 : ar 19 5 := ⟨rfl, by decide, by decide, rfl⟩
theorem ar_20 : ar 20 5 := ⟨rfl, by decide, by decide, rfl⟩
theorem ar_21 : ar 21 5 := ⟨rfl, by decide, by decide, rfl⟩
theorem ar_23 : ar 23 6 := ⟨rfl, by decide, by decide, rfl⟩
theorem ar_24 : ar 24 6 := ⟨rfl, by decide, by decide, rfl⟩
theorem ar_25 : ar 25 6 := ⟨rfl, by decide, by decide, rfl⟩
theorem ar_26 : ar 26 8 := ⟨rfl, by decide, by decide, rfl⟩
theorem ar_27 : ar 27 8 := ⟨rfl, by decide, by decide, rfl⟩
theorem ar_28 : ar 28 8 := ⟨rfl, by decide, by decide, rfl⟩
theorem ar_29 : ar 29 5 := ⟨rfl, by decide, by decide, rfl⟩
theorem ar_30 : ar 30 5 := ⟨rfl, by decide, by decide, rfl⟩
theorem ar_31 : ar 31 5 := ⟨rfl, by decide, by decide, rfl⟩
theorem ar_32 : ar 32 5 := ⟨rfl, by decide, by decide, rfl⟩
theorem ar_122 : ar 122 6 := ⟨rfl, by decide, by decide, rfl⟩
theorem ar_123 : ar 123 6 := ⟨rfl, by decide, by decide, rfl⟩
theorem ar_124 : ar 124 6 := ⟨rfl, by decide, by decide, rfl⟩
theorem ar_125 : ar 125 1536 := ⟨rfl, by decide, by decide, rfl⟩
theorem ar_126 : ar 126 64 := ⟨rfl, by decide, by decide, rfl⟩
theorem ar_127 : ar 127 6 := ⟨rfl, by decide, by decide, rfl⟩
theorem ar_128 : ar 128 6 := ⟨rfl, by decide, by decide, rfl⟩
theorem ar_132 : ar 132 96 := ⟨rfl, by decide, by decide, rfl⟩
theorem ar_133 : ar 133 12 := ⟨rfl, by decide, by decide, rfl⟩
theorem ar_134 : ar 134 7 := ⟨rfl, by decide, by decide, rfl⟩
theorem ar_135 : ar 135 4 := ⟨rfl, by decide, by decide, rfl⟩
theorem ar_136 : ar 136 4 := ⟨rfl, by decide, by decide, rfl⟩
theorem rc_X4 {w : Nat} (h : isW w) : RC RX4 w := ⟨2, flW w, TX4, 15, ob_w h, rfl⟩
theorem rc_X3 : RC RX3 121 := ⟨1, fl121, TX3, 8, ob_121, rfl⟩
theorem rc_X0 : RC RX0 129 := ⟨0, fl129, TX0, 5, ob_129, rfl⟩
theorem rc_X5 : RC RX5 130 := ⟨3, fl130, TX5, 13, ob_130, rfl⟩
theorem g_X4_9 {w : Nat} (h : isW w) : GR RX4 9 w (w + 1) := ⟨2, flW w, 0, f_X4_9, ob_w h, rfl⟩
theorem g_X3_52 {w : Nat} (h : isW w) : GR RX3 52 w (w + 1) := ⟨2, flW w, 0, f_X3_52, ob_w h, rfl⟩
theorem g_X4_15 {w : Nat} (h : isW w) : GR RX4 15 w (w + 2) := ⟨2, flW w, 1, f_X4_15, ob_w h, rfl⟩
theorem g_X3_53 {w : Nat} (h : isW w) : GR RX3 53 w (w + 2) := ⟨2, flW w, 1, f_X3_53, ob_w h, rfl⟩
theorem g_X4_18 {w : Nat} (h : isW w) : GR RX4 18 w (w + 3) := ⟨2, flW w, 2, f_X4_18, ob_w h, rfl⟩
theorem g_X3_54 {w : Nat} (h : isW w) : GR RX3 54 w (w + 3) := ⟨2, flW w, 2, f_X3_54, ob_w h, rfl⟩
theorem g_X4_21 {w : Nat} (h : isW w) : GI RX4 21 w 3 := ⟨2, flW w, 3, f_X4_21, ob_w h, rfl⟩
theorem pf_X4_21 {w : Nat} (h : isW w) : PI RX4 21 w 3 .int := ⟨2, flW w, 3, p_X4_21, ob_w h, rfl⟩
theorem g_X3_49 {w : Nat} (h : isW w) : GI RX3 49 w 3 := ⟨2, flW w, 3, f_X3_49, ob_w h, rfl⟩
theorem pf_X3_49 {w : Nat} (h : isW w) : PI RX3 49 w 3 .int := ⟨2, flW w, 3, p_X3_49, ob_w h, rfl⟩
theorem g_X5_210 {w : Nat} (h : isW w) : GI RX5 210 w 3 := ⟨2, flW w, 3, f_X5_210, ob_w h, rfl⟩
theorem pf_X5_210 {w : Nat} (h : isW w) : PI RX5 210 w 3 .int := ⟨2, flW w, 3, p_X5_210, ob_w h, rfl⟩
theorem g_X4_25 {w : Nat} (h : isW w) : GR RX4 25 w (w + 4) := ⟨2, flW w, 4, f_X4_25, ob_w h, rfl⟩
theorem g_X0_120 {w : Nat} (h : isW w) : GR RX0 120 w (w + 4) := ⟨2, flW w, 4, f_X0_120, ob_w h, rfl⟩
theorem g_X5_162 {w : Nat} (h : isW w) : GR RX5 162 w (w + 4) := ⟨2, flW w, 4, f_X5_162, ob_w h, rfl⟩
theorem g_X4_28 {w : Nat} (h : isW w) : GR RX4 28 w (w + 5) := ⟨2, flW w, 5, f_X4_28, ob_w h, rfl⟩
theorem g_X0_108 {w : Nat} (h : isW w) : GR RX0 108 w (w + 5) := ⟨2, flW w, 5, f_X0_108, ob_w h, rfl⟩
theorem g_X5_165 {w : Nat} (h : isW w) : GR RX5 165 w (w + 5) := ⟨2, flW w, 5, f_X5_165, ob_w h, rfl⟩
theorem g_X4_31 {w : Nat} (h : isW w) : GR RX4 31 w (w + 6) := ⟨2, flW w, 6, f_X4_31, ob_w h, rfl⟩
theorem g_X0_111 {w : Nat} (h : isW w) : GR RX0 111 w (w + 6) := ⟨2, flW w, 6, f_X0_111, ob_w h, rfl⟩
theorem g_X5_168 {w : Nat} (h : isW w) : GR RX5 168 w (w + 6) := ⟨2, flW w, 6, f_X5_168, ob_w h, rfl⟩
theorem g_X4_34 {w : Nat} (h : isW w) : GI RX4 34 w 7 := ⟨2, flW w, 7, f_X4_34, ob_w h, rfl⟩
theorem pf_X4_34 {w : Nat} (h : isW w) : PI RX4 34 w 7 .int := ⟨2, flW w, 7, p_X4_34, ob_w h, rfl⟩
theorem g_X0_105 {w : Nat} (h : isW w) : GI RX0 105 w 7 := ⟨2, flW w, 7, f_X0_105, ob_w h, rfl⟩
theorem pf_X0_105 {w : Nat} (h : isW w) : PI RX0 105 w 7 .int := ⟨2, flW w, 7, p_X0_105, ob_w h, rfl⟩
theorem g_X5_207 {w : Nat} (h : isW w) : GI RX5 207 w 7 := ⟨2, flW w, 7, f_X5_207, ob_w h, rfl⟩
theorem pf_X5_207 {w : Nat} (h : isW w) : PI RX5 207 w 7 .int := ⟨2, flW w, 7, p_X5_207, ob_w h, rfl⟩
theorem g_X4_37 {w : Nat} (h : isW w) : GR RX4 37 w (w + 7) := ⟨2, flW w, 8, f_X4_37, ob_w h, rfl⟩
theorem g_X0_64 {w : Nat} (h : isW w) : GR RX0 64 w (w + 7) := ⟨2, flW w, 8, f_X0_64, ob_w h, rfl⟩
theorem g_X5_126 {w : Nat} (h : isW w) : GR RX5 126 w (w + 7) := ⟨2, flW w, 8, f_X5_126, ob_w h, rfl⟩
theorem g_X4_40 {w : Nat} (h : isW w) : GR RX4 40 w (w + 8) := ⟨2, flW w, 9, f_X4_40, ob_w h, rfl⟩
theorem g_X0_67 {w : Nat} (h : isW w) : GR RX0 67 w (w + 8) := ⟨2, flW w, 9, f_X0_67, ob_w h, rfl⟩
theorem g_X5_129 {w : Nat} (h : isW w) : GR RX5 129 w (w + 8) := ⟨2, flW w, 9, f_X5_129, ob_w h, rfl⟩
theorem g_X4_43 {w : Nat} (h : isW w) : GR RX4 43 w (w + 9) := ⟨2, flW w, 10, f_X4_43, ob_w h, rfl⟩
theorem g_X5_132 {w : Nat} (h : isW w) : GR RX5 132 w (w + 9) := ⟨2, flW w, 10, f_X5_132, ob_w h, rfl⟩
theorem g_X0_137 {w : Nat} (h : isW w) : GR RX0 137 w (w + 9) := ⟨2, flW w, 10, f_X0_137, ob_w h, rfl⟩
theorem g_X4_46 {w : Nat} (h : isW w) : GR RX4 46 w (w + 10) := ⟨2, flW w, 11, f_X4_46, ob_w h, rfl⟩
theorem g_X0_61 {w : Nat} (h : isW w) : GR RX0 61 w (w + 10) := ⟨2, flW w, 11, f_X0_61, ob_w h, rfl⟩
theorem g_X5_135 {w : Nat} (h : isW w) : GR RX5 135 w (w + 10) := ⟨2, flW w, 11, f_X5_135, ob_w h, rfl⟩
theorem g_X4_49 {w : Nat} (h : isW w) : GI RX4 49 w 12 := ⟨2, flW w, 12, f_X4_49, ob_w h, rfl⟩
theorem pf_X4_49 {w : Nat} (h : isW w) : PI RX4 49 w 12 .int := ⟨2, flW w, 12, p_X4_49, ob_w h, rfl⟩
theorem g_X0_58 {w : Nat} (h : isW w) : GI RX0 58 w 12 := ⟨2, flW w, 12, f_X0_58, ob_w h, rfl⟩
theorem pf_X0_58 {w : Nat} (h : isW w) : PI RX0 58 w 12 .int := ⟨2, flW w, 12, p_X0_58, ob_w h, rfl⟩
theorem g_X5_204 {w : Nat} (h : isW w) : GI RX5 204 w 12 := ⟨2, flW w, 12, f_X5_204, ob_w h, rfl⟩
theorem pf_X5_204 {w : Nat} (h : isW w) : PI RX5 204 w 12 .int := ⟨2, flW w, 12, p_X5_204, ob_w h, rfl⟩
theorem g_X4_52 {w : Nat} (h : isW w) : GI RX4 52 w 13 := ⟨2, flW w, 13, f_X4_52, ob_w h, rfl⟩
theorem pf_X4_52 {w : Nat} (h : isW w) : PI RX4 52 w 13 .int := ⟨2, flW w, 13, p_X4_52, ob_w h, rfl⟩
theorem g_X0_43 {w : Nat} (h : isW w) : GI RX0 43 w 13 := ⟨2, flW w, 13, f_X0_43, ob_w h, rfl⟩
theorem pf_X0_43 {w : Nat} (h : isW w) : PI RX0 43 w 13 .int := ⟨2, flW w, 13, p_X0_43, ob_w h, rfl⟩
theorem g_X5_116 {w : Nat} (h : isW w) : GI RX5 116 w 13 := ⟨2, flW w, 13, f_X5_116, ob_w h, rfl⟩
theorem pf_X5_116 {w : Nat} (h : isW w) : PI RX5 116 w 13 .int := ⟨2, flW w, 13, p_X5_116, ob_w h, rfl⟩
theorem g_X4_55 {w : Nat} (h : isW w) : GI RX4 55 w 14 := ⟨2, flW w, 14, f_X4_55, ob_w h, rfl⟩
theorem pf_X4_55 {w : Nat} (h : isW w) : PI RX4 55 w 14 .int := ⟨2, flW w, 14, p_X4_55, ob_w h, rfl⟩
theorem g_X0_84 {w : Nat} (h : isW w) : GI RX0 84 w 14 := ⟨2, flW w, 14, f_X0_84, ob_w h, rfl⟩
theorem pf_X0_84 {w : Nat} (h : isW w) : PI RX0 84 w 14 .int := ⟨2, flW w, 14, p_X0_84, ob_w h, rfl⟩
theorem g_X5_107 {w : Nat} (h : isW w) : GI RX5 107 w 14 := ⟨2, flW w, 14, f_X5_107, ob_w h, rfl⟩
theorem pf_X5_107 {w : Nat} (h : isW w) : PI RX5 107 w 14 .int := ⟨2, flW w, 14, p_X5_107, ob_w h, rfl⟩
theorem g_X3_9 : GR RX3 9 121 122 := ⟨1, fl121, 0, f_X3_9, ob_121, rfl⟩
theorem g_X3_15 : GR RX3 15 121 123 := ⟨1, fl121, 1, f_X3_15, ob_121, rfl⟩
theorem g_X3_18 : GR RX3 18 121 124 := ⟨1, fl121, 2, f_X3_18, ob_121, rfl⟩
theorem g_X3_21 : GI RX3 21 121 3 := ⟨1, fl121, 3, f_X3_21, ob_121, rfl⟩
theorem pf_X3_21 : PI RX3 21 121 3 .int := ⟨1, fl121, 3, p_X3_21, ob_121, rfl⟩
theorem g_X3_25 : GR RX3 25 121 125 := ⟨1, fl121, 4, f_X3_25, ob_121, rfl⟩
theorem g_X0_50 : GR RX0 50 121 125 := ⟨1, fl121, 4, f_X0_50, ob_121, rfl⟩
theorem g_X3_28 : GR RX3 28 121 126 := ⟨1, fl121, 5, f_X3_28, ob_121, rfl⟩
theorem g_X3_31 : GR RX3 31 121 127 := ⟨1, fl121, 6, f_X3_31, ob_121, rfl⟩
theorem g_X3_34 : GR RX3 34 121 128 := ⟨1, fl121, 7, f_X3_34, ob_121, rfl⟩
theorem g_X0_12 : GR RX0 12 129 22 := ⟨0, fl129, 0, f_X0_12, ob_129, rfl⟩
theorem g_X5_81 : GR RX5 81 129 22 := ⟨0, fl129, 0, f_X5_81, ob_129, rfl⟩
theorem g_X0_21 : GR RX0 21 129 121 := ⟨0, fl129, 1, f_X0_21, ob_129, rfl⟩
theorem g_X0_25 : GI RX0 25 129 2 := ⟨0, fl129, 2, f_X0_25, ob_129, rfl⟩
theorem pf_X0_25 : PI RX0 25 129 2 .int := ⟨0, fl129, 2, p_X0_25, ob_129, rfl⟩
theorem g_X0_29 : GI RX0 29 129 3 := ⟨0, fl129, 3, f_X0_29, ob_129, rfl⟩
theorem pf_X0_29 : PI RX0 29 129 3 .int := ⟨0, fl129, 3, p_X0_29, ob_129, rfl⟩
theorem g_X0_32 : GI RX0 32 129 4 := ⟨0, fl129, 4, f_X0_32, ob_129, rfl⟩
theorem pf_X0_32 : PI RX0 32 129 4 .boolean := ⟨0, fl129, 4, p_X0_32, ob_129, rfl⟩
theorem g_X5_10 : GR RX5 10 130 0 := ⟨3, fl130, 0, f_X5_10, ob_130, rfl⟩
theorem g_X5_16 : GR RX5 16 130 11 := ⟨3, fl130, 1, f_X5_16, ob_130, rfl⟩
theorem g_X5_19 : GI RX5 19 130 2 := ⟨3, fl130, 2, f_X5_19, ob_130, rfl⟩
theorem pf_X5_19 : PI RX5 19 130 2 .boolean := ⟨3, fl130, 2, p_X5_19, ob_130, rfl⟩
theorem g_X5_23 : GR RX5 23 130 131 := ⟨3, fl130, 3, f_X5_23, ob_130, rfl⟩
theorem g_X5_27 : GI RX5 27 130 4 := ⟨3, fl130, 4, f_X5_27, ob_130, rfl⟩
theorem pf_X5_27 : PI RX5 27 130 4 .int := ⟨3, fl130, 4, p_X5_27, ob_130, rfl⟩
theorem g_X5_31 : GR RX5 31 130 132 := ⟨3, fl130, 5, f_X5_31, ob_130, rfl⟩
theorem g_X5_35 : GI RX5 35 130 6 := ⟨3, fl130, 6, f_X5_35, ob_130, rfl⟩
theorem pf_X5_35 : PI RX5 35 130 6 .int := ⟨3, fl130, 6, p_X5_35, ob_130, rfl⟩
theorem g_X5_38 : GR RX5 38 130 133 := ⟨3, fl130, 7, f_X5_38, ob_130, rfl⟩
theorem g_X5_41 : GI RX5 41 130 8 := ⟨3, fl130, 8, f_X5_41, ob_130, rfl⟩
theorem pf_X5_41 : PI RX5 41 130 8 .int := ⟨3, fl130, 8, p_X5_41, ob_130, rfl⟩
theorem g_X5_44 : GR RX5 44 130 134 := ⟨3, fl130, 9, f_X5_44, ob_130, rfl⟩
theorem g_X5_50 : GR RX5 50 130 129 := ⟨3, fl130, 10, f_X5_50, ob_130, rfl⟩
theorem g_X5_54 : GR RX5 54 130 135 := ⟨3, fl130, 11, f_X5_54, ob_130, rfl⟩
theorem g_X5_57 : GR RX5 57 130 136 := ⟨3, fl130, 12, f_X5_57, ob_130, rfl⟩
section ROWS2
variable {own : String} {cc : ByteArray} {nL d rk : Nat} {sc : SC} {pc : Nat} {L : List (Option AV)} {st : List AV} {M : Mem} {o o1 o2 : Rs}
theorem y_leti {v : Int} {k : Int → Rs} (kk : ∀ x, Y own cc nL d rk sc pc L (iv x :: st) M (k x)) : Y own cc nL d rk sc pc L (iv v :: st) M (lt v k) := kk v
theorem y_letl {v : Int} {k : Int → Rs} (kk : ∀ x, Y own cc nL d rk sc pc L (jv x :: st) M (k x)) : Y own cc nL d rk sc pc L (jv v :: st) M (lt v k) := kk v
theorem y_iastw {q n : Nat} {a v : Int} {k : Mem → Rs} (hd : decode cc pc = .ok (.iastore, 1)) (har : ar q n) (h : 0 ≤ a ∧ a < (n : Int)) (kk : ∀ M1, Y own cc nL d rk sc (pc + 1) L st M1 (k M1)) : Y own cc nL d rk sc pc L (iv v :: iv a :: rv q :: st) M (wr M q (Int.toNat a) v k) := y_iast hd har h (kk _)
theorem y_aastw {a : Int} {q : Nat} {k : Mem → Rs} (hd : decode cc pc = .ok (.aastore, 1)) (h : 0 ≤ a ∧ a < 8) (hq : isW q) (kk : ∀ M1, Y own cc nL d rk sc (pc + 1) L st M1 (k M1)) : Y own cc nL d rk sc pc L (rv q :: iv a :: rv 131 :: st) M (wr M 131 (Int.toNat a) ((q : Nat) : Int) k) := y_aast hd h hq (kk _)
theorem y_putintw {index q x : Nat} {a : Int} {k : Mem → Rs} (hg : PI own index q x .int) (hd : decode cc pc = .ok (.putfield index, 3)) (kk : ∀ M1, Y own cc nL d rk sc (pc + 3) L st M1 (k M1)) : Y own cc nL d rk sc pc L (iv a :: rv q :: st) M (wr M q x a k) := y_putint hg hd (kk _)
theorem y_putboolw {index q x : Nat} {a : Int} {k : Mem → Rs} (hg : PI own index q x .boolean) (ha : a = 0 ∨ a = 1) (hd : decode cc pc = .ok (.putfield index, 3)) (kk : ∀ M1, Y own cc nL d rk sc (pc + 3) L st M1 (k M1)) : Y own cc nL d rk sc pc L (iv a :: rv q :: st) M (wr M q x a k) := y_putbool hg ha hd (kk _)
theorem y_copyw {index q0 q1 n0 n1 : Nat} {sp dp n : Int} {k : Mem → Rs} (hlk : Cond.methodLink own index arraycopyName ∈ lw_g) (hd : decode cc pc = .ok (.invokestatic index, 3)) (h0 : ar q0 n0) (h1 : ar q1 n1) (hs : 0 ≤ sp ∧ 0 ≤ dp ∧ 0 ≤ n ∧ sp + n ≤ (n0 : Int) ∧ dp + n ≤ (n1 : Int)) (hcat : (st.map catA).sum ≤ 8) (hfr : 1 ≤ d) (kk : ∀ M1, Y own cc nL d rk sc (pc + 3) L st M1 (k M1)) : Y own cc nL d rk sc pc L (iv n :: iv dp :: rv q1 :: iv sp :: rv q0 :: st) M (cpw M q0 (Int.toNat sp) q1 (Int.toNat dp) (Int.toNat n) k) := y_copy hlk hd h0 h1 hs hcat hfr (kk _)
theorem y_mmaxw {index : Nat} {a b : Int} (ha : I32 a) (hb : I32 b) (hlk : Cond.methodLink own index Lib.Math.max.name ∈ lw_g) (hd : decode cc pc = .ok (.invokestatic index, 3)) (hcat : (st.map catA).sum ≤ 8) (hfr : 1 ≤ d) (k : Y own cc nL d rk sc (pc + 3) L (iv (mxZ a b) :: st) M o) : Y own cc nL d rk sc pc L (iv b :: iv a :: st) M o := y_mmax ha hb hlk hd hcat hfr k
theorem y_mabsw {index : Nat} {a : Int} (ha : I32 a) (hlk : Cond.methodLink own index Lib.Math.abs.name ∈ lw_g) (hd : decode cc pc = .ok (.invokestatic index, 3)) (hcat : (st.map catA).sum ≤ 8) (hfr : 1 ≤ d) (k : Y own cc nL d rk sc (pc + 3) L (iv (abZ a) :: st) M o) : Y own cc nL d rk sc pc L (iv a :: st) M o := y_mabs ha hlk hd hcat hfr k
theorem y_iushr {a b : Int} (hd : decode cc pc = .ok (.iushr, 1)) (k : Y own cc nL d rk sc (pc + 1) L (iv (bUshr a b) :: st) M o) : Y own cc nL d rk sc pc L (iv b :: iv a :: st) M o := by
  intro res ho κ p l eV R s m args below meth c cells slots A Fin hF hR H locs ls hP hl
  exact lv_iushr hF.1 hF.2.1 hd (i_ofToInt _).symm (k res ho κ p l eV R s m args below meth c cells slots A Fin hF hR H locs ls hP hl)
end ROWS2
theorem lk_out2 {a k1 k2 o1 o2 dflt : Int} (h1 : ¬ a = k1) (h2 : ¬ a = k2) : Op.lookupswitch.offset [(k1, o1), (k2, o2)] dflt a = dflt := by
  simp [Op.lookupswitch.offset, h1, h2, Ne.symm h1, Ne.symm h2]
end
section
def m_X3_airOfFront_198 (n : Nat) (M : Mem) (a2 : Int) (a7 : Int) : Rs := if I32 a7 then (if I32 a2 then (if a7 ≤ a2 then (some (a2, M)) else (some (a7, M))) else none) else none
theorem t_X3_airOfFront_198 (n : Nat) (M : Mem) (a2 : Int) (a7 : Int) : Y RX3 cX3_airOfFront 11 0 0 none 198 [none, none, some (iv a2), none, none, none, none, some (iv a7), none, none, none] [] M (m_X3_airOfFront_198 n M a2 a7) := by
  unfold m_X3_airOfFront_198
  refine y_iload (pc := 198) dX3_airOfFront_198 rfl ?_
  refine y_iload_n (pc := 200) dX3_airOfFront_200 rfl ?_
  refine y_gd (fun h1 => ?_)
  refine y_gd (fun h2 => ?_)
  refine y_icmp_le (off := 8) (tgt := 209) (pc := 201) dX3_airOfFront_201 (by decide) h1 h2 (fun h3 => ?_) (fun h3 => ?_)
  · refine y_iload_n (pc := 209) dX3_airOfFront_209 rfl ?_
    exact y_iret (pc := 210) dX3_airOfFront_210
  · refine y_iload (pc := 204) dX3_airOfFront_204 rfl ?_
    refine y_goto (tgt := 210) (pc := 206) dX3_airOfFront_206 (by decide) ?_
    exact y_iret (pc := 210) dX3_airOfFront_210
def m_X3_airOfFront_177 (n : Nat) (M : Mem) (a2 : Int) (s0 : Int) (s1 : Int) : Rs := m_X3_airOfFront_198 n M a2 (s1 - s0)
theorem t_X3_airOfFront_177 (n : Nat) (M : Mem) (a2 : Int) (s0 : Int) (s1 : Int) : Y RX3 cX3_airOfFront 11 0 0 none 177 [none, none, some (iv a2), none, none, none, none, none, none, none, none] [iv s0, iv s1] M (m_X3_airOfFront_177 n M a2 s0 s1) := by
  unfold m_X3_airOfFront_177
  refine y_isub (pc := 177) dX3_airOfFront_177 ?_
  refine y_istore (L' := [none, none, some (iv a2), none, none, none, none, some (iv (s1 - s0)), none, none, none]) (pc := 178) dX3_airOfFront_178 (by decide) rfl rfl ?_
  refine y_goto (tgt := 198) (pc := 180) dX3_airOfFront_180 (by decide) ?_
  exact y_sub (ls_n (ls_n (ls_s (ls_n (ls_n (ls_n (ls_n (ls_s (ls_n (ls_n (ls_n ls_0))))))))))) (t_X3_airOfFront_198 n M a2 (s1 - s0))
def m_X3_airOfFront_147 (n : Nat) (M : Mem) (a2 : Int) (s0 : Int) : Rs := m_X3_airOfFront_198 n M a2 s0
theorem t_X3_airOfFront_147 (n : Nat) (M : Mem) (a2 : Int) (s0 : Int) : Y RX3 cX3_airOfFront 11 0 0 none 147 [none, none, some (iv a2), none, none, none, none, none, none, none, none] [iv s0] M (m_X3_airOfFront_147 n M a2 s0) := by
  unfold m_X3_airOfFront_147
  refine y_istore (L' := [none, none, some (iv a2), none, none, none, none, some (iv s0), none, none, none]) (pc := 147) dX3_airOfFront_147 (by decide) rfl rfl ?_
  refine y_goto (tgt := 198) (pc := 149) dX3_airOfFront_149 (by decide) ?_
  exact y_sub (ls_n (ls_n (ls_s (ls_n (ls_n (ls_n (ls_n (ls_s (ls_n (ls_n (ls_n ls_0))))))))))) (t_X3_airOfFront_198 n M a2 s0)
def m_X3_airOfFront_146 (n : Nat) (M : Mem) (a2 : Int) : Rs := m_X3_airOfFront_147 n M a2 0
theorem t_X3_airOfFront_146 (n : Nat) (M : Mem) (a2 : Int) : Y RX3 cX3_airOfFront 11 0 0 none 146 [none, none, some (iv a2), none, none, none, none, none, none, none, none] [] M (m_X3_airOfFront_146 n M a2) := by
  unfold m_X3_airOfFront_146
  refine y_iconst (pc := 146) dX3_airOfFront_146 ?_
  exact y_sub (ls_n (ls_n (ls_s (ls_n (ls_n (ls_n (ls_n (ls_n (ls_n (ls_n (ls_n ls_0))))))))))) (t_X3_airOfFront_147 n M a2 0)
def m_X3_airOfFront_113 (n : Nat) (M : Mem) (a2 : Int) (s0 : Int) : Rs := m_X3_airOfFront_198 n M a2 s0
theorem t_X3_airOfFront_113 (n : Nat) (M : Mem) (a2 : Int) (s0 : Int) : Y RX3 cX3_airOfFront 11 0 0 none 113 [none, none, some (iv a2), none, none, none, none, none, none, none, none] [iv s0] M (m_X3_airOfFront_113 n M a2 s0) := by
  unfold m_X3_airOfFront_113
  refine y_istore (L' := [none, none, some (iv a2), none, none, none, none, some (iv s0), none, none, none]) (pc := 113) dX3_airOfFront_113 (by decide) rfl rfl ?_
  refine y_goto (tgt := 198) (pc := 115) dX3_airOfFront_115 (by decide) ?_
  exact y_sub (ls_n (ls_n (ls_s (ls_n (ls_n (ls_n (ls_n (ls_s (ls_n (ls_n (ls_n ls_0))))))))))) (t_X3_airOfFront_198 n M a2 s0)
def m_X3_airOfFront_87 (n : Nat) (M : Mem) (a2 : Int) (s0 : Int) : Rs := m_X3_airOfFront_198 n M a2 s0
theorem t_X3_airOfFront_87 (n : Nat) (M : Mem) (a2 : Int) (s0 : Int) : Y RX3 cX3_airOfFront 11 0 0 none 87 [none, none, some (iv a2), none, none, none, none, none, none, none, none] [iv s0] M (m_X3_airOfFront_87 n M a2 s0) := by
  unfold m_X3_airOfFront_87
  refine y_istore (L' := [none, none, some (iv a2), none, none, none, none, some (iv s0), none, none, none]) (pc := 87) dX3_airOfFront_87 (by decide) rfl rfl ?_
  refine y_goto (tgt := 198) (pc := 89) dX3_airOfFront_89 (by decide) ?_
  exact y_sub (ls_n (ls_n (ls_s (ls_n (ls_n (ls_n (ls_n (ls_s (ls_n (ls_n (ls_n ls_0))))))))))) (t_X3_airOfFront_198 n M a2 s0)
def m_X3_airOfFront_86 (n : Nat) (M : Mem) (a2 : Int) : Rs := m_X3_airOfFront_87 n M a2 0
theorem t_X3_airOfFront_86 (n : Nat) (M : Mem) (a2 : Int) : Y RX3 cX3_airOfFront 11 0 0 none 86 [none, none, some (iv a2), none, none, none, none, none, none, none, none] [] M (m_X3_airOfFront_86 n M a2) := by
  unfold m_X3_airOfFront_86
  refine y_iconst (pc := 86) dX3_airOfFront_86 ?_
  exact y_sub (ls_n (ls_n (ls_s (ls_n (ls_n (ls_n (ls_n (ls_n (ls_n (ls_n (ls_n ls_0))))))))))) (t_X3_airOfFront_87 n M a2 0)
def m_X3_airOfFront (n : Nat) (M : Mem) (a1 : Int) (a2 : Int) (a3 : Int) (a4 : Int) : Rs := if 0 ≤ a1 ∧ a1 < 6 then (lt (rd M 123 (Int.toNat a1)) (fun x5 => if I32 a3 then (if (rd M 122 (Int.toNat a1)) = 0 then (lt ((rd M 124 (Int.toNat a1)) + 2) (fun x8 => if I32 x8 then (if x8 ≤ 0 then (m_X3_airOfFront_86 n M a2) else (if I32 a4 then (if x8 ≠ 0 then (if I32 (Int.tmod a3 6) then (if I32 (Int.tmod a4 x8) then (if (Int.tmod a4 x8) < (Int.tmod a3 6) then (m_X3_airOfFront_86 n M a2) else (m_X3_airOfFront_87 n M a2 x5)) else none) else none) else none) else none)) else none)) else (if (rd M 122 (Int.toNat a1)) = 1 then (if I32 (Int.tdiv a3 6) then (if I32 (Int.tmod (rd M 124 (Int.toNat a1)) 4) then (if (Int.tdiv a3 6) = (Int.tmod (rd M 124 (Int.toNat a1)) 4) then (m_X3_airOfFront_113 n M a2 x5) else (m_X3_airOfFront_113 n M a2 0)) else none) else none) else (if (rd M 122 (Int.toNat a1)) = 2 then (lt ((rd M 124 (Int.toNat a1)) + 1) (fun x21 => if I32 x21 then (if x21 ≤ 0 then (m_X3_airOfFront_146 n M a2) else (if I32 a4 then (if x21 ≠ 0 then (if I32 (Int.tmod a4 x21) then (if (Int.tmod a4 x21) = 0 then (m_X3_airOfFront_147 n M a2 x5) else (m_X3_airOfFront_146 n M a2)) else none) else none) else none)) else none)) else (if (rd M 122 (Int.toNat a1)) = 3 then (if I32 a4 then (lt ((Int.tmod a3 6) - (Int.tmod a4 6)) (fun x30 => if I32 x30 then (if 0 ≤ x30 then (m_X3_airOfFront_177 n M a2 x30 x5) else (m_X3_airOfFront_177 n M a2 (-x30) x5)) else none)) else none) else (if (rd M 122 (Int.toNat a1)) = 4 then (if I32 a2 then (if I32 x5 then (if a2 ≤ x5 then (some (0, M)) else (some ((a2 - x5), M))) else none) else none) else (m_X3_airOfFront_198 n M a2 0)))))) else none)) else none
theorem y_X3_airOfFront (n : Nat) (M : Mem) (a1 : Int) (a2 : Int) (a3 : Int) (a4 : Int) : Y RX3 cX3_airOfFront 11 0 0 none 0 [some (rv 121), some (iv a1), some (iv a2), some (iv a3), some (iv a4), none, none, none, none, none, none] [] M (m_X3_airOfFront n M a1 a2 a3 a4) := by
  unfold m_X3_airOfFront
  refine y_aload_n (pc := 0) dX3_airOfFront_0 rfl ?_
  refine y_getref (pc := 1) (x := 123) g_X3_15 dX3_airOfFront_1 ?_
  refine y_iload_n (pc := 4) dX3_airOfFront_4 rfl ?_
  refine y_gd (fun h4 => ?_)
  refine y_iald (pc := 5) dX3_airOfFront_5 ar_123 h4 ?_
  refine y_leti (fun x5 => ?_)
  refine y_istore (L' := [some (rv 121), some (iv a1), some (iv a2), some (iv a3), some (iv a4), some (iv x5), none, none, none, none, none]) (pc := 6) dX3_airOfFront_6 (by decide) rfl rfl ?_
  refine y_iload_n (pc := 8) dX3_airOfFront_8 rfl ?_
  refine y_bipush (pc := 9) dX3_airOfFront_9 (by decide) ?_
  refine y_gd (fun h6 => ?_)
  refine y_irem (pc := 11) dX3_airOfFront_11 h6 (by decide) (by decide) ?_
  refine y_istore (L' := [some (rv 121), some (iv a1), some (iv a2), some (iv a3), some (iv a4), some (iv x5), some (iv (Int.tmod a3 6)), none, none, none, none]) (pc := 12) dX3_airOfFront_12 (by decide) rfl rfl ?_
  refine y_iconst (pc := 14) dX3_airOfFront_14 ?_
  refine y_istore (L' := [some (rv 121), some (iv a1), some (iv a2), some (iv a3), some (iv a4), some (iv x5), some (iv (Int.tmod a3 6)), some (iv 0), none, none, none]) (pc := 15) dX3_airOfFront_15 (by decide) rfl rfl ?_
  refine y_aload_n (pc := 17) dX3_airOfFront_17 rfl ?_
  refine y_getref (pc := 18) (x := 122) g_X3_9 dX3_airOfFront_18 ?_
  refine y_iload_n (pc := 21) dX3_airOfFront_21 rfl ?_
  refine y_iald (pc := 22) dX3_airOfFront_22 ar_122 h4 ?_
  refine y_br (fun h7 => ?_) (fun h7 => ?_)
  · refine y_tableIn (off := 33) (tgt := 56) (pc := 23) dX3_airOfFront_23 h7 (by decide) (by decide) (by decide) rfl (by decide) ?_
    refine y_aload_n (pc := 56) dX3_airOfFront_56 rfl ?_
    refine y_getref (pc := 57) (x := 124) g_X3_18 dX3_airOfFront_57 ?_
    refine y_iload_n (pc := 60) dX3_airOfFront_60 rfl ?_
    refine y_iald (pc := 61) dX3_airOfFront_61 ar_124 h4 ?_
    refine y_iconst (pc := 62) dX3_airOfFront_62 ?_
    refine y_iadd (pc := 63) dX3_airOfFront_63 ?_
    refine y_leti (fun x8 => ?_)
    refine y_istore (L' := [some (rv 121), some (iv a1), some (iv a2), some (iv a3), some (iv a4), some (iv x5), some (iv (Int.tmod a3 6)), some (iv 0), some (iv x8), none, none]) (pc := 64) dX3_airOfFront_64 (by decide) rfl rfl ?_
    refine y_iload (pc := 66) dX3_airOfFront_66 rfl ?_
    refine y_gd (fun h9 => ?_)
    refine y_if_le (off := 18) (tgt := 86) (pc := 68) dX3_airOfFront_68 (by decide) h9 (fun h10 => ?_) (fun h10 => ?_)
    · exact y_sub (ls_n (ls_n (ls_s (ls_n (ls_n (ls_n (ls_n (ls_n (ls_n (ls_n (ls_n ls_0))))))))))) (t_X3_airOfFront_86 n M a2)
    · refine y_iload (pc := 71) dX3_airOfFront_71 rfl ?_
      refine y_iload (pc := 73) dX3_airOfFront_73 rfl ?_
      refine y_iload (pc := 75) dX3_airOfFront_75 rfl ?_
      refine y_gd (fun h11 => ?_)
      refine y_gd (fun h12 => ?_)
      refine y_irem (pc := 77) dX3_airOfFront_77 h11 h9 h12 ?_
      refine y_gd (fun h13 => ?_)
      refine y_gd (fun h14 => ?_)
      refine y_icmp_gt (off := 8) (tgt := 86) (pc := 78) dX3_airOfFront_78 (by decide) h13 h14 (fun h15 => ?_) (fun h15 => ?_)
      · exact y_sub (ls_n (ls_n (ls_s (ls_n (ls_n (ls_n (ls_n (ls_n (ls_n (ls_n (ls_n ls_0))))))))))) (t_X3_airOfFront_86 n M a2)
      · refine y_iload (pc := 81) dX3_airOfFront_81 rfl ?_
        refine y_goto (tgt := 87) (pc := 83) dX3_airOfFront_83 (by decide) ?_
        exact y_sub (ls_n (ls_n (ls_s (ls_n (ls_n (ls_n (ls_n (ls_n (ls_n (ls_n (ls_n ls_0))))))))))) (t_X3_airOfFront_87 n M a2 x5)
  · refine y_br (fun h16 => ?_) (fun h16 => ?_)
    · refine y_tableIn (off := 69) (tgt := 92) (pc := 23) dX3_airOfFront_23 h16 (by decide) (by decide) (by decide) rfl (by decide) ?_
      refine y_iload_n (pc := 92) dX3_airOfFront_92 rfl ?_
      refine y_bipush (pc := 93) dX3_airOfFront_93 (by decide) ?_
      refine y_idiv (pc := 95) dX3_airOfFront_95 h6 (by decide) (by decide) ?_
      refine y_aload_n (pc := 96) dX3_airOfFront_96 rfl ?_
      refine y_getref (pc := 97) (x := 124) g_X3_18 dX3_airOfFront_97 ?_
      refine y_iload_n (pc := 100) dX3_airOfFront_100 rfl ?_
      refine y_iald (pc := 101) dX3_airOfFront_101 ar_124 h4 ?_
      refine y_iconst (pc := 102) dX3_airOfFront_102 ?_
      refine y_irem (pc := 103) dX3_airOfFront_103 (rd_rng _ _ _) (by decide) (by decide) ?_
      refine y_gd (fun h17 => ?_)
      refine y_gd (fun h18 => ?_)
      refine y_icmp_ne (off := 8) (tgt := 112) (pc := 104) dX3_airOfFront_104 (by decide) h17 h18 (fun h19 => ?_) (fun h19 => ?_)
      · refine y_iconst (pc := 112) dX3_airOfFront_112 ?_
        exact y_sub (ls_n (ls_n (ls_s (ls_n (ls_n (ls_n (ls_n (ls_n (ls_n (ls_n (ls_n ls_0))))))))))) (t_X3_airOfFront_113 n M a2 0)
      · refine y_iload (pc := 107) dX3_airOfFront_107 rfl ?_
        refine y_goto (tgt := 113) (pc := 109) dX3_airOfFront_109 (by decide) ?_
        exact y_sub (ls_n (ls_n (ls_s (ls_n (ls_n (ls_n (ls_n (ls_n (ls_n (ls_n (ls_n ls_0))))))))))) (t_X3_airOfFront_113 n M a2 x5)
    · refine y_br (fun h20 => ?_) (fun h20 => ?_)
      · refine y_tableIn (off := 95) (tgt := 118) (pc := 23) dX3_airOfFront_23 h20 (by decide) (by decide) (by decide) rfl (by decide) ?_
        refine y_aload_n (pc := 118) dX3_airOfFront_118 rfl ?_
        refine y_getref (pc := 119) (x := 124) g_X3_18 dX3_airOfFront_119 ?_
        refine y_iload_n (pc := 122) dX3_airOfFront_122 rfl ?_
        refine y_iald (pc := 123) dX3_airOfFront_123 ar_124 h4 ?_
        refine y_iconst (pc := 124) dX3_airOfFront_124 ?_
        refine y_iadd (pc := 125) dX3_airOfFront_125 ?_
        refine y_leti (fun x21 => ?_)
        refine y_istore (L' := [some (rv 121), some (iv a1), some (iv a2), some (iv a3), some (iv a4), some (iv x5), some (iv (Int.tmod a3 6)), some (iv 0), none, some (iv x21), none]) (pc := 126) dX3_airOfFront_126 (by decide) rfl rfl ?_
        refine y_iload (pc := 128) dX3_airOfFront_128 rfl ?_
        refine y_gd (fun h22 => ?_)
        refine y_if_le (off := 16) (tgt := 146) (pc := 130) dX3_airOfFront_130 (by decide) h22 (fun h23 => ?_) (fun h23 => ?_)
        · exact y_sub (ls_n (ls_n (ls_s (ls_n (ls_n (ls_n (ls_n (ls_n (ls_n (ls_n (ls_n ls_0))))))))))) (t_X3_airOfFront_146 n M a2)
        · refine y_iload (pc := 133) dX3_airOfFront_133 rfl ?_
          refine y_iload (pc := 135) dX3_airOfFront_135 rfl ?_
          refine y_gd (fun h24 => ?_)
          refine y_gd (fun h25 => ?_)
          refine y_irem (pc := 137) dX3_airOfFront_137 h24 h22 h25 ?_
          refine y_gd (fun h26 => ?_)
          refine y_if_ne (off := 8) (tgt := 146) (pc := 138) dX3_airOfFront_138 (by decide) h26 (fun h27 => ?_) (fun h27 => ?_)
          · exact y_sub (ls_n (ls_n (ls_s (ls_n (ls_n (ls_n (ls_n (ls_n (ls_n (ls_n (ls_n ls_0))))))))))) (t_X3_airOfFront_146 n M a2)
          · refine y_iload (pc := 141) dX3_airOfFront_141 rfl ?_
            refine y_goto (tgt := 147) (pc := 143) dX3_airOfFront_143 (by decide) ?_
            exact y_sub (ls_n (ls_n (ls_s (ls_n (ls_n (ls_n (ls_n (ls_n (ls_n (ls_n (ls_n ls_0))))))))))) (t_X3_airOfFront_147 n M a2 x5)
      · refine y_br (fun h28 => ?_) (fun h28 => ?_)
        · refine y_tableIn (off := 129) (tgt := 152) (pc := 23) dX3_airOfFront_23 h28 (by decide) (by decide) (by decide) rfl (by decide) ?_
          refine y_iload (pc := 152) dX3_airOfFront_152 rfl ?_
          refine y_iload (pc := 154) dX3_airOfFront_154 rfl ?_
          refine y_bipush (pc := 156) dX3_airOfFront_156 (by decide) ?_
          refine y_gd (fun h29 => ?_)
          refine y_irem (pc := 158) dX3_airOfFront_158 h29 (by decide) (by decide) ?_
          refine y_isub (pc := 159) dX3_airOfFront_159 ?_
          refine y_leti (fun x30 => ?_)
          refine y_istore (L' := [some (rv 121), some (iv a1), some (iv a2), some (iv a3), some (iv a4), some (iv x5), some (iv (Int.tmod a3 6)), some (iv 0), none, none, some (iv x30)]) (pc := 160) dX3_airOfFront_160 (by decide) rfl rfl ?_
          refine y_iload (pc := 162) dX3_airOfFront_162 rfl ?_
          refine y_iload (pc := 164) dX3_airOfFront_164 rfl ?_
          refine y_gd (fun h31 => ?_)
          refine y_if_ge (off := 9) (tgt := 175) (pc := 166) dX3_airOfFront_166 (by decide) h31 (fun h32 => ?_) (fun h32 => ?_)
          · refine y_iload (pc := 175) dX3_airOfFront_175 rfl ?_
            exact y_sub (ls_n (ls_n (ls_s (ls_n (ls_n (ls_n (ls_n (ls_n (ls_n (ls_n (ls_n ls_0))))))))))) (t_X3_airOfFront_177 n M a2 x30 x5)
          · refine y_iload (pc := 169) dX3_airOfFront_169 rfl ?_
            refine y_ineg (pc := 171) dX3_airOfFront_171 ?_
            refine y_goto (tgt := 177) (pc := 172) dX3_airOfFront_172 (by decide) ?_
            exact y_sub (ls_n (ls_n (ls_s (ls_n (ls_n (ls_n (ls_n (ls_n (ls_n (ls_n (ls_n ls_0))))))))))) (t_X3_airOfFront_177 n M a2 (-x30) x5)
        · refine y_br (fun h33 => ?_) (fun h33 => ?_)
          · refine y_tableIn (off := 160) (tgt := 183) (pc := 23) dX3_airOfFront_23 h33 (by decide) (by decide) (by decide) rfl (by decide) ?_
            refine y_iload_n (pc := 183) dX3_airOfFront_183 rfl ?_
            refine y_iload (pc := 184) dX3_airOfFront_184 rfl ?_
            refine y_gd (fun h34 => ?_)
            refine y_gd (fun h35 => ?_)
            refine y_icmp_le (off := 10) (tgt := 196) (pc := 186) dX3_airOfFront_186 (by decide) h34 h35 (fun h36 => ?_) (fun h36 => ?_)
            · refine y_iconst (pc := 196) dX3_airOfFront_196 ?_
              exact y_iret (pc := 197) dX3_airOfFront_197
            · refine y_iload_n (pc := 189) dX3_airOfFront_189 rfl ?_
              refine y_iload (pc := 190) dX3_airOfFront_190 rfl ?_
              refine y_isub (pc := 192) dX3_airOfFront_192 ?_
              refine y_goto (tgt := 197) (pc := 193) dX3_airOfFront_193 (by decide) ?_
              exact y_iret (pc := 197) dX3_airOfFront_197
          · refine y_tableOut (tgt := 198) (pc := 23) dX3_airOfFront_23 (rd_rng _ _ _) (by omega) (by decide) ?_
            exact y_sub (ls_n (ls_n (ls_s (ls_n (ls_n (ls_n (ls_n (ls_s (ls_n (ls_n (ls_n ls_0))))))))))) (t_X3_airOfFront_198 n M a2 0)
theorem c_X3_airOfFront (n : Nat) (M : Mem) (a1 : Int) (a2 : Int) (a3 : Int) (a4 : Int) : ∀ res : Int × Mem, m_X3_airOfFront n M a1 a2 a3 a4 = some res → CTi none yX3_airOfFront cX3_airOfFront 11 (some .int) 0 [rv 121, iv a1, iv a2, iv a3, iv a4] M res := CTi_of (by decide +kernel) rfl (Nat.le_of_ble_eq_true rfl) rfl (y_X3_airOfFront n M a1 a2 a3 a4)
def m_X3_airAt_100 (n : Nat) : Nat → Mem → Int → Int → Rs
  | 0, _, _, _ => none
  | t + 1, M, a5, a6 => if I32 a6 then (if (rd M 121 3) ≤ a6 then (some (a5, M)) else (if 0 ≤ a6 ∧ a6 < 6 then (bd (m_X3_airOfFront n M a6 a5 (rd M 127 (Int.toNat a6)) (rd M 128 (Int.toNat a6))) (fun r5 M4 => (m_X3_airAt_100 n t) M4 r5 (a6 + 1))) else none)) else none
theorem t_X3_airAt_100 (n : Nat) : ∀ (t : Nat) (M : Mem) (a5 : Int) (a6 : Int), Y RX3 cX3_airAt 7 1 0 none 100 [some (rv 121), none, none, none, none, some (iv a5), some (iv a6)] [] M (m_X3_airAt_100 n t M a5 a6) := by
  intro t
  induction t with
  | zero => intro M a5 a6; exact y_none
  | succ t ih =>
    intro M a5 a6
    rewrite [m_X3_airAt_100]
    refine y_iload (pc := 100) dX3_airAt_100 rfl ?_
    refine y_aload_n (pc := 102) dX3_airAt_102 rfl ?_
    refine y_getint (pc := 103) g_X3_21 dX3_airAt_103 ?_
    refine y_gd (fun h1 => ?_)
    refine y_icmp_ge (off := 33) (tgt := 139) (pc := 106) dX3_airAt_106 (by decide) h1 (rd_rng _ _ _) (fun h2 => ?_) (fun h2 => ?_)
    · refine y_iload (pc := 139) dX3_airAt_139 rfl ?_
      exact y_iret (pc := 141) dX3_airAt_141
    · refine y_aload_n (pc := 109) dX3_airAt_109 rfl ?_
      refine y_iload (pc := 110) dX3_airAt_110 rfl ?_
      refine y_iload (pc := 112) dX3_airAt_112 rfl ?_
      refine y_aload_n (pc := 114) dX3_airAt_114 rfl ?_
      refine y_getref (pc := 115) (x := 127) g_X3_31 dX3_airAt_115 ?_
      refine y_iload (pc := 118) dX3_airAt_118 rfl ?_
      refine y_gd (fun h3 => ?_)
      refine y_iald (pc := 120) dX3_airAt_120 ar_127 h3 ?_
      refine y_aload_n (pc := 121) dX3_airAt_121 rfl ?_
      refine y_getref (pc := 122) (x := 128) g_X3_34 dX3_airAt_122 ?_
      refine y_iload (pc := 125) dX3_airAt_125 rfl ?_
      refine y_iald (pc := 127) dX3_airAt_127 ar_128 h3 ?_
      refine y_callVi (pc := 128) v_X3_airOfFront l_X3_66 dX3_airAt_128 (c_X3_airOfFront n _ _ _ _ _) (fun _ h => nomatch h) rfl rc_X3 rfl (by decide) (by decide) (Nat.le_of_ble_eq_true rfl) (fun r5 M4 _ => ?_)
      refine y_istore (L' := [some (rv 121), none, none, none, none, some (iv r5), some (iv a6)]) (pc := 131) dX3_airAt_131 (by decide) rfl rfl ?_
      refine y_iinc (L' := [some (rv 121), none, none, none, none, some (iv r5), some (iv (a6 + 1))]) (pc := 133) dX3_airAt_133 rfl (by decide) rfl rfl ?_
      refine y_goto (tgt := 100) (pc := 136) dX3_airAt_136 (by decide) ?_
      exact y_sub (ls_s (ls_n (ls_n (ls_n (ls_n (ls_s (ls_s ls_0))))))) (ih M4 r5 (a6 + 1))
def m_X3_airAt_13 (n : Nat) : Nat → Mem → Int → Int → Int → Rs
  | 0, _, _, _, _ => none
  | t + 1, M, a3, a4, a5 => if I32 a5 then (if a5 < 0 then (m_X3_airAt_100 n n M 0 0) else (if 0 ≤ a5 ∧ a5 < 6 then (wr M 127 (Int.toNat a5) a3 (fun M9 => wr M9 128 (Int.toNat a5) a4 (fun M10 => if (rd M10 122 (Int.toNat a5)) = 5 then (if I32 a3 then (lt ((a3 + 5) - (2 * (Int.tmod a3 6))) (fun x16 => (m_X3_airAt_13 n t) M10 x16 a4 (a5 + (-1)))) else none) else (if (rd M10 122 (Int.toNat a5)) = 6 then (if I32 (a4 - (rd M10 124 (Int.toNat a5))) then (lt (mxZ (a4 - (rd M10 124 (Int.toNat a5))) 0) (fun x14 => (m_X3_airAt_13 n t) M10 a3 x14 (a5 + (-1)))) else none) else ((m_X3_airAt_13 n t) M10 a3 a4 (a5 + (-1))))))) else none)) else none
theorem t_X3_airAt_13 (n : Nat) : ∀ (t : Nat) (M : Mem) (a3 : Int) (a4 : Int) (a5 : Int), Y RX3 cX3_airAt 7 1 0 none 13 [some (rv 121), none, none, some (iv a3), some (iv a4), some (iv a5), none] [] M (m_X3_airAt_13 n t M a3 a4 a5) := by
  intro t
  induction t with
  | zero => intro M a3 a4 a5; exact y_none
  | succ t ih =>
    intro M a3 a4 a5
    rewrite [m_X3_airAt_13]
    refine y_iload (pc := 13) dX3_airAt_13 rfl ?_
    refine y_gd (fun h6 => ?_)
    refine y_if_lt (off := 79) (tgt := 94) (pc := 15) dX3_airAt_15 (by decide) h6 (fun h7 => ?_) (fun h7 => ?_)
    · refine y_iconst (pc := 94) dX3_airAt_94 ?_
      refine y_istore (L' := [some (rv 121), none, none, some (iv a3), some (iv a4), some (iv 0), none]) (pc := 95) dX3_airAt_95 (by decide) rfl rfl ?_
      refine y_iconst (pc := 97) dX3_airAt_97 ?_
      refine y_istore (L' := [some (rv 121), none, none, some (iv a3), some (iv a4), some (iv 0), some (iv 0)]) (pc := 98) dX3_airAt_98 (by decide) rfl rfl ?_
      exact y_sub (ls_s (ls_n (ls_n (ls_n (ls_n (ls_s (ls_s ls_0))))))) (t_X3_airAt_100 n n M 0 0)
    · refine y_aload_n (pc := 18) dX3_airAt_18 rfl ?_
      refine y_getref (pc := 19) (x := 127) g_X3_31 dX3_airAt_19 ?_
      refine y_iload (pc := 22) dX3_airAt_22 rfl ?_
      refine y_iload_n (pc := 24) dX3_airAt_24 rfl ?_
      refine y_gd (fun h8 => ?_)
      refine y_iastw (pc := 25) dX3_airAt_25 ar_127 h8 (fun M9 => ?_)
      refine y_aload_n (pc := 26) dX3_airAt_26 rfl ?_
      refine y_getref (pc := 27) (x := 128) g_X3_34 dX3_airAt_27 ?_
      refine y_iload (pc := 30) dX3_airAt_30 rfl ?_
      refine y_iload (pc := 32) dX3_airAt_32 rfl ?_
      refine y_iastw (pc := 34) dX3_airAt_34 ar_128 h8 (fun M10 => ?_)
      refine y_aload_n (pc := 35) dX3_airAt_35 rfl ?_
      refine y_getref (pc := 36) (x := 122) g_X3_9 dX3_airAt_36 ?_
      refine y_iload (pc := 39) dX3_airAt_39 rfl ?_
      refine y_iald (pc := 41) dX3_airAt_41 ar_122 h8 ?_
      refine y_iconst (pc := 42) dX3_airAt_42 ?_
      refine y_icmp_ne (off := 17) (tgt := 60) (pc := 43) dX3_airAt_43 (by decide) (rd_rng _ _ _) (by decide) (fun h11 => ?_) (fun h11 => ?_)
      · refine y_aload_n (pc := 60) dX3_airAt_60 rfl ?_
        refine y_getref (pc := 61) (x := 122) g_X3_9 dX3_airAt_61 ?_
        refine y_iload (pc := 64) dX3_airAt_64 rfl ?_
        refine y_iald (pc := 66) dX3_airAt_66 ar_122 h8 ?_
        refine y_bipush (pc := 67) dX3_airAt_67 (by decide) ?_
        refine y_icmp_ne (off := 19) (tgt := 88) (pc := 69) dX3_airAt_69 (by decide) (rd_rng _ _ _) (by decide) (fun h12 => ?_) (fun h12 => ?_)
        · refine y_iinc (L' := [some (rv 121), none, none, some (iv a3), some (iv a4), some (iv (a5 + (-1))), none]) (pc := 88) dX3_airAt_88 rfl (by decide) rfl rfl ?_
          refine y_goto (tgt := 13) (pc := 91) dX3_airAt_91 (by decide) ?_
          exact y_sub (ls_s (ls_n (ls_n (ls_s (ls_s (ls_s (ls_n ls_0))))))) (ih M10 a3 a4 (a5 + (-1)))
        · refine y_iload (pc := 72) dX3_airAt_72 rfl ?_
          refine y_aload_n (pc := 74) dX3_airAt_74 rfl ?_
          refine y_getref (pc := 75) (x := 124) g_X3_18 dX3_airAt_75 ?_
          refine y_iload (pc := 78) dX3_airAt_78 rfl ?_
          refine y_iald (pc := 80) dX3_airAt_80 ar_124 h8 ?_
          refine y_isub (pc := 81) dX3_airAt_81 ?_
          refine y_iconst (pc := 82) dX3_airAt_82 ?_
          refine y_gd (fun h13 => ?_)
          refine y_mmaxw (pc := 83) h13 (by decide) l_X3_61 dX3_airAt_83 (Nat.le_of_ble_eq_true rfl) (by decide) ?_
          refine y_leti (fun x14 => ?_)
          refine y_istore (L' := [some (rv 121), none, none, some (iv a3), some (iv x14), some (iv a5), none]) (pc := 86) dX3_airAt_86 (by decide) rfl rfl ?_
          refine y_iinc (L' := [some (rv 121), none, none, some (iv a3), some (iv x14), some (iv (a5 + (-1))), none]) (pc := 88) dX3_airAt_88 rfl (by decide) rfl rfl ?_
          refine y_goto (tgt := 13) (pc := 91) dX3_airAt_91 (by decide) ?_
          exact y_sub (ls_s (ls_n (ls_n (ls_s (ls_s (ls_s (ls_n ls_0))))))) (ih M10 a3 x14 (a5 + (-1)))
      · refine y_iload_n (pc := 46) dX3_airAt_46 rfl ?_
        refine y_iconst (pc := 47) dX3_airAt_47 ?_
        refine y_iadd (pc := 48) dX3_airAt_48 ?_
        refine y_iconst (pc := 49) dX3_airAt_49 ?_
        refine y_iload_n (pc := 50) dX3_airAt_50 rfl ?_
        refine y_bipush (pc := 51) dX3_airAt_51 (by decide) ?_
        refine y_gd (fun h15 => ?_)
        refine y_irem (pc := 53) dX3_airAt_53 h15 (by decide) (by decide) ?_
        refine y_imul (pc := 54) dX3_airAt_54 ?_
        refine y_isub (pc := 55) dX3_airAt_55 ?_
        refine y_leti (fun x16 => ?_)
        refine y_istore_n (L' := [some (rv 121), none, none, some (iv x16), some (iv a4), some (iv a5), none]) (pc := 56) dX3_airAt_56 (by decide) rfl rfl ?_
        refine y_goto (tgt := 88) (pc := 57) dX3_airAt_57 (by decide) ?_
        refine y_iinc (L' := [some (rv 121), none, none, some (iv x16), some (iv a4), some (iv (a5 + (-1))), none]) (pc := 88) dX3_airAt_88 rfl (by decide) rfl rfl ?_
        refine y_goto (tgt := 13) (pc := 91) dX3_airAt_91 (by decide) ?_
        exact y_sub (ls_s (ls_n (ls_n (ls_s (ls_s (ls_s (ls_n ls_0))))))) (ih M10 x16 a4 (a5 + (-1)))
def m_X3_airAt (n : Nat) (M : Mem) (a1 : Int) (a2 : Int) : Rs := m_X3_airAt_13 n n M a1 a2 ((rd M 121 3) - 1)
theorem y_X3_airAt (n : Nat) (M : Mem) (a1 : Int) (a2 : Int) : Y RX3 cX3_airAt 7 1 0 none 0 [some (rv 121), some (iv a1), some (iv a2), none, none, none, none] [] M (m_X3_airAt n M a1 a2) := by
  unfold m_X3_airAt
  refine y_iload_n (pc := 0) dX3_airAt_0 rfl ?_
  refine y_istore_n (L' := [some (rv 121), some (iv a1), some (iv a2), some (iv a1), none, none, none]) (pc := 1) dX3_airAt_1 (by decide) rfl rfl ?_
  refine y_iload_n (pc := 2) dX3_airAt_2 rfl ?_
  refine y_istore (L' := [some (rv 121), some (iv a1), some (iv a2), some (iv a1), some (iv a2), none, none]) (pc := 3) dX3_airAt_3 (by decide) rfl rfl ?_
  refine y_aload_n (pc := 5) dX3_airAt_5 rfl ?_
  refine y_getint (pc := 6) g_X3_21 dX3_airAt_6 ?_
  refine y_iconst (pc := 9) dX3_airAt_9 ?_
  refine y_isub (pc := 10) dX3_airAt_10 ?_
  refine y_istore (L' := [some (rv 121), some (iv a1), some (iv a2), some (iv a1), some (iv a2), some (iv ((rd M 121 3) - 1)), none]) (pc := 11) dX3_airAt_11 (by decide) rfl rfl ?_
  exact y_sub (ls_s (ls_n (ls_n (ls_s (ls_s (ls_s (ls_n ls_0))))))) (t_X3_airAt_13 n n M a1 a2 ((rd M 121 3) - 1))
theorem c_X3_airAt (n : Nat) (M : Mem) (a1 : Int) (a2 : Int) : ∀ res : Int × Mem, m_X3_airAt n M a1 a2 = some res → CTi none yX3_airAt cX3_airAt 7 (some .int) 1 [rv 121, iv a1, iv a2] M res := CTi_of (by decide +kernel) rfl (Nat.le_of_ble_eq_true rfl) rfl (y_X3_airAt n M a1 a2)
def m_X3_isOf_15 (n : Nat) : Nat → Mem → Nat → Int → Rs
  | 0, _, _, _ => none
  | t + 1, M, a1, a2 => if I32 a2 then (if (rd M 121 3) ≤ a2 then (some (1, M)) else (if 0 ≤ a2 ∧ a2 < 6 then (if (rd M 122 (Int.toNat a2)) = (rd M (a1 + 1) (Int.toNat a2)) then (if (rd M 123 (Int.toNat a2)) = (rd M (a1 + 2) (Int.toNat a2)) then (if (rd M 124 (Int.toNat a2)) = (rd M (a1 + 3) (Int.toNat a2)) then ((m_X3_isOf_15 n t) M a1 (a2 + 1)) else (some (0, M))) else (some (0, M))) else (some (0, M))) else none)) else none
theorem t_X3_isOf_15 (n : Nat) : ∀ (t : Nat) (M : Mem) (a1 : Nat) (a2 : Int), isW a1 → Y RX3 cX3_isOf 3 0 1 none 15 [some (rv 121), some (rv a1), some (iv a2)] [] M (m_X3_isOf_15 n t M a1 a2) := by
  intro t
  induction t with
  | zero => intro M a1 a2 ha1; exact y_none
  | succ t ih =>
    intro M a1 a2 ha1
    rewrite [m_X3_isOf_15]
    refine y_iload_n (pc := 15) dX3_isOf_15 rfl ?_
    refine y_aload_n (pc := 16) dX3_isOf_16 rfl ?_
    refine y_getint (pc := 17) g_X3_21 dX3_isOf_17 ?_
    refine y_gd (fun h1 => ?_)
    refine y_icmp_ge (off := 56) (tgt := 76) (pc := 20) dX3_isOf_20 (by decide) h1 (rd_rng _ _ _) (fun h2 => ?_) (fun h2 => ?_)
    · refine y_iconst (pc := 76) dX3_isOf_76 ?_
      exact y_zret (pc := 77) dX3_isOf_77 (by decide)
    · refine y_aload_n (pc := 23) dX3_isOf_23 rfl ?_
      refine y_getref (pc := 24) (x := 122) g_X3_9 dX3_isOf_24 ?_
      refine y_iload_n (pc := 27) dX3_isOf_27 rfl ?_
      refine y_gd (fun h3 => ?_)
      refine y_iald (pc := 28) dX3_isOf_28 ar_122 h3 ?_
      refine y_aload_n (pc := 29) dX3_isOf_29 rfl ?_
      refine y_getref (pc := 30) (x := (a1 + 1)) (g_X3_52 ha1) dX3_isOf_30 ?_
      refine y_iload_n (pc := 33) dX3_isOf_33 rfl ?_
      refine y_iald (pc := 34) dX3_isOf_34 (ar_w1 ha1) h3 ?_
      refine y_icmp_ne (off := 33) (tgt := 68) (pc := 35) dX3_isOf_35 (by decide) (rd_rng _ _ _) (rd_rng _ _ _) (fun h4 => ?_) (fun h4 => ?_)
      · refine y_iconst (pc := 68) dX3_isOf_68 ?_
        exact y_zret (pc := 69) dX3_isOf_69 (by decide)
      · refine y_aload_n (pc := 38) dX3_isOf_38 rfl ?_
        refine y_getref (pc := 39) (x := 123) g_X3_15 dX3_isOf_39 ?_
        refine y_iload_n (pc := 42) dX3_isOf_42 rfl ?_
        refine y_iald (pc := 43) dX3_isOf_43 ar_123 h3 ?_
        refine y_aload_n (pc := 44) dX3_isOf_44 rfl ?_
        refine y_getref (pc := 45) (x := (a1 + 2)) (g_X3_53 ha1) dX3_isOf_45 ?_
        refine y_iload_n (pc := 48) dX3_isOf_48 rfl ?_
        refine y_iald (pc := 49) dX3_isOf_49 (ar_w2 ha1) h3 ?_
        refine y_icmp_ne (off := 18) (tgt := 68) (pc := 50) dX3_isOf_50 (by decide) (rd_rng _ _ _) (rd_rng _ _ _) (fun h5 => ?_) (fun h5 => ?_)
        · refine y_iconst (pc := 68) dX3_isOf_68 ?_
          exact y_zret (pc := 69) dX3_isOf_69 (by decide)
        · refine y_aload_n (pc := 53) dX3_isOf_53 rfl ?_
          refine y_getref (pc := 54) (x := 124) g_X3_18 dX3_isOf_54 ?_
          refine y_iload_n (pc := 57) dX3_isOf_57 rfl ?_
          refine y_iald (pc := 58) dX3_isOf_58 ar_124 h3 ?_
          refine y_aload_n (pc := 59) dX3_isOf_59 rfl ?_
          refine y_getref (pc := 60) (x := (a1 + 3)) (g_X3_54 ha1) dX3_isOf_60 ?_
          refine y_iload_n (pc := 63) dX3_isOf_63 rfl ?_
          refine y_iald (pc := 64) dX3_isOf_64 (ar_w3 ha1) h3 ?_
          refine y_icmp_eq (off := 5) (tgt := 70) (pc := 65) dX3_isOf_65 (by decide) (rd_rng _ _ _) (rd_rng _ _ _) (fun h6 => ?_) (fun h6 => ?_)
          · refine y_iinc (L' := [some (rv 121), some (rv a1), some (iv (a2 + 1))]) (pc := 70) dX3_isOf_70 rfl (by decide) rfl rfl ?_
            refine y_goto (tgt := 15) (pc := 73) dX3_isOf_73 (by decide) ?_
            exact y_sub (ls_s (ls_s (ls_s ls_0))) (ih M a1 (a2 + 1) ha1)
          · refine y_iconst (pc := 68) dX3_isOf_68 ?_
            exact y_zret (pc := 69) dX3_isOf_69 (by decide)
def m_X3_isOf (n : Nat) (M : Mem) (a1 : Nat) : Rs := if isW a1 then (if (rd M 121 3) = (rd M a1 3) then (m_X3_isOf_15 n n M a1 0) else (some (0, M))) else none
theorem y_X3_isOf (n : Nat) (M : Mem) (a1 : Nat) : Y RX3 cX3_isOf 3 0 1 none 0 [some (rv 121), some (rv a1), none] [] M (m_X3_isOf n M a1) := by
  unfold m_X3_isOf
  refine y_gd (fun ha1 => ?_)
  refine y_aload_n (pc := 0) dX3_isOf_0 rfl ?_
  refine y_getint (pc := 1) g_X3_21 dX3_isOf_1 ?_
  refine y_aload_n (pc := 4) dX3_isOf_4 rfl ?_
  refine y_getint (pc := 5) (g_X3_49 ha1) dX3_isOf_5 ?_
  refine y_icmp_eq (off := 5) (tgt := 13) (pc := 8) dX3_isOf_8 (by decide) (rd_rng _ _ _) (rd_rng _ _ _) (fun h7 => ?_) (fun h7 => ?_)
  · refine y_iconst (pc := 13) dX3_isOf_13 ?_
    refine y_istore_n (L' := [some (rv 121), some (rv a1), some (iv 0)]) (pc := 14) dX3_isOf_14 (by decide) rfl rfl ?_
    exact y_sub (ls_s (ls_s (ls_s ls_0))) (t_X3_isOf_15 n n M a1 0 ha1)
  · refine y_iconst (pc := 11) dX3_isOf_11 ?_
    exact y_zret (pc := 12) dX3_isOf_12 (by decide)
theorem c_X3_isOf (n : Nat) (M : Mem) (a1 : Nat) : ∀ res : Int × Mem, m_X3_isOf n M a1 = some res → CTi none yX3_isOf cX3_isOf 3 (some .boolean) 0 [rv 121, rv a1] M res := CTz_of (by decide +kernel) rfl (Nat.le_of_ble_eq_true rfl) rfl (y_X3_isOf n M a1)
def m_X3_turnTo_55 (n : Nat) : Nat → Mem → Int → Rs
  | 0, _, _ => none
  | t + 1, M, a2 => if I32 a2 then (if 64 ≤ a2 then (some (0, M)) else (if 0 ≤ a2 ∧ a2 < 64 then (wr M 126 (Int.toNat a2) (-1) (fun M4 => (m_X3_turnTo_55 n t) M4 (a2 + 1))) else none)) else none
theorem t_X3_turnTo_55 (n : Nat) : ∀ (t : Nat) (M : Mem) (a2 : Int), Y RX3 cX3_turnTo 3 1 3 none 55 [some (rv 121), none, some (iv a2)] [] M (m_X3_turnTo_55 n t M a2) := by
  intro t
  induction t with
  | zero => intro M a2; exact y_none
  | succ t ih =>
    intro M a2
    rewrite [m_X3_turnTo_55]
    refine y_iload_n (pc := 55) dX3_turnTo_55 rfl ?_
    refine y_bipush (pc := 56) dX3_turnTo_56 (by decide) ?_
    refine y_gd (fun h1 => ?_)
    refine y_icmp_ge (off := 16) (tgt := 74) (pc := 58) dX3_turnTo_58 (by decide) h1 (by decide) (fun h2 => ?_) (fun h2 => ?_)
    · exact y_vret (pc := 74) dX3_turnTo_74
    · refine y_aload_n (pc := 61) dX3_turnTo_61 rfl ?_
      refine y_getref (pc := 62) (x := 126) g_X3_28 dX3_turnTo_62 ?_
      refine y_iload_n (pc := 65) dX3_turnTo_65 rfl ?_
      refine y_iconst (pc := 66) dX3_turnTo_66 ?_
      refine y_gd (fun h3 => ?_)
      refine y_iastw (pc := 67) dX3_turnTo_67 ar_126 h3 (fun M4 => ?_)
      refine y_iinc (L' := [some (rv 121), none, some (iv (a2 + 1))]) (pc := 68) dX3_turnTo_68 rfl (by decide) rfl rfl ?_
      refine y_goto (tgt := 55) (pc := 71) dX3_turnTo_71 (by decide) ?_
      exact y_sub (ls_s (ls_n (ls_s ls_0))) (ih M4 (a2 + 1))
def m_X3_turnTo (n : Nat) (M : Mem) (a1 : Nat) : Rs := if isW a1 then (cpw M (a1 + 1) (Int.toNat 0) 122 (Int.toNat 0) (Int.toNat 6) (fun M5 => cpw M5 (a1 + 2) (Int.toNat 0) 123 (Int.toNat 0) (Int.toNat 6) (fun M6 => cpw M6 (a1 + 3) (Int.toNat 0) 124 (Int.toNat 0) (Int.toNat 6) (fun M7 => wr M7 121 3 (rd M7 a1 3) (fun M8 => m_X3_turnTo_55 n n M8 0))))) else none
theorem y_X3_turnTo (n : Nat) (M : Mem) (a1 : Nat) : Y RX3 cX3_turnTo 3 1 3 none 0 [some (rv 121), some (rv a1), none] [] M (m_X3_turnTo n M a1) := by
  unfold m_X3_turnTo
  refine y_gd (fun ha1 => ?_)
  refine y_aload_n (pc := 0) dX3_turnTo_0 rfl ?_
  refine y_getref (pc := 1) (x := (a1 + 1)) (g_X3_52 ha1) dX3_turnTo_1 ?_
  refine y_iconst (pc := 4) dX3_turnTo_4 ?_
  refine y_aload_n (pc := 5) dX3_turnTo_5 rfl ?_
  refine y_getref (pc := 6) (x := 122) g_X3_9 dX3_turnTo_6 ?_
  refine y_iconst (pc := 9) dX3_turnTo_9 ?_
  refine y_bipush (pc := 10) dX3_turnTo_10 (by decide) ?_
  refine y_copyw (pc := 12) l_X3_55 dX3_turnTo_12 (ar_w1 ha1) ar_122 (by decide) (Nat.le_of_ble_eq_true rfl) (by decide) (fun M5 => ?_)
  refine y_aload_n (pc := 15) dX3_turnTo_15 rfl ?_
  refine y_getref (pc := 16) (x := (a1 + 2)) (g_X3_53 ha1) dX3_turnTo_16 ?_
  refine y_iconst (pc := 19) dX3_turnTo_19 ?_
  refine y_aload_n (pc := 20) dX3_turnTo_20 rfl ?_
  refine y_getref (pc := 21) (x := 123) g_X3_15 dX3_turnTo_21 ?_
  refine y_iconst (pc := 24) dX3_turnTo_24 ?_
  refine y_bipush (pc := 25) dX3_turnTo_25 (by decide) ?_
  refine y_copyw (pc := 27) l_X3_55 dX3_turnTo_27 (ar_w2 ha1) ar_123 (by decide) (Nat.le_of_ble_eq_true rfl) (by decide) (fun M6 => ?_)
  refine y_aload_n (pc := 30) dX3_turnTo_30 rfl ?_
  refine y_getref (pc := 31) (x := (a1 + 3)) (g_X3_54 ha1) dX3_turnTo_31 ?_
  refine y_iconst (pc := 34) dX3_turnTo_34 ?_
  refine y_aload_n (pc := 35) dX3_turnTo_35 rfl ?_
  refine y_getref (pc := 36) (x := 124) g_X3_18 dX3_turnTo_36 ?_
  refine y_iconst (pc := 39) dX3_turnTo_39 ?_
  refine y_bipush (pc := 40) dX3_turnTo_40 (by decide) ?_
  refine y_copyw (pc := 42) l_X3_55 dX3_turnTo_42 (ar_w3 ha1) ar_124 (by decide) (Nat.le_of_ble_eq_true rfl) (by decide) (fun M7 => ?_)
  refine y_aload_n (pc := 45) dX3_turnTo_45 rfl ?_
  refine y_aload_n (pc := 46) dX3_turnTo_46 rfl ?_
  refine y_getint (pc := 47) (g_X3_49 ha1) dX3_turnTo_47 ?_
  refine y_putintw (pc := 50) pf_X3_21 dX3_turnTo_50 (fun M8 => ?_)
  refine y_iconst (pc := 53) dX3_turnTo_53 ?_
  refine y_istore_n (L' := [some (rv 121), some (rv a1), some (iv 0)]) (pc := 54) dX3_turnTo_54 (by decide) rfl rfl ?_
  exact y_sub (ls_s (ls_n (ls_s ls_0))) (t_X3_turnTo_55 n n M8 0)
theorem c_X3_turnTo (n : Nat) (M : Mem) (a1 : Nat) : ∀ res : Int × Mem, m_X3_turnTo n M a1 = some res → CTv none yX3_turnTo cX3_turnTo 3 1 [rv 121, rv a1] M res := CTv_of (by decide +kernel) rfl (Nat.le_of_ble_eq_true rfl) rfl (y_X3_turnTo n M a1)
def m_X3_rowOf_37 (n : Nat) : Nat → Mem → Int → Int → Int → Int → Rs
  | 0, _, _, _, _, _ => none
  | t + 1, M, a2, a3, a4, a5 => if I32 a5 then (if 24 ≤ a5 then (if 0 ≤ a3 ∧ a3 < 64 then (wr M 126 (Int.toNat a3) a2 (fun M4 => some (a4, M4))) else none) else (bd (m_X3_airAt n M a5 a2) (fun r6 M5 => if 0 ≤ (a4 + a5) ∧ (a4 + a5) < 1536 then (wr M5 125 (Int.toNat (a4 + a5)) r6 (fun M8 => (m_X3_rowOf_37 n t) M8 a2 a3 a4 (a5 + 1))) else none))) else none
theorem t_X3_rowOf_37 (n : Nat) : ∀ (t : Nat) (M : Mem) (a2 : Int) (a3 : Int) (a4 : Int) (a5 : Int), Y RX3 cX3_rowOf 6 2 0 none 37 [some (rv 121), none, some (iv a2), some (iv a3), some (iv a4), some (iv a5)] [] M (m_X3_rowOf_37 n t M a2 a3 a4 a5) := by
  intro t
  induction t with
  | zero => intro M a2 a3 a4 a5; exact y_none
  | succ t ih =>
    intro M a2 a3 a4 a5
    rewrite [m_X3_rowOf_37]
    refine y_iload (pc := 37) dX3_rowOf_37 rfl ?_
    refine y_bipush (pc := 39) dX3_rowOf_39 (by decide) ?_
    refine y_gd (fun h1 => ?_)
    refine y_icmp_ge (off := 26) (tgt := 67) (pc := 41) dX3_rowOf_41 (by decide) h1 (by decide) (fun h2 => ?_) (fun h2 => ?_)
    · refine y_aload_n (pc := 67) dX3_rowOf_67 rfl ?_
      refine y_getref (pc := 68) (x := 126) g_X3_28 dX3_rowOf_68 ?_
      refine y_iload_n (pc := 71) dX3_rowOf_71 rfl ?_
      refine y_iload_n (pc := 72) dX3_rowOf_72 rfl ?_
      refine y_gd (fun h3 => ?_)
      refine y_iastw (pc := 73) dX3_rowOf_73 ar_126 h3 (fun M4 => ?_)
      refine y_iload (pc := 74) dX3_rowOf_74 rfl ?_
      exact y_iret (pc := 76) dX3_rowOf_76
    · refine y_aload_n (pc := 44) dX3_rowOf_44 rfl ?_
      refine y_getref (pc := 45) (x := 125) g_X3_25 dX3_rowOf_45 ?_
      refine y_iload (pc := 48) dX3_rowOf_48 rfl ?_
      refine y_iload (pc := 50) dX3_rowOf_50 rfl ?_
      refine y_iadd (pc := 52) dX3_rowOf_52 ?_
      refine y_aload_n (pc := 53) dX3_rowOf_53 rfl ?_
      refine y_iload (pc := 54) dX3_rowOf_54 rfl ?_
      refine y_iload_n (pc := 56) dX3_rowOf_56 rfl ?_
      refine y_callVi (pc := 57) v_X3_airAt l_X3_45 dX3_rowOf_57 (c_X3_airAt n _ _ _) (fun _ h => nomatch h) rfl rc_X3 rfl (by decide) (by decide) (Nat.le_of_ble_eq_true rfl) (fun r6 M5 _ => ?_)
      refine y_gd (fun h7 => ?_)
      refine y_iastw (pc := 60) dX3_rowOf_60 ar_125 h7 (fun M8 => ?_)
      refine y_iinc (L' := [some (rv 121), none, some (iv a2), some (iv a3), some (iv a4), some (iv (a5 + 1))]) (pc := 61) dX3_rowOf_61 rfl (by decide) rfl rfl ?_
      refine y_goto (tgt := 37) (pc := 64) dX3_rowOf_64 (by decide) ?_
      exact y_sub (ls_s (ls_n (ls_s (ls_s (ls_s (ls_s ls_0)))))) (ih M8 a2 a3 a4 (a5 + 1))
def m_X3_rowOf_13 (n : Nat) (M : Mem) (a2 : Int) : Rs := if 0 ≤ (bAnd a2 63) ∧ (bAnd a2 63) < 64 then (if I32 a2 then (if (rd M 126 (Int.toNat (bAnd a2 63))) = a2 then (some (((bAnd a2 63) * 24), M)) else (m_X3_rowOf_37 n n M a2 (bAnd a2 63) ((bAnd a2 63) * 24) 0)) else none) else none
theorem t_X3_rowOf_13 (n : Nat) (M : Mem) (a2 : Int) : Y RX3 cX3_rowOf 6 2 0 none 13 [some (rv 121), none, some (iv a2), none, none, none] [] M (m_X3_rowOf_13 n M a2) := by
  unfold m_X3_rowOf_13
  refine y_iload_n (pc := 13) dX3_rowOf_13 rfl ?_
  refine y_bipush (pc := 14) dX3_rowOf_14 (by decide) ?_
  refine y_iand (pc := 16) dX3_rowOf_16 ?_
  refine y_istore_n (L' := [some (rv 121), none, some (iv a2), some (iv (bAnd a2 63)), none, none]) (pc := 17) dX3_rowOf_17 (by decide) rfl rfl ?_
  refine y_iload_n (pc := 18) dX3_rowOf_18 rfl ?_
  refine y_bipush (pc := 19) dX3_rowOf_19 (by decide) ?_
  refine y_imul (pc := 21) dX3_rowOf_21 ?_
  refine y_istore (L' := [some (rv 121), none, some (iv a2), some (iv (bAnd a2 63)), some (iv ((bAnd a2 63) * 24)), none]) (pc := 22) dX3_rowOf_22 (by decide) rfl rfl ?_
  refine y_aload_n (pc := 24) dX3_rowOf_24 rfl ?_
  refine y_getref (pc := 25) (x := 126) g_X3_28 dX3_rowOf_25 ?_
  refine y_iload_n (pc := 28) dX3_rowOf_28 rfl ?_
  refine y_gd (fun h9 => ?_)
  refine y_iald (pc := 29) dX3_rowOf_29 ar_126 h9 ?_
  refine y_iload_n (pc := 30) dX3_rowOf_30 rfl ?_
  refine y_gd (fun h10 => ?_)
  refine y_icmp_eq (off := 43) (tgt := 74) (pc := 31) dX3_rowOf_31 (by decide) (rd_rng _ _ _) h10 (fun h11 => ?_) (fun h11 => ?_)
  · refine y_iload (pc := 74) dX3_rowOf_74 rfl ?_
    exact y_iret (pc := 76) dX3_rowOf_76
  · refine y_iconst (pc := 34) dX3_rowOf_34 ?_
    refine y_istore (L' := [some (rv 121), none, some (iv a2), some (iv (bAnd a2 63)), some (iv ((bAnd a2 63) * 24)), some (iv 0)]) (pc := 35) dX3_rowOf_35 (by decide) rfl rfl ?_
    exact y_sub (ls_s (ls_n (ls_s (ls_s (ls_s (ls_s ls_0)))))) (t_X3_rowOf_37 n n M a2 (bAnd a2 63) ((bAnd a2 63) * 24) 0)
def m_X3_rowOf (n : Nat) (M : Mem) (a1 : Nat) (a2 : Int) : Rs := if isW a1 then (bd (m_X3_isOf n M a1) (fun r13 M12 => if I32 r13 then (if r13 = 0 then (bd (m_X3_turnTo n M12 a1) (fun _ M16 => m_X3_rowOf_13 n M16 a2)) else (m_X3_rowOf_13 n M12 a2)) else none)) else none
theorem y_X3_rowOf (n : Nat) (M : Mem) (a1 : Nat) (a2 : Int) : Y RX3 cX3_rowOf 6 2 0 none 0 [some (rv 121), some (rv a1), some (iv a2), none, none, none] [] M (m_X3_rowOf n M a1 a2) := by
  unfold m_X3_rowOf
  refine y_gd (fun ha1 => ?_)
  refine y_aload_n (pc := 0) dX3_rowOf_0 rfl ?_
  refine y_aload_n (pc := 1) dX3_rowOf_1 rfl ?_
  refine y_callVi (pc := 2) v_X3_isOf l_X3_37 dX3_rowOf_2 (c_X3_isOf n _ _) (fun _ h => nomatch h) rfl rc_X3 rfl (by decide) (by decide) (Nat.le_of_ble_eq_true rfl) (fun r13 M12 _ => ?_)
  refine y_gd (fun h14 => ?_)
  refine y_if_ne (off := 8) (tgt := 13) (pc := 5) dX3_rowOf_5 (by decide) h14 (fun h15 => ?_) (fun h15 => ?_)
  · exact y_sub (ls_s (ls_n (ls_s (ls_n (ls_n (ls_n ls_0)))))) (t_X3_rowOf_13 n M12 a2)
  · refine y_aload_n (pc := 8) dX3_rowOf_8 rfl ?_
    refine y_aload_n (pc := 9) dX3_rowOf_9 rfl ?_
    refine y_callVv (pc := 10) v_X3_turnTo l_X3_41 dX3_rowOf_10 (c_X3_turnTo n _ _) (fun _ h => nomatch h) rfl rc_X3 rfl (by decide) (by decide) (Nat.le_of_ble_eq_true rfl) (fun _ M16 _ => ?_)
    exact y_sub (ls_s (ls_n (ls_s (ls_n (ls_n (ls_n ls_0)))))) (t_X3_rowOf_13 n M16 a2)
theorem c_X3_rowOf (n : Nat) (M : Mem) (a1 : Nat) (a2 : Int) : ∀ res : Int × Mem, m_X3_rowOf n M a1 a2 = some res → CTi none yX3_rowOf cX3_rowOf 6 (some .int) 2 [rv 121, rv a1, iv a2] M res := CTi_of (by decide +kernel) rfl (Nat.le_of_ble_eq_true rfl) rfl (y_X3_rowOf n M a1 a2)
def m_X0_look (n : Nat) (M : Mem) : Rs := bd (m_X3_rowOf n M 22 (rd M 22 13)) (fun r2 M1 => wr M1 129 2 r2 (fun M3 => some (0, M3)))
theorem y_X0_look (n : Nat) (M : Mem) : Y RX0 cX0_look 1 3 3 none 0 [some (rv 129)] [] M (m_X0_look n M) := by
  unfold m_X0_look
  refine y_aload_n (pc := 0) dX0_look_0 rfl ?_
  refine y_aload_n (pc := 1) dX0_look_1 rfl ?_
  refine y_getref (pc := 2) (x := 121) g_X0_21 dX0_look_2 ?_
  refine y_aload_n (pc := 5) dX0_look_5 rfl ?_
  refine y_getref (pc := 6) (x := 22) g_X0_12 dX0_look_6 ?_
  refine y_aload_n (pc := 9) dX0_look_9 rfl ?_
  refine y_getref (pc := 10) (x := 22) g_X0_12 dX0_look_10 ?_
  refine y_getint (pc := 13) (g_X0_43 (by decide)) dX0_look_13 ?_
  refine y_callVi (pc := 16) v_X3_rowOf l_X0_46 dX0_look_16 (c_X3_rowOf n _ _ _) (fun _ h => nomatch h) rfl rc_X3 rfl (by decide) (by decide) (Nat.le_of_ble_eq_true rfl) (fun r2 M1 _ => ?_)
  refine y_putintw (pc := 19) pf_X0_25 dX0_look_19 (fun M3 => ?_)
  exact y_vret (pc := 22) dX0_look_22
theorem c_X0_look (n : Nat) (M : Mem) : ∀ res : Int × Mem, m_X0_look n M = some res → CTv none yX0_look cX0_look 1 3 [rv 129] M res := CTv_of (by decide +kernel) rfl (Nat.le_of_ble_eq_true rfl) rfl (y_X0_look n M)
def m_X4_become (n : Nat) (M : Mem) (a0 : Nat) (a1 : Nat) : Rs := if isW a0 then (if isW a1 then (cpw M (a1 + 1) (Int.toNat 0) (a0 + 1) (Int.toNat 0) (Int.toNat 6) (fun M1 => cpw M1 (a1 + 2) (Int.toNat 0) (a0 + 2) (Int.toNat 0) (Int.toNat 6) (fun M2 => cpw M2 (a1 + 3) (Int.toNat 0) (a0 + 3) (Int.toNat 0) (Int.toNat 6) (fun M3 => wr M3 a0 3 (rd M3 a1 3) (fun M4 => cpw M4 (a1 + 4) (Int.toNat 0) (a0 + 4) (Int.toNat 0) (Int.toNat 8) (fun M5 => cpw M5 (a1 + 5) (Int.toNat 0) (a0 + 5) (Int.toNat 0) (Int.toNat 8) (fun M6 => cpw M6 (a1 + 6) (Int.toNat 0) (a0 + 6) (Int.toNat 0) (Int.toNat 8) (fun M7 => wr M7 a0 7 (rd M7 a1 7) (fun M8 => cpw M8 (a1 + 7) (Int.toNat 0) (a0 + 7) (Int.toNat 0) (Int.toNat 5) (fun M9 => cpw M9 (a1 + 8) (Int.toNat 0) (a0 + 8) (Int.toNat 0) (Int.toNat 5) (fun M10 => cpw M10 (a1 + 9) (Int.toNat 0) (a0 + 9) (Int.toNat 0) (Int.toNat 5) (fun M11 => cpw M11 (a1 + 10) (Int.toNat 0) (a0 + 10) (Int.toNat 0) (Int.toNat 5) (fun M12 => wr M12 a0 12 (rd M12 a1 12) (fun M13 => wr M13 a0 13 (rd M13 a1 13) (fun M14 => wr M14 a0 14 (rd M14 a1 14) (fun M15 => some (0, M15))))))))))))))))) else none) else none
theorem y_X4_become (n : Nat) (M : Mem) (a0 : Nat) (a1 : Nat) : Y RX4 cX4_become 2 1 3 none 0 [some (rv a0), some (rv a1)] [] M (m_X4_become n M a0 a1) := by
  unfold m_X4_become
  refine y_gd (fun ha0 => ?_)
  refine y_gd (fun ha1 => ?_)
  refine y_aload_n (pc := 0) dX4_become_0 rfl ?_
  refine y_getref (pc := 1) (x := (a1 + 1)) (g_X4_9 ha1) dX4_become_1 ?_
  refine y_iconst (pc := 4) dX4_become_4 ?_
  refine y_aload_n (pc := 5) dX4_become_5 rfl ?_
  refine y_getref (pc := 6) (x := (a0 + 1)) (g_X4_9 ha0) dX4_become_6 ?_
  refine y_iconst (pc := 9) dX4_become_9 ?_
  refine y_bipush (pc := 10) dX4_become_10 (by decide) ?_
  refine y_copyw (pc := 12) l_X4_58 dX4_become_12 (ar_w1 ha1) (ar_w1 ha0) (by decide) (Nat.le_of_ble_eq_true rfl) (by decide) (fun M1 => ?_)
  refine y_aload_n (pc := 15) dX4_become_15 rfl ?_
  refine y_getref (pc := 16) (x := (a1 + 2)) (g_X4_15 ha1) dX4_become_16 ?_
  refine y_iconst (pc := 19) dX4_become_19 ?_
  refine y_aload_n (pc := 20) dX4_become_20 rfl ?_
  refine y_getref (pc := 21) (x := (a0 + 2)) (g_X4_15 ha0) dX4_become_21 ?_
  refine y_iconst (pc := 24) dX4_become_24 ?_
  refine y_bipush (pc := 25) dX4_become_25 (by decide) ?_
  refine y_copyw (pc := 27) l_X4_58 dX4_become_27 (ar_w2 ha1) (ar_w2 ha0) (by decide) (Nat.le_of_ble_eq_true rfl) (by decide) (fun M2 => ?_)
  refine y_aload_n (pc := 30) dX4_become_30 rfl ?_
  refine y_getref (pc := 31) (x := (a1 + 3)) (g_X4_18 ha1) dX4_become_31 ?_
  refine y_iconst (pc := 34) dX4_become_34 ?_
  refine y_aload_n (pc := 35) dX4_become_35 rfl ?_
  refine y_getref (pc := 36) (x := (a0 + 3)) (g_X4_18 ha0) dX4_become_36 ?_
  refine y_iconst (pc := 39) dX4_become_39 ?_
  refine y_bipush (pc := 40) dX4_become_40 (by decide) ?_
  refine y_copyw (pc := 42) l_X4_58 dX4_become_42 (ar_w3 ha1) (ar_w3 ha0) (by decide) (Nat.le_of_ble_eq_true rfl) (by decide) (fun M3 => ?_)
  refine y_aload_n (pc := 45) dX4_become_45 rfl ?_
  refine y_aload_n (pc := 46) dX4_become_46 rfl ?_
  refine y_getint (pc := 47) (g_X4_21 ha1) dX4_become_47 ?_
  refine y_putintw (pc := 50) (pf_X4_21 ha0) dX4_become_50 (fun M4 => ?_)
  refine y_aload_n (pc := 53) dX4_become_53 rfl ?_
  refine y_getref (pc := 54) (x := (a1 + 4)) (g_X4_25 ha1) dX4_become_54 ?_
  refine y_iconst (pc := 57) dX4_become_57 ?_
  refine y_aload_n (pc := 58) dX4_become_58 rfl ?_
  refine y_getref (pc := 59) (x := (a0 + 4)) (g_X4_25 ha0) dX4_become_59 ?_
  refine y_iconst (pc := 62) dX4_become_62 ?_
  refine y_bipush (pc := 63) dX4_become_63 (by decide) ?_
  refine y_copyw (pc := 65) l_X4_58 dX4_become_65 (ar_w4 ha1) (ar_w4 ha0) (by decide) (Nat.le_of_ble_eq_true rfl) (by decide) (fun M5 => ?_)
  refine y_aload_n (pc := 68) dX4_become_68 rfl ?_
  refine y_getref (pc := 69) (x := (a1 + 5)) (g_X4_28 ha1) dX4_become_69 ?_
  refine y_iconst (pc := 72) dX4_become_72 ?_
  refine y_aload_n (pc := 73) dX4_become_73 rfl ?_
  refine y_getref (pc := 74) (x := (a0 + 5)) (g_X4_28 ha0) dX4_become_74 ?_
  refine y_iconst (pc := 77) dX4_become_77 ?_
  refine y_bipush (pc := 78) dX4_become_78 (by decide) ?_
  refine y_copyw (pc := 80) l_X4_58 dX4_become_80 (ar_w5 ha1) (ar_w5 ha0) (by decide) (Nat.le_of_ble_eq_true rfl) (by decide) (fun M6 => ?_)
  refine y_aload_n (pc := 83) dX4_become_83 rfl ?_
  refine y_getref (pc := 84) (x := (a1 + 6)) (g_X4_31 ha1) dX4_become_84 ?_
  refine y_iconst (pc := 87) dX4_become_87 ?_
  refine y_aload_n (pc := 88) dX4_become_88 rfl ?_
  refine y_getref (pc := 89) (x := (a0 + 6)) (g_X4_31 ha0) dX4_become_89 ?_
  refine y_iconst (pc := 92) dX4_become_92 ?_
  refine y_bipush (pc := 93) dX4_become_93 (by decide) ?_
  refine y_copyw (pc := 95) l_X4_58 dX4_become_95 (ar_w6 ha1) (ar_w6 ha0) (by decide) (Nat.le_of_ble_eq_true rfl) (by decide) (fun M7 => ?_)
  refine y_aload_n (pc := 98) dX4_become_98 rfl ?_
  refine y_aload_n (pc := 99) dX4_become_99 rfl ?_
  refine y_getint (pc := 100) (g_X4_34 ha1) dX4_become_100 ?_
  refine y_putintw (pc := 103) (pf_X4_34 ha0) dX4_become_103 (fun M8 => ?_)
  refine y_aload_n (pc := 106) dX4_become_106 rfl ?_
  refine y_getref (pc := 107) (x := (a1 + 7)) (g_X4_37 ha1) dX4_become_107 ?_
  refine y_iconst (pc := 110) dX4_become_110 ?_
  refine y_aload_n (pc := 111) dX4_become_111 rfl ?_
  refine y_getref (pc := 112) (x := (a0 + 7)) (g_X4_37 ha0) dX4_become_112 ?_
  refine y_iconst (pc := 115) dX4_become_115 ?_
  refine y_iconst (pc := 116) dX4_become_116 ?_
  refine y_copyw (pc := 117) l_X4_58 dX4_become_117 (ar_w7 ha1) (ar_w7 ha0) (by decide) (Nat.le_of_ble_eq_true rfl) (by decide) (fun M9 => ?_)
  refine y_aload_n (pc := 120) dX4_become_120 rfl ?_
  refine y_getref (pc := 121) (x := (a1 + 8)) (g_X4_40 ha1) dX4_become_121 ?_
  refine y_iconst (pc := 124) dX4_become_124 ?_
  refine y_aload_n (pc := 125) dX4_become_125 rfl ?_
  refine y_getref (pc := 126) (x := (a0 + 8)) (g_X4_40 ha0) dX4_become_126 ?_
  refine y_iconst (pc := 129) dX4_become_129 ?_
  refine y_iconst (pc := 130) dX4_become_130 ?_
  refine y_copyw (pc := 131) l_X4_58 dX4_become_131 (ar_w8 ha1) (ar_w8 ha0) (by decide) (Nat.le_of_ble_eq_true rfl) (by decide) (fun M10 => ?_)
  refine y_aload_n (pc := 134) dX4_become_134 rfl ?_
  refine y_getref (pc := 135) (x := (a1 + 9)) (g_X4_43 ha1) dX4_become_135 ?_
  refine y_iconst (pc := 138) dX4_become_138 ?_
  refine y_aload_n (pc := 139) dX4_become_139 rfl ?_
  refine y_getref (pc := 140) (x := (a0 + 9)) (g_X4_43 ha0) dX4_become_140 ?_
  refine y_iconst (pc := 143) dX4_become_143 ?_
  refine y_iconst (pc := 144) dX4_become_144 ?_
  refine y_copyw (pc := 145) l_X4_58 dX4_become_145 (ar_w9 ha1) (ar_w9 ha0) (by decide) (Nat.le_of_ble_eq_true rfl) (by decide) (fun M11 => ?_)
  refine y_aload_n (pc := 148) dX4_become_148 rfl ?_
  refine y_getref (pc := 149) (x := (a1 + 10)) (g_X4_46 ha1) dX4_become_149 ?_
  refine y_iconst (pc := 152) dX4_become_152 ?_
  refine y_aload_n (pc := 153) dX4_become_153 rfl ?_
  refine y_getref (pc := 154) (x := (a0 + 10)) (g_X4_46 ha0) dX4_become_154 ?_
  refine y_iconst (pc := 157) dX4_become_157 ?_
  refine y_iconst (pc := 158) dX4_become_158 ?_
  refine y_copyw (pc := 159) l_X4_58 dX4_become_159 (ar_w10 ha1) (ar_w10 ha0) (by decide) (Nat.le_of_ble_eq_true rfl) (by decide) (fun M12 => ?_)
  refine y_aload_n (pc := 162) dX4_become_162 rfl ?_
  refine y_aload_n (pc := 163) dX4_become_163 rfl ?_
  refine y_getint (pc := 164) (g_X4_49 ha1) dX4_become_164 ?_
  refine y_putintw (pc := 167) (pf_X4_49 ha0) dX4_become_167 (fun M13 => ?_)
  refine y_aload_n (pc := 170) dX4_become_170 rfl ?_
  refine y_aload_n (pc := 171) dX4_become_171 rfl ?_
  refine y_getint (pc := 172) (g_X4_52 ha1) dX4_become_172 ?_
  refine y_putintw (pc := 175) (pf_X4_52 ha0) dX4_become_175 (fun M14 => ?_)
  refine y_aload_n (pc := 178) dX4_become_178 rfl ?_
  refine y_aload_n (pc := 179) dX4_become_179 rfl ?_
  refine y_getint (pc := 180) (g_X4_55 ha1) dX4_become_180 ?_
  refine y_putintw (pc := 183) (pf_X4_55 ha0) dX4_become_183 (fun M15 => ?_)
  exact y_vret (pc := 186) dX4_become_186
theorem c_X4_become (n : Nat) (M : Mem) (a0 : Nat) (a1 : Nat) : ∀ res : Int × Mem, m_X4_become n M a0 a1 = some res → CTv none yX4_become cX4_become 2 1 [rv a0, rv a1] M res := CTv_of (by decide +kernel) rfl (Nat.le_of_ble_eq_true rfl) rfl (y_X4_become n M a0 a1)
def m_X0_begin (n : Nat) (M : Mem) (a1 : Nat) : Rs := if isW a1 then (bd (m_X4_become n M 22 a1) (fun _ M1 => wr M1 129 3 (-1) (fun M2 => wr M2 129 4 0 (fun M3 => bd (m_X0_look n M3) (fun _ M4 => some (0, M4)))))) else none
theorem y_X0_begin (n : Nat) (M : Mem) (a1 : Nat) : Y RX0 cX0_begin 2 4 3 none 0 [some (rv 129), some (rv a1)] [] M (m_X0_begin n M a1) := by
  unfold m_X0_begin
  refine y_gd (fun ha1 => ?_)
  refine y_aload_n (pc := 0) dX0_begin_0 rfl ?_
  refine y_getref (pc := 1) (x := 22) g_X0_12 dX0_begin_1 ?_
  refine y_aload_n (pc := 4) dX0_begin_4 rfl ?_
  refine y_callVv (pc := 5) v_X4_become l_X0_36 dX0_begin_5 (c_X4_become n _ _ _) (fun _ h => nomatch h) rfl (rc_X4 (by decide)) rfl (by decide) (by decide) (Nat.le_of_ble_eq_true rfl) (fun _ M1 _ => ?_)
  refine y_aload_n (pc := 8) dX0_begin_8 rfl ?_
  refine y_iconst (pc := 9) dX0_begin_9 ?_
  refine y_putintw (pc := 10) pf_X0_29 dX0_begin_10 (fun M2 => ?_)
  refine y_aload_n (pc := 13) dX0_begin_13 rfl ?_
  refine y_iconst (pc := 14) dX0_begin_14 ?_
  refine y_putboolw (pc := 15) pf_X0_32 (by decide) dX0_begin_15 (fun M3 => ?_)
  refine y_aload_n (pc := 18) dX0_begin_18 rfl ?_
  refine y_callVv (pc := 19) v_X0_look l_X0_40 dX0_begin_19 (c_X0_look n _) (fun _ h => nomatch h) rfl rc_X0 rfl (by decide) (by decide) (Nat.le_of_ble_eq_true rfl) (fun _ M4 _ => ?_)
  exact y_vret (pc := 22) dX0_begin_22
theorem c_X0_begin (n : Nat) (M : Mem) (a1 : Nat) : ∀ res : Int × Mem, m_X0_begin n M a1 = some res → CTv none yX0_begin cX0_begin 2 4 [rv 129, rv a1] M res := CTv_of (by decide +kernel) rfl (Nat.le_of_ble_eq_true rfl) rfl (y_X0_begin n M a1)
def m_X0_airOn (n : Nat) (M : Mem) (a1 : Int) : Rs := if (rd M 129 4) = 0 then (if I32 a1 then (if a1 < 0 then (some (0, M)) else (if a1 < 24 then (if 0 ≤ ((rd M 129 2) + a1) ∧ ((rd M 129 2) + a1) < 1536 then (some ((rd M 125 (Int.toNat ((rd M 129 2) + a1))), M)) else none) else (some (0, M)))) else none) else (some (0, M))
theorem y_X0_airOn (n : Nat) (M : Mem) (a1 : Int) : Y RX0 cX0_airOn 2 0 0 none 0 [some (rv 129), some (iv a1)] [] M (m_X0_airOn n M a1) := by
  unfold m_X0_airOn
  refine y_aload_n (pc := 0) dX0_airOn_0 rfl ?_
  refine y_getint (pc := 1) g_X0_32 dX0_airOn_1 ?_
  refine y_if_ne (off := 13) (tgt := 17) (pc := 4) dX0_airOn_4 (by decide) (rd_rng _ _ _) (fun h1 => ?_) (fun h1 => ?_)
  · refine y_iconst (pc := 17) dX0_airOn_17 ?_
    refine y_goto (tgt := 35) (pc := 18) dX0_airOn_18 (by decide) ?_
    exact y_iret (pc := 35) dX0_airOn_35
  · refine y_iload_n (pc := 7) dX0_airOn_7 rfl ?_
    refine y_gd (fun h2 => ?_)
    refine y_if_lt (off := 9) (tgt := 17) (pc := 8) dX0_airOn_8 (by decide) h2 (fun h3 => ?_) (fun h3 => ?_)
    · refine y_iconst (pc := 17) dX0_airOn_17 ?_
      refine y_goto (tgt := 35) (pc := 18) dX0_airOn_18 (by decide) ?_
      exact y_iret (pc := 35) dX0_airOn_35
    · refine y_iload_n (pc := 11) dX0_airOn_11 rfl ?_
      refine y_bipush (pc := 12) dX0_airOn_12 (by decide) ?_
      refine y_icmp_lt (off := 7) (tgt := 21) (pc := 14) dX0_airOn_14 (by decide) h2 (by decide) (fun h4 => ?_) (fun h4 => ?_)
      · refine y_aload_n (pc := 21) dX0_airOn_21 rfl ?_
        refine y_getref (pc := 22) (x := 121) g_X0_21 dX0_airOn_22 ?_
        refine y_getref (pc := 25) (x := 125) g_X0_50 dX0_airOn_25 ?_
        refine y_aload_n (pc := 28) dX0_airOn_28 rfl ?_
        refine y_getint (pc := 29) g_X0_25 dX0_airOn_29 ?_
        refine y_iload_n (pc := 32) dX0_airOn_32 rfl ?_
        refine y_iadd (pc := 33) dX0_airOn_33 ?_
        refine y_gd (fun h5 => ?_)
        refine y_iald (pc := 34) dX0_airOn_34 ar_125 h5 ?_
        exact y_iret (pc := 35) dX0_airOn_35
      · refine y_iconst (pc := 17) dX0_airOn_17 ?_
        refine y_goto (tgt := 35) (pc := 18) dX0_airOn_18 (by decide) ?_
        exact y_iret (pc := 35) dX0_airOn_35
theorem c_X0_airOn (n : Nat) (M : Mem) (a1 : Int) : ∀ res : Int × Mem, m_X0_airOn n M a1 = some res → CTi none yX0_airOn cX0_airOn 2 (some .int) 0 [rv 129, iv a1] M res := CTi_of (by decide +kernel) rfl (Nat.le_of_ble_eq_true rfl) rfl (y_X0_airOn n M a1)
def m_X1_steam (n : Nat) (M : Mem) (a0 : Int) (a1 : Int) : Rs := if I32 a0 then (if a0 = 3 then (some (5, M)) else (if a0 = 4 then (if I32 a1 then (some (((Int.tdiv a1 2) + 5), M)) else none) else (if a0 = 5 then (some (0, M)) else (if a0 = 6 then (some (3, M)) else (some (0, M)))))) else none
theorem y_X1_steam (n : Nat) (M : Mem) (a0 : Int) (a1 : Int) : Y RX1 cX1_steam 2 0 0 none 0 [some (iv a0), some (iv a1)] [] M (m_X1_steam n M a0 a1) := by
  unfold m_X1_steam
  refine y_iload_n (pc := 0) dX1_steam_0 rfl ?_
  refine y_gd (fun h1 => ?_)
  refine y_br (fun h2 => ?_) (fun h2 => ?_)
  · refine y_tableIn (off := 31) (tgt := 32) (pc := 1) dX1_steam_1 h2 (by decide) (by decide) (by decide) rfl (by decide) ?_
    refine y_iconst (pc := 32) dX1_steam_32 ?_
    exact y_iret (pc := 33) dX1_steam_33
  · refine y_br (fun h3 => ?_) (fun h3 => ?_)
    · refine y_tableIn (off := 33) (tgt := 34) (pc := 1) dX1_steam_1 h3 (by decide) (by decide) (by decide) rfl (by decide) ?_
      refine y_iload_n (pc := 34) dX1_steam_34 rfl ?_
      refine y_iconst (pc := 35) dX1_steam_35 ?_
      refine y_gd (fun h4 => ?_)
      refine y_idiv (pc := 36) dX1_steam_36 h4 (by decide) (by decide) ?_
      refine y_iconst (pc := 37) dX1_steam_37 ?_
      refine y_iadd (pc := 38) dX1_steam_38 ?_
      exact y_iret (pc := 39) dX1_steam_39
    · refine y_br (fun h5 => ?_) (fun h5 => ?_)
      · refine y_tableIn (off := 41) (tgt := 42) (pc := 1) dX1_steam_1 h5 (by decide) (by decide) (by decide) rfl (by decide) ?_
        refine y_iconst (pc := 42) dX1_steam_42 ?_
        exact y_iret (pc := 43) dX1_steam_43
      · refine y_br (fun h6 => ?_) (fun h6 => ?_)
        · refine y_tableIn (off := 39) (tgt := 40) (pc := 1) dX1_steam_1 h6 (by decide) (by decide) (by decide) rfl (by decide) ?_
          refine y_iconst (pc := 40) dX1_steam_40 ?_
          exact y_iret (pc := 41) dX1_steam_41
        · refine y_tableOut (tgt := 42) (pc := 1) dX1_steam_1 h1 (by omega) (by decide) ?_
          refine y_iconst (pc := 42) dX1_steam_42 ?_
          exact y_iret (pc := 43) dX1_steam_43
theorem c_X1_steam (n : Nat) (M : Mem) (a0 : Int) (a1 : Int) : ∀ res : Int × Mem, m_X1_steam n M a0 a1 = some res → CTi none yX1_steam cX1_steam 2 (some .int) 0 [iv a0, iv a1] M res := CTi_of (by decide +kernel) rfl (Nat.le_of_ble_eq_true rfl) rfl (y_X1_steam n M a0 a1)
end
section
def m_X0_fogOn_21 (n : Nat) : Nat → Mem → Int → Int → Int → Rs
  | 0, _, _, _, _ => none
  | t + 1, M, a1, a2, a3 => if I32 a3 then (if (rd M 22 12) ≤ a3 then (some (a2, M)) else (if 0 ≤ a3 ∧ a3 < 5 then (if I32 a1 then (if (rd M 32 (Int.toNat a3)) = a1 then (bd (m_X1_steam n M (rd M 29 (Int.toNat a3)) (rd M 30 (Int.toNat a3))) (fun r7 M6 => if I32 a2 then (if I32 r7 then ((m_X0_fogOn_21 n t) M6 a1 (mxZ a2 r7) (a3 + 1)) else none) else none)) else ((m_X0_fogOn_21 n t) M a1 a2 (a3 + 1))) else none) else none)) else none
theorem t_X0_fogOn_21 (n : Nat) : ∀ (t : Nat) (M : Mem) (a1 : Int) (a2 : Int) (a3 : Int), Y RX0 cX0_fogOn 4 1 0 none 21 [some (rv 129), some (iv a1), some (iv a2), some (iv a3)] [] M (m_X0_fogOn_21 n t M a1 a2 a3) := by
  intro t
  induction t with
  | zero => intro M a1 a2 a3; exact y_none
  | succ t ih =>
    intro M a1 a2 a3
    rewrite [m_X0_fogOn_21]
    refine y_iload_n (pc := 21) dX0_fogOn_21 rfl ?_
    refine y_aload_n (pc := 22) dX0_fogOn_22 rfl ?_
    refine y_getref (pc := 23) (x := 22) g_X0_12 dX0_fogOn_23 ?_
    refine y_getint (pc := 26) (g_X0_58 (by decide)) dX0_fogOn_26 ?_
    refine y_gd (fun h1 => ?_)
    refine y_icmp_ge (off := 48) (tgt := 77) (pc := 29) dX0_fogOn_29 (by decide) h1 (rd_rng _ _ _) (fun h2 => ?_) (fun h2 => ?_)
    · refine y_iload_n (pc := 77) dX0_fogOn_77 rfl ?_
      exact y_iret (pc := 78) dX0_fogOn_78
    · refine y_aload_n (pc := 32) dX0_fogOn_32 rfl ?_
      refine y_getref (pc := 33) (x := 22) g_X0_12 dX0_fogOn_33 ?_
      refine y_getref (pc := 36) (x := 32) (g_X0_61 (by decide)) dX0_fogOn_36 ?_
      refine y_iload_n (pc := 39) dX0_fogOn_39 rfl ?_
      refine y_gd (fun h3 => ?_)
      refine y_iald (pc := 40) dX0_fogOn_40 ar_32 h3 ?_
      refine y_iload_n (pc := 41) dX0_fogOn_41 rfl ?_
      refine y_gd (fun h4 => ?_)
      refine y_icmp_ne (off := 29) (tgt := 71) (pc := 42) dX0_fogOn_42 (by decide) (rd_rng _ _ _) h4 (fun h5 => ?_) (fun h5 => ?_)
      · refine y_iinc (L' := [some (rv 129), some (iv a1), some (iv a2), some (iv (a3 + 1))]) (pc := 71) dX0_fogOn_71 rfl (by decide) rfl rfl ?_
        refine y_goto (tgt := 21) (pc := 74) dX0_fogOn_74 (by decide) ?_
        exact y_sub (ls_s (ls_s (ls_s (ls_s ls_0)))) (ih M a1 a2 (a3 + 1))
      · refine y_iload_n (pc := 45) dX0_fogOn_45 rfl ?_
        refine y_aload_n (pc := 46) dX0_fogOn_46 rfl ?_
        refine y_getref (pc := 47) (x := 22) g_X0_12 dX0_fogOn_47 ?_
        refine y_getref (pc := 50) (x := 29) (g_X0_64 (by decide)) dX0_fogOn_50 ?_
        refine y_iload_n (pc := 53) dX0_fogOn_53 rfl ?_
        refine y_iald (pc := 54) dX0_fogOn_54 ar_29 h3 ?_
        refine y_aload_n (pc := 55) dX0_fogOn_55 rfl ?_
        refine y_getref (pc := 56) (x := 22) g_X0_12 dX0_fogOn_56 ?_
        refine y_getref (pc := 59) (x := 30) (g_X0_67 (by decide)) dX0_fogOn_59 ?_
        refine y_iload_n (pc := 62) dX0_fogOn_62 rfl ?_
        refine y_iald (pc := 63) dX0_fogOn_63 ar_30 h3 ?_
        refine y_callSi (pc := 64) s_X1_steam l_X0_70 dX0_fogOn_64 (c_X1_steam n _ _ _) (fun _ h => nomatch h) rfl rfl (by decide) (by decide) (Nat.le_of_ble_eq_true rfl) (fun r7 M6 _ => ?_)
        refine y_gd (fun h8 => ?_)
        refine y_gd (fun h9 => ?_)
        refine y_mmaxw (pc := 67) h8 h9 l_X0_76 dX0_fogOn_67 (Nat.le_of_ble_eq_true rfl) (by decide) ?_
        refine y_istore_n (L' := [some (rv 129), some (iv a1), some (iv (mxZ a2 r7)), some (iv a3)]) (pc := 70) dX0_fogOn_70 (by decide) rfl rfl ?_
        refine y_iinc (L' := [some (rv 129), some (iv a1), some (iv (mxZ a2 r7)), some (iv (a3 + 1))]) (pc := 71) dX0_fogOn_71 rfl (by decide) rfl rfl ?_
        refine y_goto (tgt := 21) (pc := 74) dX0_fogOn_74 (by decide) ?_
        exact y_sub (ls_s (ls_s (ls_s (ls_s ls_0)))) (ih M6 a1 (mxZ a2 r7) (a3 + 1))
def m_X0_fogOn_18 (n : Nat) (M : Mem) (a1 : Int) (s0 : Int) : Rs := m_X0_fogOn_21 n n M a1 s0 0
theorem t_X0_fogOn_18 (n : Nat) (M : Mem) (a1 : Int) (s0 : Int) : Y RX0 cX0_fogOn 4 1 0 none 18 [some (rv 129), some (iv a1), none, none] [iv s0] M (m_X0_fogOn_18 n M a1 s0) := by
  unfold m_X0_fogOn_18
  refine y_istore_n (L' := [some (rv 129), some (iv a1), some (iv s0), none]) (pc := 18) dX0_fogOn_18 (by decide) rfl rfl ?_
  refine y_iconst (pc := 19) dX0_fogOn_19 ?_
  refine y_istore_n (L' := [some (rv 129), some (iv a1), some (iv s0), some (iv 0)]) (pc := 20) dX0_fogOn_20 (by decide) rfl rfl ?_
  exact y_sub (ls_s (ls_s (ls_s (ls_s ls_0)))) (t_X0_fogOn_21 n n M a1 s0 0)
def m_X0_fogOn (n : Nat) (M : Mem) (a1 : Int) : Rs := if I32 a1 then (if a1 = (rd M 129 3) then (m_X0_fogOn_18 n M a1 9) else (bd (m_X0_airOn n M a1) (fun r13 M12 => m_X0_fogOn_18 n M12 a1 r13))) else none
theorem y_X0_fogOn (n : Nat) (M : Mem) (a1 : Int) : Y RX0 cX0_fogOn 4 1 0 none 0 [some (rv 129), some (iv a1), none, none] [] M (m_X0_fogOn n M a1) := by
  unfold m_X0_fogOn
  refine y_iload_n (pc := 0) dX0_fogOn_0 rfl ?_
  refine y_aload_n (pc := 1) dX0_fogOn_1 rfl ?_
  refine y_getint (pc := 2) g_X0_29 dX0_fogOn_2 ?_
  refine y_gd (fun h10 => ?_)
  refine y_icmp_ne (off := 8) (tgt := 13) (pc := 5) dX0_fogOn_5 (by decide) h10 (rd_rng _ _ _) (fun h11 => ?_) (fun h11 => ?_)
  · refine y_aload_n (pc := 13) dX0_fogOn_13 rfl ?_
    refine y_iload_n (pc := 14) dX0_fogOn_14 rfl ?_
    refine y_callVi (pc := 15) v_X0_airOn l_X0_54 dX0_fogOn_15 (c_X0_airOn n _ _) (fun _ h => nomatch h) rfl rc_X0 rfl (by decide) (by decide) (Nat.le_of_ble_eq_true rfl) (fun r13 M12 _ => ?_)
    exact y_sub (ls_s (ls_s (ls_n (ls_n ls_0)))) (t_X0_fogOn_18 n M12 a1 r13)
  · refine y_bipush (pc := 8) dX0_fogOn_8 (by decide) ?_
    refine y_goto (tgt := 18) (pc := 10) dX0_fogOn_10 (by decide) ?_
    exact y_sub (ls_s (ls_s (ls_n (ls_n ls_0)))) (t_X0_fogOn_18 n M a1 9)
theorem c_X0_fogOn (n : Nat) (M : Mem) (a1 : Int) : ∀ res : Int × Mem, m_X0_fogOn n M a1 = some res → CTi none yX0_fogOn cX0_fogOn 4 (some .int) 1 [rv 129, iv a1] M res := CTi_of (by decide +kernel) rfl (Nat.le_of_ble_eq_true rfl) rfl (y_X0_fogOn n M a1)
def m_X0_isInFog (n : Nat) (M : Mem) (a1 : Int) : Rs := bd (m_X0_fogOn n M a1) (fun r2 M1 => if I32 r2 then (if r2 < (rd M1 22 14) then (some (0, M1)) else (some (1, M1))) else none)
theorem y_X0_isInFog (n : Nat) (M : Mem) (a1 : Int) : Y RX0 cX0_isInFog 2 2 1 none 0 [some (rv 129), some (iv a1)] [] M (m_X0_isInFog n M a1) := by
  unfold m_X0_isInFog
  refine y_aload_n (pc := 0) dX0_isInFog_0 rfl ?_
  refine y_iload_n (pc := 1) dX0_isInFog_1 rfl ?_
  refine y_callVi (pc := 2) v_X0_fogOn l_X0_81 dX0_isInFog_2 (c_X0_fogOn n _ _) (fun _ h => nomatch h) rfl rc_X0 rfl (by decide) (by decide) (Nat.le_of_ble_eq_true rfl) (fun r2 M1 _ => ?_)
  refine y_aload_n (pc := 5) dX0_isInFog_5 rfl ?_
  refine y_getref (pc := 6) (x := 22) g_X0_12 dX0_isInFog_6 ?_
  refine y_getint (pc := 9) (g_X0_84 (by decide)) dX0_isInFog_9 ?_
  refine y_gd (fun h3 => ?_)
  refine y_icmp_lt (off := 7) (tgt := 19) (pc := 12) dX0_isInFog_12 (by decide) h3 (rd_rng _ _ _) (fun h4 => ?_) (fun h4 => ?_)
  · refine y_iconst (pc := 19) dX0_isInFog_19 ?_
    exact y_zret (pc := 20) dX0_isInFog_20 (by decide)
  · refine y_iconst (pc := 15) dX0_isInFog_15 ?_
    refine y_goto (tgt := 20) (pc := 16) dX0_isInFog_16 (by decide) ?_
    exact y_zret (pc := 20) dX0_isInFog_20 (by decide)
theorem c_X0_isInFog (n : Nat) (M : Mem) (a1 : Int) : ∀ res : Int × Mem, m_X0_isInFog n M a1 = some res → CTi none yX0_isInFog cX0_isInFog 2 (some .boolean) 2 [rv 129, iv a1] M res := CTz_of (by decide +kernel) rfl (Nat.le_of_ble_eq_true rfl) rfl (y_X0_isInFog n M a1)
def m_X0_foggyCells_4 (n : Nat) : Nat → Mem → Int → Int → Rs
  | 0, _, _, _ => none
  | t + 1, M, a1, a2 => if I32 a2 then (if 24 ≤ a2 then (some (a1, M)) else (bd (m_X0_isInFog n M a2) (fun r4 M3 => if I32 r4 then (if r4 = 0 then ((m_X0_foggyCells_4 n t) M3 a1 (a2 + 1)) else ((m_X0_foggyCells_4 n t) M3 (bOr a1 (bShl 1 a2)) (a2 + 1))) else none))) else none
theorem t_X0_foggyCells_4 (n : Nat) : ∀ (t : Nat) (M : Mem) (a1 : Int) (a2 : Int), Y RX0 cX0_foggyCells 3 3 0 none 4 [some (rv 129), some (iv a1), some (iv a2)] [] M (m_X0_foggyCells_4 n t M a1 a2) := by
  intro t
  induction t with
  | zero => intro M a1 a2; exact y_none
  | succ t ih =>
    intro M a1 a2
    rewrite [m_X0_foggyCells_4]
    refine y_iload_n (pc := 4) dX0_foggyCells_4 rfl ?_
    refine y_bipush (pc := 5) dX0_foggyCells_5 (by decide) ?_
    refine y_gd (fun h1 => ?_)
    refine y_icmp_ge (off := 23) (tgt := 30) (pc := 7) dX0_foggyCells_7 (by decide) h1 (by decide) (fun h2 => ?_) (fun h2 => ?_)
    · refine y_iload_n (pc := 30) dX0_foggyCells_30 rfl ?_
      exact y_iret (pc := 31) dX0_foggyCells_31
    · refine y_aload_n (pc := 10) dX0_foggyCells_10 rfl ?_
      refine y_iload_n (pc := 11) dX0_foggyCells_11 rfl ?_
      refine y_callVi (pc := 12) v_X0_isInFog l_X0_87 dX0_foggyCells_12 (c_X0_isInFog n _ _) (fun _ h => nomatch h) rfl rc_X0 rfl (by decide) (by decide) (Nat.le_of_ble_eq_true rfl) (fun r4 M3 _ => ?_)
      refine y_gd (fun h5 => ?_)
      refine y_if_eq (off := 9) (tgt := 24) (pc := 15) dX0_foggyCells_15 (by decide) h5 (fun h6 => ?_) (fun h6 => ?_)
      · refine y_iinc (L' := [some (rv 129), some (iv a1), some (iv (a2 + 1))]) (pc := 24) dX0_foggyCells_24 rfl (by decide) rfl rfl ?_
        refine y_goto (tgt := 4) (pc := 27) dX0_foggyCells_27 (by decide) ?_
        exact y_sub (ls_s (ls_s (ls_s ls_0))) (ih M3 a1 (a2 + 1))
      · refine y_iload_n (pc := 18) dX0_foggyCells_18 rfl ?_
        refine y_iconst (pc := 19) dX0_foggyCells_19 ?_
        refine y_iload_n (pc := 20) dX0_foggyCells_20 rfl ?_
        refine y_ishl (pc := 21) dX0_foggyCells_21 ?_
        refine y_ior (pc := 22) dX0_foggyCells_22 ?_
        refine y_istore_n (L' := [some (rv 129), some (iv (bOr a1 (bShl 1 a2))), some (iv a2)]) (pc := 23) dX0_foggyCells_23 (by decide) rfl rfl ?_
        refine y_iinc (L' := [some (rv 129), some (iv (bOr a1 (bShl 1 a2))), some (iv (a2 + 1))]) (pc := 24) dX0_foggyCells_24 rfl (by decide) rfl rfl ?_
        refine y_goto (tgt := 4) (pc := 27) dX0_foggyCells_27 (by decide) ?_
        exact y_sub (ls_s (ls_s (ls_s ls_0))) (ih M3 (bOr a1 (bShl 1 a2)) (a2 + 1))
def m_X0_foggyCells (n : Nat) (M : Mem) : Rs := m_X0_foggyCells_4 n n M 0 0
theorem y_X0_foggyCells (n : Nat) (M : Mem) : Y RX0 cX0_foggyCells 3 3 0 none 0 [some (rv 129), none, none] [] M (m_X0_foggyCells n M) := by
  unfold m_X0_foggyCells
  refine y_iconst (pc := 0) dX0_foggyCells_0 ?_
  refine y_istore_n (L' := [some (rv 129), some (iv 0), none]) (pc := 1) dX0_foggyCells_1 (by decide) rfl rfl ?_
  refine y_iconst (pc := 2) dX0_foggyCells_2 ?_
  refine y_istore_n (L' := [some (rv 129), some (iv 0), some (iv 0)]) (pc := 3) dX0_foggyCells_3 (by decide) rfl rfl ?_
  exact y_sub (ls_s (ls_s (ls_s ls_0))) (t_X0_foggyCells_4 n n M 0 0)
theorem c_X0_foggyCells (n : Nat) (M : Mem) : ∀ res : Int × Mem, m_X0_foggyCells n M = some res → CTi none yX0_foggyCells cX0_foggyCells 3 (some .int) 3 [rv 129] M res := CTi_of (by decide +kernel) rfl (Nat.le_of_ble_eq_true rfl) rfl (y_X0_foggyCells n M)
def m_X0_dropInTheClear_2 (n : Nat) : Nat → Mem → Int → Rs
  | 0, _, _ => none
  | t + 1, M, a1 => if I32 a1 then (if (rd M 22 7) ≤ a1 then (some (0, M)) else (if 0 ≤ a1 ∧ a1 < 8 then (bd (m_X0_isInFog n M (rd M 27 (Int.toNat a1))) (fun r5 M4 => if I32 r5 then (if r5 = 0 then (wr M4 28 (Int.toNat a1) (-1) (fun M8 => (m_X0_dropInTheClear_2 n t) M8 (a1 + 1))) else ((m_X0_dropInTheClear_2 n t) M4 (a1 + 1))) else none)) else none)) else none
theorem t_X0_dropInTheClear_2 (n : Nat) : ∀ (t : Nat) (M : Mem) (a1 : Int), Y RX0 cX0_dropInTheClear 2 3 3 none 2 [some (rv 129), some (iv a1)] [] M (m_X0_dropInTheClear_2 n t M a1) := by
  intro t
  induction t with
  | zero => intro M a1; exact y_none
  | succ t ih =>
    intro M a1
    rewrite [m_X0_dropInTheClear_2]
    refine y_iload_n (pc := 2) dX0_dropInTheClear_2 rfl ?_
    refine y_aload_n (pc := 3) dX0_dropInTheClear_3 rfl ?_
    refine y_getref (pc := 4) (x := 22) g_X0_12 dX0_dropInTheClear_4 ?_
    refine y_getint (pc := 7) (g_X0_105 (by decide)) dX0_dropInTheClear_7 ?_
    refine y_gd (fun h1 => ?_)
    refine y_icmp_ge (off := 35) (tgt := 45) (pc := 10) dX0_dropInTheClear_10 (by decide) h1 (rd_rng _ _ _) (fun h2 => ?_) (fun h2 => ?_)
    · exact y_vret (pc := 45) dX0_dropInTheClear_45
    · refine y_aload_n (pc := 13) dX0_dropInTheClear_13 rfl ?_
      refine y_aload_n (pc := 14) dX0_dropInTheClear_14 rfl ?_
      refine y_getref (pc := 15) (x := 22) g_X0_12 dX0_dropInTheClear_15 ?_
      refine y_getref (pc := 18) (x := 27) (g_X0_108 (by decide)) dX0_dropInTheClear_18 ?_
      refine y_iload_n (pc := 21) dX0_dropInTheClear_21 rfl ?_
      refine y_gd (fun h3 => ?_)
      refine y_iald (pc := 22) dX0_dropInTheClear_22 ar_27 h3 ?_
      refine y_callVi (pc := 23) v_X0_isInFog l_X0_87 dX0_dropInTheClear_23 (c_X0_isInFog n _ _) (fun _ h => nomatch h) rfl rc_X0 rfl (by decide) (by decide) (Nat.le_of_ble_eq_true rfl) (fun r5 M4 _ => ?_)
      refine y_gd (fun h6 => ?_)
      refine y_if_ne (off := 13) (tgt := 39) (pc := 26) dX0_dropInTheClear_26 (by decide) h6 (fun h7 => ?_) (fun h7 => ?_)
      · refine y_iinc (L' := [some (rv 129), some (iv (a1 + 1))]) (pc := 39) dX0_dropInTheClear_39 rfl (by decide) rfl rfl ?_
        refine y_goto (tgt := 2) (pc := 42) dX0_dropInTheClear_42 (by decide) ?_
        exact y_sub (ls_s (ls_s ls_0)) (ih M4 (a1 + 1))
      · refine y_aload_n (pc := 29) dX0_dropInTheClear_29 rfl ?_
        refine y_getref (pc := 30) (x := 22) g_X0_12 dX0_dropInTheClear_30 ?_
        refine y_getref (pc := 33) (x := 28) (g_X0_111 (by decide)) dX0_dropInTheClear_33 ?_
        refine y_iload_n (pc := 36) dX0_dropInTheClear_36 rfl ?_
        refine y_iconst (pc := 37) dX0_dropInTheClear_37 ?_
        refine y_iastw (pc := 38) dX0_dropInTheClear_38 ar_28 h3 (fun M8 => ?_)
        refine y_iinc (L' := [some (rv 129), some (iv (a1 + 1))]) (pc := 39) dX0_dropInTheClear_39 rfl (by decide) rfl rfl ?_
        refine y_goto (tgt := 2) (pc := 42) dX0_dropInTheClear_42 (by decide) ?_
        exact y_sub (ls_s (ls_s ls_0)) (ih M8 (a1 + 1))
def m_X0_dropInTheClear (n : Nat) (M : Mem) : Rs := m_X0_dropInTheClear_2 n n M 0
theorem y_X0_dropInTheClear (n : Nat) (M : Mem) : Y RX0 cX0_dropInTheClear 2 3 3 none 0 [some (rv 129), none] [] M (m_X0_dropInTheClear n M) := by
  unfold m_X0_dropInTheClear
  refine y_iconst (pc := 0) dX0_dropInTheClear_0 ?_
  refine y_istore_n (L' := [some (rv 129), some (iv 0)]) (pc := 1) dX0_dropInTheClear_1 (by decide) rfl rfl ?_
  exact y_sub (ls_s (ls_s ls_0)) (t_X0_dropInTheClear_2 n n M 0)
theorem c_X0_dropInTheClear (n : Nat) (M : Mem) : ∀ res : Int × Mem, m_X0_dropInTheClear n M = some res → CTv none yX0_dropInTheClear cX0_dropInTheClear 2 3 [rv 129] M res := CTv_of (by decide +kernel) rfl (Nat.le_of_ble_eq_true rfl) rfl (y_X0_dropInTheClear n M)
def m_X0_airiest_4 (n : Nat) : Nat → Mem → Int → Int → Rs
  | 0, _, _, _ => none
  | t + 1, M, a1, a2 => if I32 a2 then (if 24 ≤ a2 then (some (a1, M)) else (bd (m_X0_airOn n M a2) (fun r4 M3 => bd (m_X0_airOn n M3 a1) (fun r6 M5 => if I32 r4 then (if I32 r6 then (if r4 ≤ r6 then ((m_X0_airiest_4 n t) M5 a1 (a2 + 1)) else ((m_X0_airiest_4 n t) M5 a2 (a2 + 1))) else none) else none)))) else none
theorem t_X0_airiest_4 (n : Nat) : ∀ (t : Nat) (M : Mem) (a1 : Int) (a2 : Int), Y RX0 cX0_airiest 3 1 0 none 4 [some (rv 129), some (iv a1), some (iv a2)] [] M (m_X0_airiest_4 n t M a1 a2) := by
  intro t
  induction t with
  | zero => intro M a1 a2; exact y_none
  | succ t ih =>
    intro M a1 a2
    rewrite [m_X0_airiest_4]
    refine y_iload_n (pc := 4) dX0_airiest_4 rfl ?_
    refine y_bipush (pc := 5) dX0_airiest_5 (by decide) ?_
    refine y_gd (fun h1 => ?_)
    refine y_icmp_ge (off := 24) (tgt := 31) (pc := 7) dX0_airiest_7 (by decide) h1 (by decide) (fun h2 => ?_) (fun h2 => ?_)
    · refine y_iload_n (pc := 31) dX0_airiest_31 rfl ?_
      exact y_iret (pc := 32) dX0_airiest_32
    · refine y_aload_n (pc := 10) dX0_airiest_10 rfl ?_
      refine y_iload_n (pc := 11) dX0_airiest_11 rfl ?_
      refine y_callVi (pc := 12) v_X0_airOn l_X0_54 dX0_airiest_12 (c_X0_airOn n _ _) (fun _ h => nomatch h) rfl rc_X0 rfl (by decide) (by decide) (Nat.le_of_ble_eq_true rfl) (fun r4 M3 _ => ?_)
      refine y_aload_n (pc := 15) dX0_airiest_15 rfl ?_
      refine y_iload_n (pc := 16) dX0_airiest_16 rfl ?_
      refine y_callVi (pc := 17) v_X0_airOn l_X0_54 dX0_airiest_17 (c_X0_airOn n _ _) (fun _ h => nomatch h) rfl rc_X0 rfl (by decide) (by decide) (Nat.le_of_ble_eq_true rfl) (fun r6 M5 _ => ?_)
      refine y_gd (fun h7 => ?_)
      refine y_gd (fun h8 => ?_)
      refine y_icmp_le (off := 5) (tgt := 25) (pc := 20) dX0_airiest_20 (by decide) h7 h8 (fun h9 => ?_) (fun h9 => ?_)
      · refine y_iinc (L' := [some (rv 129), some (iv a1), some (iv (a2 + 1))]) (pc := 25) dX0_airiest_25 rfl (by decide) rfl rfl ?_
        refine y_goto (tgt := 4) (pc := 28) dX0_airiest_28 (by decide) ?_
        exact y_sub (ls_s (ls_s (ls_s ls_0))) (ih M5 a1 (a2 + 1))
      · refine y_iload_n (pc := 23) dX0_airiest_23 rfl ?_
        refine y_istore_n (L' := [some (rv 129), some (iv a2), some (iv a2)]) (pc := 24) dX0_airiest_24 (by decide) rfl rfl ?_
        refine y_iinc (L' := [some (rv 129), some (iv a2), some (iv (a2 + 1))]) (pc := 25) dX0_airiest_25 rfl (by decide) rfl rfl ?_
        refine y_goto (tgt := 4) (pc := 28) dX0_airiest_28 (by decide) ?_
        exact y_sub (ls_s (ls_s (ls_s ls_0))) (ih M5 a2 (a2 + 1))
def m_X0_airiest (n : Nat) (M : Mem) : Rs := m_X0_airiest_4 n n M 0 1
theorem y_X0_airiest (n : Nat) (M : Mem) : Y RX0 cX0_airiest 3 1 0 none 0 [some (rv 129), none, none] [] M (m_X0_airiest n M) := by
  unfold m_X0_airiest
  refine y_iconst (pc := 0) dX0_airiest_0 ?_
  refine y_istore_n (L' := [some (rv 129), some (iv 0), none]) (pc := 1) dX0_airiest_1 (by decide) rfl rfl ?_
  refine y_iconst (pc := 2) dX0_airiest_2 ?_
  refine y_istore_n (L' := [some (rv 129), some (iv 0), some (iv 1)]) (pc := 3) dX0_airiest_3 (by decide) rfl rfl ?_
  exact y_sub (ls_s (ls_s (ls_s ls_0))) (t_X0_airiest_4 n n M 0 1)
theorem c_X0_airiest (n : Nat) (M : Mem) : ∀ res : Int × Mem, m_X0_airiest n M = some res → CTi none yX0_airiest cX0_airiest 3 (some .int) 1 [rv 129] M res := CTi_of (by decide +kernel) rfl (Nat.le_of_ble_eq_true rfl) rfl (y_X0_airiest n M)
def m_X0_distance (n : Nat) (M : Mem) (a0 : Int) (a1 : Int) : Rs := if I32 a0 then (if I32 a1 then (if I32 ((Int.tdiv a0 6) - (Int.tdiv a1 6)) then (if I32 ((Int.tmod a0 6) - (Int.tmod a1 6)) then (some (((abZ ((Int.tdiv a0 6) - (Int.tdiv a1 6))) + (abZ ((Int.tmod a0 6) - (Int.tmod a1 6)))), M)) else none) else none) else none) else none
theorem y_X0_distance (n : Nat) (M : Mem) (a0 : Int) (a1 : Int) : Y RX0 cX0_distance 2 1 0 none 0 [some (iv a0), some (iv a1)] [] M (m_X0_distance n M a0 a1) := by
  unfold m_X0_distance
  refine y_iload_n (pc := 0) dX0_distance_0 rfl ?_
  refine y_bipush (pc := 1) dX0_distance_1 (by decide) ?_
  refine y_gd (fun h1 => ?_)
  refine y_idiv (pc := 3) dX0_distance_3 h1 (by decide) (by decide) ?_
  refine y_iload_n (pc := 4) dX0_distance_4 rfl ?_
  refine y_bipush (pc := 5) dX0_distance_5 (by decide) ?_
  refine y_gd (fun h2 => ?_)
  refine y_idiv (pc := 7) dX0_distance_7 h2 (by decide) (by decide) ?_
  refine y_isub (pc := 8) dX0_distance_8 ?_
  refine y_gd (fun h3 => ?_)
  refine y_mabsw (pc := 9) h3 l_X0_143 dX0_distance_9 (Nat.le_of_ble_eq_true rfl) (by decide) ?_
  refine y_iload_n (pc := 12) dX0_distance_12 rfl ?_
  refine y_bipush (pc := 13) dX0_distance_13 (by decide) ?_
  refine y_irem (pc := 15) dX0_distance_15 h1 (by decide) (by decide) ?_
  refine y_iload_n (pc := 16) dX0_distance_16 rfl ?_
  refine y_bipush (pc := 17) dX0_distance_17 (by decide) ?_
  refine y_irem (pc := 19) dX0_distance_19 h2 (by decide) (by decide) ?_
  refine y_isub (pc := 20) dX0_distance_20 ?_
  refine y_gd (fun h4 => ?_)
  refine y_mabsw (pc := 21) h4 l_X0_143 dX0_distance_21 (Nat.le_of_ble_eq_true rfl) (by decide) ?_
  refine y_iadd (pc := 24) dX0_distance_24 ?_
  exact y_iret (pc := 25) dX0_distance_25
theorem c_X0_distance (n : Nat) (M : Mem) (a0 : Int) (a1 : Int) : ∀ res : Int × Mem, m_X0_distance n M a0 a1 = some res → CTi none yX0_distance cX0_distance 2 (some .int) 1 [iv a0, iv a1] M res := CTi_of (by decide +kernel) rfl (Nat.le_of_ble_eq_true rfl) rfl (y_X0_distance n M a0 a1)
def m_X0_nearest_68 (n : Nat) (k7 : Mem → Int → Int → Int → Int → Rs) (M : Mem) (a1 : Int) (a4 : Int) (a5 : Int) : Rs := k7 M a1 a4 a5 (a4 + 1)
theorem t_X0_nearest_68 (n : Nat) (k7 : Mem → Int → Int → Int → Int → Rs) (hk7 : ∀ (M : Mem) (a1 : Int) (a2 : Int) (a3 : Int) (a4 : Int), Y RX0 cX0_nearest 6 2 0 none 7 [some (rv 129), some (iv a1), some (iv a2), some (iv a3), some (iv a4), none] [] M (k7 M a1 a2 a3 a4)) (M : Mem) (a1 : Int) (a4 : Int) (a5 : Int) : Y RX0 cX0_nearest 6 2 0 none 68 [some (rv 129), some (iv a1), none, none, some (iv a4), some (iv a5)] [] M (m_X0_nearest_68 n k7 M a1 a4 a5) := by
  unfold m_X0_nearest_68
  refine y_iload (pc := 68) dX0_nearest_68 rfl ?_
  refine y_istore_n (L' := [some (rv 129), some (iv a1), some (iv a4), none, some (iv a4), some (iv a5)]) (pc := 70) dX0_nearest_70 (by decide) rfl rfl ?_
  refine y_iload (pc := 71) dX0_nearest_71 rfl ?_
  refine y_istore_n (L' := [some (rv 129), some (iv a1), some (iv a4), some (iv a5), some (iv a4), some (iv a5)]) (pc := 73) dX0_nearest_73 (by decide) rfl rfl ?_
  refine y_iinc (L' := [some (rv 129), some (iv a1), some (iv a4), some (iv a5), some (iv (a4 + 1)), some (iv a5)]) (pc := 74) dX0_nearest_74 rfl (by decide) rfl rfl ?_
  refine y_goto (tgt := 7) (pc := 77) dX0_nearest_77 (by decide) ?_
  exact y_sub (ls_s (ls_s (ls_s (ls_s (ls_s (ls_n ls_0)))))) (hk7 M a1 a4 a5 (a4 + 1))
def m_X0_nearest_7 (n : Nat) : Nat → Mem → Int → Int → Int → Int → Rs
  | 0, _, _, _, _, _ => none
  | t + 1, M, a1, a2, a3, a4 => if I32 a4 then (if (rd M 22 7) ≤ a4 then (some (a2, M)) else (if 0 ≤ a4 ∧ a4 < 8 then (if (rd M 28 (Int.toNat a4)) = (-1) then (if 0 ≤ a1 ∧ a1 < 5 then (bd (m_X0_distance n M (rd M 32 (Int.toNat a1)) (rd M 27 (Int.toNat a4))) (fun r7 M6 => if I32 a2 then (if a2 = (-1) then (m_X0_nearest_68 n (m_X0_nearest_7 n t) M6 a1 a4 r7) else (if I32 r7 then (if I32 a3 then (if a3 ≤ r7 then ((m_X0_nearest_7 n t) M6 a1 a2 a3 (a4 + 1)) else (m_X0_nearest_68 n (m_X0_nearest_7 n t) M6 a1 a4 r7)) else none) else none)) else none)) else none) else ((m_X0_nearest_7 n t) M a1 a2 a3 (a4 + 1))) else none)) else none
theorem t_X0_nearest_7 (n : Nat) : ∀ (t : Nat) (M : Mem) (a1 : Int) (a2 : Int) (a3 : Int) (a4 : Int), Y RX0 cX0_nearest 6 2 0 none 7 [some (rv 129), some (iv a1), some (iv a2), some (iv a3), some (iv a4), none] [] M (m_X0_nearest_7 n t M a1 a2 a3 a4) := by
  intro t
  induction t with
  | zero => intro M a1 a2 a3 a4; exact y_none
  | succ t ih =>
    intro M a1 a2 a3 a4
    rewrite [m_X0_nearest_7]
    refine y_iload (pc := 7) dX0_nearest_7 rfl ?_
    refine y_aload_n (pc := 9) dX0_nearest_9 rfl ?_
    refine y_getref (pc := 10) (x := 22) g_X0_12 dX0_nearest_10 ?_
    refine y_getint (pc := 13) (g_X0_105 (by decide)) dX0_nearest_13 ?_
    refine y_gd (fun h1 => ?_)
    refine y_icmp_ge (off := 64) (tgt := 80) (pc := 16) dX0_nearest_16 (by decide) h1 (rd_rng _ _ _) (fun h2 => ?_) (fun h2 => ?_)
    · refine y_iload_n (pc := 80) dX0_nearest_80 rfl ?_
      exact y_iret (pc := 81) dX0_nearest_81
    · refine y_aload_n (pc := 19) dX0_nearest_19 rfl ?_
      refine y_getref (pc := 20) (x := 22) g_X0_12 dX0_nearest_20 ?_
      refine y_getref (pc := 23) (x := 28) (g_X0_111 (by decide)) dX0_nearest_23 ?_
      refine y_iload (pc := 26) dX0_nearest_26 rfl ?_
      refine y_gd (fun h3 => ?_)
      refine y_iald (pc := 28) dX0_nearest_28 ar_28 h3 ?_
      refine y_iconst (pc := 29) dX0_nearest_29 ?_
      refine y_icmp_ne (off := 44) (tgt := 74) (pc := 30) dX0_nearest_30 (by decide) (rd_rng _ _ _) (by decide) (fun h4 => ?_) (fun h4 => ?_)
      · refine y_iinc (L' := [some (rv 129), some (iv a1), some (iv a2), some (iv a3), some (iv (a4 + 1)), none]) (pc := 74) dX0_nearest_74 rfl (by decide) rfl rfl ?_
        refine y_goto (tgt := 7) (pc := 77) dX0_nearest_77 (by decide) ?_
        exact y_sub (ls_s (ls_s (ls_s (ls_s (ls_s (ls_n ls_0)))))) (ih M a1 a2 a3 (a4 + 1))
      · refine y_aload_n (pc := 33) dX0_nearest_33 rfl ?_
        refine y_getref (pc := 34) (x := 22) g_X0_12 dX0_nearest_34 ?_
        refine y_getref (pc := 37) (x := 32) (g_X0_61 (by decide)) dX0_nearest_37 ?_
        refine y_iload_n (pc := 40) dX0_nearest_40 rfl ?_
        refine y_gd (fun h5 => ?_)
        refine y_iald (pc := 41) dX0_nearest_41 ar_32 h5 ?_
        refine y_aload_n (pc := 42) dX0_nearest_42 rfl ?_
        refine y_getref (pc := 43) (x := 22) g_X0_12 dX0_nearest_43 ?_
        refine y_getref (pc := 46) (x := 27) (g_X0_108 (by decide)) dX0_nearest_46 ?_
        refine y_iload (pc := 49) dX0_nearest_49 rfl ?_
        refine y_iald (pc := 51) dX0_nearest_51 ar_27 h3 ?_
        refine y_callSi (pc := 52) s_X0_distance l_X0_140 dX0_nearest_52 (c_X0_distance n _ _ _) (fun _ h => nomatch h) rfl rfl (by decide) (by decide) (Nat.le_of_ble_eq_true rfl) (fun r7 M6 _ => ?_)
        refine y_istore (L' := [some (rv 129), some (iv a1), some (iv a2), some (iv a3), some (iv a4), some (iv r7)]) (pc := 55) dX0_nearest_55 (by decide) rfl rfl ?_
        refine y_iload_n (pc := 57) dX0_nearest_57 rfl ?_
        refine y_iconst (pc := 58) dX0_nearest_58 ?_
        refine y_gd (fun h8 => ?_)
        refine y_icmp_eq (off := 9) (tgt := 68) (pc := 59) dX0_nearest_59 (by decide) h8 (by decide) (fun h9 => ?_) (fun h9 => ?_)
        · exact y_sub (ls_s (ls_s (ls_n (ls_n (ls_s (ls_s ls_0)))))) (t_X0_nearest_68 n (m_X0_nearest_7 n t) ih M6 a1 a4 r7)
        · refine y_iload (pc := 62) dX0_nearest_62 rfl ?_
          refine y_iload_n (pc := 64) dX0_nearest_64 rfl ?_
          refine y_gd (fun h10 => ?_)
          refine y_gd (fun h11 => ?_)
          refine y_icmp_ge (off := 9) (tgt := 74) (pc := 65) dX0_nearest_65 (by decide) h10 h11 (fun h12 => ?_) (fun h12 => ?_)
          · refine y_iinc (L' := [some (rv 129), some (iv a1), some (iv a2), some (iv a3), some (iv (a4 + 1)), some (iv r7)]) (pc := 74) dX0_nearest_74 rfl (by decide) rfl rfl ?_
            refine y_goto (tgt := 7) (pc := 77) dX0_nearest_77 (by decide) ?_
            exact y_sub (ls_s (ls_s (ls_s (ls_s (ls_s (ls_n ls_0)))))) (ih M6 a1 a2 a3 (a4 + 1))
          · exact y_sub (ls_s (ls_s (ls_n (ls_n (ls_s (ls_s ls_0)))))) (t_X0_nearest_68 n (m_X0_nearest_7 n t) ih M6 a1 a4 r7)
def m_X0_nearest (n : Nat) (M : Mem) (a1 : Int) : Rs := m_X0_nearest_7 n n M a1 (-1) 0 0
theorem y_X0_nearest (n : Nat) (M : Mem) (a1 : Int) : Y RX0 cX0_nearest 6 2 0 none 0 [some (rv 129), some (iv a1), none, none, none, none] [] M (m_X0_nearest n M a1) := by
  unfold m_X0_nearest
  refine y_iconst (pc := 0) dX0_nearest_0 ?_
  refine y_istore_n (L' := [some (rv 129), some (iv a1), some (iv (-1)), none, none, none]) (pc := 1) dX0_nearest_1 (by decide) rfl rfl ?_
  refine y_iconst (pc := 2) dX0_nearest_2 ?_
  refine y_istore_n (L' := [some (rv 129), some (iv a1), some (iv (-1)), some (iv 0), none, none]) (pc := 3) dX0_nearest_3 (by decide) rfl rfl ?_
  refine y_iconst (pc := 4) dX0_nearest_4 ?_
  refine y_istore (L' := [some (rv 129), some (iv a1), some (iv (-1)), some (iv 0), some (iv 0), none]) (pc := 5) dX0_nearest_5 (by decide) rfl rfl ?_
  exact y_sub (ls_s (ls_s (ls_s (ls_s (ls_s (ls_n ls_0)))))) (t_X0_nearest_7 n n M a1 (-1) 0 0)
theorem c_X0_nearest (n : Nat) (M : Mem) (a1 : Int) : ∀ res : Int × Mem, m_X0_nearest n M a1 = some res → CTi none yX0_nearest cX0_nearest 6 (some .int) 2 [rv 129, iv a1] M res := CTi_of (by decide +kernel) rfl (Nat.le_of_ble_eq_true rfl) rfl (y_X0_nearest n M a1)
def m_X0_worthiest_66 (n : Nat) (k4 : Mem → Int → Int → Int → Rs) (M : Mem) (a1 : Int) (a3 : Int) : Rs := k4 M a1 a3 (a3 + 1)
theorem t_X0_worthiest_66 (n : Nat) (k4 : Mem → Int → Int → Int → Rs) (hk4 : ∀ (M : Mem) (a1 : Int) (a2 : Int) (a3 : Int), Y RX0 cX0_worthiest 5 0 0 none 4 [some (rv 129), some (iv a1), some (iv a2), some (iv a3), none] [] M (k4 M a1 a2 a3)) (M : Mem) (a1 : Int) (a3 : Int) : Y RX0 cX0_worthiest 5 0 0 none 66 [some (rv 129), some (iv a1), none, some (iv a3), none] [] M (m_X0_worthiest_66 n k4 M a1 a3) := by
  unfold m_X0_worthiest_66
  refine y_iload_n (pc := 66) dX0_worthiest_66 rfl ?_
  refine y_istore_n (L' := [some (rv 129), some (iv a1), some (iv a3), some (iv a3), none]) (pc := 67) dX0_worthiest_67 (by decide) rfl rfl ?_
  refine y_iinc (L' := [some (rv 129), some (iv a1), some (iv a3), some (iv (a3 + 1)), none]) (pc := 68) dX0_worthiest_68 rfl (by decide) rfl rfl ?_
  refine y_goto (tgt := 4) (pc := 71) dX0_worthiest_71 (by decide) ?_
  exact y_sub (ls_s (ls_s (ls_s (ls_s (ls_n ls_0))))) (hk4 M a1 a3 (a3 + 1))
def m_X0_worthiest_33 (n : Nat) (k4 : Mem → Int → Int → Int → Rs) (M : Mem) (a1 : Int) (a2 : Int) (a3 : Int) (s0 : Int) : Rs := if I32 s0 then (if s0 = 0 then (if I32 a2 then (if a2 = (-1) then (m_X0_worthiest_66 n k4 M a1 a3) else (if 0 ≤ a3 ∧ a3 < 8 then (if 0 ≤ a2 ∧ a2 < 8 then (if (rd M 26 (Int.toNat a3)) ≤ (rd M 26 (Int.toNat a2)) then (k4 M a1 a2 (a3 + 1)) else (m_X0_worthiest_66 n k4 M a1 a3)) else none) else none)) else none) else (k4 M a1 a2 (a3 + 1))) else none
theorem t_X0_worthiest_33 (n : Nat) (k4 : Mem → Int → Int → Int → Rs) (hk4 : ∀ (M : Mem) (a1 : Int) (a2 : Int) (a3 : Int), Y RX0 cX0_worthiest 5 0 0 none 4 [some (rv 129), some (iv a1), some (iv a2), some (iv a3), none] [] M (k4 M a1 a2 a3)) (M : Mem) (a1 : Int) (a2 : Int) (a3 : Int) (s0 : Int) : Y RX0 cX0_worthiest 5 0 0 none 33 [some (rv 129), some (iv a1), some (iv a2), some (iv a3), none] [iv s0] M (m_X0_worthiest_33 n k4 M a1 a2 a3 s0) := by
  unfold m_X0_worthiest_33
  refine y_istore (L' := [some (rv 129), some (iv a1), some (iv a2), some (iv a3), some (iv s0)]) (pc := 33) dX0_worthiest_33 (by decide) rfl rfl ?_
  refine y_iload (pc := 35) dX0_worthiest_35 rfl ?_
  refine y_gd (fun h1 => ?_)
  refine y_if_ne (off := 31) (tgt := 68) (pc := 37) dX0_worthiest_37 (by decide) h1 (fun h2 => ?_) (fun h2 => ?_)
  · refine y_iinc (L' := [some (rv 129), some (iv a1), some (iv a2), some (iv (a3 + 1)), some (iv s0)]) (pc := 68) dX0_worthiest_68 rfl (by decide) rfl rfl ?_
    refine y_goto (tgt := 4) (pc := 71) dX0_worthiest_71 (by decide) ?_
    exact y_sub (ls_s (ls_s (ls_s (ls_s (ls_n ls_0))))) (hk4 M a1 a2 (a3 + 1))
  · refine y_iload_n (pc := 40) dX0_worthiest_40 rfl ?_
    refine y_iconst (pc := 41) dX0_worthiest_41 ?_
    refine y_gd (fun h3 => ?_)
    refine y_icmp_eq (off := 24) (tgt := 66) (pc := 42) dX0_worthiest_42 (by decide) h3 (by decide) (fun h4 => ?_) (fun h4 => ?_)
    · exact y_sub (ls_s (ls_s (ls_n (ls_s (ls_n ls_0))))) (t_X0_worthiest_66 n k4 hk4 M a1 a3)
    · refine y_aload_n (pc := 45) dX0_worthiest_45 rfl ?_
      refine y_getref (pc := 46) (x := 22) g_X0_12 dX0_worthiest_46 ?_
      refine y_getref (pc := 49) (x := 26) (g_X0_120 (by decide)) dX0_worthiest_49 ?_
      refine y_iload_n (pc := 52) dX0_worthiest_52 rfl ?_
      refine y_gd (fun h5 => ?_)
      refine y_iald (pc := 53) dX0_worthiest_53 ar_26 h5 ?_
      refine y_aload_n (pc := 54) dX0_worthiest_54 rfl ?_
      refine y_getref (pc := 55) (x := 22) g_X0_12 dX0_worthiest_55 ?_
      refine y_getref (pc := 58) (x := 26) (g_X0_120 (by decide)) dX0_worthiest_58 ?_
      refine y_iload_n (pc := 61) dX0_worthiest_61 rfl ?_
      refine y_gd (fun h6 => ?_)
      refine y_iald (pc := 62) dX0_worthiest_62 ar_26 h6 ?_
      refine y_icmp_le (off := 5) (tgt := 68) (pc := 63) dX0_worthiest_63 (by decide) (rd_rng _ _ _) (rd_rng _ _ _) (fun h7 => ?_) (fun h7 => ?_)
      · refine y_iinc (L' := [some (rv 129), some (iv a1), some (iv a2), some (iv (a3 + 1)), some (iv s0)]) (pc := 68) dX0_worthiest_68 rfl (by decide) rfl rfl ?_
        refine y_goto (tgt := 4) (pc := 71) dX0_worthiest_71 (by decide) ?_
        exact y_sub (ls_s (ls_s (ls_s (ls_s (ls_n ls_0))))) (hk4 M a1 a2 (a3 + 1))
      · exact y_sub (ls_s (ls_s (ls_n (ls_s (ls_n ls_0))))) (t_X0_worthiest_66 n k4 hk4 M a1 a3)
def m_X0_worthiest_4 (n : Nat) : Nat → Mem → Int → Int → Int → Rs
  | 0, _, _, _, _ => none
  | t + 1, M, a1, a2, a3 => if I32 a3 then (if (rd M 22 7) ≤ a3 then (some (a2, M)) else (if 0 ≤ a3 ∧ a3 < 8 then (if I32 a1 then (if (rd M 28 (Int.toNat a3)) = a1 then (m_X0_worthiest_33 n (m_X0_worthiest_4 n t) M a1 a2 a3 1) else (m_X0_worthiest_33 n (m_X0_worthiest_4 n t) M a1 a2 a3 0)) else none) else none)) else none
theorem t_X0_worthiest_4 (n : Nat) : ∀ (t : Nat) (M : Mem) (a1 : Int) (a2 : Int) (a3 : Int), Y RX0 cX0_worthiest 5 0 0 none 4 [some (rv 129), some (iv a1), some (iv a2), some (iv a3), none] [] M (m_X0_worthiest_4 n t M a1 a2 a3) := by
  intro t
  induction t with
  | zero => intro M a1 a2 a3; exact y_none
  | succ t ih =>
    intro M a1 a2 a3
    rewrite [m_X0_worthiest_4]
    refine y_iload_n (pc := 4) dX0_worthiest_4 rfl ?_
    refine y_aload_n (pc := 5) dX0_worthiest_5 rfl ?_
    refine y_getref (pc := 6) (x := 22) g_X0_12 dX0_worthiest_6 ?_
    refine y_getint (pc := 9) (g_X0_105 (by decide)) dX0_worthiest_9 ?_
    refine y_gd (fun h8 => ?_)
    refine y_icmp_ge (off := 62) (tgt := 74) (pc := 12) dX0_worthiest_12 (by decide) h8 (rd_rng _ _ _) (fun h9 => ?_) (fun h9 => ?_)
    · refine y_iload_n (pc := 74) dX0_worthiest_74 rfl ?_
      exact y_iret (pc := 75) dX0_worthiest_75
    · refine y_aload_n (pc := 15) dX0_worthiest_15 rfl ?_
      refine y_getref (pc := 16) (x := 22) g_X0_12 dX0_worthiest_16 ?_
      refine y_getref (pc := 19) (x := 28) (g_X0_111 (by decide)) dX0_worthiest_19 ?_
      refine y_iload_n (pc := 22) dX0_worthiest_22 rfl ?_
      refine y_gd (fun h10 => ?_)
      refine y_iald (pc := 23) dX0_worthiest_23 ar_28 h10 ?_
      refine y_iload_n (pc := 24) dX0_worthiest_24 rfl ?_
      refine y_gd (fun h11 => ?_)
      refine y_icmp_ne (off := 7) (tgt := 32) (pc := 25) dX0_worthiest_25 (by decide) (rd_rng _ _ _) h11 (fun h12 => ?_) (fun h12 => ?_)
      · refine y_iconst (pc := 32) dX0_worthiest_32 ?_
        exact y_sub (ls_s (ls_s (ls_s (ls_s (ls_n ls_0))))) (t_X0_worthiest_33 n (m_X0_worthiest_4 n t) ih M a1 a2 a3 0)
      · refine y_iconst (pc := 28) dX0_worthiest_28 ?_
        refine y_goto (tgt := 33) (pc := 29) dX0_worthiest_29 (by decide) ?_
        exact y_sub (ls_s (ls_s (ls_s (ls_s (ls_n ls_0))))) (t_X0_worthiest_33 n (m_X0_worthiest_4 n t) ih M a1 a2 a3 1)
def m_X0_worthiest (n : Nat) (M : Mem) (a1 : Int) : Rs := m_X0_worthiest_4 n n M a1 (-1) 0
theorem y_X0_worthiest (n : Nat) (M : Mem) (a1 : Int) : Y RX0 cX0_worthiest 5 0 0 none 0 [some (rv 129), some (iv a1), none, none, none] [] M (m_X0_worthiest n M a1) := by
  unfold m_X0_worthiest
  refine y_iconst (pc := 0) dX0_worthiest_0 ?_
  refine y_istore_n (L' := [some (rv 129), some (iv a1), some (iv (-1)), none, none]) (pc := 1) dX0_worthiest_1 (by decide) rfl rfl ?_
  refine y_iconst (pc := 2) dX0_worthiest_2 ?_
  refine y_istore_n (L' := [some (rv 129), some (iv a1), some (iv (-1)), some (iv 0), none]) (pc := 3) dX0_worthiest_3 (by decide) rfl rfl ?_
  exact y_sub (ls_s (ls_s (ls_s (ls_s (ls_n ls_0))))) (t_X0_worthiest_4 n n M a1 (-1) 0)
theorem c_X0_worthiest (n : Nat) (M : Mem) (a1 : Int) : ∀ res : Int × Mem, m_X0_worthiest n M a1 = some res → CTi none yX0_worthiest cX0_worthiest 5 (some .int) 0 [rv 129, iv a1] M res := CTi_of (by decide +kernel) rfl (Nat.le_of_ble_eq_true rfl) rfl (y_X0_worthiest n M a1)
def m_X0_goal_91 (n : Nat) (M : Mem) (a1 : Int) (a4 : Int) : Rs := if I32 a4 then (if a4 = (-1) then (if 0 ≤ a1 ∧ a1 < 5 then (some ((rd M 31 (Int.toNat a1)), M)) else none) else (if 0 ≤ a4 ∧ a4 < 8 then (some ((rd M 27 (Int.toNat a4)), M)) else none)) else none
theorem t_X0_goal_91 (n : Nat) (M : Mem) (a1 : Int) (a4 : Int) : Y RX0 cX0_goal 5 3 0 none 91 [some (rv 129), some (iv a1), none, none, some (iv a4)] [] M (m_X0_goal_91 n M a1 a4) := by
  unfold m_X0_goal_91
  refine y_iload (pc := 91) dX0_goal_91 rfl ?_
  refine y_iconst (pc := 93) dX0_goal_93 ?_
  refine y_gd (fun h1 => ?_)
  refine y_icmp_ne (off := 15) (tgt := 109) (pc := 94) dX0_goal_94 (by decide) h1 (by decide) (fun h2 => ?_) (fun h2 => ?_)
  · refine y_aload_n (pc := 109) dX0_goal_109 rfl ?_
    refine y_getref (pc := 110) (x := 22) g_X0_12 dX0_goal_110 ?_
    refine y_getref (pc := 113) (x := 27) (g_X0_108 (by decide)) dX0_goal_113 ?_
    refine y_iload (pc := 116) dX0_goal_116 rfl ?_
    refine y_gd (fun h3 => ?_)
    refine y_iald (pc := 118) dX0_goal_118 ar_27 h3 ?_
    exact y_iret (pc := 119) dX0_goal_119
  · refine y_aload_n (pc := 97) dX0_goal_97 rfl ?_
    refine y_getref (pc := 98) (x := 22) g_X0_12 dX0_goal_98 ?_
    refine y_getref (pc := 101) (x := 31) (g_X0_137 (by decide)) dX0_goal_101 ?_
    refine y_iload_n (pc := 104) dX0_goal_104 rfl ?_
    refine y_gd (fun h4 => ?_)
    refine y_iald (pc := 105) dX0_goal_105 ar_31 h4 ?_
    refine y_goto (tgt := 119) (pc := 106) dX0_goal_106 (by decide) ?_
    exact y_iret (pc := 119) dX0_goal_119
def m_X0_goal_84 (n : Nat) (M : Mem) (a1 : Int) : Rs := bd (m_X0_nearest n M a1) (fun r6 M5 => m_X0_goal_91 n M5 a1 r6)
theorem t_X0_goal_84 (n : Nat) (M : Mem) (a1 : Int) : Y RX0 cX0_goal 5 3 0 none 84 [some (rv 129), some (iv a1), none, none, none] [] M (m_X0_goal_84 n M a1) := by
  unfold m_X0_goal_84
  refine y_aload_n (pc := 84) dX0_goal_84 rfl ?_
  refine y_iload_n (pc := 85) dX0_goal_85 rfl ?_
  refine y_callVi (pc := 86) v_X0_nearest l_X0_134 dX0_goal_86 (c_X0_nearest n _ _) (fun _ h => nomatch h) rfl rc_X0 rfl (by decide) (by decide) (Nat.le_of_ble_eq_true rfl) (fun r6 M5 _ => ?_)
  refine y_istore (L' := [some (rv 129), some (iv a1), none, none, some (iv r6)]) (pc := 89) dX0_goal_89 (by decide) rfl rfl ?_
  exact y_sub (ls_s (ls_s (ls_n (ls_n (ls_s ls_0))))) (t_X0_goal_91 n M5 a1 r6)
def m_X0_goal_69 (n : Nat) (M : Mem) (a1 : Int) (a2 : Int) (a3 : Int) (a4 : Int) : Rs := if I32 a4 then (if a4 = (-1) then (if I32 a3 then (if a3 = 0 then (if I32 a2 then (if a2 = 1 then (m_X0_goal_84 n M a1) else (m_X0_goal_91 n M a1 a4)) else none) else (m_X0_goal_84 n M a1)) else none) else (m_X0_goal_91 n M a1 a4)) else none
theorem t_X0_goal_69 (n : Nat) (M : Mem) (a1 : Int) (a2 : Int) (a3 : Int) (a4 : Int) : Y RX0 cX0_goal 5 3 0 none 69 [some (rv 129), some (iv a1), some (iv a2), some (iv a3), some (iv a4)] [] M (m_X0_goal_69 n M a1 a2 a3 a4) := by
  unfold m_X0_goal_69
  refine y_iload (pc := 69) dX0_goal_69 rfl ?_
  refine y_iconst (pc := 71) dX0_goal_71 ?_
  refine y_gd (fun h7 => ?_)
  refine y_icmp_ne (off := 19) (tgt := 91) (pc := 72) dX0_goal_72 (by decide) h7 (by decide) (fun h8 => ?_) (fun h8 => ?_)
  · exact y_sub (ls_s (ls_s (ls_n (ls_n (ls_s ls_0))))) (t_X0_goal_91 n M a1 a4)
  · refine y_iload_n (pc := 75) dX0_goal_75 rfl ?_
    refine y_gd (fun h9 => ?_)
    refine y_if_ne (off := 8) (tgt := 84) (pc := 76) dX0_goal_76 (by decide) h9 (fun h10 => ?_) (fun h10 => ?_)
    · exact y_sub (ls_s (ls_s (ls_n (ls_n (ls_n ls_0))))) (t_X0_goal_84 n M a1)
    · refine y_iload_n (pc := 79) dX0_goal_79 rfl ?_
      refine y_iconst (pc := 80) dX0_goal_80 ?_
      refine y_gd (fun h11 => ?_)
      refine y_icmp_ne (off := 10) (tgt := 91) (pc := 81) dX0_goal_81 (by decide) h11 (by decide) (fun h12 => ?_) (fun h12 => ?_)
      · exact y_sub (ls_s (ls_s (ls_n (ls_n (ls_s ls_0))))) (t_X0_goal_91 n M a1 a4)
      · exact y_sub (ls_s (ls_s (ls_n (ls_n (ls_n ls_0))))) (t_X0_goal_84 n M a1)
def m_X0_goal_54 (n : Nat) (M : Mem) (a1 : Int) (a2 : Int) (s0 : Int) : Rs := if I32 s0 then (if s0 = 0 then (m_X0_goal_69 n M a1 a2 s0 (-1)) else (bd (m_X0_worthiest n M a1) (fun r16 M15 => m_X0_goal_69 n M15 a1 a2 s0 r16))) else none
theorem t_X0_goal_54 (n : Nat) (M : Mem) (a1 : Int) (a2 : Int) (s0 : Int) : Y RX0 cX0_goal 5 3 0 none 54 [some (rv 129), some (iv a1), some (iv a2), none, none] [iv s0] M (m_X0_goal_54 n M a1 a2 s0) := by
  unfold m_X0_goal_54
  refine y_istore_n (L' := [some (rv 129), some (iv a1), some (iv a2), some (iv s0), none]) (pc := 54) dX0_goal_54 (by decide) rfl rfl ?_
  refine y_iconst (pc := 55) dX0_goal_55 ?_
  refine y_istore (L' := [some (rv 129), some (iv a1), some (iv a2), some (iv s0), some (iv (-1))]) (pc := 56) dX0_goal_56 (by decide) rfl rfl ?_
  refine y_iload_n (pc := 58) dX0_goal_58 rfl ?_
  refine y_gd (fun h13 => ?_)
  refine y_if_eq (off := 10) (tgt := 69) (pc := 59) dX0_goal_59 (by decide) h13 (fun h14 => ?_) (fun h14 => ?_)
  · exact y_sub (ls_s (ls_s (ls_s (ls_s (ls_s ls_0))))) (t_X0_goal_69 n M a1 a2 s0 (-1))
  · refine y_aload_n (pc := 62) dX0_goal_62 rfl ?_
    refine y_iload_n (pc := 63) dX0_goal_63 rfl ?_
    refine y_callVi (pc := 64) v_X0_worthiest l_X0_131 dX0_goal_64 (c_X0_worthiest n _ _) (fun _ h => nomatch h) rfl rc_X0 rfl (by decide) (by decide) (Nat.le_of_ble_eq_true rfl) (fun r16 M15 _ => ?_)
    refine y_istore (L' := [some (rv 129), some (iv a1), some (iv a2), some (iv s0), some (iv r16)]) (pc := 67) dX0_goal_67 (by decide) rfl rfl ?_
    exact y_sub (ls_s (ls_s (ls_s (ls_s (ls_s ls_0))))) (t_X0_goal_69 n M15 a1 a2 s0 r16)
def m_X0_goal_53 (n : Nat) (M : Mem) (a1 : Int) (a2 : Int) : Rs := m_X0_goal_54 n M a1 a2 0
theorem t_X0_goal_53 (n : Nat) (M : Mem) (a1 : Int) (a2 : Int) : Y RX0 cX0_goal 5 3 0 none 53 [some (rv 129), some (iv a1), some (iv a2), none, none] [] M (m_X0_goal_53 n M a1 a2) := by
  unfold m_X0_goal_53
  refine y_iconst (pc := 53) dX0_goal_53 ?_
  exact y_sub (ls_s (ls_s (ls_s (ls_n (ls_n ls_0))))) (t_X0_goal_54 n M a1 a2 0)
def m_X0_goal_49 (n : Nat) (M : Mem) (a1 : Int) (a2 : Int) : Rs := m_X0_goal_54 n M a1 a2 1
theorem t_X0_goal_49 (n : Nat) (M : Mem) (a1 : Int) (a2 : Int) : Y RX0 cX0_goal 5 3 0 none 49 [some (rv 129), some (iv a1), some (iv a2), none, none] [] M (m_X0_goal_49 n M a1 a2) := by
  unfold m_X0_goal_49
  refine y_iconst (pc := 49) dX0_goal_49 ?_
  refine y_goto (tgt := 54) (pc := 50) dX0_goal_50 (by decide) ?_
  exact y_sub (ls_s (ls_s (ls_s (ls_n (ls_n ls_0))))) (t_X0_goal_54 n M a1 a2 1)
def m_X0_goal_21 (n : Nat) (M : Mem) : Rs := bd (m_X0_airiest n M) (fun r18 M17 => some (r18, M17))
theorem t_X0_goal_21 (n : Nat) (M : Mem) : Y RX0 cX0_goal 5 3 0 none 21 [some (rv 129), none, none, none, none] [] M (m_X0_goal_21 n M) := by
  unfold m_X0_goal_21
  refine y_aload_n (pc := 21) dX0_goal_21 rfl ?_
  refine y_callVi (pc := 22) v_X0_airiest l_X0_127 dX0_goal_22 (c_X0_airiest n _) (fun _ h => nomatch h) rfl rc_X0 rfl (by decide) (by decide) (Nat.le_of_ble_eq_true rfl) (fun r18 M17 _ => ?_)
  exact y_iret (pc := 25) dX0_goal_25
def m_X0_goal (n : Nat) (M : Mem) (a1 : Int) : Rs := if 0 ≤ a1 ∧ a1 < 5 then (lt (rd M 29 (Int.toNat a1)) (fun x20 => if I32 x20 then (if x20 = 5 then (m_X0_goal_21 n M) else (if x20 = 6 then (m_X0_goal_21 n M) else (if x20 = 2 then (m_X0_goal_49 n M a1 x20) else (if x20 = 7 then (if I32 (Int.tmod (rd M 22 13) 2) then (if (Int.tmod (rd M 22 13) 2) = 0 then (m_X0_goal_49 n M a1 x20) else (m_X0_goal_53 n M a1 x20)) else none) else (m_X0_goal_53 n M a1 x20))))) else none)) else none
theorem y_X0_goal (n : Nat) (M : Mem) (a1 : Int) : Y RX0 cX0_goal 5 3 0 none 0 [some (rv 129), some (iv a1), none, none, none] [] M (m_X0_goal n M a1) := by
  unfold m_X0_goal
  refine y_aload_n (pc := 0) dX0_goal_0 rfl ?_
  refine y_getref (pc := 1) (x := 22) g_X0_12 dX0_goal_1 ?_
  refine y_getref (pc := 4) (x := 29) (g_X0_64 (by decide)) dX0_goal_4 ?_
  refine y_iload_n (pc := 7) dX0_goal_7 rfl ?_
  refine y_gd (fun h19 => ?_)
  refine y_iald (pc := 8) dX0_goal_8 ar_29 h19 ?_
  refine y_leti (fun x20 => ?_)
  refine y_istore_n (L' := [some (rv 129), some (iv a1), some (iv x20), none, none]) (pc := 9) dX0_goal_9 (by decide) rfl rfl ?_
  refine y_iload_n (pc := 10) dX0_goal_10 rfl ?_
  refine y_iconst (pc := 11) dX0_goal_11 ?_
  refine y_gd (fun h21 => ?_)
  refine y_icmp_eq (off := 9) (tgt := 21) (pc := 12) dX0_goal_12 (by decide) h21 (by decide) (fun h22 => ?_) (fun h22 => ?_)
  · exact y_sub (ls_s (ls_n (ls_n (ls_n (ls_n ls_0))))) (t_X0_goal_21 n M)
  · refine y_iload_n (pc := 15) dX0_goal_15 rfl ?_
    refine y_bipush (pc := 16) dX0_goal_16 (by decide) ?_
    refine y_icmp_ne (off := 8) (tgt := 26) (pc := 18) dX0_goal_18 (by decide) h21 (by decide) (fun h23 => ?_) (fun h23 => ?_)
    · refine y_iload_n (pc := 26) dX0_goal_26 rfl ?_
      refine y_iconst (pc := 27) dX0_goal_27 ?_
      refine y_icmp_eq (off := 21) (tgt := 49) (pc := 28) dX0_goal_28 (by decide) h21 (by decide) (fun h24 => ?_) (fun h24 => ?_)
      · exact y_sub (ls_s (ls_s (ls_s (ls_n (ls_n ls_0))))) (t_X0_goal_49 n M a1 x20)
      · refine y_iload_n (pc := 31) dX0_goal_31 rfl ?_
        refine y_bipush (pc := 32) dX0_goal_32 (by decide) ?_
        refine y_icmp_ne (off := 19) (tgt := 53) (pc := 34) dX0_goal_34 (by decide) h21 (by decide) (fun h25 => ?_) (fun h25 => ?_)
        · exact y_sub (ls_s (ls_s (ls_s (ls_n (ls_n ls_0))))) (t_X0_goal_53 n M a1 x20)
        · refine y_aload_n (pc := 37) dX0_goal_37 rfl ?_
          refine y_getref (pc := 38) (x := 22) g_X0_12 dX0_goal_38 ?_
          refine y_getint (pc := 41) (g_X0_43 (by decide)) dX0_goal_41 ?_
          refine y_iconst (pc := 44) dX0_goal_44 ?_
          refine y_irem (pc := 45) dX0_goal_45 (rd_rng _ _ _) (by decide) (by decide) ?_
          refine y_gd (fun h26 => ?_)
          refine y_if_ne (off := 7) (tgt := 53) (pc := 46) dX0_goal_46 (by decide) h26 (fun h27 => ?_) (fun h27 => ?_)
          · exact y_sub (ls_s (ls_s (ls_s (ls_n (ls_n ls_0))))) (t_X0_goal_53 n M a1 x20)
          · exact y_sub (ls_s (ls_s (ls_s (ls_n (ls_n ls_0))))) (t_X0_goal_49 n M a1 x20)
    · exact y_sub (ls_s (ls_n (ls_n (ls_n (ls_n ls_0))))) (t_X0_goal_21 n M)
theorem c_X0_goal (n : Nat) (M : Mem) (a1 : Int) : ∀ res : Int × Mem, m_X0_goal n M a1 = some res → CTi none yX0_goal cX0_goal 5 (some .int) 3 [rv 129, iv a1] M res := CTi_of (by decide +kernel) rfl (Nat.le_of_ble_eq_true rfl) rfl (y_X0_goal n M a1)
def m_X1_grabs_50 (n : Nat) (M : Mem) (a1 : Int) : Rs := if I32 a1 then (some (((Int.tdiv a1 2) + 2), M)) else none
theorem t_X1_grabs_50 (n : Nat) (M : Mem) (a1 : Int) : Y RX1 cX1_grabs 2 0 0 none 50 [none, some (iv a1)] [] M (m_X1_grabs_50 n M a1) := by
  unfold m_X1_grabs_50
  refine y_iload_n (pc := 50) dX1_grabs_50 rfl ?_
  refine y_iconst (pc := 51) dX1_grabs_51 ?_
  refine y_gd (fun h1 => ?_)
  refine y_idiv (pc := 52) dX1_grabs_52 h1 (by decide) (by decide) ?_
  refine y_iconst (pc := 53) dX1_grabs_53 ?_
  refine y_iadd (pc := 54) dX1_grabs_54 ?_
  exact y_iret (pc := 55) dX1_grabs_55
def m_X1_grabs (n : Nat) (M : Mem) (a0 : Int) (a1 : Int) : Rs := if I32 a0 then (if a0 = 1 then (if I32 a1 then (some (((Int.tdiv a1 2) + 1), M)) else none) else (if a0 = 2 then (m_X1_grabs_50 n M a1) else (if a0 = 3 then (some (1, M)) else (if a0 = 4 then (some (3, M)) else (if a0 = 5 then (some (a1, M)) else (if a0 = 6 then (some (0, M)) else (if a0 = 7 then (m_X1_grabs_50 n M a1) else (some (1, M))))))))) else none
theorem y_X1_grabs (n : Nat) (M : Mem) (a0 : Int) (a1 : Int) : Y RX1 cX1_grabs 2 0 0 none 0 [some (iv a0), some (iv a1)] [] M (m_X1_grabs n M a0 a1) := by
  unfold m_X1_grabs
  refine y_iload_n (pc := 0) dX1_grabs_0 rfl ?_
  refine y_gd (fun h2 => ?_)
  refine y_br (fun h3 => ?_) (fun h3 => ?_)
  · refine y_tableIn (off := 43) (tgt := 44) (pc := 1) dX1_grabs_1 h3 (by decide) (by decide) (by decide) rfl (by decide) ?_
    refine y_iload_n (pc := 44) dX1_grabs_44 rfl ?_
    refine y_iconst (pc := 45) dX1_grabs_45 ?_
    refine y_gd (fun h4 => ?_)
    refine y_idiv (pc := 46) dX1_grabs_46 h4 (by decide) (by decide) ?_
    refine y_iconst (pc := 47) dX1_grabs_47 ?_
    refine y_iadd (pc := 48) dX1_grabs_48 ?_
    exact y_iret (pc := 49) dX1_grabs_49
  · refine y_br (fun h5 => ?_) (fun h5 => ?_)
    · refine y_tableIn (off := 49) (tgt := 50) (pc := 1) dX1_grabs_1 h5 (by decide) (by decide) (by decide) rfl (by decide) ?_
      exact y_sub (ls_n (ls_s ls_0)) (t_X1_grabs_50 n M a1)
    · refine y_br (fun h6 => ?_) (fun h6 => ?_)
      · refine y_tableIn (off := 61) (tgt := 62) (pc := 1) dX1_grabs_1 h6 (by decide) (by decide) (by decide) rfl (by decide) ?_
        refine y_iconst (pc := 62) dX1_grabs_62 ?_
        exact y_iret (pc := 63) dX1_grabs_63
      · refine y_br (fun h7 => ?_) (fun h7 => ?_)
        · refine y_tableIn (off := 55) (tgt := 56) (pc := 1) dX1_grabs_1 h7 (by decide) (by decide) (by decide) rfl (by decide) ?_
          refine y_iconst (pc := 56) dX1_grabs_56 ?_
          exact y_iret (pc := 57) dX1_grabs_57
        · refine y_br (fun h8 => ?_) (fun h8 => ?_)
          · refine y_tableIn (off := 57) (tgt := 58) (pc := 1) dX1_grabs_1 h8 (by decide) (by decide) (by decide) rfl (by decide) ?_
            refine y_iload_n (pc := 58) dX1_grabs_58 rfl ?_
            exact y_iret (pc := 59) dX1_grabs_59
          · refine y_br (fun h9 => ?_) (fun h9 => ?_)
            · refine y_tableIn (off := 59) (tgt := 60) (pc := 1) dX1_grabs_1 h9 (by decide) (by decide) (by decide) rfl (by decide) ?_
              refine y_iconst (pc := 60) dX1_grabs_60 ?_
              exact y_iret (pc := 61) dX1_grabs_61
            · refine y_br (fun h10 => ?_) (fun h10 => ?_)
              · refine y_tableIn (off := 49) (tgt := 50) (pc := 1) dX1_grabs_1 h10 (by decide) (by decide) (by decide) rfl (by decide) ?_
                exact y_sub (ls_n (ls_s ls_0)) (t_X1_grabs_50 n M a1)
              · refine y_tableOut (tgt := 62) (pc := 1) dX1_grabs_1 h2 (by omega) (by decide) ?_
                refine y_iconst (pc := 62) dX1_grabs_62 ?_
                exact y_iret (pc := 63) dX1_grabs_63
theorem c_X1_grabs (n : Nat) (M : Mem) (a0 : Int) (a1 : Int) : ∀ res : Int × Mem, m_X1_grabs n M a0 a1 = some res → CTi none yX1_grabs cX1_grabs 2 (some .int) 0 [iv a0, iv a1] M res := CTi_of (by decide +kernel) rfl (Nat.le_of_ble_eq_true rfl) rfl (y_X1_grabs n M a0 a1)
def m_X1_mayTakeAnothers (n : Nat) (M : Mem) (a0 : Int) (a1 : Int) (a2 : Int) : Rs := if I32 a0 then (if a0 = 2 then (if I32 a2 then (if I32 a1 then (if a1 ≤ a2 then (some (0, M)) else (some (1, M))) else none) else none) else (if a0 = 7 then (if I32 a2 then (if I32 a1 then (if a1 < a2 then (some (0, M)) else (some (1, M))) else none) else none) else (some (0, M)))) else none
theorem y_X1_mayTakeAnothers (n : Nat) (M : Mem) (a0 : Int) (a1 : Int) (a2 : Int) : Y RX1 cX1_mayTakeAnothers 3 0 1 none 0 [some (iv a0), some (iv a1), some (iv a2)] [] M (m_X1_mayTakeAnothers n M a0 a1 a2) := by
  unfold m_X1_mayTakeAnothers
  refine y_iload_n (pc := 0) dX1_mayTakeAnothers_0 rfl ?_
  refine y_gd (fun h1 => ?_)
  refine y_br (fun h2 => ?_) (fun h2 => ?_)
  · refine y_lookup (off := 27) (tgt := 28) (pc := 1) dX1_mayTakeAnothers_1 rfl h1 (by rw [h2]; rfl) (by decide) ?_
    refine y_iload_n (pc := 28) dX1_mayTakeAnothers_28 rfl ?_
    refine y_iload_n (pc := 29) dX1_mayTakeAnothers_29 rfl ?_
    refine y_gd (fun h3 => ?_)
    refine y_gd (fun h4 => ?_)
    refine y_icmp_ge (off := 7) (tgt := 37) (pc := 30) dX1_mayTakeAnothers_30 (by decide) h3 h4 (fun h5 => ?_) (fun h5 => ?_)
    · refine y_iconst (pc := 37) dX1_mayTakeAnothers_37 ?_
      exact y_zret (pc := 38) dX1_mayTakeAnothers_38 (by decide)
    · refine y_iconst (pc := 33) dX1_mayTakeAnothers_33 ?_
      refine y_goto (tgt := 38) (pc := 34) dX1_mayTakeAnothers_34 (by decide) ?_
      exact y_zret (pc := 38) dX1_mayTakeAnothers_38 (by decide)
  · refine y_br (fun h6 => ?_) (fun h6 => ?_)
    · refine y_lookup (off := 38) (tgt := 39) (pc := 1) dX1_mayTakeAnothers_1 rfl h1 (by rw [h6]; rfl) (by decide) ?_
      refine y_iload_n (pc := 39) dX1_mayTakeAnothers_39 rfl ?_
      refine y_iload_n (pc := 40) dX1_mayTakeAnothers_40 rfl ?_
      refine y_gd (fun h7 => ?_)
      refine y_gd (fun h8 => ?_)
      refine y_icmp_gt (off := 7) (tgt := 48) (pc := 41) dX1_mayTakeAnothers_41 (by decide) h7 h8 (fun h9 => ?_) (fun h9 => ?_)
      · refine y_iconst (pc := 48) dX1_mayTakeAnothers_48 ?_
        exact y_zret (pc := 49) dX1_mayTakeAnothers_49 (by decide)
      · refine y_iconst (pc := 44) dX1_mayTakeAnothers_44 ?_
        refine y_goto (tgt := 49) (pc := 45) dX1_mayTakeAnothers_45 (by decide) ?_
        exact y_zret (pc := 49) dX1_mayTakeAnothers_49 (by decide)
    · refine y_lookup (off := 49) (tgt := 50) (pc := 1) dX1_mayTakeAnothers_1 rfl h1 (lk_out2 h2 h6) (by decide) ?_
      refine y_iconst (pc := 50) dX1_mayTakeAnothers_50 ?_
      exact y_zret (pc := 51) dX1_mayTakeAnothers_51 (by decide)
theorem c_X1_mayTakeAnothers (n : Nat) (M : Mem) (a0 : Int) (a1 : Int) (a2 : Int) : ∀ res : Int × Mem, m_X1_mayTakeAnothers n M a0 a1 a2 = some res → CTi none yX1_mayTakeAnothers cX1_mayTakeAnothers 3 (some .boolean) 0 [iv a0, iv a1, iv a2] M res := CTz_of (by decide +kernel) rfl (Nat.le_of_ble_eq_true rfl) rfl (y_X1_mayTakeAnothers n M a0 a1 a2)
end
section
def m_X0_grab_111 (n : Nat) (k30 : Mem → Int → Int → Int → Int → Int → Rs) (M : Mem) (a1 : Int) (a2 : Int) (a3 : Int) (a4 : Int) (a5 : Int) : Rs := if 0 ≤ a5 ∧ a5 < 8 then (wr M 28 (Int.toNat a5) a1 (fun M2 => k30 M2 a1 a2 a3 (a4 + (-1)) (a5 + 1))) else none
theorem t_X0_grab_111 (n : Nat) (k30 : Mem → Int → Int → Int → Int → Int → Rs) (hk30 : ∀ (M : Mem) (a1 : Int) (a2 : Int) (a3 : Int) (a4 : Int) (a5 : Int), Y RX0 cX0_grab 7 1 3 none 30 [some (rv 129), some (iv a1), some (iv a2), some (iv a3), some (iv a4), some (iv a5), none] [] M (k30 M a1 a2 a3 a4 a5)) (M : Mem) (a1 : Int) (a2 : Int) (a3 : Int) (a4 : Int) (a5 : Int) : Y RX0 cX0_grab 7 1 3 none 111 [some (rv 129), some (iv a1), some (iv a2), some (iv a3), some (iv a4), some (iv a5), none] [] M (m_X0_grab_111 n k30 M a1 a2 a3 a4 a5) := by
  unfold m_X0_grab_111
  refine y_aload_n (pc := 111) dX0_grab_111 rfl ?_
  refine y_getref (pc := 112) (x := 22) g_X0_12 dX0_grab_112 ?_
  refine y_getref (pc := 115) (x := 28) (g_X0_111 (by decide)) dX0_grab_115 ?_
  refine y_iload (pc := 118) dX0_grab_118 rfl ?_
  refine y_iload_n (pc := 120) dX0_grab_120 rfl ?_
  refine y_gd (fun h1 => ?_)
  refine y_iastw (pc := 121) dX0_grab_121 ar_28 h1 (fun M2 => ?_)
  refine y_iinc (L' := [some (rv 129), some (iv a1), some (iv a2), some (iv a3), some (iv (a4 + (-1))), some (iv a5), none]) (pc := 122) dX0_grab_122 rfl (by decide) rfl rfl ?_
  refine y_iinc (L' := [some (rv 129), some (iv a1), some (iv a2), some (iv a3), some (iv (a4 + (-1))), some (iv (a5 + 1)), none]) (pc := 125) dX0_grab_125 rfl (by decide) rfl rfl ?_
  refine y_goto (tgt := 30) (pc := 128) dX0_grab_128 (by decide) ?_
  exact y_sub (ls_s (ls_s (ls_s (ls_s (ls_s (ls_s (ls_n ls_0))))))) (hk30 M2 a1 a2 a3 (a4 + (-1)) (a5 + 1))
def m_X0_grab_30 (n : Nat) : Nat → Mem → Int → Int → Int → Int → Int → Rs
  | 0, _, _, _, _, _, _ => none
  | t + 1, M, a1, a2, a3, a4, a5 => if I32 a5 then (if (rd M 22 7) ≤ a5 then (some (0, M)) else (if I32 a4 then (if a4 ≤ 0 then (some (0, M)) else (if 0 ≤ a5 ∧ a5 < 8 then (lt (rd M 28 (Int.toNat a5)) (fun x8 => if 0 ≤ a1 ∧ a1 < 5 then (if (rd M 27 (Int.toNat a5)) = (rd M 32 (Int.toNat a1)) then (if I32 x8 then (if x8 = a1 then ((m_X0_grab_30 n t) M a1 a2 a3 a4 (a5 + 1)) else (if x8 = (-1) then (m_X0_grab_111 n (m_X0_grab_30 n t) M a1 a2 a3 a4 a5) else (bd (m_X1_mayTakeAnothers n M a2 a3 (rd M 26 (Int.toNat a5))) (fun r15 M14 => if I32 r15 then (if r15 = 0 then ((m_X0_grab_30 n t) M14 a1 a2 a3 a4 (a5 + 1)) else (m_X0_grab_111 n (m_X0_grab_30 n t) M14 a1 a2 a3 a4 a5)) else none)))) else none) else ((m_X0_grab_30 n t) M a1 a2 a3 a4 (a5 + 1))) else none)) else none)) else none)) else none
theorem t_X0_grab_30 (n : Nat) : ∀ (t : Nat) (M : Mem) (a1 : Int) (a2 : Int) (a3 : Int) (a4 : Int) (a5 : Int), Y RX0 cX0_grab 7 1 3 none 30 [some (rv 129), some (iv a1), some (iv a2), some (iv a3), some (iv a4), some (iv a5), none] [] M (m_X0_grab_30 n t M a1 a2 a3 a4 a5) := by
  intro t
  induction t with
  | zero => intro M a1 a2 a3 a4 a5; exact y_none
  | succ t ih =>
    intro M a1 a2 a3 a4 a5
    rewrite [m_X0_grab_30]
    refine y_iload (pc := 30) dX0_grab_30 rfl ?_
    refine y_aload_n (pc := 32) dX0_grab_32 rfl ?_
    refine y_getref (pc := 33) (x := 22) g_X0_12 dX0_grab_33 ?_
    refine y_getint (pc := 36) (g_X0_105 (by decide)) dX0_grab_36 ?_
    refine y_gd (fun h3 => ?_)
    refine y_icmp_ge (off := 92) (tgt := 131) (pc := 39) dX0_grab_39 (by decide) h3 (rd_rng _ _ _) (fun h4 => ?_) (fun h4 => ?_)
    · exact y_vret (pc := 131) dX0_grab_131
    · refine y_iload (pc := 42) dX0_grab_42 rfl ?_
      refine y_gd (fun h5 => ?_)
      refine y_if_le (off := 87) (tgt := 131) (pc := 44) dX0_grab_44 (by decide) h5 (fun h6 => ?_) (fun h6 => ?_)
      · exact y_vret (pc := 131) dX0_grab_131
      · refine y_aload_n (pc := 47) dX0_grab_47 rfl ?_
        refine y_getref (pc := 48) (x := 22) g_X0_12 dX0_grab_48 ?_
        refine y_getref (pc := 51) (x := 28) (g_X0_111 (by decide)) dX0_grab_51 ?_
        refine y_iload (pc := 54) dX0_grab_54 rfl ?_
        refine y_gd (fun h7 => ?_)
        refine y_iald (pc := 56) dX0_grab_56 ar_28 h7 ?_
        refine y_leti (fun x8 => ?_)
        refine y_istore (L' := [some (rv 129), some (iv a1), some (iv a2), some (iv a3), some (iv a4), some (iv a5), some (iv x8)]) (pc := 57) dX0_grab_57 (by decide) rfl rfl ?_
        refine y_aload_n (pc := 59) dX0_grab_59 rfl ?_
        refine y_getref (pc := 60) (x := 22) g_X0_12 dX0_grab_60 ?_
        refine y_getref (pc := 63) (x := 27) (g_X0_108 (by decide)) dX0_grab_63 ?_
        refine y_iload (pc := 66) dX0_grab_66 rfl ?_
        refine y_iald (pc := 68) dX0_grab_68 ar_27 h7 ?_
        refine y_aload_n (pc := 69) dX0_grab_69 rfl ?_
        refine y_getref (pc := 70) (x := 22) g_X0_12 dX0_grab_70 ?_
        refine y_getref (pc := 73) (x := 32) (g_X0_61 (by decide)) dX0_grab_73 ?_
        refine y_iload_n (pc := 76) dX0_grab_76 rfl ?_
        refine y_gd (fun h9 => ?_)
        refine y_iald (pc := 77) dX0_grab_77 ar_32 h9 ?_
        refine y_icmp_ne (off := 47) (tgt := 125) (pc := 78) dX0_grab_78 (by decide) (rd_rng _ _ _) (rd_rng _ _ _) (fun h10 => ?_) (fun h10 => ?_)
        · refine y_iinc (L' := [some (rv 129), some (iv a1), some (iv a2), some (iv a3), some (iv a4), some (iv (a5 + 1)), some (iv x8)]) (pc := 125) dX0_grab_125 rfl (by decide) rfl rfl ?_
          refine y_goto (tgt := 30) (pc := 128) dX0_grab_128 (by decide) ?_
          exact y_sub (ls_s (ls_s (ls_s (ls_s (ls_s (ls_s (ls_n ls_0))))))) (ih M a1 a2 a3 a4 (a5 + 1))
        · refine y_iload (pc := 81) dX0_grab_81 rfl ?_
          refine y_iload_n (pc := 83) dX0_grab_83 rfl ?_
          refine y_gd (fun h11 => ?_)
          refine y_icmp_eq (off := 41) (tgt := 125) (pc := 84) dX0_grab_84 (by decide) h11 (ix32 h9 (by decide)) (fun h12 => ?_) (fun h12 => ?_)
          · refine y_iinc (L' := [some (rv 129), some (iv a1), some (iv a2), some (iv a3), some (iv a4), some (iv (a5 + 1)), some (iv x8)]) (pc := 125) dX0_grab_125 rfl (by decide) rfl rfl ?_
            refine y_goto (tgt := 30) (pc := 128) dX0_grab_128 (by decide) ?_
            exact y_sub (ls_s (ls_s (ls_s (ls_s (ls_s (ls_s (ls_n ls_0))))))) (ih M a1 a2 a3 a4 (a5 + 1))
          · refine y_iload (pc := 87) dX0_grab_87 rfl ?_
            refine y_iconst (pc := 89) dX0_grab_89 ?_
            refine y_icmp_eq (off := 21) (tgt := 111) (pc := 90) dX0_grab_90 (by decide) h11 (by decide) (fun h13 => ?_) (fun h13 => ?_)
            · exact y_sub (ls_s (ls_s (ls_s (ls_s (ls_s (ls_s (ls_n ls_0))))))) (t_X0_grab_111 n (m_X0_grab_30 n t) ih M a1 a2 a3 a4 a5)
            · refine y_iload_n (pc := 93) dX0_grab_93 rfl ?_
              refine y_iload_n (pc := 94) dX0_grab_94 rfl ?_
              refine y_aload_n (pc := 95) dX0_grab_95 rfl ?_
              refine y_getref (pc := 96) (x := 22) g_X0_12 dX0_grab_96 ?_
              refine y_getref (pc := 99) (x := 26) (g_X0_120 (by decide)) dX0_grab_99 ?_
              refine y_iload (pc := 102) dX0_grab_102 rfl ?_
              refine y_iald (pc := 104) dX0_grab_104 ar_26 h7 ?_
              refine y_callSi (pc := 105) s_X1_mayTakeAnothers l_X0_123 dX0_grab_105 (c_X1_mayTakeAnothers n _ _ _ _) (fun _ h => nomatch h) rfl rfl (by decide) (by decide) (Nat.le_of_ble_eq_true rfl) (fun r15 M14 _ => ?_)
              refine y_gd (fun h16 => ?_)
              refine y_if_eq (off := 17) (tgt := 125) (pc := 108) dX0_grab_108 (by decide) h16 (fun h17 => ?_) (fun h17 => ?_)
              · refine y_iinc (L' := [some (rv 129), some (iv a1), some (iv a2), some (iv a3), some (iv a4), some (iv (a5 + 1)), some (iv x8)]) (pc := 125) dX0_grab_125 rfl (by decide) rfl rfl ?_
                refine y_goto (tgt := 30) (pc := 128) dX0_grab_128 (by decide) ?_
                exact y_sub (ls_s (ls_s (ls_s (ls_s (ls_s (ls_s (ls_n ls_0))))))) (ih M14 a1 a2 a3 a4 (a5 + 1))
              · exact y_sub (ls_s (ls_s (ls_s (ls_s (ls_s (ls_s (ls_n ls_0))))))) (t_X0_grab_111 n (m_X0_grab_30 n t) ih M14 a1 a2 a3 a4 a5)
def m_X0_grab (n : Nat) (M : Mem) (a1 : Int) : Rs := if 0 ≤ a1 ∧ a1 < 5 then (lt (rd M 29 (Int.toNat a1)) (fun x19 => lt (rd M 30 (Int.toNat a1)) (fun x20 => bd (m_X1_grabs n M x19 x20) (fun r22 M21 => m_X0_grab_30 n n M21 a1 x19 x20 r22 0)))) else none
theorem y_X0_grab (n : Nat) (M : Mem) (a1 : Int) : Y RX0 cX0_grab 7 1 3 none 0 [some (rv 129), some (iv a1), none, none, none, none, none] [] M (m_X0_grab n M a1) := by
  unfold m_X0_grab
  refine y_aload_n (pc := 0) dX0_grab_0 rfl ?_
  refine y_getref (pc := 1) (x := 22) g_X0_12 dX0_grab_1 ?_
  refine y_getref (pc := 4) (x := 29) (g_X0_64 (by decide)) dX0_grab_4 ?_
  refine y_iload_n (pc := 7) dX0_grab_7 rfl ?_
  refine y_gd (fun h18 => ?_)
  refine y_iald (pc := 8) dX0_grab_8 ar_29 h18 ?_
  refine y_leti (fun x19 => ?_)
  refine y_istore_n (L' := [some (rv 129), some (iv a1), some (iv x19), none, none, none, none]) (pc := 9) dX0_grab_9 (by decide) rfl rfl ?_
  refine y_aload_n (pc := 10) dX0_grab_10 rfl ?_
  refine y_getref (pc := 11) (x := 22) g_X0_12 dX0_grab_11 ?_
  refine y_getref (pc := 14) (x := 30) (g_X0_67 (by decide)) dX0_grab_14 ?_
  refine y_iload_n (pc := 17) dX0_grab_17 rfl ?_
  refine y_iald (pc := 18) dX0_grab_18 ar_30 h18 ?_
  refine y_leti (fun x20 => ?_)
  refine y_istore_n (L' := [some (rv 129), some (iv a1), some (iv x19), some (iv x20), none, none, none]) (pc := 19) dX0_grab_19 (by decide) rfl rfl ?_
  refine y_iload_n (pc := 20) dX0_grab_20 rfl ?_
  refine y_iload_n (pc := 21) dX0_grab_21 rfl ?_
  refine y_callSi (pc := 22) s_X1_grabs l_X0_117 dX0_grab_22 (c_X1_grabs n _ _ _) (fun _ h => nomatch h) rfl rfl (by decide) (by decide) (Nat.le_of_ble_eq_true rfl) (fun r22 M21 _ => ?_)
  refine y_istore (L' := [some (rv 129), some (iv a1), some (iv x19), some (iv x20), some (iv r22), none, none]) (pc := 25) dX0_grab_25 (by decide) rfl rfl ?_
  refine y_iconst (pc := 27) dX0_grab_27 ?_
  refine y_istore (L' := [some (rv 129), some (iv a1), some (iv x19), some (iv x20), some (iv r22), some (iv 0), none]) (pc := 28) dX0_grab_28 (by decide) rfl rfl ?_
  exact y_sub (ls_s (ls_s (ls_s (ls_s (ls_s (ls_s (ls_n ls_0))))))) (t_X0_grab_30 n n M21 a1 x19 x20 r22 0)
theorem c_X0_grab (n : Nat) (M : Mem) (a1 : Int) : ∀ res : Int × Mem, m_X0_grab n M a1 = some res → CTv none yX0_grab cX0_grab 7 1 [rv 129, iv a1] M res := CTv_of (by decide +kernel) rfl (Nat.le_of_ble_eq_true rfl) rfl (y_X0_grab n M a1)
def m_X1_pace (n : Nat) (M : Mem) (a0 : Int) (a1 : Int) : Rs := if I32 a0 then (if a0 = 1 then (some (2, M)) else (if a0 = 2 then (some (2, M)) else (if a0 = 3 then (some (0, M)) else (if a0 = 4 then (some (2, M)) else (if a0 = 5 then (if I32 a1 then (some (((Int.tdiv a1 3) + 1), M)) else none) else (if a0 = 6 then (if I32 a1 then (some ((Int.tdiv a1 3), M)) else none) else (if a0 = 7 then (some (3, M)) else (some (1, M))))))))) else none
theorem y_X1_pace (n : Nat) (M : Mem) (a0 : Int) (a1 : Int) : Y RX1 cX1_pace 2 0 0 none 0 [some (iv a0), some (iv a1)] [] M (m_X1_pace n M a0 a1) := by
  unfold m_X1_pace
  refine y_iload_n (pc := 0) dX1_pace_0 rfl ?_
  refine y_gd (fun h1 => ?_)
  refine y_br (fun h2 => ?_) (fun h2 => ?_)
  · refine y_tableIn (off := 43) (tgt := 44) (pc := 1) dX1_pace_1 h2 (by decide) (by decide) (by decide) rfl (by decide) ?_
    refine y_iconst (pc := 44) dX1_pace_44 ?_
    exact y_iret (pc := 45) dX1_pace_45
  · refine y_br (fun h3 => ?_) (fun h3 => ?_)
    · refine y_tableIn (off := 43) (tgt := 44) (pc := 1) dX1_pace_1 h3 (by decide) (by decide) (by decide) rfl (by decide) ?_
      refine y_iconst (pc := 44) dX1_pace_44 ?_
      exact y_iret (pc := 45) dX1_pace_45
    · refine y_br (fun h4 => ?_) (fun h4 => ?_)
      · refine y_tableIn (off := 45) (tgt := 46) (pc := 1) dX1_pace_1 h4 (by decide) (by decide) (by decide) rfl (by decide) ?_
        refine y_iconst (pc := 46) dX1_pace_46 ?_
        exact y_iret (pc := 47) dX1_pace_47
      · refine y_br (fun h5 => ?_) (fun h5 => ?_)
        · refine y_tableIn (off := 43) (tgt := 44) (pc := 1) dX1_pace_1 h5 (by decide) (by decide) (by decide) rfl (by decide) ?_
          refine y_iconst (pc := 44) dX1_pace_44 ?_
          exact y_iret (pc := 45) dX1_pace_45
        · refine y_br (fun h6 => ?_) (fun h6 => ?_)
          · refine y_tableIn (off := 47) (tgt := 48) (pc := 1) dX1_pace_1 h6 (by decide) (by decide) (by decide) rfl (by decide) ?_
            refine y_iload_n (pc := 48) dX1_pace_48 rfl ?_
            refine y_iconst (pc := 49) dX1_pace_49 ?_
            refine y_gd (fun h7 => ?_)
            refine y_idiv (pc := 50) dX1_pace_50 h7 (by decide) (by decide) ?_
            refine y_iconst (pc := 51) dX1_pace_51 ?_
            refine y_iadd (pc := 52) dX1_pace_52 ?_
            exact y_iret (pc := 53) dX1_pace_53
          · refine y_br (fun h8 => ?_) (fun h8 => ?_)
            · refine y_tableIn (off := 53) (tgt := 54) (pc := 1) dX1_pace_1 h8 (by decide) (by decide) (by decide) rfl (by decide) ?_
              refine y_iload_n (pc := 54) dX1_pace_54 rfl ?_
              refine y_iconst (pc := 55) dX1_pace_55 ?_
              refine y_gd (fun h9 => ?_)
              refine y_idiv (pc := 56) dX1_pace_56 h9 (by decide) (by decide) ?_
              exact y_iret (pc := 57) dX1_pace_57
            · refine y_br (fun h10 => ?_) (fun h10 => ?_)
              · refine y_tableIn (off := 57) (tgt := 58) (pc := 1) dX1_pace_1 h10 (by decide) (by decide) (by decide) rfl (by decide) ?_
                refine y_iconst (pc := 58) dX1_pace_58 ?_
                exact y_iret (pc := 59) dX1_pace_59
              · refine y_tableOut (tgt := 60) (pc := 1) dX1_pace_1 h1 (by omega) (by decide) ?_
                refine y_iconst (pc := 60) dX1_pace_60 ?_
                exact y_iret (pc := 61) dX1_pace_61
theorem c_X1_pace (n : Nat) (M : Mem) (a0 : Int) (a1 : Int) : ∀ res : Int × Mem, m_X1_pace n M a0 a1 = some res → CTi none yX1_pace cX1_pace 2 (some .int) 0 [iv a0, iv a1] M res := CTi_of (by decide +kernel) rfl (Nat.le_of_ble_eq_true rfl) rfl (y_X1_pace n M a0 a1)
def m_X0_walk_107 (n : Nat) (M : Mem) (a1 : Int) (a4 : Int) : Rs := if 0 ≤ a1 ∧ a1 < 5 then (wr M 32 (Int.toNat a1) a4 (fun M2 => some (0, M2))) else none
theorem t_X0_walk_107 (n : Nat) (M : Mem) (a1 : Int) (a4 : Int) : Y RX0 cX0_walk 7 1 3 none 107 [some (rv 129), some (iv a1), none, none, some (iv a4), none, none] [] M (m_X0_walk_107 n M a1 a4) := by
  unfold m_X0_walk_107
  refine y_aload_n (pc := 107) dX0_walk_107 rfl ?_
  refine y_getref (pc := 108) (x := 22) g_X0_12 dX0_walk_108 ?_
  refine y_getref (pc := 111) (x := 32) (g_X0_61 (by decide)) dX0_walk_111 ?_
  refine y_iload_n (pc := 114) dX0_walk_114 rfl ?_
  refine y_iload (pc := 115) dX0_walk_115 rfl ?_
  refine y_gd (fun h1 => ?_)
  refine y_iastw (pc := 117) dX0_walk_117 ar_32 h1 (fun M2 => ?_)
  exact y_vret (pc := 118) dX0_walk_118
def m_X0_walk_98 (n : Nat) (k36 : Mem → Int → Int → Int → Int → Int → Rs) (M : Mem) (a1 : Int) (a2 : Int) (a3 : Int) (a5 : Int) (s0 : Int) (s1 : Int) : Rs := k36 M a1 a2 a3 (s1 + s0) (a5 + 1)
theorem t_X0_walk_98 (n : Nat) (k36 : Mem → Int → Int → Int → Int → Int → Rs) (hk36 : ∀ (M : Mem) (a1 : Int) (a2 : Int) (a3 : Int) (a4 : Int) (a5 : Int), Y RX0 cX0_walk 7 1 3 none 36 [some (rv 129), some (iv a1), some (iv a2), some (iv a3), some (iv a4), some (iv a5), none] [] M (k36 M a1 a2 a3 a4 a5)) (M : Mem) (a1 : Int) (a2 : Int) (a3 : Int) (a5 : Int) (s0 : Int) (s1 : Int) : Y RX0 cX0_walk 7 1 3 none 98 [some (rv 129), some (iv a1), some (iv a2), some (iv a3), none, some (iv a5), none] [iv s0, iv s1] M (m_X0_walk_98 n k36 M a1 a2 a3 a5 s0 s1) := by
  unfold m_X0_walk_98
  refine y_iadd (pc := 98) dX0_walk_98 ?_
  refine y_istore (L' := [some (rv 129), some (iv a1), some (iv a2), some (iv a3), some (iv (s1 + s0)), some (iv a5), none]) (pc := 99) dX0_walk_99 (by decide) rfl rfl ?_
  refine y_iinc (L' := [some (rv 129), some (iv a1), some (iv a2), some (iv a3), some (iv (s1 + s0)), some (iv (a5 + 1)), none]) (pc := 101) dX0_walk_101 rfl (by decide) rfl rfl ?_
  refine y_goto (tgt := 36) (pc := 104) dX0_walk_104 (by decide) ?_
  exact y_sub (ls_s (ls_s (ls_s (ls_s (ls_s (ls_s (ls_n ls_0))))))) (hk36 M a1 a2 a3 (s1 + s0) (a5 + 1))
def m_X0_walk_79 (n : Nat) (k36 : Mem → Int → Int → Int → Int → Int → Rs) (M : Mem) (a1 : Int) (a2 : Int) (a3 : Int) (a5 : Int) (s0 : Int) (s1 : Int) : Rs := k36 M a1 a2 a3 (s1 + s0) (a5 + 1)
theorem t_X0_walk_79 (n : Nat) (k36 : Mem → Int → Int → Int → Int → Int → Rs) (hk36 : ∀ (M : Mem) (a1 : Int) (a2 : Int) (a3 : Int) (a4 : Int) (a5 : Int), Y RX0 cX0_walk 7 1 3 none 36 [some (rv 129), some (iv a1), some (iv a2), some (iv a3), some (iv a4), some (iv a5), none] [] M (k36 M a1 a2 a3 a4 a5)) (M : Mem) (a1 : Int) (a2 : Int) (a3 : Int) (a5 : Int) (s0 : Int) (s1 : Int) : Y RX0 cX0_walk 7 1 3 none 79 [some (rv 129), some (iv a1), some (iv a2), some (iv a3), none, some (iv a5), none] [iv s0, iv s1] M (m_X0_walk_79 n k36 M a1 a2 a3 a5 s0 s1) := by
  unfold m_X0_walk_79
  refine y_iadd (pc := 79) dX0_walk_79 ?_
  refine y_istore (L' := [some (rv 129), some (iv a1), some (iv a2), some (iv a3), some (iv (s1 + s0)), some (iv a5), none]) (pc := 80) dX0_walk_80 (by decide) rfl rfl ?_
  refine y_goto (tgt := 101) (pc := 82) dX0_walk_82 (by decide) ?_
  refine y_iinc (L' := [some (rv 129), some (iv a1), some (iv a2), some (iv a3), some (iv (s1 + s0)), some (iv (a5 + 1)), none]) (pc := 101) dX0_walk_101 rfl (by decide) rfl rfl ?_
  refine y_goto (tgt := 36) (pc := 104) dX0_walk_104 (by decide) ?_
  exact y_sub (ls_s (ls_s (ls_s (ls_s (ls_s (ls_s (ls_n ls_0))))))) (hk36 M a1 a2 a3 (s1 + s0) (a5 + 1))
def m_X0_walk_36 (n : Nat) : Nat → Mem → Int → Int → Int → Int → Int → Rs
  | 0, _, _, _, _, _, _ => none
  | t + 1, M, a1, a2, a3, a4, a5 => if I32 a5 then (if I32 a3 then (if a3 ≤ a5 then (m_X0_walk_107 n M a1 a4) else (if I32 a4 then (if I32 a2 then (if a4 = a2 then (m_X0_walk_107 n M a1 a4) else (lt ((Int.tdiv a2 6) - (Int.tdiv a4 6)) (fun x9 => if I32 x9 then (if x9 = 0 then (if a2 ≤ a4 then (m_X0_walk_98 n (m_X0_walk_36 n t) M a1 a2 a3 a5 (-1) a4) else (m_X0_walk_98 n (m_X0_walk_36 n t) M a1 a2 a3 a5 1 a4)) else (if x9 ≤ 0 then (m_X0_walk_79 n (m_X0_walk_36 n t) M a1 a2 a3 a5 (-6) a4) else (m_X0_walk_79 n (m_X0_walk_36 n t) M a1 a2 a3 a5 6 a4))) else none))) else none) else none)) else none) else none
theorem t_X0_walk_36 (n : Nat) : ∀ (t : Nat) (M : Mem) (a1 : Int) (a2 : Int) (a3 : Int) (a4 : Int) (a5 : Int), Y RX0 cX0_walk 7 1 3 none 36 [some (rv 129), some (iv a1), some (iv a2), some (iv a3), some (iv a4), some (iv a5), none] [] M (m_X0_walk_36 n t M a1 a2 a3 a4 a5) := by
  intro t
  induction t with
  | zero => intro M a1 a2 a3 a4 a5; exact y_none
  | succ t ih =>
    intro M a1 a2 a3 a4 a5
    rewrite [m_X0_walk_36]
    refine y_iload (pc := 36) dX0_walk_36 rfl ?_
    refine y_iload_n (pc := 38) dX0_walk_38 rfl ?_
    refine y_gd (fun h3 => ?_)
    refine y_gd (fun h4 => ?_)
    refine y_icmp_ge (off := 68) (tgt := 107) (pc := 39) dX0_walk_39 (by decide) h3 h4 (fun h5 => ?_) (fun h5 => ?_)
    · exact y_sub (ls_s (ls_s (ls_n (ls_n (ls_s (ls_n (ls_n ls_0))))))) (t_X0_walk_107 n M a1 a4)
    · refine y_iload (pc := 42) dX0_walk_42 rfl ?_
      refine y_iload_n (pc := 44) dX0_walk_44 rfl ?_
      refine y_gd (fun h6 => ?_)
      refine y_gd (fun h7 => ?_)
      refine y_icmp_eq (off := 62) (tgt := 107) (pc := 45) dX0_walk_45 (by decide) h6 h7 (fun h8 => ?_) (fun h8 => ?_)
      · exact y_sub (ls_s (ls_s (ls_n (ls_n (ls_s (ls_n (ls_n ls_0))))))) (t_X0_walk_107 n M a1 a4)
      · refine y_iload_n (pc := 48) dX0_walk_48 rfl ?_
        refine y_bipush (pc := 49) dX0_walk_49 (by decide) ?_
        refine y_idiv (pc := 51) dX0_walk_51 h7 (by decide) (by decide) ?_
        refine y_iload (pc := 52) dX0_walk_52 rfl ?_
        refine y_bipush (pc := 54) dX0_walk_54 (by decide) ?_
        refine y_idiv (pc := 56) dX0_walk_56 h6 (by decide) (by decide) ?_
        refine y_isub (pc := 57) dX0_walk_57 ?_
        refine y_leti (fun x9 => ?_)
        refine y_istore (L' := [some (rv 129), some (iv a1), some (iv a2), some (iv a3), some (iv a4), some (iv a5), some (iv x9)]) (pc := 58) dX0_walk_58 (by decide) rfl rfl ?_
        refine y_iload (pc := 60) dX0_walk_60 rfl ?_
        refine y_gd (fun h10 => ?_)
        refine y_if_eq (off := 23) (tgt := 85) (pc := 62) dX0_walk_62 (by decide) h10 (fun h11 => ?_) (fun h11 => ?_)
        · refine y_iload (pc := 85) dX0_walk_85 rfl ?_
          refine y_iload_n (pc := 87) dX0_walk_87 rfl ?_
          refine y_iload (pc := 88) dX0_walk_88 rfl ?_
          refine y_icmp_le (off := 7) (tgt := 97) (pc := 90) dX0_walk_90 (by decide) h7 h6 (fun h12 => ?_) (fun h12 => ?_)
          · refine y_iconst (pc := 97) dX0_walk_97 ?_
            exact y_sub (ls_s (ls_s (ls_s (ls_s (ls_n (ls_s (ls_n ls_0))))))) (t_X0_walk_98 n (m_X0_walk_36 n t) ih M a1 a2 a3 a5 (-1) a4)
          · refine y_iconst (pc := 93) dX0_walk_93 ?_
            refine y_goto (tgt := 98) (pc := 94) dX0_walk_94 (by decide) ?_
            exact y_sub (ls_s (ls_s (ls_s (ls_s (ls_n (ls_s (ls_n ls_0))))))) (t_X0_walk_98 n (m_X0_walk_36 n t) ih M a1 a2 a3 a5 1 a4)
        · refine y_iload (pc := 65) dX0_walk_65 rfl ?_
          refine y_iload (pc := 67) dX0_walk_67 rfl ?_
          refine y_if_le (off := 8) (tgt := 77) (pc := 69) dX0_walk_69 (by decide) h10 (fun h13 => ?_) (fun h13 => ?_)
          · refine y_bipush (pc := 77) dX0_walk_77 (by decide) ?_
            exact y_sub (ls_s (ls_s (ls_s (ls_s (ls_n (ls_s (ls_n ls_0))))))) (t_X0_walk_79 n (m_X0_walk_36 n t) ih M a1 a2 a3 a5 (-6) a4)
          · refine y_bipush (pc := 72) dX0_walk_72 (by decide) ?_
            refine y_goto (tgt := 79) (pc := 74) dX0_walk_74 (by decide) ?_
            exact y_sub (ls_s (ls_s (ls_s (ls_s (ls_n (ls_s (ls_n ls_0))))))) (t_X0_walk_79 n (m_X0_walk_36 n t) ih M a1 a2 a3 a5 6 a4)
def m_X0_walk (n : Nat) (M : Mem) (a1 : Int) (a2 : Int) : Rs := if 0 ≤ a1 ∧ a1 < 5 then (bd (m_X1_pace n M (rd M 29 (Int.toNat a1)) (rd M 30 (Int.toNat a1))) (fun r16 M15 => lt (rd M15 32 (Int.toNat a1)) (fun x17 => m_X0_walk_36 n n M15 a1 a2 r16 x17 0))) else none
theorem y_X0_walk (n : Nat) (M : Mem) (a1 : Int) (a2 : Int) : Y RX0 cX0_walk 7 1 3 none 0 [some (rv 129), some (iv a1), some (iv a2), none, none, none, none] [] M (m_X0_walk n M a1 a2) := by
  unfold m_X0_walk
  refine y_aload_n (pc := 0) dX0_walk_0 rfl ?_
  refine y_getref (pc := 1) (x := 22) g_X0_12 dX0_walk_1 ?_
  refine y_getref (pc := 4) (x := 29) (g_X0_64 (by decide)) dX0_walk_4 ?_
  refine y_iload_n (pc := 7) dX0_walk_7 rfl ?_
  refine y_gd (fun h14 => ?_)
  refine y_iald (pc := 8) dX0_walk_8 ar_29 h14 ?_
  refine y_aload_n (pc := 9) dX0_walk_9 rfl ?_
  refine y_getref (pc := 10) (x := 22) g_X0_12 dX0_walk_10 ?_
  refine y_getref (pc := 13) (x := 30) (g_X0_67 (by decide)) dX0_walk_13 ?_
  refine y_iload_n (pc := 16) dX0_walk_16 rfl ?_
  refine y_iald (pc := 17) dX0_walk_17 ar_30 h14 ?_
  refine y_callSi (pc := 18) s_X1_pace l_X0_114 dX0_walk_18 (c_X1_pace n _ _ _) (fun _ h => nomatch h) rfl rfl (by decide) (by decide) (Nat.le_of_ble_eq_true rfl) (fun r16 M15 _ => ?_)
  refine y_istore_n (L' := [some (rv 129), some (iv a1), some (iv a2), some (iv r16), none, none, none]) (pc := 21) dX0_walk_21 (by decide) rfl rfl ?_
  refine y_aload_n (pc := 22) dX0_walk_22 rfl ?_
  refine y_getref (pc := 23) (x := 22) g_X0_12 dX0_walk_23 ?_
  refine y_getref (pc := 26) (x := 32) (g_X0_61 (by decide)) dX0_walk_26 ?_
  refine y_iload_n (pc := 29) dX0_walk_29 rfl ?_
  refine y_iald (pc := 30) dX0_walk_30 ar_32 h14 ?_
  refine y_leti (fun x17 => ?_)
  refine y_istore (L' := [some (rv 129), some (iv a1), some (iv a2), some (iv r16), some (iv x17), none, none]) (pc := 31) dX0_walk_31 (by decide) rfl rfl ?_
  refine y_iconst (pc := 33) dX0_walk_33 ?_
  refine y_istore (L' := [some (rv 129), some (iv a1), some (iv a2), some (iv r16), some (iv x17), some (iv 0), none]) (pc := 34) dX0_walk_34 (by decide) rfl rfl ?_
  exact y_sub (ls_s (ls_s (ls_s (ls_s (ls_s (ls_s (ls_n ls_0))))))) (t_X0_walk_36 n n M15 a1 a2 r16 x17 0)
theorem c_X0_walk (n : Nat) (M : Mem) (a1 : Int) (a2 : Int) : ∀ res : Int × Mem, m_X0_walk n M a1 a2 = some res → CTv none yX0_walk cX0_walk 7 1 [rv 129, iv a1, iv a2] M res := CTv_of (by decide +kernel) rfl (Nat.le_of_ble_eq_true rfl) rfl (y_X0_walk n M a1 a2)
def m_X0_goOn_34 (n : Nat) (k6 : Mem → Int → Int → Rs) : Nat → Mem → Int → Int → Int → Rs
  | 0, _, _, _, _ => none
  | t + 1, M, a1, a2, a3 => if I32 a3 then (if (rd M 22 12) ≤ a3 then (k6 M a1 (a2 + 1)) else (bd (m_X0_goal n M a3) (fun r4 M3 => bd (m_X0_walk n M3 a3 r4) (fun _ M5 => if 0 ≤ a3 ∧ a3 < 5 then (bd (m_X0_isInFog n M5 (rd M5 32 (Int.toNat a3))) (fun r8 M7 => if I32 r8 then (if r8 = 0 then ((m_X0_goOn_34 n k6 t) M7 a1 a2 (a3 + 1)) else (bd (m_X0_grab n M7 a3) (fun _ M11 => (m_X0_goOn_34 n k6 t) M11 a1 a2 (a3 + 1)))) else none)) else none)))) else none
theorem t_X0_goOn_34 (n : Nat) (k6 : Mem → Int → Int → Rs) (hk6 : ∀ (M : Mem) (a1 : Int) (a2 : Int), Y RX0 cX0_goOn 4 4 3 none 6 [some (rv 129), some (iv a1), some (iv a2), none] [] M (k6 M a1 a2)) : ∀ (t : Nat) (M : Mem) (a1 : Int) (a2 : Int) (a3 : Int), Y RX0 cX0_goOn 4 4 3 none 34 [some (rv 129), some (iv a1), some (iv a2), some (iv a3)] [] M (m_X0_goOn_34 n k6 t M a1 a2 a3) := by
  intro t
  induction t with
  | zero => intro M a1 a2 a3; exact y_none
  | succ t ih =>
    intro M a1 a2 a3
    rewrite [m_X0_goOn_34]
    refine y_iload_n (pc := 34) dX0_goOn_34 rfl ?_
    refine y_aload_n (pc := 35) dX0_goOn_35 rfl ?_
    refine y_getref (pc := 36) (x := 22) g_X0_12 dX0_goOn_36 ?_
    refine y_getint (pc := 39) (g_X0_58 (by decide)) dX0_goOn_39 ?_
    refine y_gd (fun h1 => ?_)
    refine y_icmp_ge (off := 40) (tgt := 82) (pc := 42) dX0_goOn_42 (by decide) h1 (rd_rng _ _ _) (fun h2 => ?_) (fun h2 => ?_)
    · refine y_iinc (L' := [some (rv 129), some (iv a1), some (iv (a2 + 1)), some (iv a3)]) (pc := 82) dX0_goOn_82 rfl (by decide) rfl rfl ?_
      refine y_goto (tgt := 6) (pc := 85) dX0_goOn_85 (by decide) ?_
      exact y_sub (ls_s (ls_s (ls_s (ls_n ls_0)))) (hk6 M a1 (a2 + 1))
    · refine y_aload_n (pc := 45) dX0_goOn_45 rfl ?_
      refine y_iload_n (pc := 46) dX0_goOn_46 rfl ?_
      refine y_aload_n (pc := 47) dX0_goOn_47 rfl ?_
      refine y_iload_n (pc := 48) dX0_goOn_48 rfl ?_
      refine y_callVi (pc := 49) v_X0_goal l_X0_94 dX0_goOn_49 (c_X0_goal n _ _) (fun _ h => nomatch h) rfl rc_X0 rfl (by decide) (by decide) (Nat.le_of_ble_eq_true rfl) (fun r4 M3 _ => ?_)
      refine y_callVv (pc := 52) v_X0_walk l_X0_97 dX0_goOn_52 (c_X0_walk n _ _ _) (fun _ h => nomatch h) rfl rc_X0 rfl (by decide) (by decide) (Nat.le_of_ble_eq_true rfl) (fun _ M5 _ => ?_)
      refine y_aload_n (pc := 55) dX0_goOn_55 rfl ?_
      refine y_aload_n (pc := 56) dX0_goOn_56 rfl ?_
      refine y_getref (pc := 57) (x := 22) g_X0_12 dX0_goOn_57 ?_
      refine y_getref (pc := 60) (x := 32) (g_X0_61 (by decide)) dX0_goOn_60 ?_
      refine y_iload_n (pc := 63) dX0_goOn_63 rfl ?_
      refine y_gd (fun h6 => ?_)
      refine y_iald (pc := 64) dX0_goOn_64 ar_32 h6 ?_
      refine y_callVi (pc := 65) v_X0_isInFog l_X0_87 dX0_goOn_65 (c_X0_isInFog n _ _) (fun _ h => nomatch h) rfl rc_X0 rfl (by decide) (by decide) (Nat.le_of_ble_eq_true rfl) (fun r8 M7 _ => ?_)
      refine y_gd (fun h9 => ?_)
      refine y_if_eq (off := 8) (tgt := 76) (pc := 68) dX0_goOn_68 (by decide) h9 (fun h10 => ?_) (fun h10 => ?_)
      · refine y_iinc (L' := [some (rv 129), some (iv a1), some (iv a2), some (iv (a3 + 1))]) (pc := 76) dX0_goOn_76 rfl (by decide) rfl rfl ?_
        refine y_goto (tgt := 34) (pc := 79) dX0_goOn_79 (by decide) ?_
        exact y_sub (ls_s (ls_s (ls_s (ls_s ls_0)))) (ih M7 a1 a2 (a3 + 1))
      · refine y_aload_n (pc := 71) dX0_goOn_71 rfl ?_
        refine y_iload_n (pc := 72) dX0_goOn_72 rfl ?_
        refine y_callVv (pc := 73) v_X0_grab l_X0_101 dX0_goOn_73 (c_X0_grab n _ _) (fun _ h => nomatch h) rfl rc_X0 rfl (by decide) (by decide) (Nat.le_of_ble_eq_true rfl) (fun _ M11 _ => ?_)
        refine y_iinc (L' := [some (rv 129), some (iv a1), some (iv a2), some (iv (a3 + 1))]) (pc := 76) dX0_goOn_76 rfl (by decide) rfl rfl ?_
        refine y_goto (tgt := 34) (pc := 79) dX0_goOn_79 (by decide) ?_
        exact y_sub (ls_s (ls_s (ls_s (ls_s ls_0)))) (ih M11 a1 a2 (a3 + 1))
def m_X0_goOn_6 (n : Nat) : Nat → Mem → Int → Int → Rs
  | 0, _, _, _ => none
  | t + 1, M, a1, a2 => if I32 a2 then (if I32 a1 then (if a1 ≤ a2 then (some (0, M)) else (wr M 22 13 ((rd M 22 13) + 1) (fun M15 => bd (m_X0_look n M15) (fun _ M16 => bd (m_X0_dropInTheClear n M16) (fun _ M17 => m_X0_goOn_34 n (m_X0_goOn_6 n t) n M17 a1 a2 0))))) else none) else none
theorem t_X0_goOn_6 (n : Nat) : ∀ (t : Nat) (M : Mem) (a1 : Int) (a2 : Int), Y RX0 cX0_goOn 4 4 3 none 6 [some (rv 129), some (iv a1), some (iv a2), none] [] M (m_X0_goOn_6 n t M a1 a2) := by
  intro t
  induction t with
  | zero => intro M a1 a2; exact y_none
  | succ t ih =>
    intro M a1 a2
    rewrite [m_X0_goOn_6]
    refine y_iload_n (pc := 6) dX0_goOn_6 rfl ?_
    refine y_iload_n (pc := 7) dX0_goOn_7 rfl ?_
    refine y_gd (fun h12 => ?_)
    refine y_gd (fun h13 => ?_)
    refine y_icmp_ge (off := 80) (tgt := 88) (pc := 8) dX0_goOn_8 (by decide) h12 h13 (fun h14 => ?_) (fun h14 => ?_)
    · exact y_vret (pc := 88) dX0_goOn_88
    · refine y_aload_n (pc := 11) dX0_goOn_11 rfl ?_
      refine y_getref (pc := 12) (x := 22) g_X0_12 dX0_goOn_12 ?_
      refine y_dup (pc := 15) dX0_goOn_15 rfl ?_
      refine y_getint (pc := 16) (g_X0_43 (by decide)) dX0_goOn_16 ?_
      refine y_iconst (pc := 19) dX0_goOn_19 ?_
      refine y_iadd (pc := 20) dX0_goOn_20 ?_
      refine y_putintw (pc := 21) (pf_X0_43 (by decide)) dX0_goOn_21 (fun M15 => ?_)
      refine y_aload_n (pc := 24) dX0_goOn_24 rfl ?_
      refine y_callVv (pc := 25) v_X0_look l_X0_40 dX0_goOn_25 (c_X0_look n _) (fun _ h => nomatch h) rfl rc_X0 rfl (by decide) (by decide) (Nat.le_of_ble_eq_true rfl) (fun _ M16 _ => ?_)
      refine y_aload_n (pc := 28) dX0_goOn_28 rfl ?_
      refine y_callVv (pc := 29) v_X0_dropInTheClear l_X0_91 dX0_goOn_29 (c_X0_dropInTheClear n _) (fun _ h => nomatch h) rfl rc_X0 rfl (by decide) (by decide) (Nat.le_of_ble_eq_true rfl) (fun _ M17 _ => ?_)
      refine y_iconst (pc := 32) dX0_goOn_32 ?_
      refine y_istore_n (L' := [some (rv 129), some (iv a1), some (iv a2), some (iv 0)]) (pc := 33) dX0_goOn_33 (by decide) rfl rfl ?_
      exact y_sub (ls_s (ls_s (ls_s (ls_s ls_0)))) (t_X0_goOn_34 n (m_X0_goOn_6 n t) ih n M17 a1 a2 0)
def m_X0_goOn (n : Nat) (M : Mem) (a1 : Int) : Rs := bd (m_X0_look n M) (fun _ M18 => m_X0_goOn_6 n n M18 a1 0)
theorem y_X0_goOn (n : Nat) (M : Mem) (a1 : Int) : Y RX0 cX0_goOn 4 4 3 none 0 [some (rv 129), some (iv a1), none, none] [] M (m_X0_goOn n M a1) := by
  unfold m_X0_goOn
  refine y_aload_n (pc := 0) dX0_goOn_0 rfl ?_
  refine y_callVv (pc := 1) v_X0_look l_X0_40 dX0_goOn_1 (c_X0_look n _) (fun _ h => nomatch h) rfl rc_X0 rfl (by decide) (by decide) (Nat.le_of_ble_eq_true rfl) (fun _ M18 _ => ?_)
  refine y_iconst (pc := 4) dX0_goOn_4 ?_
  refine y_istore_n (L' := [some (rv 129), some (iv a1), some (iv 0), none]) (pc := 5) dX0_goOn_5 (by decide) rfl rfl ?_
  exact y_sub (ls_s (ls_s (ls_s (ls_n ls_0)))) (t_X0_goOn_6 n n M18 a1 0)
theorem c_X0_goOn (n : Nat) (M : Mem) (a1 : Int) : ∀ res : Int × Mem, m_X0_goOn n M a1 = some res → CTv none yX0_goOn cX0_goOn 4 4 [rv 129, iv a1] M res := CTv_of (by decide +kernel) rfl (Nat.le_of_ble_eq_true rfl) rfl (y_X0_goOn n M a1)
def m_X2_spread (n : Nat) (M : Mem) (a0 : Int) (a1 : Int) : Rs := lt (bShl (bAnd a0 (-8521761)) 1) (fun x1 => lt (bShr (bAnd a0 (-266306)) 1) (fun x2 => some ((bAnd (bOr (bOr (bOr (bOr a0 (bShl a0 6)) (bShr a0 6)) x1) x2) a1), M)))
theorem y_X2_spread (n : Nat) (M : Mem) (a0 : Int) (a1 : Int) : Y RX2 cX2_spread 4 0 0 none 0 [some (iv a0), some (iv a1), none, none] [] M (m_X2_spread n M a0 a1) := by
  unfold m_X2_spread
  refine y_iload_n (pc := 0) dX2_spread_0 rfl ?_
  refine y_ldc (pc := 1) (n := (-8521761)) k_X2_11 (by decide) dX2_spread_1 ?_
  refine y_iand (pc := 3) dX2_spread_3 ?_
  refine y_iconst (pc := 4) dX2_spread_4 ?_
  refine y_ishl (pc := 5) dX2_spread_5 ?_
  refine y_leti (fun x1 => ?_)
  refine y_istore_n (L' := [some (iv a0), some (iv a1), some (iv x1), none]) (pc := 6) dX2_spread_6 (by decide) rfl rfl ?_
  refine y_iload_n (pc := 7) dX2_spread_7 rfl ?_
  refine y_ldc (pc := 8) (n := (-266306)) k_X2_12 (by decide) dX2_spread_8 ?_
  refine y_iand (pc := 10) dX2_spread_10 ?_
  refine y_iconst (pc := 11) dX2_spread_11 ?_
  refine y_ishr (pc := 12) dX2_spread_12 ?_
  refine y_leti (fun x2 => ?_)
  refine y_istore_n (L' := [some (iv a0), some (iv a1), some (iv x1), some (iv x2)]) (pc := 13) dX2_spread_13 (by decide) rfl rfl ?_
  refine y_iload_n (pc := 14) dX2_spread_14 rfl ?_
  refine y_iload_n (pc := 15) dX2_spread_15 rfl ?_
  refine y_bipush (pc := 16) dX2_spread_16 (by decide) ?_
  refine y_ishl (pc := 18) dX2_spread_18 ?_
  refine y_ior (pc := 19) dX2_spread_19 ?_
  refine y_iload_n (pc := 20) dX2_spread_20 rfl ?_
  refine y_bipush (pc := 21) dX2_spread_21 (by decide) ?_
  refine y_ishr (pc := 23) dX2_spread_23 ?_
  refine y_ior (pc := 24) dX2_spread_24 ?_
  refine y_iload_n (pc := 25) dX2_spread_25 rfl ?_
  refine y_ior (pc := 26) dX2_spread_26 ?_
  refine y_iload_n (pc := 27) dX2_spread_27 rfl ?_
  refine y_ior (pc := 28) dX2_spread_28 ?_
  refine y_iload_n (pc := 29) dX2_spread_29 rfl ?_
  refine y_iand (pc := 30) dX2_spread_30 ?_
  exact y_iret (pc := 31) dX2_spread_31
theorem c_X2_spread (n : Nat) (M : Mem) (a0 : Int) (a1 : Int) : ∀ res : Int × Mem, m_X2_spread n M a0 a1 = some res → CTi none yX2_spread cX2_spread 4 (some .int) 0 [iv a0, iv a1] M res := CTi_of (by decide +kernel) rfl (Nat.le_of_ble_eq_true rfl) rfl (y_X2_spread n M a0 a1)
def m_X2_pieceWith_8 (n : Nat) : Nat → Mem → Int → Int → Int → Rs
  | 0, _, _, _, _ => none
  | t + 1, M, a1, a2, a3 => if I32 a3 then (if 24 ≤ a3 then (some (a2, M)) else (bd (m_X2_spread n M a2 a1) (fun r4 M3 => (m_X2_pieceWith_8 n t) M3 a1 r4 (a3 + 1)))) else none
theorem t_X2_pieceWith_8 (n : Nat) : ∀ (t : Nat) (M : Mem) (a1 : Int) (a2 : Int) (a3 : Int), Y RX2 cX2_pieceWith 4 1 0 none 8 [none, some (iv a1), some (iv a2), some (iv a3)] [] M (m_X2_pieceWith_8 n t M a1 a2 a3) := by
  intro t
  induction t with
  | zero => intro M a1 a2 a3; exact y_none
  | succ t ih =>
    intro M a1 a2 a3
    rewrite [m_X2_pieceWith_8]
    refine y_iload_n (pc := 8) dX2_pieceWith_8 rfl ?_
    refine y_bipush (pc := 9) dX2_pieceWith_9 (by decide) ?_
    refine y_gd (fun h1 => ?_)
    refine y_icmp_ge (off := 15) (tgt := 26) (pc := 11) dX2_pieceWith_11 (by decide) h1 (by decide) (fun h2 => ?_) (fun h2 => ?_)
    · refine y_iload_n (pc := 26) dX2_pieceWith_26 rfl ?_
      exact y_iret (pc := 27) dX2_pieceWith_27
    · refine y_iload_n (pc := 14) dX2_pieceWith_14 rfl ?_
      refine y_iload_n (pc := 15) dX2_pieceWith_15 rfl ?_
      refine y_callSi (pc := 16) s_X2_spread l_X2_13 dX2_pieceWith_16 (c_X2_spread n _ _ _) (fun _ h => nomatch h) rfl rfl (by decide) (by decide) (Nat.le_of_ble_eq_true rfl) (fun r4 M3 _ => ?_)
      refine y_istore_n (L' := [none, some (iv a1), some (iv r4), some (iv a3)]) (pc := 19) dX2_pieceWith_19 (by decide) rfl rfl ?_
      refine y_iinc (L' := [none, some (iv a1), some (iv r4), some (iv (a3 + 1))]) (pc := 20) dX2_pieceWith_20 rfl (by decide) rfl rfl ?_
      refine y_goto (tgt := 8) (pc := 23) dX2_pieceWith_23 (by decide) ?_
      exact y_sub (ls_n (ls_s (ls_s (ls_s ls_0)))) (ih M3 a1 r4 (a3 + 1))
def m_X2_pieceWith (n : Nat) (M : Mem) (a0 : Int) (a1 : Int) : Rs := m_X2_pieceWith_8 n n M a1 (bAnd a1 (bShl 1 a0)) 0
theorem y_X2_pieceWith (n : Nat) (M : Mem) (a0 : Int) (a1 : Int) : Y RX2 cX2_pieceWith 4 1 0 none 0 [some (iv a0), some (iv a1), none, none] [] M (m_X2_pieceWith n M a0 a1) := by
  unfold m_X2_pieceWith
  refine y_iload_n (pc := 0) dX2_pieceWith_0 rfl ?_
  refine y_iconst (pc := 1) dX2_pieceWith_1 ?_
  refine y_iload_n (pc := 2) dX2_pieceWith_2 rfl ?_
  refine y_ishl (pc := 3) dX2_pieceWith_3 ?_
  refine y_iand (pc := 4) dX2_pieceWith_4 ?_
  refine y_istore_n (L' := [some (iv a0), some (iv a1), some (iv (bAnd a1 (bShl 1 a0))), none]) (pc := 5) dX2_pieceWith_5 (by decide) rfl rfl ?_
  refine y_iconst (pc := 6) dX2_pieceWith_6 ?_
  refine y_istore_n (L' := [some (iv a0), some (iv a1), some (iv (bAnd a1 (bShl 1 a0))), some (iv 0)]) (pc := 7) dX2_pieceWith_7 (by decide) rfl rfl ?_
  exact y_sub (ls_n (ls_s (ls_s (ls_s ls_0)))) (t_X2_pieceWith_8 n n M a1 (bAnd a1 (bShl 1 a0)) 0)
theorem c_X2_pieceWith (n : Nat) (M : Mem) (a0 : Int) (a1 : Int) : ∀ res : Int × Mem, m_X2_pieceWith n M a0 a1 = some res → CTi none yX2_pieceWith cX2_pieceWith 4 (some .int) 1 [iv a0, iv a1] M res := CTi_of (by decide +kernel) rfl (Nat.le_of_ble_eq_true rfl) rfl (y_X2_pieceWith n M a0 a1)
def m_X2_howMany_6 (n : Nat) : Nat → Mem → Int → Int → Int → Int → Rs
  | 0, _, _, _, _, _ => none
  | t + 1, M, a0, a1, a2, a3 => if I32 a3 then (if 24 ≤ a3 then (some (a1, M)) else (if I32 (bAnd a2 (bShl 1 a3)) then (if (bAnd a2 (bShl 1 a3)) = 0 then ((m_X2_howMany_6 n t) M a0 a1 a2 (a3 + 1)) else (bd (m_X2_pieceWith n M a3 a0) (fun r6 M5 => lt (bAnd a2 (bXor r6 (-1))) (fun x7 => (m_X2_howMany_6 n t) M5 a0 (a1 + 1) x7 (a3 + 1))))) else none)) else none
theorem t_X2_howMany_6 (n : Nat) : ∀ (t : Nat) (M : Mem) (a0 : Int) (a1 : Int) (a2 : Int) (a3 : Int), Y RX2 cX2_howMany 4 2 0 none 6 [some (iv a0), some (iv a1), some (iv a2), some (iv a3)] [] M (m_X2_howMany_6 n t M a0 a1 a2 a3) := by
  intro t
  induction t with
  | zero => intro M a0 a1 a2 a3; exact y_none
  | succ t ih =>
    intro M a0 a1 a2 a3
    rewrite [m_X2_howMany_6]
    refine y_iload_n (pc := 6) dX2_howMany_6 rfl ?_
    refine y_bipush (pc := 7) dX2_howMany_7 (by decide) ?_
    refine y_gd (fun h1 => ?_)
    refine y_icmp_ge (off := 30) (tgt := 39) (pc := 9) dX2_howMany_9 (by decide) h1 (by decide) (fun h2 => ?_) (fun h2 => ?_)
    · refine y_iload_n (pc := 39) dX2_howMany_39 rfl ?_
      exact y_iret (pc := 40) dX2_howMany_40
    · refine y_iload_n (pc := 12) dX2_howMany_12 rfl ?_
      refine y_iconst (pc := 13) dX2_howMany_13 ?_
      refine y_iload_n (pc := 14) dX2_howMany_14 rfl ?_
      refine y_ishl (pc := 15) dX2_howMany_15 ?_
      refine y_iand (pc := 16) dX2_howMany_16 ?_
      refine y_gd (fun h3 => ?_)
      refine y_if_eq (off := 16) (tgt := 33) (pc := 17) dX2_howMany_17 (by decide) h3 (fun h4 => ?_) (fun h4 => ?_)
      · refine y_iinc (L' := [some (iv a0), some (iv a1), some (iv a2), some (iv (a3 + 1))]) (pc := 33) dX2_howMany_33 rfl (by decide) rfl rfl ?_
        refine y_goto (tgt := 6) (pc := 36) dX2_howMany_36 (by decide) ?_
        exact y_sub (ls_s (ls_s (ls_s (ls_s ls_0)))) (ih M a0 a1 a2 (a3 + 1))
      · refine y_iload_n (pc := 20) dX2_howMany_20 rfl ?_
        refine y_iload_n (pc := 21) dX2_howMany_21 rfl ?_
        refine y_iload_n (pc := 22) dX2_howMany_22 rfl ?_
        refine y_callSi (pc := 23) s_X2_pieceWith l_X2_17 dX2_howMany_23 (c_X2_pieceWith n _ _ _) (fun _ h => nomatch h) rfl rfl (by decide) (by decide) (Nat.le_of_ble_eq_true rfl) (fun r6 M5 _ => ?_)
        refine y_iconst (pc := 26) dX2_howMany_26 ?_
        refine y_ixor (pc := 27) dX2_howMany_27 ?_
        refine y_iand (pc := 28) dX2_howMany_28 ?_
        refine y_leti (fun x7 => ?_)
        refine y_istore_n (L' := [some (iv a0), some (iv a1), some (iv x7), some (iv a3)]) (pc := 29) dX2_howMany_29 (by decide) rfl rfl ?_
        refine y_iinc (L' := [some (iv a0), some (iv (a1 + 1)), some (iv x7), some (iv a3)]) (pc := 30) dX2_howMany_30 rfl (by decide) rfl rfl ?_
        refine y_iinc (L' := [some (iv a0), some (iv (a1 + 1)), some (iv x7), some (iv (a3 + 1))]) (pc := 33) dX2_howMany_33 rfl (by decide) rfl rfl ?_
        refine y_goto (tgt := 6) (pc := 36) dX2_howMany_36 (by decide) ?_
        exact y_sub (ls_s (ls_s (ls_s (ls_s ls_0)))) (ih M5 a0 (a1 + 1) x7 (a3 + 1))
def m_X2_howMany (n : Nat) (M : Mem) (a0 : Int) : Rs := m_X2_howMany_6 n n M a0 0 a0 0
theorem y_X2_howMany (n : Nat) (M : Mem) (a0 : Int) : Y RX2 cX2_howMany 4 2 0 none 0 [some (iv a0), none, none, none] [] M (m_X2_howMany n M a0) := by
  unfold m_X2_howMany
  refine y_iconst (pc := 0) dX2_howMany_0 ?_
  refine y_istore_n (L' := [some (iv a0), some (iv 0), none, none]) (pc := 1) dX2_howMany_1 (by decide) rfl rfl ?_
  refine y_iload_n (pc := 2) dX2_howMany_2 rfl ?_
  refine y_istore_n (L' := [some (iv a0), some (iv 0), some (iv a0), none]) (pc := 3) dX2_howMany_3 (by decide) rfl rfl ?_
  refine y_iconst (pc := 4) dX2_howMany_4 ?_
  refine y_istore_n (L' := [some (iv a0), some (iv 0), some (iv a0), some (iv 0)]) (pc := 5) dX2_howMany_5 (by decide) rfl rfl ?_
  exact y_sub (ls_s (ls_s (ls_s (ls_s ls_0)))) (t_X2_howMany_6 n n M a0 0 a0 0)
theorem c_X2_howMany (n : Nat) (M : Mem) (a0 : Int) : ∀ res : Int × Mem, m_X2_howMany n M a0 = some res → CTi none yX2_howMany cX2_howMany 4 (some .int) 2 [iv a0] M res := CTi_of (by decide +kernel) rfl (Nat.le_of_ble_eq_true rfl) rfl (y_X2_howMany n M a0)
def m_J6_bitCount_0f7a4 (n : Nat) (M : Mem) (a0 : Int) : Rs := lt (a0 - (bAnd (bUshr a0 1) 1431655765)) (fun x1 => lt ((bAnd x1 858993459) + (bAnd (bUshr x1 2) 858993459)) (fun x2 => lt (bAnd (x2 + (bUshr x2 4)) 252645135) (fun x3 => lt ((x3 + (bUshr x3 8)) + (bUshr (x3 + (bUshr x3 8)) 16)) (fun x4 => some ((bAnd x4 63), M)))))
theorem y_J6_bitCount_0f7a4 (n : Nat) (M : Mem) (a0 : Int) : Y RJ6 cJ6_bitCount_0f7a4 1 0 0 none 0 [some (iv a0)] [] M (m_J6_bitCount_0f7a4 n M a0) := by
  unfold m_J6_bitCount_0f7a4
  refine y_iload_n (pc := 0) dJ6_bitCount_0f7a4_0 rfl ?_
  refine y_iload_n (pc := 1) dJ6_bitCount_0f7a4_1 rfl ?_
  refine y_iconst (pc := 2) dJ6_bitCount_0f7a4_2 ?_
  refine y_iushr (pc := 3) dJ6_bitCount_0f7a4_3 ?_
  refine y_ldcw (pc := 4) (n := 1431655765) k_J6_265 (by decide) dJ6_bitCount_0f7a4_4 ?_
  refine y_iand (pc := 7) dJ6_bitCount_0f7a4_7 ?_
  refine y_isub (pc := 8) dJ6_bitCount_0f7a4_8 ?_
  refine y_leti (fun x1 => ?_)
  refine y_istore_n (L' := [some (iv x1)]) (pc := 9) dJ6_bitCount_0f7a4_9 (by decide) rfl rfl ?_
  refine y_iload_n (pc := 10) dJ6_bitCount_0f7a4_10 rfl ?_
  refine y_ldcw (pc := 11) (n := 858993459) k_J6_266 (by decide) dJ6_bitCount_0f7a4_11 ?_
  refine y_iand (pc := 14) dJ6_bitCount_0f7a4_14 ?_
  refine y_iload_n (pc := 15) dJ6_bitCount_0f7a4_15 rfl ?_
  refine y_iconst (pc := 16) dJ6_bitCount_0f7a4_16 ?_
  refine y_iushr (pc := 17) dJ6_bitCount_0f7a4_17 ?_
  refine y_ldcw (pc := 18) (n := 858993459) k_J6_266 (by decide) dJ6_bitCount_0f7a4_18 ?_
  refine y_iand (pc := 21) dJ6_bitCount_0f7a4_21 ?_
  refine y_iadd (pc := 22) dJ6_bitCount_0f7a4_22 ?_
  refine y_leti (fun x2 => ?_)
  refine y_istore_n (L' := [some (iv x2)]) (pc := 23) dJ6_bitCount_0f7a4_23 (by decide) rfl rfl ?_
  refine y_iload_n (pc := 24) dJ6_bitCount_0f7a4_24 rfl ?_
  refine y_iload_n (pc := 25) dJ6_bitCount_0f7a4_25 rfl ?_
  refine y_iconst (pc := 26) dJ6_bitCount_0f7a4_26 ?_
  refine y_iushr (pc := 27) dJ6_bitCount_0f7a4_27 ?_
  refine y_iadd (pc := 28) dJ6_bitCount_0f7a4_28 ?_
  refine y_ldcw (pc := 29) (n := 252645135) k_J6_267 (by decide) dJ6_bitCount_0f7a4_29 ?_
  refine y_iand (pc := 32) dJ6_bitCount_0f7a4_32 ?_
  refine y_leti (fun x3 => ?_)
  refine y_istore_n (L' := [some (iv x3)]) (pc := 33) dJ6_bitCount_0f7a4_33 (by decide) rfl rfl ?_
  refine y_iload_n (pc := 34) dJ6_bitCount_0f7a4_34 rfl ?_
  refine y_iload_n (pc := 35) dJ6_bitCount_0f7a4_35 rfl ?_
  refine y_bipush (pc := 36) dJ6_bitCount_0f7a4_36 (by decide) ?_
  refine y_iushr (pc := 38) dJ6_bitCount_0f7a4_38 ?_
  refine y_iadd (pc := 39) dJ6_bitCount_0f7a4_39 ?_
  refine y_istore_n (L' := [some (iv (x3 + (bUshr x3 8)))]) (pc := 40) dJ6_bitCount_0f7a4_40 (by decide) rfl rfl ?_
  refine y_iload_n (pc := 41) dJ6_bitCount_0f7a4_41 rfl ?_
  refine y_iload_n (pc := 42) dJ6_bitCount_0f7a4_42 rfl ?_
  refine y_bipush (pc := 43) dJ6_bitCount_0f7a4_43 (by decide) ?_
  refine y_iushr (pc := 45) dJ6_bitCount_0f7a4_45 ?_
  refine y_iadd (pc := 46) dJ6_bitCount_0f7a4_46 ?_
  refine y_leti (fun x4 => ?_)
  refine y_istore_n (L' := [some (iv x4)]) (pc := 47) dJ6_bitCount_0f7a4_47 (by decide) rfl rfl ?_
  refine y_iload_n (pc := 48) dJ6_bitCount_0f7a4_48 rfl ?_
  refine y_bipush (pc := 49) dJ6_bitCount_0f7a4_49 (by decide) ?_
  refine y_iand (pc := 51) dJ6_bitCount_0f7a4_51 ?_
  exact y_iret (pc := 52) dJ6_bitCount_0f7a4_52
theorem c_J6_bitCount_0f7a4 (n : Nat) (M : Mem) (a0 : Int) : ∀ res : Int × Mem, m_J6_bitCount_0f7a4 n M a0 = some res → CTi none yJ6_bitCount_0f7a4 cJ6_bitCount_0f7a4 1 (some .int) 0 [iv a0] M res := CTi_of (by decide +kernel) rfl (Nat.le_of_ble_eq_true rfl) rfl (y_J6_bitCount_0f7a4 n M a0)
def m_X2_greatest_4 (n : Nat) : Nat → Mem → Int → Int → Int → Rs
  | 0, _, _, _, _ => none
  | t + 1, M, a0, a1, a2 => if I32 a2 then (if 24 ≤ a2 then (some (a1, M)) else (bd (m_X2_pieceWith n M a2 a0) (fun r4 M3 => bd (m_J6_bitCount_0f7a4 n M3 r4) (fun r6 M5 => if I32 a1 then (if I32 r6 then ((m_X2_greatest_4 n t) M5 a0 (mxZ a1 r6) (a2 + 1)) else none) else none)))) else none
theorem t_X2_greatest_4 (n : Nat) : ∀ (t : Nat) (M : Mem) (a0 : Int) (a1 : Int) (a2 : Int), Y RX2 cX2_greatest 3 2 0 none 4 [some (iv a0), some (iv a1), some (iv a2)] [] M (m_X2_greatest_4 n t M a0 a1 a2) := by
  intro t
  induction t with
  | zero => intro M a0 a1 a2; exact y_none
  | succ t ih =>
    intro M a0 a1 a2
    rewrite [m_X2_greatest_4]
    refine y_iload_n (pc := 4) dX2_greatest_4 rfl ?_
    refine y_bipush (pc := 5) dX2_greatest_5 (by decide) ?_
    refine y_gd (fun h1 => ?_)
    refine y_icmp_ge (off := 22) (tgt := 29) (pc := 7) dX2_greatest_7 (by decide) h1 (by decide) (fun h2 => ?_) (fun h2 => ?_)
    · refine y_iload_n (pc := 29) dX2_greatest_29 rfl ?_
      exact y_iret (pc := 30) dX2_greatest_30
    · refine y_iload_n (pc := 10) dX2_greatest_10 rfl ?_
      refine y_iload_n (pc := 11) dX2_greatest_11 rfl ?_
      refine y_iload_n (pc := 12) dX2_greatest_12 rfl ?_
      refine y_callSi (pc := 13) s_X2_pieceWith l_X2_17 dX2_greatest_13 (c_X2_pieceWith n _ _ _) (fun _ h => nomatch h) rfl rfl (by decide) (by decide) (Nat.le_of_ble_eq_true rfl) (fun r4 M3 _ => ?_)
      refine y_callSi (pc := 16) s_J6_bitCount_0f7a4 l_X2_20 dX2_greatest_16 (c_J6_bitCount_0f7a4 n _ _) (fun _ h => nomatch h) rfl rfl (by decide) (by decide) (Nat.le_of_ble_eq_true rfl) (fun r6 M5 _ => ?_)
      refine y_gd (fun h7 => ?_)
      refine y_gd (fun h8 => ?_)
      refine y_mmaxw (pc := 19) h7 h8 l_X2_26 dX2_greatest_19 (Nat.le_of_ble_eq_true rfl) (by decide) ?_
      refine y_istore_n (L' := [some (iv a0), some (iv (mxZ a1 r6)), some (iv a2)]) (pc := 22) dX2_greatest_22 (by decide) rfl rfl ?_
      refine y_iinc (L' := [some (iv a0), some (iv (mxZ a1 r6)), some (iv (a2 + 1))]) (pc := 23) dX2_greatest_23 rfl (by decide) rfl rfl ?_
      refine y_goto (tgt := 4) (pc := 26) dX2_greatest_26 (by decide) ?_
      exact y_sub (ls_s (ls_s (ls_s ls_0))) (ih M5 a0 (mxZ a1 r6) (a2 + 1))
def m_X2_greatest (n : Nat) (M : Mem) (a0 : Int) : Rs := m_X2_greatest_4 n n M a0 0 0
theorem y_X2_greatest (n : Nat) (M : Mem) (a0 : Int) : Y RX2 cX2_greatest 3 2 0 none 0 [some (iv a0), none, none] [] M (m_X2_greatest n M a0) := by
  unfold m_X2_greatest
  refine y_iconst (pc := 0) dX2_greatest_0 ?_
  refine y_istore_n (L' := [some (iv a0), some (iv 0), none]) (pc := 1) dX2_greatest_1 (by decide) rfl rfl ?_
  refine y_iconst (pc := 2) dX2_greatest_2 ?_
  refine y_istore_n (L' := [some (iv a0), some (iv 0), some (iv 0)]) (pc := 3) dX2_greatest_3 (by decide) rfl rfl ?_
  exact y_sub (ls_s (ls_s (ls_s ls_0))) (t_X2_greatest_4 n n M a0 0 0)
theorem c_X2_greatest (n : Nat) (M : Mem) (a0 : Int) : ∀ res : Int × Mem, m_X2_greatest n M a0 = some res → CTi none yX2_greatest cX2_greatest 3 (some .int) 2 [iv a0] M res := CTi_of (by decide +kernel) rfl (Nat.le_of_ble_eq_true rfl) rfl (y_X2_greatest n M a0)
def m_X2_steps_9 (n : Nat) : Nat → Mem → Int → Int → Int → Int → Rs
  | 0, _, _, _, _, _ => none
  | t + 1, M, a1, a2, a3, a4 => if I32 a4 then (if 24 ≤ a4 then (some ((-9), M)) else (if I32 (bAnd a3 (bShl 1 a1)) then (if (bAnd a3 (bShl 1 a1)) = 0 then (bd (m_X2_spread n M a3 a2) (fun r6 M5 => (m_X2_steps_9 n t) M5 a1 a2 r6 (a4 + 1))) else (some (a4, M))) else none)) else none
theorem t_X2_steps_9 (n : Nat) : ∀ (t : Nat) (M : Mem) (a1 : Int) (a2 : Int) (a3 : Int) (a4 : Int), Y RX2 cX2_steps 5 1 0 none 9 [none, some (iv a1), some (iv a2), some (iv a3), some (iv a4)] [] M (m_X2_steps_9 n t M a1 a2 a3 a4) := by
  intro t
  induction t with
  | zero => intro M a1 a2 a3 a4; exact y_none
  | succ t ih =>
    intro M a1 a2 a3 a4
    rewrite [m_X2_steps_9]
    refine y_iload (pc := 9) dX2_steps_9 rfl ?_
    refine y_bipush (pc := 11) dX2_steps_11 (by decide) ?_
    refine y_gd (fun h1 => ?_)
    refine y_icmp_ge (off := 26) (tgt := 39) (pc := 13) dX2_steps_13 (by decide) h1 (by decide) (fun h2 => ?_) (fun h2 => ?_)
    · refine y_bipush (pc := 39) dX2_steps_39 (by decide) ?_
      exact y_iret (pc := 41) dX2_steps_41
    · refine y_iload_n (pc := 16) dX2_steps_16 rfl ?_
      refine y_iconst (pc := 17) dX2_steps_17 ?_
      refine y_iload_n (pc := 18) dX2_steps_18 rfl ?_
      refine y_ishl (pc := 19) dX2_steps_19 ?_
      refine y_iand (pc := 20) dX2_steps_20 ?_
      refine y_gd (fun h3 => ?_)
      refine y_if_eq (off := 6) (tgt := 27) (pc := 21) dX2_steps_21 (by decide) h3 (fun h4 => ?_) (fun h4 => ?_)
      · refine y_iload_n (pc := 27) dX2_steps_27 rfl ?_
        refine y_iload_n (pc := 28) dX2_steps_28 rfl ?_
        refine y_callSi (pc := 29) s_X2_spread l_X2_13 dX2_steps_29 (c_X2_spread n _ _ _) (fun _ h => nomatch h) rfl rfl (by decide) (by decide) (Nat.le_of_ble_eq_true rfl) (fun r6 M5 _ => ?_)
        refine y_istore_n (L' := [none, some (iv a1), some (iv a2), some (iv r6), some (iv a4)]) (pc := 32) dX2_steps_32 (by decide) rfl rfl ?_
        refine y_iinc (L' := [none, some (iv a1), some (iv a2), some (iv r6), some (iv (a4 + 1))]) (pc := 33) dX2_steps_33 rfl (by decide) rfl rfl ?_
        refine y_goto (tgt := 9) (pc := 36) dX2_steps_36 (by decide) ?_
        exact y_sub (ls_n (ls_s (ls_s (ls_s (ls_s ls_0))))) (ih M5 a1 a2 r6 (a4 + 1))
      · refine y_iload (pc := 24) dX2_steps_24 rfl ?_
        exact y_iret (pc := 26) dX2_steps_26
def m_X2_steps (n : Nat) (M : Mem) (a0 : Int) (a1 : Int) (a2 : Int) : Rs := m_X2_steps_9 n n M a1 a2 (bAnd a2 (bShl 1 a0)) 0
theorem y_X2_steps (n : Nat) (M : Mem) (a0 : Int) (a1 : Int) (a2 : Int) : Y RX2 cX2_steps 5 1 0 none 0 [some (iv a0), some (iv a1), some (iv a2), none, none] [] M (m_X2_steps n M a0 a1 a2) := by
  unfold m_X2_steps
  refine y_iload_n (pc := 0) dX2_steps_0 rfl ?_
  refine y_iconst (pc := 1) dX2_steps_1 ?_
  refine y_iload_n (pc := 2) dX2_steps_2 rfl ?_
  refine y_ishl (pc := 3) dX2_steps_3 ?_
  refine y_iand (pc := 4) dX2_steps_4 ?_
  refine y_istore_n (L' := [some (iv a0), some (iv a1), some (iv a2), some (iv (bAnd a2 (bShl 1 a0))), none]) (pc := 5) dX2_steps_5 (by decide) rfl rfl ?_
  refine y_iconst (pc := 6) dX2_steps_6 ?_
  refine y_istore (L' := [some (iv a0), some (iv a1), some (iv a2), some (iv (bAnd a2 (bShl 1 a0))), some (iv 0)]) (pc := 7) dX2_steps_7 (by decide) rfl rfl ?_
  exact y_sub (ls_n (ls_s (ls_s (ls_s (ls_s ls_0))))) (t_X2_steps_9 n n M a1 a2 (bAnd a2 (bShl 1 a0)) 0)
theorem c_X2_steps (n : Nat) (M : Mem) (a0 : Int) (a1 : Int) (a2 : Int) : ∀ res : Int × Mem, m_X2_steps n M a0 a1 a2 = some res → CTi none yX2_steps cX2_steps 5 (some .int) 1 [iv a0, iv a1, iv a2] M res := CTi_of (by decide +kernel) rfl (Nat.le_of_ble_eq_true rfl) rfl (y_X2_steps n M a0 a1 a2)
def m_X4_hasThing (n : Nat) (M : Mem) (a0 : Nat) (a1 : Int) : Rs := if isW a0 then (if I32 a1 then (if a1 < 0 then (some (0, M)) else (if (rd M a0 7) ≤ a1 then (some (0, M)) else (some (1, M)))) else none) else none
theorem y_X4_hasThing (n : Nat) (M : Mem) (a0 : Nat) (a1 : Int) : Y RX4 cX4_hasThing 2 0 1 none 0 [some (rv a0), some (iv a1)] [] M (m_X4_hasThing n M a0 a1) := by
  unfold m_X4_hasThing
  refine y_gd (fun ha0 => ?_)
  refine y_iload_n (pc := 0) dX4_hasThing_0 rfl ?_
  refine y_gd (fun h1 => ?_)
  refine y_if_lt (off := 15) (tgt := 16) (pc := 1) dX4_hasThing_1 (by decide) h1 (fun h2 => ?_) (fun h2 => ?_)
  · refine y_iconst (pc := 16) dX4_hasThing_16 ?_
    exact y_zret (pc := 17) dX4_hasThing_17 (by decide)
  · refine y_iload_n (pc := 4) dX4_hasThing_4 rfl ?_
    refine y_aload_n (pc := 5) dX4_hasThing_5 rfl ?_
    refine y_getint (pc := 6) (g_X4_34 ha0) dX4_hasThing_6 ?_
    refine y_icmp_ge (off := 7) (tgt := 16) (pc := 9) dX4_hasThing_9 (by decide) h1 (rd_rng _ _ _) (fun h3 => ?_) (fun h3 => ?_)
    · refine y_iconst (pc := 16) dX4_hasThing_16 ?_
      exact y_zret (pc := 17) dX4_hasThing_17 (by decide)
    · refine y_iconst (pc := 12) dX4_hasThing_12 ?_
      refine y_goto (tgt := 17) (pc := 13) dX4_hasThing_13 (by decide) ?_
      exact y_zret (pc := 17) dX4_hasThing_17 (by decide)
theorem c_X4_hasThing (n : Nat) (M : Mem) (a0 : Nat) (a1 : Int) : ∀ res : Int × Mem, m_X4_hasThing n M a0 a1 = some res → CTi none yX4_hasThing cX4_hasThing 2 (some .boolean) 0 [rv a0, iv a1] M res := CTz_of (by decide +kernel) rfl (Nat.le_of_ble_eq_true rfl) rfl (y_X4_hasThing n M a0 a1)
def m_X4_hasPerson (n : Nat) (M : Mem) (a0 : Nat) (a1 : Int) : Rs := if isW a0 then (if I32 a1 then (if a1 < 0 then (some (0, M)) else (if (rd M a0 12) ≤ a1 then (some (0, M)) else (some (1, M)))) else none) else none
theorem y_X4_hasPerson (n : Nat) (M : Mem) (a0 : Nat) (a1 : Int) : Y RX4 cX4_hasPerson 2 0 1 none 0 [some (rv a0), some (iv a1)] [] M (m_X4_hasPerson n M a0 a1) := by
  unfold m_X4_hasPerson
  refine y_gd (fun ha0 => ?_)
  refine y_iload_n (pc := 0) dX4_hasPerson_0 rfl ?_
  refine y_gd (fun h1 => ?_)
  refine y_if_lt (off := 15) (tgt := 16) (pc := 1) dX4_hasPerson_1 (by decide) h1 (fun h2 => ?_) (fun h2 => ?_)
  · refine y_iconst (pc := 16) dX4_hasPerson_16 ?_
    exact y_zret (pc := 17) dX4_hasPerson_17 (by decide)
  · refine y_iload_n (pc := 4) dX4_hasPerson_4 rfl ?_
    refine y_aload_n (pc := 5) dX4_hasPerson_5 rfl ?_
    refine y_getint (pc := 6) (g_X4_49 ha0) dX4_hasPerson_6 ?_
    refine y_icmp_ge (off := 7) (tgt := 16) (pc := 9) dX4_hasPerson_9 (by decide) h1 (rd_rng _ _ _) (fun h3 => ?_) (fun h3 => ?_)
    · refine y_iconst (pc := 16) dX4_hasPerson_16 ?_
      exact y_zret (pc := 17) dX4_hasPerson_17 (by decide)
    · refine y_iconst (pc := 12) dX4_hasPerson_12 ?_
      refine y_goto (tgt := 17) (pc := 13) dX4_hasPerson_13 (by decide) ?_
      exact y_zret (pc := 17) dX4_hasPerson_17 (by decide)
theorem c_X4_hasPerson (n : Nat) (M : Mem) (a0 : Nat) (a1 : Int) : ∀ res : Int × Mem, m_X4_hasPerson n M a0 a1 = some res → CTi none yX4_hasPerson cX4_hasPerson 2 (some .boolean) 0 [rv a0, iv a1] M res := CTz_of (by decide +kernel) rfl (Nat.le_of_ble_eq_true rfl) rfl (y_X4_hasPerson n M a0 a1)
def m_X4_addFront (n : Nat) (M : Mem) (a0 : Nat) (a1 : Int) (a2 : Int) (a3 : Int) : Rs := if isW a0 then (if I32 a2 then (if 9 < a2 then (some (0, M)) else (if I32 a3 then (if 9 < a3 then (some (0, M)) else (if (rd M a0 3) < 6 then (if 0 ≤ (rd M a0 3) ∧ (rd M a0 3) < 6 then (wr M (a0 + 1) (Int.toNat (rd M a0 3)) a1 (fun M7 => if 0 ≤ (rd M7 a0 3) ∧ (rd M7 a0 3) < 6 then (wr M7 (a0 + 2) (Int.toNat (rd M7 a0 3)) a2 (fun M9 => if 0 ≤ (rd M9 a0 3) ∧ (rd M9 a0 3) < 6 then (wr M9 (a0 + 3) (Int.toNat (rd M9 a0 3)) a3 (fun M11 => wr M11 a0 3 ((rd M11 a0 3) + 1) (fun M12 => some (1, M12)))) else none)) else none)) else none) else (some (0, M)))) else none)) else none) else none
theorem y_X4_addFront (n : Nat) (M : Mem) (a0 : Nat) (a1 : Int) (a2 : Int) (a3 : Int) : Y RX4 cX4_addFront 4 0 1 none 0 [some (rv a0), some (iv a1), some (iv a2), some (iv a3)] [] M (m_X4_addFront n M a0 a1 a2 a3) := by
  unfold m_X4_addFront
  refine y_gd (fun ha0 => ?_)
  refine y_iload_n (pc := 0) dX4_addFront_0 rfl ?_
  refine y_bipush (pc := 1) dX4_addFront_1 (by decide) ?_
  refine y_gd (fun h1 => ?_)
  refine y_icmp_gt (off := 18) (tgt := 21) (pc := 3) dX4_addFront_3 (by decide) h1 (by decide) (fun h2 => ?_) (fun h2 => ?_)
  · refine y_iconst (pc := 21) dX4_addFront_21 ?_
    exact y_zret (pc := 22) dX4_addFront_22 (by decide)
  · refine y_iload_n (pc := 6) dX4_addFront_6 rfl ?_
    refine y_bipush (pc := 7) dX4_addFront_7 (by decide) ?_
    refine y_gd (fun h3 => ?_)
    refine y_icmp_gt (off := 12) (tgt := 21) (pc := 9) dX4_addFront_9 (by decide) h3 (by decide) (fun h4 => ?_) (fun h4 => ?_)
    · refine y_iconst (pc := 21) dX4_addFront_21 ?_
      exact y_zret (pc := 22) dX4_addFront_22 (by decide)
    · refine y_aload_n (pc := 12) dX4_addFront_12 rfl ?_
      refine y_getint (pc := 13) (g_X4_21 ha0) dX4_addFront_13 ?_
      refine y_bipush (pc := 16) dX4_addFront_16 (by decide) ?_
      refine y_icmp_lt (off := 5) (tgt := 23) (pc := 18) dX4_addFront_18 (by decide) (rd_rng _ _ _) (by decide) (fun h5 => ?_) (fun h5 => ?_)
      · refine y_aload_n (pc := 23) dX4_addFront_23 rfl ?_
        refine y_getref (pc := 24) (x := (a0 + 1)) (g_X4_9 ha0) dX4_addFront_24 ?_
        refine y_aload_n (pc := 27) dX4_addFront_27 rfl ?_
        refine y_getint (pc := 28) (g_X4_21 ha0) dX4_addFront_28 ?_
        refine y_iload_n (pc := 31) dX4_addFront_31 rfl ?_
        refine y_gd (fun h6 => ?_)
        refine y_iastw (pc := 32) dX4_addFront_32 (ar_w1 ha0) h6 (fun M7 => ?_)
        refine y_aload_n (pc := 33) dX4_addFront_33 rfl ?_
        refine y_getref (pc := 34) (x := (a0 + 2)) (g_X4_15 ha0) dX4_addFront_34 ?_
        refine y_aload_n (pc := 37) dX4_addFront_37 rfl ?_
        refine y_getint (pc := 38) (g_X4_21 ha0) dX4_addFront_38 ?_
        refine y_iload_n (pc := 41) dX4_addFront_41 rfl ?_
        refine y_gd (fun h8 => ?_)
        refine y_iastw (pc := 42) dX4_addFront_42 (ar_w2 ha0) h8 (fun M9 => ?_)
        refine y_aload_n (pc := 43) dX4_addFront_43 rfl ?_
        refine y_getref (pc := 44) (x := (a0 + 3)) (g_X4_18 ha0) dX4_addFront_44 ?_
        refine y_aload_n (pc := 47) dX4_addFront_47 rfl ?_
        refine y_getint (pc := 48) (g_X4_21 ha0) dX4_addFront_48 ?_
        refine y_iload_n (pc := 51) dX4_addFront_51 rfl ?_
        refine y_gd (fun h10 => ?_)
        refine y_iastw (pc := 52) dX4_addFront_52 (ar_w3 ha0) h10 (fun M11 => ?_)
        refine y_aload_n (pc := 53) dX4_addFront_53 rfl ?_
        refine y_dup (pc := 54) dX4_addFront_54 rfl ?_
        refine y_getint (pc := 55) (g_X4_21 ha0) dX4_addFront_55 ?_
        refine y_iconst (pc := 58) dX4_addFront_58 ?_
        refine y_iadd (pc := 59) dX4_addFront_59 ?_
        refine y_putintw (pc := 60) (pf_X4_21 ha0) dX4_addFront_60 (fun M12 => ?_)
        refine y_iconst (pc := 63) dX4_addFront_63 ?_
        exact y_zret (pc := 64) dX4_addFront_64 (by decide)
      · refine y_iconst (pc := 21) dX4_addFront_21 ?_
        exact y_zret (pc := 22) dX4_addFront_22 (by decide)
theorem c_X4_addFront (n : Nat) (M : Mem) (a0 : Nat) (a1 : Int) (a2 : Int) (a3 : Int) : ∀ res : Int × Mem, m_X4_addFront n M a0 a1 a2 a3 = some res → CTi none yX4_addFront cX4_addFront 4 (some .boolean) 0 [rv a0, iv a1, iv a2, iv a3] M res := CTz_of (by decide +kernel) rfl (Nat.le_of_ble_eq_true rfl) rfl (y_X4_addFront n M a0 a1 a2 a3)
end
section
def m_X5_isCell (n : Nat) (M : Mem) (a0 : Int) : Rs := if I32 a0 then (if a0 < 0 then (some (0, M)) else (if 24 ≤ a0 then (some (0, M)) else (some (1, M)))) else none
theorem y_X5_isCell (n : Nat) (M : Mem) (a0 : Int) : Y RX5 cX5_isCell 1 0 1 none 0 [some (iv a0)] [] M (m_X5_isCell n M a0) := by
  unfold m_X5_isCell
  refine y_iload_n (pc := 0) dX5_isCell_0 rfl ?_
  refine y_gd (fun h1 => ?_)
  refine y_if_lt (off := 13) (tgt := 14) (pc := 1) dX5_isCell_1 (by decide) h1 (fun h2 => ?_) (fun h2 => ?_)
  · refine y_iconst (pc := 14) dX5_isCell_14 ?_
    exact y_zret (pc := 15) dX5_isCell_15 (by decide)
  · refine y_iload_n (pc := 4) dX5_isCell_4 rfl ?_
    refine y_bipush (pc := 5) dX5_isCell_5 (by decide) ?_
    refine y_icmp_ge (off := 7) (tgt := 14) (pc := 7) dX5_isCell_7 (by decide) h1 (by decide) (fun h3 => ?_) (fun h3 => ?_)
    · refine y_iconst (pc := 14) dX5_isCell_14 ?_
      exact y_zret (pc := 15) dX5_isCell_15 (by decide)
    · refine y_iconst (pc := 10) dX5_isCell_10 ?_
      refine y_goto (tgt := 15) (pc := 11) dX5_isCell_11 (by decide) ?_
      exact y_zret (pc := 15) dX5_isCell_15 (by decide)
theorem c_X5_isCell (n : Nat) (M : Mem) (a0 : Int) : ∀ res : Int × Mem, m_X5_isCell n M a0 = some res → CTi none yX5_isCell cX5_isCell 1 (some .boolean) 0 [iv a0] M res := CTz_of (by decide +kernel) rfl (Nat.le_of_ble_eq_true rfl) rfl (y_X5_isCell n M a0)
def m_X4_addPerson (n : Nat) (M : Mem) (a0 : Nat) (a1 : Int) (a2 : Int) (a3 : Int) : Rs := if isW a0 then (bd (m_X5_isCell n M a3) (fun r2 M1 => if I32 r2 then (if r2 = 0 then (some (0, M1)) else (if (rd M1 a0 12) < 5 then (if 0 ≤ (rd M1 a0 12) ∧ (rd M1 a0 12) < 5 then (wr M1 (a0 + 7) (Int.toNat (rd M1 a0 12)) a1 (fun M7 => if 0 ≤ (rd M7 a0 12) ∧ (rd M7 a0 12) < 5 then (wr M7 (a0 + 8) (Int.toNat (rd M7 a0 12)) a2 (fun M9 => if 0 ≤ (rd M9 a0 12) ∧ (rd M9 a0 12) < 5 then (wr M9 (a0 + 9) (Int.toNat (rd M9 a0 12)) a3 (fun M11 => if 0 ≤ (rd M11 a0 12) ∧ (rd M11 a0 12) < 5 then (wr M11 (a0 + 10) (Int.toNat (rd M11 a0 12)) a3 (fun M13 => wr M13 a0 12 ((rd M13 a0 12) + 1) (fun M14 => some (1, M14)))) else none)) else none)) else none)) else none) else (some (0, M1)))) else none)) else none
theorem y_X4_addPerson (n : Nat) (M : Mem) (a0 : Nat) (a1 : Int) (a2 : Int) (a3 : Int) : Y RX4 cX4_addPerson 4 1 1 none 0 [some (rv a0), some (iv a1), some (iv a2), some (iv a3)] [] M (m_X4_addPerson n M a0 a1 a2 a3) := by
  unfold m_X4_addPerson
  refine y_gd (fun ha0 => ?_)
  refine y_iload_n (pc := 0) dX4_addPerson_0 rfl ?_
  refine y_callNi (pc := 1) s_X5_isCell rfl dX4_addPerson_1 (c_X5_isCell n _ _) (fun _ h => nomatch h) rfl rfl (by decide) (by decide) (Nat.le_of_ble_eq_true rfl) (fun r2 M1 _ => ?_)
  refine y_gd (fun h3 => ?_)
  refine y_if_eq (off := 11) (tgt := 15) (pc := 4) dX4_addPerson_4 (by decide) h3 (fun h4 => ?_) (fun h4 => ?_)
  · refine y_iconst (pc := 15) dX4_addPerson_15 ?_
    exact y_zret (pc := 16) dX4_addPerson_16 (by decide)
  · refine y_aload_n (pc := 7) dX4_addPerson_7 rfl ?_
    refine y_getint (pc := 8) (g_X4_49 ha0) dX4_addPerson_8 ?_
    refine y_iconst (pc := 11) dX4_addPerson_11 ?_
    refine y_icmp_lt (off := 5) (tgt := 17) (pc := 12) dX4_addPerson_12 (by decide) (rd_rng _ _ _) (by decide) (fun h5 => ?_) (fun h5 => ?_)
    · refine y_aload_n (pc := 17) dX4_addPerson_17 rfl ?_
      refine y_getref (pc := 18) (x := (a0 + 7)) (g_X4_37 ha0) dX4_addPerson_18 ?_
      refine y_aload_n (pc := 21) dX4_addPerson_21 rfl ?_
      refine y_getint (pc := 22) (g_X4_49 ha0) dX4_addPerson_22 ?_
      refine y_iload_n (pc := 25) dX4_addPerson_25 rfl ?_
      refine y_gd (fun h6 => ?_)
      refine y_iastw (pc := 26) dX4_addPerson_26 (ar_w7 ha0) h6 (fun M7 => ?_)
      refine y_aload_n (pc := 27) dX4_addPerson_27 rfl ?_
      refine y_getref (pc := 28) (x := (a0 + 8)) (g_X4_40 ha0) dX4_addPerson_28 ?_
      refine y_aload_n (pc := 31) dX4_addPerson_31 rfl ?_
      refine y_getint (pc := 32) (g_X4_49 ha0) dX4_addPerson_32 ?_
      refine y_iload_n (pc := 35) dX4_addPerson_35 rfl ?_
      refine y_gd (fun h8 => ?_)
      refine y_iastw (pc := 36) dX4_addPerson_36 (ar_w8 ha0) h8 (fun M9 => ?_)
      refine y_aload_n (pc := 37) dX4_addPerson_37 rfl ?_
      refine y_getref (pc := 38) (x := (a0 + 9)) (g_X4_43 ha0) dX4_addPerson_38 ?_
      refine y_aload_n (pc := 41) dX4_addPerson_41 rfl ?_
      refine y_getint (pc := 42) (g_X4_49 ha0) dX4_addPerson_42 ?_
      refine y_iload_n (pc := 45) dX4_addPerson_45 rfl ?_
      refine y_gd (fun h10 => ?_)
      refine y_iastw (pc := 46) dX4_addPerson_46 (ar_w9 ha0) h10 (fun M11 => ?_)
      refine y_aload_n (pc := 47) dX4_addPerson_47 rfl ?_
      refine y_getref (pc := 48) (x := (a0 + 10)) (g_X4_46 ha0) dX4_addPerson_48 ?_
      refine y_aload_n (pc := 51) dX4_addPerson_51 rfl ?_
      refine y_getint (pc := 52) (g_X4_49 ha0) dX4_addPerson_52 ?_
      refine y_iload_n (pc := 55) dX4_addPerson_55 rfl ?_
      refine y_gd (fun h12 => ?_)
      refine y_iastw (pc := 56) dX4_addPerson_56 (ar_w10 ha0) h12 (fun M13 => ?_)
      refine y_aload_n (pc := 57) dX4_addPerson_57 rfl ?_
      refine y_dup (pc := 58) dX4_addPerson_58 rfl ?_
      refine y_getint (pc := 59) (g_X4_49 ha0) dX4_addPerson_59 ?_
      refine y_iconst (pc := 62) dX4_addPerson_62 ?_
      refine y_iadd (pc := 63) dX4_addPerson_63 ?_
      refine y_putintw (pc := 64) (pf_X4_49 ha0) dX4_addPerson_64 (fun M14 => ?_)
      refine y_iconst (pc := 67) dX4_addPerson_67 ?_
      exact y_zret (pc := 68) dX4_addPerson_68 (by decide)
    · refine y_iconst (pc := 15) dX4_addPerson_15 ?_
      exact y_zret (pc := 16) dX4_addPerson_16 (by decide)
theorem c_X4_addPerson (n : Nat) (M : Mem) (a0 : Nat) (a1 : Int) (a2 : Int) (a3 : Int) : ∀ res : Int × Mem, m_X4_addPerson n M a0 a1 a2 a3 = some res → CTi none yX4_addPerson cX4_addPerson 4 (some .boolean) 1 [rv a0, iv a1, iv a2, iv a3] M res := CTz_of (by decide +kernel) rfl (Nat.le_of_ble_eq_true rfl) rfl (y_X4_addPerson n M a0 a1 a2 a3)
def m_X4_addThing (n : Nat) (M : Mem) (a0 : Nat) (a1 : Int) (a2 : Int) : Rs := if isW a0 then (bd (m_X5_isCell n M a2) (fun r2 M1 => if I32 r2 then (if r2 = 0 then (some (0, M1)) else (if (rd M1 a0 7) < 8 then (if 0 ≤ (rd M1 a0 7) ∧ (rd M1 a0 7) < 8 then (wr M1 (a0 + 4) (Int.toNat (rd M1 a0 7)) a1 (fun M7 => if 0 ≤ (rd M7 a0 7) ∧ (rd M7 a0 7) < 8 then (wr M7 (a0 + 5) (Int.toNat (rd M7 a0 7)) a2 (fun M9 => if 0 ≤ (rd M9 a0 7) ∧ (rd M9 a0 7) < 8 then (wr M9 (a0 + 6) (Int.toNat (rd M9 a0 7)) (-1) (fun M11 => wr M11 a0 7 ((rd M11 a0 7) + 1) (fun M12 => some (1, M12)))) else none)) else none)) else none) else (some (0, M1)))) else none)) else none
theorem y_X4_addThing (n : Nat) (M : Mem) (a0 : Nat) (a1 : Int) (a2 : Int) : Y RX4 cX4_addThing 3 1 1 none 0 [some (rv a0), some (iv a1), some (iv a2)] [] M (m_X4_addThing n M a0 a1 a2) := by
  unfold m_X4_addThing
  refine y_gd (fun ha0 => ?_)
  refine y_iload_n (pc := 0) dX4_addThing_0 rfl ?_
  refine y_callNi (pc := 1) s_X5_isCell rfl dX4_addThing_1 (c_X5_isCell n _ _) (fun _ h => nomatch h) rfl rfl (by decide) (by decide) (Nat.le_of_ble_eq_true rfl) (fun r2 M1 _ => ?_)
  refine y_gd (fun h3 => ?_)
  refine y_if_eq (off := 12) (tgt := 16) (pc := 4) dX4_addThing_4 (by decide) h3 (fun h4 => ?_) (fun h4 => ?_)
  · refine y_iconst (pc := 16) dX4_addThing_16 ?_
    exact y_zret (pc := 17) dX4_addThing_17 (by decide)
  · refine y_aload_n (pc := 7) dX4_addThing_7 rfl ?_
    refine y_getint (pc := 8) (g_X4_34 ha0) dX4_addThing_8 ?_
    refine y_bipush (pc := 11) dX4_addThing_11 (by decide) ?_
    refine y_icmp_lt (off := 5) (tgt := 18) (pc := 13) dX4_addThing_13 (by decide) (rd_rng _ _ _) (by decide) (fun h5 => ?_) (fun h5 => ?_)
    · refine y_aload_n (pc := 18) dX4_addThing_18 rfl ?_
      refine y_getref (pc := 19) (x := (a0 + 4)) (g_X4_25 ha0) dX4_addThing_19 ?_
      refine y_aload_n (pc := 22) dX4_addThing_22 rfl ?_
      refine y_getint (pc := 23) (g_X4_34 ha0) dX4_addThing_23 ?_
      refine y_iload_n (pc := 26) dX4_addThing_26 rfl ?_
      refine y_gd (fun h6 => ?_)
      refine y_iastw (pc := 27) dX4_addThing_27 (ar_w4 ha0) h6 (fun M7 => ?_)
      refine y_aload_n (pc := 28) dX4_addThing_28 rfl ?_
      refine y_getref (pc := 29) (x := (a0 + 5)) (g_X4_28 ha0) dX4_addThing_29 ?_
      refine y_aload_n (pc := 32) dX4_addThing_32 rfl ?_
      refine y_getint (pc := 33) (g_X4_34 ha0) dX4_addThing_33 ?_
      refine y_iload_n (pc := 36) dX4_addThing_36 rfl ?_
      refine y_gd (fun h8 => ?_)
      refine y_iastw (pc := 37) dX4_addThing_37 (ar_w5 ha0) h8 (fun M9 => ?_)
      refine y_aload_n (pc := 38) dX4_addThing_38 rfl ?_
      refine y_getref (pc := 39) (x := (a0 + 6)) (g_X4_31 ha0) dX4_addThing_39 ?_
      refine y_aload_n (pc := 42) dX4_addThing_42 rfl ?_
      refine y_getint (pc := 43) (g_X4_34 ha0) dX4_addThing_43 ?_
      refine y_iconst (pc := 46) dX4_addThing_46 ?_
      refine y_gd (fun h10 => ?_)
      refine y_iastw (pc := 47) dX4_addThing_47 (ar_w6 ha0) h10 (fun M11 => ?_)
      refine y_aload_n (pc := 48) dX4_addThing_48 rfl ?_
      refine y_dup (pc := 49) dX4_addThing_49 rfl ?_
      refine y_getint (pc := 50) (g_X4_34 ha0) dX4_addThing_50 ?_
      refine y_iconst (pc := 53) dX4_addThing_53 ?_
      refine y_iadd (pc := 54) dX4_addThing_54 ?_
      refine y_putintw (pc := 55) (pf_X4_34 ha0) dX4_addThing_55 (fun M12 => ?_)
      refine y_iconst (pc := 58) dX4_addThing_58 ?_
      exact y_zret (pc := 59) dX4_addThing_59 (by decide)
    · refine y_iconst (pc := 16) dX4_addThing_16 ?_
      exact y_zret (pc := 17) dX4_addThing_17 (by decide)
theorem c_X4_addThing (n : Nat) (M : Mem) (a0 : Nat) (a1 : Int) (a2 : Int) : ∀ res : Int × Mem, m_X4_addThing n M a0 a1 a2 = some res → CTi none yX4_addThing cX4_addThing 3 (some .boolean) 1 [rv a0, iv a1, iv a2] M res := CTz_of (by decide +kernel) rfl (Nat.le_of_ble_eq_true rfl) rfl (y_X4_addThing n M a0 a1 a2)
def m_X4_worthsOf_4 (n : Nat) : Nat → Mem → Nat → Int → Int → Int → Rs
  | 0, _, _, _, _, _ => none
  | t + 1, M, a0, a1, a2, a3 => if I32 a3 then (if (rd M a0 7) ≤ a3 then (some (a2, M)) else (if 0 ≤ a3 ∧ a3 < 8 then (if I32 a1 then (if (rd M (a0 + 6) (Int.toNat a3)) = a1 then (lt (a2 + (rd M (a0 + 4) (Int.toNat a3))) (fun x6 => (m_X4_worthsOf_4 n t) M a0 a1 x6 (a3 + 1))) else ((m_X4_worthsOf_4 n t) M a0 a1 a2 (a3 + 1))) else none) else none)) else none
theorem t_X4_worthsOf_4 (n : Nat) : ∀ (t : Nat) (M : Mem) (a0 : Nat) (a1 : Int) (a2 : Int) (a3 : Int), isW a0 → Y RX4 cX4_worthsOf 4 0 0 none 4 [some (rv a0), some (iv a1), some (iv a2), some (iv a3)] [] M (m_X4_worthsOf_4 n t M a0 a1 a2 a3) := by
  intro t
  induction t with
  | zero => intro M a0 a1 a2 a3 ha0; exact y_none
  | succ t ih =>
    intro M a0 a1 a2 a3 ha0
    rewrite [m_X4_worthsOf_4]
    refine y_iload_n (pc := 4) dX4_worthsOf_4 rfl ?_
    refine y_aload_n (pc := 5) dX4_worthsOf_5 rfl ?_
    refine y_getint (pc := 6) (g_X4_34 ha0) dX4_worthsOf_6 ?_
    refine y_gd (fun h1 => ?_)
    refine y_icmp_ge (off := 28) (tgt := 37) (pc := 9) dX4_worthsOf_9 (by decide) h1 (rd_rng _ _ _) (fun h2 => ?_) (fun h2 => ?_)
    · refine y_iload_n (pc := 37) dX4_worthsOf_37 rfl ?_
      exact y_iret (pc := 38) dX4_worthsOf_38
    · refine y_aload_n (pc := 12) dX4_worthsOf_12 rfl ?_
      refine y_getref (pc := 13) (x := (a0 + 6)) (g_X4_31 ha0) dX4_worthsOf_13 ?_
      refine y_iload_n (pc := 16) dX4_worthsOf_16 rfl ?_
      refine y_gd (fun h3 => ?_)
      refine y_iald (pc := 17) dX4_worthsOf_17 (ar_w6 ha0) h3 ?_
      refine y_iload_n (pc := 18) dX4_worthsOf_18 rfl ?_
      refine y_gd (fun h4 => ?_)
      refine y_icmp_ne (off := 12) (tgt := 31) (pc := 19) dX4_worthsOf_19 (by decide) (rd_rng _ _ _) h4 (fun h5 => ?_) (fun h5 => ?_)
      · refine y_iinc (L' := [some (rv a0), some (iv a1), some (iv a2), some (iv (a3 + 1))]) (pc := 31) dX4_worthsOf_31 rfl (by decide) rfl rfl ?_
        refine y_goto (tgt := 4) (pc := 34) dX4_worthsOf_34 (by decide) ?_
        exact y_sub (ls_s (ls_s (ls_s (ls_s ls_0)))) (ih M a0 a1 a2 (a3 + 1) ha0)
      · refine y_iload_n (pc := 22) dX4_worthsOf_22 rfl ?_
        refine y_aload_n (pc := 23) dX4_worthsOf_23 rfl ?_
        refine y_getref (pc := 24) (x := (a0 + 4)) (g_X4_25 ha0) dX4_worthsOf_24 ?_
        refine y_iload_n (pc := 27) dX4_worthsOf_27 rfl ?_
        refine y_iald (pc := 28) dX4_worthsOf_28 (ar_w4 ha0) h3 ?_
        refine y_iadd (pc := 29) dX4_worthsOf_29 ?_
        refine y_leti (fun x6 => ?_)
        refine y_istore_n (L' := [some (rv a0), some (iv a1), some (iv x6), some (iv a3)]) (pc := 30) dX4_worthsOf_30 (by decide) rfl rfl ?_
        refine y_iinc (L' := [some (rv a0), some (iv a1), some (iv x6), some (iv (a3 + 1))]) (pc := 31) dX4_worthsOf_31 rfl (by decide) rfl rfl ?_
        refine y_goto (tgt := 4) (pc := 34) dX4_worthsOf_34 (by decide) ?_
        exact y_sub (ls_s (ls_s (ls_s (ls_s ls_0)))) (ih M a0 a1 x6 (a3 + 1) ha0)
def m_X4_worthsOf (n : Nat) (M : Mem) (a0 : Nat) (a1 : Int) : Rs := if isW a0 then (m_X4_worthsOf_4 n n M a0 a1 0 0) else none
theorem y_X4_worthsOf (n : Nat) (M : Mem) (a0 : Nat) (a1 : Int) : Y RX4 cX4_worthsOf 4 0 0 none 0 [some (rv a0), some (iv a1), none, none] [] M (m_X4_worthsOf n M a0 a1) := by
  unfold m_X4_worthsOf
  refine y_gd (fun ha0 => ?_)
  refine y_iconst (pc := 0) dX4_worthsOf_0 ?_
  refine y_istore_n (L' := [some (rv a0), some (iv a1), some (iv 0), none]) (pc := 1) dX4_worthsOf_1 (by decide) rfl rfl ?_
  refine y_iconst (pc := 2) dX4_worthsOf_2 ?_
  refine y_istore_n (L' := [some (rv a0), some (iv a1), some (iv 0), some (iv 0)]) (pc := 3) dX4_worthsOf_3 (by decide) rfl rfl ?_
  exact y_sub (ls_s (ls_s (ls_s (ls_s ls_0)))) (t_X4_worthsOf_4 n n M a0 a1 0 0 ha0)
theorem c_X4_worthsOf (n : Nat) (M : Mem) (a0 : Nat) (a1 : Int) : ∀ res : Int × Mem, m_X4_worthsOf n M a0 a1 = some res → CTi none yX4_worthsOf cX4_worthsOf 4 (some .int) 0 [rv a0, iv a1] M res := CTi_of (by decide +kernel) rfl (Nat.le_of_ble_eq_true rfl) rfl (y_X4_worthsOf n M a0 a1)
def m_X4_nobodysThings_4 (n : Nat) : Nat → Mem → Nat → Int → Int → Rs
  | 0, _, _, _, _ => none
  | t + 1, M, a0, a1, a2 => if I32 a2 then (if (rd M a0 7) ≤ a2 then (some (a1, M)) else (if 0 ≤ a2 ∧ a2 < 8 then (if (rd M (a0 + 6) (Int.toNat a2)) = (-1) then ((m_X4_nobodysThings_4 n t) M a0 (bOr a1 (bShl 1 a2)) (a2 + 1)) else ((m_X4_nobodysThings_4 n t) M a0 a1 (a2 + 1))) else none)) else none
theorem t_X4_nobodysThings_4 (n : Nat) : ∀ (t : Nat) (M : Mem) (a0 : Nat) (a1 : Int) (a2 : Int), isW a0 → Y RX4 cX4_nobodysThings 3 0 0 none 4 [some (rv a0), some (iv a1), some (iv a2)] [] M (m_X4_nobodysThings_4 n t M a0 a1 a2) := by
  intro t
  induction t with
  | zero => intro M a0 a1 a2 ha0; exact y_none
  | succ t ih =>
    intro M a0 a1 a2 ha0
    rewrite [m_X4_nobodysThings_4]
    refine y_iload_n (pc := 4) dX4_nobodysThings_4 rfl ?_
    refine y_aload_n (pc := 5) dX4_nobodysThings_5 rfl ?_
    refine y_getint (pc := 6) (g_X4_34 ha0) dX4_nobodysThings_6 ?_
    refine y_gd (fun h1 => ?_)
    refine y_icmp_ge (off := 25) (tgt := 34) (pc := 9) dX4_nobodysThings_9 (by decide) h1 (rd_rng _ _ _) (fun h2 => ?_) (fun h2 => ?_)
    · refine y_iload_n (pc := 34) dX4_nobodysThings_34 rfl ?_
      exact y_iret (pc := 35) dX4_nobodysThings_35
    · refine y_aload_n (pc := 12) dX4_nobodysThings_12 rfl ?_
      refine y_getref (pc := 13) (x := (a0 + 6)) (g_X4_31 ha0) dX4_nobodysThings_13 ?_
      refine y_iload_n (pc := 16) dX4_nobodysThings_16 rfl ?_
      refine y_gd (fun h3 => ?_)
      refine y_iald (pc := 17) dX4_nobodysThings_17 (ar_w6 ha0) h3 ?_
      refine y_iconst (pc := 18) dX4_nobodysThings_18 ?_
      refine y_icmp_ne (off := 9) (tgt := 28) (pc := 19) dX4_nobodysThings_19 (by decide) (rd_rng _ _ _) (by decide) (fun h4 => ?_) (fun h4 => ?_)
      · refine y_iinc (L' := [some (rv a0), some (iv a1), some (iv (a2 + 1))]) (pc := 28) dX4_nobodysThings_28 rfl (by decide) rfl rfl ?_
        refine y_goto (tgt := 4) (pc := 31) dX4_nobodysThings_31 (by decide) ?_
        exact y_sub (ls_s (ls_s (ls_s ls_0))) (ih M a0 a1 (a2 + 1) ha0)
      · refine y_iload_n (pc := 22) dX4_nobodysThings_22 rfl ?_
        refine y_iconst (pc := 23) dX4_nobodysThings_23 ?_
        refine y_iload_n (pc := 24) dX4_nobodysThings_24 rfl ?_
        refine y_ishl (pc := 25) dX4_nobodysThings_25 ?_
        refine y_ior (pc := 26) dX4_nobodysThings_26 ?_
        refine y_istore_n (L' := [some (rv a0), some (iv (bOr a1 (bShl 1 a2))), some (iv a2)]) (pc := 27) dX4_nobodysThings_27 (by decide) rfl rfl ?_
        refine y_iinc (L' := [some (rv a0), some (iv (bOr a1 (bShl 1 a2))), some (iv (a2 + 1))]) (pc := 28) dX4_nobodysThings_28 rfl (by decide) rfl rfl ?_
        refine y_goto (tgt := 4) (pc := 31) dX4_nobodysThings_31 (by decide) ?_
        exact y_sub (ls_s (ls_s (ls_s ls_0))) (ih M a0 (bOr a1 (bShl 1 a2)) (a2 + 1) ha0)
def m_X4_nobodysThings (n : Nat) (M : Mem) (a0 : Nat) : Rs := if isW a0 then (m_X4_nobodysThings_4 n n M a0 0 0) else none
theorem y_X4_nobodysThings (n : Nat) (M : Mem) (a0 : Nat) : Y RX4 cX4_nobodysThings 3 0 0 none 0 [some (rv a0), none, none] [] M (m_X4_nobodysThings n M a0) := by
  unfold m_X4_nobodysThings
  refine y_gd (fun ha0 => ?_)
  refine y_iconst (pc := 0) dX4_nobodysThings_0 ?_
  refine y_istore_n (L' := [some (rv a0), some (iv 0), none]) (pc := 1) dX4_nobodysThings_1 (by decide) rfl rfl ?_
  refine y_iconst (pc := 2) dX4_nobodysThings_2 ?_
  refine y_istore_n (L' := [some (rv a0), some (iv 0), some (iv 0)]) (pc := 3) dX4_nobodysThings_3 (by decide) rfl rfl ?_
  exact y_sub (ls_s (ls_s (ls_s ls_0))) (t_X4_nobodysThings_4 n n M a0 0 0 ha0)
theorem c_X4_nobodysThings (n : Nat) (M : Mem) (a0 : Nat) : ∀ res : Int × Mem, m_X4_nobodysThings n M a0 = some res → CTi none yX4_nobodysThings cX4_nobodysThings 3 (some .int) 0 [rv a0] M res := CTi_of (by decide +kernel) rfl (Nat.le_of_ble_eq_true rfl) rfl (y_X4_nobodysThings n M a0)
def m_X4_ownedThings (n : Nat) (M : Mem) (a0 : Nat) : Rs := if isW a0 then (bd (m_X4_nobodysThings n M a0) (fun r2 M1 => bd (m_J6_bitCount_0f7a4 n M1 r2) (fun r4 M3 => some (((rd M a0 7) - r4), M3)))) else none
theorem y_X4_ownedThings (n : Nat) (M : Mem) (a0 : Nat) : Y RX4 cX4_ownedThings 1 1 0 none 0 [some (rv a0)] [] M (m_X4_ownedThings n M a0) := by
  unfold m_X4_ownedThings
  refine y_gd (fun ha0 => ?_)
  refine y_aload_n (pc := 0) dX4_ownedThings_0 rfl ?_
  refine y_getint (pc := 1) (g_X4_34 ha0) dX4_ownedThings_1 ?_
  refine y_aload_n (pc := 4) dX4_ownedThings_4 rfl ?_
  refine y_callVi (pc := 5) v_X4_nobodysThings l_X4_77 dX4_ownedThings_5 (c_X4_nobodysThings n _ _) (fun _ h => nomatch h) rfl (rc_X4 ha0) rfl (by decide) (by decide) (Nat.le_of_ble_eq_true rfl) (fun r2 M1 _ => ?_)
  refine y_callSi (pc := 8) s_J6_bitCount_0f7a4 l_X4_81 dX4_ownedThings_8 (c_J6_bitCount_0f7a4 n _ _) (fun _ h => nomatch h) rfl rfl (by decide) (by decide) (Nat.le_of_ble_eq_true rfl) (fun r4 M3 _ => ?_)
  refine y_isub (pc := 11) dX4_ownedThings_11 ?_
  exact y_iret (pc := 12) dX4_ownedThings_12
theorem c_X4_ownedThings (n : Nat) (M : Mem) (a0 : Nat) : ∀ res : Int × Mem, m_X4_ownedThings n M a0 = some res → CTi none yX4_ownedThings cX4_ownedThings 1 (some .int) 1 [rv a0] M res := CTi_of (by decide +kernel) rfl (Nat.le_of_ble_eq_true rfl) rfl (y_X4_ownedThings n M a0)
def m_X4_peopleOn_4 (n : Nat) : Nat → Mem → Nat → Int → Int → Int → Rs
  | 0, _, _, _, _, _ => none
  | t + 1, M, a0, a1, a2, a3 => if I32 a3 then (if (rd M a0 12) ≤ a3 then (some (a2, M)) else (if 0 ≤ a3 ∧ a3 < 5 then (if I32 a1 then (if (rd M (a0 + 10) (Int.toNat a3)) = a1 then ((m_X4_peopleOn_4 n t) M a0 a1 (bOr a2 (bShl 1 a3)) (a3 + 1)) else ((m_X4_peopleOn_4 n t) M a0 a1 a2 (a3 + 1))) else none) else none)) else none
theorem t_X4_peopleOn_4 (n : Nat) : ∀ (t : Nat) (M : Mem) (a0 : Nat) (a1 : Int) (a2 : Int) (a3 : Int), isW a0 → Y RX4 cX4_peopleOn 4 0 0 none 4 [some (rv a0), some (iv a1), some (iv a2), some (iv a3)] [] M (m_X4_peopleOn_4 n t M a0 a1 a2 a3) := by
  intro t
  induction t with
  | zero => intro M a0 a1 a2 a3 ha0; exact y_none
  | succ t ih =>
    intro M a0 a1 a2 a3 ha0
    rewrite [m_X4_peopleOn_4]
    refine y_iload_n (pc := 4) dX4_peopleOn_4 rfl ?_
    refine y_aload_n (pc := 5) dX4_peopleOn_5 rfl ?_
    refine y_getint (pc := 6) (g_X4_49 ha0) dX4_peopleOn_6 ?_
    refine y_gd (fun h1 => ?_)
    refine y_icmp_ge (off := 25) (tgt := 34) (pc := 9) dX4_peopleOn_9 (by decide) h1 (rd_rng _ _ _) (fun h2 => ?_) (fun h2 => ?_)
    · refine y_iload_n (pc := 34) dX4_peopleOn_34 rfl ?_
      exact y_iret (pc := 35) dX4_peopleOn_35
    · refine y_aload_n (pc := 12) dX4_peopleOn_12 rfl ?_
      refine y_getref (pc := 13) (x := (a0 + 10)) (g_X4_46 ha0) dX4_peopleOn_13 ?_
      refine y_iload_n (pc := 16) dX4_peopleOn_16 rfl ?_
      refine y_gd (fun h3 => ?_)
      refine y_iald (pc := 17) dX4_peopleOn_17 (ar_w10 ha0) h3 ?_
      refine y_iload_n (pc := 18) dX4_peopleOn_18 rfl ?_
      refine y_gd (fun h4 => ?_)
      refine y_icmp_ne (off := 9) (tgt := 28) (pc := 19) dX4_peopleOn_19 (by decide) (rd_rng _ _ _) h4 (fun h5 => ?_) (fun h5 => ?_)
      · refine y_iinc (L' := [some (rv a0), some (iv a1), some (iv a2), some (iv (a3 + 1))]) (pc := 28) dX4_peopleOn_28 rfl (by decide) rfl rfl ?_
        refine y_goto (tgt := 4) (pc := 31) dX4_peopleOn_31 (by decide) ?_
        exact y_sub (ls_s (ls_s (ls_s (ls_s ls_0)))) (ih M a0 a1 a2 (a3 + 1) ha0)
      · refine y_iload_n (pc := 22) dX4_peopleOn_22 rfl ?_
        refine y_iconst (pc := 23) dX4_peopleOn_23 ?_
        refine y_iload_n (pc := 24) dX4_peopleOn_24 rfl ?_
        refine y_ishl (pc := 25) dX4_peopleOn_25 ?_
        refine y_ior (pc := 26) dX4_peopleOn_26 ?_
        refine y_istore_n (L' := [some (rv a0), some (iv a1), some (iv (bOr a2 (bShl 1 a3))), some (iv a3)]) (pc := 27) dX4_peopleOn_27 (by decide) rfl rfl ?_
        refine y_iinc (L' := [some (rv a0), some (iv a1), some (iv (bOr a2 (bShl 1 a3))), some (iv (a3 + 1))]) (pc := 28) dX4_peopleOn_28 rfl (by decide) rfl rfl ?_
        refine y_goto (tgt := 4) (pc := 31) dX4_peopleOn_31 (by decide) ?_
        exact y_sub (ls_s (ls_s (ls_s (ls_s ls_0)))) (ih M a0 a1 (bOr a2 (bShl 1 a3)) (a3 + 1) ha0)
def m_X4_peopleOn (n : Nat) (M : Mem) (a0 : Nat) (a1 : Int) : Rs := if isW a0 then (m_X4_peopleOn_4 n n M a0 a1 0 0) else none
theorem y_X4_peopleOn (n : Nat) (M : Mem) (a0 : Nat) (a1 : Int) : Y RX4 cX4_peopleOn 4 0 0 none 0 [some (rv a0), some (iv a1), none, none] [] M (m_X4_peopleOn n M a0 a1) := by
  unfold m_X4_peopleOn
  refine y_gd (fun ha0 => ?_)
  refine y_iconst (pc := 0) dX4_peopleOn_0 ?_
  refine y_istore_n (L' := [some (rv a0), some (iv a1), some (iv 0), none]) (pc := 1) dX4_peopleOn_1 (by decide) rfl rfl ?_
  refine y_iconst (pc := 2) dX4_peopleOn_2 ?_
  refine y_istore_n (L' := [some (rv a0), some (iv a1), some (iv 0), some (iv 0)]) (pc := 3) dX4_peopleOn_3 (by decide) rfl rfl ?_
  exact y_sub (ls_s (ls_s (ls_s (ls_s ls_0)))) (t_X4_peopleOn_4 n n M a0 a1 0 0 ha0)
theorem c_X4_peopleOn (n : Nat) (M : Mem) (a0 : Nat) (a1 : Int) : ∀ res : Int × Mem, m_X4_peopleOn n M a0 a1 = some res → CTi none yX4_peopleOn cX4_peopleOn 4 (some .int) 0 [rv a0, iv a1] M res := CTi_of (by decide +kernel) rfl (Nat.le_of_ble_eq_true rfl) rfl (y_X4_peopleOn n M a0 a1)
def m_X4_thingsOn_4 (n : Nat) : Nat → Mem → Nat → Int → Int → Int → Rs
  | 0, _, _, _, _, _ => none
  | t + 1, M, a0, a1, a2, a3 => if I32 a3 then (if (rd M a0 7) ≤ a3 then (some (a2, M)) else (if 0 ≤ a3 ∧ a3 < 8 then (if I32 a1 then (if (rd M (a0 + 5) (Int.toNat a3)) = a1 then ((m_X4_thingsOn_4 n t) M a0 a1 (bOr a2 (bShl 1 a3)) (a3 + 1)) else ((m_X4_thingsOn_4 n t) M a0 a1 a2 (a3 + 1))) else none) else none)) else none
theorem t_X4_thingsOn_4 (n : Nat) : ∀ (t : Nat) (M : Mem) (a0 : Nat) (a1 : Int) (a2 : Int) (a3 : Int), isW a0 → Y RX4 cX4_thingsOn 4 0 0 none 4 [some (rv a0), some (iv a1), some (iv a2), some (iv a3)] [] M (m_X4_thingsOn_4 n t M a0 a1 a2 a3) := by
  intro t
  induction t with
  | zero => intro M a0 a1 a2 a3 ha0; exact y_none
  | succ t ih =>
    intro M a0 a1 a2 a3 ha0
    rewrite [m_X4_thingsOn_4]
    refine y_iload_n (pc := 4) dX4_thingsOn_4 rfl ?_
    refine y_aload_n (pc := 5) dX4_thingsOn_5 rfl ?_
    refine y_getint (pc := 6) (g_X4_34 ha0) dX4_thingsOn_6 ?_
    refine y_gd (fun h1 => ?_)
    refine y_icmp_ge (off := 25) (tgt := 34) (pc := 9) dX4_thingsOn_9 (by decide) h1 (rd_rng _ _ _) (fun h2 => ?_) (fun h2 => ?_)
    · refine y_iload_n (pc := 34) dX4_thingsOn_34 rfl ?_
      exact y_iret (pc := 35) dX4_thingsOn_35
    · refine y_aload_n (pc := 12) dX4_thingsOn_12 rfl ?_
      refine y_getref (pc := 13) (x := (a0 + 5)) (g_X4_28 ha0) dX4_thingsOn_13 ?_
      refine y_iload_n (pc := 16) dX4_thingsOn_16 rfl ?_
      refine y_gd (fun h3 => ?_)
      refine y_iald (pc := 17) dX4_thingsOn_17 (ar_w5 ha0) h3 ?_
      refine y_iload_n (pc := 18) dX4_thingsOn_18 rfl ?_
      refine y_gd (fun h4 => ?_)
      refine y_icmp_ne (off := 9) (tgt := 28) (pc := 19) dX4_thingsOn_19 (by decide) (rd_rng _ _ _) h4 (fun h5 => ?_) (fun h5 => ?_)
      · refine y_iinc (L' := [some (rv a0), some (iv a1), some (iv a2), some (iv (a3 + 1))]) (pc := 28) dX4_thingsOn_28 rfl (by decide) rfl rfl ?_
        refine y_goto (tgt := 4) (pc := 31) dX4_thingsOn_31 (by decide) ?_
        exact y_sub (ls_s (ls_s (ls_s (ls_s ls_0)))) (ih M a0 a1 a2 (a3 + 1) ha0)
      · refine y_iload_n (pc := 22) dX4_thingsOn_22 rfl ?_
        refine y_iconst (pc := 23) dX4_thingsOn_23 ?_
        refine y_iload_n (pc := 24) dX4_thingsOn_24 rfl ?_
        refine y_ishl (pc := 25) dX4_thingsOn_25 ?_
        refine y_ior (pc := 26) dX4_thingsOn_26 ?_
        refine y_istore_n (L' := [some (rv a0), some (iv a1), some (iv (bOr a2 (bShl 1 a3))), some (iv a3)]) (pc := 27) dX4_thingsOn_27 (by decide) rfl rfl ?_
        refine y_iinc (L' := [some (rv a0), some (iv a1), some (iv (bOr a2 (bShl 1 a3))), some (iv (a3 + 1))]) (pc := 28) dX4_thingsOn_28 rfl (by decide) rfl rfl ?_
        refine y_goto (tgt := 4) (pc := 31) dX4_thingsOn_31 (by decide) ?_
        exact y_sub (ls_s (ls_s (ls_s (ls_s ls_0)))) (ih M a0 a1 (bOr a2 (bShl 1 a3)) (a3 + 1) ha0)
def m_X4_thingsOn (n : Nat) (M : Mem) (a0 : Nat) (a1 : Int) : Rs := if isW a0 then (m_X4_thingsOn_4 n n M a0 a1 0 0) else none
theorem y_X4_thingsOn (n : Nat) (M : Mem) (a0 : Nat) (a1 : Int) : Y RX4 cX4_thingsOn 4 0 0 none 0 [some (rv a0), some (iv a1), none, none] [] M (m_X4_thingsOn n M a0 a1) := by
  unfold m_X4_thingsOn
  refine y_gd (fun ha0 => ?_)
  refine y_iconst (pc := 0) dX4_thingsOn_0 ?_
  refine y_istore_n (L' := [some (rv a0), some (iv a1), some (iv 0), none]) (pc := 1) dX4_thingsOn_1 (by decide) rfl rfl ?_
  refine y_iconst (pc := 2) dX4_thingsOn_2 ?_
  refine y_istore_n (L' := [some (rv a0), some (iv a1), some (iv 0), some (iv 0)]) (pc := 3) dX4_thingsOn_3 (by decide) rfl rfl ?_
  exact y_sub (ls_s (ls_s (ls_s (ls_s ls_0)))) (t_X4_thingsOn_4 n n M a0 a1 0 0 ha0)
theorem c_X4_thingsOn (n : Nat) (M : Mem) (a0 : Nat) (a1 : Int) : ∀ res : Int × Mem, m_X4_thingsOn n M a0 a1 = some res → CTi none yX4_thingsOn cX4_thingsOn 4 (some .int) 0 [rv a0, iv a1] M res := CTi_of (by decide +kernel) rfl (Nat.le_of_ble_eq_true rfl) rfl (y_X4_thingsOn n M a0 a1)
def m_X5_refuse (n : Nat) (M : Mem) (a1 : Int) : Rs := if I32 (-a1) then (if (-a1) < 0 then (some (a1, M)) else (if 6 < (-a1) then (some (a1, M)) else (if 0 ≤ (-a1) ∧ (-a1) < 7 then (wr M 134 (Int.toNat (-a1)) ((rd M 134 (Int.toNat (-a1))) + 1) (fun M5 => some (a1, M5))) else none))) else none
theorem y_X5_refuse (n : Nat) (M : Mem) (a1 : Int) : Y RX5 cX5_refuse 3 0 0 none 0 [some (rv 130), some (iv a1), none] [] M (m_X5_refuse n M a1) := by
  unfold m_X5_refuse
  refine y_iload_n (pc := 0) dX5_refuse_0 rfl ?_
  refine y_ineg (pc := 1) dX5_refuse_1 ?_
  refine y_istore_n (L' := [some (rv 130), some (iv a1), some (iv (-a1))]) (pc := 2) dX5_refuse_2 (by decide) rfl rfl ?_
  refine y_iload_n (pc := 3) dX5_refuse_3 rfl ?_
  refine y_gd (fun h1 => ?_)
  refine y_if_lt (off := 19) (tgt := 23) (pc := 4) dX5_refuse_4 (by decide) h1 (fun h2 => ?_) (fun h2 => ?_)
  · refine y_iload_n (pc := 23) dX5_refuse_23 rfl ?_
    exact y_iret (pc := 24) dX5_refuse_24
  · refine y_iload_n (pc := 7) dX5_refuse_7 rfl ?_
    refine y_bipush (pc := 8) dX5_refuse_8 (by decide) ?_
    refine y_icmp_gt (off := 13) (tgt := 23) (pc := 10) dX5_refuse_10 (by decide) h1 (by decide) (fun h3 => ?_) (fun h3 => ?_)
    · refine y_iload_n (pc := 23) dX5_refuse_23 rfl ?_
      exact y_iret (pc := 24) dX5_refuse_24
    · refine y_aload_n (pc := 13) dX5_refuse_13 rfl ?_
      refine y_getref (pc := 14) (x := 134) g_X5_44 dX5_refuse_14 ?_
      refine y_iload_n (pc := 17) dX5_refuse_17 rfl ?_
      refine y_dup2 (pc := 18) dX5_refuse_18 rfl rfl ?_
      refine y_gd (fun h4 => ?_)
      refine y_iald (pc := 19) dX5_refuse_19 ar_134 h4 ?_
      refine y_iconst (pc := 20) dX5_refuse_20 ?_
      refine y_iadd (pc := 21) dX5_refuse_21 ?_
      refine y_iastw (pc := 22) dX5_refuse_22 ar_134 h4 (fun M5 => ?_)
      refine y_iload_n (pc := 23) dX5_refuse_23 rfl ?_
      exact y_iret (pc := 24) dX5_refuse_24
theorem c_X5_refuse (n : Nat) (M : Mem) (a1 : Int) : ∀ res : Int × Mem, m_X5_refuse n M a1 = some res → CTi none yX5_refuse cX5_refuse 3 (some .int) 0 [rv 130, iv a1] M res := CTi_of (by decide +kernel) rfl (Nat.le_of_ble_eq_true rfl) rfl (y_X5_refuse n M a1)
def m_X5_person (n : Nat) (M : Mem) (a1 : Int) (a2 : Int) : Rs := bd (m_X4_hasPerson n M 0 a1) (fun r2 M1 => if I32 r2 then (if r2 = 0 then (bd (m_X5_refuse n M1 (-1)) (fun r38 M37 => some (r38, M37))) else (if I32 a2 then (if a2 = 0 then (if 0 ≤ a1 ∧ a1 < 5 then (some ((rd M1 7 (Int.toNat a1)), M1)) else none) else (if a2 = 1 then (if 0 ≤ a1 ∧ a1 < 5 then (some ((rd M1 8 (Int.toNat a1)), M1)) else none) else (if a2 = 2 then (if 0 ≤ a1 ∧ a1 < 5 then (some ((rd M1 9 (Int.toNat a1)), M1)) else none) else (if a2 = 3 then (if 0 ≤ a1 ∧ a1 < 5 then (some ((rd M1 10 (Int.toNat a1)), M1)) else none) else (if a2 = 4 then (if 0 ≤ a1 ∧ a1 < 5 then (bd (m_X1_pace n M1 (rd M1 7 (Int.toNat a1)) (rd M1 8 (Int.toNat a1))) (fun r17 M16 => some (r17, M16))) else none) else (if a2 = 5 then (if 0 ≤ a1 ∧ a1 < 5 then (bd (m_X1_grabs n M1 (rd M1 7 (Int.toNat a1)) (rd M1 8 (Int.toNat a1))) (fun r21 M20 => some (r21, M20))) else none) else (if a2 = 6 then (if 0 ≤ a1 ∧ a1 < 5 then (bd (m_X1_steam n M1 (rd M1 7 (Int.toNat a1)) (rd M1 8 (Int.toNat a1))) (fun r25 M24 => some (r25, M24))) else none) else (if a2 = 7 then (bd (m_X0_begin n M1 0) (fun _ M27 => wr M27 22 13 ((rd M27 22 13) + 1) (fun M28 => bd (m_X0_look n M28) (fun _ M29 => bd (m_X0_goal n M29 a1) (fun r31 M30 => some (r31, M30)))))) else (if a2 = 8 then (bd (m_X4_worthsOf n M1 0 a1) (fun r34 M33 => some (r34, M33))) else (bd (m_X5_refuse n M1 (-2)) (fun r36 M35 => some (r36, M35)))))))))))) else none)) else none)
theorem y_X5_person (n : Nat) (M : Mem) (a1 : Int) (a2 : Int) : Y RX5 cX5_person 3 5 0 none 0 [some (rv 130), some (iv a1), some (iv a2)] [] M (m_X5_person n M a1 a2) := by
  unfold m_X5_person
  refine y_aload_n (pc := 0) dX5_person_0 rfl ?_
  refine y_getref (pc := 1) (x := 0) g_X5_10 dX5_person_1 ?_
  refine y_iload_n (pc := 4) dX5_person_4 rfl ?_
  refine y_callVi (pc := 5) v_X4_hasPerson l_X5_123 dX5_person_5 (c_X4_hasPerson n _ _ _) (fun _ h => nomatch h) rfl (rc_X4 (by decide)) rfl (by decide) (by decide) (Nat.le_of_ble_eq_true rfl) (fun r2 M1 _ => ?_)
  refine y_gd (fun h3 => ?_)
  refine y_if_ne (off := 9) (tgt := 17) (pc := 8) dX5_person_8 (by decide) h3 (fun h4 => ?_) (fun h4 => ?_)
  · refine y_iload_n (pc := 17) dX5_person_17 rfl ?_
    refine y_gd (fun h5 => ?_)
    refine y_br (fun h6 => ?_) (fun h6 => ?_)
    · refine y_tableIn (off := 50) (tgt := 68) (pc := 18) dX5_person_18 h6 (by decide) (by decide) (by decide) rfl (by decide) ?_
      refine y_aload_n (pc := 68) dX5_person_68 rfl ?_
      refine y_getref (pc := 69) (x := 0) g_X5_10 dX5_person_69 ?_
      refine y_getref (pc := 72) (x := 7) (g_X5_126 (by decide)) dX5_person_72 ?_
      refine y_iload_n (pc := 75) dX5_person_75 rfl ?_
      refine y_gd (fun h7 => ?_)
      refine y_iald (pc := 76) dX5_person_76 ar_7 h7 ?_
      exact y_iret (pc := 77) dX5_person_77
    · refine y_br (fun h8 => ?_) (fun h8 => ?_)
      · refine y_tableIn (off := 60) (tgt := 78) (pc := 18) dX5_person_18 h8 (by decide) (by decide) (by decide) rfl (by decide) ?_
        refine y_aload_n (pc := 78) dX5_person_78 rfl ?_
        refine y_getref (pc := 79) (x := 0) g_X5_10 dX5_person_79 ?_
        refine y_getref (pc := 82) (x := 8) (g_X5_129 (by decide)) dX5_person_82 ?_
        refine y_iload_n (pc := 85) dX5_person_85 rfl ?_
        refine y_gd (fun h9 => ?_)
        refine y_iald (pc := 86) dX5_person_86 ar_8 h9 ?_
        exact y_iret (pc := 87) dX5_person_87
      · refine y_br (fun h10 => ?_) (fun h10 => ?_)
        · refine y_tableIn (off := 70) (tgt := 88) (pc := 18) dX5_person_18 h10 (by decide) (by decide) (by decide) rfl (by decide) ?_
          refine y_aload_n (pc := 88) dX5_person_88 rfl ?_
          refine y_getref (pc := 89) (x := 0) g_X5_10 dX5_person_89 ?_
          refine y_getref (pc := 92) (x := 9) (g_X5_132 (by decide)) dX5_person_92 ?_
          refine y_iload_n (pc := 95) dX5_person_95 rfl ?_
          refine y_gd (fun h11 => ?_)
          refine y_iald (pc := 96) dX5_person_96 ar_9 h11 ?_
          exact y_iret (pc := 97) dX5_person_97
        · refine y_br (fun h12 => ?_) (fun h12 => ?_)
          · refine y_tableIn (off := 80) (tgt := 98) (pc := 18) dX5_person_18 h12 (by decide) (by decide) (by decide) rfl (by decide) ?_
            refine y_aload_n (pc := 98) dX5_person_98 rfl ?_
            refine y_getref (pc := 99) (x := 0) g_X5_10 dX5_person_99 ?_
            refine y_getref (pc := 102) (x := 10) (g_X5_135 (by decide)) dX5_person_102 ?_
            refine y_iload_n (pc := 105) dX5_person_105 rfl ?_
            refine y_gd (fun h13 => ?_)
            refine y_iald (pc := 106) dX5_person_106 ar_10 h13 ?_
            exact y_iret (pc := 107) dX5_person_107
          · refine y_br (fun h14 => ?_) (fun h14 => ?_)
            · refine y_tableIn (off := 90) (tgt := 108) (pc := 18) dX5_person_18 h14 (by decide) (by decide) (by decide) rfl (by decide) ?_
              refine y_aload_n (pc := 108) dX5_person_108 rfl ?_
              refine y_getref (pc := 109) (x := 0) g_X5_10 dX5_person_109 ?_
              refine y_getref (pc := 112) (x := 7) (g_X5_126 (by decide)) dX5_person_112 ?_
              refine y_iload_n (pc := 115) dX5_person_115 rfl ?_
              refine y_gd (fun h15 => ?_)
              refine y_iald (pc := 116) dX5_person_116 ar_7 h15 ?_
              refine y_aload_n (pc := 117) dX5_person_117 rfl ?_
              refine y_getref (pc := 118) (x := 0) g_X5_10 dX5_person_118 ?_
              refine y_getref (pc := 121) (x := 8) (g_X5_129 (by decide)) dX5_person_121 ?_
              refine y_iload_n (pc := 124) dX5_person_124 rfl ?_
              refine y_iald (pc := 125) dX5_person_125 ar_8 h15 ?_
              refine y_callSi (pc := 126) s_X1_pace l_X5_138 dX5_person_126 (c_X1_pace n _ _ _) (fun _ h => nomatch h) rfl rfl (by decide) (by decide) (Nat.le_of_ble_eq_true rfl) (fun r17 M16 _ => ?_)
              exact y_iret (pc := 129) dX5_person_129
            · refine y_br (fun h18 => ?_) (fun h18 => ?_)
              · refine y_tableIn (off := 112) (tgt := 130) (pc := 18) dX5_person_18 h18 (by decide) (by decide) (by decide) rfl (by decide) ?_
                refine y_aload_n (pc := 130) dX5_person_130 rfl ?_
                refine y_getref (pc := 131) (x := 0) g_X5_10 dX5_person_131 ?_
                refine y_getref (pc := 134) (x := 7) (g_X5_126 (by decide)) dX5_person_134 ?_
                refine y_iload_n (pc := 137) dX5_person_137 rfl ?_
                refine y_gd (fun h19 => ?_)
                refine y_iald (pc := 138) dX5_person_138 ar_7 h19 ?_
                refine y_aload_n (pc := 139) dX5_person_139 rfl ?_
                refine y_getref (pc := 140) (x := 0) g_X5_10 dX5_person_140 ?_
                refine y_getref (pc := 143) (x := 8) (g_X5_129 (by decide)) dX5_person_143 ?_
                refine y_iload_n (pc := 146) dX5_person_146 rfl ?_
                refine y_iald (pc := 147) dX5_person_147 ar_8 h19 ?_
                refine y_callSi (pc := 148) s_X1_grabs l_X5_144 dX5_person_148 (c_X1_grabs n _ _ _) (fun _ h => nomatch h) rfl rfl (by decide) (by decide) (Nat.le_of_ble_eq_true rfl) (fun r21 M20 _ => ?_)
                exact y_iret (pc := 151) dX5_person_151
              · refine y_br (fun h22 => ?_) (fun h22 => ?_)
                · refine y_tableIn (off := 134) (tgt := 152) (pc := 18) dX5_person_18 h22 (by decide) (by decide) (by decide) rfl (by decide) ?_
                  refine y_aload_n (pc := 152) dX5_person_152 rfl ?_
                  refine y_getref (pc := 153) (x := 0) g_X5_10 dX5_person_153 ?_
                  refine y_getref (pc := 156) (x := 7) (g_X5_126 (by decide)) dX5_person_156 ?_
                  refine y_iload_n (pc := 159) dX5_person_159 rfl ?_
                  refine y_gd (fun h23 => ?_)
                  refine y_iald (pc := 160) dX5_person_160 ar_7 h23 ?_
                  refine y_aload_n (pc := 161) dX5_person_161 rfl ?_
                  refine y_getref (pc := 162) (x := 0) g_X5_10 dX5_person_162 ?_
                  refine y_getref (pc := 165) (x := 8) (g_X5_129 (by decide)) dX5_person_165 ?_
                  refine y_iload_n (pc := 168) dX5_person_168 rfl ?_
                  refine y_iald (pc := 169) dX5_person_169 ar_8 h23 ?_
                  refine y_callSi (pc := 170) s_X1_steam l_X5_147 dX5_person_170 (c_X1_steam n _ _ _) (fun _ h => nomatch h) rfl rfl (by decide) (by decide) (Nat.le_of_ble_eq_true rfl) (fun r25 M24 _ => ?_)
                  exact y_iret (pc := 173) dX5_person_173
                · refine y_br (fun h26 => ?_) (fun h26 => ?_)
                  · refine y_tableIn (off := 156) (tgt := 174) (pc := 18) dX5_person_18 h26 (by decide) (by decide) (by decide) rfl (by decide) ?_
                    refine y_aload_n (pc := 174) dX5_person_174 rfl ?_
                    refine y_getref (pc := 175) (x := 129) g_X5_50 dX5_person_175 ?_
                    refine y_aload_n (pc := 178) dX5_person_178 rfl ?_
                    refine y_getref (pc := 179) (x := 0) g_X5_10 dX5_person_179 ?_
                    refine y_callVv (pc := 182) v_X0_begin l_X5_67 dX5_person_182 (c_X0_begin n _ _) (fun _ h => nomatch h) rfl rc_X0 rfl (by decide) (by decide) (Nat.le_of_ble_eq_true rfl) (fun _ M27 _ => ?_)
                    refine y_aload_n (pc := 185) dX5_person_185 rfl ?_
                    refine y_getref (pc := 186) (x := 129) g_X5_50 dX5_person_186 ?_
                    refine y_getref (pc := 189) (x := 22) g_X5_81 dX5_person_189 ?_
                    refine y_dup (pc := 192) dX5_person_192 rfl ?_
                    refine y_getint (pc := 193) (g_X5_116 (by decide)) dX5_person_193 ?_
                    refine y_iconst (pc := 196) dX5_person_196 ?_
                    refine y_iadd (pc := 197) dX5_person_197 ?_
                    refine y_putintw (pc := 198) (pf_X5_116 (by decide)) dX5_person_198 (fun M28 => ?_)
                    refine y_aload_n (pc := 201) dX5_person_201 rfl ?_
                    refine y_getref (pc := 202) (x := 129) g_X5_50 dX5_person_202 ?_
                    refine y_callVv (pc := 205) v_X0_look l_X5_150 dX5_person_205 (c_X0_look n _) (fun _ h => nomatch h) rfl rc_X0 rfl (by decide) (by decide) (Nat.le_of_ble_eq_true rfl) (fun _ M29 _ => ?_)
                    refine y_aload_n (pc := 208) dX5_person_208 rfl ?_
                    refine y_getref (pc := 209) (x := 129) g_X5_50 dX5_person_209 ?_
                    refine y_iload_n (pc := 212) dX5_person_212 rfl ?_
                    refine y_callVi (pc := 213) v_X0_goal l_X5_153 dX5_person_213 (c_X0_goal n _ _) (fun _ h => nomatch h) rfl rc_X0 rfl (by decide) (by decide) (Nat.le_of_ble_eq_true rfl) (fun r31 M30 _ => ?_)
                    exact y_iret (pc := 216) dX5_person_216
                  · refine y_br (fun h32 => ?_) (fun h32 => ?_)
                    · refine y_tableIn (off := 199) (tgt := 217) (pc := 18) dX5_person_18 h32 (by decide) (by decide) (by decide) rfl (by decide) ?_
                      refine y_aload_n (pc := 217) dX5_person_217 rfl ?_
                      refine y_getref (pc := 218) (x := 0) g_X5_10 dX5_person_218 ?_
                      refine y_iload_n (pc := 221) dX5_person_221 rfl ?_
                      refine y_callVi (pc := 222) v_X4_worthsOf l_X5_156 dX5_person_222 (c_X4_worthsOf n _ _ _) (fun _ h => nomatch h) rfl (rc_X4 (by decide)) rfl (by decide) (by decide) (Nat.le_of_ble_eq_true rfl) (fun r34 M33 _ => ?_)
                      exact y_iret (pc := 225) dX5_person_225
                    · refine y_tableOut (tgt := 226) (pc := 18) dX5_person_18 h5 (by omega) (by decide) ?_
                      refine y_aload_n (pc := 226) dX5_person_226 rfl ?_
                      refine y_bipush (pc := 227) dX5_person_227 (by decide) ?_
                      refine y_callVi (pc := 229) v_X5_refuse l_X5_60 dX5_person_229 (c_X5_refuse n _ _) (fun _ h => nomatch h) rfl rc_X5 rfl (by decide) (by decide) (Nat.le_of_ble_eq_true rfl) (fun r36 M35 _ => ?_)
                      exact y_iret (pc := 232) dX5_person_232
  · refine y_aload_n (pc := 11) dX5_person_11 rfl ?_
    refine y_iconst (pc := 12) dX5_person_12 ?_
    refine y_callVi (pc := 13) v_X5_refuse l_X5_60 dX5_person_13 (c_X5_refuse n _ _) (fun _ h => nomatch h) rfl rc_X5 rfl (by decide) (by decide) (Nat.le_of_ble_eq_true rfl) (fun r38 M37 _ => ?_)
    exact y_iret (pc := 16) dX5_person_16
theorem c_X5_person (n : Nat) (M : Mem) (a1 : Int) (a2 : Int) : ∀ res : Int × Mem, m_X5_person n M a1 a2 = some res → CTi none yX5_person cX5_person 3 (some .int) 5 [rv 130, iv a1, iv a2] M res := CTi_of (by decide +kernel) rfl (Nat.le_of_ble_eq_true rfl) rfl (y_X5_person n M a1 a2)
def m_X5_orNone (n : Nat) (M : Mem) (a0 : Int) : Rs := if I32 a0 then (if a0 = (-1) then (some ((-9), M)) else (some (a0, M))) else none
theorem y_X5_orNone (n : Nat) (M : Mem) (a0 : Int) : Y RX5 cX5_orNone 1 0 0 none 0 [some (iv a0)] [] M (m_X5_orNone n M a0) := by
  unfold m_X5_orNone
  refine y_iload_n (pc := 0) dX5_orNone_0 rfl ?_
  refine y_iconst (pc := 1) dX5_orNone_1 ?_
  refine y_gd (fun h1 => ?_)
  refine y_icmp_ne (off := 8) (tgt := 10) (pc := 2) dX5_orNone_2 (by decide) h1 (by decide) (fun h2 => ?_) (fun h2 => ?_)
  · refine y_iload_n (pc := 10) dX5_orNone_10 rfl ?_
    exact y_iret (pc := 11) dX5_orNone_11
  · refine y_bipush (pc := 5) dX5_orNone_5 (by decide) ?_
    refine y_goto (tgt := 11) (pc := 7) dX5_orNone_7 (by decide) ?_
    exact y_iret (pc := 11) dX5_orNone_11
theorem c_X5_orNone (n : Nat) (M : Mem) (a0 : Int) : ∀ res : Int × Mem, m_X5_orNone n M a0 = some res → CTi none yX5_orNone cX5_orNone 1 (some .int) 0 [iv a0] M res := CTi_of (by decide +kernel) rfl (Nat.le_of_ble_eq_true rfl) rfl (y_X5_orNone n M a0)
def m_X5_thing (n : Nat) (M : Mem) (a1 : Int) (a2 : Int) : Rs := bd (m_X4_hasThing n M 0 a1) (fun r2 M1 => if I32 r2 then (if r2 = 0 then (bd (m_X5_refuse n M1 (-1)) (fun r17 M16 => some (r17, M16))) else (if I32 a2 then (if a2 = 0 then (if 0 ≤ a1 ∧ a1 < 8 then (some ((rd M1 4 (Int.toNat a1)), M1)) else none) else (if a2 = 1 then (if 0 ≤ a1 ∧ a1 < 8 then (some ((rd M1 5 (Int.toNat a1)), M1)) else none) else (if a2 = 2 then (if 0 ≤ a1 ∧ a1 < 8 then (bd (m_X5_orNone n M1 (rd M1 6 (Int.toNat a1))) (fun r13 M12 => some (r13, M12))) else none) else (bd (m_X5_refuse n M1 (-2)) (fun r15 M14 => some (r15, M14)))))) else none)) else none)
theorem y_X5_thing (n : Nat) (M : Mem) (a1 : Int) (a2 : Int) : Y RX5 cX5_thing 3 1 0 none 0 [some (rv 130), some (iv a1), some (iv a2)] [] M (m_X5_thing n M a1 a2) := by
  unfold m_X5_thing
  refine y_aload_n (pc := 0) dX5_thing_0 rfl ?_
  refine y_getref (pc := 1) (x := 0) g_X5_10 dX5_thing_1 ?_
  refine y_iload_n (pc := 4) dX5_thing_4 rfl ?_
  refine y_callVi (pc := 5) v_X4_hasThing l_X5_159 dX5_thing_5 (c_X4_hasThing n _ _ _) (fun _ h => nomatch h) rfl (rc_X4 (by decide)) rfl (by decide) (by decide) (Nat.le_of_ble_eq_true rfl) (fun r2 M1 _ => ?_)
  refine y_gd (fun h3 => ?_)
  refine y_if_ne (off := 9) (tgt := 17) (pc := 8) dX5_thing_8 (by decide) h3 (fun h4 => ?_) (fun h4 => ?_)
  · refine y_iload_n (pc := 17) dX5_thing_17 rfl ?_
    refine y_gd (fun h5 => ?_)
    refine y_br (fun h6 => ?_) (fun h6 => ?_)
    · refine y_tableIn (off := 26) (tgt := 44) (pc := 18) dX5_thing_18 h6 (by decide) (by decide) (by decide) rfl (by decide) ?_
      refine y_aload_n (pc := 44) dX5_thing_44 rfl ?_
      refine y_getref (pc := 45) (x := 0) g_X5_10 dX5_thing_45 ?_
      refine y_getref (pc := 48) (x := 4) (g_X5_162 (by decide)) dX5_thing_48 ?_
      refine y_iload_n (pc := 51) dX5_thing_51 rfl ?_
      refine y_gd (fun h7 => ?_)
      refine y_iald (pc := 52) dX5_thing_52 ar_4 h7 ?_
      exact y_iret (pc := 53) dX5_thing_53
    · refine y_br (fun h8 => ?_) (fun h8 => ?_)
      · refine y_tableIn (off := 36) (tgt := 54) (pc := 18) dX5_thing_18 h8 (by decide) (by decide) (by decide) rfl (by decide) ?_
        refine y_aload_n (pc := 54) dX5_thing_54 rfl ?_
        refine y_getref (pc := 55) (x := 0) g_X5_10 dX5_thing_55 ?_
        refine y_getref (pc := 58) (x := 5) (g_X5_165 (by decide)) dX5_thing_58 ?_
        refine y_iload_n (pc := 61) dX5_thing_61 rfl ?_
        refine y_gd (fun h9 => ?_)
        refine y_iald (pc := 62) dX5_thing_62 ar_5 h9 ?_
        exact y_iret (pc := 63) dX5_thing_63
      · refine y_br (fun h10 => ?_) (fun h10 => ?_)
        · refine y_tableIn (off := 46) (tgt := 64) (pc := 18) dX5_thing_18 h10 (by decide) (by decide) (by decide) rfl (by decide) ?_
          refine y_aload_n (pc := 64) dX5_thing_64 rfl ?_
          refine y_getref (pc := 65) (x := 0) g_X5_10 dX5_thing_65 ?_
          refine y_getref (pc := 68) (x := 6) (g_X5_168 (by decide)) dX5_thing_68 ?_
          refine y_iload_n (pc := 71) dX5_thing_71 rfl ?_
          refine y_gd (fun h11 => ?_)
          refine y_iald (pc := 72) dX5_thing_72 ar_6 h11 ?_
          refine y_callSi (pc := 73) s_X5_orNone l_X5_171 dX5_thing_73 (c_X5_orNone n _ _) (fun _ h => nomatch h) rfl rfl (by decide) (by decide) (Nat.le_of_ble_eq_true rfl) (fun r13 M12 _ => ?_)
          exact y_iret (pc := 76) dX5_thing_76
        · refine y_tableOut (tgt := 77) (pc := 18) dX5_thing_18 h5 (by omega) (by decide) ?_
          refine y_aload_n (pc := 77) dX5_thing_77 rfl ?_
          refine y_bipush (pc := 78) dX5_thing_78 (by decide) ?_
          refine y_callVi (pc := 80) v_X5_refuse l_X5_60 dX5_thing_80 (c_X5_refuse n _ _) (fun _ h => nomatch h) rfl rc_X5 rfl (by decide) (by decide) (Nat.le_of_ble_eq_true rfl) (fun r15 M14 _ => ?_)
          exact y_iret (pc := 83) dX5_thing_83
  · refine y_aload_n (pc := 11) dX5_thing_11 rfl ?_
    refine y_iconst (pc := 12) dX5_thing_12 ?_
    refine y_callVi (pc := 13) v_X5_refuse l_X5_60 dX5_thing_13 (c_X5_refuse n _ _) (fun _ h => nomatch h) rfl rc_X5 rfl (by decide) (by decide) (Nat.le_of_ble_eq_true rfl) (fun r17 M16 _ => ?_)
    exact y_iret (pc := 16) dX5_thing_16
theorem c_X5_thing (n : Nat) (M : Mem) (a1 : Int) (a2 : Int) : ∀ res : Int × Mem, m_X5_thing n M a1 a2 = some res → CTi none yX5_thing cX5_thing 3 (some .int) 1 [rv 130, iv a1, iv a2] M res := CTi_of (by decide +kernel) rfl (Nat.le_of_ble_eq_true rfl) rfl (y_X5_thing n M a1 a2)
def m_X5_cell_22 (n : Nat) (M : Mem) : Rs := bd (m_X5_refuse n M (-2)) (fun r2 M1 => some (r2, M1))
theorem t_X5_cell_22 (n : Nat) (M : Mem) : Y RX5 cX5_cell 3 5 0 none 22 [some (rv 130), none, none] [] M (m_X5_cell_22 n M) := by
  unfold m_X5_cell_22
  refine y_aload_n (pc := 22) dX5_cell_22 rfl ?_
  refine y_bipush (pc := 23) dX5_cell_23 (by decide) ?_
  refine y_callVi (pc := 25) v_X5_refuse l_X5_60 dX5_cell_25 (c_X5_refuse n _ _) (fun _ h => nomatch h) rfl rc_X5 rfl (by decide) (by decide) (Nat.le_of_ble_eq_true rfl) (fun r2 M1 _ => ?_)
  exact y_iret (pc := 28) dX5_cell_28
def m_X5_cell (n : Nat) (M : Mem) (a1 : Int) (a2 : Int) : Rs := bd (m_X5_isCell n M a1) (fun r4 M3 => if I32 r4 then (if r4 = 0 then (bd (m_X5_refuse n M3 (-1)) (fun r28 M27 => some (r28, M27))) else (if I32 a2 then (if a2 < 0 then (m_X5_cell_22 n M3) else (if a2 ≤ 4 then (bd (m_X0_begin n M3 0) (fun _ M10 => if a2 = 0 then (bd (m_X0_airOn n M10 a1) (fun r13 M12 => some (r13, M12))) else (if a2 = 1 then (bd (m_X0_fogOn n M10 a1) (fun r16 M15 => some (r16, M15))) else (if a2 = 2 then (bd (m_X0_isInFog n M10 a1) (fun r19 M18 => if I32 r19 then (if r19 = 0 then (some (0, M18)) else (some (1, M18))) else none)) else (if a2 = 3 then (bd (m_X4_peopleOn n M10 0 a1) (fun r24 M23 => some (r24, M23))) else (bd (m_X4_thingsOn n M10 0 a1) (fun r26 M25 => some (r26, M25)))))))) else (m_X5_cell_22 n M3))) else none)) else none)
theorem y_X5_cell (n : Nat) (M : Mem) (a1 : Int) (a2 : Int) : Y RX5 cX5_cell 3 5 0 none 0 [some (rv 130), some (iv a1), some (iv a2)] [] M (m_X5_cell n M a1 a2) := by
  unfold m_X5_cell
  refine y_iload_n (pc := 0) dX5_cell_0 rfl ?_
  refine y_callSi (pc := 1) s_X5_isCell l_X5_186 dX5_cell_1 (c_X5_isCell n _ _) (fun _ h => nomatch h) rfl rfl (by decide) (by decide) (Nat.le_of_ble_eq_true rfl) (fun r4 M3 _ => ?_)
  refine y_gd (fun h5 => ?_)
  refine y_if_ne (off := 9) (tgt := 13) (pc := 4) dX5_cell_4 (by decide) h5 (fun h6 => ?_) (fun h6 => ?_)
  · refine y_iload_n (pc := 13) dX5_cell_13 rfl ?_
    refine y_gd (fun h7 => ?_)
    refine y_if_lt (off := 8) (tgt := 22) (pc := 14) dX5_cell_14 (by decide) h7 (fun h8 => ?_) (fun h8 => ?_)
    · exact y_sub (ls_s (ls_n (ls_n ls_0))) (t_X5_cell_22 n M3)
    · refine y_iload_n (pc := 17) dX5_cell_17 rfl ?_
      refine y_iconst (pc := 18) dX5_cell_18 ?_
      refine y_icmp_le (off := 10) (tgt := 29) (pc := 19) dX5_cell_19 (by decide) h7 (by decide) (fun h9 => ?_) (fun h9 => ?_)
      · refine y_aload_n (pc := 29) dX5_cell_29 rfl ?_
        refine y_getref (pc := 30) (x := 129) g_X5_50 dX5_cell_30 ?_
        refine y_aload_n (pc := 33) dX5_cell_33 rfl ?_
        refine y_getref (pc := 34) (x := 0) g_X5_10 dX5_cell_34 ?_
        refine y_callVv (pc := 37) v_X0_begin l_X5_67 dX5_cell_37 (c_X0_begin n _ _) (fun _ h => nomatch h) rfl rc_X0 rfl (by decide) (by decide) (Nat.le_of_ble_eq_true rfl) (fun _ M10 _ => ?_)
        refine y_iload_n (pc := 40) dX5_cell_40 rfl ?_
        refine y_br (fun h11 => ?_) (fun h11 => ?_)
        · refine y_tableIn (off := 31) (tgt := 72) (pc := 41) dX5_cell_41 h11 (by decide) (by decide) (by decide) rfl (by decide) ?_
          refine y_aload_n (pc := 72) dX5_cell_72 rfl ?_
          refine y_getref (pc := 73) (x := 129) g_X5_50 dX5_cell_73 ?_
          refine y_iload_n (pc := 76) dX5_cell_76 rfl ?_
          refine y_callVi (pc := 77) v_X0_airOn l_X5_189 dX5_cell_77 (c_X0_airOn n _ _) (fun _ h => nomatch h) rfl rc_X0 rfl (by decide) (by decide) (Nat.le_of_ble_eq_true rfl) (fun r13 M12 _ => ?_)
          exact y_iret (pc := 80) dX5_cell_80
        · refine y_br (fun h14 => ?_) (fun h14 => ?_)
          · refine y_tableIn (off := 40) (tgt := 81) (pc := 41) dX5_cell_41 h14 (by decide) (by decide) (by decide) rfl (by decide) ?_
            refine y_aload_n (pc := 81) dX5_cell_81 rfl ?_
            refine y_getref (pc := 82) (x := 129) g_X5_50 dX5_cell_82 ?_
            refine y_iload_n (pc := 85) dX5_cell_85 rfl ?_
            refine y_callVi (pc := 86) v_X0_fogOn l_X5_192 dX5_cell_86 (c_X0_fogOn n _ _) (fun _ h => nomatch h) rfl rc_X0 rfl (by decide) (by decide) (Nat.le_of_ble_eq_true rfl) (fun r16 M15 _ => ?_)
            exact y_iret (pc := 89) dX5_cell_89
          · refine y_br (fun h17 => ?_) (fun h17 => ?_)
            · refine y_tableIn (off := 49) (tgt := 90) (pc := 41) dX5_cell_41 h17 (by decide) (by decide) (by decide) rfl (by decide) ?_
              refine y_aload_n (pc := 90) dX5_cell_90 rfl ?_
              refine y_getref (pc := 91) (x := 129) g_X5_50 dX5_cell_91 ?_
              refine y_iload_n (pc := 94) dX5_cell_94 rfl ?_
              refine y_callVi (pc := 95) v_X0_isInFog l_X5_195 dX5_cell_95 (c_X0_isInFog n _ _) (fun _ h => nomatch h) rfl rc_X0 rfl (by decide) (by decide) (Nat.le_of_ble_eq_true rfl) (fun r19 M18 _ => ?_)
              refine y_gd (fun h20 => ?_)
              refine y_if_eq (off := 7) (tgt := 105) (pc := 98) dX5_cell_98 (by decide) h20 (fun h21 => ?_) (fun h21 => ?_)
              · refine y_iconst (pc := 105) dX5_cell_105 ?_
                exact y_iret (pc := 106) dX5_cell_106
              · refine y_iconst (pc := 101) dX5_cell_101 ?_
                refine y_goto (tgt := 106) (pc := 102) dX5_cell_102 (by decide) ?_
                exact y_iret (pc := 106) dX5_cell_106
            · refine y_br (fun h22 => ?_) (fun h22 => ?_)
              · refine y_tableIn (off := 66) (tgt := 107) (pc := 41) dX5_cell_41 h22 (by decide) (by decide) (by decide) rfl (by decide) ?_
                refine y_aload_n (pc := 107) dX5_cell_107 rfl ?_
                refine y_getref (pc := 108) (x := 0) g_X5_10 dX5_cell_108 ?_
                refine y_iload_n (pc := 111) dX5_cell_111 rfl ?_
                refine y_callVi (pc := 112) v_X4_peopleOn l_X5_198 dX5_cell_112 (c_X4_peopleOn n _ _ _) (fun _ h => nomatch h) rfl (rc_X4 (by decide)) rfl (by decide) (by decide) (Nat.le_of_ble_eq_true rfl) (fun r24 M23 _ => ?_)
                exact y_iret (pc := 115) dX5_cell_115
              · refine y_tableOut (tgt := 116) (pc := 41) dX5_cell_41 h7 (by omega) (by decide) ?_
                refine y_aload_n (pc := 116) dX5_cell_116 rfl ?_
                refine y_getref (pc := 117) (x := 0) g_X5_10 dX5_cell_117 ?_
                refine y_iload_n (pc := 120) dX5_cell_120 rfl ?_
                refine y_callVi (pc := 121) v_X4_thingsOn l_X5_201 dX5_cell_121 (c_X4_thingsOn n _ _ _) (fun _ h => nomatch h) rfl (rc_X4 (by decide)) rfl (by decide) (by decide) (Nat.le_of_ble_eq_true rfl) (fun r26 M25 _ => ?_)
                exact y_iret (pc := 124) dX5_cell_124
      · exact y_sub (ls_s (ls_n (ls_n ls_0))) (t_X5_cell_22 n M3)
  · refine y_aload_n (pc := 7) dX5_cell_7 rfl ?_
    refine y_iconst (pc := 8) dX5_cell_8 ?_
    refine y_callVi (pc := 9) v_X5_refuse l_X5_60 dX5_cell_9 (c_X5_refuse n _ _) (fun _ h => nomatch h) rfl rc_X5 rfl (by decide) (by decide) (Nat.le_of_ble_eq_true rfl) (fun r28 M27 _ => ?_)
    exact y_iret (pc := 12) dX5_cell_12
theorem c_X5_cell (n : Nat) (M : Mem) (a1 : Int) (a2 : Int) : ∀ res : Int × Mem, m_X5_cell n M a1 a2 = some res → CTi none yX5_cell cX5_cell 3 (some .int) 5 [rv 130, iv a1, iv a2] M res := CTi_of (by decide +kernel) rfl (Nat.le_of_ble_eq_true rfl) rfl (y_X5_cell n M a1 a2)
end
section
def m_X5_count (n : Nat) (M : Mem) (a1 : Int) : Rs := if I32 a1 then (if a1 = 0 then (some ((rd M 0 12), M)) else (if a1 = 1 then (some ((rd M 0 7), M)) else (if a1 = 2 then (some ((rd M 0 3), M)) else (if a1 = 3 then (some ((rd M 0 13), M)) else (if a1 = 4 then (some ((rd M 0 14), M)) else (if a1 = 5 then (bd (m_X4_ownedThings n M 0) (fun r9 M8 => some (r9, M8))) else (if a1 = 6 then (some ((rd M 130 6), M)) else (if a1 = 7 then (some ((rd M 130 8), M)) else (if a1 = 8 then (some ((rd M 130 4), M)) else (if a1 = 9 then (bd (m_X0_begin n M 0) (fun _ M14 => bd (m_X0_foggyCells n M14) (fun r16 M15 => some (r16, M15)))) else (if a1 ≤ 10 then (some ((-9), M)) else (if 16 < a1 then (some ((-9), M)) else (if 0 ≤ (a1 - 10) ∧ (a1 - 10) < 7 then (some ((rd M 134 (Int.toNat (a1 - 10))), M)) else none))))))))))))) else none
theorem y_X5_count (n : Nat) (M : Mem) (a1 : Int) : Y RX5 cX5_count 2 5 0 none 0 [some (rv 130), some (iv a1)] [] M (m_X5_count n M a1) := by
  unfold m_X5_count
  refine y_iload_n (pc := 0) dX5_count_0 rfl ?_
  refine y_gd (fun h1 => ?_)
  refine y_br (fun h2 => ?_) (fun h2 => ?_)
  · refine y_tableIn (off := 55) (tgt := 56) (pc := 1) dX5_count_1 h2 (by decide) (by decide) (by decide) rfl (by decide) ?_
    refine y_aload_n (pc := 56) dX5_count_56 rfl ?_
    refine y_getref (pc := 57) (x := 0) g_X5_10 dX5_count_57 ?_
    refine y_getint (pc := 60) (g_X5_204 (by decide)) dX5_count_60 ?_
    exact y_iret (pc := 63) dX5_count_63
  · refine y_br (fun h3 => ?_) (fun h3 => ?_)
    · refine y_tableIn (off := 63) (tgt := 64) (pc := 1) dX5_count_1 h3 (by decide) (by decide) (by decide) rfl (by decide) ?_
      refine y_aload_n (pc := 64) dX5_count_64 rfl ?_
      refine y_getref (pc := 65) (x := 0) g_X5_10 dX5_count_65 ?_
      refine y_getint (pc := 68) (g_X5_207 (by decide)) dX5_count_68 ?_
      exact y_iret (pc := 71) dX5_count_71
    · refine y_br (fun h4 => ?_) (fun h4 => ?_)
      · refine y_tableIn (off := 71) (tgt := 72) (pc := 1) dX5_count_1 h4 (by decide) (by decide) (by decide) rfl (by decide) ?_
        refine y_aload_n (pc := 72) dX5_count_72 rfl ?_
        refine y_getref (pc := 73) (x := 0) g_X5_10 dX5_count_73 ?_
        refine y_getint (pc := 76) (g_X5_210 (by decide)) dX5_count_76 ?_
        exact y_iret (pc := 79) dX5_count_79
      · refine y_br (fun h5 => ?_) (fun h5 => ?_)
        · refine y_tableIn (off := 79) (tgt := 80) (pc := 1) dX5_count_1 h5 (by decide) (by decide) (by decide) rfl (by decide) ?_
          refine y_aload_n (pc := 80) dX5_count_80 rfl ?_
          refine y_getref (pc := 81) (x := 0) g_X5_10 dX5_count_81 ?_
          refine y_getint (pc := 84) (g_X5_116 (by decide)) dX5_count_84 ?_
          exact y_iret (pc := 87) dX5_count_87
        · refine y_br (fun h6 => ?_) (fun h6 => ?_)
          · refine y_tableIn (off := 87) (tgt := 88) (pc := 1) dX5_count_1 h6 (by decide) (by decide) (by decide) rfl (by decide) ?_
            refine y_aload_n (pc := 88) dX5_count_88 rfl ?_
            refine y_getref (pc := 89) (x := 0) g_X5_10 dX5_count_89 ?_
            refine y_getint (pc := 92) (g_X5_107 (by decide)) dX5_count_92 ?_
            exact y_iret (pc := 95) dX5_count_95
          · refine y_br (fun h7 => ?_) (fun h7 => ?_)
            · refine y_tableIn (off := 95) (tgt := 96) (pc := 1) dX5_count_1 h7 (by decide) (by decide) (by decide) rfl (by decide) ?_
              refine y_aload_n (pc := 96) dX5_count_96 rfl ?_
              refine y_getref (pc := 97) (x := 0) g_X5_10 dX5_count_97 ?_
              refine y_callVi (pc := 100) v_X4_ownedThings l_X5_213 dX5_count_100 (c_X4_ownedThings n _ _) (fun _ h => nomatch h) rfl (rc_X4 (by decide)) rfl (by decide) (by decide) (Nat.le_of_ble_eq_true rfl) (fun r9 M8 _ => ?_)
              exact y_iret (pc := 103) dX5_count_103
            · refine y_br (fun h10 => ?_) (fun h10 => ?_)
              · refine y_tableIn (off := 103) (tgt := 104) (pc := 1) dX5_count_1 h10 (by decide) (by decide) (by decide) rfl (by decide) ?_
                refine y_aload_n (pc := 104) dX5_count_104 rfl ?_
                refine y_getint (pc := 105) g_X5_35 dX5_count_105 ?_
                exact y_iret (pc := 108) dX5_count_108
              · refine y_br (fun h11 => ?_) (fun h11 => ?_)
                · refine y_tableIn (off := 108) (tgt := 109) (pc := 1) dX5_count_1 h11 (by decide) (by decide) (by decide) rfl (by decide) ?_
                  refine y_aload_n (pc := 109) dX5_count_109 rfl ?_
                  refine y_getint (pc := 110) g_X5_41 dX5_count_110 ?_
                  exact y_iret (pc := 113) dX5_count_113
                · refine y_br (fun h12 => ?_) (fun h12 => ?_)
                  · refine y_tableIn (off := 113) (tgt := 114) (pc := 1) dX5_count_1 h12 (by decide) (by decide) (by decide) rfl (by decide) ?_
                    refine y_aload_n (pc := 114) dX5_count_114 rfl ?_
                    refine y_getint (pc := 115) g_X5_27 dX5_count_115 ?_
                    exact y_iret (pc := 118) dX5_count_118
                  · refine y_br (fun h13 => ?_) (fun h13 => ?_)
                    · refine y_tableIn (off := 118) (tgt := 119) (pc := 1) dX5_count_1 h13 (by decide) (by decide) (by decide) rfl (by decide) ?_
                      refine y_aload_n (pc := 119) dX5_count_119 rfl ?_
                      refine y_getref (pc := 120) (x := 129) g_X5_50 dX5_count_120 ?_
                      refine y_aload_n (pc := 123) dX5_count_123 rfl ?_
                      refine y_getref (pc := 124) (x := 0) g_X5_10 dX5_count_124 ?_
                      refine y_callVv (pc := 127) v_X0_begin l_X5_67 dX5_count_127 (c_X0_begin n _ _) (fun _ h => nomatch h) rfl rc_X0 rfl (by decide) (by decide) (Nat.le_of_ble_eq_true rfl) (fun _ M14 _ => ?_)
                      refine y_aload_n (pc := 130) dX5_count_130 rfl ?_
                      refine y_getref (pc := 131) (x := 129) g_X5_50 dX5_count_131 ?_
                      refine y_callVi (pc := 134) v_X0_foggyCells l_X5_217 dX5_count_134 (c_X0_foggyCells n _) (fun _ h => nomatch h) rfl rc_X0 rfl (by decide) (by decide) (Nat.le_of_ble_eq_true rfl) (fun r16 M15 _ => ?_)
                      exact y_iret (pc := 137) dX5_count_137
                    · refine y_tableOut (tgt := 138) (pc := 1) dX5_count_1 h1 (by omega) (by decide) ?_
                      refine y_iload_n (pc := 138) dX5_count_138 rfl ?_
                      refine y_bipush (pc := 139) dX5_count_139 (by decide) ?_
                      refine y_icmp_le (off := 21) (tgt := 162) (pc := 141) dX5_count_141 (by decide) h1 (by decide) (fun h17 => ?_) (fun h17 => ?_)
                      · refine y_bipush (pc := 162) dX5_count_162 (by decide) ?_
                        exact y_iret (pc := 164) dX5_count_164
                      · refine y_iload_n (pc := 144) dX5_count_144 rfl ?_
                        refine y_bipush (pc := 145) dX5_count_145 (by decide) ?_
                        refine y_icmp_gt (off := 15) (tgt := 162) (pc := 147) dX5_count_147 (by decide) h1 (by decide) (fun h18 => ?_) (fun h18 => ?_)
                        · refine y_bipush (pc := 162) dX5_count_162 (by decide) ?_
                          exact y_iret (pc := 164) dX5_count_164
                        · refine y_aload_n (pc := 150) dX5_count_150 rfl ?_
                          refine y_getref (pc := 151) (x := 134) g_X5_44 dX5_count_151 ?_
                          refine y_iload_n (pc := 154) dX5_count_154 rfl ?_
                          refine y_bipush (pc := 155) dX5_count_155 (by decide) ?_
                          refine y_isub (pc := 157) dX5_count_157 ?_
                          refine y_gd (fun h19 => ?_)
                          refine y_iald (pc := 158) dX5_count_158 ar_134 h19 ?_
                          refine y_goto (tgt := 164) (pc := 159) dX5_count_159 (by decide) ?_
                          exact y_iret (pc := 164) dX5_count_164
theorem c_X5_count (n : Nat) (M : Mem) (a1 : Int) : ∀ res : Int × Mem, m_X5_count n M a1 = some res → CTi none yX5_count cX5_count 2 (some .int) 5 [rv 130, iv a1] M res := CTi_of (by decide +kernel) rfl (Nat.le_of_ble_eq_true rfl) rfl (y_X5_count n M a1)
def m_X5_blows_25 (n : Nat) (M : Mem) : Rs := bd (m_X5_refuse n M (-4)) (fun r2 M1 => some (r2, M1))
theorem t_X5_blows_25 (n : Nat) (M : Mem) : Y RX5 cX5_blows 4 1 0 none 25 [some (rv 130), none, none, none] [] M (m_X5_blows_25 n M) := by
  unfold m_X5_blows_25
  refine y_aload_n (pc := 25) dX5_blows_25 rfl ?_
  refine y_bipush (pc := 26) dX5_blows_26 (by decide) ?_
  refine y_callVi (pc := 28) v_X5_refuse l_X5_60 dX5_blows_28 (c_X5_refuse n _ _) (fun _ h => nomatch h) rfl rc_X5 rfl (by decide) (by decide) (Nat.le_of_ble_eq_true rfl) (fun r2 M1 _ => ?_)
  exact y_iret (pc := 31) dX5_blows_31
def m_X5_blows_10 (n : Nat) (M : Mem) : Rs := bd (m_X5_refuse n M (-2)) (fun r4 M3 => some (r4, M3))
theorem t_X5_blows_10 (n : Nat) (M : Mem) : Y RX5 cX5_blows 4 1 0 none 10 [some (rv 130), none, none, none] [] M (m_X5_blows_10 n M) := by
  unfold m_X5_blows_10
  refine y_aload_n (pc := 10) dX5_blows_10 rfl ?_
  refine y_bipush (pc := 11) dX5_blows_11 (by decide) ?_
  refine y_callVi (pc := 13) v_X5_refuse l_X5_60 dX5_blows_13 (c_X5_refuse n _ _) (fun _ h => nomatch h) rfl rc_X5 rfl (by decide) (by decide) (Nat.le_of_ble_eq_true rfl) (fun r4 M3 _ => ?_)
  exact y_iret (pc := 16) dX5_blows_16
def m_X5_blows (n : Nat) (M : Mem) (a1 : Int) (a2 : Int) (a3 : Int) : Rs := if I32 a1 then (if a1 < 0 then (m_X5_blows_10 n M) else (if a1 < 7 then (if I32 a2 then (if a2 < 0 then (m_X5_blows_25 n M) else (if I32 a3 then (if 0 ≤ a3 then (bd (m_X4_addFront n M 0 a1 a2 a3) (fun r13 M12 => if I32 r13 then (if r13 = 0 then (bd (m_X5_refuse n M12 (-6)) (fun r18 M17 => some (r18, M17))) else (wr M12 130 4 0 (fun M16 => some (((rd M16 0 3) - 1), M16)))) else none)) else (m_X5_blows_25 n M)) else none)) else none) else (m_X5_blows_10 n M))) else none
theorem y_X5_blows (n : Nat) (M : Mem) (a1 : Int) (a2 : Int) (a3 : Int) : Y RX5 cX5_blows 4 1 0 none 0 [some (rv 130), some (iv a1), some (iv a2), some (iv a3)] [] M (m_X5_blows n M a1 a2 a3) := by
  unfold m_X5_blows
  refine y_iload_n (pc := 0) dX5_blows_0 rfl ?_
  refine y_gd (fun h5 => ?_)
  refine y_if_lt (off := 9) (tgt := 10) (pc := 1) dX5_blows_1 (by decide) h5 (fun h6 => ?_) (fun h6 => ?_)
  · exact y_sub (ls_s (ls_n (ls_n (ls_n ls_0)))) (t_X5_blows_10 n M)
  · refine y_iload_n (pc := 4) dX5_blows_4 rfl ?_
    refine y_bipush (pc := 5) dX5_blows_5 (by decide) ?_
    refine y_icmp_lt (off := 10) (tgt := 17) (pc := 7) dX5_blows_7 (by decide) h5 (by decide) (fun h7 => ?_) (fun h7 => ?_)
    · refine y_iload_n (pc := 17) dX5_blows_17 rfl ?_
      refine y_gd (fun h8 => ?_)
      refine y_if_lt (off := 7) (tgt := 25) (pc := 18) dX5_blows_18 (by decide) h8 (fun h9 => ?_) (fun h9 => ?_)
      · exact y_sub (ls_s (ls_n (ls_n (ls_n ls_0)))) (t_X5_blows_25 n M)
      · refine y_iload_n (pc := 21) dX5_blows_21 rfl ?_
        refine y_gd (fun h10 => ?_)
        refine y_if_ge (off := 10) (tgt := 32) (pc := 22) dX5_blows_22 (by decide) h10 (fun h11 => ?_) (fun h11 => ?_)
        · refine y_aload_n (pc := 32) dX5_blows_32 rfl ?_
          refine y_getref (pc := 33) (x := 0) g_X5_10 dX5_blows_33 ?_
          refine y_iload_n (pc := 36) dX5_blows_36 rfl ?_
          refine y_iload_n (pc := 37) dX5_blows_37 rfl ?_
          refine y_iload_n (pc := 38) dX5_blows_38 rfl ?_
          refine y_callVi (pc := 39) v_X4_addFront l_X5_93 dX5_blows_39 (c_X4_addFront n _ _ _ _ _) (fun _ h => nomatch h) rfl (rc_X4 (by decide)) rfl (by decide) (by decide) (Nat.le_of_ble_eq_true rfl) (fun r13 M12 _ => ?_)
          refine y_gd (fun h14 => ?_)
          refine y_if_ne (off := 10) (tgt := 52) (pc := 42) dX5_blows_42 (by decide) h14 (fun h15 => ?_) (fun h15 => ?_)
          · refine y_aload_n (pc := 52) dX5_blows_52 rfl ?_
            refine y_iconst (pc := 53) dX5_blows_53 ?_
            refine y_putintw (pc := 54) pf_X5_27 dX5_blows_54 (fun M16 => ?_)
            refine y_aload_n (pc := 57) dX5_blows_57 rfl ?_
            refine y_getref (pc := 58) (x := 0) g_X5_10 dX5_blows_58 ?_
            refine y_getint (pc := 61) (g_X5_210 (by decide)) dX5_blows_61 ?_
            refine y_iconst (pc := 64) dX5_blows_64 ?_
            refine y_isub (pc := 65) dX5_blows_65 ?_
            exact y_iret (pc := 66) dX5_blows_66
          · refine y_aload_n (pc := 45) dX5_blows_45 rfl ?_
            refine y_bipush (pc := 46) dX5_blows_46 (by decide) ?_
            refine y_callVi (pc := 48) v_X5_refuse l_X5_60 dX5_blows_48 (c_X5_refuse n _ _) (fun _ h => nomatch h) rfl rc_X5 rfl (by decide) (by decide) (Nat.le_of_ble_eq_true rfl) (fun r18 M17 _ => ?_)
            exact y_iret (pc := 51) dX5_blows_51
        · exact y_sub (ls_s (ls_n (ls_n (ls_n ls_0)))) (t_X5_blows_25 n M)
    · exact y_sub (ls_s (ls_n (ls_n (ls_n ls_0)))) (t_X5_blows_10 n M)
theorem c_X5_blows (n : Nat) (M : Mem) (a1 : Int) (a2 : Int) (a3 : Int) : ∀ res : Int × Mem, m_X5_blows n M a1 a2 a3 = some res → CTi none yX5_blows cX5_blows 4 (some .int) 1 [rv 130, iv a1, iv a2, iv a3] M res := CTi_of (by decide +kernel) rfl (Nat.le_of_ble_eq_true rfl) rfl (y_X5_blows n M a1 a2 a3)
def m_X5_comes_45 (n : Nat) (M : Mem) : Rs := bd (m_X5_refuse n M (-6)) (fun r2 M1 => some (r2, M1))
theorem t_X5_comes_45 (n : Nat) (M : Mem) : Y RX5 cX5_comes 4 2 0 none 45 [some (rv 130), none, none, none] [] M (m_X5_comes_45 n M) := by
  unfold m_X5_comes_45
  refine y_aload_n (pc := 45) dX5_comes_45 rfl ?_
  refine y_bipush (pc := 46) dX5_comes_46 (by decide) ?_
  refine y_callVi (pc := 48) v_X5_refuse l_X5_60 dX5_comes_48 (c_X5_refuse n _ _) (fun _ h => nomatch h) rfl rc_X5 rfl (by decide) (by decide) (Nat.le_of_ble_eq_true rfl) (fun r2 M1 _ => ?_)
  exact y_iret (pc := 51) dX5_comes_51
def m_X5_comes_10 (n : Nat) (M : Mem) : Rs := bd (m_X5_refuse n M (-2)) (fun r4 M3 => some (r4, M3))
theorem t_X5_comes_10 (n : Nat) (M : Mem) : Y RX5 cX5_comes 4 2 0 none 10 [some (rv 130), none, none, none] [] M (m_X5_comes_10 n M) := by
  unfold m_X5_comes_10
  refine y_aload_n (pc := 10) dX5_comes_10 rfl ?_
  refine y_bipush (pc := 11) dX5_comes_11 (by decide) ?_
  refine y_callVi (pc := 13) v_X5_refuse l_X5_60 dX5_comes_13 (c_X5_refuse n _ _) (fun _ h => nomatch h) rfl rc_X5 rfl (by decide) (by decide) (Nat.le_of_ble_eq_true rfl) (fun r4 M3 _ => ?_)
  exact y_iret (pc := 16) dX5_comes_16
def m_X5_comes (n : Nat) (M : Mem) (a1 : Int) (a2 : Int) (a3 : Int) : Rs := if I32 a1 then (if a1 < 0 then (m_X5_comes_10 n M) else (if a1 < 8 then (if I32 a2 then (if 0 ≤ a2 then (if 9 < a2 then (m_X5_comes_45 n M) else (if (rd M 0 12) < 5 then (bd (m_X4_addPerson n M 0 a1 a2 a3) (fun r13 M12 => if I32 r13 then (if r13 = 0 then (bd (m_X5_refuse n M12 (-1)) (fun r18 M17 => some (r18, M17))) else (wr M12 130 4 0 (fun M16 => some (((rd M16 0 12) - 1), M16)))) else none)) else (m_X5_comes_45 n M))) else (bd (m_X5_refuse n M (-4)) (fun r20 M19 => some (r20, M19)))) else none) else (m_X5_comes_10 n M))) else none
theorem y_X5_comes (n : Nat) (M : Mem) (a1 : Int) (a2 : Int) (a3 : Int) : Y RX5 cX5_comes 4 2 0 none 0 [some (rv 130), some (iv a1), some (iv a2), some (iv a3)] [] M (m_X5_comes n M a1 a2 a3) := by
  unfold m_X5_comes
  refine y_iload_n (pc := 0) dX5_comes_0 rfl ?_
  refine y_gd (fun h5 => ?_)
  refine y_if_lt (off := 9) (tgt := 10) (pc := 1) dX5_comes_1 (by decide) h5 (fun h6 => ?_) (fun h6 => ?_)
  · exact y_sub (ls_s (ls_n (ls_n (ls_n ls_0)))) (t_X5_comes_10 n M)
  · refine y_iload_n (pc := 4) dX5_comes_4 rfl ?_
    refine y_bipush (pc := 5) dX5_comes_5 (by decide) ?_
    refine y_icmp_lt (off := 10) (tgt := 17) (pc := 7) dX5_comes_7 (by decide) h5 (by decide) (fun h7 => ?_) (fun h7 => ?_)
    · refine y_iload_n (pc := 17) dX5_comes_17 rfl ?_
      refine y_gd (fun h8 => ?_)
      refine y_if_ge (off := 10) (tgt := 28) (pc := 18) dX5_comes_18 (by decide) h8 (fun h9 => ?_) (fun h9 => ?_)
      · refine y_iload_n (pc := 28) dX5_comes_28 rfl ?_
        refine y_bipush (pc := 29) dX5_comes_29 (by decide) ?_
        refine y_icmp_gt (off := 14) (tgt := 45) (pc := 31) dX5_comes_31 (by decide) h8 (by decide) (fun h10 => ?_) (fun h10 => ?_)
        · exact y_sub (ls_s (ls_n (ls_n (ls_n ls_0)))) (t_X5_comes_45 n M)
        · refine y_aload_n (pc := 34) dX5_comes_34 rfl ?_
          refine y_getref (pc := 35) (x := 0) g_X5_10 dX5_comes_35 ?_
          refine y_getint (pc := 38) (g_X5_204 (by decide)) dX5_comes_38 ?_
          refine y_iconst (pc := 41) dX5_comes_41 ?_
          refine y_icmp_lt (off := 10) (tgt := 52) (pc := 42) dX5_comes_42 (by decide) (rd_rng _ _ _) (by decide) (fun h11 => ?_) (fun h11 => ?_)
          · refine y_aload_n (pc := 52) dX5_comes_52 rfl ?_
            refine y_getref (pc := 53) (x := 0) g_X5_10 dX5_comes_53 ?_
            refine y_iload_n (pc := 56) dX5_comes_56 rfl ?_
            refine y_iload_n (pc := 57) dX5_comes_57 rfl ?_
            refine y_iload_n (pc := 58) dX5_comes_58 rfl ?_
            refine y_callVi (pc := 59) v_X4_addPerson l_X5_100 dX5_comes_59 (c_X4_addPerson n _ _ _ _ _) (fun _ h => nomatch h) rfl (rc_X4 (by decide)) rfl (by decide) (by decide) (Nat.le_of_ble_eq_true rfl) (fun r13 M12 _ => ?_)
            refine y_gd (fun h14 => ?_)
            refine y_if_ne (off := 9) (tgt := 71) (pc := 62) dX5_comes_62 (by decide) h14 (fun h15 => ?_) (fun h15 => ?_)
            · refine y_aload_n (pc := 71) dX5_comes_71 rfl ?_
              refine y_iconst (pc := 72) dX5_comes_72 ?_
              refine y_putintw (pc := 73) pf_X5_27 dX5_comes_73 (fun M16 => ?_)
              refine y_aload_n (pc := 76) dX5_comes_76 rfl ?_
              refine y_getref (pc := 77) (x := 0) g_X5_10 dX5_comes_77 ?_
              refine y_getint (pc := 80) (g_X5_204 (by decide)) dX5_comes_80 ?_
              refine y_iconst (pc := 83) dX5_comes_83 ?_
              refine y_isub (pc := 84) dX5_comes_84 ?_
              exact y_iret (pc := 85) dX5_comes_85
            · refine y_aload_n (pc := 65) dX5_comes_65 rfl ?_
              refine y_iconst (pc := 66) dX5_comes_66 ?_
              refine y_callVi (pc := 67) v_X5_refuse l_X5_60 dX5_comes_67 (c_X5_refuse n _ _) (fun _ h => nomatch h) rfl rc_X5 rfl (by decide) (by decide) (Nat.le_of_ble_eq_true rfl) (fun r18 M17 _ => ?_)
              exact y_iret (pc := 70) dX5_comes_70
          · exact y_sub (ls_s (ls_n (ls_n (ls_n ls_0)))) (t_X5_comes_45 n M)
      · refine y_aload_n (pc := 21) dX5_comes_21 rfl ?_
        refine y_bipush (pc := 22) dX5_comes_22 (by decide) ?_
        refine y_callVi (pc := 24) v_X5_refuse l_X5_60 dX5_comes_24 (c_X5_refuse n _ _) (fun _ h => nomatch h) rfl rc_X5 rfl (by decide) (by decide) (Nat.le_of_ble_eq_true rfl) (fun r20 M19 _ => ?_)
        exact y_iret (pc := 27) dX5_comes_27
    · exact y_sub (ls_s (ls_n (ls_n (ls_n ls_0)))) (t_X5_comes_10 n M)
theorem c_X5_comes (n : Nat) (M : Mem) (a1 : Int) (a2 : Int) (a3 : Int) : ∀ res : Int × Mem, m_X5_comes n M a1 a2 a3 = some res → CTi none yX5_comes cX5_comes 4 (some .int) 2 [rv 130, iv a1, iv a2, iv a3] M res := CTi_of (by decide +kernel) rfl (Nat.le_of_ble_eq_true rfl) rfl (y_X5_comes n M a1 a2 a3)
def m_X5_lies_29 (n : Nat) (M : Mem) : Rs := bd (m_X5_refuse n M (-6)) (fun r2 M1 => some (r2, M1))
theorem t_X5_lies_29 (n : Nat) (M : Mem) : Y RX5 cX5_lies 3 2 0 none 29 [some (rv 130), none, none] [] M (m_X5_lies_29 n M) := by
  unfold m_X5_lies_29
  refine y_aload_n (pc := 29) dX5_lies_29 rfl ?_
  refine y_bipush (pc := 30) dX5_lies_30 (by decide) ?_
  refine y_callVi (pc := 32) v_X5_refuse l_X5_60 dX5_lies_32 (c_X5_refuse n _ _) (fun _ h => nomatch h) rfl rc_X5 rfl (by decide) (by decide) (Nat.le_of_ble_eq_true rfl) (fun r2 M1 _ => ?_)
  exact y_iret (pc := 35) dX5_lies_35
def m_X5_lies (n : Nat) (M : Mem) (a1 : Int) (a2 : Int) : Rs := if I32 a1 then (if 0 ≤ a1 then (if 9 < a1 then (m_X5_lies_29 n M) else (if (rd M 0 7) < 8 then (bd (m_X4_addThing n M 0 a1 a2) (fun r8 M7 => if I32 r8 then (if r8 = 0 then (bd (m_X5_refuse n M7 (-1)) (fun r13 M12 => some (r13, M12))) else (wr M7 130 4 0 (fun M11 => some (((rd M11 0 7) - 1), M11)))) else none)) else (m_X5_lies_29 n M))) else (bd (m_X5_refuse n M (-4)) (fun r15 M14 => some (r15, M14)))) else none
theorem y_X5_lies (n : Nat) (M : Mem) (a1 : Int) (a2 : Int) : Y RX5 cX5_lies 3 2 0 none 0 [some (rv 130), some (iv a1), some (iv a2)] [] M (m_X5_lies n M a1 a2) := by
  unfold m_X5_lies
  refine y_iload_n (pc := 0) dX5_lies_0 rfl ?_
  refine y_gd (fun h3 => ?_)
  refine y_if_ge (off := 10) (tgt := 11) (pc := 1) dX5_lies_1 (by decide) h3 (fun h4 => ?_) (fun h4 => ?_)
  · refine y_iload_n (pc := 11) dX5_lies_11 rfl ?_
    refine y_bipush (pc := 12) dX5_lies_12 (by decide) ?_
    refine y_icmp_gt (off := 15) (tgt := 29) (pc := 14) dX5_lies_14 (by decide) h3 (by decide) (fun h5 => ?_) (fun h5 => ?_)
    · exact y_sub (ls_s (ls_n (ls_n ls_0))) (t_X5_lies_29 n M)
    · refine y_aload_n (pc := 17) dX5_lies_17 rfl ?_
      refine y_getref (pc := 18) (x := 0) g_X5_10 dX5_lies_18 ?_
      refine y_getint (pc := 21) (g_X5_207 (by decide)) dX5_lies_21 ?_
      refine y_bipush (pc := 24) dX5_lies_24 (by decide) ?_
      refine y_icmp_lt (off := 10) (tgt := 36) (pc := 26) dX5_lies_26 (by decide) (rd_rng _ _ _) (by decide) (fun h6 => ?_) (fun h6 => ?_)
      · refine y_aload_n (pc := 36) dX5_lies_36 rfl ?_
        refine y_getref (pc := 37) (x := 0) g_X5_10 dX5_lies_37 ?_
        refine y_iload_n (pc := 40) dX5_lies_40 rfl ?_
        refine y_iload_n (pc := 41) dX5_lies_41 rfl ?_
        refine y_callVi (pc := 42) v_X4_addThing l_X5_103 dX5_lies_42 (c_X4_addThing n _ _ _ _) (fun _ h => nomatch h) rfl (rc_X4 (by decide)) rfl (by decide) (by decide) (Nat.le_of_ble_eq_true rfl) (fun r8 M7 _ => ?_)
        refine y_gd (fun h9 => ?_)
        refine y_if_ne (off := 9) (tgt := 54) (pc := 45) dX5_lies_45 (by decide) h9 (fun h10 => ?_) (fun h10 => ?_)
        · refine y_aload_n (pc := 54) dX5_lies_54 rfl ?_
          refine y_iconst (pc := 55) dX5_lies_55 ?_
          refine y_putintw (pc := 56) pf_X5_27 dX5_lies_56 (fun M11 => ?_)
          refine y_aload_n (pc := 59) dX5_lies_59 rfl ?_
          refine y_getref (pc := 60) (x := 0) g_X5_10 dX5_lies_60 ?_
          refine y_getint (pc := 63) (g_X5_207 (by decide)) dX5_lies_63 ?_
          refine y_iconst (pc := 66) dX5_lies_66 ?_
          refine y_isub (pc := 67) dX5_lies_67 ?_
          exact y_iret (pc := 68) dX5_lies_68
        · refine y_aload_n (pc := 48) dX5_lies_48 rfl ?_
          refine y_iconst (pc := 49) dX5_lies_49 ?_
          refine y_callVi (pc := 50) v_X5_refuse l_X5_60 dX5_lies_50 (c_X5_refuse n _ _) (fun _ h => nomatch h) rfl rc_X5 rfl (by decide) (by decide) (Nat.le_of_ble_eq_true rfl) (fun r13 M12 _ => ?_)
          exact y_iret (pc := 53) dX5_lies_53
      · exact y_sub (ls_s (ls_n (ls_n ls_0))) (t_X5_lies_29 n M)
  · refine y_aload_n (pc := 4) dX5_lies_4 rfl ?_
    refine y_bipush (pc := 5) dX5_lies_5 (by decide) ?_
    refine y_callVi (pc := 7) v_X5_refuse l_X5_60 dX5_lies_7 (c_X5_refuse n _ _) (fun _ h => nomatch h) rfl rc_X5 rfl (by decide) (by decide) (Nat.le_of_ble_eq_true rfl) (fun r15 M14 _ => ?_)
    exact y_iret (pc := 10) dX5_lies_10
theorem c_X5_lies (n : Nat) (M : Mem) (a1 : Int) (a2 : Int) : ∀ res : Int × Mem, m_X5_lies n M a1 a2 = some res → CTi none yX5_lies cX5_lies 3 (some .int) 2 [rv 130, iv a1, iv a2] M res := CTi_of (by decide +kernel) rfl (Nat.le_of_ble_eq_true rfl) rfl (y_X5_lies n M a1 a2)
def m_X5_keepForBack_58 (n : Nat) (M : Mem) : Rs := if 0 ≤ (rd M 130 4) ∧ (rd M 130 4) < 8 then (if isW (Int.toNat (rd M 131 (Int.toNat (rd M 130 4)))) then (bd (m_X4_become n M (Int.toNat (rd M 131 (Int.toNat (rd M 130 4)))) 0) (fun _ M3 => wr M3 130 4 ((rd M3 130 4) + 1) (fun M4 => some (0, M4)))) else none) else none
theorem t_X5_keepForBack_58 (n : Nat) (M : Mem) : Y RX5 cX5_keepForBack 3 2 3 none 58 [some (rv 130), none, none] [] M (m_X5_keepForBack_58 n M) := by
  unfold m_X5_keepForBack_58
  refine y_aload_n (pc := 58) dX5_keepForBack_58 rfl ?_
  refine y_getref (pc := 59) (x := 131) g_X5_23 dX5_keepForBack_59 ?_
  refine y_aload_n (pc := 62) dX5_keepForBack_62 rfl ?_
  refine y_getint (pc := 63) g_X5_27 dX5_keepForBack_63 ?_
  refine y_gd (fun h1 => ?_)
  refine y_aald (pc := 66) dX5_keepForBack_66 h1 ?_
  refine y_aload_n (pc := 67) dX5_keepForBack_67 rfl ?_
  refine y_getref (pc := 68) (x := 0) g_X5_10 dX5_keepForBack_68 ?_
  refine y_gd (fun h2 => ?_)
  refine y_callVv (pc := 71) v_X4_become l_X5_84 dX5_keepForBack_71 (c_X4_become n _ _ _) (fun _ h => nomatch h) rfl (rc_X4 h2) rfl (by decide) (by decide) (Nat.le_of_ble_eq_true rfl) (fun _ M3 _ => ?_)
  refine y_aload_n (pc := 74) dX5_keepForBack_74 rfl ?_
  refine y_dup (pc := 75) dX5_keepForBack_75 rfl ?_
  refine y_getint (pc := 76) g_X5_27 dX5_keepForBack_76 ?_
  refine y_iconst (pc := 79) dX5_keepForBack_79 ?_
  refine y_iadd (pc := 80) dX5_keepForBack_80 ?_
  refine y_putintw (pc := 81) pf_X5_27 dX5_keepForBack_81 (fun M4 => ?_)
  exact y_vret (pc := 84) dX5_keepForBack_84
def m_X5_keepForBack_18 (n : Nat) : Nat → Mem → Nat → Int → Rs
  | 0, _, _, _ => none
  | t + 1, M, a1, a2 => if I32 a2 then (if 8 ≤ a2 then (wr M 131 (Int.toNat 7) ((a1 : Nat) : Int) (fun M7 => wr M7 130 4 7 (fun M8 => m_X5_keepForBack_58 n M8))) else (if 0 ≤ a2 ∧ a2 < 8 then (if 0 ≤ (a2 - 1) ∧ (a2 - 1) < 8 then (if isW (Int.toNat (rd M 131 (Int.toNat a2))) then (wr M 131 (Int.toNat (a2 - 1)) (((Int.toNat (rd M 131 (Int.toNat a2))) : Nat) : Int) (fun M12 => (m_X5_keepForBack_18 n t) M12 a1 (a2 + 1))) else none) else none) else none)) else none
theorem t_X5_keepForBack_18 (n : Nat) : ∀ (t : Nat) (M : Mem) (a1 : Nat) (a2 : Int), isW a1 → Y RX5 cX5_keepForBack 3 2 3 none 18 [some (rv 130), some (rv a1), some (iv a2)] [] M (m_X5_keepForBack_18 n t M a1 a2) := by
  intro t
  induction t with
  | zero => intro M a1 a2 ha1; exact y_none
  | succ t ih =>
    intro M a1 a2 ha1
    rewrite [m_X5_keepForBack_18]
    refine y_iload_n (pc := 18) dX5_keepForBack_18 rfl ?_
    refine y_bipush (pc := 19) dX5_keepForBack_19 (by decide) ?_
    refine y_gd (fun h5 => ?_)
    refine y_icmp_ge (off := 23) (tgt := 44) (pc := 21) dX5_keepForBack_21 (by decide) h5 (by decide) (fun h6 => ?_) (fun h6 => ?_)
    · refine y_aload_n (pc := 44) dX5_keepForBack_44 rfl ?_
      refine y_getref (pc := 45) (x := 131) g_X5_23 dX5_keepForBack_45 ?_
      refine y_bipush (pc := 48) dX5_keepForBack_48 (by decide) ?_
      refine y_aload_n (pc := 50) dX5_keepForBack_50 rfl ?_
      refine y_aastw (pc := 51) dX5_keepForBack_51 (by decide) ha1 (fun M7 => ?_)
      refine y_aload_n (pc := 52) dX5_keepForBack_52 rfl ?_
      refine y_bipush (pc := 53) dX5_keepForBack_53 (by decide) ?_
      refine y_putintw (pc := 55) pf_X5_27 dX5_keepForBack_55 (fun M8 => ?_)
      exact y_sub (ls_s (ls_n (ls_n ls_0))) (t_X5_keepForBack_58 n M8)
    · refine y_aload_n (pc := 24) dX5_keepForBack_24 rfl ?_
      refine y_getref (pc := 25) (x := 131) g_X5_23 dX5_keepForBack_25 ?_
      refine y_iload_n (pc := 28) dX5_keepForBack_28 rfl ?_
      refine y_iconst (pc := 29) dX5_keepForBack_29 ?_
      refine y_isub (pc := 30) dX5_keepForBack_30 ?_
      refine y_aload_n (pc := 31) dX5_keepForBack_31 rfl ?_
      refine y_getref (pc := 32) (x := 131) g_X5_23 dX5_keepForBack_32 ?_
      refine y_iload_n (pc := 35) dX5_keepForBack_35 rfl ?_
      refine y_gd (fun h9 => ?_)
      refine y_aald (pc := 36) dX5_keepForBack_36 h9 ?_
      refine y_gd (fun h10 => ?_)
      refine y_gd (fun h11 => ?_)
      refine y_aastw (pc := 37) dX5_keepForBack_37 h10 h11 (fun M12 => ?_)
      refine y_iinc (L' := [some (rv 130), some (rv a1), some (iv (a2 + 1))]) (pc := 38) dX5_keepForBack_38 rfl (by decide) rfl rfl ?_
      refine y_goto (tgt := 18) (pc := 41) dX5_keepForBack_41 (by decide) ?_
      exact y_sub (ls_s (ls_s (ls_s ls_0))) (ih M12 a1 (a2 + 1) ha1)
def m_X5_keepForBack (n : Nat) (M : Mem) : Rs := if (rd M 130 4) < 8 then (m_X5_keepForBack_58 n M) else (if isW (Int.toNat (rd M 131 (Int.toNat 0))) then (m_X5_keepForBack_18 n n M (Int.toNat (rd M 131 (Int.toNat 0))) 1) else none)
theorem y_X5_keepForBack (n : Nat) (M : Mem) : Y RX5 cX5_keepForBack 3 2 3 none 0 [some (rv 130), none, none] [] M (m_X5_keepForBack n M) := by
  unfold m_X5_keepForBack
  refine y_aload_n (pc := 0) dX5_keepForBack_0 rfl ?_
  refine y_getint (pc := 1) g_X5_27 dX5_keepForBack_1 ?_
  refine y_bipush (pc := 4) dX5_keepForBack_4 (by decide) ?_
  refine y_icmp_lt (off := 52) (tgt := 58) (pc := 6) dX5_keepForBack_6 (by decide) (rd_rng _ _ _) (by decide) (fun h13 => ?_) (fun h13 => ?_)
  · exact y_sub (ls_s (ls_n (ls_n ls_0))) (t_X5_keepForBack_58 n M)
  · refine y_aload_n (pc := 9) dX5_keepForBack_9 rfl ?_
    refine y_getref (pc := 10) (x := 131) g_X5_23 dX5_keepForBack_10 ?_
    refine y_iconst (pc := 13) dX5_keepForBack_13 ?_
    refine y_aald (pc := 14) dX5_keepForBack_14 (by decide) ?_
    refine y_astore_n (L' := [some (rv 130), some (rv (Int.toNat (rd M 131 (Int.toNat 0)))), none]) (pc := 15) dX5_keepForBack_15 (by decide) rfl rfl ?_
    refine y_iconst (pc := 16) dX5_keepForBack_16 ?_
    refine y_istore_n (L' := [some (rv 130), some (rv (Int.toNat (rd M 131 (Int.toNat 0)))), some (iv 1)]) (pc := 17) dX5_keepForBack_17 (by decide) rfl rfl ?_
    refine y_gd (fun h14 => ?_)
    exact y_sub (ls_s (ls_s (ls_s ls_0))) (t_X5_keepForBack_18 n n M (Int.toNat (rd M 131 (Int.toNat 0))) 1 h14)
theorem c_X5_keepForBack (n : Nat) (M : Mem) : ∀ res : Int × Mem, m_X5_keepForBack n M = some res → CTv none yX5_keepForBack cX5_keepForBack 3 2 [rv 130] M res := CTv_of (by decide +kernel) rfl (Nat.le_of_ble_eq_true rfl) rfl (y_X5_keepForBack n M)
def m_X5_outOfRange (n : Nat) (M : Mem) (a0 : Int) (a1 : Int) (a2 : Int) : Rs := if I32 a0 then (if I32 a1 then (if a1 ≤ a0 then (if I32 a2 then (if a0 ≤ a2 then (some (0, M)) else (some ((-6), M))) else none) else (some ((-4), M))) else none) else none
theorem y_X5_outOfRange (n : Nat) (M : Mem) (a0 : Int) (a1 : Int) (a2 : Int) : Y RX5 cX5_outOfRange 3 0 0 none 0 [some (iv a0), some (iv a1), some (iv a2)] [] M (m_X5_outOfRange n M a0 a1 a2) := by
  unfold m_X5_outOfRange
  refine y_iload_n (pc := 0) dX5_outOfRange_0 rfl ?_
  refine y_iload_n (pc := 1) dX5_outOfRange_1 rfl ?_
  refine y_gd (fun h1 => ?_)
  refine y_gd (fun h2 => ?_)
  refine y_icmp_ge (off := 6) (tgt := 8) (pc := 2) dX5_outOfRange_2 (by decide) h1 h2 (fun h3 => ?_) (fun h3 => ?_)
  · refine y_iload_n (pc := 8) dX5_outOfRange_8 rfl ?_
    refine y_iload_n (pc := 9) dX5_outOfRange_9 rfl ?_
    refine y_gd (fun h4 => ?_)
    refine y_icmp_le (off := 8) (tgt := 18) (pc := 10) dX5_outOfRange_10 (by decide) h1 h4 (fun h5 => ?_) (fun h5 => ?_)
    · refine y_iconst (pc := 18) dX5_outOfRange_18 ?_
      exact y_iret (pc := 19) dX5_outOfRange_19
    · refine y_bipush (pc := 13) dX5_outOfRange_13 (by decide) ?_
      refine y_goto (tgt := 19) (pc := 15) dX5_outOfRange_15 (by decide) ?_
      exact y_iret (pc := 19) dX5_outOfRange_19
  · refine y_bipush (pc := 5) dX5_outOfRange_5 (by decide) ?_
    exact y_iret (pc := 7) dX5_outOfRange_7
theorem c_X5_outOfRange (n : Nat) (M : Mem) (a0 : Int) (a1 : Int) (a2 : Int) : ∀ res : Int × Mem, m_X5_outOfRange n M a0 a1 a2 = some res → CTi none yX5_outOfRange cX5_outOfRange 3 (some .int) 0 [iv a0, iv a1, iv a2] M res := CTi_of (by decide +kernel) rfl (Nat.le_of_ble_eq_true rfl) rfl (y_X5_outOfRange n M a0 a1 a2)
def m_X5_thick (n : Nat) (M : Mem) (a1 : Int) : Rs := bd (m_X5_outOfRange n M a1 1 9) (fun r2 M1 => if I32 r2 then (if r2 = 0 then (bd (m_X5_keepForBack n M1) (fun _ M5 => wr M5 0 14 a1 (fun M6 => some ((rd M5 0 14), M6)))) else (bd (m_X5_refuse n M1 r2) (fun r8 M7 => some (r8, M7)))) else none)
theorem y_X5_thick (n : Nat) (M : Mem) (a1 : Int) : Y RX5 cX5_thick 4 3 0 none 0 [some (rv 130), some (iv a1), none, none] [] M (m_X5_thick n M a1) := by
  unfold m_X5_thick
  refine y_iload_n (pc := 0) dX5_thick_0 rfl ?_
  refine y_iconst (pc := 1) dX5_thick_1 ?_
  refine y_bipush (pc := 2) dX5_thick_2 (by decide) ?_
  refine y_callSi (pc := 4) s_X5_outOfRange l_X5_220 dX5_thick_4 (c_X5_outOfRange n _ _ _ _) (fun _ h => nomatch h) rfl rfl (by decide) (by decide) (Nat.le_of_ble_eq_true rfl) (fun r2 M1 _ => ?_)
  refine y_istore_n (L' := [some (rv 130), some (iv a1), some (iv r2), none]) (pc := 7) dX5_thick_7 (by decide) rfl rfl ?_
  refine y_iload_n (pc := 8) dX5_thick_8 rfl ?_
  refine y_gd (fun h3 => ?_)
  refine y_if_eq (off := 9) (tgt := 18) (pc := 9) dX5_thick_9 (by decide) h3 (fun h4 => ?_) (fun h4 => ?_)
  · refine y_aload_n (pc := 18) dX5_thick_18 rfl ?_
    refine y_callVv (pc := 19) v_X5_keepForBack l_X5_224 dX5_thick_19 (c_X5_keepForBack n _) (fun _ h => nomatch h) rfl rc_X5 rfl (by decide) (by decide) (Nat.le_of_ble_eq_true rfl) (fun _ M5 _ => ?_)
    refine y_aload_n (pc := 22) dX5_thick_22 rfl ?_
    refine y_getref (pc := 23) (x := 0) g_X5_10 dX5_thick_23 ?_
    refine y_getint (pc := 26) (g_X5_107 (by decide)) dX5_thick_26 ?_
    refine y_istore_n (L' := [some (rv 130), some (iv a1), some (iv r2), some (iv (rd M5 0 14))]) (pc := 29) dX5_thick_29 (by decide) rfl rfl ?_
    refine y_aload_n (pc := 30) dX5_thick_30 rfl ?_
    refine y_getref (pc := 31) (x := 0) g_X5_10 dX5_thick_31 ?_
    refine y_iload_n (pc := 34) dX5_thick_34 rfl ?_
    refine y_putintw (pc := 35) (pf_X5_107 (by decide)) dX5_thick_35 (fun M6 => ?_)
    refine y_iload_n (pc := 38) dX5_thick_38 rfl ?_
    exact y_iret (pc := 39) dX5_thick_39
  · refine y_aload_n (pc := 12) dX5_thick_12 rfl ?_
    refine y_iload_n (pc := 13) dX5_thick_13 rfl ?_
    refine y_callVi (pc := 14) v_X5_refuse l_X5_60 dX5_thick_14 (c_X5_refuse n _ _) (fun _ h => nomatch h) rfl rc_X5 rfl (by decide) (by decide) (Nat.le_of_ble_eq_true rfl) (fun r8 M7 _ => ?_)
    exact y_iret (pc := 17) dX5_thick_17
theorem c_X5_thick (n : Nat) (M : Mem) (a1 : Int) : ∀ res : Int × Mem, m_X5_thick n M a1 = some res → CTi none yX5_thick cX5_thick 4 (some .int) 3 [rv 130, iv a1] M res := CTi_of (by decide +kernel) rfl (Nat.le_of_ble_eq_true rfl) rfl (y_X5_thick n M a1)
def m_X5_owns_33 (n : Nat) (M : Mem) (a1 : Int) (a2 : Int) : Rs := bd (m_X5_keepForBack n M) (fun _ M1 => if 0 ≤ a1 ∧ a1 < 8 then (lt (rd M1 6 (Int.toNat a1)) (fun x3 => wr M1 6 (Int.toNat a1) a2 (fun M4 => bd (m_X5_orNone n M4 x3) (fun r6 M5 => some (r6, M5))))) else none)
theorem t_X5_owns_33 (n : Nat) (M : Mem) (a1 : Int) (a2 : Int) : Y RX5 cX5_owns 4 3 0 none 33 [some (rv 130), some (iv a1), some (iv a2), none] [] M (m_X5_owns_33 n M a1 a2) := by
  unfold m_X5_owns_33
  refine y_aload_n (pc := 33) dX5_owns_33 rfl ?_
  refine y_callVv (pc := 34) v_X5_keepForBack l_X5_224 dX5_owns_34 (c_X5_keepForBack n _) (fun _ h => nomatch h) rfl rc_X5 rfl (by decide) (by decide) (Nat.le_of_ble_eq_true rfl) (fun _ M1 _ => ?_)
  refine y_aload_n (pc := 37) dX5_owns_37 rfl ?_
  refine y_getref (pc := 38) (x := 0) g_X5_10 dX5_owns_38 ?_
  refine y_getref (pc := 41) (x := 6) (g_X5_168 (by decide)) dX5_owns_41 ?_
  refine y_iload_n (pc := 44) dX5_owns_44 rfl ?_
  refine y_gd (fun h2 => ?_)
  refine y_iald (pc := 45) dX5_owns_45 ar_6 h2 ?_
  refine y_leti (fun x3 => ?_)
  refine y_istore_n (L' := [some (rv 130), some (iv a1), some (iv a2), some (iv x3)]) (pc := 46) dX5_owns_46 (by decide) rfl rfl ?_
  refine y_aload_n (pc := 47) dX5_owns_47 rfl ?_
  refine y_getref (pc := 48) (x := 0) g_X5_10 dX5_owns_48 ?_
  refine y_getref (pc := 51) (x := 6) (g_X5_168 (by decide)) dX5_owns_51 ?_
  refine y_iload_n (pc := 54) dX5_owns_54 rfl ?_
  refine y_iload_n (pc := 55) dX5_owns_55 rfl ?_
  refine y_iastw (pc := 56) dX5_owns_56 ar_6 h2 (fun M4 => ?_)
  refine y_iload_n (pc := 57) dX5_owns_57 rfl ?_
  refine y_callSi (pc := 58) s_X5_orNone l_X5_171 dX5_owns_58 (c_X5_orNone n _ _) (fun _ h => nomatch h) rfl rfl (by decide) (by decide) (Nat.le_of_ble_eq_true rfl) (fun r6 M5 _ => ?_)
  exact y_iret (pc := 61) dX5_owns_61
def m_X5_owns_27 (n : Nat) (M : Mem) : Rs := bd (m_X5_refuse n M (-1)) (fun r8 M7 => some (r8, M7))
theorem t_X5_owns_27 (n : Nat) (M : Mem) : Y RX5 cX5_owns 4 3 0 none 27 [some (rv 130), none, none, none] [] M (m_X5_owns_27 n M) := by
  unfold m_X5_owns_27
  refine y_aload_n (pc := 27) dX5_owns_27 rfl ?_
  refine y_iconst (pc := 28) dX5_owns_28 ?_
  refine y_callVi (pc := 29) v_X5_refuse l_X5_60 dX5_owns_29 (c_X5_refuse n _ _) (fun _ h => nomatch h) rfl rc_X5 rfl (by decide) (by decide) (Nat.le_of_ble_eq_true rfl) (fun r8 M7 _ => ?_)
  exact y_iret (pc := 32) dX5_owns_32
def m_X5_owns (n : Nat) (M : Mem) (a1 : Int) (a2 : Int) : Rs := bd (m_X4_hasThing n M 0 a1) (fun r10 M9 => if I32 r10 then (if r10 = 0 then (m_X5_owns_27 n M9) else (if I32 a2 then (if a2 = (-1) then (m_X5_owns_33 n M9 a1 a2) else (bd (m_X4_hasPerson n M9 0 a2) (fun r16 M15 => if I32 r16 then (if r16 = 0 then (m_X5_owns_27 n M15) else (m_X5_owns_33 n M15 a1 a2)) else none))) else none)) else none)
theorem y_X5_owns (n : Nat) (M : Mem) (a1 : Int) (a2 : Int) : Y RX5 cX5_owns 4 3 0 none 0 [some (rv 130), some (iv a1), some (iv a2), none] [] M (m_X5_owns n M a1 a2) := by
  unfold m_X5_owns
  refine y_aload_n (pc := 0) dX5_owns_0 rfl ?_
  refine y_getref (pc := 1) (x := 0) g_X5_10 dX5_owns_1 ?_
  refine y_iload_n (pc := 4) dX5_owns_4 rfl ?_
  refine y_callVi (pc := 5) v_X4_hasThing l_X5_159 dX5_owns_5 (c_X4_hasThing n _ _ _) (fun _ h => nomatch h) rfl (rc_X4 (by decide)) rfl (by decide) (by decide) (Nat.le_of_ble_eq_true rfl) (fun r10 M9 _ => ?_)
  refine y_gd (fun h11 => ?_)
  refine y_if_eq (off := 19) (tgt := 27) (pc := 8) dX5_owns_8 (by decide) h11 (fun h12 => ?_) (fun h12 => ?_)
  · exact y_sub (ls_s (ls_n (ls_n (ls_n ls_0)))) (t_X5_owns_27 n M9)
  · refine y_iload_n (pc := 11) dX5_owns_11 rfl ?_
    refine y_iconst (pc := 12) dX5_owns_12 ?_
    refine y_gd (fun h13 => ?_)
    refine y_icmp_eq (off := 20) (tgt := 33) (pc := 13) dX5_owns_13 (by decide) h13 (by decide) (fun h14 => ?_) (fun h14 => ?_)
    · exact y_sub (ls_s (ls_s (ls_s (ls_n ls_0)))) (t_X5_owns_33 n M9 a1 a2)
    · refine y_aload_n (pc := 16) dX5_owns_16 rfl ?_
      refine y_getref (pc := 17) (x := 0) g_X5_10 dX5_owns_17 ?_
      refine y_iload_n (pc := 20) dX5_owns_20 rfl ?_
      refine y_callVi (pc := 21) v_X4_hasPerson l_X5_123 dX5_owns_21 (c_X4_hasPerson n _ _ _) (fun _ h => nomatch h) rfl (rc_X4 (by decide)) rfl (by decide) (by decide) (Nat.le_of_ble_eq_true rfl) (fun r16 M15 _ => ?_)
      refine y_gd (fun h17 => ?_)
      refine y_if_ne (off := 9) (tgt := 33) (pc := 24) dX5_owns_24 (by decide) h17 (fun h18 => ?_) (fun h18 => ?_)
      · exact y_sub (ls_s (ls_s (ls_s (ls_n ls_0)))) (t_X5_owns_33 n M15 a1 a2)
      · exact y_sub (ls_s (ls_n (ls_n (ls_n ls_0)))) (t_X5_owns_27 n M15)
theorem c_X5_owns (n : Nat) (M : Mem) (a1 : Int) (a2 : Int) : ∀ res : Int × Mem, m_X5_owns n M a1 a2 = some res → CTi none yX5_owns cX5_owns 4 (some .int) 3 [rv 130, iv a1, iv a2] M res := CTi_of (by decide +kernel) rfl (Nat.le_of_ble_eq_true rfl) rfl (y_X5_owns n M a1 a2)
def m_X5_stands_18 (n : Nat) (M : Mem) : Rs := bd (m_X5_refuse n M (-1)) (fun r2 M1 => some (r2, M1))
theorem t_X5_stands_18 (n : Nat) (M : Mem) : Y RX5 cX5_stands 4 3 0 none 18 [some (rv 130), none, none, none] [] M (m_X5_stands_18 n M) := by
  unfold m_X5_stands_18
  refine y_aload_n (pc := 18) dX5_stands_18 rfl ?_
  refine y_iconst (pc := 19) dX5_stands_19 ?_
  refine y_callVi (pc := 20) v_X5_refuse l_X5_60 dX5_stands_20 (c_X5_refuse n _ _) (fun _ h => nomatch h) rfl rc_X5 rfl (by decide) (by decide) (Nat.le_of_ble_eq_true rfl) (fun r2 M1 _ => ?_)
  exact y_iret (pc := 23) dX5_stands_23
def m_X5_stands (n : Nat) (M : Mem) (a1 : Int) (a2 : Int) : Rs := bd (m_X4_hasPerson n M 0 a1) (fun r4 M3 => if I32 r4 then (if r4 = 0 then (m_X5_stands_18 n M3) else (bd (m_X5_isCell n M3 a2) (fun r8 M7 => if I32 r8 then (if r8 = 0 then (m_X5_stands_18 n M7) else (bd (m_X5_keepForBack n M7) (fun _ M11 => if 0 ≤ a1 ∧ a1 < 5 then (lt (rd M11 10 (Int.toNat a1)) (fun x13 => wr M11 10 (Int.toNat a1) a2 (fun M14 => some (x13, M14)))) else none))) else none))) else none)
theorem y_X5_stands (n : Nat) (M : Mem) (a1 : Int) (a2 : Int) : Y RX5 cX5_stands 4 3 0 none 0 [some (rv 130), some (iv a1), some (iv a2), none] [] M (m_X5_stands n M a1 a2) := by
  unfold m_X5_stands
  refine y_aload_n (pc := 0) dX5_stands_0 rfl ?_
  refine y_getref (pc := 1) (x := 0) g_X5_10 dX5_stands_1 ?_
  refine y_iload_n (pc := 4) dX5_stands_4 rfl ?_
  refine y_callVi (pc := 5) v_X4_hasPerson l_X5_123 dX5_stands_5 (c_X4_hasPerson n _ _ _) (fun _ h => nomatch h) rfl (rc_X4 (by decide)) rfl (by decide) (by decide) (Nat.le_of_ble_eq_true rfl) (fun r4 M3 _ => ?_)
  refine y_gd (fun h5 => ?_)
  refine y_if_eq (off := 10) (tgt := 18) (pc := 8) dX5_stands_8 (by decide) h5 (fun h6 => ?_) (fun h6 => ?_)
  · exact y_sub (ls_s (ls_n (ls_n (ls_n ls_0)))) (t_X5_stands_18 n M3)
  · refine y_iload_n (pc := 11) dX5_stands_11 rfl ?_
    refine y_callSi (pc := 12) s_X5_isCell l_X5_186 dX5_stands_12 (c_X5_isCell n _ _) (fun _ h => nomatch h) rfl rfl (by decide) (by decide) (Nat.le_of_ble_eq_true rfl) (fun r8 M7 _ => ?_)
    refine y_gd (fun h9 => ?_)
    refine y_if_ne (off := 9) (tgt := 24) (pc := 15) dX5_stands_15 (by decide) h9 (fun h10 => ?_) (fun h10 => ?_)
    · refine y_aload_n (pc := 24) dX5_stands_24 rfl ?_
      refine y_callVv (pc := 25) v_X5_keepForBack l_X5_224 dX5_stands_25 (c_X5_keepForBack n _) (fun _ h => nomatch h) rfl rc_X5 rfl (by decide) (by decide) (Nat.le_of_ble_eq_true rfl) (fun _ M11 _ => ?_)
      refine y_aload_n (pc := 28) dX5_stands_28 rfl ?_
      refine y_getref (pc := 29) (x := 0) g_X5_10 dX5_stands_29 ?_
      refine y_getref (pc := 32) (x := 10) (g_X5_135 (by decide)) dX5_stands_32 ?_
      refine y_iload_n (pc := 35) dX5_stands_35 rfl ?_
      refine y_gd (fun h12 => ?_)
      refine y_iald (pc := 36) dX5_stands_36 ar_10 h12 ?_
      refine y_leti (fun x13 => ?_)
      refine y_istore_n (L' := [some (rv 130), some (iv a1), some (iv a2), some (iv x13)]) (pc := 37) dX5_stands_37 (by decide) rfl rfl ?_
      refine y_aload_n (pc := 38) dX5_stands_38 rfl ?_
      refine y_getref (pc := 39) (x := 0) g_X5_10 dX5_stands_39 ?_
      refine y_getref (pc := 42) (x := 10) (g_X5_135 (by decide)) dX5_stands_42 ?_
      refine y_iload_n (pc := 45) dX5_stands_45 rfl ?_
      refine y_iload_n (pc := 46) dX5_stands_46 rfl ?_
      refine y_iastw (pc := 47) dX5_stands_47 ar_10 h12 (fun M14 => ?_)
      refine y_iload_n (pc := 48) dX5_stands_48 rfl ?_
      exact y_iret (pc := 49) dX5_stands_49
    · exact y_sub (ls_s (ls_n (ls_n (ls_n ls_0)))) (t_X5_stands_18 n M7)
theorem c_X5_stands (n : Nat) (M : Mem) (a1 : Int) (a2 : Int) : ∀ res : Int × Mem, m_X5_stands n M a1 a2 = some res → CTi none yX5_stands cX5_stands 4 (some .int) 3 [rv 130, iv a1, iv a2] M res := CTi_of (by decide +kernel) rfl (Nat.le_of_ble_eq_true rfl) rfl (y_X5_stands n M a1 a2)
def m_X5_thinkOn (n : Nat) (M : Mem) (a1 : Int) : Rs := bd (m_X0_begin n M 0) (fun _ M1 => bd (m_X0_goOn n M1 a1) (fun _ M2 => some (0, M2)))
theorem y_X5_thinkOn (n : Nat) (M : Mem) (a1 : Int) : Y RX5 cX5_thinkOn 2 5 3 none 0 [some (rv 130), some (iv a1)] [] M (m_X5_thinkOn n M a1) := by
  unfold m_X5_thinkOn
  refine y_aload_n (pc := 0) dX5_thinkOn_0 rfl ?_
  refine y_getref (pc := 1) (x := 129) g_X5_50 dX5_thinkOn_1 ?_
  refine y_aload_n (pc := 4) dX5_thinkOn_4 rfl ?_
  refine y_getref (pc := 5) (x := 0) g_X5_10 dX5_thinkOn_5 ?_
  refine y_callVv (pc := 8) v_X0_begin l_X5_67 dX5_thinkOn_8 (c_X0_begin n _ _) (fun _ h => nomatch h) rfl rc_X0 rfl (by decide) (by decide) (Nat.le_of_ble_eq_true rfl) (fun _ M1 _ => ?_)
  refine y_aload_n (pc := 11) dX5_thinkOn_11 rfl ?_
  refine y_getref (pc := 12) (x := 129) g_X5_50 dX5_thinkOn_12 ?_
  refine y_iload_n (pc := 15) dX5_thinkOn_15 rfl ?_
  refine y_callVv (pc := 16) v_X0_goOn l_X5_119 dX5_thinkOn_16 (c_X0_goOn n _ _) (fun _ h => nomatch h) rfl rc_X0 rfl (by decide) (by decide) (Nat.le_of_ble_eq_true rfl) (fun _ M2 _ => ?_)
  exact y_vret (pc := 19) dX5_thinkOn_19
theorem c_X5_thinkOn (n : Nat) (M : Mem) (a1 : Int) : ∀ res : Int × Mem, m_X5_thinkOn n M a1 = some res → CTv none yX5_thinkOn cX5_thinkOn 2 5 [rv 130, iv a1] M res := CTv_of (by decide +kernel) rfl (Nat.le_of_ble_eq_true rfl) rfl (y_X5_thinkOn n M a1)
def m_X5_hours (n : Nat) (M : Mem) (a1 : Int) : Rs := bd (m_X5_outOfRange n M a1 1 60) (fun r2 M1 => if I32 r2 then (if r2 = 0 then (if I32 ((rd M1 0 13) + a1) then (if ((rd M1 0 13) + a1) ≤ 999 then (bd (m_X5_keepForBack n M1) (fun _ M7 => bd (m_X5_thinkOn n M7 a1) (fun _ M8 => bd (m_X4_become n M8 0 22) (fun _ M9 => bd (m_X4_ownedThings n M9 0) (fun r11 M10 => some (r11, M10)))))) else (bd (m_X5_refuse n M1 (-6)) (fun r13 M12 => some (r13, M12)))) else none) else (bd (m_X5_refuse n M1 r2) (fun r15 M14 => some (r15, M14)))) else none)
theorem y_X5_hours (n : Nat) (M : Mem) (a1 : Int) : Y RX5 cX5_hours 3 6 0 none 0 [some (rv 130), some (iv a1), none] [] M (m_X5_hours n M a1) := by
  unfold m_X5_hours
  refine y_iload_n (pc := 0) dX5_hours_0 rfl ?_
  refine y_iconst (pc := 1) dX5_hours_1 ?_
  refine y_bipush (pc := 2) dX5_hours_2 (by decide) ?_
  refine y_callSi (pc := 4) s_X5_outOfRange l_X5_220 dX5_hours_4 (c_X5_outOfRange n _ _ _ _) (fun _ h => nomatch h) rfl rfl (by decide) (by decide) (Nat.le_of_ble_eq_true rfl) (fun r2 M1 _ => ?_)
  refine y_istore_n (L' := [some (rv 130), some (iv a1), some (iv r2)]) (pc := 7) dX5_hours_7 (by decide) rfl rfl ?_
  refine y_iload_n (pc := 8) dX5_hours_8 rfl ?_
  refine y_gd (fun h3 => ?_)
  refine y_if_eq (off := 9) (tgt := 18) (pc := 9) dX5_hours_9 (by decide) h3 (fun h4 => ?_) (fun h4 => ?_)
  · refine y_aload_n (pc := 18) dX5_hours_18 rfl ?_
    refine y_getref (pc := 19) (x := 0) g_X5_10 dX5_hours_19 ?_
    refine y_getint (pc := 22) (g_X5_116 (by decide)) dX5_hours_22 ?_
    refine y_iload_n (pc := 25) dX5_hours_25 rfl ?_
    refine y_iadd (pc := 26) dX5_hours_26 ?_
    refine y_sipush (pc := 27) dX5_hours_27 (by decide) ?_
    refine y_gd (fun h5 => ?_)
    refine y_icmp_le (off := 10) (tgt := 40) (pc := 30) dX5_hours_30 (by decide) h5 (by decide) (fun h6 => ?_) (fun h6 => ?_)
    · refine y_aload_n (pc := 40) dX5_hours_40 rfl ?_
      refine y_callVv (pc := 41) v_X5_keepForBack l_X5_224 dX5_hours_41 (c_X5_keepForBack n _) (fun _ h => nomatch h) rfl rc_X5 rfl (by decide) (by decide) (Nat.le_of_ble_eq_true rfl) (fun _ M7 _ => ?_)
      refine y_aload_n (pc := 44) dX5_hours_44 rfl ?_
      refine y_iload_n (pc := 45) dX5_hours_45 rfl ?_
      refine y_callVv (pc := 46) v_X5_thinkOn l_X5_227 dX5_hours_46 (c_X5_thinkOn n _ _) (fun _ h => nomatch h) rfl rc_X5 rfl (by decide) (by decide) (Nat.le_of_ble_eq_true rfl) (fun _ M8 _ => ?_)
      refine y_aload_n (pc := 49) dX5_hours_49 rfl ?_
      refine y_getref (pc := 50) (x := 0) g_X5_10 dX5_hours_50 ?_
      refine y_aload_n (pc := 53) dX5_hours_53 rfl ?_
      refine y_getref (pc := 54) (x := 129) g_X5_50 dX5_hours_54 ?_
      refine y_getref (pc := 57) (x := 22) g_X5_81 dX5_hours_57 ?_
      refine y_callVv (pc := 60) v_X4_become l_X5_84 dX5_hours_60 (c_X4_become n _ _ _) (fun _ h => nomatch h) rfl (rc_X4 (by decide)) rfl (by decide) (by decide) (Nat.le_of_ble_eq_true rfl) (fun _ M9 _ => ?_)
      refine y_aload_n (pc := 63) dX5_hours_63 rfl ?_
      refine y_getref (pc := 64) (x := 0) g_X5_10 dX5_hours_64 ?_
      refine y_callVi (pc := 67) v_X4_ownedThings l_X5_213 dX5_hours_67 (c_X4_ownedThings n _ _) (fun _ h => nomatch h) rfl (rc_X4 (by decide)) rfl (by decide) (by decide) (Nat.le_of_ble_eq_true rfl) (fun r11 M10 _ => ?_)
      exact y_iret (pc := 70) dX5_hours_70
    · refine y_aload_n (pc := 33) dX5_hours_33 rfl ?_
      refine y_bipush (pc := 34) dX5_hours_34 (by decide) ?_
      refine y_callVi (pc := 36) v_X5_refuse l_X5_60 dX5_hours_36 (c_X5_refuse n _ _) (fun _ h => nomatch h) rfl rc_X5 rfl (by decide) (by decide) (Nat.le_of_ble_eq_true rfl) (fun r13 M12 _ => ?_)
      exact y_iret (pc := 39) dX5_hours_39
  · refine y_aload_n (pc := 12) dX5_hours_12 rfl ?_
    refine y_iload_n (pc := 13) dX5_hours_13 rfl ?_
    refine y_callVi (pc := 14) v_X5_refuse l_X5_60 dX5_hours_14 (c_X5_refuse n _ _) (fun _ h => nomatch h) rfl rc_X5 rfl (by decide) (by decide) (Nat.le_of_ble_eq_true rfl) (fun r15 M14 _ => ?_)
    exact y_iret (pc := 17) dX5_hours_17
theorem c_X5_hours (n : Nat) (M : Mem) (a1 : Int) : ∀ res : Int × Mem, m_X5_hours n M a1 = some res → CTi none yX5_hours cX5_hours 3 (some .int) 6 [rv 130, iv a1] M res := CTi_of (by decide +kernel) rfl (Nat.le_of_ble_eq_true rfl) rfl (y_X5_hours n M a1)
def m_X5_back_16 (n : Nat) (M : Mem) : Rs := bd (m_X5_refuse n M (-3)) (fun r2 M1 => some (r2, M1))
theorem t_X5_back_16 (n : Nat) (M : Mem) : Y RX5 cX5_back 1 2 0 none 16 [some (rv 130)] [] M (m_X5_back_16 n M) := by
  unfold m_X5_back_16
  refine y_aload_n (pc := 16) dX5_back_16 rfl ?_
  refine y_bipush (pc := 17) dX5_back_17 (by decide) ?_
  refine y_callVi (pc := 19) v_X5_refuse l_X5_60 dX5_back_19 (c_X5_refuse n _ _) (fun _ h => nomatch h) rfl rc_X5 rfl (by decide) (by decide) (Nat.le_of_ble_eq_true rfl) (fun r2 M1 _ => ?_)
  exact y_iret (pc := 22) dX5_back_22
def m_X5_back (n : Nat) (M : Mem) : Rs := if (rd M 130 4) ≤ 0 then (m_X5_back_16 n M) else (if (rd M 130 4) ≤ 8 then (wr M 130 4 ((rd M 130 4) - 1) (fun M5 => if 0 ≤ (rd M5 130 4) ∧ (rd M5 130 4) < 8 then (bd (m_X4_become n M5 0 (Int.toNat (rd M5 131 (Int.toNat (rd M5 130 4))))) (fun _ M7 => some ((rd M7 130 4), M7))) else none)) else (m_X5_back_16 n M))
theorem y_X5_back (n : Nat) (M : Mem) : Y RX5 cX5_back 1 2 0 none 0 [some (rv 130)] [] M (m_X5_back n M) := by
  unfold m_X5_back
  refine y_aload_n (pc := 0) dX5_back_0 rfl ?_
  refine y_getint (pc := 1) g_X5_27 dX5_back_1 ?_
  refine y_if_le (off := 12) (tgt := 16) (pc := 4) dX5_back_4 (by decide) (rd_rng _ _ _) (fun h3 => ?_) (fun h3 => ?_)
  · exact y_sub (ls_s ls_0) (t_X5_back_16 n M)
  · refine y_aload_n (pc := 7) dX5_back_7 rfl ?_
    refine y_getint (pc := 8) g_X5_27 dX5_back_8 ?_
    refine y_bipush (pc := 11) dX5_back_11 (by decide) ?_
    refine y_icmp_le (off := 10) (tgt := 23) (pc := 13) dX5_back_13 (by decide) (rd_rng _ _ _) (by decide) (fun h4 => ?_) (fun h4 => ?_)
    · refine y_aload_n (pc := 23) dX5_back_23 rfl ?_
      refine y_dup (pc := 24) dX5_back_24 rfl ?_
      refine y_getint (pc := 25) g_X5_27 dX5_back_25 ?_
      refine y_iconst (pc := 28) dX5_back_28 ?_
      refine y_isub (pc := 29) dX5_back_29 ?_
      refine y_putintw (pc := 30) pf_X5_27 dX5_back_30 (fun M5 => ?_)
      refine y_aload_n (pc := 33) dX5_back_33 rfl ?_
      refine y_getref (pc := 34) (x := 0) g_X5_10 dX5_back_34 ?_
      refine y_aload_n (pc := 37) dX5_back_37 rfl ?_
      refine y_getref (pc := 38) (x := 131) g_X5_23 dX5_back_38 ?_
      refine y_aload_n (pc := 41) dX5_back_41 rfl ?_
      refine y_getint (pc := 42) g_X5_27 dX5_back_42 ?_
      refine y_gd (fun h6 => ?_)
      refine y_aald (pc := 45) dX5_back_45 h6 ?_
      refine y_callVv (pc := 46) v_X4_become l_X5_84 dX5_back_46 (c_X4_become n _ _ _) (fun _ h => nomatch h) rfl (rc_X4 (by decide)) rfl (by decide) (by decide) (Nat.le_of_ble_eq_true rfl) (fun _ M7 _ => ?_)
      refine y_aload_n (pc := 49) dX5_back_49 rfl ?_
      refine y_getint (pc := 50) g_X5_27 dX5_back_50 ?_
      exact y_iret (pc := 53) dX5_back_53
    · exact y_sub (ls_s ls_0) (t_X5_back_16 n M)
theorem c_X5_back (n : Nat) (M : Mem) : ∀ res : Int × Mem, m_X5_back n M = some res → CTi none yX5_back cX5_back 1 (some .int) 2 [rv 130] M res := CTi_of (by decide +kernel) rfl (Nat.le_of_ble_eq_true rfl) rfl (y_X5_back n M)
def m_X5_then_27 (n : Nat) (M : Mem) : Rs := bd (m_X5_refuse n M (-2)) (fun r2 M1 => some (r2, M1))
theorem t_X5_then_27 (n : Nat) (M : Mem) : Y RX5 cX5_then 4 6 0 none 27 [some (rv 130), none, none, none] [] M (m_X5_then_27 n M) := by
  unfold m_X5_then_27
  refine y_aload_n (pc := 27) dX5_then_27 rfl ?_
  refine y_bipush (pc := 28) dX5_then_28 (by decide) ?_
  refine y_callVi (pc := 30) v_X5_refuse l_X5_60 dX5_then_30 (c_X5_refuse n _ _) (fun _ h => nomatch h) rfl rc_X5 rfl (by decide) (by decide) (Nat.le_of_ble_eq_true rfl) (fun r2 M1 _ => ?_)
  exact y_iret (pc := 33) dX5_then_33
def m_X5_then (n : Nat) (M : Mem) (a1 : Int) (a2 : Int) : Rs := bd (m_X5_outOfRange n M a1 0 60) (fun r4 M3 => if I32 r4 then (if r4 = 0 then (if I32 a2 then (if a2 < 0 then (m_X5_then_27 n M3) else (if a2 ≤ 2 then (bd (m_X5_thinkOn n M3 a1) (fun _ M10 => if a2 = 0 then (bd (m_X0_foggyCells n M10) (fun r13 M12 => some (r13, M12))) else (if a2 = 1 then (bd (m_X4_ownedThings n M10 22) (fun r16 M15 => some (r16, M15))) else (bd (m_X4_nobodysThings n M10 22) (fun r18 M17 => some (r18, M17)))))) else (m_X5_then_27 n M3))) else none) else (bd (m_X5_refuse n M3 r4) (fun r20 M19 => some (r20, M19)))) else none)
theorem y_X5_then (n : Nat) (M : Mem) (a1 : Int) (a2 : Int) : Y RX5 cX5_then 4 6 0 none 0 [some (rv 130), some (iv a1), some (iv a2), none] [] M (m_X5_then n M a1 a2) := by
  unfold m_X5_then
  refine y_iload_n (pc := 0) dX5_then_0 rfl ?_
  refine y_iconst (pc := 1) dX5_then_1 ?_
  refine y_bipush (pc := 2) dX5_then_2 (by decide) ?_
  refine y_callSi (pc := 4) s_X5_outOfRange l_X5_220 dX5_then_4 (c_X5_outOfRange n _ _ _ _) (fun _ h => nomatch h) rfl rfl (by decide) (by decide) (Nat.le_of_ble_eq_true rfl) (fun r4 M3 _ => ?_)
  refine y_istore_n (L' := [some (rv 130), some (iv a1), some (iv a2), some (iv r4)]) (pc := 7) dX5_then_7 (by decide) rfl rfl ?_
  refine y_iload_n (pc := 8) dX5_then_8 rfl ?_
  refine y_gd (fun h5 => ?_)
  refine y_if_eq (off := 9) (tgt := 18) (pc := 9) dX5_then_9 (by decide) h5 (fun h6 => ?_) (fun h6 => ?_)
  · refine y_iload_n (pc := 18) dX5_then_18 rfl ?_
    refine y_gd (fun h7 => ?_)
    refine y_if_lt (off := 8) (tgt := 27) (pc := 19) dX5_then_19 (by decide) h7 (fun h8 => ?_) (fun h8 => ?_)
    · exact y_sub (ls_s (ls_n (ls_n (ls_n ls_0)))) (t_X5_then_27 n M3)
    · refine y_iload_n (pc := 22) dX5_then_22 rfl ?_
      refine y_iconst (pc := 23) dX5_then_23 ?_
      refine y_icmp_le (off := 10) (tgt := 34) (pc := 24) dX5_then_24 (by decide) h7 (by decide) (fun h9 => ?_) (fun h9 => ?_)
      · refine y_aload_n (pc := 34) dX5_then_34 rfl ?_
        refine y_iload_n (pc := 35) dX5_then_35 rfl ?_
        refine y_callVv (pc := 36) v_X5_thinkOn l_X5_227 dX5_then_36 (c_X5_thinkOn n _ _) (fun _ h => nomatch h) rfl rc_X5 rfl (by decide) (by decide) (Nat.le_of_ble_eq_true rfl) (fun _ M10 _ => ?_)
        refine y_iload_n (pc := 39) dX5_then_39 rfl ?_
        refine y_br (fun h11 => ?_) (fun h11 => ?_)
        · refine y_lookup (off := 28) (tgt := 68) (pc := 40) dX5_then_40 rfl h7 (by rw [h11]; rfl) (by decide) ?_
          refine y_aload_n (pc := 68) dX5_then_68 rfl ?_
          refine y_getref (pc := 69) (x := 129) g_X5_50 dX5_then_69 ?_
          refine y_callVi (pc := 72) v_X0_foggyCells l_X5_217 dX5_then_72 (c_X0_foggyCells n _) (fun _ h => nomatch h) rfl rc_X0 rfl (by decide) (by decide) (Nat.le_of_ble_eq_true rfl) (fun r13 M12 _ => ?_)
          exact y_iret (pc := 75) dX5_then_75
        · refine y_br (fun h14 => ?_) (fun h14 => ?_)
          · refine y_lookup (off := 36) (tgt := 76) (pc := 40) dX5_then_40 rfl h7 (by rw [h14]; rfl) (by decide) ?_
            refine y_aload_n (pc := 76) dX5_then_76 rfl ?_
            refine y_getref (pc := 77) (x := 129) g_X5_50 dX5_then_77 ?_
            refine y_getref (pc := 80) (x := 22) g_X5_81 dX5_then_80 ?_
            refine y_callVi (pc := 83) v_X4_ownedThings l_X5_213 dX5_then_83 (c_X4_ownedThings n _ _) (fun _ h => nomatch h) rfl (rc_X4 (by decide)) rfl (by decide) (by decide) (Nat.le_of_ble_eq_true rfl) (fun r16 M15 _ => ?_)
            exact y_iret (pc := 86) dX5_then_86
          · refine y_lookup (off := 47) (tgt := 87) (pc := 40) dX5_then_40 rfl h7 (lk_out2 h11 h14) (by decide) ?_
            refine y_aload_n (pc := 87) dX5_then_87 rfl ?_
            refine y_getref (pc := 88) (x := 129) g_X5_50 dX5_then_88 ?_
            refine y_getref (pc := 91) (x := 22) g_X5_81 dX5_then_91 ?_
            refine y_callVi (pc := 94) v_X4_nobodysThings l_X5_230 dX5_then_94 (c_X4_nobodysThings n _ _) (fun _ h => nomatch h) rfl (rc_X4 (by decide)) rfl (by decide) (by decide) (Nat.le_of_ble_eq_true rfl) (fun r18 M17 _ => ?_)
            exact y_iret (pc := 97) dX5_then_97
      · exact y_sub (ls_s (ls_n (ls_n (ls_n ls_0)))) (t_X5_then_27 n M3)
  · refine y_aload_n (pc := 12) dX5_then_12 rfl ?_
    refine y_iload_n (pc := 13) dX5_then_13 rfl ?_
    refine y_callVi (pc := 14) v_X5_refuse l_X5_60 dX5_then_14 (c_X5_refuse n _ _) (fun _ h => nomatch h) rfl rc_X5 rfl (by decide) (by decide) (Nat.le_of_ble_eq_true rfl) (fun r20 M19 _ => ?_)
    exact y_iret (pc := 17) dX5_then_17
theorem c_X5_then (n : Nat) (M : Mem) (a1 : Int) (a2 : Int) : ∀ res : Int × Mem, m_X5_then n M a1 a2 = some res → CTi none yX5_then cX5_then 4 (some .int) 6 [rv 130, iv a1, iv a2] M res := CTi_of (by decide +kernel) rfl (Nat.le_of_ble_eq_true rfl) rfl (y_X5_then n M a1 a2)
end
section
def m_X5_personThen_54 (n : Nat) (M : Mem) (a1 : Int) (a2 : Int) (a3 : Int) : Rs := bd (m_X5_thinkOn n M a2) (fun _ M1 => if I32 a3 then (if a3 = 0 then (if 0 ≤ a1 ∧ a1 < 5 then (some ((rd M1 32 (Int.toNat a1)), M1)) else none) else (bd (m_X4_worthsOf n M1 22 a1) (fun r5 M4 => some (r5, M4)))) else none)
theorem t_X5_personThen_54 (n : Nat) (M : Mem) (a1 : Int) (a2 : Int) (a3 : Int) : Y RX5 cX5_personThen 5 6 0 none 54 [some (rv 130), some (iv a1), some (iv a2), some (iv a3), none] [] M (m_X5_personThen_54 n M a1 a2 a3) := by
  unfold m_X5_personThen_54
  refine y_aload_n (pc := 54) dX5_personThen_54 rfl ?_
  refine y_iload_n (pc := 55) dX5_personThen_55 rfl ?_
  refine y_callVv (pc := 56) v_X5_thinkOn l_X5_227 dX5_personThen_56 (c_X5_thinkOn n _ _) (fun _ h => nomatch h) rfl rc_X5 rfl (by decide) (by decide) (Nat.le_of_ble_eq_true rfl) (fun _ M1 _ => ?_)
  refine y_iload_n (pc := 59) dX5_personThen_59 rfl ?_
  refine y_gd (fun h2 => ?_)
  refine y_if_ne (off := 18) (tgt := 78) (pc := 60) dX5_personThen_60 (by decide) h2 (fun h3 => ?_) (fun h3 => ?_)
  · refine y_aload_n (pc := 78) dX5_personThen_78 rfl ?_
    refine y_getref (pc := 79) (x := 129) g_X5_50 dX5_personThen_79 ?_
    refine y_getref (pc := 82) (x := 22) g_X5_81 dX5_personThen_82 ?_
    refine y_iload_n (pc := 85) dX5_personThen_85 rfl ?_
    refine y_callVi (pc := 86) v_X4_worthsOf l_X5_156 dX5_personThen_86 (c_X4_worthsOf n _ _ _) (fun _ h => nomatch h) rfl (rc_X4 (by decide)) rfl (by decide) (by decide) (Nat.le_of_ble_eq_true rfl) (fun r5 M4 _ => ?_)
    exact y_iret (pc := 89) dX5_personThen_89
  · refine y_aload_n (pc := 63) dX5_personThen_63 rfl ?_
    refine y_getref (pc := 64) (x := 129) g_X5_50 dX5_personThen_64 ?_
    refine y_getref (pc := 67) (x := 22) g_X5_81 dX5_personThen_67 ?_
    refine y_getref (pc := 70) (x := 32) (g_X5_135 (by decide)) dX5_personThen_70 ?_
    refine y_iload_n (pc := 73) dX5_personThen_73 rfl ?_
    refine y_gd (fun h6 => ?_)
    refine y_iald (pc := 74) dX5_personThen_74 ar_32 h6 ?_
    refine y_goto (tgt := 89) (pc := 75) dX5_personThen_75 (by decide) ?_
    exact y_iret (pc := 89) dX5_personThen_89
def m_X5_personThen (n : Nat) (M : Mem) (a1 : Int) (a2 : Int) (a3 : Int) : Rs := bd (m_X4_hasPerson n M 0 a1) (fun r8 M7 => if I32 r8 then (if r8 = 0 then (bd (m_X5_refuse n M7 (-1)) (fun r23 M22 => some (r23, M22))) else (bd (m_X5_outOfRange n M7 a2 0 60) (fun r12 M11 => if I32 r12 then (if r12 = 0 then (if I32 a3 then (if a3 = 0 then (m_X5_personThen_54 n M11 a1 a2 a3) else (if a3 = 1 then (m_X5_personThen_54 n M11 a1 a2 a3) else (bd (m_X5_refuse n M11 (-2)) (fun r19 M18 => some (r19, M18))))) else none) else (bd (m_X5_refuse n M11 r12) (fun r21 M20 => some (r21, M20)))) else none))) else none)
theorem y_X5_personThen (n : Nat) (M : Mem) (a1 : Int) (a2 : Int) (a3 : Int) : Y RX5 cX5_personThen 5 6 0 none 0 [some (rv 130), some (iv a1), some (iv a2), some (iv a3), none] [] M (m_X5_personThen n M a1 a2 a3) := by
  unfold m_X5_personThen
  refine y_aload_n (pc := 0) dX5_personThen_0 rfl ?_
  refine y_getref (pc := 1) (x := 0) g_X5_10 dX5_personThen_1 ?_
  refine y_iload_n (pc := 4) dX5_personThen_4 rfl ?_
  refine y_callVi (pc := 5) v_X4_hasPerson l_X5_123 dX5_personThen_5 (c_X4_hasPerson n _ _ _) (fun _ h => nomatch h) rfl (rc_X4 (by decide)) rfl (by decide) (by decide) (Nat.le_of_ble_eq_true rfl) (fun r8 M7 _ => ?_)
  refine y_gd (fun h9 => ?_)
  refine y_if_ne (off := 9) (tgt := 17) (pc := 8) dX5_personThen_8 (by decide) h9 (fun h10 => ?_) (fun h10 => ?_)
  · refine y_iload_n (pc := 17) dX5_personThen_17 rfl ?_
    refine y_iconst (pc := 18) dX5_personThen_18 ?_
    refine y_bipush (pc := 19) dX5_personThen_19 (by decide) ?_
    refine y_callSi (pc := 21) s_X5_outOfRange l_X5_220 dX5_personThen_21 (c_X5_outOfRange n _ _ _ _) (fun _ h => nomatch h) rfl rfl (by decide) (by decide) (Nat.le_of_ble_eq_true rfl) (fun r12 M11 _ => ?_)
    refine y_istore (L' := [some (rv 130), some (iv a1), some (iv a2), some (iv a3), some (iv r12)]) (pc := 24) dX5_personThen_24 (by decide) rfl rfl ?_
    refine y_iload (pc := 26) dX5_personThen_26 rfl ?_
    refine y_gd (fun h13 => ?_)
    refine y_if_eq (off := 10) (tgt := 38) (pc := 28) dX5_personThen_28 (by decide) h13 (fun h14 => ?_) (fun h14 => ?_)
    · refine y_iload_n (pc := 38) dX5_personThen_38 rfl ?_
      refine y_gd (fun h15 => ?_)
      refine y_if_eq (off := 15) (tgt := 54) (pc := 39) dX5_personThen_39 (by decide) h15 (fun h16 => ?_) (fun h16 => ?_)
      · exact y_sub (ls_s (ls_s (ls_s (ls_s (ls_n ls_0))))) (t_X5_personThen_54 n M11 a1 a2 a3)
      · refine y_iload_n (pc := 42) dX5_personThen_42 rfl ?_
        refine y_iconst (pc := 43) dX5_personThen_43 ?_
        refine y_icmp_eq (off := 10) (tgt := 54) (pc := 44) dX5_personThen_44 (by decide) h15 (by decide) (fun h17 => ?_) (fun h17 => ?_)
        · exact y_sub (ls_s (ls_s (ls_s (ls_s (ls_n ls_0))))) (t_X5_personThen_54 n M11 a1 a2 a3)
        · refine y_aload_n (pc := 47) dX5_personThen_47 rfl ?_
          refine y_bipush (pc := 48) dX5_personThen_48 (by decide) ?_
          refine y_callVi (pc := 50) v_X5_refuse l_X5_60 dX5_personThen_50 (c_X5_refuse n _ _) (fun _ h => nomatch h) rfl rc_X5 rfl (by decide) (by decide) (Nat.le_of_ble_eq_true rfl) (fun r19 M18 _ => ?_)
          exact y_iret (pc := 53) dX5_personThen_53
    · refine y_aload_n (pc := 31) dX5_personThen_31 rfl ?_
      refine y_iload (pc := 32) dX5_personThen_32 rfl ?_
      refine y_callVi (pc := 34) v_X5_refuse l_X5_60 dX5_personThen_34 (c_X5_refuse n _ _) (fun _ h => nomatch h) rfl rc_X5 rfl (by decide) (by decide) (Nat.le_of_ble_eq_true rfl) (fun r21 M20 _ => ?_)
      exact y_iret (pc := 37) dX5_personThen_37
  · refine y_aload_n (pc := 11) dX5_personThen_11 rfl ?_
    refine y_iconst (pc := 12) dX5_personThen_12 ?_
    refine y_callVi (pc := 13) v_X5_refuse l_X5_60 dX5_personThen_13 (c_X5_refuse n _ _) (fun _ h => nomatch h) rfl rc_X5 rfl (by decide) (by decide) (Nat.le_of_ble_eq_true rfl) (fun r23 M22 _ => ?_)
    exact y_iret (pc := 16) dX5_personThen_16
theorem c_X5_personThen (n : Nat) (M : Mem) (a1 : Int) (a2 : Int) (a3 : Int) : ∀ res : Int × Mem, m_X5_personThen n M a1 a2 a3 = some res → CTi none yX5_personThen cX5_personThen 5 (some .int) 6 [rv 130, iv a1, iv a2, iv a3] M res := CTi_of (by decide +kernel) rfl (Nat.le_of_ble_eq_true rfl) rfl (y_X5_personThen n M a1 a2 a3)
def m_X5_clears_26 (n : Nat) : Nat → Mem → Int → Int → Rs
  | 0, _, _, _ => none
  | t + 1, M, a1, a2 => if I32 a2 then (if 60 < a2 then (some ((-9), M)) else (bd (m_X0_isInFog n M a1) (fun r4 M3 => if I32 r4 then (if r4 = 0 then (some (a2, M3)) else (bd (m_X0_goOn n M3 1) (fun _ M7 => (m_X5_clears_26 n t) M7 a1 (a2 + 1)))) else none))) else none
theorem t_X5_clears_26 (n : Nat) : ∀ (t : Nat) (M : Mem) (a1 : Int) (a2 : Int), Y RX5 cX5_clears 3 5 0 none 26 [some (rv 130), some (iv a1), some (iv a2)] [] M (m_X5_clears_26 n t M a1 a2) := by
  intro t
  induction t with
  | zero => intro M a1 a2; exact y_none
  | succ t ih =>
    intro M a1 a2
    rewrite [m_X5_clears_26]
    refine y_iload_n (pc := 26) dX5_clears_26 rfl ?_
    refine y_bipush (pc := 27) dX5_clears_27 (by decide) ?_
    refine y_gd (fun h1 => ?_)
    refine y_icmp_gt (off := 30) (tgt := 59) (pc := 29) dX5_clears_29 (by decide) h1 (by decide) (fun h2 => ?_) (fun h2 => ?_)
    · refine y_bipush (pc := 59) dX5_clears_59 (by decide) ?_
      exact y_iret (pc := 61) dX5_clears_61
    · refine y_aload_n (pc := 32) dX5_clears_32 rfl ?_
      refine y_getref (pc := 33) (x := 129) g_X5_50 dX5_clears_33 ?_
      refine y_iload_n (pc := 36) dX5_clears_36 rfl ?_
      refine y_callVi (pc := 37) v_X0_isInFog l_X5_195 dX5_clears_37 (c_X0_isInFog n _ _) (fun _ h => nomatch h) rfl rc_X0 rfl (by decide) (by decide) (Nat.le_of_ble_eq_true rfl) (fun r4 M3 _ => ?_)
      refine y_gd (fun h5 => ?_)
      refine y_if_ne (off := 5) (tgt := 45) (pc := 40) dX5_clears_40 (by decide) h5 (fun h6 => ?_) (fun h6 => ?_)
      · refine y_aload_n (pc := 45) dX5_clears_45 rfl ?_
        refine y_getref (pc := 46) (x := 129) g_X5_50 dX5_clears_46 ?_
        refine y_iconst (pc := 49) dX5_clears_49 ?_
        refine y_callVv (pc := 50) v_X0_goOn l_X5_119 dX5_clears_50 (c_X0_goOn n _ _) (fun _ h => nomatch h) rfl rc_X0 rfl (by decide) (by decide) (Nat.le_of_ble_eq_true rfl) (fun _ M7 _ => ?_)
        refine y_iinc (L' := [some (rv 130), some (iv a1), some (iv (a2 + 1))]) (pc := 53) dX5_clears_53 rfl (by decide) rfl rfl ?_
        refine y_goto (tgt := 26) (pc := 56) dX5_clears_56 (by decide) ?_
        exact y_sub (ls_s (ls_s (ls_s ls_0))) (ih M7 a1 (a2 + 1))
      · refine y_iload_n (pc := 43) dX5_clears_43 rfl ?_
        exact y_iret (pc := 44) dX5_clears_44
def m_X5_clears (n : Nat) (M : Mem) (a1 : Int) : Rs := bd (m_X5_isCell n M a1) (fun r9 M8 => if I32 r9 then (if r9 = 0 then (bd (m_X5_refuse n M8 (-1)) (fun r14 M13 => some (r14, M13))) else (bd (m_X0_begin n M8 0) (fun _ M12 => m_X5_clears_26 n n M12 a1 0))) else none)
theorem y_X5_clears (n : Nat) (M : Mem) (a1 : Int) : Y RX5 cX5_clears 3 5 0 none 0 [some (rv 130), some (iv a1), none] [] M (m_X5_clears n M a1) := by
  unfold m_X5_clears
  refine y_iload_n (pc := 0) dX5_clears_0 rfl ?_
  refine y_callSi (pc := 1) s_X5_isCell l_X5_186 dX5_clears_1 (c_X5_isCell n _ _) (fun _ h => nomatch h) rfl rfl (by decide) (by decide) (Nat.le_of_ble_eq_true rfl) (fun r9 M8 _ => ?_)
  refine y_gd (fun h10 => ?_)
  refine y_if_ne (off := 9) (tgt := 13) (pc := 4) dX5_clears_4 (by decide) h10 (fun h11 => ?_) (fun h11 => ?_)
  · refine y_aload_n (pc := 13) dX5_clears_13 rfl ?_
    refine y_getref (pc := 14) (x := 129) g_X5_50 dX5_clears_14 ?_
    refine y_aload_n (pc := 17) dX5_clears_17 rfl ?_
    refine y_getref (pc := 18) (x := 0) g_X5_10 dX5_clears_18 ?_
    refine y_callVv (pc := 21) v_X0_begin l_X5_67 dX5_clears_21 (c_X0_begin n _ _) (fun _ h => nomatch h) rfl rc_X0 rfl (by decide) (by decide) (Nat.le_of_ble_eq_true rfl) (fun _ M12 _ => ?_)
    refine y_iconst (pc := 24) dX5_clears_24 ?_
    refine y_istore_n (L' := [some (rv 130), some (iv a1), some (iv 0)]) (pc := 25) dX5_clears_25 (by decide) rfl rfl ?_
    exact y_sub (ls_s (ls_s (ls_s ls_0))) (t_X5_clears_26 n n M12 a1 0)
  · refine y_aload_n (pc := 7) dX5_clears_7 rfl ?_
    refine y_iconst (pc := 8) dX5_clears_8 ?_
    refine y_callVi (pc := 9) v_X5_refuse l_X5_60 dX5_clears_9 (c_X5_refuse n _ _) (fun _ h => nomatch h) rfl rc_X5 rfl (by decide) (by decide) (Nat.le_of_ble_eq_true rfl) (fun r14 M13 _ => ?_)
    exact y_iret (pc := 12) dX5_clears_12
theorem c_X5_clears (n : Nat) (M : Mem) (a1 : Int) : ∀ res : Int × Mem, m_X5_clears n M a1 = some res → CTi none yX5_clears cX5_clears 3 (some .int) 5 [rv 130, iv a1] M res := CTi_of (by decide +kernel) rfl (Nat.le_of_ble_eq_true rfl) rfl (y_X5_clears n M a1)
def m_X5_stand_63 (n : Nat) : Nat → Mem → Int → Int → Int → Int → Int → Int → Rs
  | 0, _, _, _, _, _, _, _ => none
  | t + 1, M, a1, a2, a3, a5, a6, a7 => if I32 a7 then (if 24 ≤ a7 then (if I32 a3 then (if a3 = 0 then (some (a5, M)) else (some (a6, M))) else none) else (bd (m_X0_begin n M 0) (fun _ M5 => if 0 ≤ a1 ∧ a1 < 5 then (wr M5 32 (Int.toNat a1) a7 (fun M7 => bd (m_X0_goOn n M7 a2) (fun _ M8 => bd (m_X4_worthsOf n M8 22 a1) (fun r10 M9 => if I32 r10 then (if I32 a6 then (if r10 ≤ a6 then ((m_X5_stand_63 n t) M9 a1 a2 a3 a5 a6 (a7 + 1)) else ((m_X5_stand_63 n t) M9 a1 a2 a3 a7 r10 (a7 + 1))) else none) else none)))) else none))) else none
theorem t_X5_stand_63 (n : Nat) : ∀ (t : Nat) (M : Mem) (a1 : Int) (a2 : Int) (a3 : Int) (a5 : Int) (a6 : Int) (a7 : Int), Y RX5 cX5_stand 9 5 0 none 63 [some (rv 130), some (iv a1), some (iv a2), some (iv a3), none, some (iv a5), some (iv a6), some (iv a7), none] [] M (m_X5_stand_63 n t M a1 a2 a3 a5 a6 a7) := by
  intro t
  induction t with
  | zero => intro M a1 a2 a3 a5 a6 a7; exact y_none
  | succ t ih =>
    intro M a1 a2 a3 a5 a6 a7
    rewrite [m_X5_stand_63]
    refine y_iload (pc := 63) dX5_stand_63 rfl ?_
    refine y_bipush (pc := 65) dX5_stand_65 (by decide) ?_
    refine y_gd (fun h1 => ?_)
    refine y_icmp_ge (off := 70) (tgt := 137) (pc := 67) dX5_stand_67 (by decide) h1 (by decide) (fun h2 => ?_) (fun h2 => ?_)
    · refine y_iload_n (pc := 137) dX5_stand_137 rfl ?_
      refine y_gd (fun h3 => ?_)
      refine y_if_ne (off := 8) (tgt := 146) (pc := 138) dX5_stand_138 (by decide) h3 (fun h4 => ?_) (fun h4 => ?_)
      · refine y_iload (pc := 146) dX5_stand_146 rfl ?_
        exact y_iret (pc := 148) dX5_stand_148
      · refine y_iload (pc := 141) dX5_stand_141 rfl ?_
        refine y_goto (tgt := 148) (pc := 143) dX5_stand_143 (by decide) ?_
        exact y_iret (pc := 148) dX5_stand_148
    · refine y_aload_n (pc := 70) dX5_stand_70 rfl ?_
      refine y_getref (pc := 71) (x := 129) g_X5_50 dX5_stand_71 ?_
      refine y_aload_n (pc := 74) dX5_stand_74 rfl ?_
      refine y_getref (pc := 75) (x := 0) g_X5_10 dX5_stand_75 ?_
      refine y_callVv (pc := 78) v_X0_begin l_X5_67 dX5_stand_78 (c_X0_begin n _ _) (fun _ h => nomatch h) rfl rc_X0 rfl (by decide) (by decide) (Nat.le_of_ble_eq_true rfl) (fun _ M5 _ => ?_)
      refine y_aload_n (pc := 81) dX5_stand_81 rfl ?_
      refine y_getref (pc := 82) (x := 129) g_X5_50 dX5_stand_82 ?_
      refine y_getref (pc := 85) (x := 22) g_X5_81 dX5_stand_85 ?_
      refine y_getref (pc := 88) (x := 32) (g_X5_135 (by decide)) dX5_stand_88 ?_
      refine y_iload_n (pc := 91) dX5_stand_91 rfl ?_
      refine y_iload (pc := 92) dX5_stand_92 rfl ?_
      refine y_gd (fun h6 => ?_)
      refine y_iastw (pc := 94) dX5_stand_94 ar_32 h6 (fun M7 => ?_)
      refine y_aload_n (pc := 95) dX5_stand_95 rfl ?_
      refine y_getref (pc := 96) (x := 129) g_X5_50 dX5_stand_96 ?_
      refine y_iload_n (pc := 99) dX5_stand_99 rfl ?_
      refine y_callVv (pc := 100) v_X0_goOn l_X5_119 dX5_stand_100 (c_X0_goOn n _ _) (fun _ h => nomatch h) rfl rc_X0 rfl (by decide) (by decide) (Nat.le_of_ble_eq_true rfl) (fun _ M8 _ => ?_)
      refine y_aload_n (pc := 103) dX5_stand_103 rfl ?_
      refine y_getref (pc := 104) (x := 129) g_X5_50 dX5_stand_104 ?_
      refine y_getref (pc := 107) (x := 22) g_X5_81 dX5_stand_107 ?_
      refine y_iload_n (pc := 110) dX5_stand_110 rfl ?_
      refine y_callVi (pc := 111) v_X4_worthsOf l_X5_156 dX5_stand_111 (c_X4_worthsOf n _ _ _) (fun _ h => nomatch h) rfl (rc_X4 (by decide)) rfl (by decide) (by decide) (Nat.le_of_ble_eq_true rfl) (fun r10 M9 _ => ?_)
      refine y_istore (L' := [some (rv 130), some (iv a1), some (iv a2), some (iv a3), none, some (iv a5), some (iv a6), some (iv a7), some (iv r10)]) (pc := 114) dX5_stand_114 (by decide) rfl rfl ?_
      refine y_iload (pc := 116) dX5_stand_116 rfl ?_
      refine y_iload (pc := 118) dX5_stand_118 rfl ?_
      refine y_gd (fun h11 => ?_)
      refine y_gd (fun h12 => ?_)
      refine y_icmp_le (off := 11) (tgt := 131) (pc := 120) dX5_stand_120 (by decide) h11 h12 (fun h13 => ?_) (fun h13 => ?_)
      · refine y_iinc (L' := [some (rv 130), some (iv a1), some (iv a2), some (iv a3), none, some (iv a5), some (iv a6), some (iv (a7 + 1)), some (iv r10)]) (pc := 131) dX5_stand_131 rfl (by decide) rfl rfl ?_
        refine y_goto (tgt := 63) (pc := 134) dX5_stand_134 (by decide) ?_
        exact y_sub (ls_s (ls_s (ls_s (ls_s (ls_n (ls_s (ls_s (ls_s (ls_n ls_0))))))))) (ih M9 a1 a2 a3 a5 a6 (a7 + 1))
      · refine y_iload (pc := 123) dX5_stand_123 rfl ?_
        refine y_istore (L' := [some (rv 130), some (iv a1), some (iv a2), some (iv a3), none, some (iv a5), some (iv r10), some (iv a7), some (iv r10)]) (pc := 125) dX5_stand_125 (by decide) rfl rfl ?_
        refine y_iload (pc := 127) dX5_stand_127 rfl ?_
        refine y_istore (L' := [some (rv 130), some (iv a1), some (iv a2), some (iv a3), none, some (iv a7), some (iv r10), some (iv a7), some (iv r10)]) (pc := 129) dX5_stand_129 (by decide) rfl rfl ?_
        refine y_iinc (L' := [some (rv 130), some (iv a1), some (iv a2), some (iv a3), none, some (iv a7), some (iv r10), some (iv (a7 + 1)), some (iv r10)]) (pc := 131) dX5_stand_131 rfl (by decide) rfl rfl ?_
        refine y_goto (tgt := 63) (pc := 134) dX5_stand_134 (by decide) ?_
        exact y_sub (ls_s (ls_s (ls_s (ls_s (ls_n (ls_s (ls_s (ls_s (ls_n ls_0))))))))) (ih M9 a1 a2 a3 a7 r10 (a7 + 1))
def m_X5_stand_54 (n : Nat) (M : Mem) (a1 : Int) (a2 : Int) (a3 : Int) : Rs := m_X5_stand_63 n n M a1 a2 a3 (-1) (-1) 0
theorem t_X5_stand_54 (n : Nat) (M : Mem) (a1 : Int) (a2 : Int) (a3 : Int) : Y RX5 cX5_stand 9 5 0 none 54 [some (rv 130), some (iv a1), some (iv a2), some (iv a3), none, none, none, none, none] [] M (m_X5_stand_54 n M a1 a2 a3) := by
  unfold m_X5_stand_54
  refine y_iconst (pc := 54) dX5_stand_54 ?_
  refine y_istore (L' := [some (rv 130), some (iv a1), some (iv a2), some (iv a3), none, some (iv (-1)), none, none, none]) (pc := 55) dX5_stand_55 (by decide) rfl rfl ?_
  refine y_iconst (pc := 57) dX5_stand_57 ?_
  refine y_istore (L' := [some (rv 130), some (iv a1), some (iv a2), some (iv a3), none, some (iv (-1)), some (iv (-1)), none, none]) (pc := 58) dX5_stand_58 (by decide) rfl rfl ?_
  refine y_iconst (pc := 60) dX5_stand_60 ?_
  refine y_istore (L' := [some (rv 130), some (iv a1), some (iv a2), some (iv a3), none, some (iv (-1)), some (iv (-1)), some (iv 0), none]) (pc := 61) dX5_stand_61 (by decide) rfl rfl ?_
  exact y_sub (ls_s (ls_s (ls_s (ls_s (ls_n (ls_s (ls_s (ls_s (ls_n ls_0))))))))) (t_X5_stand_63 n n M a1 a2 a3 (-1) (-1) 0)
def m_X5_stand (n : Nat) (M : Mem) (a1 : Int) (a2 : Int) (a3 : Int) : Rs := bd (m_X4_hasPerson n M 0 a1) (fun r15 M14 => if I32 r15 then (if r15 = 0 then (bd (m_X5_refuse n M14 (-1)) (fun r30 M29 => some (r30, M29))) else (bd (m_X5_outOfRange n M14 a2 0 30) (fun r19 M18 => if I32 r19 then (if r19 = 0 then (if I32 a3 then (if a3 = 0 then (m_X5_stand_54 n M18 a1 a2 a3) else (if a3 = 1 then (m_X5_stand_54 n M18 a1 a2 a3) else (bd (m_X5_refuse n M18 (-2)) (fun r26 M25 => some (r26, M25))))) else none) else (bd (m_X5_refuse n M18 r19) (fun r28 M27 => some (r28, M27)))) else none))) else none)
theorem y_X5_stand (n : Nat) (M : Mem) (a1 : Int) (a2 : Int) (a3 : Int) : Y RX5 cX5_stand 9 5 0 none 0 [some (rv 130), some (iv a1), some (iv a2), some (iv a3), none, none, none, none, none] [] M (m_X5_stand n M a1 a2 a3) := by
  unfold m_X5_stand
  refine y_aload_n (pc := 0) dX5_stand_0 rfl ?_
  refine y_getref (pc := 1) (x := 0) g_X5_10 dX5_stand_1 ?_
  refine y_iload_n (pc := 4) dX5_stand_4 rfl ?_
  refine y_callVi (pc := 5) v_X4_hasPerson l_X5_123 dX5_stand_5 (c_X4_hasPerson n _ _ _) (fun _ h => nomatch h) rfl (rc_X4 (by decide)) rfl (by decide) (by decide) (Nat.le_of_ble_eq_true rfl) (fun r15 M14 _ => ?_)
  refine y_gd (fun h16 => ?_)
  refine y_if_ne (off := 9) (tgt := 17) (pc := 8) dX5_stand_8 (by decide) h16 (fun h17 => ?_) (fun h17 => ?_)
  · refine y_iload_n (pc := 17) dX5_stand_17 rfl ?_
    refine y_iconst (pc := 18) dX5_stand_18 ?_
    refine y_bipush (pc := 19) dX5_stand_19 (by decide) ?_
    refine y_callSi (pc := 21) s_X5_outOfRange l_X5_220 dX5_stand_21 (c_X5_outOfRange n _ _ _ _) (fun _ h => nomatch h) rfl rfl (by decide) (by decide) (Nat.le_of_ble_eq_true rfl) (fun r19 M18 _ => ?_)
    refine y_istore (L' := [some (rv 130), some (iv a1), some (iv a2), some (iv a3), some (iv r19), none, none, none, none]) (pc := 24) dX5_stand_24 (by decide) rfl rfl ?_
    refine y_iload (pc := 26) dX5_stand_26 rfl ?_
    refine y_gd (fun h20 => ?_)
    refine y_if_eq (off := 10) (tgt := 38) (pc := 28) dX5_stand_28 (by decide) h20 (fun h21 => ?_) (fun h21 => ?_)
    · refine y_iload_n (pc := 38) dX5_stand_38 rfl ?_
      refine y_gd (fun h22 => ?_)
      refine y_if_eq (off := 15) (tgt := 54) (pc := 39) dX5_stand_39 (by decide) h22 (fun h23 => ?_) (fun h23 => ?_)
      · exact y_sub (ls_s (ls_s (ls_s (ls_s (ls_n (ls_n (ls_n (ls_n (ls_n ls_0))))))))) (t_X5_stand_54 n M18 a1 a2 a3)
      · refine y_iload_n (pc := 42) dX5_stand_42 rfl ?_
        refine y_iconst (pc := 43) dX5_stand_43 ?_
        refine y_icmp_eq (off := 10) (tgt := 54) (pc := 44) dX5_stand_44 (by decide) h22 (by decide) (fun h24 => ?_) (fun h24 => ?_)
        · exact y_sub (ls_s (ls_s (ls_s (ls_s (ls_n (ls_n (ls_n (ls_n (ls_n ls_0))))))))) (t_X5_stand_54 n M18 a1 a2 a3)
        · refine y_aload_n (pc := 47) dX5_stand_47 rfl ?_
          refine y_bipush (pc := 48) dX5_stand_48 (by decide) ?_
          refine y_callVi (pc := 50) v_X5_refuse l_X5_60 dX5_stand_50 (c_X5_refuse n _ _) (fun _ h => nomatch h) rfl rc_X5 rfl (by decide) (by decide) (Nat.le_of_ble_eq_true rfl) (fun r26 M25 _ => ?_)
          exact y_iret (pc := 53) dX5_stand_53
    · refine y_aload_n (pc := 31) dX5_stand_31 rfl ?_
      refine y_iload (pc := 32) dX5_stand_32 rfl ?_
      refine y_callVi (pc := 34) v_X5_refuse l_X5_60 dX5_stand_34 (c_X5_refuse n _ _) (fun _ h => nomatch h) rfl rc_X5 rfl (by decide) (by decide) (Nat.le_of_ble_eq_true rfl) (fun r28 M27 _ => ?_)
      exact y_iret (pc := 37) dX5_stand_37
  · refine y_aload_n (pc := 11) dX5_stand_11 rfl ?_
    refine y_iconst (pc := 12) dX5_stand_12 ?_
    refine y_callVi (pc := 13) v_X5_refuse l_X5_60 dX5_stand_13 (c_X5_refuse n _ _) (fun _ h => nomatch h) rfl rc_X5 rfl (by decide) (by decide) (Nat.le_of_ble_eq_true rfl) (fun r30 M29 _ => ?_)
    exact y_iret (pc := 16) dX5_stand_16
theorem c_X5_stand (n : Nat) (M : Mem) (a1 : Int) (a2 : Int) (a3 : Int) : ∀ res : Int × Mem, m_X5_stand n M a1 a2 a3 = some res → CTi none yX5_stand cX5_stand 9 (some .int) 5 [rv 130, iv a1, iv a2, iv a3] M res := CTi_of (by decide +kernel) rfl (Nat.le_of_ble_eq_true rfl) rfl (y_X5_stand n M a1 a2 a3)
def m_X5_islands_12 (n : Nat) (M : Mem) : Rs := bd (m_X5_refuse n M (-1)) (fun r2 M1 => some (r2, M1))
theorem t_X5_islands_12 (n : Nat) (M : Mem) : Y RX5 cX5_islands 3 5 0 none 12 [some (rv 130), none, none] [] M (m_X5_islands_12 n M) := by
  unfold m_X5_islands_12
  refine y_aload_n (pc := 12) dX5_islands_12 rfl ?_
  refine y_iconst (pc := 13) dX5_islands_13 ?_
  refine y_callVi (pc := 14) v_X5_refuse l_X5_60 dX5_islands_14 (c_X5_refuse n _ _) (fun _ h => nomatch h) rfl rc_X5 rfl (by decide) (by decide) (Nat.le_of_ble_eq_true rfl) (fun r2 M1 _ => ?_)
  exact y_iret (pc := 17) dX5_islands_17
def m_X5_islands (n : Nat) (M : Mem) (a1 : Int) : Rs := if I32 a1 then (if a1 < (-2) then (m_X5_islands_12 n M) else (if a1 < 24 then (bd (m_X0_begin n M 0) (fun _ M6 => bd (m_X0_foggyCells n M6) (fun r8 M7 => if a1 < 0 then (if a1 = (-1) then (bd (m_X2_howMany n M7 r8) (fun r14 M13 => some (r14, M13))) else (bd (m_X2_greatest n M7 r8) (fun r12 M11 => some (r12, M11)))) else (bd (m_X2_pieceWith n M7 a1 r8) (fun r16 M15 => some (r16, M15)))))) else (m_X5_islands_12 n M))) else none
theorem y_X5_islands (n : Nat) (M : Mem) (a1 : Int) : Y RX5 cX5_islands 3 5 0 none 0 [some (rv 130), some (iv a1), none] [] M (m_X5_islands n M a1) := by
  unfold m_X5_islands
  refine y_iload_n (pc := 0) dX5_islands_0 rfl ?_
  refine y_bipush (pc := 1) dX5_islands_1 (by decide) ?_
  refine y_gd (fun h3 => ?_)
  refine y_icmp_lt (off := 9) (tgt := 12) (pc := 3) dX5_islands_3 (by decide) h3 (by decide) (fun h4 => ?_) (fun h4 => ?_)
  · exact y_sub (ls_s (ls_n (ls_n ls_0))) (t_X5_islands_12 n M)
  · refine y_iload_n (pc := 6) dX5_islands_6 rfl ?_
    refine y_bipush (pc := 7) dX5_islands_7 (by decide) ?_
    refine y_icmp_lt (off := 9) (tgt := 18) (pc := 9) dX5_islands_9 (by decide) h3 (by decide) (fun h5 => ?_) (fun h5 => ?_)
    · refine y_aload_n (pc := 18) dX5_islands_18 rfl ?_
      refine y_getref (pc := 19) (x := 129) g_X5_50 dX5_islands_19 ?_
      refine y_aload_n (pc := 22) dX5_islands_22 rfl ?_
      refine y_getref (pc := 23) (x := 0) g_X5_10 dX5_islands_23 ?_
      refine y_callVv (pc := 26) v_X0_begin l_X5_67 dX5_islands_26 (c_X0_begin n _ _) (fun _ h => nomatch h) rfl rc_X0 rfl (by decide) (by decide) (Nat.le_of_ble_eq_true rfl) (fun _ M6 _ => ?_)
      refine y_aload_n (pc := 29) dX5_islands_29 rfl ?_
      refine y_getref (pc := 30) (x := 129) g_X5_50 dX5_islands_30 ?_
      refine y_callVi (pc := 33) v_X0_foggyCells l_X5_217 dX5_islands_33 (c_X0_foggyCells n _) (fun _ h => nomatch h) rfl rc_X0 rfl (by decide) (by decide) (Nat.le_of_ble_eq_true rfl) (fun r8 M7 _ => ?_)
      refine y_istore_n (L' := [some (rv 130), some (iv a1), some (iv r8)]) (pc := 36) dX5_islands_36 (by decide) rfl rfl ?_
      refine y_iload_n (pc := 37) dX5_islands_37 rfl ?_
      refine y_if_lt (off := 9) (tgt := 47) (pc := 38) dX5_islands_38 (by decide) h3 (fun h9 => ?_) (fun h9 => ?_)
      · refine y_iload_n (pc := 47) dX5_islands_47 rfl ?_
        refine y_iconst (pc := 48) dX5_islands_48 ?_
        refine y_icmp_ne (off := 10) (tgt := 59) (pc := 49) dX5_islands_49 (by decide) h3 (by decide) (fun h10 => ?_) (fun h10 => ?_)
        · refine y_iload_n (pc := 59) dX5_islands_59 rfl ?_
          refine y_callSi (pc := 60) s_X2_greatest l_X5_287 dX5_islands_60 (c_X2_greatest n _ _) (fun _ h => nomatch h) rfl rfl (by decide) (by decide) (Nat.le_of_ble_eq_true rfl) (fun r12 M11 _ => ?_)
          exact y_iret (pc := 63) dX5_islands_63
        · refine y_iload_n (pc := 52) dX5_islands_52 rfl ?_
          refine y_callSi (pc := 53) s_X2_howMany l_X5_284 dX5_islands_53 (c_X2_howMany n _ _) (fun _ h => nomatch h) rfl rfl (by decide) (by decide) (Nat.le_of_ble_eq_true rfl) (fun r14 M13 _ => ?_)
          refine y_goto (tgt := 63) (pc := 56) dX5_islands_56 (by decide) ?_
          exact y_iret (pc := 63) dX5_islands_63
      · refine y_iload_n (pc := 41) dX5_islands_41 rfl ?_
        refine y_iload_n (pc := 42) dX5_islands_42 rfl ?_
        refine y_callSi (pc := 43) s_X2_pieceWith l_X5_279 dX5_islands_43 (c_X2_pieceWith n _ _ _) (fun _ h => nomatch h) rfl rfl (by decide) (by decide) (Nat.le_of_ble_eq_true rfl) (fun r16 M15 _ => ?_)
        exact y_iret (pc := 46) dX5_islands_46
    · exact y_sub (ls_s (ls_n (ls_n ls_0))) (t_X5_islands_12 n M)
theorem c_X5_islands (n : Nat) (M : Mem) (a1 : Int) : ∀ res : Int × Mem, m_X5_islands n M a1 = some res → CTi none yX5_islands cX5_islands 3 (some .int) 5 [rv 130, iv a1] M res := CTi_of (by decide +kernel) rfl (Nat.le_of_ble_eq_true rfl) rfl (y_X5_islands n M a1)
def m_X5_way_14 (n : Nat) (M : Mem) : Rs := bd (m_X5_refuse n M (-1)) (fun r2 M1 => some (r2, M1))
theorem t_X5_way_14 (n : Nat) (M : Mem) : Y RX5 cX5_way 3 5 0 none 14 [some (rv 130), none, none] [] M (m_X5_way_14 n M) := by
  unfold m_X5_way_14
  refine y_aload_n (pc := 14) dX5_way_14 rfl ?_
  refine y_iconst (pc := 15) dX5_way_15 ?_
  refine y_callVi (pc := 16) v_X5_refuse l_X5_60 dX5_way_16 (c_X5_refuse n _ _) (fun _ h => nomatch h) rfl rc_X5 rfl (by decide) (by decide) (Nat.le_of_ble_eq_true rfl) (fun r2 M1 _ => ?_)
  exact y_iret (pc := 19) dX5_way_19
def m_X5_way (n : Nat) (M : Mem) (a1 : Int) (a2 : Int) : Rs := bd (m_X5_isCell n M a1) (fun r4 M3 => if I32 r4 then (if r4 = 0 then (m_X5_way_14 n M3) else (bd (m_X5_isCell n M3 a2) (fun r8 M7 => if I32 r8 then (if r8 = 0 then (m_X5_way_14 n M7) else (bd (m_X0_begin n M7 0) (fun _ M11 => bd (m_X0_foggyCells n M11) (fun r13 M12 => bd (m_X2_steps n M12 a1 a2 r13) (fun r15 M14 => some (r15, M14)))))) else none))) else none)
theorem y_X5_way (n : Nat) (M : Mem) (a1 : Int) (a2 : Int) : Y RX5 cX5_way 3 5 0 none 0 [some (rv 130), some (iv a1), some (iv a2)] [] M (m_X5_way n M a1 a2) := by
  unfold m_X5_way
  refine y_iload_n (pc := 0) dX5_way_0 rfl ?_
  refine y_callSi (pc := 1) s_X5_isCell l_X5_186 dX5_way_1 (c_X5_isCell n _ _) (fun _ h => nomatch h) rfl rfl (by decide) (by decide) (Nat.le_of_ble_eq_true rfl) (fun r4 M3 _ => ?_)
  refine y_gd (fun h5 => ?_)
  refine y_if_eq (off := 10) (tgt := 14) (pc := 4) dX5_way_4 (by decide) h5 (fun h6 => ?_) (fun h6 => ?_)
  · exact y_sub (ls_s (ls_n (ls_n ls_0))) (t_X5_way_14 n M3)
  · refine y_iload_n (pc := 7) dX5_way_7 rfl ?_
    refine y_callSi (pc := 8) s_X5_isCell l_X5_186 dX5_way_8 (c_X5_isCell n _ _) (fun _ h => nomatch h) rfl rfl (by decide) (by decide) (Nat.le_of_ble_eq_true rfl) (fun r8 M7 _ => ?_)
    refine y_gd (fun h9 => ?_)
    refine y_if_ne (off := 9) (tgt := 20) (pc := 11) dX5_way_11 (by decide) h9 (fun h10 => ?_) (fun h10 => ?_)
    · refine y_aload_n (pc := 20) dX5_way_20 rfl ?_
      refine y_getref (pc := 21) (x := 129) g_X5_50 dX5_way_21 ?_
      refine y_aload_n (pc := 24) dX5_way_24 rfl ?_
      refine y_getref (pc := 25) (x := 0) g_X5_10 dX5_way_25 ?_
      refine y_callVv (pc := 28) v_X0_begin l_X5_67 dX5_way_28 (c_X0_begin n _ _) (fun _ h => nomatch h) rfl rc_X0 rfl (by decide) (by decide) (Nat.le_of_ble_eq_true rfl) (fun _ M11 _ => ?_)
      refine y_iload_n (pc := 31) dX5_way_31 rfl ?_
      refine y_iload_n (pc := 32) dX5_way_32 rfl ?_
      refine y_aload_n (pc := 33) dX5_way_33 rfl ?_
      refine y_getref (pc := 34) (x := 129) g_X5_50 dX5_way_34 ?_
      refine y_callVi (pc := 37) v_X0_foggyCells l_X5_217 dX5_way_37 (c_X0_foggyCells n _) (fun _ h => nomatch h) rfl rc_X0 rfl (by decide) (by decide) (Nat.le_of_ble_eq_true rfl) (fun r13 M12 _ => ?_)
      refine y_callSi (pc := 40) s_X2_steps l_X5_295 dX5_way_40 (c_X2_steps n _ _ _ _) (fun _ h => nomatch h) rfl rfl (by decide) (by decide) (Nat.le_of_ble_eq_true rfl) (fun r15 M14 _ => ?_)
      exact y_iret (pc := 43) dX5_way_43
    · exact y_sub (ls_s (ls_n (ls_n ls_0))) (t_X5_way_14 n M7)
theorem c_X5_way (n : Nat) (M : Mem) (a1 : Int) (a2 : Int) : ∀ res : Int × Mem, m_X5_way n M a1 a2 = some res → CTi none yX5_way cX5_way 3 (some .int) 5 [rv 130, iv a1, iv a2] M res := CTi_of (by decide +kernel) rfl (Nat.le_of_ble_eq_true rfl) rfl (y_X5_way n M a1 a2)
def m_X5_crowdedCell_7 (n : Nat) : Nat → Mem → Int → Int → Int → Rs
  | 0, _, _, _, _ => none
  | t + 1, M, a1, a2, a3 => if I32 a3 then (if 24 ≤ a3 then (some (a1, M)) else (bd (m_X4_peopleOn n M 0 a3) (fun r4 M3 => bd (m_J6_bitCount_0f7a4 n M3 r4) (fun r6 M5 => if I32 r6 then (if I32 a2 then (if r6 ≤ a2 then ((m_X5_crowdedCell_7 n t) M5 a1 a2 (a3 + 1)) else ((m_X5_crowdedCell_7 n t) M5 a3 r6 (a3 + 1))) else none) else none)))) else none
theorem t_X5_crowdedCell_7 (n : Nat) : ∀ (t : Nat) (M : Mem) (a1 : Int) (a2 : Int) (a3 : Int), Y RX5 cX5_crowdedCell 5 1 0 none 7 [some (rv 130), some (iv a1), some (iv a2), some (iv a3), none] [] M (m_X5_crowdedCell_7 n t M a1 a2 a3) := by
  intro t
  induction t with
  | zero => intro M a1 a2 a3; exact y_none
  | succ t ih =>
    intro M a1 a2 a3
    rewrite [m_X5_crowdedCell_7]
    refine y_iload_n (pc := 7) dX5_crowdedCell_7 rfl ?_
    refine y_bipush (pc := 8) dX5_crowdedCell_8 (by decide) ?_
    refine y_gd (fun h1 => ?_)
    refine y_icmp_ge (off := 33) (tgt := 43) (pc := 10) dX5_crowdedCell_10 (by decide) h1 (by decide) (fun h2 => ?_) (fun h2 => ?_)
    · refine y_iload_n (pc := 43) dX5_crowdedCell_43 rfl ?_
      exact y_iret (pc := 44) dX5_crowdedCell_44
    · refine y_aload_n (pc := 13) dX5_crowdedCell_13 rfl ?_
      refine y_getref (pc := 14) (x := 0) g_X5_10 dX5_crowdedCell_14 ?_
      refine y_iload_n (pc := 17) dX5_crowdedCell_17 rfl ?_
      refine y_callVi (pc := 18) v_X4_peopleOn l_X5_198 dX5_crowdedCell_18 (c_X4_peopleOn n _ _ _) (fun _ h => nomatch h) rfl (rc_X4 (by decide)) rfl (by decide) (by decide) (Nat.le_of_ble_eq_true rfl) (fun r4 M3 _ => ?_)
      refine y_callSi (pc := 21) s_J6_bitCount_0f7a4 l_X5_242 dX5_crowdedCell_21 (c_J6_bitCount_0f7a4 n _ _) (fun _ h => nomatch h) rfl rfl (by decide) (by decide) (Nat.le_of_ble_eq_true rfl) (fun r6 M5 _ => ?_)
      refine y_istore (L' := [some (rv 130), some (iv a1), some (iv a2), some (iv a3), some (iv r6)]) (pc := 24) dX5_crowdedCell_24 (by decide) rfl rfl ?_
      refine y_iload (pc := 26) dX5_crowdedCell_26 rfl ?_
      refine y_iload_n (pc := 28) dX5_crowdedCell_28 rfl ?_
      refine y_gd (fun h7 => ?_)
      refine y_gd (fun h8 => ?_)
      refine y_icmp_le (off := 8) (tgt := 37) (pc := 29) dX5_crowdedCell_29 (by decide) h7 h8 (fun h9 => ?_) (fun h9 => ?_)
      · refine y_iinc (L' := [some (rv 130), some (iv a1), some (iv a2), some (iv (a3 + 1)), some (iv r6)]) (pc := 37) dX5_crowdedCell_37 rfl (by decide) rfl rfl ?_
        refine y_goto (tgt := 7) (pc := 40) dX5_crowdedCell_40 (by decide) ?_
        exact y_sub (ls_s (ls_s (ls_s (ls_s (ls_n ls_0))))) (ih M5 a1 a2 (a3 + 1))
      · refine y_iload (pc := 32) dX5_crowdedCell_32 rfl ?_
        refine y_istore_n (L' := [some (rv 130), some (iv a1), some (iv r6), some (iv a3), some (iv r6)]) (pc := 34) dX5_crowdedCell_34 (by decide) rfl rfl ?_
        refine y_iload_n (pc := 35) dX5_crowdedCell_35 rfl ?_
        refine y_istore_n (L' := [some (rv 130), some (iv a3), some (iv r6), some (iv a3), some (iv r6)]) (pc := 36) dX5_crowdedCell_36 (by decide) rfl rfl ?_
        refine y_iinc (L' := [some (rv 130), some (iv a3), some (iv r6), some (iv (a3 + 1)), some (iv r6)]) (pc := 37) dX5_crowdedCell_37 rfl (by decide) rfl rfl ?_
        refine y_goto (tgt := 7) (pc := 40) dX5_crowdedCell_40 (by decide) ?_
        exact y_sub (ls_s (ls_s (ls_s (ls_s (ls_n ls_0))))) (ih M5 a3 r6 (a3 + 1))
def m_X5_crowdedCell (n : Nat) (M : Mem) : Rs := m_X5_crowdedCell_7 n n M (-9) 0 0
theorem y_X5_crowdedCell (n : Nat) (M : Mem) : Y RX5 cX5_crowdedCell 5 1 0 none 0 [some (rv 130), none, none, none, none] [] M (m_X5_crowdedCell n M) := by
  unfold m_X5_crowdedCell
  refine y_bipush (pc := 0) dX5_crowdedCell_0 (by decide) ?_
  refine y_istore_n (L' := [some (rv 130), some (iv (-9)), none, none, none]) (pc := 2) dX5_crowdedCell_2 (by decide) rfl rfl ?_
  refine y_iconst (pc := 3) dX5_crowdedCell_3 ?_
  refine y_istore_n (L' := [some (rv 130), some (iv (-9)), some (iv 0), none, none]) (pc := 4) dX5_crowdedCell_4 (by decide) rfl rfl ?_
  refine y_iconst (pc := 5) dX5_crowdedCell_5 ?_
  refine y_istore_n (L' := [some (rv 130), some (iv (-9)), some (iv 0), some (iv 0), none]) (pc := 6) dX5_crowdedCell_6 (by decide) rfl rfl ?_
  exact y_sub (ls_s (ls_s (ls_s (ls_s (ls_n ls_0))))) (t_X5_crowdedCell_7 n n M (-9) 0 0)
theorem c_X5_crowdedCell (n : Nat) (M : Mem) : ∀ res : Int × Mem, m_X5_crowdedCell n M = some res → CTi none yX5_crowdedCell cX5_crowdedCell 5 (some .int) 1 [rv 130] M res := CTi_of (by decide +kernel) rfl (Nat.le_of_ble_eq_true rfl) rfl (y_X5_crowdedCell n M)
def m_X5_hoursAlike_26 (n : Nat) : Nat → Mem → Int → Int → Int → Rs
  | 0, _, _, _, _ => none
  | t + 1, M, a1, a2, a3 => if I32 a3 then (if 60 ≤ a3 then (some (a2, M)) else (bd (m_X0_goOn n M 1) (fun _ M3 => bd (m_X0_foggyCells n M3) (fun r5 M4 => bd (m_J6_bitCount_0f7a4 n M4 r5) (fun r7 M6 => if I32 r7 then (if I32 a1 then (if r7 = a1 then ((m_X5_hoursAlike_26 n t) M6 a1 (a2 + 1) (a3 + 1)) else ((m_X5_hoursAlike_26 n t) M6 a1 a2 (a3 + 1))) else none) else none))))) else none
theorem t_X5_hoursAlike_26 (n : Nat) : ∀ (t : Nat) (M : Mem) (a1 : Int) (a2 : Int) (a3 : Int), Y RX5 cX5_hoursAlike 4 5 0 none 26 [some (rv 130), some (iv a1), some (iv a2), some (iv a3)] [] M (m_X5_hoursAlike_26 n t M a1 a2 a3) := by
  intro t
  induction t with
  | zero => intro M a1 a2 a3; exact y_none
  | succ t ih =>
    intro M a1 a2 a3
    rewrite [m_X5_hoursAlike_26]
    refine y_iload_n (pc := 26) dX5_hoursAlike_26 rfl ?_
    refine y_bipush (pc := 27) dX5_hoursAlike_27 (by decide) ?_
    refine y_gd (fun h1 => ?_)
    refine y_icmp_ge (off := 34) (tgt := 63) (pc := 29) dX5_hoursAlike_29 (by decide) h1 (by decide) (fun h2 => ?_) (fun h2 => ?_)
    · refine y_iload_n (pc := 63) dX5_hoursAlike_63 rfl ?_
      exact y_iret (pc := 64) dX5_hoursAlike_64
    · refine y_aload_n (pc := 32) dX5_hoursAlike_32 rfl ?_
      refine y_getref (pc := 33) (x := 129) g_X5_50 dX5_hoursAlike_33 ?_
      refine y_iconst (pc := 36) dX5_hoursAlike_36 ?_
      refine y_callVv (pc := 37) v_X0_goOn l_X5_119 dX5_hoursAlike_37 (c_X0_goOn n _ _) (fun _ h => nomatch h) rfl rc_X0 rfl (by decide) (by decide) (Nat.le_of_ble_eq_true rfl) (fun _ M3 _ => ?_)
      refine y_aload_n (pc := 40) dX5_hoursAlike_40 rfl ?_
      refine y_getref (pc := 41) (x := 129) g_X5_50 dX5_hoursAlike_41 ?_
      refine y_callVi (pc := 44) v_X0_foggyCells l_X5_217 dX5_hoursAlike_44 (c_X0_foggyCells n _) (fun _ h => nomatch h) rfl rc_X0 rfl (by decide) (by decide) (Nat.le_of_ble_eq_true rfl) (fun r5 M4 _ => ?_)
      refine y_callSi (pc := 47) s_J6_bitCount_0f7a4 l_X5_242 dX5_hoursAlike_47 (c_J6_bitCount_0f7a4 n _ _) (fun _ h => nomatch h) rfl rfl (by decide) (by decide) (Nat.le_of_ble_eq_true rfl) (fun r7 M6 _ => ?_)
      refine y_iload_n (pc := 50) dX5_hoursAlike_50 rfl ?_
      refine y_gd (fun h8 => ?_)
      refine y_gd (fun h9 => ?_)
      refine y_icmp_ne (off := 6) (tgt := 57) (pc := 51) dX5_hoursAlike_51 (by decide) h8 h9 (fun h10 => ?_) (fun h10 => ?_)
      · refine y_iinc (L' := [some (rv 130), some (iv a1), some (iv a2), some (iv (a3 + 1))]) (pc := 57) dX5_hoursAlike_57 rfl (by decide) rfl rfl ?_
        refine y_goto (tgt := 26) (pc := 60) dX5_hoursAlike_60 (by decide) ?_
        exact y_sub (ls_s (ls_s (ls_s (ls_s ls_0)))) (ih M6 a1 a2 (a3 + 1))
      · refine y_iinc (L' := [some (rv 130), some (iv a1), some (iv (a2 + 1)), some (iv a3)]) (pc := 54) dX5_hoursAlike_54 rfl (by decide) rfl rfl ?_
        refine y_iinc (L' := [some (rv 130), some (iv a1), some (iv (a2 + 1)), some (iv (a3 + 1))]) (pc := 57) dX5_hoursAlike_57 rfl (by decide) rfl rfl ?_
        refine y_goto (tgt := 26) (pc := 60) dX5_hoursAlike_60 (by decide) ?_
        exact y_sub (ls_s (ls_s (ls_s (ls_s ls_0)))) (ih M6 a1 (a2 + 1) (a3 + 1))
def m_X5_hoursAlike (n : Nat) (M : Mem) : Rs := bd (m_X0_begin n M 0) (fun _ M11 => bd (m_X0_foggyCells n M11) (fun r13 M12 => bd (m_J6_bitCount_0f7a4 n M12 r13) (fun r15 M14 => m_X5_hoursAlike_26 n n M14 r15 0 0)))
theorem y_X5_hoursAlike (n : Nat) (M : Mem) : Y RX5 cX5_hoursAlike 4 5 0 none 0 [some (rv 130), none, none, none] [] M (m_X5_hoursAlike n M) := by
  unfold m_X5_hoursAlike
  refine y_aload_n (pc := 0) dX5_hoursAlike_0 rfl ?_
  refine y_getref (pc := 1) (x := 129) g_X5_50 dX5_hoursAlike_1 ?_
  refine y_aload_n (pc := 4) dX5_hoursAlike_4 rfl ?_
  refine y_getref (pc := 5) (x := 0) g_X5_10 dX5_hoursAlike_5 ?_
  refine y_callVv (pc := 8) v_X0_begin l_X5_67 dX5_hoursAlike_8 (c_X0_begin n _ _) (fun _ h => nomatch h) rfl rc_X0 rfl (by decide) (by decide) (Nat.le_of_ble_eq_true rfl) (fun _ M11 _ => ?_)
  refine y_aload_n (pc := 11) dX5_hoursAlike_11 rfl ?_
  refine y_getref (pc := 12) (x := 129) g_X5_50 dX5_hoursAlike_12 ?_
  refine y_callVi (pc := 15) v_X0_foggyCells l_X5_217 dX5_hoursAlike_15 (c_X0_foggyCells n _) (fun _ h => nomatch h) rfl rc_X0 rfl (by decide) (by decide) (Nat.le_of_ble_eq_true rfl) (fun r13 M12 _ => ?_)
  refine y_callSi (pc := 18) s_J6_bitCount_0f7a4 l_X5_242 dX5_hoursAlike_18 (c_J6_bitCount_0f7a4 n _ _) (fun _ h => nomatch h) rfl rfl (by decide) (by decide) (Nat.le_of_ble_eq_true rfl) (fun r15 M14 _ => ?_)
  refine y_istore_n (L' := [some (rv 130), some (iv r15), none, none]) (pc := 21) dX5_hoursAlike_21 (by decide) rfl rfl ?_
  refine y_iconst (pc := 22) dX5_hoursAlike_22 ?_
  refine y_istore_n (L' := [some (rv 130), some (iv r15), some (iv 0), none]) (pc := 23) dX5_hoursAlike_23 (by decide) rfl rfl ?_
  refine y_iconst (pc := 24) dX5_hoursAlike_24 ?_
  refine y_istore_n (L' := [some (rv 130), some (iv r15), some (iv 0), some (iv 0)]) (pc := 25) dX5_hoursAlike_25 (by decide) rfl rfl ?_
  exact y_sub (ls_s (ls_s (ls_s (ls_s ls_0)))) (t_X5_hoursAlike_26 n n M14 r15 0 0)
theorem c_X5_hoursAlike (n : Nat) (M : Mem) : ∀ res : Int × Mem, m_X5_hoursAlike n M = some res → CTi none yX5_hoursAlike cX5_hoursAlike 4 (some .int) 5 [rv 130] M res := CTi_of (by decide +kernel) rfl (Nat.le_of_ble_eq_true rfl) rfl (y_X5_hoursAlike n M)
def m_X5_richest_7 (n : Nat) : Nat → Mem → Int → Int → Int → Rs
  | 0, _, _, _, _ => none
  | t + 1, M, a1, a2, a3 => if I32 a3 then (if (rd M 0 12) ≤ a3 then (some (a1, M)) else (bd (m_X4_worthsOf n M 0 a3) (fun r4 M3 => if I32 r4 then (if I32 a2 then (if r4 ≤ a2 then ((m_X5_richest_7 n t) M3 a1 a2 (a3 + 1)) else ((m_X5_richest_7 n t) M3 a3 r4 (a3 + 1))) else none) else none))) else none
theorem t_X5_richest_7 (n : Nat) : ∀ (t : Nat) (M : Mem) (a1 : Int) (a2 : Int) (a3 : Int), Y RX5 cX5_richest 5 1 0 none 7 [some (rv 130), some (iv a1), some (iv a2), some (iv a3), none] [] M (m_X5_richest_7 n t M a1 a2 a3) := by
  intro t
  induction t with
  | zero => intro M a1 a2 a3; exact y_none
  | succ t ih =>
    intro M a1 a2 a3
    rewrite [m_X5_richest_7]
    refine y_iload_n (pc := 7) dX5_richest_7 rfl ?_
    refine y_aload_n (pc := 8) dX5_richest_8 rfl ?_
    refine y_getref (pc := 9) (x := 0) g_X5_10 dX5_richest_9 ?_
    refine y_getint (pc := 12) (g_X5_204 (by decide)) dX5_richest_12 ?_
    refine y_gd (fun h1 => ?_)
    refine y_icmp_ge (off := 30) (tgt := 45) (pc := 15) dX5_richest_15 (by decide) h1 (rd_rng _ _ _) (fun h2 => ?_) (fun h2 => ?_)
    · refine y_iload_n (pc := 45) dX5_richest_45 rfl ?_
      exact y_iret (pc := 46) dX5_richest_46
    · refine y_aload_n (pc := 18) dX5_richest_18 rfl ?_
      refine y_getref (pc := 19) (x := 0) g_X5_10 dX5_richest_19 ?_
      refine y_iload_n (pc := 22) dX5_richest_22 rfl ?_
      refine y_callVi (pc := 23) v_X4_worthsOf l_X5_156 dX5_richest_23 (c_X4_worthsOf n _ _ _) (fun _ h => nomatch h) rfl (rc_X4 (by decide)) rfl (by decide) (by decide) (Nat.le_of_ble_eq_true rfl) (fun r4 M3 _ => ?_)
      refine y_istore (L' := [some (rv 130), some (iv a1), some (iv a2), some (iv a3), some (iv r4)]) (pc := 26) dX5_richest_26 (by decide) rfl rfl ?_
      refine y_iload (pc := 28) dX5_richest_28 rfl ?_
      refine y_iload_n (pc := 30) dX5_richest_30 rfl ?_
      refine y_gd (fun h5 => ?_)
      refine y_gd (fun h6 => ?_)
      refine y_icmp_le (off := 8) (tgt := 39) (pc := 31) dX5_richest_31 (by decide) h5 h6 (fun h7 => ?_) (fun h7 => ?_)
      · refine y_iinc (L' := [some (rv 130), some (iv a1), some (iv a2), some (iv (a3 + 1)), some (iv r4)]) (pc := 39) dX5_richest_39 rfl (by decide) rfl rfl ?_
        refine y_goto (tgt := 7) (pc := 42) dX5_richest_42 (by decide) ?_
        exact y_sub (ls_s (ls_s (ls_s (ls_s (ls_n ls_0))))) (ih M3 a1 a2 (a3 + 1))
      · refine y_iload (pc := 34) dX5_richest_34 rfl ?_
        refine y_istore_n (L' := [some (rv 130), some (iv a1), some (iv r4), some (iv a3), some (iv r4)]) (pc := 36) dX5_richest_36 (by decide) rfl rfl ?_
        refine y_iload_n (pc := 37) dX5_richest_37 rfl ?_
        refine y_istore_n (L' := [some (rv 130), some (iv a3), some (iv r4), some (iv a3), some (iv r4)]) (pc := 38) dX5_richest_38 (by decide) rfl rfl ?_
        refine y_iinc (L' := [some (rv 130), some (iv a3), some (iv r4), some (iv (a3 + 1)), some (iv r4)]) (pc := 39) dX5_richest_39 rfl (by decide) rfl rfl ?_
        refine y_goto (tgt := 7) (pc := 42) dX5_richest_42 (by decide) ?_
        exact y_sub (ls_s (ls_s (ls_s (ls_s (ls_n ls_0))))) (ih M3 a3 r4 (a3 + 1))
def m_X5_richest (n : Nat) (M : Mem) : Rs := m_X5_richest_7 n n M (-9) (-1) 0
theorem y_X5_richest (n : Nat) (M : Mem) : Y RX5 cX5_richest 5 1 0 none 0 [some (rv 130), none, none, none, none] [] M (m_X5_richest n M) := by
  unfold m_X5_richest
  refine y_bipush (pc := 0) dX5_richest_0 (by decide) ?_
  refine y_istore_n (L' := [some (rv 130), some (iv (-9)), none, none, none]) (pc := 2) dX5_richest_2 (by decide) rfl rfl ?_
  refine y_iconst (pc := 3) dX5_richest_3 ?_
  refine y_istore_n (L' := [some (rv 130), some (iv (-9)), some (iv (-1)), none, none]) (pc := 4) dX5_richest_4 (by decide) rfl rfl ?_
  refine y_iconst (pc := 5) dX5_richest_5 ?_
  refine y_istore_n (L' := [some (rv 130), some (iv (-9)), some (iv (-1)), some (iv 0), none]) (pc := 6) dX5_richest_6 (by decide) rfl rfl ?_
  exact y_sub (ls_s (ls_s (ls_s (ls_s (ls_n ls_0))))) (t_X5_richest_7 n n M (-9) (-1) 0)
theorem c_X5_richest (n : Nat) (M : Mem) : ∀ res : Int × Mem, m_X5_richest n M = some res → CTi none yX5_richest cX5_richest 5 (some .int) 1 [rv 130] M res := CTi_of (by decide +kernel) rfl (Nat.le_of_ble_eq_true rfl) rfl (y_X5_richest n M)
def m_X5_wetThings_15 (n : Nat) : Nat → Mem → Int → Int → Rs
  | 0, _, _, _ => none
  | t + 1, M, a1, a2 => if I32 a2 then (if (rd M 0 7) ≤ a2 then (some (a1, M)) else (if 0 ≤ a2 ∧ a2 < 8 then (bd (m_X0_isInFog n M (rd M 5 (Int.toNat a2))) (fun r5 M4 => if I32 r5 then (if r5 = 0 then ((m_X5_wetThings_15 n t) M4 a1 (a2 + 1)) else ((m_X5_wetThings_15 n t) M4 (bOr a1 (bShl 1 a2)) (a2 + 1))) else none)) else none)) else none
theorem t_X5_wetThings_15 (n : Nat) : ∀ (t : Nat) (M : Mem) (a1 : Int) (a2 : Int), Y RX5 cX5_wetThings 3 5 0 none 15 [some (rv 130), some (iv a1), some (iv a2)] [] M (m_X5_wetThings_15 n t M a1 a2) := by
  intro t
  induction t with
  | zero => intro M a1 a2; exact y_none
  | succ t ih =>
    intro M a1 a2
    rewrite [m_X5_wetThings_15]
    refine y_iload_n (pc := 15) dX5_wetThings_15 rfl ?_
    refine y_aload_n (pc := 16) dX5_wetThings_16 rfl ?_
    refine y_getref (pc := 17) (x := 0) g_X5_10 dX5_wetThings_17 ?_
    refine y_getint (pc := 20) (g_X5_207 (by decide)) dX5_wetThings_20 ?_
    refine y_gd (fun h1 => ?_)
    refine y_icmp_ge (off := 34) (tgt := 57) (pc := 23) dX5_wetThings_23 (by decide) h1 (rd_rng _ _ _) (fun h2 => ?_) (fun h2 => ?_)
    · refine y_iload_n (pc := 57) dX5_wetThings_57 rfl ?_
      exact y_iret (pc := 58) dX5_wetThings_58
    · refine y_aload_n (pc := 26) dX5_wetThings_26 rfl ?_
      refine y_getref (pc := 27) (x := 129) g_X5_50 dX5_wetThings_27 ?_
      refine y_aload_n (pc := 30) dX5_wetThings_30 rfl ?_
      refine y_getref (pc := 31) (x := 0) g_X5_10 dX5_wetThings_31 ?_
      refine y_getref (pc := 34) (x := 5) (g_X5_165 (by decide)) dX5_wetThings_34 ?_
      refine y_iload_n (pc := 37) dX5_wetThings_37 rfl ?_
      refine y_gd (fun h3 => ?_)
      refine y_iald (pc := 38) dX5_wetThings_38 ar_5 h3 ?_
      refine y_callVi (pc := 39) v_X0_isInFog l_X5_195 dX5_wetThings_39 (c_X0_isInFog n _ _) (fun _ h => nomatch h) rfl rc_X0 rfl (by decide) (by decide) (Nat.le_of_ble_eq_true rfl) (fun r5 M4 _ => ?_)
      refine y_gd (fun h6 => ?_)
      refine y_if_eq (off := 9) (tgt := 51) (pc := 42) dX5_wetThings_42 (by decide) h6 (fun h7 => ?_) (fun h7 => ?_)
      · refine y_iinc (L' := [some (rv 130), some (iv a1), some (iv (a2 + 1))]) (pc := 51) dX5_wetThings_51 rfl (by decide) rfl rfl ?_
        refine y_goto (tgt := 15) (pc := 54) dX5_wetThings_54 (by decide) ?_
        exact y_sub (ls_s (ls_s (ls_s ls_0))) (ih M4 a1 (a2 + 1))
      · refine y_iload_n (pc := 45) dX5_wetThings_45 rfl ?_
        refine y_iconst (pc := 46) dX5_wetThings_46 ?_
        refine y_iload_n (pc := 47) dX5_wetThings_47 rfl ?_
        refine y_ishl (pc := 48) dX5_wetThings_48 ?_
        refine y_ior (pc := 49) dX5_wetThings_49 ?_
        refine y_istore_n (L' := [some (rv 130), some (iv (bOr a1 (bShl 1 a2))), some (iv a2)]) (pc := 50) dX5_wetThings_50 (by decide) rfl rfl ?_
        refine y_iinc (L' := [some (rv 130), some (iv (bOr a1 (bShl 1 a2))), some (iv (a2 + 1))]) (pc := 51) dX5_wetThings_51 rfl (by decide) rfl rfl ?_
        refine y_goto (tgt := 15) (pc := 54) dX5_wetThings_54 (by decide) ?_
        exact y_sub (ls_s (ls_s (ls_s ls_0))) (ih M4 (bOr a1 (bShl 1 a2)) (a2 + 1))
def m_X5_wetThings (n : Nat) (M : Mem) : Rs := bd (m_X0_begin n M 0) (fun _ M8 => m_X5_wetThings_15 n n M8 0 0)
theorem y_X5_wetThings (n : Nat) (M : Mem) : Y RX5 cX5_wetThings 3 5 0 none 0 [some (rv 130), none, none] [] M (m_X5_wetThings n M) := by
  unfold m_X5_wetThings
  refine y_aload_n (pc := 0) dX5_wetThings_0 rfl ?_
  refine y_getref (pc := 1) (x := 129) g_X5_50 dX5_wetThings_1 ?_
  refine y_aload_n (pc := 4) dX5_wetThings_4 rfl ?_
  refine y_getref (pc := 5) (x := 0) g_X5_10 dX5_wetThings_5 ?_
  refine y_callVv (pc := 8) v_X0_begin l_X5_67 dX5_wetThings_8 (c_X0_begin n _ _) (fun _ h => nomatch h) rfl rc_X0 rfl (by decide) (by decide) (Nat.le_of_ble_eq_true rfl) (fun _ M8 _ => ?_)
  refine y_iconst (pc := 11) dX5_wetThings_11 ?_
  refine y_istore_n (L' := [some (rv 130), some (iv 0), none]) (pc := 12) dX5_wetThings_12 (by decide) rfl rfl ?_
  refine y_iconst (pc := 13) dX5_wetThings_13 ?_
  refine y_istore_n (L' := [some (rv 130), some (iv 0), some (iv 0)]) (pc := 14) dX5_wetThings_14 (by decide) rfl rfl ?_
  exact y_sub (ls_s (ls_s (ls_s ls_0))) (t_X5_wetThings_15 n n M8 0 0)
theorem c_X5_wetThings (n : Nat) (M : Mem) : ∀ res : Int × Mem, m_X5_wetThings n M = some res → CTi none yX5_wetThings cX5_wetThings 3 (some .int) 5 [rv 130] M res := CTi_of (by decide +kernel) rfl (Nat.le_of_ble_eq_true rfl) rfl (y_X5_wetThings n M)
def m_X5_sight (n : Nat) (M : Mem) (a1 : Int) : Rs := if I32 a1 then (if a1 = 0 then (bd (m_X5_richest n M) (fun r4 M3 => some (r4, M3))) else (if a1 = 1 then (bd (m_X4_nobodysThings n M 0) (fun r7 M6 => some (r7, M6))) else (if a1 = 2 then (bd (m_X5_wetThings n M) (fun r10 M9 => some (r10, M9))) else (if a1 = 3 then (bd (m_X5_crowdedCell n M) (fun r13 M12 => some (r13, M12))) else (if a1 = 4 then (bd (m_X5_hoursAlike n M) (fun r16 M15 => some (r16, M15))) else (bd (m_X5_refuse n M (-2)) (fun r18 M17 => some (r18, M17)))))))) else none
theorem y_X5_sight (n : Nat) (M : Mem) (a1 : Int) : Y RX5 cX5_sight 2 6 0 none 0 [some (rv 130), some (iv a1)] [] M (m_X5_sight n M a1) := by
  unfold m_X5_sight
  refine y_iload_n (pc := 0) dX5_sight_0 rfl ?_
  refine y_gd (fun h1 => ?_)
  refine y_br (fun h2 => ?_) (fun h2 => ?_)
  · refine y_tableIn (off := 35) (tgt := 36) (pc := 1) dX5_sight_1 h2 (by decide) (by decide) (by decide) rfl (by decide) ?_
    refine y_aload_n (pc := 36) dX5_sight_36 rfl ?_
    refine y_callVi (pc := 37) v_X5_richest l_X5_298 dX5_sight_37 (c_X5_richest n _) (fun _ h => nomatch h) rfl rc_X5 rfl (by decide) (by decide) (Nat.le_of_ble_eq_true rfl) (fun r4 M3 _ => ?_)
    exact y_iret (pc := 40) dX5_sight_40
  · refine y_br (fun h5 => ?_) (fun h5 => ?_)
    · refine y_tableIn (off := 40) (tgt := 41) (pc := 1) dX5_sight_1 h5 (by decide) (by decide) (by decide) rfl (by decide) ?_
      refine y_aload_n (pc := 41) dX5_sight_41 rfl ?_
      refine y_getref (pc := 42) (x := 0) g_X5_10 dX5_sight_42 ?_
      refine y_callVi (pc := 45) v_X4_nobodysThings l_X5_230 dX5_sight_45 (c_X4_nobodysThings n _ _) (fun _ h => nomatch h) rfl (rc_X4 (by decide)) rfl (by decide) (by decide) (Nat.le_of_ble_eq_true rfl) (fun r7 M6 _ => ?_)
      exact y_iret (pc := 48) dX5_sight_48
    · refine y_br (fun h8 => ?_) (fun h8 => ?_)
      · refine y_tableIn (off := 48) (tgt := 49) (pc := 1) dX5_sight_1 h8 (by decide) (by decide) (by decide) rfl (by decide) ?_
        refine y_aload_n (pc := 49) dX5_sight_49 rfl ?_
        refine y_callVi (pc := 50) v_X5_wetThings l_X5_301 dX5_sight_50 (c_X5_wetThings n _) (fun _ h => nomatch h) rfl rc_X5 rfl (by decide) (by decide) (Nat.le_of_ble_eq_true rfl) (fun r10 M9 _ => ?_)
        exact y_iret (pc := 53) dX5_sight_53
      · refine y_br (fun h11 => ?_) (fun h11 => ?_)
        · refine y_tableIn (off := 53) (tgt := 54) (pc := 1) dX5_sight_1 h11 (by decide) (by decide) (by decide) rfl (by decide) ?_
          refine y_aload_n (pc := 54) dX5_sight_54 rfl ?_
          refine y_callVi (pc := 55) v_X5_crowdedCell l_X5_304 dX5_sight_55 (c_X5_crowdedCell n _) (fun _ h => nomatch h) rfl rc_X5 rfl (by decide) (by decide) (Nat.le_of_ble_eq_true rfl) (fun r13 M12 _ => ?_)
          exact y_iret (pc := 58) dX5_sight_58
        · refine y_br (fun h14 => ?_) (fun h14 => ?_)
          · refine y_tableIn (off := 58) (tgt := 59) (pc := 1) dX5_sight_1 h14 (by decide) (by decide) (by decide) rfl (by decide) ?_
            refine y_aload_n (pc := 59) dX5_sight_59 rfl ?_
            refine y_callVi (pc := 60) v_X5_hoursAlike l_X5_307 dX5_sight_60 (c_X5_hoursAlike n _) (fun _ h => nomatch h) rfl rc_X5 rfl (by decide) (by decide) (Nat.le_of_ble_eq_true rfl) (fun r16 M15 _ => ?_)
            exact y_iret (pc := 63) dX5_sight_63
          · refine y_tableOut (tgt := 64) (pc := 1) dX5_sight_1 h1 (by omega) (by decide) ?_
            refine y_aload_n (pc := 64) dX5_sight_64 rfl ?_
            refine y_bipush (pc := 65) dX5_sight_65 (by decide) ?_
            refine y_callVi (pc := 67) v_X5_refuse l_X5_60 dX5_sight_67 (c_X5_refuse n _ _) (fun _ h => nomatch h) rfl rc_X5 rfl (by decide) (by decide) (Nat.le_of_ble_eq_true rfl) (fun r18 M17 _ => ?_)
            exact y_iret (pc := 70) dX5_sight_70
theorem c_X5_sight (n : Nat) (M : Mem) (a1 : Int) : ∀ res : Int × Mem, m_X5_sight n M a1 = some res → CTi none yX5_sight cX5_sight 2 (some .int) 6 [rv 130, iv a1] M res := CTi_of (by decide +kernel) rfl (Nat.le_of_ble_eq_true rfl) rfl (y_X5_sight n M a1)
def m_X5_image (n : Nat) (M : Mem) : Rs := bd (m_X4_become n M 11 0) (fun _ M1 => wr M1 130 2 1 (fun M2 => some ((rd M2 0 13), M2)))
theorem y_X5_image (n : Nat) (M : Mem) : Y RX5 cX5_image 1 2 0 none 0 [some (rv 130)] [] M (m_X5_image n M) := by
  unfold m_X5_image
  refine y_aload_n (pc := 0) dX5_image_0 rfl ?_
  refine y_getref (pc := 1) (x := 11) g_X5_16 dX5_image_1 ?_
  refine y_aload_n (pc := 4) dX5_image_4 rfl ?_
  refine y_getref (pc := 5) (x := 0) g_X5_10 dX5_image_5 ?_
  refine y_callVv (pc := 8) v_X4_become l_X5_84 dX5_image_8 (c_X4_become n _ _ _) (fun _ h => nomatch h) rfl (rc_X4 (by decide)) rfl (by decide) (by decide) (Nat.le_of_ble_eq_true rfl) (fun _ M1 _ => ?_)
  refine y_aload_n (pc := 11) dX5_image_11 rfl ?_
  refine y_iconst (pc := 12) dX5_image_12 ?_
  refine y_putboolw (pc := 13) pf_X5_19 (by decide) dX5_image_13 (fun M2 => ?_)
  refine y_aload_n (pc := 16) dX5_image_16 rfl ?_
  refine y_getref (pc := 17) (x := 0) g_X5_10 dX5_image_17 ?_
  refine y_getint (pc := 20) (g_X5_116 (by decide)) dX5_image_20 ?_
  exact y_iret (pc := 23) dX5_image_23
theorem c_X5_image (n : Nat) (M : Mem) : ∀ res : Int × Mem, m_X5_image n M = some res → CTi none yX5_image cX5_image 1 (some .int) 2 [rv 130] M res := CTi_of (by decide +kernel) rfl (Nat.le_of_ble_eq_true rfl) rfl (y_X5_image n M)
def m_X5_restore (n : Nat) (M : Mem) : Rs := if (rd M 130 2) = 0 then (bd (m_X5_refuse n M (-3)) (fun r5 M4 => some (r5, M4))) else (bd (m_X4_become n M 0 11) (fun _ M2 => wr M2 130 4 0 (fun M3 => some ((rd M3 0 13), M3))))
theorem y_X5_restore (n : Nat) (M : Mem) : Y RX5 cX5_restore 1 2 0 none 0 [some (rv 130)] [] M (m_X5_restore n M) := by
  unfold m_X5_restore
  refine y_aload_n (pc := 0) dX5_restore_0 rfl ?_
  refine y_getint (pc := 1) g_X5_19 dX5_restore_1 ?_
  refine y_if_ne (off := 10) (tgt := 14) (pc := 4) dX5_restore_4 (by decide) (rd_rng _ _ _) (fun h1 => ?_) (fun h1 => ?_)
  · refine y_aload_n (pc := 14) dX5_restore_14 rfl ?_
    refine y_getref (pc := 15) (x := 0) g_X5_10 dX5_restore_15 ?_
    refine y_aload_n (pc := 18) dX5_restore_18 rfl ?_
    refine y_getref (pc := 19) (x := 11) g_X5_16 dX5_restore_19 ?_
    refine y_callVv (pc := 22) v_X4_become l_X5_84 dX5_restore_22 (c_X4_become n _ _ _) (fun _ h => nomatch h) rfl (rc_X4 (by decide)) rfl (by decide) (by decide) (Nat.le_of_ble_eq_true rfl) (fun _ M2 _ => ?_)
    refine y_aload_n (pc := 25) dX5_restore_25 rfl ?_
    refine y_iconst (pc := 26) dX5_restore_26 ?_
    refine y_putintw (pc := 27) pf_X5_27 dX5_restore_27 (fun M3 => ?_)
    refine y_aload_n (pc := 30) dX5_restore_30 rfl ?_
    refine y_getref (pc := 31) (x := 0) g_X5_10 dX5_restore_31 ?_
    refine y_getint (pc := 34) (g_X5_116 (by decide)) dX5_restore_34 ?_
    exact y_iret (pc := 37) dX5_restore_37
  · refine y_aload_n (pc := 7) dX5_restore_7 rfl ?_
    refine y_bipush (pc := 8) dX5_restore_8 (by decide) ?_
    refine y_callVi (pc := 10) v_X5_refuse l_X5_60 dX5_restore_10 (c_X5_refuse n _ _) (fun _ h => nomatch h) rfl rc_X5 rfl (by decide) (by decide) (Nat.le_of_ble_eq_true rfl) (fun r5 M4 _ => ?_)
    exact y_iret (pc := 13) dX5_restore_13
theorem c_X5_restore (n : Nat) (M : Mem) : ∀ res : Int × Mem, m_X5_restore n M = some res → CTi none yX5_restore cX5_restore 1 (some .int) 2 [rv 130] M res := CTi_of (by decide +kernel) rfl (Nat.le_of_ble_eq_true rfl) rfl (y_X5_restore n M)
def m_L_cell (Ls : Nat) (xs : Nat → Int32) (n : Nat) (M : Mem) (a1 : Int) : Rs := if I32 a1 then (if (Ls : Int) ≤ a1 then (some (((7919 * a1) + 12), M)) else (if 0 ≤ a1 ∧ a1 < (Ls : Int) then (some ((xs (Int.toNat a1)).toInt, M)) else none)) else none
theorem y_L_cell (Ls : Nat) (xs : Nat → Int32) (hLs : Ls < 2147483648) (hLs32 : I32 (Ls : Int)) (n : Nat) (M : Mem) (a1 : Int) : Y RL cL_cell 2 0 0 (some (Ls, xs)) 0 [some (rv 158), some (iv a1)] [] M (m_L_cell Ls xs n M a1) := by
  unfold m_L_cell
  refine y_iload_n (pc := 0) dL_cell_0 rfl ?_
  refine y_aload_n (pc := 1) dL_cell_1 rfl ?_
  refine y_slen (pc := 2) dL_cell_2 rfl ?_
  refine y_gd (fun h1 => ?_)
  refine y_icmp_ge (off := 9) (tgt := 12) (pc := 3) dL_cell_3 (by decide) h1 hLs32 (fun h2 => ?_) (fun h2 => ?_)
  · refine y_sipush (pc := 12) dL_cell_12 (by decide) ?_
    refine y_iload_n (pc := 15) dL_cell_15 rfl ?_
    refine y_imul (pc := 16) dL_cell_16 ?_
    refine y_bipush (pc := 17) dL_cell_17 (by decide) ?_
    refine y_iadd (pc := 19) dL_cell_19 ?_
    exact y_iret (pc := 20) dL_cell_20
  · refine y_aload_n (pc := 6) dL_cell_6 rfl ?_
    refine y_iload_n (pc := 7) dL_cell_7 rfl ?_
    refine y_gd (fun h3 => ?_)
    refine y_sld (pc := 8) dL_cell_8 rfl hLs h3 ?_
    refine y_goto (tgt := 20) (pc := 9) dL_cell_9 (by decide) ?_
    exact y_iret (pc := 20) dL_cell_20
theorem c_L_cell (Ls : Nat) (xs : Nat → Int32) (hLs : Ls < 2147483648) (hLs32 : I32 (Ls : Int)) (n : Nat) (M : Mem) (a1 : Int) : ∀ res : Int × Mem, m_L_cell Ls xs n M a1 = some res → CTi (some (Ls, xs)) yL_cell cL_cell 2 (some .int) 0 [rv 158, iv a1] M res := CTi_of (by decide +kernel) rfl (Nat.le_of_ble_eq_true rfl) rfl (y_L_cell Ls xs hLs hLs32 n M a1)
def m_L_pick (n : Nat) (M : Mem) (a0 : Int) (a1 : Int) : Rs := if I32 (bAnd a0 2147483647) then (if I32 a1 then (if a1 ≠ 0 then (some ((Int.tmod (bAnd a0 2147483647) a1), M)) else none) else none) else none
theorem y_L_pick (n : Nat) (M : Mem) (a0 : Int) (a1 : Int) : Y RL cL_pick 2 0 0 none 0 [some (iv a0), some (iv a1)] [] M (m_L_pick n M a0 a1) := by
  unfold m_L_pick
  refine y_iload_n (pc := 0) dL_pick_0 rfl ?_
  refine y_ldc (pc := 1) (n := 2147483647) k_L_7 (by decide) dL_pick_1 ?_
  refine y_iand (pc := 3) dL_pick_3 ?_
  refine y_iload_n (pc := 4) dL_pick_4 rfl ?_
  refine y_gd (fun h1 => ?_)
  refine y_gd (fun h2 => ?_)
  refine y_gd (fun h3 => ?_)
  refine y_irem (pc := 5) dL_pick_5 h1 h2 h3 ?_
  exact y_iret (pc := 6) dL_pick_6
theorem c_L_pick (n : Nat) (M : Mem) (a0 : Int) (a1 : Int) : ∀ res : Int × Mem, m_L_pick n M a0 a1 = some res → CTi none yL_pick cL_pick 2 (some .int) 0 [iv a0, iv a1] M res := CTi_of (by decide +kernel) rfl (Nat.le_of_ble_eq_true rfl) rfl (y_L_pick n M a0 a1)
end
section
def m_L_coast_218 (Ls : Nat) (xs : Nat → Int32) (n : Nat) : Nat → Mem → Int → Int → Rs
  | 0, _, _, _ => none
  | t + 1, M, a3, a4 => if I32 a4 then (if 3 ≤ a4 then (bd (m_L_cell Ls xs n M 24) (fun r4 M3 => bd (m_L_pick n M3 r4 9) (fun r6 M5 => bd (m_X5_thick n M5 (1 + r6)) (fun r8 M7 => bd (m_L_cell Ls xs n M7 25) (fun r10 M9 => bd (m_L_pick n M9 r10 12) (fun r12 M11 => if I32 r12 then (if r12 ≤ 0 then (some (0, M11)) else (bd (m_X5_hours n M11 r12) (fun r16 M15 => some (0, M15)))) else none)))))) else (bd (m_L_cell Ls xs n M (21 + a4)) (fun r18 M17 => bd (m_X5_count n M17 1) (fun r20 M19 => bd (m_L_pick n M19 r18 r20) (fun r22 M21 => bd (m_L_cell Ls xs n M21 (21 + a4)) (fun r24 M23 => bd (m_L_pick n M23 (bShr r24 3) (a3 + 1)) (fun r26 M25 => bd (m_X5_owns n M25 r22 (r26 - 1)) (fun r28 M27 => bd (m_L_cell Ls xs n M27 (21 + a4)) (fun r30 M29 => bd (m_L_pick n M29 (bShr r30 6) a3) (fun r32 M31 => bd (m_L_cell Ls xs n M31 (21 + a4)) (fun r34 M33 => bd (m_L_pick n M33 (bShr r34 9) 24) (fun r36 M35 => bd (m_X5_stands n M35 r32 r36) (fun r38 M37 => (m_L_coast_218 Ls xs n t) M37 a3 (a4 + 1)))))))))))))) else none
theorem t_L_coast_218 (Ls : Nat) (xs : Nat → Int32) (hLs : Ls < 2147483648) (hLs32 : I32 (Ls : Int)) (n : Nat) : ∀ (t : Nat) (M : Mem) (a3 : Int) (a4 : Int), Y RL cL_coast 5 7 3 (some (Ls, xs)) 218 [some (rv 130), some (rv 158), none, some (iv a3), some (iv a4)] [] M (m_L_coast_218 Ls xs n t M a3 a4) := by
  intro t
  induction t with
  | zero => intro M a3 a4; exact y_none
  | succ t ih =>
    intro M a3 a4
    rewrite [m_L_coast_218]
    refine y_iload (pc := 218) dL_coast_218 rfl ?_
    refine y_iconst (pc := 220) dL_coast_220 ?_
    refine y_gd (fun h1 => ?_)
    refine y_icmp_ge (off := 88) (tgt := 309) (pc := 221) dL_coast_221 (by decide) h1 (by decide) (fun h2 => ?_) (fun h2 => ?_)
    · refine y_aload_n (pc := 309) dL_coast_309 rfl ?_
      refine y_iconst (pc := 310) dL_coast_310 ?_
      refine y_aload_n (pc := 311) dL_coast_311 rfl ?_
      refine y_bipush (pc := 312) dL_coast_312 (by decide) ?_
      refine y_callSi (pc := 314) s_L_cell l_L_27 dL_coast_314 (c_L_cell Ls xs hLs hLs32 n _ _) (fun _ h => h) rfl rfl (by decide) (by decide) (Nat.le_of_ble_eq_true rfl) (fun r4 M3 _ => ?_)
      refine y_bipush (pc := 317) dL_coast_317 (by decide) ?_
      refine y_callSi (pc := 319) s_L_pick l_L_33 dL_coast_319 (c_L_pick n _ _ _) (fun _ h => nomatch h) rfl rfl (by decide) (by decide) (Nat.le_of_ble_eq_true rfl) (fun r6 M5 _ => ?_)
      refine y_iadd (pc := 322) dL_coast_322 ?_
      refine y_callVi (pc := 323) v_X5_thick l_L_56 dL_coast_323 (c_X5_thick n _ _) (fun _ h => nomatch h) rfl rc_X5 rfl (by decide) (by decide) (Nat.le_of_ble_eq_true rfl) (fun r8 M7 _ => ?_)
      refine y_pop (pc := 326) dL_coast_326 rfl ?_
      refine y_aload_n (pc := 327) dL_coast_327 rfl ?_
      refine y_bipush (pc := 328) dL_coast_328 (by decide) ?_
      refine y_callSi (pc := 330) s_L_cell l_L_27 dL_coast_330 (c_L_cell Ls xs hLs hLs32 n _ _) (fun _ h => h) rfl rfl (by decide) (by decide) (Nat.le_of_ble_eq_true rfl) (fun r10 M9 _ => ?_)
      refine y_bipush (pc := 333) dL_coast_333 (by decide) ?_
      refine y_callSi (pc := 335) s_L_pick l_L_33 dL_coast_335 (c_L_pick n _ _ _) (fun _ h => nomatch h) rfl rfl (by decide) (by decide) (Nat.le_of_ble_eq_true rfl) (fun r12 M11 _ => ?_)
      refine y_istore (L' := [some (rv 130), some (rv 158), none, some (iv a3), some (iv r12)]) (pc := 338) dL_coast_338 (by decide) rfl rfl ?_
      refine y_iload (pc := 340) dL_coast_340 rfl ?_
      refine y_gd (fun h13 => ?_)
      refine y_if_le (off := 10) (tgt := 352) (pc := 342) dL_coast_342 (by decide) h13 (fun h14 => ?_) (fun h14 => ?_)
      · exact y_vret (pc := 352) dL_coast_352
      · refine y_aload_n (pc := 345) dL_coast_345 rfl ?_
        refine y_iload (pc := 346) dL_coast_346 rfl ?_
        refine y_callVi (pc := 348) v_X5_hours l_L_59 dL_coast_348 (c_X5_hours n _ _) (fun _ h => nomatch h) rfl rc_X5 rfl (by decide) (by decide) (Nat.le_of_ble_eq_true rfl) (fun r16 M15 _ => ?_)
        refine y_pop (pc := 351) dL_coast_351 rfl ?_
        exact y_vret (pc := 352) dL_coast_352
    · refine y_aload_n (pc := 224) dL_coast_224 rfl ?_
      refine y_aload_n (pc := 225) dL_coast_225 rfl ?_
      refine y_bipush (pc := 226) dL_coast_226 (by decide) ?_
      refine y_iload (pc := 228) dL_coast_228 rfl ?_
      refine y_iadd (pc := 230) dL_coast_230 ?_
      refine y_callSi (pc := 231) s_L_cell l_L_27 dL_coast_231 (c_L_cell Ls xs hLs hLs32 n _ _) (fun _ h => h) rfl rfl (by decide) (by decide) (Nat.le_of_ble_eq_true rfl) (fun r18 M17 _ => ?_)
      refine y_aload_n (pc := 234) dL_coast_234 rfl ?_
      refine y_iconst (pc := 235) dL_coast_235 ?_
      refine y_callVi (pc := 236) v_X5_count l_L_47 dL_coast_236 (c_X5_count n _ _) (fun _ h => nomatch h) rfl rc_X5 rfl (by decide) (by decide) (Nat.le_of_ble_eq_true rfl) (fun r20 M19 _ => ?_)
      refine y_callSi (pc := 239) s_L_pick l_L_33 dL_coast_239 (c_L_pick n _ _ _) (fun _ h => nomatch h) rfl rfl (by decide) (by decide) (Nat.le_of_ble_eq_true rfl) (fun r22 M21 _ => ?_)
      refine y_aload_n (pc := 242) dL_coast_242 rfl ?_
      refine y_bipush (pc := 243) dL_coast_243 (by decide) ?_
      refine y_iload (pc := 245) dL_coast_245 rfl ?_
      refine y_iadd (pc := 247) dL_coast_247 ?_
      refine y_callSi (pc := 248) s_L_cell l_L_27 dL_coast_248 (c_L_cell Ls xs hLs hLs32 n _ _) (fun _ h => h) rfl rfl (by decide) (by decide) (Nat.le_of_ble_eq_true rfl) (fun r24 M23 _ => ?_)
      refine y_iconst (pc := 251) dL_coast_251 ?_
      refine y_ishr (pc := 252) dL_coast_252 ?_
      refine y_iload_n (pc := 253) dL_coast_253 rfl ?_
      refine y_iconst (pc := 254) dL_coast_254 ?_
      refine y_iadd (pc := 255) dL_coast_255 ?_
      refine y_callSi (pc := 256) s_L_pick l_L_33 dL_coast_256 (c_L_pick n _ _ _) (fun _ h => nomatch h) rfl rfl (by decide) (by decide) (Nat.le_of_ble_eq_true rfl) (fun r26 M25 _ => ?_)
      refine y_iconst (pc := 259) dL_coast_259 ?_
      refine y_isub (pc := 260) dL_coast_260 ?_
      refine y_callVi (pc := 261) v_X5_owns l_L_50 dL_coast_261 (c_X5_owns n _ _ _) (fun _ h => nomatch h) rfl rc_X5 rfl (by decide) (by decide) (Nat.le_of_ble_eq_true rfl) (fun r28 M27 _ => ?_)
      refine y_pop (pc := 264) dL_coast_264 rfl ?_
      refine y_aload_n (pc := 265) dL_coast_265 rfl ?_
      refine y_aload_n (pc := 266) dL_coast_266 rfl ?_
      refine y_bipush (pc := 267) dL_coast_267 (by decide) ?_
      refine y_iload (pc := 269) dL_coast_269 rfl ?_
      refine y_iadd (pc := 271) dL_coast_271 ?_
      refine y_callSi (pc := 272) s_L_cell l_L_27 dL_coast_272 (c_L_cell Ls xs hLs hLs32 n _ _) (fun _ h => h) rfl rfl (by decide) (by decide) (Nat.le_of_ble_eq_true rfl) (fun r30 M29 _ => ?_)
      refine y_bipush (pc := 275) dL_coast_275 (by decide) ?_
      refine y_ishr (pc := 277) dL_coast_277 ?_
      refine y_iload_n (pc := 278) dL_coast_278 rfl ?_
      refine y_callSi (pc := 279) s_L_pick l_L_33 dL_coast_279 (c_L_pick n _ _ _) (fun _ h => nomatch h) rfl rfl (by decide) (by decide) (Nat.le_of_ble_eq_true rfl) (fun r32 M31 _ => ?_)
      refine y_aload_n (pc := 282) dL_coast_282 rfl ?_
      refine y_bipush (pc := 283) dL_coast_283 (by decide) ?_
      refine y_iload (pc := 285) dL_coast_285 rfl ?_
      refine y_iadd (pc := 287) dL_coast_287 ?_
      refine y_callSi (pc := 288) s_L_cell l_L_27 dL_coast_288 (c_L_cell Ls xs hLs hLs32 n _ _) (fun _ h => h) rfl rfl (by decide) (by decide) (Nat.le_of_ble_eq_true rfl) (fun r34 M33 _ => ?_)
      refine y_bipush (pc := 291) dL_coast_291 (by decide) ?_
      refine y_ishr (pc := 293) dL_coast_293 ?_
      refine y_bipush (pc := 294) dL_coast_294 (by decide) ?_
      refine y_callSi (pc := 296) s_L_pick l_L_33 dL_coast_296 (c_L_pick n _ _ _) (fun _ h => nomatch h) rfl rfl (by decide) (by decide) (Nat.le_of_ble_eq_true rfl) (fun r36 M35 _ => ?_)
      refine y_callVi (pc := 299) v_X5_stands l_L_53 dL_coast_299 (c_X5_stands n _ _ _) (fun _ h => nomatch h) rfl rc_X5 rfl (by decide) (by decide) (Nat.le_of_ble_eq_true rfl) (fun r38 M37 _ => ?_)
      refine y_pop (pc := 302) dL_coast_302 rfl ?_
      refine y_iinc (L' := [some (rv 130), some (rv 158), none, some (iv a3), some (iv (a4 + 1))]) (pc := 303) dL_coast_303 rfl (by decide) rfl rfl ?_
      refine y_goto (tgt := 218) (pc := 306) dL_coast_306 (by decide) ?_
      exact y_sub (ls_s (ls_s (ls_n (ls_s (ls_s ls_0))))) (ih M37 a3 (a4 + 1))
def m_L_coast_166 (Ls : Nat) (xs : Nat → Int32) (n : Nat) : Nat → Mem → Int → Rs
  | 0, _, _ => none
  | t + 1, M, a3 => if I32 a3 then (if a3 ≤ 0 then (bd (m_X5_count n M 0) (fun r42 M41 => m_L_coast_218 Ls xs n n M41 r42 0)) else (bd (m_L_cell Ls xs n M (13 + a3)) (fun r44 M43 => bd (m_L_pick n M43 r44 10) (fun r46 M45 => bd (m_L_cell Ls xs n M45 (13 + a3)) (fun r48 M47 => bd (m_L_pick n M47 (bShr r48 4) 24) (fun r50 M49 => bd (m_X5_lies n M49 r46 r50) (fun r52 M51 => (m_L_coast_166 Ls xs n t) M51 (a3 + (-1))))))))) else none
theorem t_L_coast_166 (Ls : Nat) (xs : Nat → Int32) (hLs : Ls < 2147483648) (hLs32 : I32 (Ls : Int)) (n : Nat) : ∀ (t : Nat) (M : Mem) (a3 : Int), Y RL cL_coast 5 7 3 (some (Ls, xs)) 166 [some (rv 130), some (rv 158), none, some (iv a3), none] [] M (m_L_coast_166 Ls xs n t M a3) := by
  intro t
  induction t with
  | zero => intro M a3; exact y_none
  | succ t ih =>
    intro M a3
    rewrite [m_L_coast_166]
    refine y_iload_n (pc := 166) dL_coast_166 rfl ?_
    refine y_gd (fun h39 => ?_)
    refine y_if_le (off := 42) (tgt := 209) (pc := 167) dL_coast_167 (by decide) h39 (fun h40 => ?_) (fun h40 => ?_)
    · refine y_aload_n (pc := 209) dL_coast_209 rfl ?_
      refine y_iconst (pc := 210) dL_coast_210 ?_
      refine y_callVi (pc := 211) v_X5_count l_L_47 dL_coast_211 (c_X5_count n _ _) (fun _ h => nomatch h) rfl rc_X5 rfl (by decide) (by decide) (Nat.le_of_ble_eq_true rfl) (fun r42 M41 _ => ?_)
      refine y_istore_n (L' := [some (rv 130), some (rv 158), none, some (iv r42), none]) (pc := 214) dL_coast_214 (by decide) rfl rfl ?_
      refine y_iconst (pc := 215) dL_coast_215 ?_
      refine y_istore (L' := [some (rv 130), some (rv 158), none, some (iv r42), some (iv 0)]) (pc := 216) dL_coast_216 (by decide) rfl rfl ?_
      exact y_sub (ls_s (ls_s (ls_n (ls_s (ls_s ls_0))))) (t_L_coast_218 Ls xs hLs hLs32 n n M41 r42 0)
    · refine y_aload_n (pc := 170) dL_coast_170 rfl ?_
      refine y_aload_n (pc := 171) dL_coast_171 rfl ?_
      refine y_bipush (pc := 172) dL_coast_172 (by decide) ?_
      refine y_iload_n (pc := 174) dL_coast_174 rfl ?_
      refine y_iadd (pc := 175) dL_coast_175 ?_
      refine y_callSi (pc := 176) s_L_cell l_L_27 dL_coast_176 (c_L_cell Ls xs hLs hLs32 n _ _) (fun _ h => h) rfl rfl (by decide) (by decide) (Nat.le_of_ble_eq_true rfl) (fun r44 M43 _ => ?_)
      refine y_bipush (pc := 179) dL_coast_179 (by decide) ?_
      refine y_callSi (pc := 181) s_L_pick l_L_33 dL_coast_181 (c_L_pick n _ _ _) (fun _ h => nomatch h) rfl rfl (by decide) (by decide) (Nat.le_of_ble_eq_true rfl) (fun r46 M45 _ => ?_)
      refine y_aload_n (pc := 184) dL_coast_184 rfl ?_
      refine y_bipush (pc := 185) dL_coast_185 (by decide) ?_
      refine y_iload_n (pc := 187) dL_coast_187 rfl ?_
      refine y_iadd (pc := 188) dL_coast_188 ?_
      refine y_callSi (pc := 189) s_L_cell l_L_27 dL_coast_189 (c_L_cell Ls xs hLs hLs32 n _ _) (fun _ h => h) rfl rfl (by decide) (by decide) (Nat.le_of_ble_eq_true rfl) (fun r48 M47 _ => ?_)
      refine y_iconst (pc := 192) dL_coast_192 ?_
      refine y_ishr (pc := 193) dL_coast_193 ?_
      refine y_bipush (pc := 194) dL_coast_194 (by decide) ?_
      refine y_callSi (pc := 196) s_L_pick l_L_33 dL_coast_196 (c_L_pick n _ _ _) (fun _ h => nomatch h) rfl rfl (by decide) (by decide) (Nat.le_of_ble_eq_true rfl) (fun r50 M49 _ => ?_)
      refine y_callVi (pc := 199) v_X5_lies l_L_44 dL_coast_199 (c_X5_lies n _ _ _) (fun _ h => nomatch h) rfl rc_X5 rfl (by decide) (by decide) (Nat.le_of_ble_eq_true rfl) (fun r52 M51 _ => ?_)
      refine y_pop (pc := 202) dL_coast_202 rfl ?_
      refine y_iinc (L' := [some (rv 130), some (rv 158), none, some (iv (a3 + (-1))), none]) (pc := 203) dL_coast_203 rfl (by decide) rfl rfl ?_
      refine y_goto (tgt := 166) (pc := 206) dL_coast_206 (by decide) ?_
      exact y_sub (ls_s (ls_s (ls_n (ls_s (ls_n ls_0))))) (ih M51 (a3 + (-1)))
def m_L_coast_93 (Ls : Nat) (xs : Nat → Int32) (n : Nat) : Nat → Mem → Int → Rs
  | 0, _, _ => none
  | t + 1, M, a3 => if I32 a3 then (if a3 ≤ 0 then (bd (m_L_cell Ls xs n M 13) (fun r56 M55 => bd (m_L_pick n M55 r56 7) (fun r58 M57 => m_L_coast_166 Ls xs n n M57 (1 + r58)))) else (bd (m_L_cell Ls xs n M (7 + a3)) (fun r60 M59 => bd (m_L_pick n M59 r60 8) (fun r62 M61 => bd (m_L_cell Ls xs n M61 (7 + a3)) (fun r64 M63 => bd (m_L_pick n M63 (bShr r64 3) 10) (fun r66 M65 => bd (m_L_cell Ls xs n M65 (7 + a3)) (fun r68 M67 => bd (m_L_pick n M67 (bShr r68 7) 24) (fun r70 M69 => bd (m_X5_comes n M69 r62 r66 r70) (fun r72 M71 => (m_L_coast_93 Ls xs n t) M71 (a3 + (-1))))))))))) else none
theorem t_L_coast_93 (Ls : Nat) (xs : Nat → Int32) (hLs : Ls < 2147483648) (hLs32 : I32 (Ls : Int)) (n : Nat) : ∀ (t : Nat) (M : Mem) (a3 : Int), Y RL cL_coast 5 7 3 (some (Ls, xs)) 93 [some (rv 130), some (rv 158), none, some (iv a3), none] [] M (m_L_coast_93 Ls xs n t M a3) := by
  intro t
  induction t with
  | zero => intro M a3; exact y_none
  | succ t ih =>
    intro M a3
    rewrite [m_L_coast_93]
    refine y_iload_n (pc := 93) dL_coast_93 rfl ?_
    refine y_gd (fun h53 => ?_)
    refine y_if_le (off := 58) (tgt := 152) (pc := 94) dL_coast_94 (by decide) h53 (fun h54 => ?_) (fun h54 => ?_)
    · refine y_iconst (pc := 152) dL_coast_152 ?_
      refine y_aload_n (pc := 153) dL_coast_153 rfl ?_
      refine y_bipush (pc := 154) dL_coast_154 (by decide) ?_
      refine y_callSi (pc := 156) s_L_cell l_L_27 dL_coast_156 (c_L_cell Ls xs hLs hLs32 n _ _) (fun _ h => h) rfl rfl (by decide) (by decide) (Nat.le_of_ble_eq_true rfl) (fun r56 M55 _ => ?_)
      refine y_bipush (pc := 159) dL_coast_159 (by decide) ?_
      refine y_callSi (pc := 161) s_L_pick l_L_33 dL_coast_161 (c_L_pick n _ _ _) (fun _ h => nomatch h) rfl rfl (by decide) (by decide) (Nat.le_of_ble_eq_true rfl) (fun r58 M57 _ => ?_)
      refine y_iadd (pc := 164) dL_coast_164 ?_
      refine y_istore_n (L' := [some (rv 130), some (rv 158), none, some (iv (1 + r58)), none]) (pc := 165) dL_coast_165 (by decide) rfl rfl ?_
      exact y_sub (ls_s (ls_s (ls_n (ls_s (ls_n ls_0))))) (t_L_coast_166 Ls xs hLs hLs32 n n M57 (1 + r58))
    · refine y_aload_n (pc := 97) dL_coast_97 rfl ?_
      refine y_aload_n (pc := 98) dL_coast_98 rfl ?_
      refine y_bipush (pc := 99) dL_coast_99 (by decide) ?_
      refine y_iload_n (pc := 101) dL_coast_101 rfl ?_
      refine y_iadd (pc := 102) dL_coast_102 ?_
      refine y_callSi (pc := 103) s_L_cell l_L_27 dL_coast_103 (c_L_cell Ls xs hLs hLs32 n _ _) (fun _ h => h) rfl rfl (by decide) (by decide) (Nat.le_of_ble_eq_true rfl) (fun r60 M59 _ => ?_)
      refine y_bipush (pc := 106) dL_coast_106 (by decide) ?_
      refine y_callSi (pc := 108) s_L_pick l_L_33 dL_coast_108 (c_L_pick n _ _ _) (fun _ h => nomatch h) rfl rfl (by decide) (by decide) (Nat.le_of_ble_eq_true rfl) (fun r62 M61 _ => ?_)
      refine y_aload_n (pc := 111) dL_coast_111 rfl ?_
      refine y_bipush (pc := 112) dL_coast_112 (by decide) ?_
      refine y_iload_n (pc := 114) dL_coast_114 rfl ?_
      refine y_iadd (pc := 115) dL_coast_115 ?_
      refine y_callSi (pc := 116) s_L_cell l_L_27 dL_coast_116 (c_L_cell Ls xs hLs hLs32 n _ _) (fun _ h => h) rfl rfl (by decide) (by decide) (Nat.le_of_ble_eq_true rfl) (fun r64 M63 _ => ?_)
      refine y_iconst (pc := 119) dL_coast_119 ?_
      refine y_ishr (pc := 120) dL_coast_120 ?_
      refine y_bipush (pc := 121) dL_coast_121 (by decide) ?_
      refine y_callSi (pc := 123) s_L_pick l_L_33 dL_coast_123 (c_L_pick n _ _ _) (fun _ h => nomatch h) rfl rfl (by decide) (by decide) (Nat.le_of_ble_eq_true rfl) (fun r66 M65 _ => ?_)
      refine y_aload_n (pc := 126) dL_coast_126 rfl ?_
      refine y_bipush (pc := 127) dL_coast_127 (by decide) ?_
      refine y_iload_n (pc := 129) dL_coast_129 rfl ?_
      refine y_iadd (pc := 130) dL_coast_130 ?_
      refine y_callSi (pc := 131) s_L_cell l_L_27 dL_coast_131 (c_L_cell Ls xs hLs hLs32 n _ _) (fun _ h => h) rfl rfl (by decide) (by decide) (Nat.le_of_ble_eq_true rfl) (fun r68 M67 _ => ?_)
      refine y_bipush (pc := 134) dL_coast_134 (by decide) ?_
      refine y_ishr (pc := 136) dL_coast_136 ?_
      refine y_bipush (pc := 137) dL_coast_137 (by decide) ?_
      refine y_callSi (pc := 139) s_L_pick l_L_33 dL_coast_139 (c_L_pick n _ _ _) (fun _ h => nomatch h) rfl rfl (by decide) (by decide) (Nat.le_of_ble_eq_true rfl) (fun r70 M69 _ => ?_)
      refine y_callVi (pc := 142) v_X5_comes l_L_41 dL_coast_142 (c_X5_comes n _ _ _ _) (fun _ h => nomatch h) rfl rc_X5 rfl (by decide) (by decide) (Nat.le_of_ble_eq_true rfl) (fun r72 M71 _ => ?_)
      refine y_pop (pc := 145) dL_coast_145 rfl ?_
      refine y_iinc (L' := [some (rv 130), some (rv 158), none, some (iv (a3 + (-1))), none]) (pc := 146) dL_coast_146 rfl (by decide) rfl rfl ?_
      refine y_goto (tgt := 93) (pc := 149) dL_coast_149 (by decide) ?_
      exact y_sub (ls_s (ls_s (ls_n (ls_s (ls_n ls_0))))) (ih M71 (a3 + (-1)))
def m_L_coast_67 (Ls : Nat) (xs : Nat → Int32) (n : Nat) (k11 : Mem → Int → Int → Rs) (M : Mem) (a2 : Int) (a3 : Int) (s0 : Int) (s1 : Int) (s2 : Int) (s3 : Int) : Rs := bd (m_L_pick n M s1 s0) (fun r74 M73 => bd (m_X5_blows n M73 s3 s2 r74) (fun r76 M75 => k11 M75 a2 (a3 + (-1))))
theorem t_L_coast_67 (Ls : Nat) (xs : Nat → Int32) (hLs : Ls < 2147483648) (hLs32 : I32 (Ls : Int)) (n : Nat) (k11 : Mem → Int → Int → Rs) (hk11 : ∀ (M : Mem) (a2 : Int) (a3 : Int), Y RL cL_coast 5 7 3 (some (Ls, xs)) 11 [some (rv 130), some (rv 158), some (iv a2), some (iv a3), none] [] M (k11 M a2 a3)) (M : Mem) (a2 : Int) (a3 : Int) (s0 : Int) (s1 : Int) (s2 : Int) (s3 : Int) : Y RL cL_coast 5 7 3 (some (Ls, xs)) 67 [some (rv 130), some (rv 158), some (iv a2), some (iv a3), none] [iv s0, iv s1, iv s2, iv s3, rv 130] M (m_L_coast_67 Ls xs n k11 M a2 a3 s0 s1 s2 s3) := by
  unfold m_L_coast_67
  refine y_callSi (pc := 67) s_L_pick l_L_33 dL_coast_67 (c_L_pick n _ _ _) (fun _ h => nomatch h) rfl rfl (by decide) (by decide) (Nat.le_of_ble_eq_true rfl) (fun r74 M73 _ => ?_)
  refine y_callVi (pc := 70) v_X5_blows l_L_37 dL_coast_70 (c_X5_blows n _ _ _ _) (fun _ h => nomatch h) rfl rc_X5 rfl (by decide) (by decide) (Nat.le_of_ble_eq_true rfl) (fun r76 M75 _ => ?_)
  refine y_pop (pc := 73) dL_coast_73 rfl ?_
  refine y_iinc (L' := [some (rv 130), some (rv 158), some (iv a2), some (iv (a3 + (-1))), none]) (pc := 74) dL_coast_74 rfl (by decide) rfl rfl ?_
  refine y_goto (tgt := 11) (pc := 77) dL_coast_77 (by decide) ?_
  exact y_sub (ls_s (ls_s (ls_s (ls_s (ls_n ls_0))))) (hk11 M75 a2 (a3 + (-1)))
def m_L_coast_11 (Ls : Nat) (xs : Nat → Int32) (n : Nat) : Nat → Mem → Int → Int → Rs
  | 0, _, _, _ => none
  | t + 1, M, a2, a3 => if I32 a3 then (if a3 ≤ 0 then (bd (m_L_cell Ls xs n M 7) (fun r80 M79 => bd (m_L_pick n M79 r80 a2) (fun r82 M81 => m_L_coast_93 Ls xs n n M81 (1 + r82)))) else (bd (m_L_cell Ls xs n M a3) (fun r84 M83 => bd (m_L_pick n M83 r84 7) (fun r86 M85 => bd (m_L_cell Ls xs n M85 a3) (fun r88 M87 => bd (m_L_pick n M87 (bShr r88 3) 10) (fun r90 M89 => bd (m_L_cell Ls xs n M89 a3) (fun r92 M91 => bd (m_L_cell Ls xs n M91 a3) (fun r94 M93 => bd (m_L_pick n M93 (bShr r94 12) 2) (fun r96 M95 => if I32 r96 then (if r96 = 0 then (m_L_coast_67 Ls xs n (m_L_coast_11 Ls xs n t) M95 a2 a3 10 (bShr r92 7) r90 r86) else (m_L_coast_67 Ls xs n (m_L_coast_11 Ls xs n t) M95 a2 a3 4 (bShr r92 7) r90 r86)) else none))))))))) else none
theorem t_L_coast_11 (Ls : Nat) (xs : Nat → Int32) (hLs : Ls < 2147483648) (hLs32 : I32 (Ls : Int)) (n : Nat) : ∀ (t : Nat) (M : Mem) (a2 : Int) (a3 : Int), Y RL cL_coast 5 7 3 (some (Ls, xs)) 11 [some (rv 130), some (rv 158), some (iv a2), some (iv a3), none] [] M (m_L_coast_11 Ls xs n t M a2 a3) := by
  intro t
  induction t with
  | zero => intro M a2 a3; exact y_none
  | succ t ih =>
    intro M a2 a3
    rewrite [m_L_coast_11]
    refine y_iload_n (pc := 11) dL_coast_11 rfl ?_
    refine y_gd (fun h77 => ?_)
    refine y_if_le (off := 68) (tgt := 80) (pc := 12) dL_coast_12 (by decide) h77 (fun h78 => ?_) (fun h78 => ?_)
    · refine y_iconst (pc := 80) dL_coast_80 ?_
      refine y_aload_n (pc := 81) dL_coast_81 rfl ?_
      refine y_bipush (pc := 82) dL_coast_82 (by decide) ?_
      refine y_callSi (pc := 84) s_L_cell l_L_27 dL_coast_84 (c_L_cell Ls xs hLs hLs32 n _ _) (fun _ h => h) rfl rfl (by decide) (by decide) (Nat.le_of_ble_eq_true rfl) (fun r80 M79 _ => ?_)
      refine y_iload_n (pc := 87) dL_coast_87 rfl ?_
      refine y_callSi (pc := 88) s_L_pick l_L_33 dL_coast_88 (c_L_pick n _ _ _) (fun _ h => nomatch h) rfl rfl (by decide) (by decide) (Nat.le_of_ble_eq_true rfl) (fun r82 M81 _ => ?_)
      refine y_iadd (pc := 91) dL_coast_91 ?_
      refine y_istore_n (L' := [some (rv 130), some (rv 158), some (iv a2), some (iv (1 + r82)), none]) (pc := 92) dL_coast_92 (by decide) rfl rfl ?_
      exact y_sub (ls_s (ls_s (ls_n (ls_s (ls_n ls_0))))) (t_L_coast_93 Ls xs hLs hLs32 n n M81 (1 + r82))
    · refine y_aload_n (pc := 15) dL_coast_15 rfl ?_
      refine y_aload_n (pc := 16) dL_coast_16 rfl ?_
      refine y_iload_n (pc := 17) dL_coast_17 rfl ?_
      refine y_callSi (pc := 18) s_L_cell l_L_27 dL_coast_18 (c_L_cell Ls xs hLs hLs32 n _ _) (fun _ h => h) rfl rfl (by decide) (by decide) (Nat.le_of_ble_eq_true rfl) (fun r84 M83 _ => ?_)
      refine y_bipush (pc := 21) dL_coast_21 (by decide) ?_
      refine y_callSi (pc := 23) s_L_pick l_L_33 dL_coast_23 (c_L_pick n _ _ _) (fun _ h => nomatch h) rfl rfl (by decide) (by decide) (Nat.le_of_ble_eq_true rfl) (fun r86 M85 _ => ?_)
      refine y_aload_n (pc := 26) dL_coast_26 rfl ?_
      refine y_iload_n (pc := 27) dL_coast_27 rfl ?_
      refine y_callSi (pc := 28) s_L_cell l_L_27 dL_coast_28 (c_L_cell Ls xs hLs hLs32 n _ _) (fun _ h => h) rfl rfl (by decide) (by decide) (Nat.le_of_ble_eq_true rfl) (fun r88 M87 _ => ?_)
      refine y_iconst (pc := 31) dL_coast_31 ?_
      refine y_ishr (pc := 32) dL_coast_32 ?_
      refine y_bipush (pc := 33) dL_coast_33 (by decide) ?_
      refine y_callSi (pc := 35) s_L_pick l_L_33 dL_coast_35 (c_L_pick n _ _ _) (fun _ h => nomatch h) rfl rfl (by decide) (by decide) (Nat.le_of_ble_eq_true rfl) (fun r90 M89 _ => ?_)
      refine y_aload_n (pc := 38) dL_coast_38 rfl ?_
      refine y_iload_n (pc := 39) dL_coast_39 rfl ?_
      refine y_callSi (pc := 40) s_L_cell l_L_27 dL_coast_40 (c_L_cell Ls xs hLs hLs32 n _ _) (fun _ h => h) rfl rfl (by decide) (by decide) (Nat.le_of_ble_eq_true rfl) (fun r92 M91 _ => ?_)
      refine y_bipush (pc := 43) dL_coast_43 (by decide) ?_
      refine y_ishr (pc := 45) dL_coast_45 ?_
      refine y_aload_n (pc := 46) dL_coast_46 rfl ?_
      refine y_iload_n (pc := 47) dL_coast_47 rfl ?_
      refine y_callSi (pc := 48) s_L_cell l_L_27 dL_coast_48 (c_L_cell Ls xs hLs hLs32 n _ _) (fun _ h => h) rfl rfl (by decide) (by decide) (Nat.le_of_ble_eq_true rfl) (fun r94 M93 _ => ?_)
      refine y_bipush (pc := 51) dL_coast_51 (by decide) ?_
      refine y_ishr (pc := 53) dL_coast_53 ?_
      refine y_iconst (pc := 54) dL_coast_54 ?_
      refine y_callSi (pc := 55) s_L_pick l_L_33 dL_coast_55 (c_L_pick n _ _ _) (fun _ h => nomatch h) rfl rfl (by decide) (by decide) (Nat.le_of_ble_eq_true rfl) (fun r96 M95 _ => ?_)
      refine y_gd (fun h97 => ?_)
      refine y_if_ne (off := 8) (tgt := 66) (pc := 58) dL_coast_58 (by decide) h97 (fun h98 => ?_) (fun h98 => ?_)
      · refine y_iconst (pc := 66) dL_coast_66 ?_
        exact y_sub (ls_s (ls_s (ls_s (ls_s (ls_n ls_0))))) (t_L_coast_67 Ls xs hLs hLs32 n (m_L_coast_11 Ls xs n t) ih M95 a2 a3 4 (bShr r92 7) r90 r86)
      · refine y_bipush (pc := 61) dL_coast_61 (by decide) ?_
        refine y_goto (tgt := 67) (pc := 63) dL_coast_63 (by decide) ?_
        exact y_sub (ls_s (ls_s (ls_s (ls_s (ls_n ls_0))))) (t_L_coast_67 Ls xs hLs hLs32 n (m_L_coast_11 Ls xs n t) ih M95 a2 a3 10 (bShr r92 7) r90 r86)
def m_L_coast (Ls : Nat) (xs : Nat → Int32) (n : Nat) (M : Mem) (a2 : Int) : Rs := bd (m_L_cell Ls xs n M 0) (fun r100 M99 => bd (m_L_pick n M99 r100 6) (fun r102 M101 => m_L_coast_11 Ls xs n n M101 a2 r102))
theorem y_L_coast (Ls : Nat) (xs : Nat → Int32) (hLs : Ls < 2147483648) (hLs32 : I32 (Ls : Int)) (n : Nat) (M : Mem) (a2 : Int) : Y RL cL_coast 5 7 3 (some (Ls, xs)) 0 [some (rv 130), some (rv 158), some (iv a2), none, none] [] M (m_L_coast Ls xs n M a2) := by
  unfold m_L_coast
  refine y_aload_n (pc := 0) dL_coast_0 rfl ?_
  refine y_iconst (pc := 1) dL_coast_1 ?_
  refine y_callSi (pc := 2) s_L_cell l_L_27 dL_coast_2 (c_L_cell Ls xs hLs hLs32 n _ _) (fun _ h => h) rfl rfl (by decide) (by decide) (Nat.le_of_ble_eq_true rfl) (fun r100 M99 _ => ?_)
  refine y_bipush (pc := 5) dL_coast_5 (by decide) ?_
  refine y_callSi (pc := 7) s_L_pick l_L_33 dL_coast_7 (c_L_pick n _ _ _) (fun _ h => nomatch h) rfl rfl (by decide) (by decide) (Nat.le_of_ble_eq_true rfl) (fun r102 M101 _ => ?_)
  refine y_istore_n (L' := [some (rv 130), some (rv 158), some (iv a2), some (iv r102), none]) (pc := 10) dL_coast_10 (by decide) rfl rfl ?_
  exact y_sub (ls_s (ls_s (ls_s (ls_s (ls_n ls_0))))) (t_L_coast_11 Ls xs hLs hLs32 n n M101 a2 r102)
theorem c_L_coast (Ls : Nat) (xs : Nat → Int32) (hLs : Ls < 2147483648) (hLs32 : I32 (Ls : Int)) (n : Nat) (M : Mem) (a2 : Int) : ∀ res : Int × Mem, m_L_coast Ls xs n M a2 = some res → CTv (some (Ls, xs)) yL_coast cL_coast 5 7 [rv 130, rv 158, iv a2] M res := CTv_of (by decide +kernel) rfl (Nat.le_of_ble_eq_true rfl) rfl (y_L_coast Ls xs hLs hLs32 n M a2)
end
