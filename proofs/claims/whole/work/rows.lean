section
-- ===== PART A: goes FIRST, ahead of the names: the tables' words, and 'selects' of the private methods out of them =====
/-- a private method of a class that the tables say can be made, by its rows of tables_1 -/
def lw_okq (q : MethodName × Nat) : Prop := (q.1.cls ≠ "java/lang/invoke/MethodHandle" ∧ q.1.cls ≠ "java/lang/invoke/VarHandle") ∧ Cond.instantiable q.1.cls q.2 ∈ tables_1 ∧ Cond.privateMethod q.1 ∈ tables_1 ∧ Cond.instanceMethod q.1 ∈ tables_1
theorem lw_p0 : lw_okq (⟨"PaintBox", "inPots", "(I)I"⟩, 12) := ⟨⟨by decide +kernel, by decide +kernel⟩, List.mem_of_getElem? (i := 19) (by decide +kernel), List.mem_of_getElem? (i := 356) (by decide +kernel), List.mem_of_getElem? (i := 357) (by decide +kernel)⟩
theorem lw_p1 : lw_okq (⟨"PaintBox", "potAt", "(I)LPaintBox$Mixture;"⟩, 12) := ⟨⟨by decide +kernel, by decide +kernel⟩, List.mem_of_getElem? (i := 19) (by decide +kernel), List.mem_of_getElem? (i := 401) (by decide +kernel), List.mem_of_getElem? (i := 402) (by decide +kernel)⟩
theorem lw_p2 : lw_okq (⟨"PaintBox", "areaAt", "(I)LPaintBox$Area;"⟩, 12) := ⟨⟨by decide +kernel, by decide +kernel⟩, List.mem_of_getElem? (i := 19) (by decide +kernel), List.mem_of_getElem? (i := 508) (by decide +kernel), List.mem_of_getElem? (i := 509) (by decide +kernel)⟩
theorem lw_p3 : lw_okq (⟨"PaintBox", "sendFrom", "(LPaintBox$Area;I)V"⟩, 12) := ⟨⟨by decide +kernel, by decide +kernel⟩, List.mem_of_getElem? (i := 19) (by decide +kernel), List.mem_of_getElem? (i := 582) (by decide +kernel), List.mem_of_getElem? (i := 583) (by decide +kernel)⟩
theorem lw_p4 : lw_okq (⟨"PaintBox$Glazing", "readThin", "(ILPaintBox$Tube;)V"⟩, 8) := ⟨⟨by decide +kernel, by decide +kernel⟩, List.mem_of_getElem? (i := 180) (by decide +kernel), List.mem_of_getElem? (i := 705) (by decide +kernel), List.mem_of_getElem? (i := 706) (by decide +kernel)⟩
theorem lw_p5 : lw_okq (⟨"PaintBox$Glazing", "layOn", "(LPaintBox$Light;II)V"⟩, 8) := ⟨⟨by decide +kernel, by decide +kernel⟩, List.mem_of_getElem? (i := 180) (by decide +kernel), List.mem_of_getElem? (i := 715) (by decide +kernel), List.mem_of_getElem? (i := 716) (by decide +kernel)⟩
theorem lw_p6 : lw_okq (⟨"PaintBox$Glazing", "thicken", "(LPaintBox$Light;[III)V"⟩, 8) := ⟨⟨by decide +kernel, by decide +kernel⟩, List.mem_of_getElem? (i := 180) (by decide +kernel), List.mem_of_getElem? (i := 719) (by decide +kernel), List.mem_of_getElem? (i := 720) (by decide +kernel)⟩
theorem lw_p7 : lw_okq (⟨"PaintBox$Glazing", "weigh", "(LPaintBox$Light;I)V"⟩, 8) := ⟨⟨by decide +kernel, by decide +kernel⟩, List.mem_of_getElem? (i := 180) (by decide +kernel), List.mem_of_getElem? (i := 724) (by decide +kernel), List.mem_of_getElem? (i := 725) (by decide +kernel)⟩
theorem lw_p8 : lw_okq (⟨"PaintBox$Choosing", "passOn", "(I)V"⟩, 16) := ⟨⟨by decide +kernel, by decide +kernel⟩, List.mem_of_getElem? (i := 146) (by decide +kernel), List.mem_of_getElem? (i := 763) (by decide +kernel), List.mem_of_getElem? (i := 764) (by decide +kernel)⟩
theorem lw_p9 : lw_okq (⟨"PaintBox$Choosing", "leastOf", "(I)I"⟩, 16) := ⟨⟨by decide +kernel, by decide +kernel⟩, List.mem_of_getElem? (i := 146) (by decide +kernel), List.mem_of_getElem? (i := 767) (by decide +kernel), List.mem_of_getElem? (i := 768) (by decide +kernel)⟩
theorem lw_p10 : lw_okq (⟨"PaintBox", "allInPots", "()I"⟩, 12) := ⟨⟨by decide +kernel, by decide +kernel⟩, List.mem_of_getElem? (i := 19) (by decide +kernel), List.mem_of_getElem? (i := 781) (by decide +kernel), List.mem_of_getElem? (i := 782) (by decide +kernel)⟩
theorem lw_p11 : lw_okq (⟨"PaintBox", "allLayers", "()I"⟩, 12) := ⟨⟨by decide +kernel, by decide +kernel⟩, List.mem_of_getElem? (i := 19) (by decide +kernel), List.mem_of_getElem? (i := 797) (by decide +kernel), List.mem_of_getElem? (i := 798) (by decide +kernel)⟩
theorem lw_p12 : lw_okq (⟨"PaintBoxModel", "isTube", "(I)Z"⟩, 32) := ⟨⟨by decide +kernel, by decide +kernel⟩, List.mem_of_getElem? (i := 801) (by decide +kernel), List.mem_of_getElem? (i := 914) (by decide +kernel), List.mem_of_getElem? (i := 915) (by decide +kernel)⟩
theorem lw_p13 : lw_okq (⟨"PaintBoxModel", "inPots", "(I)I"⟩, 32) := ⟨⟨by decide +kernel, by decide +kernel⟩, List.mem_of_getElem? (i := 801) (by decide +kernel), List.mem_of_getElem? (i := 925) (by decide +kernel), List.mem_of_getElem? (i := 926) (by decide +kernel)⟩
theorem lw_p14 : lw_okq (⟨"PaintBoxModel", "faded", "(III)I"⟩, 32) := ⟨⟨by decide +kernel, by decide +kernel⟩, List.mem_of_getElem? (i := 801) (by decide +kernel), List.mem_of_getElem? (i := 933) (by decide +kernel), List.mem_of_getElem? (i := 934) (by decide +kernel)⟩
theorem lw_p15 : lw_okq (⟨"PaintBoxModel", "inPot", "(I)I"⟩, 32) := ⟨⟨by decide +kernel, by decide +kernel⟩, List.mem_of_getElem? (i := 801) (by decide +kernel), List.mem_of_getElem? (i := 962) (by decide +kernel), List.mem_of_getElem? (i := 963) (by decide +kernel)⟩
def lw_privs_1 : List (MethodName × Nat) := [(⟨"PaintBox", "inPots", "(I)I"⟩, 12), (⟨"PaintBox", "potAt", "(I)LPaintBox$Mixture;"⟩, 12), (⟨"PaintBox", "areaAt", "(I)LPaintBox$Area;"⟩, 12), (⟨"PaintBox", "sendFrom", "(LPaintBox$Area;I)V"⟩, 12), (⟨"PaintBox$Glazing", "readThin", "(ILPaintBox$Tube;)V"⟩, 8), (⟨"PaintBox$Glazing", "layOn", "(LPaintBox$Light;II)V"⟩, 8), (⟨"PaintBox$Glazing", "thicken", "(LPaintBox$Light;[III)V"⟩, 8), (⟨"PaintBox$Glazing", "weigh", "(LPaintBox$Light;I)V"⟩, 8), (⟨"PaintBox$Choosing", "passOn", "(I)V"⟩, 16), (⟨"PaintBox$Choosing", "leastOf", "(I)I"⟩, 16), (⟨"PaintBox", "allInPots", "()I"⟩, 12), (⟨"PaintBox", "allLayers", "()I"⟩, 12), (⟨"PaintBoxModel", "isTube", "(I)Z"⟩, 32), (⟨"PaintBoxModel", "inPots", "(I)I"⟩, 32), (⟨"PaintBoxModel", "faded", "(III)I"⟩, 32), (⟨"PaintBoxModel", "inPot", "(I)I"⟩, 32)]
theorem lw_r1 : ∀ q ∈ lw_privs_1, lw_okq q := List.forall_mem_cons.mpr ⟨lw_p0, List.forall_mem_cons.mpr ⟨lw_p1, List.forall_mem_cons.mpr ⟨lw_p2, List.forall_mem_cons.mpr ⟨lw_p3, List.forall_mem_cons.mpr ⟨lw_p4, List.forall_mem_cons.mpr ⟨lw_p5, List.forall_mem_cons.mpr ⟨lw_p6, List.forall_mem_cons.mpr ⟨lw_p7, List.forall_mem_cons.mpr ⟨lw_p8, List.forall_mem_cons.mpr ⟨lw_p9, List.forall_mem_cons.mpr ⟨lw_p10, List.forall_mem_cons.mpr ⟨lw_p11, List.forall_mem_cons.mpr ⟨lw_p12, List.forall_mem_cons.mpr ⟨lw_p13, List.forall_mem_cons.mpr ⟨lw_p14, List.forall_mem_cons.mpr ⟨lw_p15, fun _ h => absurd h List.not_mem_nil⟩⟩⟩⟩⟩⟩⟩⟩⟩⟩⟩⟩⟩⟩⟩⟩
theorem lw_p16 : lw_okq (⟨"PaintBoxModel", "drinkOf", "(II)J"⟩, 32) := ⟨⟨by decide +kernel, by decide +kernel⟩, List.mem_of_getElem? (i := 801) (by decide +kernel), List.mem_of_getElem? (i := 982) (by decide +kernel), List.mem_of_getElem? (i := 983) (by decide +kernel)⟩
theorem lw_p17 : lw_okq (⟨"PaintBoxModel", "scatterOf", "(II)J"⟩, 32) := ⟨⟨by decide +kernel, by decide +kernel⟩, List.mem_of_getElem? (i := 801) (by decide +kernel), List.mem_of_getElem? (i := 986) (by decide +kernel), List.mem_of_getElem? (i := 987) (by decide +kernel)⟩
theorem lw_p18 : lw_okq (⟨"PaintBoxModel", "seenBy", "(II)I"⟩, 32) := ⟨⟨by decide +kernel, by decide +kernel⟩, List.mem_of_getElem? (i := 801) (by decide +kernel), List.mem_of_getElem? (i := 1004) (by decide +kernel), List.mem_of_getElem? (i := 1005) (by decide +kernel)⟩
theorem lw_p19 : lw_okq (⟨"PaintBoxModel", "backOf", "(III)I"⟩, 32) := ⟨⟨by decide +kernel, by decide +kernel⟩, List.mem_of_getElem? (i := 801) (by decide +kernel), List.mem_of_getElem? (i := 1043) (by decide +kernel), List.mem_of_getElem? (i := 1044) (by decide +kernel)⟩
theorem lw_p20 : lw_okq (⟨"PaintBoxModel", "lightOf", "(II)V"⟩, 32) := ⟨⟨by decide +kernel, by decide +kernel⟩, List.mem_of_getElem? (i := 801) (by decide +kernel), List.mem_of_getElem? (i := 1051) (by decide +kernel), List.mem_of_getElem? (i := 1052) (by decide +kernel)⟩
theorem lw_p21 : lw_okq (⟨"PaintBoxModel", "apartFrom", "(IIII)I"⟩, 32) := ⟨⟨by decide +kernel, by decide +kernel⟩, List.mem_of_getElem? (i := 801) (by decide +kernel), List.mem_of_getElem? (i := 1059) (by decide +kernel), List.mem_of_getElem? (i := 1060) (by decide +kernel)⟩
theorem lw_p22 : lw_okq (⟨"PaintBoxModel", "isSet", "(I)Z"⟩, 32) := ⟨⟨by decide +kernel, by decide +kernel⟩, List.mem_of_getElem? (i := 801) (by decide +kernel), List.mem_of_getElem? (i := 1075) (by decide +kernel), List.mem_of_getElem? (i := 1076) (by decide +kernel)⟩
theorem lw_p23 : lw_okq (⟨"PaintBoxModel", "begin", "(II)V"⟩, 32) := ⟨⟨by decide +kernel, by decide +kernel⟩, List.mem_of_getElem? (i := 801) (by decide +kernel), List.mem_of_getElem? (i := 1079) (by decide +kernel), List.mem_of_getElem? (i := 1080) (by decide +kernel)⟩
theorem lw_p24 : lw_okq (⟨"PaintBoxModel", "usedMany", "()I"⟩, 32) := ⟨⟨by decide +kernel, by decide +kernel⟩, List.mem_of_getElem? (i := 801) (by decide +kernel), List.mem_of_getElem? (i := 1083) (by decide +kernel), List.mem_of_getElem? (i := 1084) (by decide +kernel)⟩
theorem lw_p25 : lw_okq (⟨"PaintBoxModel", "lightOfTrial", "()V"⟩, 32) := ⟨⟨by decide +kernel, by decide +kernel⟩, List.mem_of_getElem? (i := 801) (by decide +kernel), List.mem_of_getElem? (i := 1087) (by decide +kernel), List.mem_of_getElem? (i := 1088) (by decide +kernel)⟩
theorem lw_p26 : lw_okq (⟨"PaintBoxModel", "costOfTrial", "()I"⟩, 32) := ⟨⟨by decide +kernel, by decide +kernel⟩, List.mem_of_getElem? (i := 801) (by decide +kernel), List.mem_of_getElem? (i := 1091) (by decide +kernel), List.mem_of_getElem? (i := 1092) (by decide +kernel)⟩
theorem lw_p27 : lw_okq (⟨"PaintBoxModel", "next", "(I)Z"⟩, 32) := ⟨⟨by decide +kernel, by decide +kernel⟩, List.mem_of_getElem? (i := 801) (by decide +kernel), List.mem_of_getElem? (i := 1095) (by decide +kernel), List.mem_of_getElem? (i := 1096) (by decide +kernel)⟩
theorem lw_p28 : lw_okq (⟨"PaintBoxModel", "lightOfGlaze", "(II)V"⟩, 32) := ⟨⟨by decide +kernel, by decide +kernel⟩, List.mem_of_getElem? (i := 801) (by decide +kernel), List.mem_of_getElem? (i := 1111) (by decide +kernel), List.mem_of_getElem? (i := 1112) (by decide +kernel)⟩
theorem lw_p29 : lw_okq (⟨"PaintBoxModel", "isGlaze", "(II)Z"⟩, 32) := ⟨⟨by decide +kernel, by decide +kernel⟩, List.mem_of_getElem? (i := 801) (by decide +kernel), List.mem_of_getElem? (i := 1117) (by decide +kernel), List.mem_of_getElem? (i := 1118) (by decide +kernel)⟩
def lw_privs_2 : List (MethodName × Nat) := [(⟨"PaintBoxModel", "drinkOf", "(II)J"⟩, 32), (⟨"PaintBoxModel", "scatterOf", "(II)J"⟩, 32), (⟨"PaintBoxModel", "seenBy", "(II)I"⟩, 32), (⟨"PaintBoxModel", "backOf", "(III)I"⟩, 32), (⟨"PaintBoxModel", "lightOf", "(II)V"⟩, 32), (⟨"PaintBoxModel", "apartFrom", "(IIII)I"⟩, 32), (⟨"PaintBoxModel", "isSet", "(I)Z"⟩, 32), (⟨"PaintBoxModel", "begin", "(II)V"⟩, 32), (⟨"PaintBoxModel", "usedMany", "()I"⟩, 32), (⟨"PaintBoxModel", "lightOfTrial", "()V"⟩, 32), (⟨"PaintBoxModel", "costOfTrial", "()I"⟩, 32), (⟨"PaintBoxModel", "next", "(I)Z"⟩, 32), (⟨"PaintBoxModel", "lightOfGlaze", "(II)V"⟩, 32), (⟨"PaintBoxModel", "isGlaze", "(II)Z"⟩, 32)]
theorem lw_r2 : ∀ q ∈ lw_privs_2, lw_okq q := List.forall_mem_cons.mpr ⟨lw_p16, List.forall_mem_cons.mpr ⟨lw_p17, List.forall_mem_cons.mpr ⟨lw_p18, List.forall_mem_cons.mpr ⟨lw_p19, List.forall_mem_cons.mpr ⟨lw_p20, List.forall_mem_cons.mpr ⟨lw_p21, List.forall_mem_cons.mpr ⟨lw_p22, List.forall_mem_cons.mpr ⟨lw_p23, List.forall_mem_cons.mpr ⟨lw_p24, List.forall_mem_cons.mpr ⟨lw_p25, List.forall_mem_cons.mpr ⟨lw_p26, List.forall_mem_cons.mpr ⟨lw_p27, List.forall_mem_cons.mpr ⟨lw_p28, List.forall_mem_cons.mpr ⟨lw_p29, fun _ h => absurd h List.not_mem_nil⟩⟩⟩⟩⟩⟩⟩⟩⟩⟩⟩⟩⟩⟩
def lw_privs : List (MethodName × Nat) := lw_privs_1 ++ (lw_privs_2)
def lw_tbl : List Cond := k2_sels lw_privs ++ tables_1
theorem lw_privs_ok : ∀ q ∈ lw_privs, lw_okq q := by
  show ∀ q ∈ lw_privs_1 ++ (lw_privs_2), lw_okq q
  exact List.forall_mem_append.mpr ⟨lw_r1, lw_r2⟩
end
section
def RX0 : String := "PaintBox$Area"
def TX0 : u_T := fun k => match k with
  | 0 => ("PaintBox$Area", "layers", "[LPaintBox$Layer;", true)
  | 1 => ("PaintBox$Area", "size", "I", false)
  | _ => ("PaintBox$Area", "ground", "I", false)
def tyX0 : Nat → FieldType := fun k => match k with
  | 0 => .array (.object "PaintBox$Layer")
  | 1 => .int
  | _ => .int
abbrev wsX00 : List Cond := u_ws RX0 TX0 3
theorem nmX0 : ∀ a, a < 3 → ∀ b, b < 3 → a ≠ b → (TX0 a).2.1 ≠ (TX0 b).2.1 := by decide +kernel
theorem tyX0_ok : ∀ k, k < 3 → parseFieldDescriptor (TX0 k).2.2.1 = some (tyX0 k) := by decide +kernel
abbrev cX0_init : ByteArray := prog_2_method_1_code
def yX0_init : MethodName := ⟨RX0, "<init>", "()V"⟩
abbrev cX0_isFull : ByteArray := prog_2_method_2_code
def yX0_isFull : MethodName := ⟨RX0, "isFull", "()Z"⟩
abbrev cX0_add : ByteArray := prog_2_method_3_code
def yX0_add : MethodName := ⟨RX0, "add", "(LPaintBox$Layer;)V"⟩
abbrev cX0_sentBack : ByteArray := prog_2_method_4_code
def yX0_sentBack : MethodName := ⟨RX0, "sentBack", "(LPaintBox$Palette;II)I"⟩
def RX1 : String := "PaintBox$Choosing"
def TX1 : u_T := fun k => match k with
  | 0 => ("PaintBox$Search", "members", "[I", true)
  | 1 => ("PaintBox$Search", "costs", "[I", true)
  | 2 => ("PaintBox$Search", "drinks", "[[I", true)
  | 3 => ("PaintBox$Search", "scatters", "[[I", true)
  | 4 => ("PaintBox$Search", "size", "I", false)
  | 5 => ("PaintBox$Search", "chosen", "[I", true)
  | 6 => ("PaintBox$Search", "amounts", "[I", true)
  | 7 => ("PaintBox$Search", "drinkSums", "[[I", true)
  | 8 => ("PaintBox$Search", "scatterSums", "[[I", true)
  | 9 => ("PaintBox$Search", "top", "I", false)
  | 10 => ("PaintBox$Search", "sent", "[I", true)
  | 11 => ("PaintBox$Choosing", "reached", "[I", false)
  | 12 => ("PaintBox$Choosing", "goals", "[[I", true)
  | 13 => ("PaintBox$Choosing", "goalCount", "I", false)
  | 14 => ("PaintBox$Choosing", "allGoals", "I", false)
  | _ => ("PaintBox$Choosing", "farthest", "I", false)
def tyX1 : Nat → FieldType := fun k => match k with
  | 0 => .array .int
  | 1 => .array .int
  | 2 => .array (.array .int)
  | 3 => .array (.array .int)
  | 4 => .int
  | 5 => .array .int
  | 6 => .array .int
  | 7 => .array (.array .int)
  | 8 => .array (.array .int)
  | 9 => .int
  | 10 => .array .int
  | 11 => .array .int
  | 12 => .array (.array .int)
  | 13 => .int
  | 14 => .int
  | _ => .int
abbrev wsX10 : List Cond := u_ws RX1 TX1 16
theorem nmX1 : ∀ a, a < 16 → ∀ b, b < 16 → a ≠ b → (TX1 a).2.1 ≠ (TX1 b).2.1 := by decide +kernel
theorem tyX1_ok : ∀ k, k < 16 → parseFieldDescriptor (TX1 k).2.2.1 = some (tyX1 k) := by decide +kernel
abbrev cX1_init : ByteArray := prog_3_method_1_code
def yX1_init : MethodName := ⟨RX1, "<init>", "()V"⟩
abbrev cX1_aimAt : ByteArray := prog_3_method_2_code
def yX1_aimAt : MethodName := ⟨RX1, "aimAt", "([[III)V"⟩
abbrev cX1_fewestOf : ByteArray := prog_3_method_3_code
def yX1_fewestOf : MethodName := ⟨RX1, "fewestOf", "(LPaintBox$Palette;LPaintBox$Light;I)I"⟩
abbrev cX1_weigh : ByteArray := prog_3_method_4_code
def yX1_weigh : MethodName := ⟨RX1, "weigh", "(LPaintBox$Light;)V"⟩
abbrev cX1_passOn : ByteArray := prog_3_method_5_code
def yX1_passOn : MethodName := ⟨RX1, "passOn", "(I)V"⟩
abbrev cX1_leastOf : ByteArray := prog_3_method_6_code
def yX1_leastOf : MethodName := ⟨RX1, "leastOf", "(I)I"⟩
def RX2 : String := "PaintBox$Glazing"
def TX2 : u_T := fun k => match k with
  | 0 => ("PaintBox$Glazing", "bestSize", "I", false)
  | 1 => ("PaintBox$Glazing", "bestFar", "I", false)
  | 2 => ("PaintBox$Glazing", "best", "[I", true)
  | 3 => ("PaintBox$Glazing", "goal", "[I", true)
  | 4 => ("PaintBox$Glazing", "takes", "[[I", true)
  | 5 => ("PaintBox$Glazing", "sends", "[[I", true)
  | 6 => ("PaintBox$Glazing", "sent", "[[I", true)
  | _ => ("PaintBox$Glazing", "laid", "[I", true)
def tyX2 : Nat → FieldType := fun k => match k with
  | 0 => .int
  | 1 => .int
  | 2 => .array .int
  | 3 => .array .int
  | 4 => .array (.array .int)
  | 5 => .array (.array .int)
  | 6 => .array (.array .int)
  | _ => .array .int
abbrev wsX20 : List Cond := u_ws RX2 TX2 8
theorem nmX2 : ∀ a, a < 8 → ∀ b, b < 8 → a ≠ b → (TX2 a).2.1 ≠ (TX2 b).2.1 := by decide +kernel
theorem tyX2_ok : ∀ k, k < 8 → parseFieldDescriptor (TX2 k).2.2.1 = some (tyX2 k) := by decide +kernel
abbrev cX2_init : ByteArray := prog_4_method_1_code
def yX2_init : MethodName := ⟨RX2, "<init>", "()V"⟩
abbrev cX2_nearest : ByteArray := prog_4_method_2_code
def yX2_nearest : MethodName := ⟨RX2, "nearest", "(LPaintBox$Palette;LPaintBox$Light;[III)I"⟩
abbrev cX2_bestLayer : ByteArray := prog_4_method_3_code
def yX2_bestLayer : MethodName := ⟨RX2, "bestLayer", "(I)I"⟩
abbrev cX2_readThin : ByteArray := prog_4_method_4_code
def yX2_readThin : MethodName := ⟨RX2, "readThin", "(ILPaintBox$Tube;)V"⟩
abbrev cX2_layOn : ByteArray := prog_4_method_5_code
def yX2_layOn : MethodName := ⟨RX2, "layOn", "(LPaintBox$Light;II)V"⟩
abbrev cX2_thicken : ByteArray := prog_4_method_6_code
def yX2_thicken : MethodName := ⟨RX2, "thicken", "(LPaintBox$Light;[III)V"⟩
abbrev cX2_weigh : ByteArray := prog_4_method_7_code
def yX2_weigh : MethodName := ⟨RX2, "weigh", "(LPaintBox$Light;I)V"⟩
def RX3 : String := "PaintBox$Layer"
def TX3 : u_T := fun k => match k with
  | 0 => ("PaintBox$Layer", "mixture", "LPaintBox$Mixture;", true)
  | 1 => ("PaintBox$Layer", "thickness", "I", true)
  | 2 => ("PaintBox$Layer", "laidIn", "I", true)
  | 3 => ("PaintBox$Layer", "lastTake", "[I", true)
  | 4 => ("PaintBox$Layer", "lastSend", "[I", true)
  | 5 => ("PaintBox$Layer", "lastUnder", "[I", true)
  | _ => ("PaintBox$Layer", "lastSent", "[I", true)
def tyX3 : Nat → FieldType := fun k => match k with
  | 0 => .object "PaintBox$Mixture"
  | 1 => .int
  | 2 => .int
  | 3 => .array .int
  | 4 => .array .int
  | 5 => .array .int
  | _ => .array .int
abbrev wsX30 : List Cond := u_ws RX3 TX3 7
theorem nmX3 : ∀ a, a < 7 → ∀ b, b < 7 → a ≠ b → (TX3 a).2.1 ≠ (TX3 b).2.1 := by decide +kernel
theorem tyX3_ok : ∀ k, k < 7 → parseFieldDescriptor (TX3 k).2.2.1 = some (tyX3 k) := by decide +kernel
abbrev cX3_init : ByteArray := prog_5_method_1_code
def yX3_init : MethodName := ⟨RX3, "<init>", "(LPaintBox$Mixture;II)V"⟩
abbrev cX3_sentOver : ByteArray := prog_5_method_2_code
def yX3_sentOver : MethodName := ⟨RX3, "sentOver", "(LPaintBox$Palette;III)I"⟩
def RX4 : String := "PaintBox$Light"
def TX4 : u_T := fun k => match k with
  | 0 => ("PaintBox$Light", "lamps", "[[I", true)
  | 1 => ("PaintBox$Light", "sights", "[[I", true)
  | 2 => ("PaintBox$Light", "weights", "[[I", true)
  | 3 => ("PaintBox$Light", "sums", "[I", true)
  | _ => ("PaintBox$Light", "shown", "[Z", true)
def tyX4 : Nat → FieldType := fun k => match k with
  | 0 => .array (.array .int)
  | 1 => .array (.array .int)
  | 2 => .array (.array .int)
  | 3 => .array .int
  | _ => .array .boolean
abbrev wsX40 : List Cond := u_ws RX4 TX4 5
theorem nmX4 : ∀ a, a < 5 → ∀ b, b < 5 → a ≠ b → (TX4 a).2.1 ≠ (TX4 b).2.1 := by decide +kernel
theorem tyX4_ok : ∀ k, k < 5 → parseFieldDescriptor (TX4 k).2.2.1 = some (tyX4 k) := by decide +kernel
abbrev cX4_init : ByteArray := prog_6_method_1_code
def yX4_init : MethodName := ⟨RX4, "<init>", "()V"⟩
abbrev cX4_shine : ByteArray := prog_6_method_2_code
def yX4_shine : MethodName := ⟨RX4, "shine", "(I)V"⟩
abbrev cX4_bySight : ByteArray := prog_6_method_3_code
def yX4_bySight : MethodName := ⟨RX4, "bySight", "(I[I)I"⟩
abbrev cX4_farFrom : ByteArray := prog_6_method_4_code
def yX4_farFrom : MethodName := ⟨RX4, "farFrom", "([I[I)I"⟩
def RX5 : String := "PaintBox$Matching"
def TX5 : u_T := fun k => match k with
  | 0 => ("PaintBox$Search", "members", "[I", true)
  | 1 => ("PaintBox$Search", "costs", "[I", true)
  | 2 => ("PaintBox$Search", "drinks", "[[I", true)
  | 3 => ("PaintBox$Search", "scatters", "[[I", true)
  | 4 => ("PaintBox$Search", "size", "I", false)
  | 5 => ("PaintBox$Search", "chosen", "[I", true)
  | 6 => ("PaintBox$Search", "amounts", "[I", true)
  | 7 => ("PaintBox$Search", "drinkSums", "[[I", true)
  | 8 => ("PaintBox$Search", "scatterSums", "[[I", true)
  | 9 => ("PaintBox$Search", "top", "I", false)
  | 10 => ("PaintBox$Search", "sent", "[I", true)
  | 11 => ("PaintBox$Matching", "any", "Z", false)
  | 12 => ("PaintBox$Matching", "bestCost", "I", false)
  | 13 => ("PaintBox$Matching", "bestFar", "I", false)
  | 14 => ("PaintBox$Matching", "best", "[I", true)
  | _ => ("PaintBox$Matching", "goal", "[I", true)
def tyX5 : Nat → FieldType := fun k => match k with
  | 0 => .array .int
  | 1 => .array .int
  | 2 => .array (.array .int)
  | 3 => .array (.array .int)
  | 4 => .int
  | 5 => .array .int
  | 6 => .array .int
  | 7 => .array (.array .int)
  | 8 => .array (.array .int)
  | 9 => .int
  | 10 => .array .int
  | 11 => .boolean
  | 12 => .int
  | 13 => .int
  | 14 => .array .int
  | _ => .array .int
abbrev wsX50 : List Cond := u_ws RX5 TX5 16
theorem nmX5 : ∀ a, a < 16 → ∀ b, b < 16 → a ≠ b → (TX5 a).2.1 ≠ (TX5 b).2.1 := by decide +kernel
theorem tyX5_ok : ∀ k, k < 16 → parseFieldDescriptor (TX5 k).2.2.1 = some (tyX5 k) := by decide +kernel
abbrev cX5_init : ByteArray := prog_7_method_1_code
def yX5_init : MethodName := ⟨RX5, "<init>", "()V"⟩
abbrev cX5_nearest : ByteArray := prog_7_method_2_code
def yX5_nearest : MethodName := ⟨RX5, "nearest", "(LPaintBox$Palette;LPaintBox$Light;[III)I"⟩
abbrev cX5_dropsOf : ByteArray := prog_7_method_3_code
def yX5_dropsOf : MethodName := ⟨RX5, "dropsOf", "(I)I"⟩
abbrev cX5_weigh : ByteArray := prog_7_method_4_code
def yX5_weigh : MethodName := ⟨RX5, "weigh", "(LPaintBox$Light;)V"⟩
def RX6 : String := "PaintBox$Mixture"
def TX6 : u_T := fun k => match k with
  | 0 => ("PaintBox$Mixture", "amounts", "[I", true)
  | _ => ("PaintBox$Mixture", "total", "I", false)
def tyX6 : Nat → FieldType := fun k => match k with
  | 0 => .array .int
  | _ => .int
abbrev wsX60 : List Cond := u_ws RX6 TX6 2
theorem nmX6 : ∀ a, a < 2 → ∀ b, b < 2 → a ≠ b → (TX6 a).2.1 ≠ (TX6 b).2.1 := by decide +kernel
theorem tyX6_ok : ∀ k, k < 2 → parseFieldDescriptor (TX6 k).2.2.1 = some (tyX6 k) := by decide +kernel
abbrev cX6_init : ByteArray := prog_8_method_1_code
def yX6_init : MethodName := ⟨RX6, "<init>", "()V"⟩
abbrev cX6_of : ByteArray := prog_8_method_2_code
def yX6_of : MethodName := ⟨RX6, "of", "(I)I"⟩
abbrev cX6_add : ByteArray := prog_8_method_3_code
def yX6_add : MethodName := ⟨RX6, "add", "(II)V"⟩
abbrev cX6_addAll : ByteArray := prog_8_method_4_code
def yX6_addAll : MethodName := ⟨RX6, "addAll", "(LPaintBox$Mixture;)V"⟩
abbrev cX6_makeEmpty : ByteArray := prog_8_method_5_code
def yX6_makeEmpty : MethodName := ⟨RX6, "makeEmpty", "()V"⟩
abbrev cX6_drink : ByteArray := prog_8_method_6_code
def yX6_drink : MethodName := ⟨RX6, "drink", "(LPaintBox$Palette;II)I"⟩
abbrev cX6_scatter : ByteArray := prog_8_method_7_code
def yX6_scatter : MethodName := ⟨RX6, "scatter", "(LPaintBox$Palette;I)I"⟩
abbrev cX6_sentThick : ByteArray := prog_8_method_8_code
def yX6_sentThick : MethodName := ⟨RX6, "sentThick", "(LPaintBox$Palette;I)I"⟩
def RX7 : String := "PaintBox$Optics"
def TX7 : u_T := fun k => match k with
  | _ => ("", "", "", false)
def tyX7 : Nat → FieldType := fun k => match k with
  | _ => .int
abbrev wsX70 : List Cond := u_ws RX7 TX7 0
theorem nmX7 : ∀ a, a < 0 → ∀ b, b < 0 → a ≠ b → (TX7 a).2.1 ≠ (TX7 b).2.1 := by decide +kernel
theorem tyX7_ok : ∀ k, k < 0 → parseFieldDescriptor (TX7 k).2.2.1 = some (tyX7 k) := by decide +kernel
abbrev cX7_thickSent : ByteArray := prog_9_method_2_code
def yX7_thickSent : MethodName := ⟨RX7, "thickSent", "(II)I"⟩
abbrev cX7_thinTake : ByteArray := prog_9_method_3_code
def yX7_thinTake : MethodName := ⟨RX7, "thinTake", "(II)I"⟩
abbrev cX7_thinSend : ByteArray := prog_9_method_4_code
def yX7_thinSend : MethodName := ⟨RX7, "thinSend", "(II)I"⟩
abbrev cX7_thin : ByteArray := prog_9_method_5_code
def yX7_thin : MethodName := ⟨RX7, "thin", "(III)I"⟩
abbrev cX7_layered : ByteArray := prog_9_method_6_code
def yX7_layered : MethodName := ⟨RX7, "layered", "(IIII)I"⟩
abbrev cX7_leastHiding : ByteArray := prog_9_method_7_code
def yX7_leastHiding : MethodName := ⟨RX7, "leastHiding", "(III)I"⟩
def RX8 : String := "PaintBox$Palette"
def TX8 : u_T := fun k => match k with
  | 0 => ("PaintBox$Palette", "tubes", "[LPaintBox$Tube;", true)
  | _ => ("PaintBox$Palette", "size", "I", false)
def tyX8 : Nat → FieldType := fun k => match k with
  | 0 => .array (.object "PaintBox$Tube")
  | _ => .int
abbrev wsX80 : List Cond := u_ws RX8 TX8 2
theorem nmX8 : ∀ a, a < 2 → ∀ b, b < 2 → a ≠ b → (TX8 a).2.1 ≠ (TX8 b).2.1 := by decide +kernel
theorem tyX8_ok : ∀ k, k < 2 → parseFieldDescriptor (TX8 k).2.2.1 = some (tyX8 k) := by decide +kernel
abbrev cX8_init : ByteArray := prog_10_method_1_code
def yX8_init : MethodName := ⟨RX8, "<init>", "()V"⟩
abbrev cX8_isFull : ByteArray := prog_10_method_2_code
def yX8_isFull : MethodName := ⟨RX8, "isFull", "()Z"⟩
abbrev cX8_add : ByteArray := prog_10_method_3_code
def yX8_add : MethodName := ⟨RX8, "add", "(LPaintBox$Tube;)I"⟩
abbrev cX8_at : ByteArray := prog_10_method_4_code
def yX8_at : MethodName := ⟨RX8, "at", "(I)LPaintBox$Tube;"⟩
abbrev cX8_hasSet : ByteArray := prog_10_method_5_code
def yX8_hasSet : MethodName := ⟨RX8, "hasSet", "(I)Z"⟩
abbrev cX8_countLost : ByteArray := prog_10_method_6_code
def yX8_countLost : MethodName := ⟨RX8, "countLost", "(LPaintBox$Mixture;)V"⟩
abbrev cX8_countLaid : ByteArray := prog_10_method_7_code
def yX8_countLaid : MethodName := ⟨RX8, "countLaid", "(LPaintBox$Mixture;)V"⟩
abbrev cX8_allLaid : ByteArray := prog_10_method_8_code
def yX8_allLaid : MethodName := ⟨RX8, "allLaid", "()I"⟩
abbrev cX8_allLost : ByteArray := prog_10_method_9_code
def yX8_allLost : MethodName := ⟨RX8, "allLost", "()I"⟩
abbrev cX8_allHeld : ByteArray := prog_10_method_10_code
def yX8_allHeld : MethodName := ⟨RX8, "allHeld", "()I"⟩
def RX9 : String := "PaintBox$Search"
def TX9 : u_T := fun k => match k with
  | _ => ("", "", "", false)
def tyX9 : Nat → FieldType := fun k => match k with
  | _ => .int
abbrev wsX90 : List Cond := u_ws RX9 TX9 0
theorem nmX9 : ∀ a, a < 0 → ∀ b, b < 0 → a ≠ b → (TX9 a).2.1 ≠ (TX9 b).2.1 := by decide +kernel
theorem tyX9_ok : ∀ k, k < 0 → parseFieldDescriptor (TX9 k).2.2.1 = some (tyX9 k) := by decide +kernel
abbrev cX9_init : ByteArray := prog_11_method_1_code
def yX9_init : MethodName := ⟨RX9, "<init>", "()V"⟩
abbrev cX9_goThrough : ByteArray := prog_11_method_3_code
def yX9_goThrough : MethodName := ⟨RX9, "goThrough", "(LPaintBox$Palette;LPaintBox$Light;II)V"⟩
abbrev cX9_addMember : ByteArray := prog_11_method_4_code
def yX9_addMember : MethodName := ⟨RX9, "addMember", "(ILPaintBox$Tube;)V"⟩
abbrev cX9_spread : ByteArray := prog_11_method_5_code
def yX9_spread : MethodName := ⟨RX9, "spread", "(LPaintBox$Light;III)V"⟩
abbrev cX9_sumUp : ByteArray := prog_11_method_6_code
def yX9_sumUp : MethodName := ⟨RX9, "sumUp", "(I)V"⟩
abbrev cX9_bySight : ByteArray := prog_11_method_7_code
def yX9_bySight : MethodName := ⟨RX9, "bySight", "(LPaintBox$Light;I)I"⟩
abbrev cX9_tubesUsed : ByteArray := prog_11_method_8_code
def yX9_tubesUsed : MethodName := ⟨RX9, "tubesUsed", "()I"⟩
abbrev cX9_cost : ByteArray := prog_11_method_9_code
def yX9_cost : MethodName := ⟨RX9, "cost", "()I"⟩
abbrev cX9_writeDrops : ByteArray := prog_11_method_10_code
def yX9_writeDrops : MethodName := ⟨RX9, "writeDrops", "([I)V"⟩
def RX10 : String := "PaintBox$Tube"
def TX10 : u_T := fun k => match k with
  | 0 => ("PaintBox$Tube", "cost", "I", true)
  | 1 => ("PaintBox$Tube", "fading", "I", true)
  | 2 => ("PaintBox$Tube", "held", "I", false)
  | 3 => ("PaintBox$Tube", "laid", "I", false)
  | 4 => ("PaintBox$Tube", "lost", "I", false)
  | 5 => ("PaintBox$Tube", "drinks", "[I", true)
  | _ => ("PaintBox$Tube", "scatters", "[I", true)
def tyX10 : Nat → FieldType := fun k => match k with
  | 0 => .int
  | 1 => .int
  | 2 => .int
  | 3 => .int
  | 4 => .int
  | 5 => .array .int
  | _ => .array .int
abbrev wsX100 : List Cond := u_ws RX10 TX10 7
theorem nmX10 : ∀ a, a < 7 → ∀ b, b < 7 → a ≠ b → (TX10 a).2.1 ≠ (TX10 b).2.1 := by decide +kernel
theorem tyX10_ok : ∀ k, k < 7 → parseFieldDescriptor (TX10 k).2.2.1 = some (tyX10 k) := by decide +kernel
abbrev cX10_init : ByteArray := prog_12_method_1_code
def yX10_init : MethodName := ⟨RX10, "<init>", "(III)V"⟩
abbrev cX10_paint : ByteArray := prog_12_method_2_code
def yX10_paint : MethodName := ⟨RX10, "paint", "(III)V"⟩
abbrev cX10_drinkAfter : ByteArray := prog_12_method_3_code
def yX10_drinkAfter : MethodName := ⟨RX10, "drinkAfter", "(II)I"⟩
abbrev cX10_scatterOf : ByteArray := prog_12_method_4_code
def yX10_scatterOf : MethodName := ⟨RX10, "scatterOf", "(I)I"⟩
def RX11 : String := "PaintBox"
def TX11 : u_T := fun k => match k with
  | 0 => ("PaintBox", "palette", "LPaintBox$Palette;", true)
  | 1 => ("PaintBox", "light", "LPaintBox$Light;", true)
  | 2 => ("PaintBox", "pots", "[LPaintBox$Mixture;", true)
  | 3 => ("PaintBox", "areas", "[LPaintBox$Area;", true)
  | 4 => ("PaintBox", "wanted", "[I", true)
  | 5 => ("PaintBox", "kept", "[[I", true)
  | 6 => ("PaintBox", "sent", "[I", true)
  | 7 => ("PaintBox", "matching", "LPaintBox$Matching;", true)
  | 8 => ("PaintBox", "choosing", "LPaintBox$Choosing;", true)
  | 9 => ("PaintBox", "glazing", "LPaintBox$Glazing;", true)
  | 10 => ("PaintBox", "keptTones", "I", false)
  | _ => ("PaintBox", "theYear", "I", false)
def tyX11 : Nat → FieldType := fun k => match k with
  | 0 => .object "PaintBox$Palette"
  | 1 => .object "PaintBox$Light"
  | 2 => .array (.object "PaintBox$Mixture")
  | 3 => .array (.object "PaintBox$Area")
  | 4 => .array .int
  | 5 => .array (.array .int)
  | 6 => .array .int
  | 7 => .object "PaintBox$Matching"
  | 8 => .object "PaintBox$Choosing"
  | 9 => .object "PaintBox$Glazing"
  | 10 => .int
  | _ => .int
abbrev wsX110 : List Cond := u_ws RX11 TX11 12
theorem nmX11 : ∀ a, a < 12 → ∀ b, b < 12 → a ≠ b → (TX11 a).2.1 ≠ (TX11 b).2.1 := by decide +kernel
theorem tyX11_ok : ∀ k, k < 12 → parseFieldDescriptor (TX11 k).2.2.1 = some (tyX11 k) := by decide +kernel
abbrev cX11_init : ByteArray := prog_1_method_1_code
def yX11_init : MethodName := ⟨RX11, "<init>", "()V"⟩
abbrev cX11_tube : ByteArray := prog_1_method_2_code
def yX11_tube : MethodName := ⟨RX11, "tube", "(III)I"⟩
abbrev cX11_band : ByteArray := prog_1_method_3_code
def yX11_band : MethodName := ⟨RX11, "band", "(IIII)I"⟩
abbrev cX11_ofTube : ByteArray := prog_1_method_4_code
def yX11_ofTube : MethodName := ⟨RX11, "ofTube", "(II)I"⟩
abbrev cX11_row : ByteArray := prog_1_method_5_code
def yX11_row : MethodName := ⟨RX11, "row", "(IIII)I"⟩
abbrev cX11_lamp : ByteArray := prog_1_method_6_code
def yX11_lamp : MethodName := ⟨RX11, "lamp", "(III)I"⟩
abbrev cX11_eye : ByteArray := prog_1_method_7_code
def yX11_eye : MethodName := ⟨RX11, "eye", "(III)I"⟩
abbrev cX11_years : ByteArray := prog_1_method_8_code
def yX11_years : MethodName := ⟨RX11, "years", "(I)I"⟩
abbrev cX11_press : ByteArray := prog_1_method_9_code
def yX11_press : MethodName := ⟨RX11, "press", "(III)I"⟩
abbrev cX11_pour : ByteArray := prog_1_method_10_code
def yX11_pour : MethodName := ⟨RX11, "pour", "(II)I"⟩
abbrev cX11_waste : ByteArray := prog_1_method_11_code
def yX11_waste : MethodName := ⟨RX11, "waste", "(I)I"⟩
abbrev cX11_drops : ByteArray := prog_1_method_12_code
def yX11_drops : MethodName := ⟨RX11, "drops", "(II)I"⟩
abbrev cX11_thick : ByteArray := prog_1_method_13_code
def yX11_thick : MethodName := ⟨RX11, "thick", "(II)I"⟩
abbrev cX11_seen : ByteArray := prog_1_method_14_code
def yX11_seen : MethodName := ⟨RX11, "seen", "(III)I"⟩
abbrev cX11_over : ByteArray := prog_1_method_15_code
def yX11_over : MethodName := ⟨RX11, "over", "(IIII)I"⟩
abbrev cX11_hiding : ByteArray := prog_1_method_16_code
def yX11_hiding : MethodName := ⟨RX11, "hiding", "(II)I"⟩
abbrev cX11_ground : ByteArray := prog_1_method_17_code
def yX11_ground : MethodName := ⟨RX11, "ground", "(II)I"⟩
abbrev cX11_lay : ByteArray := prog_1_method_18_code
def yX11_lay : MethodName := ⟨RX11, "lay", "(III)I"⟩
abbrev cX11_back : ByteArray := prog_1_method_19_code
def yX11_back : MethodName := ⟨RX11, "back", "(III)I"⟩
abbrev cX11_look : ByteArray := prog_1_method_20_code
def yX11_look : MethodName := ⟨RX11, "look", "(III)I"⟩
abbrev cX11_missed : ByteArray := prog_1_method_21_code
def yX11_missed : MethodName := ⟨RX11, "missed", "(III)I"⟩
abbrev cX11_tone : ByteArray := prog_1_method_22_code
def yX11_tone : MethodName := ⟨RX11, "tone", "(III)I"⟩
abbrev cX11_apart : ByteArray := prog_1_method_23_code
def yX11_apart : MethodName := ⟨RX11, "apart", "(II)I"⟩
abbrev cX11_match : ByteArray := prog_1_method_24_code
def yX11_match : MethodName := ⟨RX11, "match", "(III)I"⟩
abbrev cX11_matched : ByteArray := prog_1_method_25_code
def yX11_matched : MethodName := ⟨RX11, "matched", "(I)I"⟩
abbrev cX11_price : ByteArray := prog_1_method_26_code
def yX11_price : MethodName := ⟨RX11, "price", "()I"⟩
abbrev cX11_glaze : ByteArray := prog_1_method_27_code
def yX11_glaze : MethodName := ⟨RX11, "glaze", "(III)I"⟩
abbrev cX11_glazed : ByteArray := prog_1_method_28_code
def yX11_glazed : MethodName := ⟨RX11, "glazed", "(I)I"⟩
abbrev cX11_keep : ByteArray := prog_1_method_29_code
def yX11_keep : MethodName := ⟨RX11, "keep", "()I"⟩
abbrev cX11_clear : ByteArray := prog_1_method_30_code
def yX11_clear : MethodName := ⟨RX11, "clear", "()I"⟩
abbrev cX11_fewest : ByteArray := prog_1_method_31_code
def yX11_fewest : MethodName := ⟨RX11, "fewest", "(III)I"⟩
abbrev cX11_count : ByteArray := prog_1_method_32_code
def yX11_count : MethodName := ⟨RX11, "count", "(I)I"⟩
abbrev cX11_between : ByteArray := prog_1_method_33_code
def yX11_between : MethodName := ⟨RX11, "between", "(III)Z"⟩
abbrev cX11_isBand : ByteArray := prog_1_method_34_code
def yX11_isBand : MethodName := ⟨RX11, "isBand", "(I)Z"⟩
abbrev cX11_isLamp : ByteArray := prog_1_method_35_code
def yX11_isLamp : MethodName := ⟨RX11, "isLamp", "(I)Z"⟩
abbrev cX11_isSight : ByteArray := prog_1_method_36_code
def yX11_isSight : MethodName := ⟨RX11, "isSight", "(I)Z"⟩
abbrev cX11_isShare : ByteArray := prog_1_method_37_code
def yX11_isShare : MethodName := ⟨RX11, "isShare", "(I)Z"⟩
abbrev cX11_replace : ByteArray := prog_1_method_38_code
def yX11_replace : MethodName := ⟨RX11, "replace", "([III)I"⟩
abbrev cX11_potAt : ByteArray := prog_1_method_39_code
def yX11_potAt : MethodName := ⟨RX11, "potAt", "(I)LPaintBox$Mixture;"⟩
abbrev cX11_areaAt : ByteArray := prog_1_method_40_code
def yX11_areaAt : MethodName := ⟨RX11, "areaAt", "(I)LPaintBox$Area;"⟩
abbrev cX11_inPots : ByteArray := prog_1_method_41_code
def yX11_inPots : MethodName := ⟨RX11, "inPots", "(I)I"⟩
abbrev cX11_allInPots : ByteArray := prog_1_method_42_code
def yX11_allInPots : MethodName := ⟨RX11, "allInPots", "()I"⟩
abbrev cX11_allLayers : ByteArray := prog_1_method_43_code
def yX11_allLayers : MethodName := ⟨RX11, "allLayers", "()I"⟩
abbrev cX11_sendFrom : ByteArray := prog_1_method_44_code
def yX11_sendFrom : MethodName := ⟨RX11, "sendFrom", "(LPaintBox$Area;I)V"⟩
def RX12 : String := "PaintBoxModel"
def TX12 : u_T := fun k => match k with
  | 0 => ("PaintBoxModel", "code", "I", false)
  | 1 => ("PaintBoxModel", "year", "I", false)
  | 2 => ("PaintBoxModel", "tubes", "I", false)
  | 3 => ("PaintBoxModel", "drinks", "[I", true)
  | 4 => ("PaintBoxModel", "scatters", "[I", true)
  | 5 => ("PaintBoxModel", "cost", "[I", true)
  | 6 => ("PaintBoxModel", "fading", "[I", true)
  | 7 => ("PaintBoxModel", "holds", "[I", true)
  | 8 => ("PaintBoxModel", "laidOf", "[I", true)
  | 9 => ("PaintBoxModel", "lostOf", "[I", true)
  | 10 => ("PaintBoxModel", "lamps", "[I", true)
  | 11 => ("PaintBoxModel", "eyes", "[I", true)
  | 12 => ("PaintBoxModel", "light", "[I", true)
  | 13 => ("PaintBoxModel", "pots", "[I", true)
  | 14 => ("PaintBoxModel", "dark", "[I", true)
  | 15 => ("PaintBoxModel", "bright", "[I", true)
  | 16 => ("PaintBoxModel", "grounds", "[I", true)
  | 17 => ("PaintBoxModel", "layers", "[I", true)
  | 18 => ("PaintBoxModel", "layerThick", "[I", true)
  | 19 => ("PaintBoxModel", "layerYear", "[I", true)
  | 20 => ("PaintBoxModel", "layerDrops", "[I", true)
  | 21 => ("PaintBoxModel", "tone", "[I", true)
  | 22 => ("PaintBoxModel", "trial", "[I", true)
  | 23 => ("PaintBoxModel", "hasMatch", "Z", false)
  | 24 => ("PaintBoxModel", "matched", "[I", true)
  | 25 => ("PaintBoxModel", "price", "I", false)
  | 26 => ("PaintBoxModel", "glazes", "I", false)
  | 27 => ("PaintBoxModel", "glazed", "[I", true)
  | 28 => ("PaintBoxModel", "glaze", "[I", true)
  | 29 => ("PaintBoxModel", "tones", "I", false)
  | 30 => ("PaintBoxModel", "kept", "[I", true)
  | _ => ("PaintBoxModel", "mixes", "[I", true)
def tyX12 : Nat → FieldType := fun k => match k with
  | 0 => .int
  | 1 => .int
  | 2 => .int
  | 3 => .array .int
  | 4 => .array .int
  | 5 => .array .int
  | 6 => .array .int
  | 7 => .array .int
  | 8 => .array .int
  | 9 => .array .int
  | 10 => .array .int
  | 11 => .array .int
  | 12 => .array .int
  | 13 => .array .int
  | 14 => .array .int
  | 15 => .array .int
  | 16 => .array .int
  | 17 => .array .int
  | 18 => .array .int
  | 19 => .array .int
  | 20 => .array .int
  | 21 => .array .int
  | 22 => .array .int
  | 23 => .boolean
  | 24 => .array .int
  | 25 => .int
  | 26 => .int
  | 27 => .array .int
  | 28 => .array .int
  | 29 => .int
  | 30 => .array .int
  | _ => .array .int
abbrev wsX120 : List Cond := u_ws RX12 TX12 32
theorem nmX12 : ∀ a, a < 32 → ∀ b, b < 32 → a ≠ b → (TX12 a).2.1 ≠ (TX12 b).2.1 := by decide +kernel
theorem tyX12_ok : ∀ k, k < 32 → parseFieldDescriptor (TX12 k).2.2.1 = some (tyX12 k) := by decide +kernel
abbrev cX12_in : ByteArray := prog_14_method_2_code
def yX12_in : MethodName := ⟨RX12, "in", "(III)Z"⟩
abbrev cX12_init : ByteArray := prog_14_method_3_code
def yX12_init : MethodName := ⟨RX12, "<init>", "()V"⟩
abbrev cX12_isTube : ByteArray := prog_14_method_4_code
def yX12_isTube : MethodName := ⟨RX12, "isTube", "(I)Z"⟩
abbrev cX12_isBand : ByteArray := prog_14_method_5_code
def yX12_isBand : MethodName := ⟨RX12, "isBand", "(I)Z"⟩
abbrev cX12_isLamp : ByteArray := prog_14_method_6_code
def yX12_isLamp : MethodName := ⟨RX12, "isLamp", "(I)Z"⟩
abbrev cX12_isSight : ByteArray := prog_14_method_7_code
def yX12_isSight : MethodName := ⟨RX12, "isSight", "(I)Z"⟩
abbrev cX12_isPot : ByteArray := prog_14_method_8_code
def yX12_isPot : MethodName := ⟨RX12, "isPot", "(I)Z"⟩
abbrev cX12_isArea : ByteArray := prog_14_method_9_code
def yX12_isArea : MethodName := ⟨RX12, "isArea", "(I)Z"⟩
abbrev cX12_tube : ByteArray := prog_14_method_10_code
def yX12_tube : MethodName := ⟨RX12, "tube", "(III)I"⟩
abbrev cX12_band : ByteArray := prog_14_method_11_code
def yX12_band : MethodName := ⟨RX12, "band", "(IIII)I"⟩
abbrev cX12_inPots : ByteArray := prog_14_method_12_code
def yX12_inPots : MethodName := ⟨RX12, "inPots", "(I)I"⟩
abbrev cX12_ofTube : ByteArray := prog_14_method_13_code
def yX12_ofTube : MethodName := ⟨RX12, "ofTube", "(II)I"⟩
abbrev cX12_faded : ByteArray := prog_14_method_14_code
def yX12_faded : MethodName := ⟨RX12, "faded", "(III)I"⟩
abbrev cX12_row : ByteArray := prog_14_method_15_code
def yX12_row : MethodName := ⟨RX12, "row", "(IIII)I"⟩
abbrev cX12_lamp : ByteArray := prog_14_method_16_code
def yX12_lamp : MethodName := ⟨RX12, "lamp", "(III)I"⟩
abbrev cX12_eye : ByteArray := prog_14_method_17_code
def yX12_eye : MethodName := ⟨RX12, "eye", "(III)I"⟩
abbrev cX12_years : ByteArray := prog_14_method_18_code
def yX12_years : MethodName := ⟨RX12, "years", "(I)I"⟩
abbrev cX12_root : ByteArray := prog_14_method_19_code
def yX12_root : MethodName := ⟨RX12, "root", "(J)J"⟩
abbrev cX12_thickBy : ByteArray := prog_14_method_20_code
def yX12_thickBy : MethodName := ⟨RX12, "thickBy", "(JJ)I"⟩
abbrev cX12_thinBy : ByteArray := prog_14_method_21_code
def yX12_thinBy : MethodName := ⟨RX12, "thinBy", "(JJI)I"⟩
abbrev cX12_layerBy : ByteArray := prog_14_method_22_code
def yX12_layerBy : MethodName := ⟨RX12, "layerBy", "(JJII)I"⟩
abbrev cX12_seenBy : ByteArray := prog_14_method_23_code
def yX12_seenBy : MethodName := ⟨RX12, "seenBy", "(II)I"⟩
abbrev cX12_off : ByteArray := prog_14_method_24_code
def yX12_off : MethodName := ⟨RX12, "off", "(II)I"⟩
abbrev cX12_apartFrom : ByteArray := prog_14_method_25_code
def yX12_apartFrom : MethodName := ⟨RX12, "apartFrom", "(IIII)I"⟩
abbrev cX12_inPot : ByteArray := prog_14_method_26_code
def yX12_inPot : MethodName := ⟨RX12, "inPot", "(I)I"⟩
abbrev cX12_press : ByteArray := prog_14_method_27_code
def yX12_press : MethodName := ⟨RX12, "press", "(III)I"⟩
abbrev cX12_pour : ByteArray := prog_14_method_28_code
def yX12_pour : MethodName := ⟨RX12, "pour", "(II)I"⟩
abbrev cX12_waste : ByteArray := prog_14_method_29_code
def yX12_waste : MethodName := ⟨RX12, "waste", "(I)I"⟩
abbrev cX12_drops : ByteArray := prog_14_method_30_code
def yX12_drops : MethodName := ⟨RX12, "drops", "(II)I"⟩
abbrev cX12_drinkOf : ByteArray := prog_14_method_31_code
def yX12_drinkOf : MethodName := ⟨RX12, "drinkOf", "(II)J"⟩
abbrev cX12_scatterOf : ByteArray := prog_14_method_32_code
def yX12_scatterOf : MethodName := ⟨RX12, "scatterOf", "(II)J"⟩
abbrev cX12_thick : ByteArray := prog_14_method_33_code
def yX12_thick : MethodName := ⟨RX12, "thick", "(II)I"⟩
abbrev cX12_seen : ByteArray := prog_14_method_34_code
def yX12_seen : MethodName := ⟨RX12, "seen", "(III)I"⟩
abbrev cX12_over : ByteArray := prog_14_method_35_code
def yX12_over : MethodName := ⟨RX12, "over", "(IIII)I"⟩
abbrev cX12_hiding : ByteArray := prog_14_method_36_code
def yX12_hiding : MethodName := ⟨RX12, "hiding", "(II)I"⟩
abbrev cX12_ground : ByteArray := prog_14_method_37_code
def yX12_ground : MethodName := ⟨RX12, "ground", "(II)I"⟩
abbrev cX12_lay : ByteArray := prog_14_method_38_code
def yX12_lay : MethodName := ⟨RX12, "lay", "(III)I"⟩
abbrev cX12_backOf : ByteArray := prog_14_method_39_code
def yX12_backOf : MethodName := ⟨RX12, "backOf", "(III)I"⟩
abbrev cX12_lightOf : ByteArray := prog_14_method_40_code
def yX12_lightOf : MethodName := ⟨RX12, "lightOf", "(II)V"⟩
abbrev cX12_back : ByteArray := prog_14_method_41_code
def yX12_back : MethodName := ⟨RX12, "back", "(III)I"⟩
abbrev cX12_look : ByteArray := prog_14_method_42_code
def yX12_look : MethodName := ⟨RX12, "look", "(III)I"⟩
abbrev cX12_missed : ByteArray := prog_14_method_43_code
def yX12_missed : MethodName := ⟨RX12, "missed", "(III)I"⟩
abbrev cX12_tone : ByteArray := prog_14_method_44_code
def yX12_tone : MethodName := ⟨RX12, "tone", "(III)I"⟩
abbrev cX12_apart : ByteArray := prog_14_method_45_code
def yX12_apart : MethodName := ⟨RX12, "apart", "(II)I"⟩
abbrev cX12_lightOfTrial : ByteArray := prog_14_method_46_code
def yX12_lightOfTrial : MethodName := ⟨RX12, "lightOfTrial", "()V"⟩
abbrev cX12_usedMany : ByteArray := prog_14_method_47_code
def yX12_usedMany : MethodName := ⟨RX12, "usedMany", "()I"⟩
abbrev cX12_next : ByteArray := prog_14_method_48_code
def yX12_next : MethodName := ⟨RX12, "next", "(I)Z"⟩
abbrev cX12_begin : ByteArray := prog_14_method_49_code
def yX12_begin : MethodName := ⟨RX12, "begin", "(II)V"⟩
abbrev cX12_isSet : ByteArray := prog_14_method_50_code
def yX12_isSet : MethodName := ⟨RX12, "isSet", "(I)Z"⟩
abbrev cX12_costOfTrial : ByteArray := prog_14_method_51_code
def yX12_costOfTrial : MethodName := ⟨RX12, "costOfTrial", "()I"⟩
abbrev cX12_match : ByteArray := prog_14_method_52_code
def yX12_match : MethodName := ⟨RX12, "match", "(III)I"⟩
abbrev cX12_matched : ByteArray := prog_14_method_53_code
def yX12_matched : MethodName := ⟨RX12, "matched", "(I)I"⟩
abbrev cX12_price : ByteArray := prog_14_method_54_code
def yX12_price : MethodName := ⟨RX12, "price", "()I"⟩
abbrev cX12_lightOfGlaze : ByteArray := prog_14_method_55_code
def yX12_lightOfGlaze : MethodName := ⟨RX12, "lightOfGlaze", "(II)V"⟩
abbrev cX12_isGlaze : ByteArray := prog_14_method_56_code
def yX12_isGlaze : MethodName := ⟨RX12, "isGlaze", "(II)Z"⟩
abbrev cX12_glaze : ByteArray := prog_14_method_57_code
def yX12_glaze : MethodName := ⟨RX12, "glaze", "(III)I"⟩
abbrev cX12_glazed : ByteArray := prog_14_method_58_code
def yX12_glazed : MethodName := ⟨RX12, "glazed", "(I)I"⟩
abbrev cX12_keep : ByteArray := prog_14_method_59_code
def yX12_keep : MethodName := ⟨RX12, "keep", "()I"⟩
abbrev cX12_clear : ByteArray := prog_14_method_60_code
def yX12_clear : MethodName := ⟨RX12, "clear", "()I"⟩
abbrev cX12_fewest : ByteArray := prog_14_method_61_code
def yX12_fewest : MethodName := ⟨RX12, "fewest", "(III)I"⟩
abbrev cX12_count : ByteArray := prog_14_method_62_code
def yX12_count : MethodName := ⟨RX12, "count", "(I)I"⟩
def RJ6 : String := "java/lang/Integer"
def TJ6 : u_T := fun k => match k with
  | _ => ("", "", "", false)
def tyJ6 : Nat → FieldType := fun k => match k with
  | _ => .int
abbrev wsJ60 : List Cond := u_ws RJ6 TJ6 0
theorem nmJ6 : ∀ a, a < 0 → ∀ b, b < 0 → a ≠ b → (TJ6 a).2.1 ≠ (TJ6 b).2.1 := by decide +kernel
theorem tyJ6_ok : ∀ k, k < 0 → parseFieldDescriptor (TJ6 k).2.2.1 = some (tyJ6 k) := by decide +kernel
abbrev cJ6_bitCount_0f7a4 : ByteArray := prog_15_method_49_code
def yJ6_bitCount_0f7a4 : MethodName := ⟨RJ6, "bitCount", "(I)I"⟩
def RJ9 : String := "java/lang/Math"
def TJ9 : u_T := fun k => match k with
  | _ => ("", "", "", false)
def tyJ9 : Nat → FieldType := fun k => match k with
  | _ => .int
abbrev wsJ90 : List Cond := u_ws RJ9 TJ9 0
theorem nmJ9 : ∀ a, a < 0 → ∀ b, b < 0 → a ≠ b → (TJ9 a).2.1 ≠ (TJ9 b).2.1 := by decide +kernel
theorem tyJ9_ok : ∀ k, k < 0 → parseFieldDescriptor (TJ9 k).2.2.1 = some (tyJ9 k) := by decide +kernel
abbrev cJ9_abs_0f7a4 : ByteArray := prog_16_method_59_code
def yJ9_abs_0f7a4 : MethodName := ⟨RJ9, "abs", "(I)I"⟩
abbrev cJ9_max_7cf53 : ByteArray := prog_16_method_65_code
def yJ9_max_7cf53 : MethodName := ⟨RJ9, "max", "(II)I"⟩
def RJ10 : String := "java/lang/System"
def TJ10 : u_T := fun k => match k with
  | _ => ("", "", "", false)
def tyJ10 : Nat → FieldType := fun k => match k with
  | _ => .int
abbrev wsJ100 : List Cond := u_ws RJ10 TJ10 0
theorem nmJ10 : ∀ a, a < 0 → ∀ b, b < 0 → a ≠ b → (TJ10 a).2.1 ≠ (TJ10 b).2.1 := by decide +kernel
theorem tyJ10_ok : ∀ k, k < 0 → parseFieldDescriptor (TJ10 k).2.2.1 = some (tyJ10 k) := by decide +kernel
def RJ7 : String := "java/util/Arrays"
def TJ7 : u_T := fun k => match k with
  | _ => ("", "", "", false)
def tyJ7 : Nat → FieldType := fun k => match k with
  | _ => .int
abbrev wsJ70 : List Cond := u_ws RJ7 TJ7 0
theorem nmJ7 : ∀ a, a < 0 → ∀ b, b < 0 → a ≠ b → (TJ7 a).2.1 ≠ (TJ7 b).2.1 := by decide +kernel
theorem tyJ7_ok : ∀ k, k < 0 → parseFieldDescriptor (TJ7 k).2.2.1 = some (tyJ7 k) := by decide +kernel
abbrev cJ7_fill_53178 : ByteArray := prog_18_method_103_code
def yJ7_fill_53178 : MethodName := ⟨RJ7, "fill", "([II)V"⟩
def RL : String := "PaintBoxLaw"
abbrev cL_law : ByteArray := code
def yL_law : MethodName := ⟨RL, "law", "([I)Z"⟩
abbrev vwCl : List vw_C := [(RX0, TX0, 3), (RX1, TX1, 16), (RX2, TX2, 8), (RX3, TX3, 7), (RX4, TX4, 5), (RX5, TX5, 16), (RX6, TX6, 2), (RX8, TX8, 2), (RX10, TX10, 7), (RX11, TX11, 12), (RX12, TX12, 32)]
theorem inX0 : ∀ w ∈ wsX00, w ∈ lw_tbl := by decide +kernel
theorem inX1 : ∀ w ∈ wsX10, w ∈ lw_tbl := by decide +kernel
theorem inX2 : ∀ w ∈ wsX20, w ∈ lw_tbl := by decide +kernel
theorem inX3 : ∀ w ∈ wsX30, w ∈ lw_tbl := by decide +kernel
theorem inX4 : ∀ w ∈ wsX40, w ∈ lw_tbl := by decide +kernel
theorem inX5 : ∀ w ∈ wsX50, w ∈ lw_tbl := by decide +kernel
theorem inX6 : ∀ w ∈ wsX60, w ∈ lw_tbl := by decide +kernel
theorem inX7 : ∀ w ∈ wsX70, w ∈ lw_tbl := by decide +kernel
theorem inX8 : ∀ w ∈ wsX80, w ∈ lw_tbl := by decide +kernel
theorem inX9 : ∀ w ∈ wsX90, w ∈ lw_tbl := by decide +kernel
theorem inX10 : ∀ w ∈ wsX100, w ∈ lw_tbl := by decide +kernel
theorem inX11 : ∀ w ∈ wsX110, w ∈ lw_tbl := by decide +kernel
theorem inX12 : ∀ w ∈ wsX120, w ∈ lw_tbl := by decide +kernel
end
section
theorem dX0_init_0 : decode cX0_init 0 = .ok (.aload_n 0, 1) := by decide +kernel
theorem dX0_init_1 : decode cX0_init 1 = .ok (.invokespecial 3, 3) := by decide +kernel
theorem dX0_init_4 : decode cX0_init 4 = .ok (.aload_n 0, 1) := by decide +kernel
theorem dX0_init_5 : decode cX0_init 5 = .ok (.bipush 10, 2) := by decide +kernel
theorem dX0_init_7 : decode cX0_init 7 = .ok (.anewarray 9, 3) := by decide +kernel
theorem dX0_init_10 : decode cX0_init 10 = .ok (.putfield 11, 3) := by decide +kernel
theorem dX0_init_13 : decode cX0_init 13 = .ok (.aload_n 0, 1) := by decide +kernel
theorem dX0_init_14 : decode cX0_init 14 = .ok (.iconst 0, 1) := by decide +kernel
theorem dX0_init_15 : decode cX0_init 15 = .ok (.putfield 17, 3) := by decide +kernel
theorem dX0_init_18 : decode cX0_init 18 = .ok (.aload_n 0, 1) := by decide +kernel
theorem dX0_init_19 : decode cX0_init 19 = .ok (.sipush 9000, 3) := by decide +kernel
theorem dX0_init_22 : decode cX0_init 22 = .ok (.putfield 21, 3) := by decide +kernel
theorem dX0_init_25 : decode cX0_init 25 = .ok (.return_, 1) := by decide +kernel
theorem dX0_isFull_0 : decode cX0_isFull 0 = .ok (.aload_n 0, 1) := by decide +kernel
theorem dX0_isFull_1 : decode cX0_isFull 1 = .ok (.getfield 17, 3) := by decide +kernel
theorem dX0_isFull_4 : decode cX0_isFull 4 = .ok (.bipush 10, 2) := by decide +kernel
theorem dX0_isFull_6 : decode cX0_isFull 6 = .ok (.if_icmp .lt 7, 3) := by decide +kernel
theorem dX0_isFull_9 : decode cX0_isFull 9 = .ok (.iconst 1, 1) := by decide +kernel
theorem dX0_isFull_10 : decode cX0_isFull 10 = .ok (.goto 4, 3) := by decide +kernel
theorem dX0_isFull_13 : decode cX0_isFull 13 = .ok (.iconst 0, 1) := by decide +kernel
theorem dX0_isFull_14 : decode cX0_isFull 14 = .ok (.ireturn, 1) := by decide +kernel
theorem dX0_add_0 : decode cX0_add 0 = .ok (.aload_n 0, 1) := by decide +kernel
theorem dX0_add_1 : decode cX0_add 1 = .ok (.invokevirtual 24, 3) := by decide +kernel
theorem dX0_add_4 : decode cX0_add 4 = .ok (.ifCond .ne 23, 3) := by decide +kernel
theorem dX0_add_7 : decode cX0_add 7 = .ok (.aload_n 0, 1) := by decide +kernel
theorem dX0_add_8 : decode cX0_add 8 = .ok (.getfield 11, 3) := by decide +kernel
theorem dX0_add_11 : decode cX0_add 11 = .ok (.aload_n 0, 1) := by decide +kernel
theorem dX0_add_12 : decode cX0_add 12 = .ok (.getfield 17, 3) := by decide +kernel
theorem dX0_add_15 : decode cX0_add 15 = .ok (.aload_n 1, 1) := by decide +kernel
theorem dX0_add_16 : decode cX0_add 16 = .ok (.aastore, 1) := by decide +kernel
theorem dX0_add_17 : decode cX0_add 17 = .ok (.aload_n 0, 1) := by decide +kernel
theorem dX0_add_18 : decode cX0_add 18 = .ok (.dup, 1) := by decide +kernel
theorem dX0_add_19 : decode cX0_add 19 = .ok (.getfield 17, 3) := by decide +kernel
theorem dX0_add_22 : decode cX0_add 22 = .ok (.iconst 1, 1) := by decide +kernel
theorem dX0_add_23 : decode cX0_add 23 = .ok (.iadd, 1) := by decide +kernel
theorem dX0_add_24 : decode cX0_add 24 = .ok (.putfield 17, 3) := by decide +kernel
theorem dX0_add_27 : decode cX0_add 27 = .ok (.return_, 1) := by decide +kernel
theorem dX0_sentBack_0 : decode cX0_sentBack 0 = .ok (.aload_n 0, 1) := by decide +kernel
theorem dX0_sentBack_1 : decode cX0_sentBack 1 = .ok (.getfield 21, 3) := by decide +kernel
theorem dX0_sentBack_4 : decode cX0_sentBack 4 = .ok (.istore 4, 2) := by decide +kernel
theorem dX0_sentBack_6 : decode cX0_sentBack 6 = .ok (.iconst 0, 1) := by decide +kernel
theorem dX0_sentBack_7 : decode cX0_sentBack 7 = .ok (.istore 5, 2) := by decide +kernel
theorem dX0_sentBack_9 : decode cX0_sentBack 9 = .ok (.iload 5, 2) := by decide +kernel
theorem dX0_sentBack_11 : decode cX0_sentBack 11 = .ok (.aload_n 0, 1) := by decide +kernel
theorem dX0_sentBack_12 : decode cX0_sentBack 12 = .ok (.getfield 17, 3) := by decide +kernel
theorem dX0_sentBack_15 : decode cX0_sentBack 15 = .ok (.if_icmp .ge 26, 3) := by decide +kernel
theorem dX0_sentBack_18 : decode cX0_sentBack 18 = .ok (.aload_n 0, 1) := by decide +kernel
theorem dX0_sentBack_19 : decode cX0_sentBack 19 = .ok (.getfield 11, 3) := by decide +kernel
theorem dX0_sentBack_22 : decode cX0_sentBack 22 = .ok (.iload 5, 2) := by decide +kernel
theorem dX0_sentBack_24 : decode cX0_sentBack 24 = .ok (.aaload, 1) := by decide +kernel
theorem dX0_sentBack_25 : decode cX0_sentBack 25 = .ok (.aload_n 1, 1) := by decide +kernel
theorem dX0_sentBack_26 : decode cX0_sentBack 26 = .ok (.iload_n 2, 1) := by decide +kernel
theorem dX0_sentBack_27 : decode cX0_sentBack 27 = .ok (.iload_n 3, 1) := by decide +kernel
theorem dX0_sentBack_28 : decode cX0_sentBack 28 = .ok (.iload 4, 2) := by decide +kernel
theorem dX0_sentBack_30 : decode cX0_sentBack 30 = .ok (.invokevirtual 28, 3) := by decide +kernel
theorem dX0_sentBack_33 : decode cX0_sentBack 33 = .ok (.istore 4, 2) := by decide +kernel
theorem dX0_sentBack_35 : decode cX0_sentBack 35 = .ok (.iinc 5 1, 3) := by decide +kernel
theorem dX0_sentBack_38 : decode cX0_sentBack 38 = .ok (.goto (-29), 3) := by decide +kernel
theorem dX0_sentBack_41 : decode cX0_sentBack 41 = .ok (.iload 4, 2) := by decide +kernel
theorem dX0_sentBack_43 : decode cX0_sentBack 43 = .ok (.ireturn, 1) := by decide +kernel
theorem dX1_init_0 : decode cX1_init 0 = .ok (.aload_n 0, 1) := by decide +kernel
theorem dX1_init_1 : decode cX1_init 1 = .ok (.invokespecial 3, 3) := by decide +kernel
theorem dX1_init_4 : decode cX1_init 4 = .ok (.aload_n 0, 1) := by decide +kernel
theorem dX1_init_5 : decode cX1_init 5 = .ok (.iconst 0, 1) := by decide +kernel
theorem dX1_init_6 : decode cX1_init 6 = .ok (.newarray .int, 2) := by decide +kernel
theorem dX1_init_8 : decode cX1_init 8 = .ok (.putfield 9, 3) := by decide +kernel
theorem dX1_init_11 : decode cX1_init 11 = .ok (.aload_n 0, 1) := by decide +kernel
theorem dX1_init_12 : decode cX1_init 12 = .ok (.bipush 6, 2) := by decide +kernel
theorem dX1_init_14 : decode cX1_init 14 = .ok (.iconst 3, 1) := by decide +kernel
theorem dX1_init_15 : decode cX1_init 15 = .ok (.multianewarray 15 2, 4) := by decide +kernel
theorem dX1_init_19 : decode cX1_init 19 = .ok (.putfield 17, 3) := by decide +kernel
theorem dX1_init_22 : decode cX1_init 22 = .ok (.aload_n 0, 1) := by decide +kernel
theorem dX1_init_23 : decode cX1_init 23 = .ok (.iconst 0, 1) := by decide +kernel
theorem dX1_init_24 : decode cX1_init 24 = .ok (.putfield 20, 3) := by decide +kernel
theorem dX1_init_27 : decode cX1_init 27 = .ok (.aload_n 0, 1) := by decide +kernel
theorem dX1_init_28 : decode cX1_init 28 = .ok (.iconst 0, 1) := by decide +kernel
theorem dX1_init_29 : decode cX1_init 29 = .ok (.putfield 24, 3) := by decide +kernel
theorem dX1_init_32 : decode cX1_init 32 = .ok (.aload_n 0, 1) := by decide +kernel
theorem dX1_init_33 : decode cX1_init 33 = .ok (.iconst 0, 1) := by decide +kernel
theorem dX1_init_34 : decode cX1_init 34 = .ok (.putfield 27, 3) := by decide +kernel
theorem dX1_init_37 : decode cX1_init 37 = .ok (.return_, 1) := by decide +kernel
theorem dX1_aimAt_0 : decode cX1_aimAt 0 = .ok (.aload_n 0, 1) := by decide +kernel
theorem dX1_aimAt_1 : decode cX1_aimAt 1 = .ok (.iload_n 2, 1) := by decide +kernel
theorem dX1_aimAt_2 : decode cX1_aimAt 2 = .ok (.putfield 20, 3) := by decide +kernel
theorem dX1_aimAt_5 : decode cX1_aimAt 5 = .ok (.aload_n 0, 1) := by decide +kernel
theorem dX1_aimAt_6 : decode cX1_aimAt 6 = .ok (.iconst 1, 1) := by decide +kernel
theorem dX1_aimAt_7 : decode cX1_aimAt 7 = .ok (.iload_n 2, 1) := by decide +kernel
theorem dX1_aimAt_8 : decode cX1_aimAt 8 = .ok (.ishl, 1) := by decide +kernel
theorem dX1_aimAt_9 : decode cX1_aimAt 9 = .ok (.iconst 1, 1) := by decide +kernel
theorem dX1_aimAt_10 : decode cX1_aimAt 10 = .ok (.isub, 1) := by decide +kernel
theorem dX1_aimAt_11 : decode cX1_aimAt 11 = .ok (.putfield 24, 3) := by decide +kernel
theorem dX1_aimAt_14 : decode cX1_aimAt 14 = .ok (.aload_n 0, 1) := by decide +kernel
theorem dX1_aimAt_15 : decode cX1_aimAt 15 = .ok (.iload_n 3, 1) := by decide +kernel
theorem dX1_aimAt_16 : decode cX1_aimAt 16 = .ok (.putfield 27, 3) := by decide +kernel
theorem dX1_aimAt_19 : decode cX1_aimAt 19 = .ok (.iconst 0, 1) := by decide +kernel
theorem dX1_aimAt_20 : decode cX1_aimAt 20 = .ok (.istore 4, 2) := by decide +kernel
theorem dX1_aimAt_22 : decode cX1_aimAt 22 = .ok (.iload 4, 2) := by decide +kernel
theorem dX1_aimAt_24 : decode cX1_aimAt 24 = .ok (.iload_n 2, 1) := by decide +kernel
theorem dX1_aimAt_25 : decode cX1_aimAt 25 = .ok (.if_icmp .ge 26, 3) := by decide +kernel
theorem dX1_aimAt_28 : decode cX1_aimAt 28 = .ok (.aload_n 1, 1) := by decide +kernel
theorem dX1_aimAt_29 : decode cX1_aimAt 29 = .ok (.iload 4, 2) := by decide +kernel
theorem dX1_aimAt_31 : decode cX1_aimAt 31 = .ok (.aaload, 1) := by decide +kernel
theorem dX1_aimAt_32 : decode cX1_aimAt 32 = .ok (.iconst 0, 1) := by decide +kernel
theorem dX1_aimAt_33 : decode cX1_aimAt 33 = .ok (.aload_n 0, 1) := by decide +kernel
theorem dX1_aimAt_34 : decode cX1_aimAt 34 = .ok (.getfield 17, 3) := by decide +kernel
theorem dX1_aimAt_37 : decode cX1_aimAt 37 = .ok (.iload 4, 2) := by decide +kernel
theorem dX1_aimAt_39 : decode cX1_aimAt 39 = .ok (.aaload, 1) := by decide +kernel
theorem dX1_aimAt_40 : decode cX1_aimAt 40 = .ok (.iconst 0, 1) := by decide +kernel
theorem dX1_aimAt_41 : decode cX1_aimAt 41 = .ok (.iconst 3, 1) := by decide +kernel
theorem dX1_aimAt_42 : decode cX1_aimAt 42 = .ok (.invokestatic 30, 3) := by decide +kernel
theorem dX1_aimAt_45 : decode cX1_aimAt 45 = .ok (.iinc 4 1, 3) := by decide +kernel
theorem dX1_aimAt_48 : decode cX1_aimAt 48 = .ok (.goto (-26), 3) := by decide +kernel
theorem dX1_aimAt_51 : decode cX1_aimAt 51 = .ok (.return_, 1) := by decide +kernel
theorem dX1_fewestOf_0 : decode cX1_fewestOf 0 = .ok (.aload_n 0, 1) := by decide +kernel
theorem dX1_fewestOf_1 : decode cX1_fewestOf 1 = .ok (.getfield 9, 3) := by decide +kernel
theorem dX1_fewestOf_4 : decode cX1_fewestOf 4 = .ok (.arraylength, 1) := by decide +kernel
theorem dX1_fewestOf_5 : decode cX1_fewestOf 5 = .ok (.ifCond .ne 12, 3) := by decide +kernel
theorem dX1_fewestOf_8 : decode cX1_fewestOf 8 = .ok (.aload_n 0, 1) := by decide +kernel
theorem dX1_fewestOf_9 : decode cX1_fewestOf 9 = .ok (.sipush 4096, 3) := by decide +kernel
theorem dX1_fewestOf_12 : decode cX1_fewestOf 12 = .ok (.newarray .int, 2) := by decide +kernel
theorem dX1_fewestOf_14 : decode cX1_fewestOf 14 = .ok (.putfield 9, 3) := by decide +kernel
theorem dX1_fewestOf_17 : decode cX1_fewestOf 17 = .ok (.aload_n 0, 1) := by decide +kernel
theorem dX1_fewestOf_18 : decode cX1_fewestOf 18 = .ok (.getfield 9, 3) := by decide +kernel
theorem dX1_fewestOf_21 : decode cX1_fewestOf 21 = .ok (.iconst 0, 1) := by decide +kernel
theorem dX1_fewestOf_22 : decode cX1_fewestOf 22 = .ok (.invokestatic 36, 3) := by decide +kernel
theorem dX1_fewestOf_25 : decode cX1_fewestOf 25 = .ok (.iconst 1, 1) := by decide +kernel
theorem dX1_fewestOf_26 : decode cX1_fewestOf 26 = .ok (.aload_n 1, 1) := by decide +kernel
theorem dX1_fewestOf_27 : decode cX1_fewestOf 27 = .ok (.getfield 42, 3) := by decide +kernel
theorem dX1_fewestOf_30 : decode cX1_fewestOf 30 = .ok (.ishl, 1) := by decide +kernel
theorem dX1_fewestOf_31 : decode cX1_fewestOf 31 = .ok (.istore 4, 2) := by decide +kernel
theorem dX1_fewestOf_33 : decode cX1_fewestOf 33 = .ok (.aload_n 0, 1) := by decide +kernel
theorem dX1_fewestOf_34 : decode cX1_fewestOf 34 = .ok (.aload_n 1, 1) := by decide +kernel
theorem dX1_fewestOf_35 : decode cX1_fewestOf 35 = .ok (.aload_n 2, 1) := by decide +kernel
theorem dX1_fewestOf_36 : decode cX1_fewestOf 36 = .ok (.iload 4, 2) := by decide +kernel
theorem dX1_fewestOf_38 : decode cX1_fewestOf 38 = .ok (.iconst 1, 1) := by decide +kernel
theorem dX1_fewestOf_39 : decode cX1_fewestOf 39 = .ok (.isub, 1) := by decide +kernel
theorem dX1_fewestOf_40 : decode cX1_fewestOf 40 = .ok (.iload_n 3, 1) := by decide +kernel
theorem dX1_fewestOf_41 : decode cX1_fewestOf 41 = .ok (.invokevirtual 47, 3) := by decide +kernel
theorem dX1_fewestOf_44 : decode cX1_fewestOf 44 = .ok (.aload_n 0, 1) := by decide +kernel
theorem dX1_fewestOf_45 : decode cX1_fewestOf 45 = .ok (.iload 4, 2) := by decide +kernel
theorem dX1_fewestOf_47 : decode cX1_fewestOf 47 = .ok (.invokevirtual 51, 3) := by decide +kernel
theorem dX1_fewestOf_50 : decode cX1_fewestOf 50 = .ok (.aload_n 0, 1) := by decide +kernel
theorem dX1_fewestOf_51 : decode cX1_fewestOf 51 = .ok (.iload 4, 2) := by decide +kernel
theorem dX1_fewestOf_53 : decode cX1_fewestOf 53 = .ok (.invokevirtual 55, 3) := by decide +kernel
theorem dX1_fewestOf_56 : decode cX1_fewestOf 56 = .ok (.ireturn, 1) := by decide +kernel
theorem dX1_weigh_0 : decode cX1_weigh 0 = .ok (.aload_n 0, 1) := by decide +kernel
theorem dX1_weigh_1 : decode cX1_weigh 1 = .ok (.invokevirtual 59, 3) := by decide +kernel
theorem dX1_weigh_4 : decode cX1_weigh 4 = .ok (.istore_n 2, 1) := by decide +kernel
theorem dX1_weigh_5 : decode cX1_weigh 5 = .ok (.aload_n 0, 1) := by decide +kernel
theorem dX1_weigh_6 : decode cX1_weigh 6 = .ok (.getfield 9, 3) := by decide +kernel
theorem dX1_weigh_9 : decode cX1_weigh 9 = .ok (.iload_n 2, 1) := by decide +kernel
theorem dX1_weigh_10 : decode cX1_weigh 10 = .ok (.iaload, 1) := by decide +kernel
theorem dX1_weigh_11 : decode cX1_weigh 11 = .ok (.aload_n 0, 1) := by decide +kernel
theorem dX1_weigh_12 : decode cX1_weigh 12 = .ok (.getfield 24, 3) := by decide +kernel
theorem dX1_weigh_15 : decode cX1_weigh 15 = .ok (.if_icmp .ne 4, 3) := by decide +kernel
theorem dX1_weigh_18 : decode cX1_weigh 18 = .ok (.return_, 1) := by decide +kernel
theorem dX1_weigh_19 : decode cX1_weigh 19 = .ok (.aload_n 0, 1) := by decide +kernel
theorem dX1_weigh_20 : decode cX1_weigh 20 = .ok (.aload_n 1, 1) := by decide +kernel
theorem dX1_weigh_21 : decode cX1_weigh 21 = .ok (.iconst 0, 1) := by decide +kernel
theorem dX1_weigh_22 : decode cX1_weigh 22 = .ok (.invokevirtual 63, 3) := by decide +kernel
theorem dX1_weigh_25 : decode cX1_weigh 25 = .ok (.istore_n 3, 1) := by decide +kernel
theorem dX1_weigh_26 : decode cX1_weigh 26 = .ok (.aload_n 0, 1) := by decide +kernel
theorem dX1_weigh_27 : decode cX1_weigh 27 = .ok (.aload_n 1, 1) := by decide +kernel
theorem dX1_weigh_28 : decode cX1_weigh 28 = .ok (.iconst 1, 1) := by decide +kernel
theorem dX1_weigh_29 : decode cX1_weigh 29 = .ok (.invokevirtual 63, 3) := by decide +kernel
theorem dX1_weigh_32 : decode cX1_weigh 32 = .ok (.istore 4, 2) := by decide +kernel
theorem dX1_weigh_34 : decode cX1_weigh 34 = .ok (.aload_n 0, 1) := by decide +kernel
theorem dX1_weigh_35 : decode cX1_weigh 35 = .ok (.aload_n 1, 1) := by decide +kernel
theorem dX1_weigh_36 : decode cX1_weigh 36 = .ok (.iconst 2, 1) := by decide +kernel
theorem dX1_weigh_37 : decode cX1_weigh 37 = .ok (.invokevirtual 63, 3) := by decide +kernel
theorem dX1_weigh_40 : decode cX1_weigh 40 = .ok (.istore 5, 2) := by decide +kernel
theorem dX1_weigh_42 : decode cX1_weigh 42 = .ok (.iconst 0, 1) := by decide +kernel
theorem dX1_weigh_43 : decode cX1_weigh 43 = .ok (.istore 6, 2) := by decide +kernel
theorem dX1_weigh_45 : decode cX1_weigh 45 = .ok (.iload 6, 2) := by decide +kernel
theorem dX1_weigh_47 : decode cX1_weigh 47 = .ok (.aload_n 0, 1) := by decide +kernel
theorem dX1_weigh_48 : decode cX1_weigh 48 = .ok (.getfield 20, 3) := by decide +kernel
theorem dX1_weigh_51 : decode cX1_weigh 51 = .ok (.if_icmp .ge 69, 3) := by decide +kernel
theorem dX1_weigh_54 : decode cX1_weigh 54 = .ok (.aload_n 0, 1) := by decide +kernel
theorem dX1_weigh_55 : decode cX1_weigh 55 = .ok (.getfield 17, 3) := by decide +kernel
theorem dX1_weigh_58 : decode cX1_weigh 58 = .ok (.iload 6, 2) := by decide +kernel
theorem dX1_weigh_60 : decode cX1_weigh 60 = .ok (.aaload, 1) := by decide +kernel
theorem dX1_weigh_61 : decode cX1_weigh 61 = .ok (.astore 7, 2) := by decide +kernel
theorem dX1_weigh_63 : decode cX1_weigh 63 = .ok (.iload_n 3, 1) := by decide +kernel
theorem dX1_weigh_64 : decode cX1_weigh 64 = .ok (.aload 7, 2) := by decide +kernel
theorem dX1_weigh_66 : decode cX1_weigh 66 = .ok (.iconst 0, 1) := by decide +kernel
theorem dX1_weigh_67 : decode cX1_weigh 67 = .ok (.iaload, 1) := by decide +kernel
theorem dX1_weigh_68 : decode cX1_weigh 68 = .ok (.isub, 1) := by decide +kernel
theorem dX1_weigh_69 : decode cX1_weigh 69 = .ok (.invokestatic 67, 3) := by decide +kernel
theorem dX1_weigh_72 : decode cX1_weigh 72 = .ok (.iload 4, 2) := by decide +kernel
theorem dX1_weigh_74 : decode cX1_weigh 74 = .ok (.aload 7, 2) := by decide +kernel
theorem dX1_weigh_76 : decode cX1_weigh 76 = .ok (.iconst 1, 1) := by decide +kernel
theorem dX1_weigh_77 : decode cX1_weigh 77 = .ok (.iaload, 1) := by decide +kernel
theorem dX1_weigh_78 : decode cX1_weigh 78 = .ok (.isub, 1) := by decide +kernel
theorem dX1_weigh_79 : decode cX1_weigh 79 = .ok (.invokestatic 67, 3) := by decide +kernel
theorem dX1_weigh_82 : decode cX1_weigh 82 = .ok (.iadd, 1) := by decide +kernel
theorem dX1_weigh_83 : decode cX1_weigh 83 = .ok (.iload 5, 2) := by decide +kernel
theorem dX1_weigh_85 : decode cX1_weigh 85 = .ok (.aload 7, 2) := by decide +kernel
theorem dX1_weigh_87 : decode cX1_weigh 87 = .ok (.iconst 2, 1) := by decide +kernel
theorem dX1_weigh_88 : decode cX1_weigh 88 = .ok (.iaload, 1) := by decide +kernel
theorem dX1_weigh_89 : decode cX1_weigh 89 = .ok (.isub, 1) := by decide +kernel
theorem dX1_weigh_90 : decode cX1_weigh 90 = .ok (.invokestatic 67, 3) := by decide +kernel
theorem dX1_weigh_93 : decode cX1_weigh 93 = .ok (.iadd, 1) := by decide +kernel
theorem dX1_weigh_94 : decode cX1_weigh 94 = .ok (.aload_n 0, 1) := by decide +kernel
theorem dX1_weigh_95 : decode cX1_weigh 95 = .ok (.getfield 27, 3) := by decide +kernel
theorem dX1_weigh_98 : decode cX1_weigh 98 = .ok (.if_icmp .gt 16, 3) := by decide +kernel
theorem dX1_weigh_101 : decode cX1_weigh 101 = .ok (.aload_n 0, 1) := by decide +kernel
theorem dX1_weigh_102 : decode cX1_weigh 102 = .ok (.getfield 9, 3) := by decide +kernel
theorem dX1_weigh_105 : decode cX1_weigh 105 = .ok (.iload_n 2, 1) := by decide +kernel
theorem dX1_weigh_106 : decode cX1_weigh 106 = .ok (.dup2, 1) := by decide +kernel
theorem dX1_weigh_107 : decode cX1_weigh 107 = .ok (.iaload, 1) := by decide +kernel
theorem dX1_weigh_108 : decode cX1_weigh 108 = .ok (.iconst 1, 1) := by decide +kernel
theorem dX1_weigh_109 : decode cX1_weigh 109 = .ok (.iload 6, 2) := by decide +kernel
theorem dX1_weigh_111 : decode cX1_weigh 111 = .ok (.ishl, 1) := by decide +kernel
theorem dX1_weigh_112 : decode cX1_weigh 112 = .ok (.ior, 1) := by decide +kernel
theorem dX1_weigh_113 : decode cX1_weigh 113 = .ok (.iastore, 1) := by decide +kernel
theorem dX1_weigh_114 : decode cX1_weigh 114 = .ok (.iinc 6 1, 3) := by decide +kernel
theorem dX1_weigh_117 : decode cX1_weigh 117 = .ok (.goto (-72), 3) := by decide +kernel
theorem dX1_weigh_120 : decode cX1_weigh 120 = .ok (.return_, 1) := by decide +kernel
theorem dX1_passOn_0 : decode cX1_passOn 0 = .ok (.iconst 0, 1) := by decide +kernel
theorem dX1_passOn_1 : decode cX1_passOn 1 = .ok (.istore_n 2, 1) := by decide +kernel
theorem dX1_passOn_2 : decode cX1_passOn 2 = .ok (.iload_n 2, 1) := by decide +kernel
theorem dX1_passOn_3 : decode cX1_passOn 3 = .ok (.bipush 12, 2) := by decide +kernel
theorem dX1_passOn_5 : decode cX1_passOn 5 = .ok (.if_icmp .ge 54, 3) := by decide +kernel
theorem dX1_passOn_8 : decode cX1_passOn 8 = .ok (.iconst 1, 1) := by decide +kernel
theorem dX1_passOn_9 : decode cX1_passOn 9 = .ok (.iload_n 2, 1) := by decide +kernel
theorem dX1_passOn_10 : decode cX1_passOn 10 = .ok (.ishl, 1) := by decide +kernel
theorem dX1_passOn_11 : decode cX1_passOn 11 = .ok (.istore_n 3, 1) := by decide +kernel
theorem dX1_passOn_12 : decode cX1_passOn 12 = .ok (.iconst 0, 1) := by decide +kernel
theorem dX1_passOn_13 : decode cX1_passOn 13 = .ok (.istore 4, 2) := by decide +kernel
theorem dX1_passOn_15 : decode cX1_passOn 15 = .ok (.iload 4, 2) := by decide +kernel
theorem dX1_passOn_17 : decode cX1_passOn 17 = .ok (.iload_n 1, 1) := by decide +kernel
theorem dX1_passOn_18 : decode cX1_passOn 18 = .ok (.if_icmp .ge 35, 3) := by decide +kernel
theorem dX1_passOn_21 : decode cX1_passOn 21 = .ok (.iload 4, 2) := by decide +kernel
theorem dX1_passOn_23 : decode cX1_passOn 23 = .ok (.iload_n 3, 1) := by decide +kernel
theorem dX1_passOn_24 : decode cX1_passOn 24 = .ok (.iand, 1) := by decide +kernel
theorem dX1_passOn_25 : decode cX1_passOn 25 = .ok (.ifCond .eq 22, 3) := by decide +kernel
theorem dX1_passOn_28 : decode cX1_passOn 28 = .ok (.aload_n 0, 1) := by decide +kernel
theorem dX1_passOn_29 : decode cX1_passOn 29 = .ok (.getfield 9, 3) := by decide +kernel
theorem dX1_passOn_32 : decode cX1_passOn 32 = .ok (.iload 4, 2) := by decide +kernel
theorem dX1_passOn_34 : decode cX1_passOn 34 = .ok (.dup2, 1) := by decide +kernel
theorem dX1_passOn_35 : decode cX1_passOn 35 = .ok (.iaload, 1) := by decide +kernel
theorem dX1_passOn_36 : decode cX1_passOn 36 = .ok (.aload_n 0, 1) := by decide +kernel
theorem dX1_passOn_37 : decode cX1_passOn 37 = .ok (.getfield 9, 3) := by decide +kernel
theorem dX1_passOn_40 : decode cX1_passOn 40 = .ok (.iload 4, 2) := by decide +kernel
theorem dX1_passOn_42 : decode cX1_passOn 42 = .ok (.iload_n 3, 1) := by decide +kernel
theorem dX1_passOn_43 : decode cX1_passOn 43 = .ok (.ixor, 1) := by decide +kernel
theorem dX1_passOn_44 : decode cX1_passOn 44 = .ok (.iaload, 1) := by decide +kernel
theorem dX1_passOn_45 : decode cX1_passOn 45 = .ok (.ior, 1) := by decide +kernel
theorem dX1_passOn_46 : decode cX1_passOn 46 = .ok (.iastore, 1) := by decide +kernel
theorem dX1_passOn_47 : decode cX1_passOn 47 = .ok (.iinc 4 1, 3) := by decide +kernel
theorem dX1_passOn_50 : decode cX1_passOn 50 = .ok (.goto (-35), 3) := by decide +kernel
theorem dX1_passOn_53 : decode cX1_passOn 53 = .ok (.iinc 2 1, 3) := by decide +kernel
theorem dX1_passOn_56 : decode cX1_passOn 56 = .ok (.goto (-54), 3) := by decide +kernel
theorem dX1_passOn_59 : decode cX1_passOn 59 = .ok (.return_, 1) := by decide +kernel
theorem dX1_leastOf_0 : decode cX1_leastOf 0 = .ok (.bipush (-2), 2) := by decide +kernel
theorem dX1_leastOf_2 : decode cX1_leastOf 2 = .ok (.istore_n 2, 1) := by decide +kernel
theorem dX1_leastOf_3 : decode cX1_leastOf 3 = .ok (.bipush 13, 2) := by decide +kernel
theorem dX1_leastOf_5 : decode cX1_leastOf 5 = .ok (.istore_n 3, 1) := by decide +kernel
theorem dX1_leastOf_6 : decode cX1_leastOf 6 = .ok (.iconst 1, 1) := by decide +kernel
theorem dX1_leastOf_7 : decode cX1_leastOf 7 = .ok (.istore 4, 2) := by decide +kernel
theorem dX1_leastOf_9 : decode cX1_leastOf 9 = .ok (.iload 4, 2) := by decide +kernel
theorem dX1_leastOf_11 : decode cX1_leastOf 11 = .ok (.iload_n 1, 1) := by decide +kernel
theorem dX1_leastOf_12 : decode cX1_leastOf 12 = .ok (.if_icmp .ge 41, 3) := by decide +kernel
theorem dX1_leastOf_15 : decode cX1_leastOf 15 = .ok (.aload_n 0, 1) := by decide +kernel
theorem dX1_leastOf_16 : decode cX1_leastOf 16 = .ok (.getfield 9, 3) := by decide +kernel
theorem dX1_leastOf_19 : decode cX1_leastOf 19 = .ok (.iload 4, 2) := by decide +kernel
theorem dX1_leastOf_21 : decode cX1_leastOf 21 = .ok (.iaload, 1) := by decide +kernel
theorem dX1_leastOf_22 : decode cX1_leastOf 22 = .ok (.aload_n 0, 1) := by decide +kernel
theorem dX1_leastOf_23 : decode cX1_leastOf 23 = .ok (.getfield 24, 3) := by decide +kernel
theorem dX1_leastOf_26 : decode cX1_leastOf 26 = .ok (.if_icmp .ne 21, 3) := by decide +kernel
theorem dX1_leastOf_29 : decode cX1_leastOf 29 = .ok (.iload 4, 2) := by decide +kernel
theorem dX1_leastOf_31 : decode cX1_leastOf 31 = .ok (.invokestatic 72, 3) := by decide +kernel
theorem dX1_leastOf_34 : decode cX1_leastOf 34 = .ok (.iload_n 3, 1) := by decide +kernel
theorem dX1_leastOf_35 : decode cX1_leastOf 35 = .ok (.if_icmp .ge 12, 3) := by decide +kernel
theorem dX1_leastOf_38 : decode cX1_leastOf 38 = .ok (.iload 4, 2) := by decide +kernel
theorem dX1_leastOf_40 : decode cX1_leastOf 40 = .ok (.istore_n 2, 1) := by decide +kernel
theorem dX1_leastOf_41 : decode cX1_leastOf 41 = .ok (.iload 4, 2) := by decide +kernel
theorem dX1_leastOf_43 : decode cX1_leastOf 43 = .ok (.invokestatic 72, 3) := by decide +kernel
theorem dX1_leastOf_46 : decode cX1_leastOf 46 = .ok (.istore_n 3, 1) := by decide +kernel
theorem dX1_leastOf_47 : decode cX1_leastOf 47 = .ok (.iinc 4 1, 3) := by decide +kernel
theorem dX1_leastOf_50 : decode cX1_leastOf 50 = .ok (.goto (-41), 3) := by decide +kernel
theorem dX1_leastOf_53 : decode cX1_leastOf 53 = .ok (.iload_n 2, 1) := by decide +kernel
theorem dX1_leastOf_54 : decode cX1_leastOf 54 = .ok (.ireturn, 1) := by decide +kernel
theorem dX2_init_0 : decode cX2_init 0 = .ok (.aload_n 0, 1) := by decide +kernel
theorem dX2_init_1 : decode cX2_init 1 = .ok (.invokespecial 3, 3) := by decide +kernel
theorem dX2_init_4 : decode cX2_init 4 = .ok (.aload_n 0, 1) := by decide +kernel
theorem dX2_init_5 : decode cX2_init 5 = .ok (.iconst 0, 1) := by decide +kernel
theorem dX2_init_6 : decode cX2_init 6 = .ok (.putfield 9, 3) := by decide +kernel
theorem dX2_init_9 : decode cX2_init 9 = .ok (.aload_n 0, 1) := by decide +kernel
theorem dX2_init_10 : decode cX2_init 10 = .ok (.iconst 0, 1) := by decide +kernel
theorem dX2_init_11 : decode cX2_init 11 = .ok (.putfield 15, 3) := by decide +kernel
theorem dX2_init_14 : decode cX2_init 14 = .ok (.aload_n 0, 1) := by decide +kernel
theorem dX2_init_15 : decode cX2_init 15 = .ok (.iconst 3, 1) := by decide +kernel
theorem dX2_init_16 : decode cX2_init 16 = .ok (.newarray .int, 2) := by decide +kernel
theorem dX2_init_18 : decode cX2_init 18 = .ok (.putfield 18, 3) := by decide +kernel
theorem dX2_init_21 : decode cX2_init 21 = .ok (.aload_n 0, 1) := by decide +kernel
theorem dX2_init_22 : decode cX2_init 22 = .ok (.iconst 3, 1) := by decide +kernel
theorem dX2_init_23 : decode cX2_init 23 = .ok (.newarray .int, 2) := by decide +kernel
theorem dX2_init_25 : decode cX2_init 25 = .ok (.putfield 22, 3) := by decide +kernel
theorem dX2_init_28 : decode cX2_init 28 = .ok (.aload_n 0, 1) := by decide +kernel
theorem dX2_init_29 : decode cX2_init 29 = .ok (.bipush 12, 2) := by decide +kernel
theorem dX2_init_31 : decode cX2_init 31 = .ok (.bipush 8, 2) := by decide +kernel
theorem dX2_init_33 : decode cX2_init 33 = .ok (.multianewarray 25 2, 4) := by decide +kernel
theorem dX2_init_37 : decode cX2_init 37 = .ok (.putfield 27, 3) := by decide +kernel
theorem dX2_init_40 : decode cX2_init 40 = .ok (.aload_n 0, 1) := by decide +kernel
theorem dX2_init_41 : decode cX2_init 41 = .ok (.bipush 12, 2) := by decide +kernel
theorem dX2_init_43 : decode cX2_init 43 = .ok (.bipush 8, 2) := by decide +kernel
theorem dX2_init_45 : decode cX2_init 45 = .ok (.multianewarray 25 2, 4) := by decide +kernel
theorem dX2_init_49 : decode cX2_init 49 = .ok (.putfield 30, 3) := by decide +kernel
theorem dX2_init_52 : decode cX2_init 52 = .ok (.aload_n 0, 1) := by decide +kernel
theorem dX2_init_53 : decode cX2_init 53 = .ok (.iconst 4, 1) := by decide +kernel
theorem dX2_init_54 : decode cX2_init 54 = .ok (.bipush 8, 2) := by decide +kernel
theorem dX2_init_56 : decode cX2_init 56 = .ok (.multianewarray 25 2, 4) := by decide +kernel
theorem dX2_init_60 : decode cX2_init 60 = .ok (.putfield 33, 3) := by decide +kernel
theorem dX2_init_63 : decode cX2_init 63 = .ok (.aload_n 0, 1) := by decide +kernel
theorem dX2_init_64 : decode cX2_init 64 = .ok (.iconst 3, 1) := by decide +kernel
theorem dX2_init_65 : decode cX2_init 65 = .ok (.newarray .int, 2) := by decide +kernel
theorem dX2_init_67 : decode cX2_init 67 = .ok (.putfield 36, 3) := by decide +kernel
theorem dX2_init_70 : decode cX2_init 70 = .ok (.return_, 1) := by decide +kernel
theorem dX2_nearest_0 : decode cX2_nearest 0 = .ok (.aload_n 3, 1) := by decide +kernel
theorem dX2_nearest_1 : decode cX2_nearest 1 = .ok (.iconst 0, 1) := by decide +kernel
theorem dX2_nearest_2 : decode cX2_nearest 2 = .ok (.aload_n 0, 1) := by decide +kernel
theorem dX2_nearest_3 : decode cX2_nearest 3 = .ok (.getfield 22, 3) := by decide +kernel
theorem dX2_nearest_6 : decode cX2_nearest 6 = .ok (.iconst 0, 1) := by decide +kernel
theorem dX2_nearest_7 : decode cX2_nearest 7 = .ok (.iconst 3, 1) := by decide +kernel
theorem dX2_nearest_8 : decode cX2_nearest 8 = .ok (.invokestatic 39, 3) := by decide +kernel
theorem dX2_nearest_11 : decode cX2_nearest 11 = .ok (.iconst 0, 1) := by decide +kernel
theorem dX2_nearest_12 : decode cX2_nearest 12 = .ok (.istore 6, 2) := by decide +kernel
theorem dX2_nearest_14 : decode cX2_nearest 14 = .ok (.iload 6, 2) := by decide +kernel
theorem dX2_nearest_16 : decode cX2_nearest 16 = .ok (.bipush 12, 2) := by decide +kernel
theorem dX2_nearest_18 : decode cX2_nearest 18 = .ok (.if_icmp .ge 30, 3) := by decide +kernel
theorem dX2_nearest_21 : decode cX2_nearest 21 = .ok (.aload_n 1, 1) := by decide +kernel
theorem dX2_nearest_22 : decode cX2_nearest 22 = .ok (.iload 6, 2) := by decide +kernel
theorem dX2_nearest_24 : decode cX2_nearest 24 = .ok (.invokevirtual 45, 3) := by decide +kernel
theorem dX2_nearest_27 : decode cX2_nearest 27 = .ok (.astore 7, 2) := by decide +kernel
theorem dX2_nearest_29 : decode cX2_nearest 29 = .ok (.aload 7, 2) := by decide +kernel
theorem dX2_nearest_31 : decode cX2_nearest 31 = .ok (.ifnull 11, 3) := by decide +kernel
theorem dX2_nearest_34 : decode cX2_nearest 34 = .ok (.aload_n 0, 1) := by decide +kernel
theorem dX2_nearest_35 : decode cX2_nearest 35 = .ok (.iload 6, 2) := by decide +kernel
theorem dX2_nearest_37 : decode cX2_nearest 37 = .ok (.aload 7, 2) := by decide +kernel
theorem dX2_nearest_39 : decode cX2_nearest 39 = .ok (.invokevirtual 51, 3) := by decide +kernel
theorem dX2_nearest_42 : decode cX2_nearest 42 = .ok (.iinc 6 1, 3) := by decide +kernel
theorem dX2_nearest_45 : decode cX2_nearest 45 = .ok (.goto (-31), 3) := by decide +kernel
theorem dX2_nearest_48 : decode cX2_nearest 48 = .ok (.aload_n 0, 1) := by decide +kernel
theorem dX2_nearest_49 : decode cX2_nearest 49 = .ok (.getfield 33, 3) := by decide +kernel
theorem dX2_nearest_52 : decode cX2_nearest 52 = .ok (.iconst 0, 1) := by decide +kernel
theorem dX2_nearest_53 : decode cX2_nearest 53 = .ok (.aaload, 1) := by decide +kernel
theorem dX2_nearest_54 : decode cX2_nearest 54 = .ok (.iload 5, 2) := by decide +kernel
theorem dX2_nearest_56 : decode cX2_nearest 56 = .ok (.invokestatic 55, 3) := by decide +kernel
theorem dX2_nearest_59 : decode cX2_nearest 59 = .ok (.aload_n 0, 1) := by decide +kernel
theorem dX2_nearest_60 : decode cX2_nearest 60 = .ok (.iconst 0, 1) := by decide +kernel
theorem dX2_nearest_61 : decode cX2_nearest 61 = .ok (.putfield 9, 3) := by decide +kernel
theorem dX2_nearest_64 : decode cX2_nearest 64 = .ok (.aload_n 0, 1) := by decide +kernel
theorem dX2_nearest_65 : decode cX2_nearest 65 = .ok (.aload_n 2, 1) := by decide +kernel
theorem dX2_nearest_66 : decode cX2_nearest 66 = .ok (.aload_n 0, 1) := by decide +kernel
theorem dX2_nearest_67 : decode cX2_nearest 67 = .ok (.getfield 22, 3) := by decide +kernel
theorem dX2_nearest_70 : decode cX2_nearest 70 = .ok (.aload_n 0, 1) := by decide +kernel
theorem dX2_nearest_71 : decode cX2_nearest 71 = .ok (.getfield 33, 3) := by decide +kernel
theorem dX2_nearest_74 : decode cX2_nearest 74 = .ok (.iconst 0, 1) := by decide +kernel
theorem dX2_nearest_75 : decode cX2_nearest 75 = .ok (.aaload, 1) := by decide +kernel
theorem dX2_nearest_76 : decode cX2_nearest 76 = .ok (.invokevirtual 61, 3) := by decide +kernel
theorem dX2_nearest_79 : decode cX2_nearest 79 = .ok (.putfield 15, 3) := by decide +kernel
theorem dX2_nearest_82 : decode cX2_nearest 82 = .ok (.aload_n 0, 1) := by decide +kernel
theorem dX2_nearest_83 : decode cX2_nearest 83 = .ok (.aload_n 2, 1) := by decide +kernel
theorem dX2_nearest_84 : decode cX2_nearest 84 = .ok (.iconst 0, 1) := by decide +kernel
theorem dX2_nearest_85 : decode cX2_nearest 85 = .ok (.iload 4, 2) := by decide +kernel
theorem dX2_nearest_87 : decode cX2_nearest 87 = .ok (.invokevirtual 67, 3) := by decide +kernel
theorem dX2_nearest_90 : decode cX2_nearest 90 = .ok (.aload_n 0, 1) := by decide +kernel
theorem dX2_nearest_91 : decode cX2_nearest 91 = .ok (.getfield 15, 3) := by decide +kernel
theorem dX2_nearest_94 : decode cX2_nearest 94 = .ok (.ireturn, 1) := by decide +kernel
theorem dX2_bestLayer_0 : decode cX2_bestLayer 0 = .ok (.aload_n 0, 1) := by decide +kernel
theorem dX2_bestLayer_1 : decode cX2_bestLayer 1 = .ok (.getfield 18, 3) := by decide +kernel
theorem dX2_bestLayer_4 : decode cX2_bestLayer 4 = .ok (.iload_n 1, 1) := by decide +kernel
theorem dX2_bestLayer_5 : decode cX2_bestLayer 5 = .ok (.iaload, 1) := by decide +kernel
theorem dX2_bestLayer_6 : decode cX2_bestLayer 6 = .ok (.ireturn, 1) := by decide +kernel
theorem dX2_readThin_0 : decode cX2_readThin 0 = .ok (.iconst 0, 1) := by decide +kernel
theorem dX2_readThin_1 : decode cX2_readThin 1 = .ok (.istore_n 3, 1) := by decide +kernel
theorem dX2_readThin_2 : decode cX2_readThin 2 = .ok (.iload_n 3, 1) := by decide +kernel
theorem dX2_readThin_3 : decode cX2_readThin 3 = .ok (.bipush 8, 2) := by decide +kernel
theorem dX2_readThin_5 : decode cX2_readThin 5 = .ok (.if_icmp .ge 54, 3) := by decide +kernel
theorem dX2_readThin_8 : decode cX2_readThin 8 = .ok (.aload_n 2, 1) := by decide +kernel
theorem dX2_readThin_9 : decode cX2_readThin 9 = .ok (.iload_n 3, 1) := by decide +kernel
theorem dX2_readThin_10 : decode cX2_readThin 10 = .ok (.iconst 0, 1) := by decide +kernel
theorem dX2_readThin_11 : decode cX2_readThin 11 = .ok (.invokevirtual 71, 3) := by decide +kernel
theorem dX2_readThin_14 : decode cX2_readThin 14 = .ok (.istore 4, 2) := by decide +kernel
theorem dX2_readThin_16 : decode cX2_readThin 16 = .ok (.aload_n 2, 1) := by decide +kernel
theorem dX2_readThin_17 : decode cX2_readThin 17 = .ok (.iload_n 3, 1) := by decide +kernel
theorem dX2_readThin_18 : decode cX2_readThin 18 = .ok (.invokevirtual 77, 3) := by decide +kernel
theorem dX2_readThin_21 : decode cX2_readThin 21 = .ok (.istore 5, 2) := by decide +kernel
theorem dX2_readThin_23 : decode cX2_readThin 23 = .ok (.aload_n 0, 1) := by decide +kernel
theorem dX2_readThin_24 : decode cX2_readThin 24 = .ok (.getfield 27, 3) := by decide +kernel
theorem dX2_readThin_27 : decode cX2_readThin 27 = .ok (.iload_n 1, 1) := by decide +kernel
theorem dX2_readThin_28 : decode cX2_readThin 28 = .ok (.aaload, 1) := by decide +kernel
theorem dX2_readThin_29 : decode cX2_readThin 29 = .ok (.iload_n 3, 1) := by decide +kernel
theorem dX2_readThin_30 : decode cX2_readThin 30 = .ok (.iload 4, 2) := by decide +kernel
theorem dX2_readThin_32 : decode cX2_readThin 32 = .ok (.iload 5, 2) := by decide +kernel
theorem dX2_readThin_34 : decode cX2_readThin 34 = .ok (.invokestatic 81, 3) := by decide +kernel
theorem dX2_readThin_37 : decode cX2_readThin 37 = .ok (.iastore, 1) := by decide +kernel
theorem dX2_readThin_38 : decode cX2_readThin 38 = .ok (.aload_n 0, 1) := by decide +kernel
theorem dX2_readThin_39 : decode cX2_readThin 39 = .ok (.getfield 30, 3) := by decide +kernel
theorem dX2_readThin_42 : decode cX2_readThin 42 = .ok (.iload_n 1, 1) := by decide +kernel
theorem dX2_readThin_43 : decode cX2_readThin 43 = .ok (.aaload, 1) := by decide +kernel
theorem dX2_readThin_44 : decode cX2_readThin 44 = .ok (.iload_n 3, 1) := by decide +kernel
theorem dX2_readThin_45 : decode cX2_readThin 45 = .ok (.iload 4, 2) := by decide +kernel
theorem dX2_readThin_47 : decode cX2_readThin 47 = .ok (.iload 5, 2) := by decide +kernel
theorem dX2_readThin_49 : decode cX2_readThin 49 = .ok (.invokestatic 86, 3) := by decide +kernel
theorem dX2_readThin_52 : decode cX2_readThin 52 = .ok (.iastore, 1) := by decide +kernel
theorem dX2_readThin_53 : decode cX2_readThin 53 = .ok (.iinc 3 1, 3) := by decide +kernel
theorem dX2_readThin_56 : decode cX2_readThin 56 = .ok (.goto (-54), 3) := by decide +kernel
theorem dX2_readThin_59 : decode cX2_readThin 59 = .ok (.return_, 1) := by decide +kernel
theorem dX2_layOn_0 : decode cX2_layOn 0 = .ok (.iload_n 2, 1) := by decide +kernel
theorem dX2_layOn_1 : decode cX2_layOn 1 = .ok (.iconst 3, 1) := by decide +kernel
theorem dX2_layOn_2 : decode cX2_layOn 2 = .ok (.if_icmp .lt 4, 3) := by decide +kernel
theorem dX2_layOn_5 : decode cX2_layOn 5 = .ok (.return_, 1) := by decide +kernel
theorem dX2_layOn_6 : decode cX2_layOn 6 = .ok (.iconst 0, 1) := by decide +kernel
theorem dX2_layOn_7 : decode cX2_layOn 7 = .ok (.istore 4, 2) := by decide +kernel
theorem dX2_layOn_9 : decode cX2_layOn 9 = .ok (.iload 4, 2) := by decide +kernel
theorem dX2_layOn_11 : decode cX2_layOn 11 = .ok (.bipush 12, 2) := by decide +kernel
theorem dX2_layOn_13 : decode cX2_layOn 13 = .ok (.if_icmp .ge 123, 3) := by decide +kernel
theorem dX2_layOn_16 : decode cX2_layOn 16 = .ok (.iload_n 3, 1) := by decide +kernel
theorem dX2_layOn_17 : decode cX2_layOn 17 = .ok (.iload 4, 2) := by decide +kernel
theorem dX2_layOn_19 : decode cX2_layOn 19 = .ok (.ishr, 1) := by decide +kernel
theorem dX2_layOn_20 : decode cX2_layOn 20 = .ok (.iconst 1, 1) := by decide +kernel
theorem dX2_layOn_21 : decode cX2_layOn 21 = .ok (.iand, 1) := by decide +kernel
theorem dX2_layOn_22 : decode cX2_layOn 22 = .ok (.iconst 1, 1) := by decide +kernel
theorem dX2_layOn_23 : decode cX2_layOn 23 = .ok (.if_icmp .ne 107, 3) := by decide +kernel
theorem dX2_layOn_26 : decode cX2_layOn 26 = .ok (.aload_n 0, 1) := by decide +kernel
theorem dX2_layOn_27 : decode cX2_layOn 27 = .ok (.getfield 33, 3) := by decide +kernel
theorem dX2_layOn_30 : decode cX2_layOn 30 = .ok (.iload_n 2, 1) := by decide +kernel
theorem dX2_layOn_31 : decode cX2_layOn 31 = .ok (.aaload, 1) := by decide +kernel
theorem dX2_layOn_32 : decode cX2_layOn 32 = .ok (.iconst 0, 1) := by decide +kernel
theorem dX2_layOn_33 : decode cX2_layOn 33 = .ok (.aload_n 0, 1) := by decide +kernel
theorem dX2_layOn_34 : decode cX2_layOn 34 = .ok (.getfield 33, 3) := by decide +kernel
theorem dX2_layOn_37 : decode cX2_layOn 37 = .ok (.iload_n 2, 1) := by decide +kernel
theorem dX2_layOn_38 : decode cX2_layOn 38 = .ok (.iconst 1, 1) := by decide +kernel
theorem dX2_layOn_39 : decode cX2_layOn 39 = .ok (.iadd, 1) := by decide +kernel
theorem dX2_layOn_40 : decode cX2_layOn 40 = .ok (.aaload, 1) := by decide +kernel
theorem dX2_layOn_41 : decode cX2_layOn 41 = .ok (.iconst 0, 1) := by decide +kernel
theorem dX2_layOn_42 : decode cX2_layOn 42 = .ok (.bipush 8, 2) := by decide +kernel
theorem dX2_layOn_44 : decode cX2_layOn 44 = .ok (.invokestatic 39, 3) := by decide +kernel
theorem dX2_layOn_47 : decode cX2_layOn 47 = .ok (.iconst 0, 1) := by decide +kernel
theorem dX2_layOn_48 : decode cX2_layOn 48 = .ok (.istore 5, 2) := by decide +kernel
theorem dX2_layOn_50 : decode cX2_layOn 50 = .ok (.iconst 1, 1) := by decide +kernel
theorem dX2_layOn_51 : decode cX2_layOn 51 = .ok (.istore 6, 2) := by decide +kernel
theorem dX2_layOn_53 : decode cX2_layOn 53 = .ok (.iload 6, 2) := by decide +kernel
theorem dX2_layOn_55 : decode cX2_layOn 55 = .ok (.iconst 4, 1) := by decide +kernel
theorem dX2_layOn_56 : decode cX2_layOn 56 = .ok (.if_icmp .gt 74, 3) := by decide +kernel
theorem dX2_layOn_59 : decode cX2_layOn 59 = .ok (.aload_n 0, 1) := by decide +kernel
theorem dX2_layOn_60 : decode cX2_layOn 60 = .ok (.aload_n 1, 1) := by decide +kernel
theorem dX2_layOn_61 : decode cX2_layOn 61 = .ok (.aload_n 0, 1) := by decide +kernel
theorem dX2_layOn_62 : decode cX2_layOn 62 = .ok (.getfield 33, 3) := by decide +kernel
theorem dX2_layOn_65 : decode cX2_layOn 65 = .ok (.iload_n 2, 1) := by decide +kernel
theorem dX2_layOn_66 : decode cX2_layOn 66 = .ok (.iconst 1, 1) := by decide +kernel
theorem dX2_layOn_67 : decode cX2_layOn 67 = .ok (.iadd, 1) := by decide +kernel
theorem dX2_layOn_68 : decode cX2_layOn 68 = .ok (.aaload, 1) := by decide +kernel
theorem dX2_layOn_69 : decode cX2_layOn 69 = .ok (.iload 4, 2) := by decide +kernel
theorem dX2_layOn_71 : decode cX2_layOn 71 = .ok (.iload 6, 2) := by decide +kernel
theorem dX2_layOn_73 : decode cX2_layOn 73 = .ok (.iload 5, 2) := by decide +kernel
theorem dX2_layOn_75 : decode cX2_layOn 75 = .ok (.isub, 1) := by decide +kernel
theorem dX2_layOn_76 : decode cX2_layOn 76 = .ok (.invokevirtual 89, 3) := by decide +kernel
theorem dX2_layOn_79 : decode cX2_layOn 79 = .ok (.iload 6, 2) := by decide +kernel
theorem dX2_layOn_81 : decode cX2_layOn 81 = .ok (.istore 5, 2) := by decide +kernel
theorem dX2_layOn_83 : decode cX2_layOn 83 = .ok (.aload_n 0, 1) := by decide +kernel
theorem dX2_layOn_84 : decode cX2_layOn 84 = .ok (.getfield 36, 3) := by decide +kernel
theorem dX2_layOn_87 : decode cX2_layOn 87 = .ok (.iload_n 2, 1) := by decide +kernel
theorem dX2_layOn_88 : decode cX2_layOn 88 = .ok (.bipush 10, 2) := by decide +kernel
theorem dX2_layOn_90 : decode cX2_layOn 90 = .ok (.iload 4, 2) := by decide +kernel
theorem dX2_layOn_92 : decode cX2_layOn 92 = .ok (.imul, 1) := by decide +kernel
theorem dX2_layOn_93 : decode cX2_layOn 93 = .ok (.iload 6, 2) := by decide +kernel
theorem dX2_layOn_95 : decode cX2_layOn 95 = .ok (.iadd, 1) := by decide +kernel
theorem dX2_layOn_96 : decode cX2_layOn 96 = .ok (.iastore, 1) := by decide +kernel
theorem dX2_layOn_97 : decode cX2_layOn 97 = .ok (.aload_n 0, 1) := by decide +kernel
theorem dX2_layOn_98 : decode cX2_layOn 98 = .ok (.aload_n 1, 1) := by decide +kernel
theorem dX2_layOn_99 : decode cX2_layOn 99 = .ok (.iload_n 2, 1) := by decide +kernel
theorem dX2_layOn_100 : decode cX2_layOn 100 = .ok (.iconst 1, 1) := by decide +kernel
theorem dX2_layOn_101 : decode cX2_layOn 101 = .ok (.iadd, 1) := by decide +kernel
theorem dX2_layOn_102 : decode cX2_layOn 102 = .ok (.invokevirtual 93, 3) := by decide +kernel
theorem dX2_layOn_105 : decode cX2_layOn 105 = .ok (.aload_n 0, 1) := by decide +kernel
theorem dX2_layOn_106 : decode cX2_layOn 106 = .ok (.aload_n 1, 1) := by decide +kernel
theorem dX2_layOn_107 : decode cX2_layOn 107 = .ok (.iload_n 2, 1) := by decide +kernel
theorem dX2_layOn_108 : decode cX2_layOn 108 = .ok (.iconst 1, 1) := by decide +kernel
theorem dX2_layOn_109 : decode cX2_layOn 109 = .ok (.iadd, 1) := by decide +kernel
theorem dX2_layOn_110 : decode cX2_layOn 110 = .ok (.iload_n 3, 1) := by decide +kernel
theorem dX2_layOn_111 : decode cX2_layOn 111 = .ok (.iconst 1, 1) := by decide +kernel
theorem dX2_layOn_112 : decode cX2_layOn 112 = .ok (.iload 4, 2) := by decide +kernel
theorem dX2_layOn_114 : decode cX2_layOn 114 = .ok (.ishl, 1) := by decide +kernel
theorem dX2_layOn_115 : decode cX2_layOn 115 = .ok (.iconst (-1), 1) := by decide +kernel
theorem dX2_layOn_116 : decode cX2_layOn 116 = .ok (.ixor, 1) := by decide +kernel
theorem dX2_layOn_117 : decode cX2_layOn 117 = .ok (.iand, 1) := by decide +kernel
theorem dX2_layOn_118 : decode cX2_layOn 118 = .ok (.invokevirtual 67, 3) := by decide +kernel
theorem dX2_layOn_121 : decode cX2_layOn 121 = .ok (.iload 6, 2) := by decide +kernel
theorem dX2_layOn_123 : decode cX2_layOn 123 = .ok (.iconst 2, 1) := by decide +kernel
theorem dX2_layOn_124 : decode cX2_layOn 124 = .ok (.imul, 1) := by decide +kernel
theorem dX2_layOn_125 : decode cX2_layOn 125 = .ok (.istore 6, 2) := by decide +kernel
theorem dX2_layOn_127 : decode cX2_layOn 127 = .ok (.goto (-74), 3) := by decide +kernel
theorem dX2_layOn_130 : decode cX2_layOn 130 = .ok (.iinc 4 1, 3) := by decide +kernel
theorem dX2_layOn_133 : decode cX2_layOn 133 = .ok (.goto (-124), 3) := by decide +kernel
theorem dX2_layOn_136 : decode cX2_layOn 136 = .ok (.return_, 1) := by decide +kernel
theorem dX2_thicken_0 : decode cX2_thicken 0 = .ok (.iconst 0, 1) := by decide +kernel
theorem dX2_thicken_1 : decode cX2_thicken 1 = .ok (.istore 5, 2) := by decide +kernel
theorem dX2_thicken_3 : decode cX2_thicken 3 = .ok (.iload 5, 2) := by decide +kernel
theorem dX2_thicken_5 : decode cX2_thicken 5 = .ok (.bipush 8, 2) := by decide +kernel
theorem dX2_thicken_7 : decode cX2_thicken 7 = .ok (.if_icmp .ge 50, 3) := by decide +kernel
theorem dX2_thicken_10 : decode cX2_thicken 10 = .ok (.aload_n 1, 1) := by decide +kernel
theorem dX2_thicken_11 : decode cX2_thicken 11 = .ok (.getfield 97, 3) := by decide +kernel
theorem dX2_thicken_14 : decode cX2_thicken 14 = .ok (.iload 5, 2) := by decide +kernel
theorem dX2_thicken_16 : decode cX2_thicken 16 = .ok (.baload, 1) := by decide +kernel
theorem dX2_thicken_17 : decode cX2_thicken 17 = .ok (.ifCond .eq 34, 3) := by decide +kernel
theorem dX2_thicken_20 : decode cX2_thicken 20 = .ok (.aload_n 2, 1) := by decide +kernel
theorem dX2_thicken_21 : decode cX2_thicken 21 = .ok (.iload 5, 2) := by decide +kernel
theorem dX2_thicken_23 : decode cX2_thicken 23 = .ok (.aload_n 0, 1) := by decide +kernel
theorem dX2_thicken_24 : decode cX2_thicken 24 = .ok (.getfield 27, 3) := by decide +kernel
theorem dX2_thicken_27 : decode cX2_thicken 27 = .ok (.iload_n 3, 1) := by decide +kernel
theorem dX2_thicken_28 : decode cX2_thicken 28 = .ok (.aaload, 1) := by decide +kernel
theorem dX2_thicken_29 : decode cX2_thicken 29 = .ok (.iload 5, 2) := by decide +kernel
theorem dX2_thicken_31 : decode cX2_thicken 31 = .ok (.iaload, 1) := by decide +kernel
theorem dX2_thicken_32 : decode cX2_thicken 32 = .ok (.aload_n 0, 1) := by decide +kernel
theorem dX2_thicken_33 : decode cX2_thicken 33 = .ok (.getfield 30, 3) := by decide +kernel
theorem dX2_thicken_36 : decode cX2_thicken 36 = .ok (.iload_n 3, 1) := by decide +kernel
theorem dX2_thicken_37 : decode cX2_thicken 37 = .ok (.aaload, 1) := by decide +kernel
theorem dX2_thicken_38 : decode cX2_thicken 38 = .ok (.iload 5, 2) := by decide +kernel
theorem dX2_thicken_40 : decode cX2_thicken 40 = .ok (.iaload, 1) := by decide +kernel
theorem dX2_thicken_41 : decode cX2_thicken 41 = .ok (.iload 4, 2) := by decide +kernel
theorem dX2_thicken_43 : decode cX2_thicken 43 = .ok (.aload_n 2, 1) := by decide +kernel
theorem dX2_thicken_44 : decode cX2_thicken 44 = .ok (.iload 5, 2) := by decide +kernel
theorem dX2_thicken_46 : decode cX2_thicken 46 = .ok (.iaload, 1) := by decide +kernel
theorem dX2_thicken_47 : decode cX2_thicken 47 = .ok (.invokestatic 101, 3) := by decide +kernel
theorem dX2_thicken_50 : decode cX2_thicken 50 = .ok (.iastore, 1) := by decide +kernel
theorem dX2_thicken_51 : decode cX2_thicken 51 = .ok (.iinc 5 1, 3) := by decide +kernel
theorem dX2_thicken_54 : decode cX2_thicken 54 = .ok (.goto (-51), 3) := by decide +kernel
theorem dX2_thicken_57 : decode cX2_thicken 57 = .ok (.return_, 1) := by decide +kernel
theorem dX2_weigh_0 : decode cX2_weigh 0 = .ok (.iconst 0, 1) := by decide +kernel
theorem dX2_weigh_1 : decode cX2_weigh 1 = .ok (.istore_n 3, 1) := by decide +kernel
theorem dX2_weigh_2 : decode cX2_weigh 2 = .ok (.iconst 0, 1) := by decide +kernel
theorem dX2_weigh_3 : decode cX2_weigh 3 = .ok (.istore 4, 2) := by decide +kernel
theorem dX2_weigh_5 : decode cX2_weigh 5 = .ok (.iload 4, 2) := by decide +kernel
theorem dX2_weigh_7 : decode cX2_weigh 7 = .ok (.iconst 3, 1) := by decide +kernel
theorem dX2_weigh_8 : decode cX2_weigh 8 = .ok (.if_icmp .ge 43, 3) := by decide +kernel
theorem dX2_weigh_11 : decode cX2_weigh 11 = .ok (.iload_n 3, 1) := by decide +kernel
theorem dX2_weigh_12 : decode cX2_weigh 12 = .ok (.aload_n 0, 1) := by decide +kernel
theorem dX2_weigh_13 : decode cX2_weigh 13 = .ok (.getfield 15, 3) := by decide +kernel
theorem dX2_weigh_16 : decode cX2_weigh 16 = .ok (.if_icmp .gt 35, 3) := by decide +kernel
theorem dX2_weigh_19 : decode cX2_weigh 19 = .ok (.iload_n 3, 1) := by decide +kernel
theorem dX2_weigh_20 : decode cX2_weigh 20 = .ok (.aload_n 1, 1) := by decide +kernel
theorem dX2_weigh_21 : decode cX2_weigh 21 = .ok (.iload 4, 2) := by decide +kernel
theorem dX2_weigh_23 : decode cX2_weigh 23 = .ok (.aload_n 0, 1) := by decide +kernel
theorem dX2_weigh_24 : decode cX2_weigh 24 = .ok (.getfield 33, 3) := by decide +kernel
theorem dX2_weigh_27 : decode cX2_weigh 27 = .ok (.iload_n 2, 1) := by decide +kernel
theorem dX2_weigh_28 : decode cX2_weigh 28 = .ok (.aaload, 1) := by decide +kernel
theorem dX2_weigh_29 : decode cX2_weigh 29 = .ok (.invokevirtual 105, 3) := by decide +kernel
theorem dX2_weigh_32 : decode cX2_weigh 32 = .ok (.aload_n 0, 1) := by decide +kernel
theorem dX2_weigh_33 : decode cX2_weigh 33 = .ok (.getfield 22, 3) := by decide +kernel
theorem dX2_weigh_36 : decode cX2_weigh 36 = .ok (.iload 4, 2) := by decide +kernel
theorem dX2_weigh_38 : decode cX2_weigh 38 = .ok (.iaload, 1) := by decide +kernel
theorem dX2_weigh_39 : decode cX2_weigh 39 = .ok (.isub, 1) := by decide +kernel
theorem dX2_weigh_40 : decode cX2_weigh 40 = .ok (.invokestatic 109, 3) := by decide +kernel
theorem dX2_weigh_43 : decode cX2_weigh 43 = .ok (.iadd, 1) := by decide +kernel
theorem dX2_weigh_44 : decode cX2_weigh 44 = .ok (.istore_n 3, 1) := by decide +kernel
theorem dX2_weigh_45 : decode cX2_weigh 45 = .ok (.iinc 4 1, 3) := by decide +kernel
theorem dX2_weigh_48 : decode cX2_weigh 48 = .ok (.goto (-43), 3) := by decide +kernel
theorem dX2_weigh_51 : decode cX2_weigh 51 = .ok (.iload_n 3, 1) := by decide +kernel
theorem dX2_weigh_52 : decode cX2_weigh 52 = .ok (.aload_n 0, 1) := by decide +kernel
theorem dX2_weigh_53 : decode cX2_weigh 53 = .ok (.getfield 15, 3) := by decide +kernel
theorem dX2_weigh_56 : decode cX2_weigh 56 = .ok (.if_icmp .lt 19, 3) := by decide +kernel
theorem dX2_weigh_59 : decode cX2_weigh 59 = .ok (.iload_n 3, 1) := by decide +kernel
theorem dX2_weigh_60 : decode cX2_weigh 60 = .ok (.aload_n 0, 1) := by decide +kernel
theorem dX2_weigh_61 : decode cX2_weigh 61 = .ok (.getfield 15, 3) := by decide +kernel
theorem dX2_weigh_64 : decode cX2_weigh 64 = .ok (.if_icmp .ne 35, 3) := by decide +kernel
theorem dX2_weigh_67 : decode cX2_weigh 67 = .ok (.iload_n 2, 1) := by decide +kernel
theorem dX2_weigh_68 : decode cX2_weigh 68 = .ok (.aload_n 0, 1) := by decide +kernel
theorem dX2_weigh_69 : decode cX2_weigh 69 = .ok (.getfield 9, 3) := by decide +kernel
theorem dX2_weigh_72 : decode cX2_weigh 72 = .ok (.if_icmp .ge 27, 3) := by decide +kernel
theorem dX2_weigh_75 : decode cX2_weigh 75 = .ok (.aload_n 0, 1) := by decide +kernel
theorem dX2_weigh_76 : decode cX2_weigh 76 = .ok (.iload_n 3, 1) := by decide +kernel
theorem dX2_weigh_77 : decode cX2_weigh 77 = .ok (.putfield 15, 3) := by decide +kernel
theorem dX2_weigh_80 : decode cX2_weigh 80 = .ok (.aload_n 0, 1) := by decide +kernel
theorem dX2_weigh_81 : decode cX2_weigh 81 = .ok (.iload_n 2, 1) := by decide +kernel
theorem dX2_weigh_82 : decode cX2_weigh 82 = .ok (.putfield 9, 3) := by decide +kernel
theorem dX2_weigh_85 : decode cX2_weigh 85 = .ok (.aload_n 0, 1) := by decide +kernel
theorem dX2_weigh_86 : decode cX2_weigh 86 = .ok (.getfield 36, 3) := by decide +kernel
theorem dX2_weigh_89 : decode cX2_weigh 89 = .ok (.iconst 0, 1) := by decide +kernel
theorem dX2_weigh_90 : decode cX2_weigh 90 = .ok (.aload_n 0, 1) := by decide +kernel
theorem dX2_weigh_91 : decode cX2_weigh 91 = .ok (.getfield 18, 3) := by decide +kernel
theorem dX2_weigh_94 : decode cX2_weigh 94 = .ok (.iconst 0, 1) := by decide +kernel
theorem dX2_weigh_95 : decode cX2_weigh 95 = .ok (.iload_n 2, 1) := by decide +kernel
theorem dX2_weigh_96 : decode cX2_weigh 96 = .ok (.invokestatic 39, 3) := by decide +kernel
theorem dX2_weigh_99 : decode cX2_weigh 99 = .ok (.return_, 1) := by decide +kernel
theorem dX3_init_0 : decode cX3_init 0 = .ok (.aload_n 0, 1) := by decide +kernel
theorem dX3_init_1 : decode cX3_init 1 = .ok (.invokespecial 3, 3) := by decide +kernel
theorem dX3_init_4 : decode cX3_init 4 = .ok (.aload_n 0, 1) := by decide +kernel
theorem dX3_init_5 : decode cX3_init 5 = .ok (.new 9, 3) := by decide +kernel
theorem dX3_init_8 : decode cX3_init 8 = .ok (.dup, 1) := by decide +kernel
theorem dX3_init_9 : decode cX3_init 9 = .ok (.invokespecial 11, 3) := by decide +kernel
theorem dX3_init_12 : decode cX3_init 12 = .ok (.putfield 12, 3) := by decide +kernel
theorem dX3_init_15 : decode cX3_init 15 = .ok (.aload_n 0, 1) := by decide +kernel
theorem dX3_init_16 : decode cX3_init 16 = .ok (.bipush 8, 2) := by decide +kernel
theorem dX3_init_18 : decode cX3_init 18 = .ok (.newarray .int, 2) := by decide +kernel
theorem dX3_init_20 : decode cX3_init 20 = .ok (.putfield 18, 3) := by decide +kernel
theorem dX3_init_23 : decode cX3_init 23 = .ok (.aload_n 0, 1) := by decide +kernel
theorem dX3_init_24 : decode cX3_init 24 = .ok (.bipush 8, 2) := by decide +kernel
theorem dX3_init_26 : decode cX3_init 26 = .ok (.newarray .int, 2) := by decide +kernel
theorem dX3_init_28 : decode cX3_init 28 = .ok (.putfield 22, 3) := by decide +kernel
theorem dX3_init_31 : decode cX3_init 31 = .ok (.aload_n 0, 1) := by decide +kernel
theorem dX3_init_32 : decode cX3_init 32 = .ok (.bipush 8, 2) := by decide +kernel
theorem dX3_init_34 : decode cX3_init 34 = .ok (.newarray .int, 2) := by decide +kernel
theorem dX3_init_36 : decode cX3_init 36 = .ok (.putfield 25, 3) := by decide +kernel
theorem dX3_init_39 : decode cX3_init 39 = .ok (.aload_n 0, 1) := by decide +kernel
theorem dX3_init_40 : decode cX3_init 40 = .ok (.bipush 8, 2) := by decide +kernel
theorem dX3_init_42 : decode cX3_init 42 = .ok (.newarray .int, 2) := by decide +kernel
theorem dX3_init_44 : decode cX3_init 44 = .ok (.putfield 28, 3) := by decide +kernel
theorem dX3_init_47 : decode cX3_init 47 = .ok (.aload_n 0, 1) := by decide +kernel
theorem dX3_init_48 : decode cX3_init 48 = .ok (.getfield 12, 3) := by decide +kernel
theorem dX3_init_51 : decode cX3_init 51 = .ok (.aload_n 1, 1) := by decide +kernel
theorem dX3_init_52 : decode cX3_init 52 = .ok (.invokevirtual 31, 3) := by decide +kernel
theorem dX3_init_55 : decode cX3_init 55 = .ok (.aload_n 0, 1) := by decide +kernel
theorem dX3_init_56 : decode cX3_init 56 = .ok (.iload_n 2, 1) := by decide +kernel
theorem dX3_init_57 : decode cX3_init 57 = .ok (.putfield 35, 3) := by decide +kernel
theorem dX3_init_60 : decode cX3_init 60 = .ok (.aload_n 0, 1) := by decide +kernel
theorem dX3_init_61 : decode cX3_init 61 = .ok (.iload_n 3, 1) := by decide +kernel
theorem dX3_init_62 : decode cX3_init 62 = .ok (.putfield 39, 3) := by decide +kernel
theorem dX3_init_65 : decode cX3_init 65 = .ok (.aload_n 0, 1) := by decide +kernel
theorem dX3_init_66 : decode cX3_init 66 = .ok (.getfield 25, 3) := by decide +kernel
theorem dX3_init_69 : decode cX3_init 69 = .ok (.iconst (-1), 1) := by decide +kernel
theorem dX3_init_70 : decode cX3_init 70 = .ok (.invokestatic 42, 3) := by decide +kernel
theorem dX3_init_73 : decode cX3_init 73 = .ok (.return_, 1) := by decide +kernel
theorem dX3_sentOver_0 : decode cX3_sentOver 0 = .ok (.aload_n 0, 1) := by decide +kernel
theorem dX3_sentOver_1 : decode cX3_sentOver 1 = .ok (.getfield 12, 3) := by decide +kernel
theorem dX3_sentOver_4 : decode cX3_sentOver 4 = .ok (.aload_n 1, 1) := by decide +kernel
theorem dX3_sentOver_5 : decode cX3_sentOver 5 = .ok (.iload_n 2, 1) := by decide +kernel
theorem dX3_sentOver_6 : decode cX3_sentOver 6 = .ok (.iload_n 3, 1) := by decide +kernel
theorem dX3_sentOver_7 : decode cX3_sentOver 7 = .ok (.aload_n 0, 1) := by decide +kernel
theorem dX3_sentOver_8 : decode cX3_sentOver 8 = .ok (.getfield 39, 3) := by decide +kernel
theorem dX3_sentOver_11 : decode cX3_sentOver 11 = .ok (.isub, 1) := by decide +kernel
theorem dX3_sentOver_12 : decode cX3_sentOver 12 = .ok (.invokevirtual 48, 3) := by decide +kernel
theorem dX3_sentOver_15 : decode cX3_sentOver 15 = .ok (.istore 5, 2) := by decide +kernel
theorem dX3_sentOver_17 : decode cX3_sentOver 17 = .ok (.aload_n 0, 1) := by decide +kernel
theorem dX3_sentOver_18 : decode cX3_sentOver 18 = .ok (.getfield 12, 3) := by decide +kernel
theorem dX3_sentOver_21 : decode cX3_sentOver 21 = .ok (.aload_n 1, 1) := by decide +kernel
theorem dX3_sentOver_22 : decode cX3_sentOver 22 = .ok (.iload_n 2, 1) := by decide +kernel
theorem dX3_sentOver_23 : decode cX3_sentOver 23 = .ok (.invokevirtual 52, 3) := by decide +kernel
theorem dX3_sentOver_26 : decode cX3_sentOver 26 = .ok (.istore 6, 2) := by decide +kernel
theorem dX3_sentOver_28 : decode cX3_sentOver 28 = .ok (.iload 5, 2) := by decide +kernel
theorem dX3_sentOver_30 : decode cX3_sentOver 30 = .ok (.iload 6, 2) := by decide +kernel
theorem dX3_sentOver_32 : decode cX3_sentOver 32 = .ok (.invokestatic 56, 3) := by decide +kernel
theorem dX3_sentOver_35 : decode cX3_sentOver 35 = .ok (.istore 7, 2) := by decide +kernel
theorem dX3_sentOver_37 : decode cX3_sentOver 37 = .ok (.iload 5, 2) := by decide +kernel
theorem dX3_sentOver_39 : decode cX3_sentOver 39 = .ok (.iload 6, 2) := by decide +kernel
theorem dX3_sentOver_41 : decode cX3_sentOver 41 = .ok (.invokestatic 62, 3) := by decide +kernel
theorem dX3_sentOver_44 : decode cX3_sentOver 44 = .ok (.istore 8, 2) := by decide +kernel
theorem dX3_sentOver_46 : decode cX3_sentOver 46 = .ok (.iload 4, 2) := by decide +kernel
theorem dX3_sentOver_48 : decode cX3_sentOver 48 = .ok (.aload_n 0, 1) := by decide +kernel
theorem dX3_sentOver_49 : decode cX3_sentOver 49 = .ok (.getfield 25, 3) := by decide +kernel
theorem dX3_sentOver_52 : decode cX3_sentOver 52 = .ok (.iload_n 2, 1) := by decide +kernel
theorem dX3_sentOver_53 : decode cX3_sentOver 53 = .ok (.iaload, 1) := by decide +kernel
theorem dX3_sentOver_54 : decode cX3_sentOver 54 = .ok (.if_icmp .ne 25, 3) := by decide +kernel
theorem dX3_sentOver_57 : decode cX3_sentOver 57 = .ok (.iload 7, 2) := by decide +kernel
theorem dX3_sentOver_59 : decode cX3_sentOver 59 = .ok (.aload_n 0, 1) := by decide +kernel
theorem dX3_sentOver_60 : decode cX3_sentOver 60 = .ok (.getfield 18, 3) := by decide +kernel
theorem dX3_sentOver_63 : decode cX3_sentOver 63 = .ok (.iload_n 2, 1) := by decide +kernel
theorem dX3_sentOver_64 : decode cX3_sentOver 64 = .ok (.iaload, 1) := by decide +kernel
theorem dX3_sentOver_65 : decode cX3_sentOver 65 = .ok (.if_icmp .ne 14, 3) := by decide +kernel
theorem dX3_sentOver_68 : decode cX3_sentOver 68 = .ok (.iload 8, 2) := by decide +kernel
theorem dX3_sentOver_70 : decode cX3_sentOver 70 = .ok (.aload_n 0, 1) := by decide +kernel
theorem dX3_sentOver_71 : decode cX3_sentOver 71 = .ok (.getfield 22, 3) := by decide +kernel
theorem dX3_sentOver_74 : decode cX3_sentOver 74 = .ok (.iload_n 2, 1) := by decide +kernel
theorem dX3_sentOver_75 : decode cX3_sentOver 75 = .ok (.iaload, 1) := by decide +kernel
theorem dX3_sentOver_76 : decode cX3_sentOver 76 = .ok (.if_icmp .eq 46, 3) := by decide +kernel
theorem dX3_sentOver_79 : decode cX3_sentOver 79 = .ok (.aload_n 0, 1) := by decide +kernel
theorem dX3_sentOver_80 : decode cX3_sentOver 80 = .ok (.getfield 25, 3) := by decide +kernel
theorem dX3_sentOver_83 : decode cX3_sentOver 83 = .ok (.iload_n 2, 1) := by decide +kernel
theorem dX3_sentOver_84 : decode cX3_sentOver 84 = .ok (.iload 4, 2) := by decide +kernel
theorem dX3_sentOver_86 : decode cX3_sentOver 86 = .ok (.iastore, 1) := by decide +kernel
theorem dX3_sentOver_87 : decode cX3_sentOver 87 = .ok (.aload_n 0, 1) := by decide +kernel
theorem dX3_sentOver_88 : decode cX3_sentOver 88 = .ok (.getfield 18, 3) := by decide +kernel
theorem dX3_sentOver_91 : decode cX3_sentOver 91 = .ok (.iload_n 2, 1) := by decide +kernel
theorem dX3_sentOver_92 : decode cX3_sentOver 92 = .ok (.iload 7, 2) := by decide +kernel
theorem dX3_sentOver_94 : decode cX3_sentOver 94 = .ok (.iastore, 1) := by decide +kernel
theorem dX3_sentOver_95 : decode cX3_sentOver 95 = .ok (.aload_n 0, 1) := by decide +kernel
theorem dX3_sentOver_96 : decode cX3_sentOver 96 = .ok (.getfield 22, 3) := by decide +kernel
theorem dX3_sentOver_99 : decode cX3_sentOver 99 = .ok (.iload_n 2, 1) := by decide +kernel
theorem dX3_sentOver_100 : decode cX3_sentOver 100 = .ok (.iload 8, 2) := by decide +kernel
theorem dX3_sentOver_102 : decode cX3_sentOver 102 = .ok (.iastore, 1) := by decide +kernel
theorem dX3_sentOver_103 : decode cX3_sentOver 103 = .ok (.aload_n 0, 1) := by decide +kernel
theorem dX3_sentOver_104 : decode cX3_sentOver 104 = .ok (.getfield 28, 3) := by decide +kernel
theorem dX3_sentOver_107 : decode cX3_sentOver 107 = .ok (.iload_n 2, 1) := by decide +kernel
theorem dX3_sentOver_108 : decode cX3_sentOver 108 = .ok (.iload 7, 2) := by decide +kernel
theorem dX3_sentOver_110 : decode cX3_sentOver 110 = .ok (.iload 8, 2) := by decide +kernel
theorem dX3_sentOver_112 : decode cX3_sentOver 112 = .ok (.aload_n 0, 1) := by decide +kernel
theorem dX3_sentOver_113 : decode cX3_sentOver 113 = .ok (.getfield 35, 3) := by decide +kernel
theorem dX3_sentOver_116 : decode cX3_sentOver 116 = .ok (.iload 4, 2) := by decide +kernel
theorem dX3_sentOver_118 : decode cX3_sentOver 118 = .ok (.invokestatic 65, 3) := by decide +kernel
theorem dX3_sentOver_121 : decode cX3_sentOver 121 = .ok (.iastore, 1) := by decide +kernel
theorem dX3_sentOver_122 : decode cX3_sentOver 122 = .ok (.aload_n 0, 1) := by decide +kernel
theorem dX3_sentOver_123 : decode cX3_sentOver 123 = .ok (.getfield 28, 3) := by decide +kernel
theorem dX3_sentOver_126 : decode cX3_sentOver 126 = .ok (.iload_n 2, 1) := by decide +kernel
theorem dX3_sentOver_127 : decode cX3_sentOver 127 = .ok (.iaload, 1) := by decide +kernel
theorem dX3_sentOver_128 : decode cX3_sentOver 128 = .ok (.ireturn, 1) := by decide +kernel
theorem dX4_init_0 : decode cX4_init 0 = .ok (.aload_n 0, 1) := by decide +kernel
theorem dX4_init_1 : decode cX4_init 1 = .ok (.invokespecial 3, 3) := by decide +kernel
theorem dX4_init_4 : decode cX4_init 4 = .ok (.aload_n 0, 1) := by decide +kernel
theorem dX4_init_5 : decode cX4_init 5 = .ok (.iconst 4, 1) := by decide +kernel
theorem dX4_init_6 : decode cX4_init 6 = .ok (.bipush 8, 2) := by decide +kernel
theorem dX4_init_8 : decode cX4_init 8 = .ok (.multianewarray 9 2, 4) := by decide +kernel
theorem dX4_init_12 : decode cX4_init 12 = .ok (.putfield 11, 3) := by decide +kernel
theorem dX4_init_15 : decode cX4_init 15 = .ok (.aload_n 0, 1) := by decide +kernel
theorem dX4_init_16 : decode cX4_init 16 = .ok (.iconst 3, 1) := by decide +kernel
theorem dX4_init_17 : decode cX4_init 17 = .ok (.bipush 8, 2) := by decide +kernel
theorem dX4_init_19 : decode cX4_init 19 = .ok (.multianewarray 9 2, 4) := by decide +kernel
theorem dX4_init_23 : decode cX4_init 23 = .ok (.putfield 16, 3) := by decide +kernel
theorem dX4_init_26 : decode cX4_init 26 = .ok (.aload_n 0, 1) := by decide +kernel
theorem dX4_init_27 : decode cX4_init 27 = .ok (.iconst 3, 1) := by decide +kernel
theorem dX4_init_28 : decode cX4_init 28 = .ok (.bipush 8, 2) := by decide +kernel
theorem dX4_init_30 : decode cX4_init 30 = .ok (.multianewarray 9 2, 4) := by decide +kernel
theorem dX4_init_34 : decode cX4_init 34 = .ok (.putfield 19, 3) := by decide +kernel
theorem dX4_init_37 : decode cX4_init 37 = .ok (.aload_n 0, 1) := by decide +kernel
theorem dX4_init_38 : decode cX4_init 38 = .ok (.iconst 3, 1) := by decide +kernel
theorem dX4_init_39 : decode cX4_init 39 = .ok (.newarray .int, 2) := by decide +kernel
theorem dX4_init_41 : decode cX4_init 41 = .ok (.putfield 22, 3) := by decide +kernel
theorem dX4_init_44 : decode cX4_init 44 = .ok (.aload_n 0, 1) := by decide +kernel
theorem dX4_init_45 : decode cX4_init 45 = .ok (.bipush 8, 2) := by decide +kernel
theorem dX4_init_47 : decode cX4_init 47 = .ok (.newarray .boolean, 2) := by decide +kernel
theorem dX4_init_49 : decode cX4_init 49 = .ok (.putfield 26, 3) := by decide +kernel
theorem dX4_init_52 : decode cX4_init 52 = .ok (.iconst 0, 1) := by decide +kernel
theorem dX4_init_53 : decode cX4_init 53 = .ok (.istore_n 1, 1) := by decide +kernel
theorem dX4_init_54 : decode cX4_init 54 = .ok (.iload_n 1, 1) := by decide +kernel
theorem dX4_init_55 : decode cX4_init 55 = .ok (.iconst 4, 1) := by decide +kernel
theorem dX4_init_56 : decode cX4_init 56 = .ok (.if_icmp .ge 20, 3) := by decide +kernel
theorem dX4_init_59 : decode cX4_init 59 = .ok (.aload_n 0, 1) := by decide +kernel
theorem dX4_init_60 : decode cX4_init 60 = .ok (.getfield 11, 3) := by decide +kernel
theorem dX4_init_63 : decode cX4_init 63 = .ok (.iload_n 1, 1) := by decide +kernel
theorem dX4_init_64 : decode cX4_init 64 = .ok (.aaload, 1) := by decide +kernel
theorem dX4_init_65 : decode cX4_init 65 = .ok (.bipush 10, 2) := by decide +kernel
theorem dX4_init_67 : decode cX4_init 67 = .ok (.invokestatic 30, 3) := by decide +kernel
theorem dX4_init_70 : decode cX4_init 70 = .ok (.iinc 1 1, 3) := by decide +kernel
theorem dX4_init_73 : decode cX4_init 73 = .ok (.goto (-19), 3) := by decide +kernel
theorem dX4_init_76 : decode cX4_init 76 = .ok (.iconst 0, 1) := by decide +kernel
theorem dX4_init_77 : decode cX4_init 77 = .ok (.istore_n 1, 1) := by decide +kernel
theorem dX4_init_78 : decode cX4_init 78 = .ok (.iload_n 1, 1) := by decide +kernel
theorem dX4_init_79 : decode cX4_init 79 = .ok (.iconst 3, 1) := by decide +kernel
theorem dX4_init_80 : decode cX4_init 80 = .ok (.if_icmp .ge 40, 3) := by decide +kernel
theorem dX4_init_83 : decode cX4_init 83 = .ok (.aload_n 0, 1) := by decide +kernel
theorem dX4_init_84 : decode cX4_init 84 = .ok (.getfield 16, 3) := by decide +kernel
theorem dX4_init_87 : decode cX4_init 87 = .ok (.iconst 0, 1) := by decide +kernel
theorem dX4_init_88 : decode cX4_init 88 = .ok (.aaload, 1) := by decide +kernel
theorem dX4_init_89 : decode cX4_init 89 = .ok (.iconst 5, 1) := by decide +kernel
theorem dX4_init_90 : decode cX4_init 90 = .ok (.iload_n 1, 1) := by decide +kernel
theorem dX4_init_91 : decode cX4_init 91 = .ok (.iadd, 1) := by decide +kernel
theorem dX4_init_92 : decode cX4_init 92 = .ok (.iconst 1, 1) := by decide +kernel
theorem dX4_init_93 : decode cX4_init 93 = .ok (.iastore, 1) := by decide +kernel
theorem dX4_init_94 : decode cX4_init 94 = .ok (.aload_n 0, 1) := by decide +kernel
theorem dX4_init_95 : decode cX4_init 95 = .ok (.getfield 16, 3) := by decide +kernel
theorem dX4_init_98 : decode cX4_init 98 = .ok (.iconst 1, 1) := by decide +kernel
theorem dX4_init_99 : decode cX4_init 99 = .ok (.aaload, 1) := by decide +kernel
theorem dX4_init_100 : decode cX4_init 100 = .ok (.iconst 3, 1) := by decide +kernel
theorem dX4_init_101 : decode cX4_init 101 = .ok (.iload_n 1, 1) := by decide +kernel
theorem dX4_init_102 : decode cX4_init 102 = .ok (.iadd, 1) := by decide +kernel
theorem dX4_init_103 : decode cX4_init 103 = .ok (.iconst 1, 1) := by decide +kernel
theorem dX4_init_104 : decode cX4_init 104 = .ok (.iastore, 1) := by decide +kernel
theorem dX4_init_105 : decode cX4_init 105 = .ok (.aload_n 0, 1) := by decide +kernel
theorem dX4_init_106 : decode cX4_init 106 = .ok (.getfield 16, 3) := by decide +kernel
theorem dX4_init_109 : decode cX4_init 109 = .ok (.iconst 2, 1) := by decide +kernel
theorem dX4_init_110 : decode cX4_init 110 = .ok (.aaload, 1) := by decide +kernel
theorem dX4_init_111 : decode cX4_init 111 = .ok (.iload_n 1, 1) := by decide +kernel
theorem dX4_init_112 : decode cX4_init 112 = .ok (.iconst 1, 1) := by decide +kernel
theorem dX4_init_113 : decode cX4_init 113 = .ok (.iastore, 1) := by decide +kernel
theorem dX4_init_114 : decode cX4_init 114 = .ok (.iinc 1 1, 3) := by decide +kernel
theorem dX4_init_117 : decode cX4_init 117 = .ok (.goto (-39), 3) := by decide +kernel
theorem dX4_init_120 : decode cX4_init 120 = .ok (.return_, 1) := by decide +kernel
theorem dX4_shine_0 : decode cX4_shine 0 = .ok (.aload_n 0, 1) := by decide +kernel
theorem dX4_shine_1 : decode cX4_shine 1 = .ok (.getfield 22, 3) := by decide +kernel
theorem dX4_shine_4 : decode cX4_shine 4 = .ok (.iconst 0, 1) := by decide +kernel
theorem dX4_shine_5 : decode cX4_shine 5 = .ok (.invokestatic 30, 3) := by decide +kernel
theorem dX4_shine_8 : decode cX4_shine 8 = .ok (.iconst 0, 1) := by decide +kernel
theorem dX4_shine_9 : decode cX4_shine 9 = .ok (.istore_n 2, 1) := by decide +kernel
theorem dX4_shine_10 : decode cX4_shine 10 = .ok (.iload_n 2, 1) := by decide +kernel
theorem dX4_shine_11 : decode cX4_shine 11 = .ok (.bipush 8, 2) := by decide +kernel
theorem dX4_shine_13 : decode cX4_shine 13 = .ok (.if_icmp .ge 96, 3) := by decide +kernel
theorem dX4_shine_16 : decode cX4_shine 16 = .ok (.aload_n 0, 1) := by decide +kernel
theorem dX4_shine_17 : decode cX4_shine 17 = .ok (.getfield 26, 3) := by decide +kernel
theorem dX4_shine_20 : decode cX4_shine 20 = .ok (.iload_n 2, 1) := by decide +kernel
theorem dX4_shine_21 : decode cX4_shine 21 = .ok (.iconst 0, 1) := by decide +kernel
theorem dX4_shine_22 : decode cX4_shine 22 = .ok (.bastore, 1) := by decide +kernel
theorem dX4_shine_23 : decode cX4_shine 23 = .ok (.iconst 0, 1) := by decide +kernel
theorem dX4_shine_24 : decode cX4_shine 24 = .ok (.istore_n 3, 1) := by decide +kernel
theorem dX4_shine_25 : decode cX4_shine 25 = .ok (.iload_n 3, 1) := by decide +kernel
theorem dX4_shine_26 : decode cX4_shine 26 = .ok (.iconst 3, 1) := by decide +kernel
theorem dX4_shine_27 : decode cX4_shine 27 = .ok (.if_icmp .ge 76, 3) := by decide +kernel
theorem dX4_shine_30 : decode cX4_shine 30 = .ok (.aload_n 0, 1) := by decide +kernel
theorem dX4_shine_31 : decode cX4_shine 31 = .ok (.getfield 19, 3) := by decide +kernel
theorem dX4_shine_34 : decode cX4_shine 34 = .ok (.iload_n 3, 1) := by decide +kernel
theorem dX4_shine_35 : decode cX4_shine 35 = .ok (.aaload, 1) := by decide +kernel
theorem dX4_shine_36 : decode cX4_shine 36 = .ok (.iload_n 2, 1) := by decide +kernel
theorem dX4_shine_37 : decode cX4_shine 37 = .ok (.aload_n 0, 1) := by decide +kernel
theorem dX4_shine_38 : decode cX4_shine 38 = .ok (.getfield 11, 3) := by decide +kernel
theorem dX4_shine_41 : decode cX4_shine 41 = .ok (.iload_n 1, 1) := by decide +kernel
theorem dX4_shine_42 : decode cX4_shine 42 = .ok (.aaload, 1) := by decide +kernel
theorem dX4_shine_43 : decode cX4_shine 43 = .ok (.iload_n 2, 1) := by decide +kernel
theorem dX4_shine_44 : decode cX4_shine 44 = .ok (.iaload, 1) := by decide +kernel
theorem dX4_shine_45 : decode cX4_shine 45 = .ok (.aload_n 0, 1) := by decide +kernel
theorem dX4_shine_46 : decode cX4_shine 46 = .ok (.getfield 16, 3) := by decide +kernel
theorem dX4_shine_49 : decode cX4_shine 49 = .ok (.iload_n 3, 1) := by decide +kernel
theorem dX4_shine_50 : decode cX4_shine 50 = .ok (.aaload, 1) := by decide +kernel
theorem dX4_shine_51 : decode cX4_shine 51 = .ok (.iload_n 2, 1) := by decide +kernel
theorem dX4_shine_52 : decode cX4_shine 52 = .ok (.iaload, 1) := by decide +kernel
theorem dX4_shine_53 : decode cX4_shine 53 = .ok (.imul, 1) := by decide +kernel
theorem dX4_shine_54 : decode cX4_shine 54 = .ok (.iastore, 1) := by decide +kernel
theorem dX4_shine_55 : decode cX4_shine 55 = .ok (.aload_n 0, 1) := by decide +kernel
theorem dX4_shine_56 : decode cX4_shine 56 = .ok (.getfield 22, 3) := by decide +kernel
theorem dX4_shine_59 : decode cX4_shine 59 = .ok (.iload_n 3, 1) := by decide +kernel
theorem dX4_shine_60 : decode cX4_shine 60 = .ok (.dup2, 1) := by decide +kernel
theorem dX4_shine_61 : decode cX4_shine 61 = .ok (.iaload, 1) := by decide +kernel
theorem dX4_shine_62 : decode cX4_shine 62 = .ok (.aload_n 0, 1) := by decide +kernel
theorem dX4_shine_63 : decode cX4_shine 63 = .ok (.getfield 19, 3) := by decide +kernel
theorem dX4_shine_66 : decode cX4_shine 66 = .ok (.iload_n 3, 1) := by decide +kernel
theorem dX4_shine_67 : decode cX4_shine 67 = .ok (.aaload, 1) := by decide +kernel
theorem dX4_shine_68 : decode cX4_shine 68 = .ok (.iload_n 2, 1) := by decide +kernel
theorem dX4_shine_69 : decode cX4_shine 69 = .ok (.iaload, 1) := by decide +kernel
theorem dX4_shine_70 : decode cX4_shine 70 = .ok (.iadd, 1) := by decide +kernel
theorem dX4_shine_71 : decode cX4_shine 71 = .ok (.iastore, 1) := by decide +kernel
theorem dX4_shine_72 : decode cX4_shine 72 = .ok (.aload_n 0, 1) := by decide +kernel
theorem dX4_shine_73 : decode cX4_shine 73 = .ok (.getfield 26, 3) := by decide +kernel
theorem dX4_shine_76 : decode cX4_shine 76 = .ok (.iload_n 2, 1) := by decide +kernel
theorem dX4_shine_77 : decode cX4_shine 77 = .ok (.dup2, 1) := by decide +kernel
theorem dX4_shine_78 : decode cX4_shine 78 = .ok (.baload, 1) := by decide +kernel
theorem dX4_shine_79 : decode cX4_shine 79 = .ok (.aload_n 0, 1) := by decide +kernel
theorem dX4_shine_80 : decode cX4_shine 80 = .ok (.getfield 19, 3) := by decide +kernel
theorem dX4_shine_83 : decode cX4_shine 83 = .ok (.iload_n 3, 1) := by decide +kernel
theorem dX4_shine_84 : decode cX4_shine 84 = .ok (.aaload, 1) := by decide +kernel
theorem dX4_shine_85 : decode cX4_shine 85 = .ok (.iload_n 2, 1) := by decide +kernel
theorem dX4_shine_86 : decode cX4_shine 86 = .ok (.iaload, 1) := by decide +kernel
theorem dX4_shine_87 : decode cX4_shine 87 = .ok (.ifCond .le 7, 3) := by decide +kernel
theorem dX4_shine_90 : decode cX4_shine 90 = .ok (.iconst 1, 1) := by decide +kernel
theorem dX4_shine_91 : decode cX4_shine 91 = .ok (.goto 4, 3) := by decide +kernel
theorem dX4_shine_94 : decode cX4_shine 94 = .ok (.iconst 0, 1) := by decide +kernel
theorem dX4_shine_95 : decode cX4_shine 95 = .ok (.ior, 1) := by decide +kernel
theorem dX4_shine_96 : decode cX4_shine 96 = .ok (.bastore, 1) := by decide +kernel
theorem dX4_shine_97 : decode cX4_shine 97 = .ok (.iinc 3 1, 3) := by decide +kernel
theorem dX4_shine_100 : decode cX4_shine 100 = .ok (.goto (-75), 3) := by decide +kernel
theorem dX4_shine_103 : decode cX4_shine 103 = .ok (.iinc 2 1, 3) := by decide +kernel
theorem dX4_shine_106 : decode cX4_shine 106 = .ok (.goto (-96), 3) := by decide +kernel
theorem dX4_shine_109 : decode cX4_shine 109 = .ok (.return_, 1) := by decide +kernel
theorem dX4_bySight_0 : decode cX4_bySight 0 = .ok (.aload_n 0, 1) := by decide +kernel
theorem dX4_bySight_1 : decode cX4_bySight 1 = .ok (.getfield 22, 3) := by decide +kernel
theorem dX4_bySight_4 : decode cX4_bySight 4 = .ok (.iload_n 1, 1) := by decide +kernel
theorem dX4_bySight_5 : decode cX4_bySight 5 = .ok (.iaload, 1) := by decide +kernel
theorem dX4_bySight_6 : decode cX4_bySight 6 = .ok (.ifCond .gt 5, 3) := by decide +kernel
theorem dX4_bySight_9 : decode cX4_bySight 9 = .ok (.iconst 0, 1) := by decide +kernel
theorem dX4_bySight_10 : decode cX4_bySight 10 = .ok (.ireturn, 1) := by decide +kernel
theorem dX4_bySight_11 : decode cX4_bySight 11 = .ok (.aload_n 0, 1) := by decide +kernel
theorem dX4_bySight_12 : decode cX4_bySight 12 = .ok (.getfield 19, 3) := by decide +kernel
end
section
theorem dX4_bySight_15 : decode cX4_bySight 15 = .ok (.iload_n 1, 1) := by decide +kernel
theorem dX4_bySight_16 : decode cX4_bySight 16 = .ok (.aaload, 1) := by decide +kernel
theorem dX4_bySight_17 : decode cX4_bySight 17 = .ok (.astore_n 3, 1) := by decide +kernel
theorem dX4_bySight_18 : decode cX4_bySight 18 = .ok (.iconst 0, 1) := by decide +kernel
theorem dX4_bySight_19 : decode cX4_bySight 19 = .ok (.istore 4, 2) := by decide +kernel
theorem dX4_bySight_21 : decode cX4_bySight 21 = .ok (.iconst 0, 1) := by decide +kernel
theorem dX4_bySight_22 : decode cX4_bySight 22 = .ok (.istore 5, 2) := by decide +kernel
theorem dX4_bySight_24 : decode cX4_bySight 24 = .ok (.iload 5, 2) := by decide +kernel
theorem dX4_bySight_26 : decode cX4_bySight 26 = .ok (.bipush 8, 2) := by decide +kernel
theorem dX4_bySight_28 : decode cX4_bySight 28 = .ok (.if_icmp .ge 23, 3) := by decide +kernel
theorem dX4_bySight_31 : decode cX4_bySight 31 = .ok (.iload 4, 2) := by decide +kernel
theorem dX4_bySight_33 : decode cX4_bySight 33 = .ok (.aload_n 3, 1) := by decide +kernel
theorem dX4_bySight_34 : decode cX4_bySight 34 = .ok (.iload 5, 2) := by decide +kernel
theorem dX4_bySight_36 : decode cX4_bySight 36 = .ok (.iaload, 1) := by decide +kernel
theorem dX4_bySight_37 : decode cX4_bySight 37 = .ok (.aload_n 2, 1) := by decide +kernel
theorem dX4_bySight_38 : decode cX4_bySight 38 = .ok (.iload 5, 2) := by decide +kernel
theorem dX4_bySight_40 : decode cX4_bySight 40 = .ok (.iaload, 1) := by decide +kernel
theorem dX4_bySight_41 : decode cX4_bySight 41 = .ok (.imul, 1) := by decide +kernel
theorem dX4_bySight_42 : decode cX4_bySight 42 = .ok (.iadd, 1) := by decide +kernel
theorem dX4_bySight_43 : decode cX4_bySight 43 = .ok (.istore 4, 2) := by decide +kernel
theorem dX4_bySight_45 : decode cX4_bySight 45 = .ok (.iinc 5 1, 3) := by decide +kernel
theorem dX4_bySight_48 : decode cX4_bySight 48 = .ok (.goto (-24), 3) := by decide +kernel
theorem dX4_bySight_51 : decode cX4_bySight 51 = .ok (.iload 4, 2) := by decide +kernel
theorem dX4_bySight_53 : decode cX4_bySight 53 = .ok (.aload_n 0, 1) := by decide +kernel
theorem dX4_bySight_54 : decode cX4_bySight 54 = .ok (.getfield 22, 3) := by decide +kernel
theorem dX4_bySight_57 : decode cX4_bySight 57 = .ok (.iload_n 1, 1) := by decide +kernel
theorem dX4_bySight_58 : decode cX4_bySight 58 = .ok (.iaload, 1) := by decide +kernel
theorem dX4_bySight_59 : decode cX4_bySight 59 = .ok (.idiv, 1) := by decide +kernel
theorem dX4_bySight_60 : decode cX4_bySight 60 = .ok (.ireturn, 1) := by decide +kernel
theorem dX4_farFrom_0 : decode cX4_farFrom 0 = .ok (.iconst 0, 1) := by decide +kernel
theorem dX4_farFrom_1 : decode cX4_farFrom 1 = .ok (.istore_n 3, 1) := by decide +kernel
theorem dX4_farFrom_2 : decode cX4_farFrom 2 = .ok (.iconst 0, 1) := by decide +kernel
theorem dX4_farFrom_3 : decode cX4_farFrom 3 = .ok (.istore 4, 2) := by decide +kernel
theorem dX4_farFrom_5 : decode cX4_farFrom 5 = .ok (.iload 4, 2) := by decide +kernel
theorem dX4_farFrom_7 : decode cX4_farFrom 7 = .ok (.iconst 3, 1) := by decide +kernel
theorem dX4_farFrom_8 : decode cX4_farFrom 8 = .ok (.if_icmp .ge 27, 3) := by decide +kernel
theorem dX4_farFrom_11 : decode cX4_farFrom 11 = .ok (.iload_n 3, 1) := by decide +kernel
theorem dX4_farFrom_12 : decode cX4_farFrom 12 = .ok (.aload_n 0, 1) := by decide +kernel
theorem dX4_farFrom_13 : decode cX4_farFrom 13 = .ok (.iload 4, 2) := by decide +kernel
theorem dX4_farFrom_15 : decode cX4_farFrom 15 = .ok (.aload_n 2, 1) := by decide +kernel
theorem dX4_farFrom_16 : decode cX4_farFrom 16 = .ok (.invokevirtual 36, 3) := by decide +kernel
theorem dX4_farFrom_19 : decode cX4_farFrom 19 = .ok (.aload_n 1, 1) := by decide +kernel
theorem dX4_farFrom_20 : decode cX4_farFrom 20 = .ok (.iload 4, 2) := by decide +kernel
theorem dX4_farFrom_22 : decode cX4_farFrom 22 = .ok (.iaload, 1) := by decide +kernel
theorem dX4_farFrom_23 : decode cX4_farFrom 23 = .ok (.isub, 1) := by decide +kernel
theorem dX4_farFrom_24 : decode cX4_farFrom 24 = .ok (.invokestatic 40, 3) := by decide +kernel
theorem dX4_farFrom_27 : decode cX4_farFrom 27 = .ok (.iadd, 1) := by decide +kernel
theorem dX4_farFrom_28 : decode cX4_farFrom 28 = .ok (.istore_n 3, 1) := by decide +kernel
theorem dX4_farFrom_29 : decode cX4_farFrom 29 = .ok (.iinc 4 1, 3) := by decide +kernel
theorem dX4_farFrom_32 : decode cX4_farFrom 32 = .ok (.goto (-27), 3) := by decide +kernel
theorem dX4_farFrom_35 : decode cX4_farFrom 35 = .ok (.iload_n 3, 1) := by decide +kernel
theorem dX4_farFrom_36 : decode cX4_farFrom 36 = .ok (.ireturn, 1) := by decide +kernel
theorem dX5_init_0 : decode cX5_init 0 = .ok (.aload_n 0, 1) := by decide +kernel
theorem dX5_init_1 : decode cX5_init 1 = .ok (.invokespecial 3, 3) := by decide +kernel
theorem dX5_init_4 : decode cX5_init 4 = .ok (.aload_n 0, 1) := by decide +kernel
theorem dX5_init_5 : decode cX5_init 5 = .ok (.iconst 0, 1) := by decide +kernel
theorem dX5_init_6 : decode cX5_init 6 = .ok (.putfield 9, 3) := by decide +kernel
theorem dX5_init_9 : decode cX5_init 9 = .ok (.aload_n 0, 1) := by decide +kernel
theorem dX5_init_10 : decode cX5_init 10 = .ok (.iconst 0, 1) := by decide +kernel
theorem dX5_init_11 : decode cX5_init 11 = .ok (.putfield 15, 3) := by decide +kernel
theorem dX5_init_14 : decode cX5_init 14 = .ok (.aload_n 0, 1) := by decide +kernel
theorem dX5_init_15 : decode cX5_init 15 = .ok (.iconst 0, 1) := by decide +kernel
theorem dX5_init_16 : decode cX5_init 16 = .ok (.putfield 19, 3) := by decide +kernel
theorem dX5_init_19 : decode cX5_init 19 = .ok (.aload_n 0, 1) := by decide +kernel
theorem dX5_init_20 : decode cX5_init 20 = .ok (.bipush 12, 2) := by decide +kernel
theorem dX5_init_22 : decode cX5_init 22 = .ok (.newarray .int, 2) := by decide +kernel
theorem dX5_init_24 : decode cX5_init 24 = .ok (.putfield 22, 3) := by decide +kernel
theorem dX5_init_27 : decode cX5_init 27 = .ok (.aload_n 0, 1) := by decide +kernel
theorem dX5_init_28 : decode cX5_init 28 = .ok (.iconst 3, 1) := by decide +kernel
theorem dX5_init_29 : decode cX5_init 29 = .ok (.newarray .int, 2) := by decide +kernel
theorem dX5_init_31 : decode cX5_init 31 = .ok (.putfield 26, 3) := by decide +kernel
theorem dX5_init_34 : decode cX5_init 34 = .ok (.return_, 1) := by decide +kernel
theorem dX5_nearest_0 : decode cX5_nearest 0 = .ok (.aload_n 3, 1) := by decide +kernel
theorem dX5_nearest_1 : decode cX5_nearest 1 = .ok (.iconst 0, 1) := by decide +kernel
theorem dX5_nearest_2 : decode cX5_nearest 2 = .ok (.aload_n 0, 1) := by decide +kernel
theorem dX5_nearest_3 : decode cX5_nearest 3 = .ok (.getfield 26, 3) := by decide +kernel
theorem dX5_nearest_6 : decode cX5_nearest 6 = .ok (.iconst 0, 1) := by decide +kernel
theorem dX5_nearest_7 : decode cX5_nearest 7 = .ok (.iconst 3, 1) := by decide +kernel
theorem dX5_nearest_8 : decode cX5_nearest 8 = .ok (.invokestatic 29, 3) := by decide +kernel
theorem dX5_nearest_11 : decode cX5_nearest 11 = .ok (.aload_n 0, 1) := by decide +kernel
theorem dX5_nearest_12 : decode cX5_nearest 12 = .ok (.iconst 1, 1) := by decide +kernel
theorem dX5_nearest_13 : decode cX5_nearest 13 = .ok (.putfield 9, 3) := by decide +kernel
theorem dX5_nearest_16 : decode cX5_nearest 16 = .ok (.aload_n 0, 1) := by decide +kernel
theorem dX5_nearest_17 : decode cX5_nearest 17 = .ok (.sipush 30001, 3) := by decide +kernel
theorem dX5_nearest_20 : decode cX5_nearest 20 = .ok (.putfield 19, 3) := by decide +kernel
theorem dX5_nearest_23 : decode cX5_nearest 23 = .ok (.aload_n 0, 1) := by decide +kernel
theorem dX5_nearest_24 : decode cX5_nearest 24 = .ok (.aload_n 1, 1) := by decide +kernel
theorem dX5_nearest_25 : decode cX5_nearest 25 = .ok (.aload_n 2, 1) := by decide +kernel
theorem dX5_nearest_26 : decode cX5_nearest 26 = .ok (.iload 4, 2) := by decide +kernel
theorem dX5_nearest_28 : decode cX5_nearest 28 = .ok (.iload 5, 2) := by decide +kernel
theorem dX5_nearest_30 : decode cX5_nearest 30 = .ok (.invokevirtual 35, 3) := by decide +kernel
theorem dX5_nearest_33 : decode cX5_nearest 33 = .ok (.aload_n 0, 1) := by decide +kernel
theorem dX5_nearest_34 : decode cX5_nearest 34 = .ok (.getfield 19, 3) := by decide +kernel
theorem dX5_nearest_37 : decode cX5_nearest 37 = .ok (.ireturn, 1) := by decide +kernel
theorem dX5_dropsOf_0 : decode cX5_dropsOf 0 = .ok (.aload_n 0, 1) := by decide +kernel
theorem dX5_dropsOf_1 : decode cX5_dropsOf 1 = .ok (.getfield 22, 3) := by decide +kernel
theorem dX5_dropsOf_4 : decode cX5_dropsOf 4 = .ok (.iload_n 1, 1) := by decide +kernel
theorem dX5_dropsOf_5 : decode cX5_dropsOf 5 = .ok (.iaload, 1) := by decide +kernel
theorem dX5_dropsOf_6 : decode cX5_dropsOf 6 = .ok (.ireturn, 1) := by decide +kernel
theorem dX5_weigh_0 : decode cX5_weigh 0 = .ok (.iconst 0, 1) := by decide +kernel
theorem dX5_weigh_1 : decode cX5_weigh 1 = .ok (.istore_n 2, 1) := by decide +kernel
theorem dX5_weigh_2 : decode cX5_weigh 2 = .ok (.iconst 0, 1) := by decide +kernel
theorem dX5_weigh_3 : decode cX5_weigh 3 = .ok (.istore_n 3, 1) := by decide +kernel
theorem dX5_weigh_4 : decode cX5_weigh 4 = .ok (.iload_n 3, 1) := by decide +kernel
theorem dX5_weigh_5 : decode cX5_weigh 5 = .ok (.iconst 3, 1) := by decide +kernel
theorem dX5_weigh_6 : decode cX5_weigh 6 = .ok (.if_icmp .ge 36, 3) := by decide +kernel
theorem dX5_weigh_9 : decode cX5_weigh 9 = .ok (.iload_n 2, 1) := by decide +kernel
theorem dX5_weigh_10 : decode cX5_weigh 10 = .ok (.aload_n 0, 1) := by decide +kernel
theorem dX5_weigh_11 : decode cX5_weigh 11 = .ok (.getfield 19, 3) := by decide +kernel
theorem dX5_weigh_14 : decode cX5_weigh 14 = .ok (.if_icmp .gt 28, 3) := by decide +kernel
theorem dX5_weigh_17 : decode cX5_weigh 17 = .ok (.iload_n 2, 1) := by decide +kernel
theorem dX5_weigh_18 : decode cX5_weigh 18 = .ok (.aload_n 0, 1) := by decide +kernel
theorem dX5_weigh_19 : decode cX5_weigh 19 = .ok (.aload_n 1, 1) := by decide +kernel
theorem dX5_weigh_20 : decode cX5_weigh 20 = .ok (.iload_n 3, 1) := by decide +kernel
theorem dX5_weigh_21 : decode cX5_weigh 21 = .ok (.invokevirtual 39, 3) := by decide +kernel
theorem dX5_weigh_24 : decode cX5_weigh 24 = .ok (.aload_n 0, 1) := by decide +kernel
theorem dX5_weigh_25 : decode cX5_weigh 25 = .ok (.getfield 26, 3) := by decide +kernel
theorem dX5_weigh_28 : decode cX5_weigh 28 = .ok (.iload_n 3, 1) := by decide +kernel
theorem dX5_weigh_29 : decode cX5_weigh 29 = .ok (.iaload, 1) := by decide +kernel
theorem dX5_weigh_30 : decode cX5_weigh 30 = .ok (.isub, 1) := by decide +kernel
theorem dX5_weigh_31 : decode cX5_weigh 31 = .ok (.invokestatic 43, 3) := by decide +kernel
theorem dX5_weigh_34 : decode cX5_weigh 34 = .ok (.iadd, 1) := by decide +kernel
theorem dX5_weigh_35 : decode cX5_weigh 35 = .ok (.istore_n 2, 1) := by decide +kernel
theorem dX5_weigh_36 : decode cX5_weigh 36 = .ok (.iinc 3 1, 3) := by decide +kernel
theorem dX5_weigh_39 : decode cX5_weigh 39 = .ok (.goto (-35), 3) := by decide +kernel
theorem dX5_weigh_42 : decode cX5_weigh 42 = .ok (.iload_n 2, 1) := by decide +kernel
theorem dX5_weigh_43 : decode cX5_weigh 43 = .ok (.aload_n 0, 1) := by decide +kernel
theorem dX5_weigh_44 : decode cX5_weigh 44 = .ok (.getfield 19, 3) := by decide +kernel
theorem dX5_weigh_47 : decode cX5_weigh 47 = .ok (.if_icmp .le 4, 3) := by decide +kernel
theorem dX5_weigh_50 : decode cX5_weigh 50 = .ok (.return_, 1) := by decide +kernel
theorem dX5_weigh_51 : decode cX5_weigh 51 = .ok (.aload_n 0, 1) := by decide +kernel
theorem dX5_weigh_52 : decode cX5_weigh 52 = .ok (.invokevirtual 49, 3) := by decide +kernel
theorem dX5_weigh_55 : decode cX5_weigh 55 = .ok (.istore_n 3, 1) := by decide +kernel
theorem dX5_weigh_56 : decode cX5_weigh 56 = .ok (.iload_n 2, 1) := by decide +kernel
theorem dX5_weigh_57 : decode cX5_weigh 57 = .ok (.aload_n 0, 1) := by decide +kernel
theorem dX5_weigh_58 : decode cX5_weigh 58 = .ok (.getfield 19, 3) := by decide +kernel
theorem dX5_weigh_61 : decode cX5_weigh 61 = .ok (.if_icmp .lt 11, 3) := by decide +kernel
theorem dX5_weigh_64 : decode cX5_weigh 64 = .ok (.iload_n 3, 1) := by decide +kernel
theorem dX5_weigh_65 : decode cX5_weigh 65 = .ok (.aload_n 0, 1) := by decide +kernel
theorem dX5_weigh_66 : decode cX5_weigh 66 = .ok (.getfield 15, 3) := by decide +kernel
theorem dX5_weigh_69 : decode cX5_weigh 69 = .ok (.if_icmp .ge 21, 3) := by decide +kernel
theorem dX5_weigh_72 : decode cX5_weigh 72 = .ok (.aload_n 0, 1) := by decide +kernel
theorem dX5_weigh_73 : decode cX5_weigh 73 = .ok (.iload_n 2, 1) := by decide +kernel
theorem dX5_weigh_74 : decode cX5_weigh 74 = .ok (.putfield 19, 3) := by decide +kernel
theorem dX5_weigh_77 : decode cX5_weigh 77 = .ok (.aload_n 0, 1) := by decide +kernel
theorem dX5_weigh_78 : decode cX5_weigh 78 = .ok (.iload_n 3, 1) := by decide +kernel
theorem dX5_weigh_79 : decode cX5_weigh 79 = .ok (.putfield 15, 3) := by decide +kernel
theorem dX5_weigh_82 : decode cX5_weigh 82 = .ok (.aload_n 0, 1) := by decide +kernel
theorem dX5_weigh_83 : decode cX5_weigh 83 = .ok (.aload_n 0, 1) := by decide +kernel
theorem dX5_weigh_84 : decode cX5_weigh 84 = .ok (.getfield 22, 3) := by decide +kernel
theorem dX5_weigh_87 : decode cX5_weigh 87 = .ok (.invokevirtual 53, 3) := by decide +kernel
theorem dX5_weigh_90 : decode cX5_weigh 90 = .ok (.return_, 1) := by decide +kernel
theorem dX6_init_0 : decode cX6_init 0 = .ok (.aload_n 0, 1) := by decide +kernel
theorem dX6_init_1 : decode cX6_init 1 = .ok (.invokespecial 3, 3) := by decide +kernel
theorem dX6_init_4 : decode cX6_init 4 = .ok (.aload_n 0, 1) := by decide +kernel
theorem dX6_init_5 : decode cX6_init 5 = .ok (.bipush 12, 2) := by decide +kernel
theorem dX6_init_7 : decode cX6_init 7 = .ok (.newarray .int, 2) := by decide +kernel
theorem dX6_init_9 : decode cX6_init 9 = .ok (.putfield 9, 3) := by decide +kernel
theorem dX6_init_12 : decode cX6_init 12 = .ok (.aload_n 0, 1) := by decide +kernel
theorem dX6_init_13 : decode cX6_init 13 = .ok (.iconst 0, 1) := by decide +kernel
theorem dX6_init_14 : decode cX6_init 14 = .ok (.putfield 15, 3) := by decide +kernel
theorem dX6_init_17 : decode cX6_init 17 = .ok (.return_, 1) := by decide +kernel
theorem dX6_of_0 : decode cX6_of 0 = .ok (.aload_n 0, 1) := by decide +kernel
theorem dX6_of_1 : decode cX6_of 1 = .ok (.getfield 9, 3) := by decide +kernel
theorem dX6_of_4 : decode cX6_of 4 = .ok (.iload_n 1, 1) := by decide +kernel
theorem dX6_of_5 : decode cX6_of 5 = .ok (.iaload, 1) := by decide +kernel
theorem dX6_of_6 : decode cX6_of 6 = .ok (.ireturn, 1) := by decide +kernel
theorem dX6_add_0 : decode cX6_add 0 = .ok (.aload_n 0, 1) := by decide +kernel
theorem dX6_add_1 : decode cX6_add 1 = .ok (.getfield 9, 3) := by decide +kernel
theorem dX6_add_4 : decode cX6_add 4 = .ok (.iload_n 1, 1) := by decide +kernel
theorem dX6_add_5 : decode cX6_add 5 = .ok (.dup2, 1) := by decide +kernel
theorem dX6_add_6 : decode cX6_add 6 = .ok (.iaload, 1) := by decide +kernel
theorem dX6_add_7 : decode cX6_add 7 = .ok (.iload_n 2, 1) := by decide +kernel
theorem dX6_add_8 : decode cX6_add 8 = .ok (.iadd, 1) := by decide +kernel
theorem dX6_add_9 : decode cX6_add 9 = .ok (.iastore, 1) := by decide +kernel
theorem dX6_add_10 : decode cX6_add 10 = .ok (.aload_n 0, 1) := by decide +kernel
theorem dX6_add_11 : decode cX6_add 11 = .ok (.dup, 1) := by decide +kernel
theorem dX6_add_12 : decode cX6_add 12 = .ok (.getfield 15, 3) := by decide +kernel
theorem dX6_add_15 : decode cX6_add 15 = .ok (.iload_n 2, 1) := by decide +kernel
theorem dX6_add_16 : decode cX6_add 16 = .ok (.iadd, 1) := by decide +kernel
theorem dX6_add_17 : decode cX6_add 17 = .ok (.putfield 15, 3) := by decide +kernel
theorem dX6_add_20 : decode cX6_add 20 = .ok (.return_, 1) := by decide +kernel
theorem dX6_addAll_0 : decode cX6_addAll 0 = .ok (.iconst 0, 1) := by decide +kernel
theorem dX6_addAll_1 : decode cX6_addAll 1 = .ok (.istore_n 2, 1) := by decide +kernel
theorem dX6_addAll_2 : decode cX6_addAll 2 = .ok (.iload_n 2, 1) := by decide +kernel
theorem dX6_addAll_3 : decode cX6_addAll 3 = .ok (.bipush 12, 2) := by decide +kernel
theorem dX6_addAll_5 : decode cX6_addAll 5 = .ok (.if_icmp .ge 20, 3) := by decide +kernel
theorem dX6_addAll_8 : decode cX6_addAll 8 = .ok (.aload_n 0, 1) := by decide +kernel
theorem dX6_addAll_9 : decode cX6_addAll 9 = .ok (.iload_n 2, 1) := by decide +kernel
theorem dX6_addAll_10 : decode cX6_addAll 10 = .ok (.aload_n 1, 1) := by decide +kernel
theorem dX6_addAll_11 : decode cX6_addAll 11 = .ok (.getfield 9, 3) := by decide +kernel
theorem dX6_addAll_14 : decode cX6_addAll 14 = .ok (.iload_n 2, 1) := by decide +kernel
theorem dX6_addAll_15 : decode cX6_addAll 15 = .ok (.iaload, 1) := by decide +kernel
theorem dX6_addAll_16 : decode cX6_addAll 16 = .ok (.invokevirtual 19, 3) := by decide +kernel
theorem dX6_addAll_19 : decode cX6_addAll 19 = .ok (.iinc 2 1, 3) := by decide +kernel
theorem dX6_addAll_22 : decode cX6_addAll 22 = .ok (.goto (-20), 3) := by decide +kernel
theorem dX6_addAll_25 : decode cX6_addAll 25 = .ok (.return_, 1) := by decide +kernel
theorem dX6_makeEmpty_0 : decode cX6_makeEmpty 0 = .ok (.aload_n 0, 1) := by decide +kernel
theorem dX6_makeEmpty_1 : decode cX6_makeEmpty 1 = .ok (.getfield 9, 3) := by decide +kernel
theorem dX6_makeEmpty_4 : decode cX6_makeEmpty 4 = .ok (.iconst 0, 1) := by decide +kernel
theorem dX6_makeEmpty_5 : decode cX6_makeEmpty 5 = .ok (.invokestatic 23, 3) := by decide +kernel
theorem dX6_makeEmpty_8 : decode cX6_makeEmpty 8 = .ok (.aload_n 0, 1) := by decide +kernel
theorem dX6_makeEmpty_9 : decode cX6_makeEmpty 9 = .ok (.iconst 0, 1) := by decide +kernel
theorem dX6_makeEmpty_10 : decode cX6_makeEmpty 10 = .ok (.putfield 15, 3) := by decide +kernel
theorem dX6_makeEmpty_13 : decode cX6_makeEmpty 13 = .ok (.return_, 1) := by decide +kernel
theorem dX6_drink_0 : decode cX6_drink 0 = .ok (.iconst 0, 1) := by decide +kernel
theorem dX6_drink_1 : decode cX6_drink 1 = .ok (.istore 4, 2) := by decide +kernel
theorem dX6_drink_3 : decode cX6_drink 3 = .ok (.iconst 0, 1) := by decide +kernel
theorem dX6_drink_4 : decode cX6_drink 4 = .ok (.istore 5, 2) := by decide +kernel
theorem dX6_drink_6 : decode cX6_drink 6 = .ok (.iload 5, 2) := by decide +kernel
theorem dX6_drink_8 : decode cX6_drink 8 = .ok (.aload_n 1, 1) := by decide +kernel
theorem dX6_drink_9 : decode cX6_drink 9 = .ok (.getfield 29, 3) := by decide +kernel
theorem dX6_drink_12 : decode cX6_drink 12 = .ok (.if_icmp .ge 44, 3) := by decide +kernel
theorem dX6_drink_15 : decode cX6_drink 15 = .ok (.aload_n 0, 1) := by decide +kernel
theorem dX6_drink_16 : decode cX6_drink 16 = .ok (.getfield 9, 3) := by decide +kernel
theorem dX6_drink_19 : decode cX6_drink 19 = .ok (.iload 5, 2) := by decide +kernel
theorem dX6_drink_21 : decode cX6_drink 21 = .ok (.iaload, 1) := by decide +kernel
theorem dX6_drink_22 : decode cX6_drink 22 = .ok (.ifCond .le 28, 3) := by decide +kernel
theorem dX6_drink_25 : decode cX6_drink 25 = .ok (.iload 4, 2) := by decide +kernel
theorem dX6_drink_27 : decode cX6_drink 27 = .ok (.aload_n 0, 1) := by decide +kernel
theorem dX6_drink_28 : decode cX6_drink 28 = .ok (.getfield 9, 3) := by decide +kernel
theorem dX6_drink_31 : decode cX6_drink 31 = .ok (.iload 5, 2) := by decide +kernel
theorem dX6_drink_33 : decode cX6_drink 33 = .ok (.iaload, 1) := by decide +kernel
theorem dX6_drink_34 : decode cX6_drink 34 = .ok (.aload_n 1, 1) := by decide +kernel
theorem dX6_drink_35 : decode cX6_drink 35 = .ok (.getfield 34, 3) := by decide +kernel
theorem dX6_drink_38 : decode cX6_drink 38 = .ok (.iload 5, 2) := by decide +kernel
theorem dX6_drink_40 : decode cX6_drink 40 = .ok (.aaload, 1) := by decide +kernel
theorem dX6_drink_41 : decode cX6_drink 41 = .ok (.iload_n 2, 1) := by decide +kernel
theorem dX6_drink_42 : decode cX6_drink 42 = .ok (.iload_n 3, 1) := by decide +kernel
theorem dX6_drink_43 : decode cX6_drink 43 = .ok (.invokevirtual 38, 3) := by decide +kernel
theorem dX6_drink_46 : decode cX6_drink 46 = .ok (.imul, 1) := by decide +kernel
theorem dX6_drink_47 : decode cX6_drink 47 = .ok (.iadd, 1) := by decide +kernel
theorem dX6_drink_48 : decode cX6_drink 48 = .ok (.istore 4, 2) := by decide +kernel
theorem dX6_drink_50 : decode cX6_drink 50 = .ok (.iinc 5 1, 3) := by decide +kernel
theorem dX6_drink_53 : decode cX6_drink 53 = .ok (.goto (-47), 3) := by decide +kernel
theorem dX6_drink_56 : decode cX6_drink 56 = .ok (.iload 4, 2) := by decide +kernel
theorem dX6_drink_58 : decode cX6_drink 58 = .ok (.ireturn, 1) := by decide +kernel
theorem dX6_scatter_0 : decode cX6_scatter 0 = .ok (.iconst 0, 1) := by decide +kernel
theorem dX6_scatter_1 : decode cX6_scatter 1 = .ok (.istore_n 3, 1) := by decide +kernel
theorem dX6_scatter_2 : decode cX6_scatter 2 = .ok (.iconst 0, 1) := by decide +kernel
theorem dX6_scatter_3 : decode cX6_scatter 3 = .ok (.istore 4, 2) := by decide +kernel
theorem dX6_scatter_5 : decode cX6_scatter 5 = .ok (.iload 4, 2) := by decide +kernel
theorem dX6_scatter_7 : decode cX6_scatter 7 = .ok (.aload_n 1, 1) := by decide +kernel
theorem dX6_scatter_8 : decode cX6_scatter 8 = .ok (.getfield 29, 3) := by decide +kernel
theorem dX6_scatter_11 : decode cX6_scatter 11 = .ok (.if_icmp .ge 41, 3) := by decide +kernel
theorem dX6_scatter_14 : decode cX6_scatter 14 = .ok (.aload_n 0, 1) := by decide +kernel
theorem dX6_scatter_15 : decode cX6_scatter 15 = .ok (.getfield 9, 3) := by decide +kernel
theorem dX6_scatter_18 : decode cX6_scatter 18 = .ok (.iload 4, 2) := by decide +kernel
theorem dX6_scatter_20 : decode cX6_scatter 20 = .ok (.iaload, 1) := by decide +kernel
theorem dX6_scatter_21 : decode cX6_scatter 21 = .ok (.ifCond .le 25, 3) := by decide +kernel
theorem dX6_scatter_24 : decode cX6_scatter 24 = .ok (.iload_n 3, 1) := by decide +kernel
theorem dX6_scatter_25 : decode cX6_scatter 25 = .ok (.aload_n 0, 1) := by decide +kernel
theorem dX6_scatter_26 : decode cX6_scatter 26 = .ok (.getfield 9, 3) := by decide +kernel
theorem dX6_scatter_29 : decode cX6_scatter 29 = .ok (.iload 4, 2) := by decide +kernel
theorem dX6_scatter_31 : decode cX6_scatter 31 = .ok (.iaload, 1) := by decide +kernel
theorem dX6_scatter_32 : decode cX6_scatter 32 = .ok (.aload_n 1, 1) := by decide +kernel
theorem dX6_scatter_33 : decode cX6_scatter 33 = .ok (.getfield 34, 3) := by decide +kernel
theorem dX6_scatter_36 : decode cX6_scatter 36 = .ok (.iload 4, 2) := by decide +kernel
theorem dX6_scatter_38 : decode cX6_scatter 38 = .ok (.aaload, 1) := by decide +kernel
theorem dX6_scatter_39 : decode cX6_scatter 39 = .ok (.iload_n 2, 1) := by decide +kernel
theorem dX6_scatter_40 : decode cX6_scatter 40 = .ok (.invokevirtual 44, 3) := by decide +kernel
theorem dX6_scatter_43 : decode cX6_scatter 43 = .ok (.imul, 1) := by decide +kernel
theorem dX6_scatter_44 : decode cX6_scatter 44 = .ok (.iadd, 1) := by decide +kernel
theorem dX6_scatter_45 : decode cX6_scatter 45 = .ok (.istore_n 3, 1) := by decide +kernel
theorem dX6_scatter_46 : decode cX6_scatter 46 = .ok (.iinc 4 1, 3) := by decide +kernel
theorem dX6_scatter_49 : decode cX6_scatter 49 = .ok (.goto (-44), 3) := by decide +kernel
theorem dX6_scatter_52 : decode cX6_scatter 52 = .ok (.iload_n 3, 1) := by decide +kernel
theorem dX6_scatter_53 : decode cX6_scatter 53 = .ok (.ireturn, 1) := by decide +kernel
theorem dX6_sentThick_0 : decode cX6_sentThick 0 = .ok (.aload_n 0, 1) := by decide +kernel
theorem dX6_sentThick_1 : decode cX6_sentThick 1 = .ok (.aload_n 1, 1) := by decide +kernel
theorem dX6_sentThick_2 : decode cX6_sentThick 2 = .ok (.iload_n 2, 1) := by decide +kernel
theorem dX6_sentThick_3 : decode cX6_sentThick 3 = .ok (.iconst 0, 1) := by decide +kernel
theorem dX6_sentThick_4 : decode cX6_sentThick 4 = .ok (.invokevirtual 48, 3) := by decide +kernel
theorem dX6_sentThick_7 : decode cX6_sentThick 7 = .ok (.aload_n 0, 1) := by decide +kernel
theorem dX6_sentThick_8 : decode cX6_sentThick 8 = .ok (.aload_n 1, 1) := by decide +kernel
theorem dX6_sentThick_9 : decode cX6_sentThick 9 = .ok (.iload_n 2, 1) := by decide +kernel
theorem dX6_sentThick_10 : decode cX6_sentThick 10 = .ok (.invokevirtual 52, 3) := by decide +kernel
theorem dX6_sentThick_13 : decode cX6_sentThick 13 = .ok (.invokestatic 56, 3) := by decide +kernel
theorem dX6_sentThick_16 : decode cX6_sentThick 16 = .ok (.ireturn, 1) := by decide +kernel
theorem dX7_thickSent_0 : decode cX7_thickSent 0 = .ok (.iload_n 1, 1) := by decide +kernel
theorem dX7_thickSent_1 : decode cX7_thickSent 1 = .ok (.ifCond .gt 5, 3) := by decide +kernel
theorem dX7_thickSent_4 : decode cX7_thickSent 4 = .ok (.iconst 0, 1) := by decide +kernel
theorem dX7_thickSent_5 : decode cX7_thickSent 5 = .ok (.ireturn, 1) := by decide +kernel
theorem dX7_thickSent_6 : decode cX7_thickSent 6 = .ok (.ldc2_w 9, 3) := by decide +kernel
theorem dX7_thickSent_9 : decode cX7_thickSent 9 = .ok (.iload_n 0, 1) := by decide +kernel
theorem dX7_thickSent_10 : decode cX7_thickSent 10 = .ok (.i2l, 1) := by decide +kernel
theorem dX7_thickSent_11 : decode cX7_thickSent 11 = .ok (.lmul, 1) := by decide +kernel
theorem dX7_thickSent_12 : decode cX7_thickSent 12 = .ok (.iload_n 1, 1) := by decide +kernel
theorem dX7_thickSent_13 : decode cX7_thickSent 13 = .ok (.i2l, 1) := by decide +kernel
theorem dX7_thickSent_14 : decode cX7_thickSent 14 = .ok (.ldiv, 1) := by decide +kernel
theorem dX7_thickSent_15 : decode cX7_thickSent 15 = .ok (.lstore_n 2, 1) := by decide +kernel
theorem dX7_thickSent_16 : decode cX7_thickSent 16 = .ok (.lload_n 2, 1) := by decide +kernel
theorem dX7_thickSent_17 : decode cX7_thickSent 17 = .ok (.lload_n 2, 1) := by decide +kernel
theorem dX7_thickSent_18 : decode cX7_thickSent 18 = .ok (.lmul, 1) := by decide +kernel
theorem dX7_thickSent_19 : decode cX7_thickSent 19 = .ok (.ldc2_w 11, 3) := by decide +kernel
theorem dX7_thickSent_22 : decode cX7_thickSent 22 = .ok (.lload_n 2, 1) := by decide +kernel
theorem dX7_thickSent_23 : decode cX7_thickSent 23 = .ok (.lmul, 1) := by decide +kernel
theorem dX7_thickSent_24 : decode cX7_thickSent 24 = .ok (.ladd, 1) := by decide +kernel
theorem dX7_thickSent_25 : decode cX7_thickSent 25 = .ok (.lstore 4, 2) := by decide +kernel
theorem dX7_thickSent_27 : decode cX7_thickSent 27 = .ok (.ldc2_w 9, 3) := by decide +kernel
theorem dX7_thickSent_30 : decode cX7_thickSent 30 = .ok (.lload_n 2, 1) := by decide +kernel
theorem dX7_thickSent_31 : decode cX7_thickSent 31 = .ok (.ladd, 1) := by decide +kernel
theorem dX7_thickSent_32 : decode cX7_thickSent 32 = .ok (.lstore 6, 2) := by decide +kernel
theorem dX7_thickSent_34 : decode cX7_thickSent 34 = .ok (.iconst 0, 1) := by decide +kernel
theorem dX7_thickSent_35 : decode cX7_thickSent 35 = .ok (.istore 8, 2) := by decide +kernel
theorem dX7_thickSent_37 : decode cX7_thickSent 37 = .ok (.iload 8, 2) := by decide +kernel
theorem dX7_thickSent_39 : decode cX7_thickSent 39 = .ok (.bipush 64, 2) := by decide +kernel
theorem dX7_thickSent_41 : decode cX7_thickSent 41 = .ok (.if_icmp .ge 45, 3) := by decide +kernel
theorem dX7_thickSent_44 : decode cX7_thickSent 44 = .ok (.lload 6, 2) := by decide +kernel
theorem dX7_thickSent_46 : decode cX7_thickSent 46 = .ok (.lconst 0, 1) := by decide +kernel
theorem dX7_thickSent_47 : decode cX7_thickSent 47 = .ok (.lcmp, 1) := by decide +kernel
theorem dX7_thickSent_48 : decode cX7_thickSent 48 = .ok (.ifCond .le 38, 3) := by decide +kernel
theorem dX7_thickSent_51 : decode cX7_thickSent 51 = .ok (.lload 6, 2) := by decide +kernel
theorem dX7_thickSent_53 : decode cX7_thickSent 53 = .ok (.lload 4, 2) := by decide +kernel
theorem dX7_thickSent_55 : decode cX7_thickSent 55 = .ok (.lload 6, 2) := by decide +kernel
theorem dX7_thickSent_57 : decode cX7_thickSent 57 = .ok (.ldiv, 1) := by decide +kernel
theorem dX7_thickSent_58 : decode cX7_thickSent 58 = .ok (.ladd, 1) := by decide +kernel
theorem dX7_thickSent_59 : decode cX7_thickSent 59 = .ok (.ldc2_w 15, 3) := by decide +kernel
theorem dX7_thickSent_62 : decode cX7_thickSent 62 = .ok (.ldiv, 1) := by decide +kernel
theorem dX7_thickSent_63 : decode cX7_thickSent 63 = .ok (.lstore 9, 2) := by decide +kernel
theorem dX7_thickSent_65 : decode cX7_thickSent 65 = .ok (.lload 9, 2) := by decide +kernel
theorem dX7_thickSent_67 : decode cX7_thickSent 67 = .ok (.lload 6, 2) := by decide +kernel
theorem dX7_thickSent_69 : decode cX7_thickSent 69 = .ok (.lcmp, 1) := by decide +kernel
theorem dX7_thickSent_70 : decode cX7_thickSent 70 = .ok (.ifCond .lt 6, 3) := by decide +kernel
theorem dX7_thickSent_73 : decode cX7_thickSent 73 = .ok (.goto 13, 3) := by decide +kernel
theorem dX7_thickSent_76 : decode cX7_thickSent 76 = .ok (.lload 9, 2) := by decide +kernel
theorem dX7_thickSent_78 : decode cX7_thickSent 78 = .ok (.lstore 6, 2) := by decide +kernel
theorem dX7_thickSent_80 : decode cX7_thickSent 80 = .ok (.iinc 8 1, 3) := by decide +kernel
theorem dX7_thickSent_83 : decode cX7_thickSent 83 = .ok (.goto (-46), 3) := by decide +kernel
theorem dX7_thickSent_86 : decode cX7_thickSent 86 = .ok (.ldc2_w 9, 3) := by decide +kernel
theorem dX7_thickSent_89 : decode cX7_thickSent 89 = .ok (.lload_n 2, 1) := by decide +kernel
theorem dX7_thickSent_90 : decode cX7_thickSent 90 = .ok (.ladd, 1) := by decide +kernel
theorem dX7_thickSent_91 : decode cX7_thickSent 91 = .ok (.lload 6, 2) := by decide +kernel
theorem dX7_thickSent_93 : decode cX7_thickSent 93 = .ok (.lsub, 1) := by decide +kernel
theorem dX7_thickSent_94 : decode cX7_thickSent 94 = .ok (.l2i, 1) := by decide +kernel
theorem dX7_thickSent_95 : decode cX7_thickSent 95 = .ok (.ireturn, 1) := by decide +kernel
theorem dX7_thinTake_0 : decode cX7_thinTake 0 = .ok (.iload_n 0, 1) := by decide +kernel
theorem dX7_thinTake_1 : decode cX7_thinTake 1 = .ok (.iload_n 1, 1) := by decide +kernel
theorem dX7_thinTake_2 : decode cX7_thinTake 2 = .ok (.iadd, 1) := by decide +kernel
theorem dX7_thinTake_3 : decode cX7_thinTake 3 = .ok (.istore_n 2, 1) := by decide +kernel
theorem dX7_thinTake_4 : decode cX7_thinTake 4 = .ok (.iload_n 2, 1) := by decide +kernel
theorem dX7_thinTake_5 : decode cX7_thinTake 5 = .ok (.ifCond .gt 7, 3) := by decide +kernel
theorem dX7_thinTake_8 : decode cX7_thinTake 8 = .ok (.iconst 0, 1) := by decide +kernel
theorem dX7_thinTake_9 : decode cX7_thinTake 9 = .ok (.goto 10, 3) := by decide +kernel
theorem dX7_thinTake_12 : decode cX7_thinTake 12 = .ok (.sipush 250, 3) := by decide +kernel
theorem dX7_thinTake_15 : decode cX7_thinTake 15 = .ok (.iload_n 0, 1) := by decide +kernel
theorem dX7_thinTake_16 : decode cX7_thinTake 16 = .ok (.imul, 1) := by decide +kernel
theorem dX7_thinTake_17 : decode cX7_thinTake 17 = .ok (.iload_n 2, 1) := by decide +kernel
theorem dX7_thinTake_18 : decode cX7_thinTake 18 = .ok (.idiv, 1) := by decide +kernel
theorem dX7_thinTake_19 : decode cX7_thinTake 19 = .ok (.ireturn, 1) := by decide +kernel
theorem dX7_thinSend_0 : decode cX7_thinSend 0 = .ok (.iload_n 0, 1) := by decide +kernel
theorem dX7_thinSend_1 : decode cX7_thinSend 1 = .ok (.iload_n 1, 1) := by decide +kernel
theorem dX7_thinSend_2 : decode cX7_thinSend 2 = .ok (.iadd, 1) := by decide +kernel
theorem dX7_thinSend_3 : decode cX7_thinSend 3 = .ok (.istore_n 2, 1) := by decide +kernel
theorem dX7_thinSend_4 : decode cX7_thinSend 4 = .ok (.iload_n 2, 1) := by decide +kernel
theorem dX7_thinSend_5 : decode cX7_thinSend 5 = .ok (.ifCond .gt 7, 3) := by decide +kernel
theorem dX7_thinSend_8 : decode cX7_thinSend 8 = .ok (.iconst 0, 1) := by decide +kernel
theorem dX7_thinSend_9 : decode cX7_thinSend 9 = .ok (.goto 10, 3) := by decide +kernel
theorem dX7_thinSend_12 : decode cX7_thinSend 12 = .ok (.sipush 250, 3) := by decide +kernel
theorem dX7_thinSend_15 : decode cX7_thinSend 15 = .ok (.iload_n 1, 1) := by decide +kernel
theorem dX7_thinSend_16 : decode cX7_thinSend 16 = .ok (.imul, 1) := by decide +kernel
theorem dX7_thinSend_17 : decode cX7_thinSend 17 = .ok (.iload_n 2, 1) := by decide +kernel
theorem dX7_thinSend_18 : decode cX7_thinSend 18 = .ok (.idiv, 1) := by decide +kernel
theorem dX7_thinSend_19 : decode cX7_thinSend 19 = .ok (.ireturn, 1) := by decide +kernel
theorem dX7_thin_0 : decode cX7_thin 0 = .ok (.sipush 10000, 3) := by decide +kernel
theorem dX7_thin_3 : decode cX7_thin 3 = .ok (.iload_n 0, 1) := by decide +kernel
theorem dX7_thin_4 : decode cX7_thin 4 = .ok (.isub, 1) := by decide +kernel
theorem dX7_thin_5 : decode cX7_thin 5 = .ok (.iload_n 1, 1) := by decide +kernel
theorem dX7_thin_6 : decode cX7_thin 6 = .ok (.isub, 1) := by decide +kernel
theorem dX7_thin_7 : decode cX7_thin 7 = .ok (.i2l, 1) := by decide +kernel
theorem dX7_thin_8 : decode cX7_thin 8 = .ok (.lstore_n 3, 1) := by decide +kernel
theorem dX7_thin_9 : decode cX7_thin 9 = .ok (.ldc2_w 17, 3) := by decide +kernel
theorem dX7_thin_12 : decode cX7_thin 12 = .ok (.iload_n 1, 1) := by decide +kernel
theorem dX7_thin_13 : decode cX7_thin 13 = .ok (.i2l, 1) := by decide +kernel
theorem dX7_thin_14 : decode cX7_thin 14 = .ok (.iload_n 2, 1) := by decide +kernel
theorem dX7_thin_15 : decode cX7_thin 15 = .ok (.i2l, 1) := by decide +kernel
theorem dX7_thin_16 : decode cX7_thin 16 = .ok (.lmul, 1) := by decide +kernel
theorem dX7_thin_17 : decode cX7_thin 17 = .ok (.lsub, 1) := by decide +kernel
theorem dX7_thin_18 : decode cX7_thin 18 = .ok (.lstore 5, 2) := by decide +kernel
theorem dX7_thin_20 : decode cX7_thin 20 = .ok (.lload 5, 2) := by decide +kernel
theorem dX7_thin_22 : decode cX7_thin 22 = .ok (.lconst 0, 1) := by decide +kernel
theorem dX7_thin_23 : decode cX7_thin 23 = .ok (.lcmp, 1) := by decide +kernel
theorem dX7_thin_24 : decode cX7_thin 24 = .ok (.ifCond .gt 7, 3) := by decide +kernel
theorem dX7_thin_27 : decode cX7_thin 27 = .ok (.iload_n 1, 1) := by decide +kernel
theorem dX7_thin_28 : decode cX7_thin 28 = .ok (.goto 16, 3) := by decide +kernel
theorem dX7_thin_31 : decode cX7_thin 31 = .ok (.iload_n 1, 1) := by decide +kernel
theorem dX7_thin_32 : decode cX7_thin 32 = .ok (.i2l, 1) := by decide +kernel
theorem dX7_thin_33 : decode cX7_thin 33 = .ok (.lload_n 3, 1) := by decide +kernel
theorem dX7_thin_34 : decode cX7_thin 34 = .ok (.lload_n 3, 1) := by decide +kernel
theorem dX7_thin_35 : decode cX7_thin 35 = .ok (.lmul, 1) := by decide +kernel
theorem dX7_thin_36 : decode cX7_thin 36 = .ok (.iload_n 2, 1) := by decide +kernel
theorem dX7_thin_37 : decode cX7_thin 37 = .ok (.i2l, 1) := by decide +kernel
theorem dX7_thin_38 : decode cX7_thin 38 = .ok (.lmul, 1) := by decide +kernel
theorem dX7_thin_39 : decode cX7_thin 39 = .ok (.lload 5, 2) := by decide +kernel
theorem dX7_thin_41 : decode cX7_thin 41 = .ok (.ldiv, 1) := by decide +kernel
theorem dX7_thin_42 : decode cX7_thin 42 = .ok (.ladd, 1) := by decide +kernel
theorem dX7_thin_43 : decode cX7_thin 43 = .ok (.l2i, 1) := by decide +kernel
theorem dX7_thin_44 : decode cX7_thin 44 = .ok (.ireturn, 1) := by decide +kernel
theorem dX7_layered_0 : decode cX7_layered 0 = .ok (.iload_n 3, 1) := by decide +kernel
theorem dX7_layered_1 : decode cX7_layered 1 = .ok (.istore 4, 2) := by decide +kernel
theorem dX7_layered_3 : decode cX7_layered 3 = .ok (.iconst 0, 1) := by decide +kernel
theorem dX7_layered_4 : decode cX7_layered 4 = .ok (.istore 5, 2) := by decide +kernel
theorem dX7_layered_6 : decode cX7_layered 6 = .ok (.iload 5, 2) := by decide +kernel
theorem dX7_layered_8 : decode cX7_layered 8 = .ok (.iload_n 2, 1) := by decide +kernel
theorem dX7_layered_9 : decode cX7_layered 9 = .ok (.if_icmp .ge 32, 3) := by decide +kernel
theorem dX7_layered_12 : decode cX7_layered 12 = .ok (.iload_n 0, 1) := by decide +kernel
theorem dX7_layered_13 : decode cX7_layered 13 = .ok (.iload_n 1, 1) := by decide +kernel
theorem dX7_layered_14 : decode cX7_layered 14 = .ok (.iload 4, 2) := by decide +kernel
theorem dX7_layered_16 : decode cX7_layered 16 = .ok (.invokestatic 19, 3) := by decide +kernel
theorem dX7_layered_19 : decode cX7_layered 19 = .ok (.istore 6, 2) := by decide +kernel
theorem dX7_layered_21 : decode cX7_layered 21 = .ok (.iload 6, 2) := by decide +kernel
theorem dX7_layered_23 : decode cX7_layered 23 = .ok (.iload 4, 2) := by decide +kernel
theorem dX7_layered_25 : decode cX7_layered 25 = .ok (.if_icmp .ne 6, 3) := by decide +kernel
theorem dX7_layered_28 : decode cX7_layered 28 = .ok (.iload 4, 2) := by decide +kernel
theorem dX7_layered_30 : decode cX7_layered 30 = .ok (.ireturn, 1) := by decide +kernel
theorem dX7_layered_31 : decode cX7_layered 31 = .ok (.iload 6, 2) := by decide +kernel
theorem dX7_layered_33 : decode cX7_layered 33 = .ok (.istore 4, 2) := by decide +kernel
theorem dX7_layered_35 : decode cX7_layered 35 = .ok (.iinc 5 1, 3) := by decide +kernel
theorem dX7_layered_38 : decode cX7_layered 38 = .ok (.goto (-32), 3) := by decide +kernel
theorem dX7_layered_41 : decode cX7_layered 41 = .ok (.iload 4, 2) := by decide +kernel
theorem dX7_layered_43 : decode cX7_layered 43 = .ok (.ireturn, 1) := by decide +kernel
theorem dX7_leastHiding_0 : decode cX7_leastHiding 0 = .ok (.iconst 0, 1) := by decide +kernel
theorem dX7_leastHiding_1 : decode cX7_leastHiding 1 = .ok (.istore_n 3, 1) := by decide +kernel
theorem dX7_leastHiding_2 : decode cX7_leastHiding 2 = .ok (.sipush 10000, 3) := by decide +kernel
theorem dX7_leastHiding_5 : decode cX7_leastHiding 5 = .ok (.istore 4, 2) := by decide +kernel
theorem dX7_leastHiding_7 : decode cX7_leastHiding 7 = .ok (.iconst 1, 1) := by decide +kernel
theorem dX7_leastHiding_8 : decode cX7_leastHiding 8 = .ok (.istore 5, 2) := by decide +kernel
theorem dX7_leastHiding_10 : decode cX7_leastHiding 10 = .ok (.iload 5, 2) := by decide +kernel
theorem dX7_leastHiding_12 : decode cX7_leastHiding 12 = .ok (.sipush 200, 3) := by decide +kernel
theorem dX7_leastHiding_15 : decode cX7_leastHiding 15 = .ok (.if_icmp .gt 36, 3) := by decide +kernel
theorem dX7_leastHiding_18 : decode cX7_leastHiding 18 = .ok (.iload_n 0, 1) := by decide +kernel
theorem dX7_leastHiding_19 : decode cX7_leastHiding 19 = .ok (.iload_n 1, 1) := by decide +kernel
theorem dX7_leastHiding_20 : decode cX7_leastHiding 20 = .ok (.iload_n 3, 1) := by decide +kernel
theorem dX7_leastHiding_21 : decode cX7_leastHiding 21 = .ok (.invokestatic 19, 3) := by decide +kernel
theorem dX7_leastHiding_24 : decode cX7_leastHiding 24 = .ok (.istore_n 3, 1) := by decide +kernel
theorem dX7_leastHiding_25 : decode cX7_leastHiding 25 = .ok (.iload_n 0, 1) := by decide +kernel
theorem dX7_leastHiding_26 : decode cX7_leastHiding 26 = .ok (.iload_n 1, 1) := by decide +kernel
theorem dX7_leastHiding_27 : decode cX7_leastHiding 27 = .ok (.iload 4, 2) := by decide +kernel
theorem dX7_leastHiding_29 : decode cX7_leastHiding 29 = .ok (.invokestatic 19, 3) := by decide +kernel
theorem dX7_leastHiding_32 : decode cX7_leastHiding 32 = .ok (.istore 4, 2) := by decide +kernel
theorem dX7_leastHiding_34 : decode cX7_leastHiding 34 = .ok (.iload 4, 2) := by decide +kernel
theorem dX7_leastHiding_36 : decode cX7_leastHiding 36 = .ok (.iload_n 3, 1) := by decide +kernel
theorem dX7_leastHiding_37 : decode cX7_leastHiding 37 = .ok (.isub, 1) := by decide +kernel
theorem dX7_leastHiding_38 : decode cX7_leastHiding 38 = .ok (.iload_n 2, 1) := by decide +kernel
theorem dX7_leastHiding_39 : decode cX7_leastHiding 39 = .ok (.if_icmp .gt 6, 3) := by decide +kernel
theorem dX7_leastHiding_42 : decode cX7_leastHiding 42 = .ok (.iload 5, 2) := by decide +kernel
theorem dX7_leastHiding_44 : decode cX7_leastHiding 44 = .ok (.ireturn, 1) := by decide +kernel
theorem dX7_leastHiding_45 : decode cX7_leastHiding 45 = .ok (.iinc 5 1, 3) := by decide +kernel
theorem dX7_leastHiding_48 : decode cX7_leastHiding 48 = .ok (.goto (-38), 3) := by decide +kernel
theorem dX7_leastHiding_51 : decode cX7_leastHiding 51 = .ok (.sipush 201, 3) := by decide +kernel
theorem dX7_leastHiding_54 : decode cX7_leastHiding 54 = .ok (.ireturn, 1) := by decide +kernel
theorem dX8_init_0 : decode cX8_init 0 = .ok (.aload_n 0, 1) := by decide +kernel
theorem dX8_init_1 : decode cX8_init 1 = .ok (.invokespecial 3, 3) := by decide +kernel
theorem dX8_init_4 : decode cX8_init 4 = .ok (.aload_n 0, 1) := by decide +kernel
theorem dX8_init_5 : decode cX8_init 5 = .ok (.bipush 12, 2) := by decide +kernel
theorem dX8_init_7 : decode cX8_init 7 = .ok (.anewarray 9, 3) := by decide +kernel
theorem dX8_init_10 : decode cX8_init 10 = .ok (.putfield 11, 3) := by decide +kernel
theorem dX8_init_13 : decode cX8_init 13 = .ok (.aload_n 0, 1) := by decide +kernel
theorem dX8_init_14 : decode cX8_init 14 = .ok (.iconst 0, 1) := by decide +kernel
theorem dX8_init_15 : decode cX8_init 15 = .ok (.putfield 17, 3) := by decide +kernel
theorem dX8_init_18 : decode cX8_init 18 = .ok (.return_, 1) := by decide +kernel
theorem dX8_isFull_0 : decode cX8_isFull 0 = .ok (.aload_n 0, 1) := by decide +kernel
theorem dX8_isFull_1 : decode cX8_isFull 1 = .ok (.getfield 17, 3) := by decide +kernel
theorem dX8_isFull_4 : decode cX8_isFull 4 = .ok (.bipush 12, 2) := by decide +kernel
theorem dX8_isFull_6 : decode cX8_isFull 6 = .ok (.if_icmp .lt 7, 3) := by decide +kernel
theorem dX8_isFull_9 : decode cX8_isFull 9 = .ok (.iconst 1, 1) := by decide +kernel
theorem dX8_isFull_10 : decode cX8_isFull 10 = .ok (.goto 4, 3) := by decide +kernel
theorem dX8_isFull_13 : decode cX8_isFull 13 = .ok (.iconst 0, 1) := by decide +kernel
theorem dX8_isFull_14 : decode cX8_isFull 14 = .ok (.ireturn, 1) := by decide +kernel
theorem dX8_add_0 : decode cX8_add 0 = .ok (.aload_n 0, 1) := by decide +kernel
theorem dX8_add_1 : decode cX8_add 1 = .ok (.invokevirtual 21, 3) := by decide +kernel
theorem dX8_add_4 : decode cX8_add 4 = .ok (.ifCond .eq 6, 3) := by decide +kernel
theorem dX8_add_7 : decode cX8_add 7 = .ok (.bipush (-3), 2) := by decide +kernel
theorem dX8_add_9 : decode cX8_add 9 = .ok (.ireturn, 1) := by decide +kernel
theorem dX8_add_10 : decode cX8_add 10 = .ok (.aload_n 0, 1) := by decide +kernel
theorem dX8_add_11 : decode cX8_add 11 = .ok (.getfield 11, 3) := by decide +kernel
theorem dX8_add_14 : decode cX8_add 14 = .ok (.aload_n 0, 1) := by decide +kernel
theorem dX8_add_15 : decode cX8_add 15 = .ok (.getfield 17, 3) := by decide +kernel
theorem dX8_add_18 : decode cX8_add 18 = .ok (.aload_n 1, 1) := by decide +kernel
theorem dX8_add_19 : decode cX8_add 19 = .ok (.aastore, 1) := by decide +kernel
theorem dX8_add_20 : decode cX8_add 20 = .ok (.aload_n 0, 1) := by decide +kernel
theorem dX8_add_21 : decode cX8_add 21 = .ok (.dup, 1) := by decide +kernel
theorem dX8_add_22 : decode cX8_add 22 = .ok (.getfield 17, 3) := by decide +kernel
theorem dX8_add_25 : decode cX8_add 25 = .ok (.iconst 1, 1) := by decide +kernel
theorem dX8_add_26 : decode cX8_add 26 = .ok (.iadd, 1) := by decide +kernel
theorem dX8_add_27 : decode cX8_add 27 = .ok (.putfield 17, 3) := by decide +kernel
theorem dX8_add_30 : decode cX8_add 30 = .ok (.aload_n 0, 1) := by decide +kernel
theorem dX8_add_31 : decode cX8_add 31 = .ok (.getfield 17, 3) := by decide +kernel
theorem dX8_add_34 : decode cX8_add 34 = .ok (.iconst 1, 1) := by decide +kernel
theorem dX8_add_35 : decode cX8_add 35 = .ok (.isub, 1) := by decide +kernel
theorem dX8_add_36 : decode cX8_add 36 = .ok (.ireturn, 1) := by decide +kernel
theorem dX8_at_0 : decode cX8_at 0 = .ok (.iload_n 1, 1) := by decide +kernel
theorem dX8_at_1 : decode cX8_at 1 = .ok (.iconst 0, 1) := by decide +kernel
theorem dX8_at_2 : decode cX8_at 2 = .ok (.aload_n 0, 1) := by decide +kernel
theorem dX8_at_3 : decode cX8_at 3 = .ok (.getfield 17, 3) := by decide +kernel
theorem dX8_at_6 : decode cX8_at 6 = .ok (.iconst 1, 1) := by decide +kernel
theorem dX8_at_7 : decode cX8_at 7 = .ok (.isub, 1) := by decide +kernel
theorem dX8_at_8 : decode cX8_at 8 = .ok (.invokestatic 25, 3) := by decide +kernel
theorem dX8_at_11 : decode cX8_at 11 = .ok (.ifCond .eq 12, 3) := by decide +kernel
theorem dX8_at_14 : decode cX8_at 14 = .ok (.aload_n 0, 1) := by decide +kernel
theorem dX8_at_15 : decode cX8_at 15 = .ok (.getfield 11, 3) := by decide +kernel
theorem dX8_at_18 : decode cX8_at 18 = .ok (.iload_n 1, 1) := by decide +kernel
theorem dX8_at_19 : decode cX8_at 19 = .ok (.aaload, 1) := by decide +kernel
theorem dX8_at_20 : decode cX8_at 20 = .ok (.goto 4, 3) := by decide +kernel
theorem dX8_at_23 : decode cX8_at 23 = .ok (.aconst_null, 1) := by decide +kernel
theorem dX8_at_24 : decode cX8_at 24 = .ok (.areturn, 1) := by decide +kernel
theorem dX8_hasSet_0 : decode cX8_hasSet 0 = .ok (.iload_n 1, 1) := by decide +kernel
theorem dX8_hasSet_1 : decode cX8_hasSet 1 = .ok (.iconst 1, 1) := by decide +kernel
theorem dX8_hasSet_2 : decode cX8_hasSet 2 = .ok (.iconst 1, 1) := by decide +kernel
theorem dX8_hasSet_3 : decode cX8_hasSet 3 = .ok (.aload_n 0, 1) := by decide +kernel
theorem dX8_hasSet_4 : decode cX8_hasSet 4 = .ok (.getfield 17, 3) := by decide +kernel
theorem dX8_hasSet_7 : decode cX8_hasSet 7 = .ok (.ishl, 1) := by decide +kernel
theorem dX8_hasSet_8 : decode cX8_hasSet 8 = .ok (.iconst 1, 1) := by decide +kernel
theorem dX8_hasSet_9 : decode cX8_hasSet 9 = .ok (.isub, 1) := by decide +kernel
theorem dX8_hasSet_10 : decode cX8_hasSet 10 = .ok (.invokestatic 25, 3) := by decide +kernel
theorem dX8_hasSet_13 : decode cX8_hasSet 13 = .ok (.ireturn, 1) := by decide +kernel
theorem dX8_countLost_0 : decode cX8_countLost 0 = .ok (.iconst 0, 1) := by decide +kernel
theorem dX8_countLost_1 : decode cX8_countLost 1 = .ok (.istore_n 2, 1) := by decide +kernel
theorem dX8_countLost_2 : decode cX8_countLost 2 = .ok (.iload_n 2, 1) := by decide +kernel
theorem dX8_countLost_3 : decode cX8_countLost 3 = .ok (.aload_n 0, 1) := by decide +kernel
theorem dX8_countLost_4 : decode cX8_countLost 4 = .ok (.getfield 17, 3) := by decide +kernel
theorem dX8_countLost_7 : decode cX8_countLost 7 = .ok (.if_icmp .ge 28, 3) := by decide +kernel
theorem dX8_countLost_10 : decode cX8_countLost 10 = .ok (.aload_n 0, 1) := by decide +kernel
theorem dX8_countLost_11 : decode cX8_countLost 11 = .ok (.getfield 11, 3) := by decide +kernel
theorem dX8_countLost_14 : decode cX8_countLost 14 = .ok (.iload_n 2, 1) := by decide +kernel
theorem dX8_countLost_15 : decode cX8_countLost 15 = .ok (.aaload, 1) := by decide +kernel
theorem dX8_countLost_16 : decode cX8_countLost 16 = .ok (.dup, 1) := by decide +kernel
theorem dX8_countLost_17 : decode cX8_countLost 17 = .ok (.getfield 29, 3) := by decide +kernel
theorem dX8_countLost_20 : decode cX8_countLost 20 = .ok (.aload_n 1, 1) := by decide +kernel
theorem dX8_countLost_21 : decode cX8_countLost 21 = .ok (.iload_n 2, 1) := by decide +kernel
theorem dX8_countLost_22 : decode cX8_countLost 22 = .ok (.invokevirtual 32, 3) := by decide +kernel
theorem dX8_countLost_25 : decode cX8_countLost 25 = .ok (.iadd, 1) := by decide +kernel
theorem dX8_countLost_26 : decode cX8_countLost 26 = .ok (.putfield 29, 3) := by decide +kernel
theorem dX8_countLost_29 : decode cX8_countLost 29 = .ok (.iinc 2 1, 3) := by decide +kernel
theorem dX8_countLost_32 : decode cX8_countLost 32 = .ok (.goto (-30), 3) := by decide +kernel
theorem dX8_countLost_35 : decode cX8_countLost 35 = .ok (.return_, 1) := by decide +kernel
theorem dX8_countLaid_0 : decode cX8_countLaid 0 = .ok (.iconst 0, 1) := by decide +kernel
theorem dX8_countLaid_1 : decode cX8_countLaid 1 = .ok (.istore_n 2, 1) := by decide +kernel
theorem dX8_countLaid_2 : decode cX8_countLaid 2 = .ok (.iload_n 2, 1) := by decide +kernel
theorem dX8_countLaid_3 : decode cX8_countLaid 3 = .ok (.aload_n 0, 1) := by decide +kernel
theorem dX8_countLaid_4 : decode cX8_countLaid 4 = .ok (.getfield 17, 3) := by decide +kernel
theorem dX8_countLaid_7 : decode cX8_countLaid 7 = .ok (.if_icmp .ge 28, 3) := by decide +kernel
theorem dX8_countLaid_10 : decode cX8_countLaid 10 = .ok (.aload_n 0, 1) := by decide +kernel
theorem dX8_countLaid_11 : decode cX8_countLaid 11 = .ok (.getfield 11, 3) := by decide +kernel
theorem dX8_countLaid_14 : decode cX8_countLaid 14 = .ok (.iload_n 2, 1) := by decide +kernel
theorem dX8_countLaid_15 : decode cX8_countLaid 15 = .ok (.aaload, 1) := by decide +kernel
theorem dX8_countLaid_16 : decode cX8_countLaid 16 = .ok (.dup, 1) := by decide +kernel
theorem dX8_countLaid_17 : decode cX8_countLaid 17 = .ok (.getfield 38, 3) := by decide +kernel
theorem dX8_countLaid_20 : decode cX8_countLaid 20 = .ok (.aload_n 1, 1) := by decide +kernel
theorem dX8_countLaid_21 : decode cX8_countLaid 21 = .ok (.iload_n 2, 1) := by decide +kernel
theorem dX8_countLaid_22 : decode cX8_countLaid 22 = .ok (.invokevirtual 32, 3) := by decide +kernel
theorem dX8_countLaid_25 : decode cX8_countLaid 25 = .ok (.iadd, 1) := by decide +kernel
theorem dX8_countLaid_26 : decode cX8_countLaid 26 = .ok (.putfield 38, 3) := by decide +kernel
theorem dX8_countLaid_29 : decode cX8_countLaid 29 = .ok (.iinc 2 1, 3) := by decide +kernel
theorem dX8_countLaid_32 : decode cX8_countLaid 32 = .ok (.goto (-30), 3) := by decide +kernel
theorem dX8_countLaid_35 : decode cX8_countLaid 35 = .ok (.return_, 1) := by decide +kernel
theorem dX8_allLaid_0 : decode cX8_allLaid 0 = .ok (.iconst 0, 1) := by decide +kernel
theorem dX8_allLaid_1 : decode cX8_allLaid 1 = .ok (.istore_n 1, 1) := by decide +kernel
theorem dX8_allLaid_2 : decode cX8_allLaid 2 = .ok (.iconst 0, 1) := by decide +kernel
theorem dX8_allLaid_3 : decode cX8_allLaid 3 = .ok (.istore_n 2, 1) := by decide +kernel
theorem dX8_allLaid_4 : decode cX8_allLaid 4 = .ok (.iload_n 2, 1) := by decide +kernel
theorem dX8_allLaid_5 : decode cX8_allLaid 5 = .ok (.aload_n 0, 1) := by decide +kernel
theorem dX8_allLaid_6 : decode cX8_allLaid 6 = .ok (.getfield 17, 3) := by decide +kernel
theorem dX8_allLaid_9 : decode cX8_allLaid 9 = .ok (.if_icmp .ge 21, 3) := by decide +kernel
theorem dX8_allLaid_12 : decode cX8_allLaid 12 = .ok (.iload_n 1, 1) := by decide +kernel
theorem dX8_allLaid_13 : decode cX8_allLaid 13 = .ok (.aload_n 0, 1) := by decide +kernel
theorem dX8_allLaid_14 : decode cX8_allLaid 14 = .ok (.getfield 11, 3) := by decide +kernel
theorem dX8_allLaid_17 : decode cX8_allLaid 17 = .ok (.iload_n 2, 1) := by decide +kernel
theorem dX8_allLaid_18 : decode cX8_allLaid 18 = .ok (.aaload, 1) := by decide +kernel
theorem dX8_allLaid_19 : decode cX8_allLaid 19 = .ok (.getfield 38, 3) := by decide +kernel
theorem dX8_allLaid_22 : decode cX8_allLaid 22 = .ok (.iadd, 1) := by decide +kernel
theorem dX8_allLaid_23 : decode cX8_allLaid 23 = .ok (.istore_n 1, 1) := by decide +kernel
theorem dX8_allLaid_24 : decode cX8_allLaid 24 = .ok (.iinc 2 1, 3) := by decide +kernel
theorem dX8_allLaid_27 : decode cX8_allLaid 27 = .ok (.goto (-23), 3) := by decide +kernel
theorem dX8_allLaid_30 : decode cX8_allLaid 30 = .ok (.iload_n 1, 1) := by decide +kernel
theorem dX8_allLaid_31 : decode cX8_allLaid 31 = .ok (.ireturn, 1) := by decide +kernel
theorem dX8_allLost_0 : decode cX8_allLost 0 = .ok (.iconst 0, 1) := by decide +kernel
theorem dX8_allLost_1 : decode cX8_allLost 1 = .ok (.istore_n 1, 1) := by decide +kernel
theorem dX8_allLost_2 : decode cX8_allLost 2 = .ok (.iconst 0, 1) := by decide +kernel
theorem dX8_allLost_3 : decode cX8_allLost 3 = .ok (.istore_n 2, 1) := by decide +kernel
theorem dX8_allLost_4 : decode cX8_allLost 4 = .ok (.iload_n 2, 1) := by decide +kernel
theorem dX8_allLost_5 : decode cX8_allLost 5 = .ok (.aload_n 0, 1) := by decide +kernel
theorem dX8_allLost_6 : decode cX8_allLost 6 = .ok (.getfield 17, 3) := by decide +kernel
theorem dX8_allLost_9 : decode cX8_allLost 9 = .ok (.if_icmp .ge 21, 3) := by decide +kernel
theorem dX8_allLost_12 : decode cX8_allLost 12 = .ok (.iload_n 1, 1) := by decide +kernel
theorem dX8_allLost_13 : decode cX8_allLost 13 = .ok (.aload_n 0, 1) := by decide +kernel
theorem dX8_allLost_14 : decode cX8_allLost 14 = .ok (.getfield 11, 3) := by decide +kernel
theorem dX8_allLost_17 : decode cX8_allLost 17 = .ok (.iload_n 2, 1) := by decide +kernel
theorem dX8_allLost_18 : decode cX8_allLost 18 = .ok (.aaload, 1) := by decide +kernel
theorem dX8_allLost_19 : decode cX8_allLost 19 = .ok (.getfield 29, 3) := by decide +kernel
theorem dX8_allLost_22 : decode cX8_allLost 22 = .ok (.iadd, 1) := by decide +kernel
theorem dX8_allLost_23 : decode cX8_allLost 23 = .ok (.istore_n 1, 1) := by decide +kernel
theorem dX8_allLost_24 : decode cX8_allLost 24 = .ok (.iinc 2 1, 3) := by decide +kernel
theorem dX8_allLost_27 : decode cX8_allLost 27 = .ok (.goto (-23), 3) := by decide +kernel
theorem dX8_allLost_30 : decode cX8_allLost 30 = .ok (.iload_n 1, 1) := by decide +kernel
theorem dX8_allLost_31 : decode cX8_allLost 31 = .ok (.ireturn, 1) := by decide +kernel
theorem dX8_allHeld_0 : decode cX8_allHeld 0 = .ok (.iconst 0, 1) := by decide +kernel
theorem dX8_allHeld_1 : decode cX8_allHeld 1 = .ok (.istore_n 1, 1) := by decide +kernel
theorem dX8_allHeld_2 : decode cX8_allHeld 2 = .ok (.iconst 0, 1) := by decide +kernel
theorem dX8_allHeld_3 : decode cX8_allHeld 3 = .ok (.istore_n 2, 1) := by decide +kernel
theorem dX8_allHeld_4 : decode cX8_allHeld 4 = .ok (.iload_n 2, 1) := by decide +kernel
theorem dX8_allHeld_5 : decode cX8_allHeld 5 = .ok (.aload_n 0, 1) := by decide +kernel
theorem dX8_allHeld_6 : decode cX8_allHeld 6 = .ok (.getfield 17, 3) := by decide +kernel
theorem dX8_allHeld_9 : decode cX8_allHeld 9 = .ok (.if_icmp .ge 21, 3) := by decide +kernel
theorem dX8_allHeld_12 : decode cX8_allHeld 12 = .ok (.iload_n 1, 1) := by decide +kernel
theorem dX8_allHeld_13 : decode cX8_allHeld 13 = .ok (.aload_n 0, 1) := by decide +kernel
theorem dX8_allHeld_14 : decode cX8_allHeld 14 = .ok (.getfield 11, 3) := by decide +kernel
theorem dX8_allHeld_17 : decode cX8_allHeld 17 = .ok (.iload_n 2, 1) := by decide +kernel
theorem dX8_allHeld_18 : decode cX8_allHeld 18 = .ok (.aaload, 1) := by decide +kernel
theorem dX8_allHeld_19 : decode cX8_allHeld 19 = .ok (.getfield 41, 3) := by decide +kernel
theorem dX8_allHeld_22 : decode cX8_allHeld 22 = .ok (.iadd, 1) := by decide +kernel
theorem dX8_allHeld_23 : decode cX8_allHeld 23 = .ok (.istore_n 1, 1) := by decide +kernel
theorem dX8_allHeld_24 : decode cX8_allHeld 24 = .ok (.iinc 2 1, 3) := by decide +kernel
theorem dX8_allHeld_27 : decode cX8_allHeld 27 = .ok (.goto (-23), 3) := by decide +kernel
theorem dX8_allHeld_30 : decode cX8_allHeld 30 = .ok (.iload_n 1, 1) := by decide +kernel
theorem dX8_allHeld_31 : decode cX8_allHeld 31 = .ok (.ireturn, 1) := by decide +kernel
theorem dX9_init_0 : decode cX9_init 0 = .ok (.aload_n 0, 1) := by decide +kernel
theorem dX9_init_1 : decode cX9_init 1 = .ok (.invokespecial 3, 3) := by decide +kernel
theorem dX9_init_4 : decode cX9_init 4 = .ok (.aload_n 0, 1) := by decide +kernel
theorem dX9_init_5 : decode cX9_init 5 = .ok (.bipush 12, 2) := by decide +kernel
theorem dX9_init_7 : decode cX9_init 7 = .ok (.newarray .int, 2) := by decide +kernel
theorem dX9_init_9 : decode cX9_init 9 = .ok (.putfield 9, 3) := by decide +kernel
theorem dX9_init_12 : decode cX9_init 12 = .ok (.aload_n 0, 1) := by decide +kernel
theorem dX9_init_13 : decode cX9_init 13 = .ok (.bipush 12, 2) := by decide +kernel
theorem dX9_init_15 : decode cX9_init 15 = .ok (.newarray .int, 2) := by decide +kernel
theorem dX9_init_17 : decode cX9_init 17 = .ok (.putfield 15, 3) := by decide +kernel
theorem dX9_init_20 : decode cX9_init 20 = .ok (.aload_n 0, 1) := by decide +kernel
theorem dX9_init_21 : decode cX9_init 21 = .ok (.bipush 12, 2) := by decide +kernel
theorem dX9_init_23 : decode cX9_init 23 = .ok (.bipush 8, 2) := by decide +kernel
theorem dX9_init_25 : decode cX9_init 25 = .ok (.multianewarray 18 2, 4) := by decide +kernel
theorem dX9_init_29 : decode cX9_init 29 = .ok (.putfield 20, 3) := by decide +kernel
theorem dX9_init_32 : decode cX9_init 32 = .ok (.aload_n 0, 1) := by decide +kernel
theorem dX9_init_33 : decode cX9_init 33 = .ok (.bipush 12, 2) := by decide +kernel
theorem dX9_init_35 : decode cX9_init 35 = .ok (.bipush 8, 2) := by decide +kernel
theorem dX9_init_37 : decode cX9_init 37 = .ok (.multianewarray 18 2, 4) := by decide +kernel
theorem dX9_init_41 : decode cX9_init 41 = .ok (.putfield 23, 3) := by decide +kernel
theorem dX9_init_44 : decode cX9_init 44 = .ok (.aload_n 0, 1) := by decide +kernel
theorem dX9_init_45 : decode cX9_init 45 = .ok (.iconst 0, 1) := by decide +kernel
theorem dX9_init_46 : decode cX9_init 46 = .ok (.putfield 26, 3) := by decide +kernel
theorem dX9_init_49 : decode cX9_init 49 = .ok (.aload_n 0, 1) := by decide +kernel
theorem dX9_init_50 : decode cX9_init 50 = .ok (.iconst 4, 1) := by decide +kernel
theorem dX9_init_51 : decode cX9_init 51 = .ok (.newarray .int, 2) := by decide +kernel
theorem dX9_init_53 : decode cX9_init 53 = .ok (.putfield 30, 3) := by decide +kernel
theorem dX9_init_56 : decode cX9_init 56 = .ok (.aload_n 0, 1) := by decide +kernel
theorem dX9_init_57 : decode cX9_init 57 = .ok (.iconst 4, 1) := by decide +kernel
theorem dX9_init_58 : decode cX9_init 58 = .ok (.newarray .int, 2) := by decide +kernel
theorem dX9_init_60 : decode cX9_init 60 = .ok (.putfield 33, 3) := by decide +kernel
theorem dX9_init_63 : decode cX9_init 63 = .ok (.aload_n 0, 1) := by decide +kernel
theorem dX9_init_64 : decode cX9_init 64 = .ok (.iconst 4, 1) := by decide +kernel
theorem dX9_init_65 : decode cX9_init 65 = .ok (.bipush 8, 2) := by decide +kernel
theorem dX9_init_67 : decode cX9_init 67 = .ok (.multianewarray 18 2, 4) := by decide +kernel
theorem dX9_init_71 : decode cX9_init 71 = .ok (.putfield 36, 3) := by decide +kernel
theorem dX9_init_74 : decode cX9_init 74 = .ok (.aload_n 0, 1) := by decide +kernel
theorem dX9_init_75 : decode cX9_init 75 = .ok (.iconst 4, 1) := by decide +kernel
theorem dX9_init_76 : decode cX9_init 76 = .ok (.bipush 8, 2) := by decide +kernel
theorem dX9_init_78 : decode cX9_init 78 = .ok (.multianewarray 18 2, 4) := by decide +kernel
theorem dX9_init_82 : decode cX9_init 82 = .ok (.putfield 39, 3) := by decide +kernel
theorem dX9_init_85 : decode cX9_init 85 = .ok (.aload_n 0, 1) := by decide +kernel
theorem dX9_init_86 : decode cX9_init 86 = .ok (.iconst 0, 1) := by decide +kernel
theorem dX9_init_87 : decode cX9_init 87 = .ok (.putfield 42, 3) := by decide +kernel
theorem dX9_init_90 : decode cX9_init 90 = .ok (.aload_n 0, 1) := by decide +kernel
theorem dX9_init_91 : decode cX9_init 91 = .ok (.bipush 8, 2) := by decide +kernel
theorem dX9_init_93 : decode cX9_init 93 = .ok (.newarray .int, 2) := by decide +kernel
theorem dX9_init_95 : decode cX9_init 95 = .ok (.putfield 45, 3) := by decide +kernel
theorem dX9_init_98 : decode cX9_init 98 = .ok (.return_, 1) := by decide +kernel
theorem dX9_goThrough_0 : decode cX9_goThrough 0 = .ok (.aload_n 0, 1) := by decide +kernel
theorem dX9_goThrough_1 : decode cX9_goThrough 1 = .ok (.iconst 0, 1) := by decide +kernel
theorem dX9_goThrough_2 : decode cX9_goThrough 2 = .ok (.putfield 26, 3) := by decide +kernel
theorem dX9_goThrough_5 : decode cX9_goThrough 5 = .ok (.iconst 0, 1) := by decide +kernel
theorem dX9_goThrough_6 : decode cX9_goThrough 6 = .ok (.istore 5, 2) := by decide +kernel
theorem dX9_goThrough_8 : decode cX9_goThrough 8 = .ok (.iload 5, 2) := by decide +kernel
theorem dX9_goThrough_10 : decode cX9_goThrough 10 = .ok (.bipush 12, 2) := by decide +kernel
theorem dX9_goThrough_12 : decode cX9_goThrough 12 = .ok (.if_icmp .ge 40, 3) := by decide +kernel
theorem dX9_goThrough_15 : decode cX9_goThrough 15 = .ok (.aload_n 1, 1) := by decide +kernel
theorem dX9_goThrough_16 : decode cX9_goThrough 16 = .ok (.iload 5, 2) := by decide +kernel
theorem dX9_goThrough_18 : decode cX9_goThrough 18 = .ok (.invokevirtual 48, 3) := by decide +kernel
theorem dX9_goThrough_21 : decode cX9_goThrough 21 = .ok (.astore 6, 2) := by decide +kernel
theorem dX9_goThrough_23 : decode cX9_goThrough 23 = .ok (.aload 6, 2) := by decide +kernel
theorem dX9_goThrough_25 : decode cX9_goThrough 25 = .ok (.ifnull 21, 3) := by decide +kernel
theorem dX9_goThrough_28 : decode cX9_goThrough 28 = .ok (.iload_n 3, 1) := by decide +kernel
theorem dX9_goThrough_29 : decode cX9_goThrough 29 = .ok (.iload 5, 2) := by decide +kernel
theorem dX9_goThrough_31 : decode cX9_goThrough 31 = .ok (.ishr, 1) := by decide +kernel
theorem dX9_goThrough_32 : decode cX9_goThrough 32 = .ok (.iconst 1, 1) := by decide +kernel
theorem dX9_goThrough_33 : decode cX9_goThrough 33 = .ok (.iand, 1) := by decide +kernel
theorem dX9_goThrough_34 : decode cX9_goThrough 34 = .ok (.iconst 1, 1) := by decide +kernel
theorem dX9_goThrough_35 : decode cX9_goThrough 35 = .ok (.if_icmp .ne 11, 3) := by decide +kernel
theorem dX9_goThrough_38 : decode cX9_goThrough 38 = .ok (.aload_n 0, 1) := by decide +kernel
theorem dX9_goThrough_39 : decode cX9_goThrough 39 = .ok (.iload 5, 2) := by decide +kernel
theorem dX9_goThrough_41 : decode cX9_goThrough 41 = .ok (.aload 6, 2) := by decide +kernel
theorem dX9_goThrough_43 : decode cX9_goThrough 43 = .ok (.invokevirtual 54, 3) := by decide +kernel
theorem dX9_goThrough_46 : decode cX9_goThrough 46 = .ok (.iinc 5 1, 3) := by decide +kernel
theorem dX9_goThrough_49 : decode cX9_goThrough 49 = .ok (.goto (-41), 3) := by decide +kernel
theorem dX9_goThrough_52 : decode cX9_goThrough 52 = .ok (.aload_n 0, 1) := by decide +kernel
theorem dX9_goThrough_53 : decode cX9_goThrough 53 = .ok (.aload_n 2, 1) := by decide +kernel
theorem dX9_goThrough_54 : decode cX9_goThrough 54 = .ok (.iconst 0, 1) := by decide +kernel
theorem dX9_goThrough_55 : decode cX9_goThrough 55 = .ok (.iconst 0, 1) := by decide +kernel
theorem dX9_goThrough_56 : decode cX9_goThrough 56 = .ok (.iload 4, 2) := by decide +kernel
theorem dX9_goThrough_58 : decode cX9_goThrough 58 = .ok (.invokevirtual 58, 3) := by decide +kernel
theorem dX9_goThrough_61 : decode cX9_goThrough 61 = .ok (.return_, 1) := by decide +kernel
theorem dX9_addMember_0 : decode cX9_addMember 0 = .ok (.aload_n 0, 1) := by decide +kernel
theorem dX9_addMember_1 : decode cX9_addMember 1 = .ok (.getfield 9, 3) := by decide +kernel
theorem dX9_addMember_4 : decode cX9_addMember 4 = .ok (.aload_n 0, 1) := by decide +kernel
theorem dX9_addMember_5 : decode cX9_addMember 5 = .ok (.getfield 26, 3) := by decide +kernel
theorem dX9_addMember_8 : decode cX9_addMember 8 = .ok (.iload_n 1, 1) := by decide +kernel
theorem dX9_addMember_9 : decode cX9_addMember 9 = .ok (.iastore, 1) := by decide +kernel
theorem dX9_addMember_10 : decode cX9_addMember 10 = .ok (.aload_n 0, 1) := by decide +kernel
theorem dX9_addMember_11 : decode cX9_addMember 11 = .ok (.getfield 15, 3) := by decide +kernel
theorem dX9_addMember_14 : decode cX9_addMember 14 = .ok (.aload_n 0, 1) := by decide +kernel
theorem dX9_addMember_15 : decode cX9_addMember 15 = .ok (.getfield 26, 3) := by decide +kernel
theorem dX9_addMember_18 : decode cX9_addMember 18 = .ok (.aload_n 2, 1) := by decide +kernel
theorem dX9_addMember_19 : decode cX9_addMember 19 = .ok (.getfield 62, 3) := by decide +kernel
theorem dX9_addMember_22 : decode cX9_addMember 22 = .ok (.iastore, 1) := by decide +kernel
theorem dX9_addMember_23 : decode cX9_addMember 23 = .ok (.iconst 0, 1) := by decide +kernel
theorem dX9_addMember_24 : decode cX9_addMember 24 = .ok (.istore_n 3, 1) := by decide +kernel
theorem dX9_addMember_25 : decode cX9_addMember 25 = .ok (.iload_n 3, 1) := by decide +kernel
theorem dX9_addMember_26 : decode cX9_addMember 26 = .ok (.bipush 8, 2) := by decide +kernel
theorem dX9_addMember_28 : decode cX9_addMember 28 = .ok (.if_icmp .ge 42, 3) := by decide +kernel
theorem dX9_addMember_31 : decode cX9_addMember 31 = .ok (.aload_n 0, 1) := by decide +kernel
theorem dX9_addMember_32 : decode cX9_addMember 32 = .ok (.getfield 20, 3) := by decide +kernel
theorem dX9_addMember_35 : decode cX9_addMember 35 = .ok (.aload_n 0, 1) := by decide +kernel
theorem dX9_addMember_36 : decode cX9_addMember 36 = .ok (.getfield 26, 3) := by decide +kernel
theorem dX9_addMember_39 : decode cX9_addMember 39 = .ok (.aaload, 1) := by decide +kernel
theorem dX9_addMember_40 : decode cX9_addMember 40 = .ok (.iload_n 3, 1) := by decide +kernel
theorem dX9_addMember_41 : decode cX9_addMember 41 = .ok (.aload_n 2, 1) := by decide +kernel
theorem dX9_addMember_42 : decode cX9_addMember 42 = .ok (.iload_n 3, 1) := by decide +kernel
theorem dX9_addMember_43 : decode cX9_addMember 43 = .ok (.iconst 0, 1) := by decide +kernel
theorem dX9_addMember_44 : decode cX9_addMember 44 = .ok (.invokevirtual 67, 3) := by decide +kernel
theorem dX9_addMember_47 : decode cX9_addMember 47 = .ok (.iastore, 1) := by decide +kernel
theorem dX9_addMember_48 : decode cX9_addMember 48 = .ok (.aload_n 0, 1) := by decide +kernel
theorem dX9_addMember_49 : decode cX9_addMember 49 = .ok (.getfield 23, 3) := by decide +kernel
theorem dX9_addMember_52 : decode cX9_addMember 52 = .ok (.aload_n 0, 1) := by decide +kernel
theorem dX9_addMember_53 : decode cX9_addMember 53 = .ok (.getfield 26, 3) := by decide +kernel
theorem dX9_addMember_56 : decode cX9_addMember 56 = .ok (.aaload, 1) := by decide +kernel
theorem dX9_addMember_57 : decode cX9_addMember 57 = .ok (.iload_n 3, 1) := by decide +kernel
theorem dX9_addMember_58 : decode cX9_addMember 58 = .ok (.aload_n 2, 1) := by decide +kernel
theorem dX9_addMember_59 : decode cX9_addMember 59 = .ok (.iload_n 3, 1) := by decide +kernel
theorem dX9_addMember_60 : decode cX9_addMember 60 = .ok (.invokevirtual 71, 3) := by decide +kernel
theorem dX9_addMember_63 : decode cX9_addMember 63 = .ok (.iastore, 1) := by decide +kernel
theorem dX9_addMember_64 : decode cX9_addMember 64 = .ok (.iinc 3 1, 3) := by decide +kernel
theorem dX9_addMember_67 : decode cX9_addMember 67 = .ok (.goto (-42), 3) := by decide +kernel
theorem dX9_addMember_70 : decode cX9_addMember 70 = .ok (.aload_n 0, 1) := by decide +kernel
theorem dX9_addMember_71 : decode cX9_addMember 71 = .ok (.dup, 1) := by decide +kernel
theorem dX9_addMember_72 : decode cX9_addMember 72 = .ok (.getfield 26, 3) := by decide +kernel
theorem dX9_addMember_75 : decode cX9_addMember 75 = .ok (.iconst 1, 1) := by decide +kernel
theorem dX9_addMember_76 : decode cX9_addMember 76 = .ok (.iadd, 1) := by decide +kernel
theorem dX9_addMember_77 : decode cX9_addMember 77 = .ok (.putfield 26, 3) := by decide +kernel
theorem dX9_addMember_80 : decode cX9_addMember 80 = .ok (.return_, 1) := by decide +kernel
theorem dX9_spread_0 : decode cX9_spread 0 = .ok (.iload_n 2, 1) := by decide +kernel
theorem dX9_spread_1 : decode cX9_spread 1 = .ok (.iconst 4, 1) := by decide +kernel
theorem dX9_spread_2 : decode cX9_spread 2 = .ok (.if_icmp .lt 4, 3) := by decide +kernel
theorem dX9_spread_5 : decode cX9_spread 5 = .ok (.return_, 1) := by decide +kernel
theorem dX9_spread_6 : decode cX9_spread 6 = .ok (.iload_n 3, 1) := by decide +kernel
theorem dX9_spread_7 : decode cX9_spread 7 = .ok (.istore 5, 2) := by decide +kernel
theorem dX9_spread_9 : decode cX9_spread 9 = .ok (.iload 5, 2) := by decide +kernel
theorem dX9_spread_11 : decode cX9_spread 11 = .ok (.aload_n 0, 1) := by decide +kernel
theorem dX9_spread_12 : decode cX9_spread 12 = .ok (.getfield 26, 3) := by decide +kernel
theorem dX9_spread_15 : decode cX9_spread 15 = .ok (.if_icmp .ge 108, 3) := by decide +kernel
theorem dX9_spread_18 : decode cX9_spread 18 = .ok (.aload_n 0, 1) := by decide +kernel
theorem dX9_spread_19 : decode cX9_spread 19 = .ok (.getfield 30, 3) := by decide +kernel
theorem dX9_spread_22 : decode cX9_spread 22 = .ok (.iload_n 2, 1) := by decide +kernel
theorem dX9_spread_23 : decode cX9_spread 23 = .ok (.iload 5, 2) := by decide +kernel
theorem dX9_spread_25 : decode cX9_spread 25 = .ok (.iastore, 1) := by decide +kernel
theorem dX9_spread_26 : decode cX9_spread 26 = .ok (.aload_n 0, 1) := by decide +kernel
theorem dX9_spread_27 : decode cX9_spread 27 = .ok (.getfield 33, 3) := by decide +kernel
theorem dX9_spread_30 : decode cX9_spread 30 = .ok (.iload_n 2, 1) := by decide +kernel
theorem dX9_spread_31 : decode cX9_spread 31 = .ok (.iload 4, 2) := by decide +kernel
theorem dX9_spread_33 : decode cX9_spread 33 = .ok (.iastore, 1) := by decide +kernel
theorem dX9_spread_34 : decode cX9_spread 34 = .ok (.aload_n 0, 1) := by decide +kernel
theorem dX9_spread_35 : decode cX9_spread 35 = .ok (.iload_n 2, 1) := by decide +kernel
theorem dX9_spread_36 : decode cX9_spread 36 = .ok (.putfield 42, 3) := by decide +kernel
theorem dX9_spread_39 : decode cX9_spread 39 = .ok (.aload_n 0, 1) := by decide +kernel
theorem dX9_spread_40 : decode cX9_spread 40 = .ok (.getfield 45, 3) := by decide +kernel
theorem dX9_spread_43 : decode cX9_spread 43 = .ok (.iconst (-1), 1) := by decide +kernel
theorem dX9_spread_44 : decode cX9_spread 44 = .ok (.invokestatic 75, 3) := by decide +kernel
theorem dX9_spread_47 : decode cX9_spread 47 = .ok (.aload_n 0, 1) := by decide +kernel
theorem dX9_spread_48 : decode cX9_spread 48 = .ok (.aload_n 1, 1) := by decide +kernel
theorem dX9_spread_49 : decode cX9_spread 49 = .ok (.invokevirtual 81, 3) := by decide +kernel
theorem dX9_spread_52 : decode cX9_spread 52 = .ok (.iload_n 2, 1) := by decide +kernel
theorem dX9_spread_53 : decode cX9_spread 53 = .ok (.iconst 1, 1) := by decide +kernel
theorem dX9_spread_54 : decode cX9_spread 54 = .ok (.iadd, 1) := by decide +kernel
theorem dX9_spread_55 : decode cX9_spread 55 = .ok (.iconst 4, 1) := by decide +kernel
theorem dX9_spread_56 : decode cX9_spread 56 = .ok (.if_icmp .ge 61, 3) := by decide +kernel
theorem dX9_spread_59 : decode cX9_spread 59 = .ok (.iload 5, 2) := by decide +kernel
theorem dX9_spread_61 : decode cX9_spread 61 = .ok (.iconst 1, 1) := by decide +kernel
theorem dX9_spread_62 : decode cX9_spread 62 = .ok (.iadd, 1) := by decide +kernel
theorem dX9_spread_63 : decode cX9_spread 63 = .ok (.aload_n 0, 1) := by decide +kernel
theorem dX9_spread_64 : decode cX9_spread 64 = .ok (.getfield 26, 3) := by decide +kernel
theorem dX9_spread_67 : decode cX9_spread 67 = .ok (.if_icmp .ge 50, 3) := by decide +kernel
theorem dX9_spread_70 : decode cX9_spread 70 = .ok (.iload 4, 2) := by decide +kernel
theorem dX9_spread_72 : decode cX9_spread 72 = .ok (.iconst 1, 1) := by decide +kernel
theorem dX9_spread_73 : decode cX9_spread 73 = .ok (.isub, 1) := by decide +kernel
theorem dX9_spread_74 : decode cX9_spread 74 = .ok (.istore 6, 2) := by decide +kernel
theorem dX9_spread_76 : decode cX9_spread 76 = .ok (.iload 6, 2) := by decide +kernel
theorem dX9_spread_78 : decode cX9_spread 78 = .ok (.ifCond .le 39, 3) := by decide +kernel
theorem dX9_spread_81 : decode cX9_spread 81 = .ok (.aload_n 0, 1) := by decide +kernel
theorem dX9_spread_82 : decode cX9_spread 82 = .ok (.getfield 33, 3) := by decide +kernel
theorem dX9_spread_85 : decode cX9_spread 85 = .ok (.iload_n 2, 1) := by decide +kernel
theorem dX9_spread_86 : decode cX9_spread 86 = .ok (.iload 6, 2) := by decide +kernel
theorem dX9_spread_88 : decode cX9_spread 88 = .ok (.iastore, 1) := by decide +kernel
theorem dX9_spread_89 : decode cX9_spread 89 = .ok (.aload_n 0, 1) := by decide +kernel
theorem dX9_spread_90 : decode cX9_spread 90 = .ok (.iload_n 2, 1) := by decide +kernel
theorem dX9_spread_91 : decode cX9_spread 91 = .ok (.invokevirtual 85, 3) := by decide +kernel
theorem dX9_spread_94 : decode cX9_spread 94 = .ok (.aload_n 0, 1) := by decide +kernel
theorem dX9_spread_95 : decode cX9_spread 95 = .ok (.aload_n 1, 1) := by decide +kernel
theorem dX9_spread_96 : decode cX9_spread 96 = .ok (.iload_n 2, 1) := by decide +kernel
theorem dX9_spread_97 : decode cX9_spread 97 = .ok (.iconst 1, 1) := by decide +kernel
theorem dX9_spread_98 : decode cX9_spread 98 = .ok (.iadd, 1) := by decide +kernel
theorem dX9_spread_99 : decode cX9_spread 99 = .ok (.iload 5, 2) := by decide +kernel
theorem dX9_spread_101 : decode cX9_spread 101 = .ok (.iconst 1, 1) := by decide +kernel
theorem dX9_spread_102 : decode cX9_spread 102 = .ok (.iadd, 1) := by decide +kernel
theorem dX9_spread_103 : decode cX9_spread 103 = .ok (.iload 4, 2) := by decide +kernel
theorem dX9_spread_105 : decode cX9_spread 105 = .ok (.iload 6, 2) := by decide +kernel
theorem dX9_spread_107 : decode cX9_spread 107 = .ok (.isub, 1) := by decide +kernel
theorem dX9_spread_108 : decode cX9_spread 108 = .ok (.invokevirtual 58, 3) := by decide +kernel
theorem dX9_spread_111 : decode cX9_spread 111 = .ok (.iinc 6 (-1), 3) := by decide +kernel
theorem dX9_spread_114 : decode cX9_spread 114 = .ok (.goto (-38), 3) := by decide +kernel
theorem dX9_spread_117 : decode cX9_spread 117 = .ok (.iinc 5 1, 3) := by decide +kernel
theorem dX9_spread_120 : decode cX9_spread 120 = .ok (.goto (-111), 3) := by decide +kernel
theorem dX9_spread_123 : decode cX9_spread 123 = .ok (.return_, 1) := by decide +kernel
theorem dX9_sumUp_0 : decode cX9_sumUp 0 = .ok (.aload_n 0, 1) := by decide +kernel
theorem dX9_sumUp_1 : decode cX9_sumUp 1 = .ok (.getfield 33, 3) := by decide +kernel
theorem dX9_sumUp_4 : decode cX9_sumUp 4 = .ok (.iload_n 1, 1) := by decide +kernel
theorem dX9_sumUp_5 : decode cX9_sumUp 5 = .ok (.iaload, 1) := by decide +kernel
theorem dX9_sumUp_6 : decode cX9_sumUp 6 = .ok (.istore_n 2, 1) := by decide +kernel
theorem dX9_sumUp_7 : decode cX9_sumUp 7 = .ok (.aload_n 0, 1) := by decide +kernel
theorem dX9_sumUp_8 : decode cX9_sumUp 8 = .ok (.getfield 30, 3) := by decide +kernel
theorem dX9_sumUp_11 : decode cX9_sumUp 11 = .ok (.iload_n 1, 1) := by decide +kernel
theorem dX9_sumUp_12 : decode cX9_sumUp 12 = .ok (.iaload, 1) := by decide +kernel
theorem dX9_sumUp_13 : decode cX9_sumUp 13 = .ok (.istore_n 3, 1) := by decide +kernel
theorem dX9_sumUp_14 : decode cX9_sumUp 14 = .ok (.iconst 0, 1) := by decide +kernel
theorem dX9_sumUp_15 : decode cX9_sumUp 15 = .ok (.istore 4, 2) := by decide +kernel
theorem dX9_sumUp_17 : decode cX9_sumUp 17 = .ok (.iload 4, 2) := by decide +kernel
theorem dX9_sumUp_19 : decode cX9_sumUp 19 = .ok (.bipush 8, 2) := by decide +kernel
theorem dX9_sumUp_21 : decode cX9_sumUp 21 = .ok (.if_icmp .ge 73, 3) := by decide +kernel
theorem dX9_sumUp_24 : decode cX9_sumUp 24 = .ok (.aload_n 0, 1) := by decide +kernel
theorem dX9_sumUp_25 : decode cX9_sumUp 25 = .ok (.getfield 36, 3) := by decide +kernel
theorem dX9_sumUp_28 : decode cX9_sumUp 28 = .ok (.iload_n 1, 1) := by decide +kernel
theorem dX9_sumUp_29 : decode cX9_sumUp 29 = .ok (.iconst 1, 1) := by decide +kernel
theorem dX9_sumUp_30 : decode cX9_sumUp 30 = .ok (.iadd, 1) := by decide +kernel
theorem dX9_sumUp_31 : decode cX9_sumUp 31 = .ok (.aaload, 1) := by decide +kernel
theorem dX9_sumUp_32 : decode cX9_sumUp 32 = .ok (.iload 4, 2) := by decide +kernel
theorem dX9_sumUp_34 : decode cX9_sumUp 34 = .ok (.aload_n 0, 1) := by decide +kernel
theorem dX9_sumUp_35 : decode cX9_sumUp 35 = .ok (.getfield 36, 3) := by decide +kernel
theorem dX9_sumUp_38 : decode cX9_sumUp 38 = .ok (.iload_n 1, 1) := by decide +kernel
theorem dX9_sumUp_39 : decode cX9_sumUp 39 = .ok (.aaload, 1) := by decide +kernel
theorem dX9_sumUp_40 : decode cX9_sumUp 40 = .ok (.iload 4, 2) := by decide +kernel
theorem dX9_sumUp_42 : decode cX9_sumUp 42 = .ok (.iaload, 1) := by decide +kernel
theorem dX9_sumUp_43 : decode cX9_sumUp 43 = .ok (.iload_n 2, 1) := by decide +kernel
theorem dX9_sumUp_44 : decode cX9_sumUp 44 = .ok (.aload_n 0, 1) := by decide +kernel
theorem dX9_sumUp_45 : decode cX9_sumUp 45 = .ok (.getfield 20, 3) := by decide +kernel
end
section
theorem dX9_sumUp_48 : decode cX9_sumUp 48 = .ok (.iload_n 3, 1) := by decide +kernel
theorem dX9_sumUp_49 : decode cX9_sumUp 49 = .ok (.aaload, 1) := by decide +kernel
theorem dX9_sumUp_50 : decode cX9_sumUp 50 = .ok (.iload 4, 2) := by decide +kernel
theorem dX9_sumUp_52 : decode cX9_sumUp 52 = .ok (.iaload, 1) := by decide +kernel
theorem dX9_sumUp_53 : decode cX9_sumUp 53 = .ok (.imul, 1) := by decide +kernel
theorem dX9_sumUp_54 : decode cX9_sumUp 54 = .ok (.iadd, 1) := by decide +kernel
theorem dX9_sumUp_55 : decode cX9_sumUp 55 = .ok (.iastore, 1) := by decide +kernel
theorem dX9_sumUp_56 : decode cX9_sumUp 56 = .ok (.aload_n 0, 1) := by decide +kernel
theorem dX9_sumUp_57 : decode cX9_sumUp 57 = .ok (.getfield 39, 3) := by decide +kernel
theorem dX9_sumUp_60 : decode cX9_sumUp 60 = .ok (.iload_n 1, 1) := by decide +kernel
theorem dX9_sumUp_61 : decode cX9_sumUp 61 = .ok (.iconst 1, 1) := by decide +kernel
theorem dX9_sumUp_62 : decode cX9_sumUp 62 = .ok (.iadd, 1) := by decide +kernel
theorem dX9_sumUp_63 : decode cX9_sumUp 63 = .ok (.aaload, 1) := by decide +kernel
theorem dX9_sumUp_64 : decode cX9_sumUp 64 = .ok (.iload 4, 2) := by decide +kernel
theorem dX9_sumUp_66 : decode cX9_sumUp 66 = .ok (.aload_n 0, 1) := by decide +kernel
theorem dX9_sumUp_67 : decode cX9_sumUp 67 = .ok (.getfield 39, 3) := by decide +kernel
theorem dX9_sumUp_70 : decode cX9_sumUp 70 = .ok (.iload_n 1, 1) := by decide +kernel
theorem dX9_sumUp_71 : decode cX9_sumUp 71 = .ok (.aaload, 1) := by decide +kernel
theorem dX9_sumUp_72 : decode cX9_sumUp 72 = .ok (.iload 4, 2) := by decide +kernel
theorem dX9_sumUp_74 : decode cX9_sumUp 74 = .ok (.iaload, 1) := by decide +kernel
theorem dX9_sumUp_75 : decode cX9_sumUp 75 = .ok (.iload_n 2, 1) := by decide +kernel
theorem dX9_sumUp_76 : decode cX9_sumUp 76 = .ok (.aload_n 0, 1) := by decide +kernel
theorem dX9_sumUp_77 : decode cX9_sumUp 77 = .ok (.getfield 23, 3) := by decide +kernel
theorem dX9_sumUp_80 : decode cX9_sumUp 80 = .ok (.iload_n 3, 1) := by decide +kernel
theorem dX9_sumUp_81 : decode cX9_sumUp 81 = .ok (.aaload, 1) := by decide +kernel
theorem dX9_sumUp_82 : decode cX9_sumUp 82 = .ok (.iload 4, 2) := by decide +kernel
theorem dX9_sumUp_84 : decode cX9_sumUp 84 = .ok (.iaload, 1) := by decide +kernel
theorem dX9_sumUp_85 : decode cX9_sumUp 85 = .ok (.imul, 1) := by decide +kernel
theorem dX9_sumUp_86 : decode cX9_sumUp 86 = .ok (.iadd, 1) := by decide +kernel
theorem dX9_sumUp_87 : decode cX9_sumUp 87 = .ok (.iastore, 1) := by decide +kernel
theorem dX9_sumUp_88 : decode cX9_sumUp 88 = .ok (.iinc 4 1, 3) := by decide +kernel
theorem dX9_sumUp_91 : decode cX9_sumUp 91 = .ok (.goto (-74), 3) := by decide +kernel
theorem dX9_sumUp_94 : decode cX9_sumUp 94 = .ok (.return_, 1) := by decide +kernel
theorem dX9_bySight_0 : decode cX9_bySight 0 = .ok (.aload_n 0, 1) := by decide +kernel
theorem dX9_bySight_1 : decode cX9_bySight 1 = .ok (.getfield 33, 3) := by decide +kernel
theorem dX9_bySight_4 : decode cX9_bySight 4 = .ok (.aload_n 0, 1) := by decide +kernel
theorem dX9_bySight_5 : decode cX9_bySight 5 = .ok (.getfield 42, 3) := by decide +kernel
theorem dX9_bySight_8 : decode cX9_bySight 8 = .ok (.iaload, 1) := by decide +kernel
theorem dX9_bySight_9 : decode cX9_bySight 9 = .ok (.istore_n 3, 1) := by decide +kernel
theorem dX9_bySight_10 : decode cX9_bySight 10 = .ok (.aload_n 0, 1) := by decide +kernel
theorem dX9_bySight_11 : decode cX9_bySight 11 = .ok (.getfield 30, 3) := by decide +kernel
theorem dX9_bySight_14 : decode cX9_bySight 14 = .ok (.aload_n 0, 1) := by decide +kernel
theorem dX9_bySight_15 : decode cX9_bySight 15 = .ok (.getfield 42, 3) := by decide +kernel
theorem dX9_bySight_18 : decode cX9_bySight 18 = .ok (.iaload, 1) := by decide +kernel
theorem dX9_bySight_19 : decode cX9_bySight 19 = .ok (.istore 4, 2) := by decide +kernel
theorem dX9_bySight_21 : decode cX9_bySight 21 = .ok (.iconst 0, 1) := by decide +kernel
theorem dX9_bySight_22 : decode cX9_bySight 22 = .ok (.istore 5, 2) := by decide +kernel
theorem dX9_bySight_24 : decode cX9_bySight 24 = .ok (.iload 5, 2) := by decide +kernel
theorem dX9_bySight_26 : decode cX9_bySight 26 = .ok (.bipush 8, 2) := by decide +kernel
theorem dX9_bySight_28 : decode cX9_bySight 28 = .ok (.if_icmp .ge 91, 3) := by decide +kernel
theorem dX9_bySight_31 : decode cX9_bySight 31 = .ok (.aload_n 0, 1) := by decide +kernel
theorem dX9_bySight_32 : decode cX9_bySight 32 = .ok (.getfield 45, 3) := by decide +kernel
theorem dX9_bySight_35 : decode cX9_bySight 35 = .ok (.iload 5, 2) := by decide +kernel
theorem dX9_bySight_37 : decode cX9_bySight 37 = .ok (.iaload, 1) := by decide +kernel
theorem dX9_bySight_38 : decode cX9_bySight 38 = .ok (.ifCond .ge 75, 3) := by decide +kernel
theorem dX9_bySight_41 : decode cX9_bySight 41 = .ok (.aload_n 1, 1) := by decide +kernel
theorem dX9_bySight_42 : decode cX9_bySight 42 = .ok (.getfield 89, 3) := by decide +kernel
theorem dX9_bySight_45 : decode cX9_bySight 45 = .ok (.iload_n 2, 1) := by decide +kernel
theorem dX9_bySight_46 : decode cX9_bySight 46 = .ok (.aaload, 1) := by decide +kernel
theorem dX9_bySight_47 : decode cX9_bySight 47 = .ok (.iload 5, 2) := by decide +kernel
theorem dX9_bySight_49 : decode cX9_bySight 49 = .ok (.iaload, 1) := by decide +kernel
theorem dX9_bySight_50 : decode cX9_bySight 50 = .ok (.ifCond .le 63, 3) := by decide +kernel
theorem dX9_bySight_53 : decode cX9_bySight 53 = .ok (.aload_n 0, 1) := by decide +kernel
theorem dX9_bySight_54 : decode cX9_bySight 54 = .ok (.getfield 45, 3) := by decide +kernel
theorem dX9_bySight_57 : decode cX9_bySight 57 = .ok (.iload 5, 2) := by decide +kernel
theorem dX9_bySight_59 : decode cX9_bySight 59 = .ok (.aload_n 0, 1) := by decide +kernel
theorem dX9_bySight_60 : decode cX9_bySight 60 = .ok (.getfield 36, 3) := by decide +kernel
theorem dX9_bySight_63 : decode cX9_bySight 63 = .ok (.aload_n 0, 1) := by decide +kernel
theorem dX9_bySight_64 : decode cX9_bySight 64 = .ok (.getfield 42, 3) := by decide +kernel
theorem dX9_bySight_67 : decode cX9_bySight 67 = .ok (.aaload, 1) := by decide +kernel
theorem dX9_bySight_68 : decode cX9_bySight 68 = .ok (.iload 5, 2) := by decide +kernel
theorem dX9_bySight_70 : decode cX9_bySight 70 = .ok (.iaload, 1) := by decide +kernel
theorem dX9_bySight_71 : decode cX9_bySight 71 = .ok (.iload_n 3, 1) := by decide +kernel
theorem dX9_bySight_72 : decode cX9_bySight 72 = .ok (.aload_n 0, 1) := by decide +kernel
theorem dX9_bySight_73 : decode cX9_bySight 73 = .ok (.getfield 20, 3) := by decide +kernel
theorem dX9_bySight_76 : decode cX9_bySight 76 = .ok (.iload 4, 2) := by decide +kernel
theorem dX9_bySight_78 : decode cX9_bySight 78 = .ok (.aaload, 1) := by decide +kernel
theorem dX9_bySight_79 : decode cX9_bySight 79 = .ok (.iload 5, 2) := by decide +kernel
theorem dX9_bySight_81 : decode cX9_bySight 81 = .ok (.iaload, 1) := by decide +kernel
theorem dX9_bySight_82 : decode cX9_bySight 82 = .ok (.imul, 1) := by decide +kernel
theorem dX9_bySight_83 : decode cX9_bySight 83 = .ok (.iadd, 1) := by decide +kernel
theorem dX9_bySight_84 : decode cX9_bySight 84 = .ok (.aload_n 0, 1) := by decide +kernel
theorem dX9_bySight_85 : decode cX9_bySight 85 = .ok (.getfield 39, 3) := by decide +kernel
theorem dX9_bySight_88 : decode cX9_bySight 88 = .ok (.aload_n 0, 1) := by decide +kernel
theorem dX9_bySight_89 : decode cX9_bySight 89 = .ok (.getfield 42, 3) := by decide +kernel
theorem dX9_bySight_92 : decode cX9_bySight 92 = .ok (.aaload, 1) := by decide +kernel
theorem dX9_bySight_93 : decode cX9_bySight 93 = .ok (.iload 5, 2) := by decide +kernel
theorem dX9_bySight_95 : decode cX9_bySight 95 = .ok (.iaload, 1) := by decide +kernel
theorem dX9_bySight_96 : decode cX9_bySight 96 = .ok (.iload_n 3, 1) := by decide +kernel
theorem dX9_bySight_97 : decode cX9_bySight 97 = .ok (.aload_n 0, 1) := by decide +kernel
theorem dX9_bySight_98 : decode cX9_bySight 98 = .ok (.getfield 23, 3) := by decide +kernel
theorem dX9_bySight_101 : decode cX9_bySight 101 = .ok (.iload 4, 2) := by decide +kernel
theorem dX9_bySight_103 : decode cX9_bySight 103 = .ok (.aaload, 1) := by decide +kernel
theorem dX9_bySight_104 : decode cX9_bySight 104 = .ok (.iload 5, 2) := by decide +kernel
theorem dX9_bySight_106 : decode cX9_bySight 106 = .ok (.iaload, 1) := by decide +kernel
theorem dX9_bySight_107 : decode cX9_bySight 107 = .ok (.imul, 1) := by decide +kernel
theorem dX9_bySight_108 : decode cX9_bySight 108 = .ok (.iadd, 1) := by decide +kernel
theorem dX9_bySight_109 : decode cX9_bySight 109 = .ok (.invokestatic 94, 3) := by decide +kernel
theorem dX9_bySight_112 : decode cX9_bySight 112 = .ok (.iastore, 1) := by decide +kernel
theorem dX9_bySight_113 : decode cX9_bySight 113 = .ok (.iinc 5 1, 3) := by decide +kernel
theorem dX9_bySight_116 : decode cX9_bySight 116 = .ok (.goto (-92), 3) := by decide +kernel
theorem dX9_bySight_119 : decode cX9_bySight 119 = .ok (.aload_n 1, 1) := by decide +kernel
theorem dX9_bySight_120 : decode cX9_bySight 120 = .ok (.iload_n 2, 1) := by decide +kernel
theorem dX9_bySight_121 : decode cX9_bySight 121 = .ok (.aload_n 0, 1) := by decide +kernel
theorem dX9_bySight_122 : decode cX9_bySight 122 = .ok (.getfield 45, 3) := by decide +kernel
theorem dX9_bySight_125 : decode cX9_bySight 125 = .ok (.invokevirtual 99, 3) := by decide +kernel
theorem dX9_bySight_128 : decode cX9_bySight 128 = .ok (.ireturn, 1) := by decide +kernel
theorem dX9_tubesUsed_0 : decode cX9_tubesUsed 0 = .ok (.iconst 0, 1) := by decide +kernel
theorem dX9_tubesUsed_1 : decode cX9_tubesUsed 1 = .ok (.istore_n 1, 1) := by decide +kernel
theorem dX9_tubesUsed_2 : decode cX9_tubesUsed 2 = .ok (.iconst 0, 1) := by decide +kernel
theorem dX9_tubesUsed_3 : decode cX9_tubesUsed 3 = .ok (.istore_n 2, 1) := by decide +kernel
theorem dX9_tubesUsed_4 : decode cX9_tubesUsed 4 = .ok (.iload_n 2, 1) := by decide +kernel
theorem dX9_tubesUsed_5 : decode cX9_tubesUsed 5 = .ok (.aload_n 0, 1) := by decide +kernel
theorem dX9_tubesUsed_6 : decode cX9_tubesUsed 6 = .ok (.getfield 42, 3) := by decide +kernel
theorem dX9_tubesUsed_9 : decode cX9_tubesUsed 9 = .ok (.if_icmp .gt 25, 3) := by decide +kernel
theorem dX9_tubesUsed_12 : decode cX9_tubesUsed 12 = .ok (.iload_n 1, 1) := by decide +kernel
theorem dX9_tubesUsed_13 : decode cX9_tubesUsed 13 = .ok (.iconst 1, 1) := by decide +kernel
theorem dX9_tubesUsed_14 : decode cX9_tubesUsed 14 = .ok (.aload_n 0, 1) := by decide +kernel
theorem dX9_tubesUsed_15 : decode cX9_tubesUsed 15 = .ok (.getfield 9, 3) := by decide +kernel
theorem dX9_tubesUsed_18 : decode cX9_tubesUsed 18 = .ok (.aload_n 0, 1) := by decide +kernel
theorem dX9_tubesUsed_19 : decode cX9_tubesUsed 19 = .ok (.getfield 30, 3) := by decide +kernel
theorem dX9_tubesUsed_22 : decode cX9_tubesUsed 22 = .ok (.iload_n 2, 1) := by decide +kernel
theorem dX9_tubesUsed_23 : decode cX9_tubesUsed 23 = .ok (.iaload, 1) := by decide +kernel
theorem dX9_tubesUsed_24 : decode cX9_tubesUsed 24 = .ok (.iaload, 1) := by decide +kernel
theorem dX9_tubesUsed_25 : decode cX9_tubesUsed 25 = .ok (.ishl, 1) := by decide +kernel
theorem dX9_tubesUsed_26 : decode cX9_tubesUsed 26 = .ok (.ior, 1) := by decide +kernel
theorem dX9_tubesUsed_27 : decode cX9_tubesUsed 27 = .ok (.istore_n 1, 1) := by decide +kernel
theorem dX9_tubesUsed_28 : decode cX9_tubesUsed 28 = .ok (.iinc 2 1, 3) := by decide +kernel
theorem dX9_tubesUsed_31 : decode cX9_tubesUsed 31 = .ok (.goto (-27), 3) := by decide +kernel
theorem dX9_tubesUsed_34 : decode cX9_tubesUsed 34 = .ok (.iload_n 1, 1) := by decide +kernel
theorem dX9_tubesUsed_35 : decode cX9_tubesUsed 35 = .ok (.ireturn, 1) := by decide +kernel
theorem dX9_cost_0 : decode cX9_cost 0 = .ok (.iconst 0, 1) := by decide +kernel
theorem dX9_cost_1 : decode cX9_cost 1 = .ok (.istore_n 1, 1) := by decide +kernel
theorem dX9_cost_2 : decode cX9_cost 2 = .ok (.iconst 0, 1) := by decide +kernel
theorem dX9_cost_3 : decode cX9_cost 3 = .ok (.istore_n 2, 1) := by decide +kernel
theorem dX9_cost_4 : decode cX9_cost 4 = .ok (.iload_n 2, 1) := by decide +kernel
theorem dX9_cost_5 : decode cX9_cost 5 = .ok (.aload_n 0, 1) := by decide +kernel
theorem dX9_cost_6 : decode cX9_cost 6 = .ok (.getfield 42, 3) := by decide +kernel
theorem dX9_cost_9 : decode cX9_cost 9 = .ok (.if_icmp .gt 30, 3) := by decide +kernel
theorem dX9_cost_12 : decode cX9_cost 12 = .ok (.iload_n 1, 1) := by decide +kernel
theorem dX9_cost_13 : decode cX9_cost 13 = .ok (.aload_n 0, 1) := by decide +kernel
theorem dX9_cost_14 : decode cX9_cost 14 = .ok (.getfield 33, 3) := by decide +kernel
theorem dX9_cost_17 : decode cX9_cost 17 = .ok (.iload_n 2, 1) := by decide +kernel
theorem dX9_cost_18 : decode cX9_cost 18 = .ok (.iaload, 1) := by decide +kernel
theorem dX9_cost_19 : decode cX9_cost 19 = .ok (.aload_n 0, 1) := by decide +kernel
theorem dX9_cost_20 : decode cX9_cost 20 = .ok (.getfield 15, 3) := by decide +kernel
theorem dX9_cost_23 : decode cX9_cost 23 = .ok (.aload_n 0, 1) := by decide +kernel
theorem dX9_cost_24 : decode cX9_cost 24 = .ok (.getfield 30, 3) := by decide +kernel
theorem dX9_cost_27 : decode cX9_cost 27 = .ok (.iload_n 2, 1) := by decide +kernel
theorem dX9_cost_28 : decode cX9_cost 28 = .ok (.iaload, 1) := by decide +kernel
theorem dX9_cost_29 : decode cX9_cost 29 = .ok (.iaload, 1) := by decide +kernel
theorem dX9_cost_30 : decode cX9_cost 30 = .ok (.imul, 1) := by decide +kernel
theorem dX9_cost_31 : decode cX9_cost 31 = .ok (.iadd, 1) := by decide +kernel
theorem dX9_cost_32 : decode cX9_cost 32 = .ok (.istore_n 1, 1) := by decide +kernel
theorem dX9_cost_33 : decode cX9_cost 33 = .ok (.iinc 2 1, 3) := by decide +kernel
theorem dX9_cost_36 : decode cX9_cost 36 = .ok (.goto (-32), 3) := by decide +kernel
theorem dX9_cost_39 : decode cX9_cost 39 = .ok (.iload_n 1, 1) := by decide +kernel
theorem dX9_cost_40 : decode cX9_cost 40 = .ok (.ireturn, 1) := by decide +kernel
theorem dX9_writeDrops_0 : decode cX9_writeDrops 0 = .ok (.aload_n 1, 1) := by decide +kernel
theorem dX9_writeDrops_1 : decode cX9_writeDrops 1 = .ok (.iconst 0, 1) := by decide +kernel
theorem dX9_writeDrops_2 : decode cX9_writeDrops 2 = .ok (.invokestatic 75, 3) := by decide +kernel
theorem dX9_writeDrops_5 : decode cX9_writeDrops 5 = .ok (.iconst 0, 1) := by decide +kernel
theorem dX9_writeDrops_6 : decode cX9_writeDrops 6 = .ok (.istore_n 2, 1) := by decide +kernel
theorem dX9_writeDrops_7 : decode cX9_writeDrops 7 = .ok (.iload_n 2, 1) := by decide +kernel
theorem dX9_writeDrops_8 : decode cX9_writeDrops 8 = .ok (.aload_n 0, 1) := by decide +kernel
theorem dX9_writeDrops_9 : decode cX9_writeDrops 9 = .ok (.getfield 42, 3) := by decide +kernel
theorem dX9_writeDrops_12 : decode cX9_writeDrops 12 = .ok (.if_icmp .gt 28, 3) := by decide +kernel
theorem dX9_writeDrops_15 : decode cX9_writeDrops 15 = .ok (.aload_n 1, 1) := by decide +kernel
theorem dX9_writeDrops_16 : decode cX9_writeDrops 16 = .ok (.aload_n 0, 1) := by decide +kernel
theorem dX9_writeDrops_17 : decode cX9_writeDrops 17 = .ok (.getfield 9, 3) := by decide +kernel
theorem dX9_writeDrops_20 : decode cX9_writeDrops 20 = .ok (.aload_n 0, 1) := by decide +kernel
theorem dX9_writeDrops_21 : decode cX9_writeDrops 21 = .ok (.getfield 30, 3) := by decide +kernel
theorem dX9_writeDrops_24 : decode cX9_writeDrops 24 = .ok (.iload_n 2, 1) := by decide +kernel
theorem dX9_writeDrops_25 : decode cX9_writeDrops 25 = .ok (.iaload, 1) := by decide +kernel
theorem dX9_writeDrops_26 : decode cX9_writeDrops 26 = .ok (.iaload, 1) := by decide +kernel
theorem dX9_writeDrops_27 : decode cX9_writeDrops 27 = .ok (.aload_n 0, 1) := by decide +kernel
theorem dX9_writeDrops_28 : decode cX9_writeDrops 28 = .ok (.getfield 33, 3) := by decide +kernel
theorem dX9_writeDrops_31 : decode cX9_writeDrops 31 = .ok (.iload_n 2, 1) := by decide +kernel
theorem dX9_writeDrops_32 : decode cX9_writeDrops 32 = .ok (.iaload, 1) := by decide +kernel
theorem dX9_writeDrops_33 : decode cX9_writeDrops 33 = .ok (.iastore, 1) := by decide +kernel
theorem dX9_writeDrops_34 : decode cX9_writeDrops 34 = .ok (.iinc 2 1, 3) := by decide +kernel
theorem dX9_writeDrops_37 : decode cX9_writeDrops 37 = .ok (.goto (-30), 3) := by decide +kernel
theorem dX9_writeDrops_40 : decode cX9_writeDrops 40 = .ok (.return_, 1) := by decide +kernel
theorem dX10_init_0 : decode cX10_init 0 = .ok (.aload_n 0, 1) := by decide +kernel
theorem dX10_init_1 : decode cX10_init 1 = .ok (.invokespecial 3, 3) := by decide +kernel
theorem dX10_init_4 : decode cX10_init 4 = .ok (.aload_n 0, 1) := by decide +kernel
theorem dX10_init_5 : decode cX10_init 5 = .ok (.iconst 0, 1) := by decide +kernel
theorem dX10_init_6 : decode cX10_init 6 = .ok (.putfield 9, 3) := by decide +kernel
theorem dX10_init_9 : decode cX10_init 9 = .ok (.aload_n 0, 1) := by decide +kernel
theorem dX10_init_10 : decode cX10_init 10 = .ok (.iconst 0, 1) := by decide +kernel
theorem dX10_init_11 : decode cX10_init 11 = .ok (.putfield 15, 3) := by decide +kernel
theorem dX10_init_14 : decode cX10_init 14 = .ok (.aload_n 0, 1) := by decide +kernel
theorem dX10_init_15 : decode cX10_init 15 = .ok (.sipush 800, 3) := by decide +kernel
theorem dX10_init_18 : decode cX10_init 18 = .ok (.newarray .int, 2) := by decide +kernel
theorem dX10_init_20 : decode cX10_init 20 = .ok (.putfield 18, 3) := by decide +kernel
theorem dX10_init_23 : decode cX10_init 23 = .ok (.aload_n 0, 1) := by decide +kernel
theorem dX10_init_24 : decode cX10_init 24 = .ok (.bipush 8, 2) := by decide +kernel
theorem dX10_init_26 : decode cX10_init 26 = .ok (.newarray .int, 2) := by decide +kernel
theorem dX10_init_28 : decode cX10_init 28 = .ok (.putfield 22, 3) := by decide +kernel
theorem dX10_init_31 : decode cX10_init 31 = .ok (.aload_n 0, 1) := by decide +kernel
theorem dX10_init_32 : decode cX10_init 32 = .ok (.iload_n 1, 1) := by decide +kernel
theorem dX10_init_33 : decode cX10_init 33 = .ok (.putfield 25, 3) := by decide +kernel
theorem dX10_init_36 : decode cX10_init 36 = .ok (.aload_n 0, 1) := by decide +kernel
theorem dX10_init_37 : decode cX10_init 37 = .ok (.iload_n 2, 1) := by decide +kernel
theorem dX10_init_38 : decode cX10_init 38 = .ok (.putfield 28, 3) := by decide +kernel
theorem dX10_init_41 : decode cX10_init 41 = .ok (.aload_n 0, 1) := by decide +kernel
theorem dX10_init_42 : decode cX10_init 42 = .ok (.iload_n 3, 1) := by decide +kernel
theorem dX10_init_43 : decode cX10_init 43 = .ok (.putfield 31, 3) := by decide +kernel
theorem dX10_init_46 : decode cX10_init 46 = .ok (.iconst 0, 1) := by decide +kernel
theorem dX10_init_47 : decode cX10_init 47 = .ok (.istore 4, 2) := by decide +kernel
theorem dX10_init_49 : decode cX10_init 49 = .ok (.iload 4, 2) := by decide +kernel
theorem dX10_init_51 : decode cX10_init 51 = .ok (.bipush 8, 2) := by decide +kernel
theorem dX10_init_53 : decode cX10_init 53 = .ok (.if_icmp .ge 19, 3) := by decide +kernel
theorem dX10_init_56 : decode cX10_init 56 = .ok (.aload_n 0, 1) := by decide +kernel
theorem dX10_init_57 : decode cX10_init 57 = .ok (.iload 4, 2) := by decide +kernel
theorem dX10_init_59 : decode cX10_init 59 = .ok (.bipush 100, 2) := by decide +kernel
theorem dX10_init_61 : decode cX10_init 61 = .ok (.bipush 100, 2) := by decide +kernel
theorem dX10_init_63 : decode cX10_init 63 = .ok (.invokevirtual 34, 3) := by decide +kernel
theorem dX10_init_66 : decode cX10_init 66 = .ok (.iinc 4 1, 3) := by decide +kernel
theorem dX10_init_69 : decode cX10_init 69 = .ok (.goto (-20), 3) := by decide +kernel
theorem dX10_init_72 : decode cX10_init 72 = .ok (.return_, 1) := by decide +kernel
theorem dX10_paint_0 : decode cX10_paint 0 = .ok (.aload_n 0, 1) := by decide +kernel
theorem dX10_paint_1 : decode cX10_paint 1 = .ok (.getfield 22, 3) := by decide +kernel
theorem dX10_paint_4 : decode cX10_paint 4 = .ok (.iload_n 1, 1) := by decide +kernel
theorem dX10_paint_5 : decode cX10_paint 5 = .ok (.iload_n 3, 1) := by decide +kernel
theorem dX10_paint_6 : decode cX10_paint 6 = .ok (.iastore, 1) := by decide +kernel
theorem dX10_paint_7 : decode cX10_paint 7 = .ok (.iload_n 2, 1) := by decide +kernel
theorem dX10_paint_8 : decode cX10_paint 8 = .ok (.istore 4, 2) := by decide +kernel
theorem dX10_paint_10 : decode cX10_paint 10 = .ok (.iconst 0, 1) := by decide +kernel
theorem dX10_paint_11 : decode cX10_paint 11 = .ok (.istore 5, 2) := by decide +kernel
theorem dX10_paint_13 : decode cX10_paint 13 = .ok (.iload 5, 2) := by decide +kernel
theorem dX10_paint_15 : decode cX10_paint 15 = .ok (.bipush 100, 2) := by decide +kernel
theorem dX10_paint_17 : decode cX10_paint 17 = .ok (.if_icmp .ge 40, 3) := by decide +kernel
theorem dX10_paint_20 : decode cX10_paint 20 = .ok (.aload_n 0, 1) := by decide +kernel
theorem dX10_paint_21 : decode cX10_paint 21 = .ok (.getfield 18, 3) := by decide +kernel
theorem dX10_paint_24 : decode cX10_paint 24 = .ok (.iload_n 1, 1) := by decide +kernel
theorem dX10_paint_25 : decode cX10_paint 25 = .ok (.bipush 100, 2) := by decide +kernel
theorem dX10_paint_27 : decode cX10_paint 27 = .ok (.imul, 1) := by decide +kernel
theorem dX10_paint_28 : decode cX10_paint 28 = .ok (.iload 5, 2) := by decide +kernel
theorem dX10_paint_30 : decode cX10_paint 30 = .ok (.iadd, 1) := by decide +kernel
theorem dX10_paint_31 : decode cX10_paint 31 = .ok (.iload 4, 2) := by decide +kernel
theorem dX10_paint_33 : decode cX10_paint 33 = .ok (.iastore, 1) := by decide +kernel
theorem dX10_paint_34 : decode cX10_paint 34 = .ok (.iload 4, 2) := by decide +kernel
theorem dX10_paint_36 : decode cX10_paint 36 = .ok (.sipush 1000, 3) := by decide +kernel
theorem dX10_paint_39 : decode cX10_paint 39 = .ok (.aload_n 0, 1) := by decide +kernel
theorem dX10_paint_40 : decode cX10_paint 40 = .ok (.getfield 28, 3) := by decide +kernel
theorem dX10_paint_43 : decode cX10_paint 43 = .ok (.isub, 1) := by decide +kernel
theorem dX10_paint_44 : decode cX10_paint 44 = .ok (.imul, 1) := by decide +kernel
theorem dX10_paint_45 : decode cX10_paint 45 = .ok (.sipush 1000, 3) := by decide +kernel
theorem dX10_paint_48 : decode cX10_paint 48 = .ok (.idiv, 1) := by decide +kernel
theorem dX10_paint_49 : decode cX10_paint 49 = .ok (.istore 4, 2) := by decide +kernel
theorem dX10_paint_51 : decode cX10_paint 51 = .ok (.iinc 5 1, 3) := by decide +kernel
theorem dX10_paint_54 : decode cX10_paint 54 = .ok (.goto (-41), 3) := by decide +kernel
theorem dX10_paint_57 : decode cX10_paint 57 = .ok (.return_, 1) := by decide +kernel
theorem dX10_drinkAfter_0 : decode cX10_drinkAfter 0 = .ok (.aload_n 0, 1) := by decide +kernel
theorem dX10_drinkAfter_1 : decode cX10_drinkAfter 1 = .ok (.getfield 18, 3) := by decide +kernel
theorem dX10_drinkAfter_4 : decode cX10_drinkAfter 4 = .ok (.iload_n 1, 1) := by decide +kernel
theorem dX10_drinkAfter_5 : decode cX10_drinkAfter 5 = .ok (.bipush 100, 2) := by decide +kernel
theorem dX10_drinkAfter_7 : decode cX10_drinkAfter 7 = .ok (.imul, 1) := by decide +kernel
theorem dX10_drinkAfter_8 : decode cX10_drinkAfter 8 = .ok (.iload_n 2, 1) := by decide +kernel
theorem dX10_drinkAfter_9 : decode cX10_drinkAfter 9 = .ok (.iadd, 1) := by decide +kernel
theorem dX10_drinkAfter_10 : decode cX10_drinkAfter 10 = .ok (.iaload, 1) := by decide +kernel
theorem dX10_drinkAfter_11 : decode cX10_drinkAfter 11 = .ok (.ireturn, 1) := by decide +kernel
theorem dX10_scatterOf_0 : decode cX10_scatterOf 0 = .ok (.aload_n 0, 1) := by decide +kernel
theorem dX10_scatterOf_1 : decode cX10_scatterOf 1 = .ok (.getfield 22, 3) := by decide +kernel
theorem dX10_scatterOf_4 : decode cX10_scatterOf 4 = .ok (.iload_n 1, 1) := by decide +kernel
theorem dX10_scatterOf_5 : decode cX10_scatterOf 5 = .ok (.iaload, 1) := by decide +kernel
theorem dX10_scatterOf_6 : decode cX10_scatterOf 6 = .ok (.ireturn, 1) := by decide +kernel
theorem dX11_init_0 : decode cX11_init 0 = .ok (.aload_n 0, 1) := by decide +kernel
theorem dX11_init_1 : decode cX11_init 1 = .ok (.invokespecial 3, 3) := by decide +kernel
theorem dX11_init_4 : decode cX11_init 4 = .ok (.aload_n 0, 1) := by decide +kernel
theorem dX11_init_5 : decode cX11_init 5 = .ok (.new 9, 3) := by decide +kernel
theorem dX11_init_8 : decode cX11_init 8 = .ok (.dup, 1) := by decide +kernel
theorem dX11_init_9 : decode cX11_init 9 = .ok (.invokespecial 11, 3) := by decide +kernel
theorem dX11_init_12 : decode cX11_init 12 = .ok (.putfield 12, 3) := by decide +kernel
theorem dX11_init_15 : decode cX11_init 15 = .ok (.aload_n 0, 1) := by decide +kernel
theorem dX11_init_16 : decode cX11_init 16 = .ok (.new 16, 3) := by decide +kernel
theorem dX11_init_19 : decode cX11_init 19 = .ok (.dup, 1) := by decide +kernel
theorem dX11_init_20 : decode cX11_init 20 = .ok (.invokespecial 18, 3) := by decide +kernel
theorem dX11_init_23 : decode cX11_init 23 = .ok (.putfield 19, 3) := by decide +kernel
theorem dX11_init_26 : decode cX11_init 26 = .ok (.aload_n 0, 1) := by decide +kernel
theorem dX11_init_27 : decode cX11_init 27 = .ok (.bipush 10, 2) := by decide +kernel
theorem dX11_init_29 : decode cX11_init 29 = .ok (.anewarray 23, 3) := by decide +kernel
theorem dX11_init_32 : decode cX11_init 32 = .ok (.putfield 25, 3) := by decide +kernel
theorem dX11_init_35 : decode cX11_init 35 = .ok (.aload_n 0, 1) := by decide +kernel
theorem dX11_init_36 : decode cX11_init 36 = .ok (.bipush 10, 2) := by decide +kernel
theorem dX11_init_38 : decode cX11_init 38 = .ok (.anewarray 29, 3) := by decide +kernel
theorem dX11_init_41 : decode cX11_init 41 = .ok (.putfield 31, 3) := by decide +kernel
theorem dX11_init_44 : decode cX11_init 44 = .ok (.aload_n 0, 1) := by decide +kernel
theorem dX11_init_45 : decode cX11_init 45 = .ok (.iconst 3, 1) := by decide +kernel
theorem dX11_init_46 : decode cX11_init 46 = .ok (.newarray .int, 2) := by decide +kernel
theorem dX11_init_48 : decode cX11_init 48 = .ok (.dup, 1) := by decide +kernel
theorem dX11_init_49 : decode cX11_init 49 = .ok (.iconst 0, 1) := by decide +kernel
theorem dX11_init_50 : decode cX11_init 50 = .ok (.sipush 5000, 3) := by decide +kernel
theorem dX11_init_53 : decode cX11_init 53 = .ok (.iastore, 1) := by decide +kernel
theorem dX11_init_54 : decode cX11_init 54 = .ok (.dup, 1) := by decide +kernel
theorem dX11_init_55 : decode cX11_init 55 = .ok (.iconst 1, 1) := by decide +kernel
theorem dX11_init_56 : decode cX11_init 56 = .ok (.sipush 5000, 3) := by decide +kernel
theorem dX11_init_59 : decode cX11_init 59 = .ok (.iastore, 1) := by decide +kernel
theorem dX11_init_60 : decode cX11_init 60 = .ok (.dup, 1) := by decide +kernel
theorem dX11_init_61 : decode cX11_init 61 = .ok (.iconst 2, 1) := by decide +kernel
theorem dX11_init_62 : decode cX11_init 62 = .ok (.sipush 5000, 3) := by decide +kernel
theorem dX11_init_65 : decode cX11_init 65 = .ok (.iastore, 1) := by decide +kernel
theorem dX11_init_66 : decode cX11_init 66 = .ok (.putfield 35, 3) := by decide +kernel
theorem dX11_init_69 : decode cX11_init 69 = .ok (.aload_n 0, 1) := by decide +kernel
theorem dX11_init_70 : decode cX11_init 70 = .ok (.bipush 6, 2) := by decide +kernel
theorem dX11_init_72 : decode cX11_init 72 = .ok (.iconst 3, 1) := by decide +kernel
theorem dX11_init_73 : decode cX11_init 73 = .ok (.multianewarray 39 2, 4) := by decide +kernel
theorem dX11_init_77 : decode cX11_init 77 = .ok (.putfield 41, 3) := by decide +kernel
theorem dX11_init_80 : decode cX11_init 80 = .ok (.aload_n 0, 1) := by decide +kernel
theorem dX11_init_81 : decode cX11_init 81 = .ok (.bipush 8, 2) := by decide +kernel
theorem dX11_init_83 : decode cX11_init 83 = .ok (.newarray .int, 2) := by decide +kernel
theorem dX11_init_85 : decode cX11_init 85 = .ok (.putfield 44, 3) := by decide +kernel
theorem dX11_init_88 : decode cX11_init 88 = .ok (.aload_n 0, 1) := by decide +kernel
theorem dX11_init_89 : decode cX11_init 89 = .ok (.new 47, 3) := by decide +kernel
theorem dX11_init_92 : decode cX11_init 92 = .ok (.dup, 1) := by decide +kernel
theorem dX11_init_93 : decode cX11_init 93 = .ok (.invokespecial 49, 3) := by decide +kernel
theorem dX11_init_96 : decode cX11_init 96 = .ok (.putfield 50, 3) := by decide +kernel
theorem dX11_init_99 : decode cX11_init 99 = .ok (.aload_n 0, 1) := by decide +kernel
theorem dX11_init_100 : decode cX11_init 100 = .ok (.new 54, 3) := by decide +kernel
theorem dX11_init_103 : decode cX11_init 103 = .ok (.dup, 1) := by decide +kernel
theorem dX11_init_104 : decode cX11_init 104 = .ok (.invokespecial 56, 3) := by decide +kernel
theorem dX11_init_107 : decode cX11_init 107 = .ok (.putfield 57, 3) := by decide +kernel
theorem dX11_init_110 : decode cX11_init 110 = .ok (.aload_n 0, 1) := by decide +kernel
theorem dX11_init_111 : decode cX11_init 111 = .ok (.new 61, 3) := by decide +kernel
theorem dX11_init_114 : decode cX11_init 114 = .ok (.dup, 1) := by decide +kernel
theorem dX11_init_115 : decode cX11_init 115 = .ok (.invokespecial 63, 3) := by decide +kernel
theorem dX11_init_118 : decode cX11_init 118 = .ok (.putfield 64, 3) := by decide +kernel
theorem dX11_init_121 : decode cX11_init 121 = .ok (.aload_n 0, 1) := by decide +kernel
theorem dX11_init_122 : decode cX11_init 122 = .ok (.iconst 0, 1) := by decide +kernel
theorem dX11_init_123 : decode cX11_init 123 = .ok (.putfield 68, 3) := by decide +kernel
theorem dX11_init_126 : decode cX11_init 126 = .ok (.aload_n 0, 1) := by decide +kernel
theorem dX11_init_127 : decode cX11_init 127 = .ok (.iconst 0, 1) := by decide +kernel
theorem dX11_init_128 : decode cX11_init 128 = .ok (.putfield 72, 3) := by decide +kernel
theorem dX11_init_131 : decode cX11_init 131 = .ok (.iconst 0, 1) := by decide +kernel
theorem dX11_init_132 : decode cX11_init 132 = .ok (.istore_n 1, 1) := by decide +kernel
theorem dX11_init_133 : decode cX11_init 133 = .ok (.iload_n 1, 1) := by decide +kernel
theorem dX11_init_134 : decode cX11_init 134 = .ok (.bipush 10, 2) := by decide +kernel
theorem dX11_init_136 : decode cX11_init 136 = .ok (.if_icmp .ge 22, 3) := by decide +kernel
theorem dX11_init_139 : decode cX11_init 139 = .ok (.aload_n 0, 1) := by decide +kernel
theorem dX11_init_140 : decode cX11_init 140 = .ok (.getfield 25, 3) := by decide +kernel
theorem dX11_init_143 : decode cX11_init 143 = .ok (.iload_n 1, 1) := by decide +kernel
theorem dX11_init_144 : decode cX11_init 144 = .ok (.new 23, 3) := by decide +kernel
theorem dX11_init_147 : decode cX11_init 147 = .ok (.dup, 1) := by decide +kernel
theorem dX11_init_148 : decode cX11_init 148 = .ok (.invokespecial 75, 3) := by decide +kernel
theorem dX11_init_151 : decode cX11_init 151 = .ok (.aastore, 1) := by decide +kernel
theorem dX11_init_152 : decode cX11_init 152 = .ok (.iinc 1 1, 3) := by decide +kernel
theorem dX11_init_155 : decode cX11_init 155 = .ok (.goto (-22), 3) := by decide +kernel
theorem dX11_init_158 : decode cX11_init 158 = .ok (.iconst 0, 1) := by decide +kernel
theorem dX11_init_159 : decode cX11_init 159 = .ok (.istore_n 1, 1) := by decide +kernel
theorem dX11_init_160 : decode cX11_init 160 = .ok (.iload_n 1, 1) := by decide +kernel
theorem dX11_init_161 : decode cX11_init 161 = .ok (.bipush 10, 2) := by decide +kernel
theorem dX11_init_163 : decode cX11_init 163 = .ok (.if_icmp .ge 22, 3) := by decide +kernel
theorem dX11_init_166 : decode cX11_init 166 = .ok (.aload_n 0, 1) := by decide +kernel
theorem dX11_init_167 : decode cX11_init 167 = .ok (.getfield 31, 3) := by decide +kernel
theorem dX11_init_170 : decode cX11_init 170 = .ok (.iload_n 1, 1) := by decide +kernel
theorem dX11_init_171 : decode cX11_init 171 = .ok (.new 29, 3) := by decide +kernel
theorem dX11_init_174 : decode cX11_init 174 = .ok (.dup, 1) := by decide +kernel
theorem dX11_init_175 : decode cX11_init 175 = .ok (.invokespecial 76, 3) := by decide +kernel
theorem dX11_init_178 : decode cX11_init 178 = .ok (.aastore, 1) := by decide +kernel
theorem dX11_init_179 : decode cX11_init 179 = .ok (.iinc 1 1, 3) := by decide +kernel
theorem dX11_init_182 : decode cX11_init 182 = .ok (.goto (-22), 3) := by decide +kernel
theorem dX11_init_185 : decode cX11_init 185 = .ok (.return_, 1) := by decide +kernel
theorem dX11_tube_0 : decode cX11_tube 0 = .ok (.iload_n 1, 1) := by decide +kernel
theorem dX11_tube_1 : decode cX11_tube 1 = .ok (.iconst 0, 1) := by decide +kernel
theorem dX11_tube_2 : decode cX11_tube 2 = .ok (.sipush 999, 3) := by decide +kernel
theorem dX11_tube_5 : decode cX11_tube 5 = .ok (.invokestatic 77, 3) := by decide +kernel
theorem dX11_tube_8 : decode cX11_tube 8 = .ok (.ifCond .eq 25, 3) := by decide +kernel
theorem dX11_tube_11 : decode cX11_tube 11 = .ok (.iload_n 2, 1) := by decide +kernel
theorem dX11_tube_12 : decode cX11_tube 12 = .ok (.iconst 0, 1) := by decide +kernel
theorem dX11_tube_13 : decode cX11_tube 13 = .ok (.sipush 999, 3) := by decide +kernel
theorem dX11_tube_16 : decode cX11_tube 16 = .ok (.invokestatic 77, 3) := by decide +kernel
theorem dX11_tube_19 : decode cX11_tube 19 = .ok (.ifCond .eq 14, 3) := by decide +kernel
theorem dX11_tube_22 : decode cX11_tube 22 = .ok (.iload_n 3, 1) := by decide +kernel
theorem dX11_tube_23 : decode cX11_tube 23 = .ok (.iconst 0, 1) := by decide +kernel
theorem dX11_tube_24 : decode cX11_tube 24 = .ok (.sipush 9999, 3) := by decide +kernel
theorem dX11_tube_27 : decode cX11_tube 27 = .ok (.invokestatic 77, 3) := by decide +kernel
theorem dX11_tube_30 : decode cX11_tube 30 = .ok (.ifCond .ne 5, 3) := by decide +kernel
theorem dX11_tube_33 : decode cX11_tube 33 = .ok (.iconst (-1), 1) := by decide +kernel
theorem dX11_tube_34 : decode cX11_tube 34 = .ok (.ireturn, 1) := by decide +kernel
theorem dX11_tube_35 : decode cX11_tube 35 = .ok (.aload_n 0, 1) := by decide +kernel
theorem dX11_tube_36 : decode cX11_tube 36 = .ok (.getfield 12, 3) := by decide +kernel
theorem dX11_tube_39 : decode cX11_tube 39 = .ok (.invokevirtual 81, 3) := by decide +kernel
theorem dX11_tube_42 : decode cX11_tube 42 = .ok (.ifCond .eq 8, 3) := by decide +kernel
theorem dX11_tube_45 : decode cX11_tube 45 = .ok (.bipush (-3), 2) := by decide +kernel
theorem dX11_tube_47 : decode cX11_tube 47 = .ok (.goto 20, 3) := by decide +kernel
theorem dX11_tube_50 : decode cX11_tube 50 = .ok (.aload_n 0, 1) := by decide +kernel
theorem dX11_tube_51 : decode cX11_tube 51 = .ok (.getfield 12, 3) := by decide +kernel
theorem dX11_tube_54 : decode cX11_tube 54 = .ok (.new 85, 3) := by decide +kernel
theorem dX11_tube_57 : decode cX11_tube 57 = .ok (.dup, 1) := by decide +kernel
theorem dX11_tube_58 : decode cX11_tube 58 = .ok (.iload_n 1, 1) := by decide +kernel
theorem dX11_tube_59 : decode cX11_tube 59 = .ok (.iload_n 2, 1) := by decide +kernel
theorem dX11_tube_60 : decode cX11_tube 60 = .ok (.iload_n 3, 1) := by decide +kernel
theorem dX11_tube_61 : decode cX11_tube 61 = .ok (.invokespecial 87, 3) := by decide +kernel
theorem dX11_tube_64 : decode cX11_tube 64 = .ok (.invokevirtual 90, 3) := by decide +kernel
theorem dX11_tube_67 : decode cX11_tube 67 = .ok (.ireturn, 1) := by decide +kernel
theorem dX11_band_0 : decode cX11_band 0 = .ok (.aload_n 0, 1) := by decide +kernel
theorem dX11_band_1 : decode cX11_band 1 = .ok (.getfield 12, 3) := by decide +kernel
theorem dX11_band_4 : decode cX11_band 4 = .ok (.iload_n 1, 1) := by decide +kernel
theorem dX11_band_5 : decode cX11_band 5 = .ok (.invokevirtual 94, 3) := by decide +kernel
theorem dX11_band_8 : decode cX11_band 8 = .ok (.astore 5, 2) := by decide +kernel
theorem dX11_band_10 : decode cX11_band 10 = .ok (.aload 5, 2) := by decide +kernel
theorem dX11_band_12 : decode cX11_band 12 = .ok (.ifnull 33, 3) := by decide +kernel
theorem dX11_band_15 : decode cX11_band 15 = .ok (.iload_n 2, 1) := by decide +kernel
theorem dX11_band_16 : decode cX11_band 16 = .ok (.invokestatic 98, 3) := by decide +kernel
theorem dX11_band_19 : decode cX11_band 19 = .ok (.ifCond .eq 26, 3) := by decide +kernel
theorem dX11_band_22 : decode cX11_band 22 = .ok (.iload_n 3, 1) := by decide +kernel
theorem dX11_band_23 : decode cX11_band 23 = .ok (.iconst 0, 1) := by decide +kernel
theorem dX11_band_24 : decode cX11_band 24 = .ok (.sipush 999, 3) := by decide +kernel
theorem dX11_band_27 : decode cX11_band 27 = .ok (.invokestatic 77, 3) := by decide +kernel
theorem dX11_band_30 : decode cX11_band 30 = .ok (.ifCond .eq 15, 3) := by decide +kernel
theorem dX11_band_33 : decode cX11_band 33 = .ok (.iload 4, 2) := by decide +kernel
theorem dX11_band_35 : decode cX11_band 35 = .ok (.iconst 1, 1) := by decide +kernel
theorem dX11_band_36 : decode cX11_band 36 = .ok (.sipush 999, 3) := by decide +kernel
theorem dX11_band_39 : decode cX11_band 39 = .ok (.invokestatic 77, 3) := by decide +kernel
theorem dX11_band_42 : decode cX11_band 42 = .ok (.ifCond .ne 5, 3) := by decide +kernel
theorem dX11_band_45 : decode cX11_band 45 = .ok (.iconst (-1), 1) := by decide +kernel
theorem dX11_band_46 : decode cX11_band 46 = .ok (.ireturn, 1) := by decide +kernel
theorem dX11_band_47 : decode cX11_band 47 = .ok (.aload 5, 2) := by decide +kernel
theorem dX11_band_49 : decode cX11_band 49 = .ok (.iload_n 2, 1) := by decide +kernel
theorem dX11_band_50 : decode cX11_band 50 = .ok (.iload_n 3, 1) := by decide +kernel
theorem dX11_band_51 : decode cX11_band 51 = .ok (.iload 4, 2) := by decide +kernel
theorem dX11_band_53 : decode cX11_band 53 = .ok (.invokevirtual 102, 3) := by decide +kernel
theorem dX11_band_56 : decode cX11_band 56 = .ok (.iconst 1, 1) := by decide +kernel
theorem dX11_band_57 : decode cX11_band 57 = .ok (.ireturn, 1) := by decide +kernel
theorem dX11_ofTube_0 : decode cX11_ofTube 0 = .ok (.aload_n 0, 1) := by decide +kernel
theorem dX11_ofTube_1 : decode cX11_ofTube 1 = .ok (.getfield 12, 3) := by decide +kernel
theorem dX11_ofTube_4 : decode cX11_ofTube 4 = .ok (.iload_n 1, 1) := by decide +kernel
theorem dX11_ofTube_5 : decode cX11_ofTube 5 = .ok (.invokevirtual 94, 3) := by decide +kernel
theorem dX11_ofTube_8 : decode cX11_ofTube 8 = .ok (.astore_n 3, 1) := by decide +kernel
theorem dX11_ofTube_9 : decode cX11_ofTube 9 = .ok (.aload_n 3, 1) := by decide +kernel
theorem dX11_ofTube_10 : decode cX11_ofTube 10 = .ok (.ifnonnull 5, 3) := by decide +kernel
theorem dX11_ofTube_13 : decode cX11_ofTube 13 = .ok (.iconst (-1), 1) := by decide +kernel
theorem dX11_ofTube_14 : decode cX11_ofTube 14 = .ok (.ireturn, 1) := by decide +kernel
theorem dX11_ofTube_15 : decode cX11_ofTube 15 = .ok (.iload_n 2, 1) := by decide +kernel
theorem dX11_ofTube_16 : decode cX11_ofTube 16 = .ok (.tableswitch 71 0 5 #[40, 45, 50, 55, 61, 66], 40) := by decide +kernel
theorem dX11_ofTube_56 : decode cX11_ofTube 56 = .ok (.aload_n 3, 1) := by decide +kernel
theorem dX11_ofTube_57 : decode cX11_ofTube 57 = .ok (.getfield 105, 3) := by decide +kernel
theorem dX11_ofTube_60 : decode cX11_ofTube 60 = .ok (.ireturn, 1) := by decide +kernel
theorem dX11_ofTube_61 : decode cX11_ofTube 61 = .ok (.aload_n 3, 1) := by decide +kernel
theorem dX11_ofTube_62 : decode cX11_ofTube 62 = .ok (.getfield 108, 3) := by decide +kernel
theorem dX11_ofTube_65 : decode cX11_ofTube 65 = .ok (.ireturn, 1) := by decide +kernel
theorem dX11_ofTube_66 : decode cX11_ofTube 66 = .ok (.aload_n 3, 1) := by decide +kernel
theorem dX11_ofTube_67 : decode cX11_ofTube 67 = .ok (.getfield 111, 3) := by decide +kernel
theorem dX11_ofTube_70 : decode cX11_ofTube 70 = .ok (.ireturn, 1) := by decide +kernel
theorem dX11_ofTube_71 : decode cX11_ofTube 71 = .ok (.aload_n 0, 1) := by decide +kernel
theorem dX11_ofTube_72 : decode cX11_ofTube 72 = .ok (.iload_n 1, 1) := by decide +kernel
theorem dX11_ofTube_73 : decode cX11_ofTube 73 = .ok (.invokevirtual 114, 3) := by decide +kernel
theorem dX11_ofTube_76 : decode cX11_ofTube 76 = .ok (.ireturn, 1) := by decide +kernel
theorem dX11_ofTube_77 : decode cX11_ofTube 77 = .ok (.aload_n 3, 1) := by decide +kernel
theorem dX11_ofTube_78 : decode cX11_ofTube 78 = .ok (.getfield 118, 3) := by decide +kernel
theorem dX11_ofTube_81 : decode cX11_ofTube 81 = .ok (.ireturn, 1) := by decide +kernel
theorem dX11_ofTube_82 : decode cX11_ofTube 82 = .ok (.aload_n 3, 1) := by decide +kernel
theorem dX11_ofTube_83 : decode cX11_ofTube 83 = .ok (.getfield 121, 3) := by decide +kernel
theorem dX11_ofTube_86 : decode cX11_ofTube 86 = .ok (.ireturn, 1) := by decide +kernel
theorem dX11_ofTube_87 : decode cX11_ofTube 87 = .ok (.iconst (-1), 1) := by decide +kernel
theorem dX11_ofTube_88 : decode cX11_ofTube 88 = .ok (.ireturn, 1) := by decide +kernel
theorem dX11_row_0 : decode cX11_row 0 = .ok (.aload_n 0, 1) := by decide +kernel
theorem dX11_row_1 : decode cX11_row 1 = .ok (.getfield 12, 3) := by decide +kernel
theorem dX11_row_4 : decode cX11_row 4 = .ok (.iload_n 1, 1) := by decide +kernel
theorem dX11_row_5 : decode cX11_row 5 = .ok (.invokevirtual 94, 3) := by decide +kernel
theorem dX11_row_8 : decode cX11_row 8 = .ok (.astore 5, 2) := by decide +kernel
theorem dX11_row_10 : decode cX11_row 10 = .ok (.aload 5, 2) := by decide +kernel
theorem dX11_row_12 : decode cX11_row 12 = .ok (.ifnull 30, 3) := by decide +kernel
theorem dX11_row_15 : decode cX11_row 15 = .ok (.iload_n 2, 1) := by decide +kernel
theorem dX11_row_16 : decode cX11_row 16 = .ok (.invokestatic 98, 3) := by decide +kernel
theorem dX11_row_19 : decode cX11_row 19 = .ok (.ifCond .eq 23, 3) := by decide +kernel
theorem dX11_row_22 : decode cX11_row 22 = .ok (.iload_n 3, 1) := by decide +kernel
theorem dX11_row_23 : decode cX11_row 23 = .ok (.iconst 0, 1) := by decide +kernel
theorem dX11_row_24 : decode cX11_row 24 = .ok (.bipush 99, 2) := by decide +kernel
theorem dX11_row_26 : decode cX11_row 26 = .ok (.invokestatic 77, 3) := by decide +kernel
theorem dX11_row_29 : decode cX11_row 29 = .ok (.ifCond .eq 13, 3) := by decide +kernel
theorem dX11_row_32 : decode cX11_row 32 = .ok (.iload 4, 2) := by decide +kernel
theorem dX11_row_34 : decode cX11_row 34 = .ok (.iconst 0, 1) := by decide +kernel
theorem dX11_row_35 : decode cX11_row 35 = .ok (.iconst 1, 1) := by decide +kernel
theorem dX11_row_36 : decode cX11_row 36 = .ok (.invokestatic 77, 3) := by decide +kernel
theorem dX11_row_39 : decode cX11_row 39 = .ok (.ifCond .ne 5, 3) := by decide +kernel
theorem dX11_row_42 : decode cX11_row 42 = .ok (.iconst (-1), 1) := by decide +kernel
theorem dX11_row_43 : decode cX11_row 43 = .ok (.ireturn, 1) := by decide +kernel
theorem dX11_row_44 : decode cX11_row 44 = .ok (.iload 4, 2) := by decide +kernel
theorem dX11_row_46 : decode cX11_row 46 = .ok (.ifCond .ne 13, 3) := by decide +kernel
theorem dX11_row_49 : decode cX11_row 49 = .ok (.aload 5, 2) := by decide +kernel
theorem dX11_row_51 : decode cX11_row 51 = .ok (.iload_n 2, 1) := by decide +kernel
theorem dX11_row_52 : decode cX11_row 52 = .ok (.iload_n 3, 1) := by decide +kernel
theorem dX11_row_53 : decode cX11_row 53 = .ok (.invokevirtual 124, 3) := by decide +kernel
theorem dX11_row_56 : decode cX11_row 56 = .ok (.goto 9, 3) := by decide +kernel
theorem dX11_row_59 : decode cX11_row 59 = .ok (.aload 5, 2) := by decide +kernel
theorem dX11_row_61 : decode cX11_row 61 = .ok (.iload_n 2, 1) := by decide +kernel
theorem dX11_row_62 : decode cX11_row 62 = .ok (.invokevirtual 128, 3) := by decide +kernel
theorem dX11_row_65 : decode cX11_row 65 = .ok (.ireturn, 1) := by decide +kernel
theorem dX11_lamp_0 : decode cX11_lamp 0 = .ok (.iload_n 1, 1) := by decide +kernel
theorem dX11_lamp_1 : decode cX11_lamp 1 = .ok (.invokestatic 131, 3) := by decide +kernel
theorem dX11_lamp_4 : decode cX11_lamp 4 = .ok (.ifCond .eq 20, 3) := by decide +kernel
theorem dX11_lamp_7 : decode cX11_lamp 7 = .ok (.iload_n 2, 1) := by decide +kernel
theorem dX11_lamp_8 : decode cX11_lamp 8 = .ok (.invokestatic 98, 3) := by decide +kernel
theorem dX11_lamp_11 : decode cX11_lamp 11 = .ok (.ifCond .eq 13, 3) := by decide +kernel
theorem dX11_lamp_14 : decode cX11_lamp 14 = .ok (.iload_n 3, 1) := by decide +kernel
theorem dX11_lamp_15 : decode cX11_lamp 15 = .ok (.iconst 0, 1) := by decide +kernel
theorem dX11_lamp_16 : decode cX11_lamp 16 = .ok (.bipush 99, 2) := by decide +kernel
theorem dX11_lamp_18 : decode cX11_lamp 18 = .ok (.invokestatic 77, 3) := by decide +kernel
theorem dX11_lamp_21 : decode cX11_lamp 21 = .ok (.ifCond .ne 5, 3) := by decide +kernel
theorem dX11_lamp_24 : decode cX11_lamp 24 = .ok (.iconst (-1), 1) := by decide +kernel
theorem dX11_lamp_25 : decode cX11_lamp 25 = .ok (.ireturn, 1) := by decide +kernel
theorem dX11_lamp_26 : decode cX11_lamp 26 = .ok (.aload_n 0, 1) := by decide +kernel
theorem dX11_lamp_27 : decode cX11_lamp 27 = .ok (.getfield 19, 3) := by decide +kernel
theorem dX11_lamp_30 : decode cX11_lamp 30 = .ok (.getfield 134, 3) := by decide +kernel
theorem dX11_lamp_33 : decode cX11_lamp 33 = .ok (.iload_n 1, 1) := by decide +kernel
theorem dX11_lamp_34 : decode cX11_lamp 34 = .ok (.aaload, 1) := by decide +kernel
theorem dX11_lamp_35 : decode cX11_lamp 35 = .ok (.iload_n 2, 1) := by decide +kernel
theorem dX11_lamp_36 : decode cX11_lamp 36 = .ok (.iload_n 3, 1) := by decide +kernel
theorem dX11_lamp_37 : decode cX11_lamp 37 = .ok (.invokestatic 137, 3) := by decide +kernel
theorem dX11_lamp_40 : decode cX11_lamp 40 = .ok (.ireturn, 1) := by decide +kernel
theorem dX11_eye_0 : decode cX11_eye 0 = .ok (.iload_n 1, 1) := by decide +kernel
theorem dX11_eye_1 : decode cX11_eye 1 = .ok (.invokestatic 141, 3) := by decide +kernel
theorem dX11_eye_4 : decode cX11_eye 4 = .ok (.ifCond .eq 20, 3) := by decide +kernel
theorem dX11_eye_7 : decode cX11_eye 7 = .ok (.iload_n 2, 1) := by decide +kernel
theorem dX11_eye_8 : decode cX11_eye 8 = .ok (.invokestatic 98, 3) := by decide +kernel
theorem dX11_eye_11 : decode cX11_eye 11 = .ok (.ifCond .eq 13, 3) := by decide +kernel
theorem dX11_eye_14 : decode cX11_eye 14 = .ok (.iload_n 3, 1) := by decide +kernel
theorem dX11_eye_15 : decode cX11_eye 15 = .ok (.iconst 0, 1) := by decide +kernel
theorem dX11_eye_16 : decode cX11_eye 16 = .ok (.bipush 99, 2) := by decide +kernel
theorem dX11_eye_18 : decode cX11_eye 18 = .ok (.invokestatic 77, 3) := by decide +kernel
theorem dX11_eye_21 : decode cX11_eye 21 = .ok (.ifCond .ne 5, 3) := by decide +kernel
theorem dX11_eye_24 : decode cX11_eye 24 = .ok (.iconst (-1), 1) := by decide +kernel
theorem dX11_eye_25 : decode cX11_eye 25 = .ok (.ireturn, 1) := by decide +kernel
theorem dX11_eye_26 : decode cX11_eye 26 = .ok (.aload_n 0, 1) := by decide +kernel
theorem dX11_eye_27 : decode cX11_eye 27 = .ok (.getfield 19, 3) := by decide +kernel
theorem dX11_eye_30 : decode cX11_eye 30 = .ok (.getfield 144, 3) := by decide +kernel
theorem dX11_eye_33 : decode cX11_eye 33 = .ok (.iload_n 1, 1) := by decide +kernel
theorem dX11_eye_34 : decode cX11_eye 34 = .ok (.aaload, 1) := by decide +kernel
theorem dX11_eye_35 : decode cX11_eye 35 = .ok (.iload_n 2, 1) := by decide +kernel
theorem dX11_eye_36 : decode cX11_eye 36 = .ok (.iload_n 3, 1) := by decide +kernel
theorem dX11_eye_37 : decode cX11_eye 37 = .ok (.invokestatic 137, 3) := by decide +kernel
theorem dX11_eye_40 : decode cX11_eye 40 = .ok (.ireturn, 1) := by decide +kernel
theorem dX11_years_0 : decode cX11_years 0 = .ok (.iload_n 1, 1) := by decide +kernel
theorem dX11_years_1 : decode cX11_years 1 = .ok (.iconst 1, 1) := by decide +kernel
theorem dX11_years_2 : decode cX11_years 2 = .ok (.bipush 99, 2) := by decide +kernel
theorem dX11_years_4 : decode cX11_years 4 = .ok (.invokestatic 77, 3) := by decide +kernel
theorem dX11_years_7 : decode cX11_years 7 = .ok (.ifCond .eq 14, 3) := by decide +kernel
theorem dX11_years_10 : decode cX11_years 10 = .ok (.aload_n 0, 1) := by decide +kernel
theorem dX11_years_11 : decode cX11_years 11 = .ok (.getfield 72, 3) := by decide +kernel
theorem dX11_years_14 : decode cX11_years 14 = .ok (.iload_n 1, 1) := by decide +kernel
theorem dX11_years_15 : decode cX11_years 15 = .ok (.iadd, 1) := by decide +kernel
theorem dX11_years_16 : decode cX11_years 16 = .ok (.bipush 99, 2) := by decide +kernel
theorem dX11_years_18 : decode cX11_years 18 = .ok (.if_icmp .le 5, 3) := by decide +kernel
theorem dX11_years_21 : decode cX11_years 21 = .ok (.iconst (-1), 1) := by decide +kernel
theorem dX11_years_22 : decode cX11_years 22 = .ok (.ireturn, 1) := by decide +kernel
theorem dX11_years_23 : decode cX11_years 23 = .ok (.aload_n 0, 1) := by decide +kernel
theorem dX11_years_24 : decode cX11_years 24 = .ok (.dup, 1) := by decide +kernel
theorem dX11_years_25 : decode cX11_years 25 = .ok (.getfield 72, 3) := by decide +kernel
theorem dX11_years_28 : decode cX11_years 28 = .ok (.iload_n 1, 1) := by decide +kernel
theorem dX11_years_29 : decode cX11_years 29 = .ok (.iadd, 1) := by decide +kernel
theorem dX11_years_30 : decode cX11_years 30 = .ok (.putfield 72, 3) := by decide +kernel
theorem dX11_years_33 : decode cX11_years 33 = .ok (.aload_n 0, 1) := by decide +kernel
theorem dX11_years_34 : decode cX11_years 34 = .ok (.getfield 72, 3) := by decide +kernel
theorem dX11_years_37 : decode cX11_years 37 = .ok (.ireturn, 1) := by decide +kernel
theorem dX11_press_0 : decode cX11_press 0 = .ok (.aload_n 0, 1) := by decide +kernel
theorem dX11_press_1 : decode cX11_press 1 = .ok (.getfield 12, 3) := by decide +kernel
theorem dX11_press_4 : decode cX11_press 4 = .ok (.iload_n 1, 1) := by decide +kernel
theorem dX11_press_5 : decode cX11_press 5 = .ok (.invokevirtual 94, 3) := by decide +kernel
theorem dX11_press_8 : decode cX11_press 8 = .ok (.astore 4, 2) := by decide +kernel
theorem dX11_press_10 : decode cX11_press 10 = .ok (.aload_n 0, 1) := by decide +kernel
theorem dX11_press_11 : decode cX11_press 11 = .ok (.iload_n 2, 1) := by decide +kernel
theorem dX11_press_12 : decode cX11_press 12 = .ok (.invokevirtual 147, 3) := by decide +kernel
theorem dX11_press_15 : decode cX11_press 15 = .ok (.astore 5, 2) := by decide +kernel
theorem dX11_press_17 : decode cX11_press 17 = .ok (.aload 4, 2) := by decide +kernel
theorem dX11_press_19 : decode cX11_press 19 = .ok (.ifnull 18, 3) := by decide +kernel
theorem dX11_press_22 : decode cX11_press 22 = .ok (.aload 5, 2) := by decide +kernel
theorem dX11_press_24 : decode cX11_press 24 = .ok (.ifnull 13, 3) := by decide +kernel
theorem dX11_press_27 : decode cX11_press 27 = .ok (.iload_n 3, 1) := by decide +kernel
theorem dX11_press_28 : decode cX11_press 28 = .ok (.iconst 1, 1) := by decide +kernel
theorem dX11_press_29 : decode cX11_press 29 = .ok (.bipush 99, 2) := by decide +kernel
theorem dX11_press_31 : decode cX11_press 31 = .ok (.invokestatic 77, 3) := by decide +kernel
theorem dX11_press_34 : decode cX11_press 34 = .ok (.ifCond .ne 5, 3) := by decide +kernel
theorem dX11_press_37 : decode cX11_press 37 = .ok (.iconst (-1), 1) := by decide +kernel
theorem dX11_press_38 : decode cX11_press 38 = .ok (.ireturn, 1) := by decide +kernel
theorem dX11_press_39 : decode cX11_press 39 = .ok (.aload 4, 2) := by decide +kernel
theorem dX11_press_41 : decode cX11_press 41 = .ok (.getfield 111, 3) := by decide +kernel
theorem dX11_press_44 : decode cX11_press 44 = .ok (.iload_n 3, 1) := by decide +kernel
theorem dX11_press_45 : decode cX11_press 45 = .ok (.if_icmp .ge 6, 3) := by decide +kernel
theorem dX11_press_48 : decode cX11_press 48 = .ok (.bipush (-2), 2) := by decide +kernel
theorem dX11_press_50 : decode cX11_press 50 = .ok (.ireturn, 1) := by decide +kernel
theorem dX11_press_51 : decode cX11_press 51 = .ok (.aload 5, 2) := by decide +kernel
theorem dX11_press_53 : decode cX11_press 53 = .ok (.getfield 151, 3) := by decide +kernel
theorem dX11_press_56 : decode cX11_press 56 = .ok (.iload_n 3, 1) := by decide +kernel
theorem dX11_press_57 : decode cX11_press 57 = .ok (.iadd, 1) := by decide +kernel
theorem dX11_press_58 : decode cX11_press 58 = .ok (.sipush 999, 3) := by decide +kernel
theorem dX11_press_61 : decode cX11_press 61 = .ok (.if_icmp .le 6, 3) := by decide +kernel
theorem dX11_press_64 : decode cX11_press 64 = .ok (.bipush (-3), 2) := by decide +kernel
theorem dX11_press_66 : decode cX11_press 66 = .ok (.ireturn, 1) := by decide +kernel
theorem dX11_press_67 : decode cX11_press 67 = .ok (.aload 4, 2) := by decide +kernel
theorem dX11_press_69 : decode cX11_press 69 = .ok (.dup, 1) := by decide +kernel
theorem dX11_press_70 : decode cX11_press 70 = .ok (.getfield 111, 3) := by decide +kernel
theorem dX11_press_73 : decode cX11_press 73 = .ok (.iload_n 3, 1) := by decide +kernel
theorem dX11_press_74 : decode cX11_press 74 = .ok (.isub, 1) := by decide +kernel
theorem dX11_press_75 : decode cX11_press 75 = .ok (.putfield 111, 3) := by decide +kernel
theorem dX11_press_78 : decode cX11_press 78 = .ok (.aload 5, 2) := by decide +kernel
theorem dX11_press_80 : decode cX11_press 80 = .ok (.iload_n 1, 1) := by decide +kernel
theorem dX11_press_81 : decode cX11_press 81 = .ok (.iload_n 3, 1) := by decide +kernel
theorem dX11_press_82 : decode cX11_press 82 = .ok (.invokevirtual 154, 3) := by decide +kernel
theorem dX11_press_85 : decode cX11_press 85 = .ok (.aload 5, 2) := by decide +kernel
theorem dX11_press_87 : decode cX11_press 87 = .ok (.getfield 151, 3) := by decide +kernel
theorem dX11_press_90 : decode cX11_press 90 = .ok (.ireturn, 1) := by decide +kernel
theorem dX11_pour_0 : decode cX11_pour 0 = .ok (.aload_n 0, 1) := by decide +kernel
theorem dX11_pour_1 : decode cX11_pour 1 = .ok (.iload_n 1, 1) := by decide +kernel
theorem dX11_pour_2 : decode cX11_pour 2 = .ok (.invokevirtual 147, 3) := by decide +kernel
theorem dX11_pour_5 : decode cX11_pour 5 = .ok (.astore_n 3, 1) := by decide +kernel
theorem dX11_pour_6 : decode cX11_pour 6 = .ok (.aload_n 0, 1) := by decide +kernel
theorem dX11_pour_7 : decode cX11_pour 7 = .ok (.iload_n 2, 1) := by decide +kernel
theorem dX11_pour_8 : decode cX11_pour 8 = .ok (.invokevirtual 147, 3) := by decide +kernel
theorem dX11_pour_11 : decode cX11_pour 11 = .ok (.astore 4, 2) := by decide +kernel
theorem dX11_pour_13 : decode cX11_pour 13 = .ok (.aload_n 3, 1) := by decide +kernel
theorem dX11_pour_14 : decode cX11_pour 14 = .ok (.ifnull 13, 3) := by decide +kernel
theorem dX11_pour_17 : decode cX11_pour 17 = .ok (.aload 4, 2) := by decide +kernel
theorem dX11_pour_19 : decode cX11_pour 19 = .ok (.ifnull 8, 3) := by decide +kernel
theorem dX11_pour_22 : decode cX11_pour 22 = .ok (.iload_n 1, 1) := by decide +kernel
theorem dX11_pour_23 : decode cX11_pour 23 = .ok (.iload_n 2, 1) := by decide +kernel
theorem dX11_pour_24 : decode cX11_pour 24 = .ok (.if_icmp .ne 5, 3) := by decide +kernel
theorem dX11_pour_27 : decode cX11_pour 27 = .ok (.iconst (-1), 1) := by decide +kernel
theorem dX11_pour_28 : decode cX11_pour 28 = .ok (.ireturn, 1) := by decide +kernel
theorem dX11_pour_29 : decode cX11_pour 29 = .ok (.aload_n 3, 1) := by decide +kernel
theorem dX11_pour_30 : decode cX11_pour 30 = .ok (.getfield 151, 3) := by decide +kernel
theorem dX11_pour_33 : decode cX11_pour 33 = .ok (.ifCond .ne 6, 3) := by decide +kernel
theorem dX11_pour_36 : decode cX11_pour 36 = .ok (.bipush (-2), 2) := by decide +kernel
theorem dX11_pour_38 : decode cX11_pour 38 = .ok (.ireturn, 1) := by decide +kernel
theorem dX11_pour_39 : decode cX11_pour 39 = .ok (.aload_n 3, 1) := by decide +kernel
theorem dX11_pour_40 : decode cX11_pour 40 = .ok (.getfield 151, 3) := by decide +kernel
theorem dX11_pour_43 : decode cX11_pour 43 = .ok (.aload 4, 2) := by decide +kernel
theorem dX11_pour_45 : decode cX11_pour 45 = .ok (.getfield 151, 3) := by decide +kernel
theorem dX11_pour_48 : decode cX11_pour 48 = .ok (.iadd, 1) := by decide +kernel
theorem dX11_pour_49 : decode cX11_pour 49 = .ok (.sipush 999, 3) := by decide +kernel
theorem dX11_pour_52 : decode cX11_pour 52 = .ok (.if_icmp .le 6, 3) := by decide +kernel
theorem dX11_pour_55 : decode cX11_pour 55 = .ok (.bipush (-3), 2) := by decide +kernel
theorem dX11_pour_57 : decode cX11_pour 57 = .ok (.ireturn, 1) := by decide +kernel
theorem dX11_pour_58 : decode cX11_pour 58 = .ok (.aload 4, 2) := by decide +kernel
theorem dX11_pour_60 : decode cX11_pour 60 = .ok (.aload_n 3, 1) := by decide +kernel
theorem dX11_pour_61 : decode cX11_pour 61 = .ok (.invokevirtual 157, 3) := by decide +kernel
theorem dX11_pour_64 : decode cX11_pour 64 = .ok (.aload_n 3, 1) := by decide +kernel
theorem dX11_pour_65 : decode cX11_pour 65 = .ok (.invokevirtual 161, 3) := by decide +kernel
theorem dX11_pour_68 : decode cX11_pour 68 = .ok (.aload 4, 2) := by decide +kernel
theorem dX11_pour_70 : decode cX11_pour 70 = .ok (.getfield 151, 3) := by decide +kernel
theorem dX11_pour_73 : decode cX11_pour 73 = .ok (.ireturn, 1) := by decide +kernel
theorem dX11_waste_0 : decode cX11_waste 0 = .ok (.aload_n 0, 1) := by decide +kernel
theorem dX11_waste_1 : decode cX11_waste 1 = .ok (.iload_n 1, 1) := by decide +kernel
theorem dX11_waste_2 : decode cX11_waste 2 = .ok (.invokevirtual 147, 3) := by decide +kernel
theorem dX11_waste_5 : decode cX11_waste 5 = .ok (.astore_n 2, 1) := by decide +kernel
theorem dX11_waste_6 : decode cX11_waste 6 = .ok (.aload_n 2, 1) := by decide +kernel
theorem dX11_waste_7 : decode cX11_waste 7 = .ok (.ifnonnull 5, 3) := by decide +kernel
theorem dX11_waste_10 : decode cX11_waste 10 = .ok (.iconst (-1), 1) := by decide +kernel
theorem dX11_waste_11 : decode cX11_waste 11 = .ok (.ireturn, 1) := by decide +kernel
theorem dX11_waste_12 : decode cX11_waste 12 = .ok (.aload_n 2, 1) := by decide +kernel
theorem dX11_waste_13 : decode cX11_waste 13 = .ok (.getfield 151, 3) := by decide +kernel
theorem dX11_waste_16 : decode cX11_waste 16 = .ok (.ifCond .ne 6, 3) := by decide +kernel
theorem dX11_waste_19 : decode cX11_waste 19 = .ok (.bipush (-2), 2) := by decide +kernel
theorem dX11_waste_21 : decode cX11_waste 21 = .ok (.ireturn, 1) := by decide +kernel
theorem dX11_waste_22 : decode cX11_waste 22 = .ok (.aload_n 2, 1) := by decide +kernel
theorem dX11_waste_23 : decode cX11_waste 23 = .ok (.getfield 151, 3) := by decide +kernel
theorem dX11_waste_26 : decode cX11_waste 26 = .ok (.istore_n 3, 1) := by decide +kernel
theorem dX11_waste_27 : decode cX11_waste 27 = .ok (.aload_n 0, 1) := by decide +kernel
theorem dX11_waste_28 : decode cX11_waste 28 = .ok (.getfield 12, 3) := by decide +kernel
theorem dX11_waste_31 : decode cX11_waste 31 = .ok (.aload_n 2, 1) := by decide +kernel
theorem dX11_waste_32 : decode cX11_waste 32 = .ok (.invokevirtual 164, 3) := by decide +kernel
theorem dX11_waste_35 : decode cX11_waste 35 = .ok (.aload_n 2, 1) := by decide +kernel
theorem dX11_waste_36 : decode cX11_waste 36 = .ok (.invokevirtual 161, 3) := by decide +kernel
theorem dX11_waste_39 : decode cX11_waste 39 = .ok (.iload_n 3, 1) := by decide +kernel
theorem dX11_waste_40 : decode cX11_waste 40 = .ok (.ireturn, 1) := by decide +kernel
theorem dX11_drops_0 : decode cX11_drops 0 = .ok (.aload_n 0, 1) := by decide +kernel
theorem dX11_drops_1 : decode cX11_drops 1 = .ok (.iload_n 1, 1) := by decide +kernel
theorem dX11_drops_2 : decode cX11_drops 2 = .ok (.invokevirtual 147, 3) := by decide +kernel
theorem dX11_drops_5 : decode cX11_drops 5 = .ok (.astore_n 3, 1) := by decide +kernel
theorem dX11_drops_6 : decode cX11_drops 6 = .ok (.aload_n 3, 1) := by decide +kernel
theorem dX11_drops_7 : decode cX11_drops 7 = .ok (.ifnonnull 5, 3) := by decide +kernel
theorem dX11_drops_10 : decode cX11_drops 10 = .ok (.iconst (-1), 1) := by decide +kernel
theorem dX11_drops_11 : decode cX11_drops 11 = .ok (.ireturn, 1) := by decide +kernel
theorem dX11_drops_12 : decode cX11_drops 12 = .ok (.iload_n 2, 1) := by decide +kernel
theorem dX11_drops_13 : decode cX11_drops 13 = .ok (.iconst (-1), 1) := by decide +kernel
theorem dX11_drops_14 : decode cX11_drops 14 = .ok (.if_icmp .ne 8, 3) := by decide +kernel
theorem dX11_drops_17 : decode cX11_drops 17 = .ok (.aload_n 3, 1) := by decide +kernel
theorem dX11_drops_18 : decode cX11_drops 18 = .ok (.getfield 151, 3) := by decide +kernel
theorem dX11_drops_21 : decode cX11_drops 21 = .ok (.ireturn, 1) := by decide +kernel
theorem dX11_drops_22 : decode cX11_drops 22 = .ok (.aload_n 0, 1) := by decide +kernel
theorem dX11_drops_23 : decode cX11_drops 23 = .ok (.getfield 12, 3) := by decide +kernel
theorem dX11_drops_26 : decode cX11_drops 26 = .ok (.iload_n 2, 1) := by decide +kernel
theorem dX11_drops_27 : decode cX11_drops 27 = .ok (.invokevirtual 94, 3) := by decide +kernel
theorem dX11_drops_30 : decode cX11_drops 30 = .ok (.ifnonnull 7, 3) := by decide +kernel
theorem dX11_drops_33 : decode cX11_drops 33 = .ok (.iconst (-1), 1) := by decide +kernel
theorem dX11_drops_34 : decode cX11_drops 34 = .ok (.goto 8, 3) := by decide +kernel
theorem dX11_drops_37 : decode cX11_drops 37 = .ok (.aload_n 3, 1) := by decide +kernel
theorem dX11_drops_38 : decode cX11_drops 38 = .ok (.iload_n 2, 1) := by decide +kernel
theorem dX11_drops_39 : decode cX11_drops 39 = .ok (.invokevirtual 167, 3) := by decide +kernel
theorem dX11_drops_42 : decode cX11_drops 42 = .ok (.ireturn, 1) := by decide +kernel
theorem dX11_thick_0 : decode cX11_thick 0 = .ok (.aload_n 0, 1) := by decide +kernel
theorem dX11_thick_1 : decode cX11_thick 1 = .ok (.iload_n 1, 1) := by decide +kernel
theorem dX11_thick_2 : decode cX11_thick 2 = .ok (.invokevirtual 147, 3) := by decide +kernel
theorem dX11_thick_5 : decode cX11_thick 5 = .ok (.astore_n 3, 1) := by decide +kernel
theorem dX11_thick_6 : decode cX11_thick 6 = .ok (.aload_n 3, 1) := by decide +kernel
theorem dX11_thick_7 : decode cX11_thick 7 = .ok (.ifnull 10, 3) := by decide +kernel
theorem dX11_thick_10 : decode cX11_thick 10 = .ok (.iload_n 2, 1) := by decide +kernel
theorem dX11_thick_11 : decode cX11_thick 11 = .ok (.invokestatic 98, 3) := by decide +kernel
theorem dX11_thick_14 : decode cX11_thick 14 = .ok (.ifCond .ne 5, 3) := by decide +kernel
theorem dX11_thick_17 : decode cX11_thick 17 = .ok (.iconst (-1), 1) := by decide +kernel
theorem dX11_thick_18 : decode cX11_thick 18 = .ok (.ireturn, 1) := by decide +kernel
theorem dX11_thick_19 : decode cX11_thick 19 = .ok (.aload_n 3, 1) := by decide +kernel
theorem dX11_thick_20 : decode cX11_thick 20 = .ok (.getfield 151, 3) := by decide +kernel
theorem dX11_thick_23 : decode cX11_thick 23 = .ok (.ifCond .ne 8, 3) := by decide +kernel
theorem dX11_thick_26 : decode cX11_thick 26 = .ok (.bipush (-2), 2) := by decide +kernel
theorem dX11_thick_28 : decode cX11_thick 28 = .ok (.goto 12, 3) := by decide +kernel
theorem dX11_thick_31 : decode cX11_thick 31 = .ok (.aload_n 3, 1) := by decide +kernel
theorem dX11_thick_32 : decode cX11_thick 32 = .ok (.aload_n 0, 1) := by decide +kernel
theorem dX11_thick_33 : decode cX11_thick 33 = .ok (.getfield 12, 3) := by decide +kernel
theorem dX11_thick_36 : decode cX11_thick 36 = .ok (.iload_n 2, 1) := by decide +kernel
theorem dX11_thick_37 : decode cX11_thick 37 = .ok (.invokevirtual 170, 3) := by decide +kernel
theorem dX11_thick_40 : decode cX11_thick 40 = .ok (.ireturn, 1) := by decide +kernel
theorem dX11_seen_0 : decode cX11_seen 0 = .ok (.aload_n 0, 1) := by decide +kernel
theorem dX11_seen_1 : decode cX11_seen 1 = .ok (.iload_n 1, 1) := by decide +kernel
theorem dX11_seen_2 : decode cX11_seen 2 = .ok (.invokevirtual 147, 3) := by decide +kernel
theorem dX11_seen_5 : decode cX11_seen 5 = .ok (.astore 4, 2) := by decide +kernel
theorem dX11_seen_7 : decode cX11_seen 7 = .ok (.aload 4, 2) := by decide +kernel
theorem dX11_seen_9 : decode cX11_seen 9 = .ok (.ifnull 17, 3) := by decide +kernel
theorem dX11_seen_12 : decode cX11_seen 12 = .ok (.iload_n 2, 1) := by decide +kernel
theorem dX11_seen_13 : decode cX11_seen 13 = .ok (.invokestatic 131, 3) := by decide +kernel
theorem dX11_seen_16 : decode cX11_seen 16 = .ok (.ifCond .eq 10, 3) := by decide +kernel
theorem dX11_seen_19 : decode cX11_seen 19 = .ok (.iload_n 3, 1) := by decide +kernel
theorem dX11_seen_20 : decode cX11_seen 20 = .ok (.invokestatic 141, 3) := by decide +kernel
theorem dX11_seen_23 : decode cX11_seen 23 = .ok (.ifCond .ne 5, 3) := by decide +kernel
theorem dX11_seen_26 : decode cX11_seen 26 = .ok (.iconst (-1), 1) := by decide +kernel
theorem dX11_seen_27 : decode cX11_seen 27 = .ok (.ireturn, 1) := by decide +kernel
theorem dX11_seen_28 : decode cX11_seen 28 = .ok (.aload 4, 2) := by decide +kernel
theorem dX11_seen_30 : decode cX11_seen 30 = .ok (.getfield 151, 3) := by decide +kernel
theorem dX11_seen_33 : decode cX11_seen 33 = .ok (.ifCond .ne 6, 3) := by decide +kernel
theorem dX11_seen_36 : decode cX11_seen 36 = .ok (.bipush (-2), 2) := by decide +kernel
theorem dX11_seen_38 : decode cX11_seen 38 = .ok (.ireturn, 1) := by decide +kernel
theorem dX11_seen_39 : decode cX11_seen 39 = .ok (.aload_n 0, 1) := by decide +kernel
theorem dX11_seen_40 : decode cX11_seen 40 = .ok (.getfield 19, 3) := by decide +kernel
theorem dX11_seen_43 : decode cX11_seen 43 = .ok (.iload_n 2, 1) := by decide +kernel
theorem dX11_seen_44 : decode cX11_seen 44 = .ok (.invokevirtual 174, 3) := by decide +kernel
theorem dX11_seen_47 : decode cX11_seen 47 = .ok (.iconst 0, 1) := by decide +kernel
theorem dX11_seen_48 : decode cX11_seen 48 = .ok (.istore 5, 2) := by decide +kernel
theorem dX11_seen_50 : decode cX11_seen 50 = .ok (.iload 5, 2) := by decide +kernel
theorem dX11_seen_52 : decode cX11_seen 52 = .ok (.bipush 8, 2) := by decide +kernel
theorem dX11_seen_54 : decode cX11_seen 54 = .ok (.if_icmp .ge 27, 3) := by decide +kernel
theorem dX11_seen_57 : decode cX11_seen 57 = .ok (.aload_n 0, 1) := by decide +kernel
theorem dX11_seen_58 : decode cX11_seen 58 = .ok (.getfield 44, 3) := by decide +kernel
theorem dX11_seen_61 : decode cX11_seen 61 = .ok (.iload 5, 2) := by decide +kernel
theorem dX11_seen_63 : decode cX11_seen 63 = .ok (.aload 4, 2) := by decide +kernel
theorem dX11_seen_65 : decode cX11_seen 65 = .ok (.aload_n 0, 1) := by decide +kernel
theorem dX11_seen_66 : decode cX11_seen 66 = .ok (.getfield 12, 3) := by decide +kernel
theorem dX11_seen_69 : decode cX11_seen 69 = .ok (.iload 5, 2) := by decide +kernel
theorem dX11_seen_71 : decode cX11_seen 71 = .ok (.invokevirtual 170, 3) := by decide +kernel
theorem dX11_seen_74 : decode cX11_seen 74 = .ok (.iastore, 1) := by decide +kernel
theorem dX11_seen_75 : decode cX11_seen 75 = .ok (.iinc 5 1, 3) := by decide +kernel
theorem dX11_seen_78 : decode cX11_seen 78 = .ok (.goto (-28), 3) := by decide +kernel
theorem dX11_seen_81 : decode cX11_seen 81 = .ok (.aload_n 0, 1) := by decide +kernel
theorem dX11_seen_82 : decode cX11_seen 82 = .ok (.getfield 19, 3) := by decide +kernel
theorem dX11_seen_85 : decode cX11_seen 85 = .ok (.iload_n 3, 1) := by decide +kernel
theorem dX11_seen_86 : decode cX11_seen 86 = .ok (.aload_n 0, 1) := by decide +kernel
theorem dX11_seen_87 : decode cX11_seen 87 = .ok (.getfield 44, 3) := by decide +kernel
theorem dX11_seen_90 : decode cX11_seen 90 = .ok (.invokevirtual 178, 3) := by decide +kernel
theorem dX11_seen_93 : decode cX11_seen 93 = .ok (.ireturn, 1) := by decide +kernel
theorem dX11_over_0 : decode cX11_over 0 = .ok (.aload_n 0, 1) := by decide +kernel
theorem dX11_over_1 : decode cX11_over 1 = .ok (.iload_n 1, 1) := by decide +kernel
theorem dX11_over_2 : decode cX11_over 2 = .ok (.invokevirtual 147, 3) := by decide +kernel
theorem dX11_over_5 : decode cX11_over 5 = .ok (.astore 5, 2) := by decide +kernel
theorem dX11_over_7 : decode cX11_over 7 = .ok (.aload 5, 2) := by decide +kernel
theorem dX11_over_9 : decode cX11_over 9 = .ok (.ifnull 29, 3) := by decide +kernel
theorem dX11_over_12 : decode cX11_over 12 = .ok (.iload_n 2, 1) := by decide +kernel
theorem dX11_over_13 : decode cX11_over 13 = .ok (.invokestatic 98, 3) := by decide +kernel
theorem dX11_over_16 : decode cX11_over 16 = .ok (.ifCond .eq 22, 3) := by decide +kernel
theorem dX11_over_19 : decode cX11_over 19 = .ok (.iload_n 3, 1) := by decide +kernel
theorem dX11_over_20 : decode cX11_over 20 = .ok (.iconst 1, 1) := by decide +kernel
theorem dX11_over_21 : decode cX11_over 21 = .ok (.sipush 200, 3) := by decide +kernel
theorem dX11_over_24 : decode cX11_over 24 = .ok (.invokestatic 77, 3) := by decide +kernel
theorem dX11_over_27 : decode cX11_over 27 = .ok (.ifCond .eq 11, 3) := by decide +kernel
theorem dX11_over_30 : decode cX11_over 30 = .ok (.iload 4, 2) := by decide +kernel
theorem dX11_over_32 : decode cX11_over 32 = .ok (.invokestatic 182, 3) := by decide +kernel
theorem dX11_over_35 : decode cX11_over 35 = .ok (.ifCond .ne 5, 3) := by decide +kernel
theorem dX11_over_38 : decode cX11_over 38 = .ok (.iconst (-1), 1) := by decide +kernel
theorem dX11_over_39 : decode cX11_over 39 = .ok (.ireturn, 1) := by decide +kernel
theorem dX11_over_40 : decode cX11_over 40 = .ok (.aload 5, 2) := by decide +kernel
theorem dX11_over_42 : decode cX11_over 42 = .ok (.getfield 151, 3) := by decide +kernel
theorem dX11_over_45 : decode cX11_over 45 = .ok (.ifCond .ne 6, 3) := by decide +kernel
theorem dX11_over_48 : decode cX11_over 48 = .ok (.bipush (-2), 2) := by decide +kernel
theorem dX11_over_50 : decode cX11_over 50 = .ok (.ireturn, 1) := by decide +kernel
theorem dX11_over_51 : decode cX11_over 51 = .ok (.aload 5, 2) := by decide +kernel
theorem dX11_over_53 : decode cX11_over 53 = .ok (.aload_n 0, 1) := by decide +kernel
theorem dX11_over_54 : decode cX11_over 54 = .ok (.getfield 12, 3) := by decide +kernel
theorem dX11_over_57 : decode cX11_over 57 = .ok (.iload_n 2, 1) := by decide +kernel
theorem dX11_over_58 : decode cX11_over 58 = .ok (.iconst 0, 1) := by decide +kernel
theorem dX11_over_59 : decode cX11_over 59 = .ok (.invokevirtual 185, 3) := by decide +kernel
theorem dX11_over_62 : decode cX11_over 62 = .ok (.istore 6, 2) := by decide +kernel
theorem dX11_over_64 : decode cX11_over 64 = .ok (.aload 5, 2) := by decide +kernel
theorem dX11_over_66 : decode cX11_over 66 = .ok (.aload_n 0, 1) := by decide +kernel
theorem dX11_over_67 : decode cX11_over 67 = .ok (.getfield 12, 3) := by decide +kernel
theorem dX11_over_70 : decode cX11_over 70 = .ok (.iload_n 2, 1) := by decide +kernel
theorem dX11_over_71 : decode cX11_over 71 = .ok (.invokevirtual 189, 3) := by decide +kernel
theorem dX11_over_74 : decode cX11_over 74 = .ok (.istore 7, 2) := by decide +kernel
theorem dX11_over_76 : decode cX11_over 76 = .ok (.iload 6, 2) := by decide +kernel
theorem dX11_over_78 : decode cX11_over 78 = .ok (.iload 7, 2) := by decide +kernel
theorem dX11_over_80 : decode cX11_over 80 = .ok (.invokestatic 192, 3) := by decide +kernel
theorem dX11_over_83 : decode cX11_over 83 = .ok (.iload 6, 2) := by decide +kernel
theorem dX11_over_85 : decode cX11_over 85 = .ok (.iload 7, 2) := by decide +kernel
theorem dX11_over_87 : decode cX11_over 87 = .ok (.invokestatic 197, 3) := by decide +kernel
theorem dX11_over_90 : decode cX11_over 90 = .ok (.iload_n 3, 1) := by decide +kernel
theorem dX11_over_91 : decode cX11_over 91 = .ok (.iload 4, 2) := by decide +kernel
theorem dX11_over_93 : decode cX11_over 93 = .ok (.invokestatic 200, 3) := by decide +kernel
theorem dX11_over_96 : decode cX11_over 96 = .ok (.ireturn, 1) := by decide +kernel
theorem dX11_hiding_0 : decode cX11_hiding 0 = .ok (.aload_n 0, 1) := by decide +kernel
theorem dX11_hiding_1 : decode cX11_hiding 1 = .ok (.iload_n 1, 1) := by decide +kernel
theorem dX11_hiding_2 : decode cX11_hiding 2 = .ok (.invokevirtual 147, 3) := by decide +kernel
theorem dX11_hiding_5 : decode cX11_hiding 5 = .ok (.astore_n 3, 1) := by decide +kernel
theorem dX11_hiding_6 : decode cX11_hiding 6 = .ok (.aload_n 3, 1) := by decide +kernel
theorem dX11_hiding_7 : decode cX11_hiding 7 = .ok (.ifnull 10, 3) := by decide +kernel
theorem dX11_hiding_10 : decode cX11_hiding 10 = .ok (.iload_n 2, 1) := by decide +kernel
theorem dX11_hiding_11 : decode cX11_hiding 11 = .ok (.invokestatic 182, 3) := by decide +kernel
theorem dX11_hiding_14 : decode cX11_hiding 14 = .ok (.ifCond .ne 5, 3) := by decide +kernel
theorem dX11_hiding_17 : decode cX11_hiding 17 = .ok (.iconst (-1), 1) := by decide +kernel
theorem dX11_hiding_18 : decode cX11_hiding 18 = .ok (.ireturn, 1) := by decide +kernel
theorem dX11_hiding_19 : decode cX11_hiding 19 = .ok (.aload_n 3, 1) := by decide +kernel
theorem dX11_hiding_20 : decode cX11_hiding 20 = .ok (.getfield 151, 3) := by decide +kernel
theorem dX11_hiding_23 : decode cX11_hiding 23 = .ok (.ifCond .ne 6, 3) := by decide +kernel
theorem dX11_hiding_26 : decode cX11_hiding 26 = .ok (.bipush (-2), 2) := by decide +kernel
theorem dX11_hiding_28 : decode cX11_hiding 28 = .ok (.ireturn, 1) := by decide +kernel
theorem dX11_hiding_29 : decode cX11_hiding 29 = .ok (.iconst 1, 1) := by decide +kernel
theorem dX11_hiding_30 : decode cX11_hiding 30 = .ok (.istore 4, 2) := by decide +kernel
theorem dX11_hiding_32 : decode cX11_hiding 32 = .ok (.iconst 0, 1) := by decide +kernel
theorem dX11_hiding_33 : decode cX11_hiding 33 = .ok (.istore 5, 2) := by decide +kernel
theorem dX11_hiding_35 : decode cX11_hiding 35 = .ok (.iload 5, 2) := by decide +kernel
theorem dX11_hiding_37 : decode cX11_hiding 37 = .ok (.bipush 8, 2) := by decide +kernel
theorem dX11_hiding_39 : decode cX11_hiding 39 = .ok (.if_icmp .ge 67, 3) := by decide +kernel
theorem dX11_hiding_42 : decode cX11_hiding 42 = .ok (.iload 4, 2) := by decide +kernel
theorem dX11_hiding_44 : decode cX11_hiding 44 = .ok (.sipush 200, 3) := by decide +kernel
theorem dX11_hiding_47 : decode cX11_hiding 47 = .ok (.if_icmp .gt 59, 3) := by decide +kernel
theorem dX11_hiding_50 : decode cX11_hiding 50 = .ok (.aload_n 3, 1) := by decide +kernel
theorem dX11_hiding_51 : decode cX11_hiding 51 = .ok (.aload_n 0, 1) := by decide +kernel
theorem dX11_hiding_52 : decode cX11_hiding 52 = .ok (.getfield 12, 3) := by decide +kernel
theorem dX11_hiding_55 : decode cX11_hiding 55 = .ok (.iload 5, 2) := by decide +kernel
theorem dX11_hiding_57 : decode cX11_hiding 57 = .ok (.iconst 0, 1) := by decide +kernel
theorem dX11_hiding_58 : decode cX11_hiding 58 = .ok (.invokevirtual 185, 3) := by decide +kernel
theorem dX11_hiding_61 : decode cX11_hiding 61 = .ok (.istore 6, 2) := by decide +kernel
theorem dX11_hiding_63 : decode cX11_hiding 63 = .ok (.aload_n 3, 1) := by decide +kernel
theorem dX11_hiding_64 : decode cX11_hiding 64 = .ok (.aload_n 0, 1) := by decide +kernel
theorem dX11_hiding_65 : decode cX11_hiding 65 = .ok (.getfield 12, 3) := by decide +kernel
theorem dX11_hiding_68 : decode cX11_hiding 68 = .ok (.iload 5, 2) := by decide +kernel
theorem dX11_hiding_70 : decode cX11_hiding 70 = .ok (.invokevirtual 189, 3) := by decide +kernel
theorem dX11_hiding_73 : decode cX11_hiding 73 = .ok (.istore 7, 2) := by decide +kernel
theorem dX11_hiding_75 : decode cX11_hiding 75 = .ok (.iload 4, 2) := by decide +kernel
theorem dX11_hiding_77 : decode cX11_hiding 77 = .ok (.iload 6, 2) := by decide +kernel
theorem dX11_hiding_79 : decode cX11_hiding 79 = .ok (.iload 7, 2) := by decide +kernel
theorem dX11_hiding_81 : decode cX11_hiding 81 = .ok (.invokestatic 192, 3) := by decide +kernel
theorem dX11_hiding_84 : decode cX11_hiding 84 = .ok (.iload 6, 2) := by decide +kernel
end
section
theorem dX11_hiding_86 : decode cX11_hiding 86 = .ok (.iload 7, 2) := by decide +kernel
theorem dX11_hiding_88 : decode cX11_hiding 88 = .ok (.invokestatic 197, 3) := by decide +kernel
theorem dX11_hiding_91 : decode cX11_hiding 91 = .ok (.iload_n 2, 1) := by decide +kernel
theorem dX11_hiding_92 : decode cX11_hiding 92 = .ok (.invokestatic 204, 3) := by decide +kernel
theorem dX11_hiding_95 : decode cX11_hiding 95 = .ok (.invokestatic 208, 3) := by decide +kernel
theorem dX11_hiding_98 : decode cX11_hiding 98 = .ok (.istore 4, 2) := by decide +kernel
theorem dX11_hiding_100 : decode cX11_hiding 100 = .ok (.iinc 5 1, 3) := by decide +kernel
theorem dX11_hiding_103 : decode cX11_hiding 103 = .ok (.goto (-68), 3) := by decide +kernel
theorem dX11_hiding_106 : decode cX11_hiding 106 = .ok (.iload 4, 2) := by decide +kernel
theorem dX11_hiding_108 : decode cX11_hiding 108 = .ok (.sipush 200, 3) := by decide +kernel
theorem dX11_hiding_111 : decode cX11_hiding 111 = .ok (.if_icmp .le 8, 3) := by decide +kernel
theorem dX11_hiding_114 : decode cX11_hiding 114 = .ok (.bipush (-2), 2) := by decide +kernel
theorem dX11_hiding_116 : decode cX11_hiding 116 = .ok (.goto 5, 3) := by decide +kernel
theorem dX11_hiding_119 : decode cX11_hiding 119 = .ok (.iload 4, 2) := by decide +kernel
theorem dX11_hiding_121 : decode cX11_hiding 121 = .ok (.ireturn, 1) := by decide +kernel
theorem dX11_ground_0 : decode cX11_ground 0 = .ok (.aload_n 0, 1) := by decide +kernel
theorem dX11_ground_1 : decode cX11_ground 1 = .ok (.iload_n 1, 1) := by decide +kernel
theorem dX11_ground_2 : decode cX11_ground 2 = .ok (.invokevirtual 213, 3) := by decide +kernel
theorem dX11_ground_5 : decode cX11_ground 5 = .ok (.astore_n 3, 1) := by decide +kernel
theorem dX11_ground_6 : decode cX11_ground 6 = .ok (.aload_n 3, 1) := by decide +kernel
theorem dX11_ground_7 : decode cX11_ground 7 = .ok (.ifnull 10, 3) := by decide +kernel
theorem dX11_ground_10 : decode cX11_ground 10 = .ok (.iload_n 2, 1) := by decide +kernel
theorem dX11_ground_11 : decode cX11_ground 11 = .ok (.invokestatic 182, 3) := by decide +kernel
theorem dX11_ground_14 : decode cX11_ground 14 = .ok (.ifCond .ne 5, 3) := by decide +kernel
theorem dX11_ground_17 : decode cX11_ground 17 = .ok (.iconst (-1), 1) := by decide +kernel
theorem dX11_ground_18 : decode cX11_ground 18 = .ok (.ireturn, 1) := by decide +kernel
theorem dX11_ground_19 : decode cX11_ground 19 = .ok (.aload_n 3, 1) := by decide +kernel
theorem dX11_ground_20 : decode cX11_ground 20 = .ok (.getfield 217, 3) := by decide +kernel
theorem dX11_ground_23 : decode cX11_ground 23 = .ok (.ifCond .le 6, 3) := by decide +kernel
theorem dX11_ground_26 : decode cX11_ground 26 = .ok (.bipush (-2), 2) := by decide +kernel
theorem dX11_ground_28 : decode cX11_ground 28 = .ok (.ireturn, 1) := by decide +kernel
theorem dX11_ground_29 : decode cX11_ground 29 = .ok (.aload_n 3, 1) := by decide +kernel
theorem dX11_ground_30 : decode cX11_ground 30 = .ok (.getfield 220, 3) := by decide +kernel
theorem dX11_ground_33 : decode cX11_ground 33 = .ok (.istore 4, 2) := by decide +kernel
theorem dX11_ground_35 : decode cX11_ground 35 = .ok (.aload_n 3, 1) := by decide +kernel
theorem dX11_ground_36 : decode cX11_ground 36 = .ok (.iload_n 2, 1) := by decide +kernel
theorem dX11_ground_37 : decode cX11_ground 37 = .ok (.putfield 220, 3) := by decide +kernel
theorem dX11_ground_40 : decode cX11_ground 40 = .ok (.iload 4, 2) := by decide +kernel
theorem dX11_ground_42 : decode cX11_ground 42 = .ok (.ireturn, 1) := by decide +kernel
theorem dX11_lay_0 : decode cX11_lay 0 = .ok (.aload_n 0, 1) := by decide +kernel
theorem dX11_lay_1 : decode cX11_lay 1 = .ok (.iload_n 1, 1) := by decide +kernel
theorem dX11_lay_2 : decode cX11_lay 2 = .ok (.invokevirtual 147, 3) := by decide +kernel
theorem dX11_lay_5 : decode cX11_lay 5 = .ok (.astore 4, 2) := by decide +kernel
theorem dX11_lay_7 : decode cX11_lay 7 = .ok (.aload_n 0, 1) := by decide +kernel
theorem dX11_lay_8 : decode cX11_lay 8 = .ok (.iload_n 2, 1) := by decide +kernel
theorem dX11_lay_9 : decode cX11_lay 9 = .ok (.invokevirtual 213, 3) := by decide +kernel
theorem dX11_lay_12 : decode cX11_lay 12 = .ok (.astore 5, 2) := by decide +kernel
theorem dX11_lay_14 : decode cX11_lay 14 = .ok (.aload 4, 2) := by decide +kernel
theorem dX11_lay_16 : decode cX11_lay 16 = .ok (.ifnull 19, 3) := by decide +kernel
theorem dX11_lay_19 : decode cX11_lay 19 = .ok (.aload 5, 2) := by decide +kernel
theorem dX11_lay_21 : decode cX11_lay 21 = .ok (.ifnull 14, 3) := by decide +kernel
theorem dX11_lay_24 : decode cX11_lay 24 = .ok (.iload_n 3, 1) := by decide +kernel
theorem dX11_lay_25 : decode cX11_lay 25 = .ok (.iconst 1, 1) := by decide +kernel
theorem dX11_lay_26 : decode cX11_lay 26 = .ok (.sipush 200, 3) := by decide +kernel
theorem dX11_lay_29 : decode cX11_lay 29 = .ok (.invokestatic 77, 3) := by decide +kernel
theorem dX11_lay_32 : decode cX11_lay 32 = .ok (.ifCond .ne 5, 3) := by decide +kernel
theorem dX11_lay_35 : decode cX11_lay 35 = .ok (.iconst (-1), 1) := by decide +kernel
theorem dX11_lay_36 : decode cX11_lay 36 = .ok (.ireturn, 1) := by decide +kernel
theorem dX11_lay_37 : decode cX11_lay 37 = .ok (.aload 4, 2) := by decide +kernel
theorem dX11_lay_39 : decode cX11_lay 39 = .ok (.getfield 151, 3) := by decide +kernel
theorem dX11_lay_42 : decode cX11_lay 42 = .ok (.ifCond .ne 6, 3) := by decide +kernel
theorem dX11_lay_45 : decode cX11_lay 45 = .ok (.bipush (-2), 2) := by decide +kernel
theorem dX11_lay_47 : decode cX11_lay 47 = .ok (.ireturn, 1) := by decide +kernel
theorem dX11_lay_48 : decode cX11_lay 48 = .ok (.aload 5, 2) := by decide +kernel
theorem dX11_lay_50 : decode cX11_lay 50 = .ok (.invokevirtual 223, 3) := by decide +kernel
theorem dX11_lay_53 : decode cX11_lay 53 = .ok (.ifCond .eq 6, 3) := by decide +kernel
theorem dX11_lay_56 : decode cX11_lay 56 = .ok (.bipush (-3), 2) := by decide +kernel
theorem dX11_lay_58 : decode cX11_lay 58 = .ok (.ireturn, 1) := by decide +kernel
theorem dX11_lay_59 : decode cX11_lay 59 = .ok (.aload 5, 2) := by decide +kernel
theorem dX11_lay_61 : decode cX11_lay 61 = .ok (.new 224, 3) := by decide +kernel
theorem dX11_lay_64 : decode cX11_lay 64 = .ok (.dup, 1) := by decide +kernel
theorem dX11_lay_65 : decode cX11_lay 65 = .ok (.aload 4, 2) := by decide +kernel
theorem dX11_lay_67 : decode cX11_lay 67 = .ok (.iload_n 3, 1) := by decide +kernel
theorem dX11_lay_68 : decode cX11_lay 68 = .ok (.aload_n 0, 1) := by decide +kernel
theorem dX11_lay_69 : decode cX11_lay 69 = .ok (.getfield 72, 3) := by decide +kernel
theorem dX11_lay_72 : decode cX11_lay 72 = .ok (.invokespecial 226, 3) := by decide +kernel
theorem dX11_lay_75 : decode cX11_lay 75 = .ok (.invokevirtual 229, 3) := by decide +kernel
theorem dX11_lay_78 : decode cX11_lay 78 = .ok (.aload_n 0, 1) := by decide +kernel
theorem dX11_lay_79 : decode cX11_lay 79 = .ok (.getfield 12, 3) := by decide +kernel
theorem dX11_lay_82 : decode cX11_lay 82 = .ok (.aload 4, 2) := by decide +kernel
theorem dX11_lay_84 : decode cX11_lay 84 = .ok (.invokevirtual 232, 3) := by decide +kernel
theorem dX11_lay_87 : decode cX11_lay 87 = .ok (.aload 4, 2) := by decide +kernel
theorem dX11_lay_89 : decode cX11_lay 89 = .ok (.invokevirtual 161, 3) := by decide +kernel
theorem dX11_lay_92 : decode cX11_lay 92 = .ok (.aload 5, 2) := by decide +kernel
theorem dX11_lay_94 : decode cX11_lay 94 = .ok (.getfield 217, 3) := by decide +kernel
theorem dX11_lay_97 : decode cX11_lay 97 = .ok (.ireturn, 1) := by decide +kernel
theorem dX11_back_0 : decode cX11_back 0 = .ok (.aload_n 0, 1) := by decide +kernel
theorem dX11_back_1 : decode cX11_back 1 = .ok (.iload_n 1, 1) := by decide +kernel
theorem dX11_back_2 : decode cX11_back 2 = .ok (.invokevirtual 213, 3) := by decide +kernel
theorem dX11_back_5 : decode cX11_back 5 = .ok (.astore 4, 2) := by decide +kernel
theorem dX11_back_7 : decode cX11_back 7 = .ok (.aload 4, 2) := by decide +kernel
theorem dX11_back_9 : decode cX11_back 9 = .ok (.ifnull 23, 3) := by decide +kernel
theorem dX11_back_12 : decode cX11_back 12 = .ok (.iload_n 2, 1) := by decide +kernel
theorem dX11_back_13 : decode cX11_back 13 = .ok (.invokestatic 98, 3) := by decide +kernel
theorem dX11_back_16 : decode cX11_back 16 = .ok (.ifCond .eq 16, 3) := by decide +kernel
theorem dX11_back_19 : decode cX11_back 19 = .ok (.iload_n 3, 1) := by decide +kernel
theorem dX11_back_20 : decode cX11_back 20 = .ok (.aload_n 0, 1) := by decide +kernel
theorem dX11_back_21 : decode cX11_back 21 = .ok (.getfield 72, 3) := by decide +kernel
theorem dX11_back_24 : decode cX11_back 24 = .ok (.bipush 99, 2) := by decide +kernel
theorem dX11_back_26 : decode cX11_back 26 = .ok (.invokestatic 77, 3) := by decide +kernel
theorem dX11_back_29 : decode cX11_back 29 = .ok (.ifCond .ne 5, 3) := by decide +kernel
theorem dX11_back_32 : decode cX11_back 32 = .ok (.iconst (-1), 1) := by decide +kernel
theorem dX11_back_33 : decode cX11_back 33 = .ok (.ireturn, 1) := by decide +kernel
theorem dX11_back_34 : decode cX11_back 34 = .ok (.aload 4, 2) := by decide +kernel
theorem dX11_back_36 : decode cX11_back 36 = .ok (.aload_n 0, 1) := by decide +kernel
theorem dX11_back_37 : decode cX11_back 37 = .ok (.getfield 12, 3) := by decide +kernel
theorem dX11_back_40 : decode cX11_back 40 = .ok (.iload_n 2, 1) := by decide +kernel
theorem dX11_back_41 : decode cX11_back 41 = .ok (.iload_n 3, 1) := by decide +kernel
theorem dX11_back_42 : decode cX11_back 42 = .ok (.invokevirtual 235, 3) := by decide +kernel
theorem dX11_back_45 : decode cX11_back 45 = .ok (.ireturn, 1) := by decide +kernel
theorem dX11_look_0 : decode cX11_look 0 = .ok (.aload_n 0, 1) := by decide +kernel
theorem dX11_look_1 : decode cX11_look 1 = .ok (.iload_n 1, 1) := by decide +kernel
theorem dX11_look_2 : decode cX11_look 2 = .ok (.invokevirtual 213, 3) := by decide +kernel
theorem dX11_look_5 : decode cX11_look 5 = .ok (.astore 4, 2) := by decide +kernel
theorem dX11_look_7 : decode cX11_look 7 = .ok (.aload 4, 2) := by decide +kernel
theorem dX11_look_9 : decode cX11_look 9 = .ok (.ifnull 17, 3) := by decide +kernel
theorem dX11_look_12 : decode cX11_look 12 = .ok (.iload_n 2, 1) := by decide +kernel
theorem dX11_look_13 : decode cX11_look 13 = .ok (.invokestatic 131, 3) := by decide +kernel
theorem dX11_look_16 : decode cX11_look 16 = .ok (.ifCond .eq 10, 3) := by decide +kernel
theorem dX11_look_19 : decode cX11_look 19 = .ok (.iload_n 3, 1) := by decide +kernel
theorem dX11_look_20 : decode cX11_look 20 = .ok (.invokestatic 141, 3) := by decide +kernel
theorem dX11_look_23 : decode cX11_look 23 = .ok (.ifCond .ne 5, 3) := by decide +kernel
theorem dX11_look_26 : decode cX11_look 26 = .ok (.iconst (-1), 1) := by decide +kernel
theorem dX11_look_27 : decode cX11_look 27 = .ok (.ireturn, 1) := by decide +kernel
theorem dX11_look_28 : decode cX11_look 28 = .ok (.aload_n 0, 1) := by decide +kernel
theorem dX11_look_29 : decode cX11_look 29 = .ok (.getfield 19, 3) := by decide +kernel
theorem dX11_look_32 : decode cX11_look 32 = .ok (.iload_n 2, 1) := by decide +kernel
theorem dX11_look_33 : decode cX11_look 33 = .ok (.invokevirtual 174, 3) := by decide +kernel
theorem dX11_look_36 : decode cX11_look 36 = .ok (.aload_n 0, 1) := by decide +kernel
theorem dX11_look_37 : decode cX11_look 37 = .ok (.aload 4, 2) := by decide +kernel
theorem dX11_look_39 : decode cX11_look 39 = .ok (.aload_n 0, 1) := by decide +kernel
theorem dX11_look_40 : decode cX11_look 40 = .ok (.getfield 72, 3) := by decide +kernel
theorem dX11_look_43 : decode cX11_look 43 = .ok (.invokevirtual 238, 3) := by decide +kernel
theorem dX11_look_46 : decode cX11_look 46 = .ok (.aload_n 0, 1) := by decide +kernel
theorem dX11_look_47 : decode cX11_look 47 = .ok (.getfield 19, 3) := by decide +kernel
theorem dX11_look_50 : decode cX11_look 50 = .ok (.iload_n 3, 1) := by decide +kernel
theorem dX11_look_51 : decode cX11_look 51 = .ok (.aload_n 0, 1) := by decide +kernel
theorem dX11_look_52 : decode cX11_look 52 = .ok (.getfield 44, 3) := by decide +kernel
theorem dX11_look_55 : decode cX11_look 55 = .ok (.invokevirtual 178, 3) := by decide +kernel
theorem dX11_look_58 : decode cX11_look 58 = .ok (.ireturn, 1) := by decide +kernel
theorem dX11_missed_0 : decode cX11_missed 0 = .ok (.aload_n 0, 1) := by decide +kernel
theorem dX11_missed_1 : decode cX11_missed 1 = .ok (.iload_n 1, 1) := by decide +kernel
theorem dX11_missed_2 : decode cX11_missed 2 = .ok (.invokevirtual 213, 3) := by decide +kernel
theorem dX11_missed_5 : decode cX11_missed 5 = .ok (.astore 4, 2) := by decide +kernel
theorem dX11_missed_7 : decode cX11_missed 7 = .ok (.aload 4, 2) := by decide +kernel
theorem dX11_missed_9 : decode cX11_missed 9 = .ok (.ifnull 21, 3) := by decide +kernel
theorem dX11_missed_12 : decode cX11_missed 12 = .ok (.iload_n 2, 1) := by decide +kernel
theorem dX11_missed_13 : decode cX11_missed 13 = .ok (.invokestatic 131, 3) := by decide +kernel
theorem dX11_missed_16 : decode cX11_missed 16 = .ok (.ifCond .eq 14, 3) := by decide +kernel
theorem dX11_missed_19 : decode cX11_missed 19 = .ok (.iload_n 3, 1) := by decide +kernel
theorem dX11_missed_20 : decode cX11_missed 20 = .ok (.iconst 0, 1) := by decide +kernel
theorem dX11_missed_21 : decode cX11_missed 21 = .ok (.sipush 30000, 3) := by decide +kernel
theorem dX11_missed_24 : decode cX11_missed 24 = .ok (.invokestatic 77, 3) := by decide +kernel
theorem dX11_missed_27 : decode cX11_missed 27 = .ok (.ifCond .ne 5, 3) := by decide +kernel
theorem dX11_missed_30 : decode cX11_missed 30 = .ok (.iconst (-1), 1) := by decide +kernel
theorem dX11_missed_31 : decode cX11_missed 31 = .ok (.ireturn, 1) := by decide +kernel
theorem dX11_missed_32 : decode cX11_missed 32 = .ok (.aload_n 0, 1) := by decide +kernel
theorem dX11_missed_33 : decode cX11_missed 33 = .ok (.getfield 19, 3) := by decide +kernel
theorem dX11_missed_36 : decode cX11_missed 36 = .ok (.iload_n 2, 1) := by decide +kernel
theorem dX11_missed_37 : decode cX11_missed 37 = .ok (.invokevirtual 174, 3) := by decide +kernel
theorem dX11_missed_40 : decode cX11_missed 40 = .ok (.aload_n 0, 1) := by decide +kernel
theorem dX11_missed_41 : decode cX11_missed 41 = .ok (.getfield 72, 3) := by decide +kernel
theorem dX11_missed_44 : decode cX11_missed 44 = .ok (.istore 5, 2) := by decide +kernel
theorem dX11_missed_46 : decode cX11_missed 46 = .ok (.iload 5, 2) := by decide +kernel
theorem dX11_missed_48 : decode cX11_missed 48 = .ok (.bipush 99, 2) := by decide +kernel
theorem dX11_missed_50 : decode cX11_missed 50 = .ok (.if_icmp .gt 39, 3) := by decide +kernel
theorem dX11_missed_53 : decode cX11_missed 53 = .ok (.aload_n 0, 1) := by decide +kernel
theorem dX11_missed_54 : decode cX11_missed 54 = .ok (.aload 4, 2) := by decide +kernel
theorem dX11_missed_56 : decode cX11_missed 56 = .ok (.iload 5, 2) := by decide +kernel
theorem dX11_missed_58 : decode cX11_missed 58 = .ok (.invokevirtual 238, 3) := by decide +kernel
theorem dX11_missed_61 : decode cX11_missed 61 = .ok (.aload_n 0, 1) := by decide +kernel
theorem dX11_missed_62 : decode cX11_missed 62 = .ok (.getfield 19, 3) := by decide +kernel
theorem dX11_missed_65 : decode cX11_missed 65 = .ok (.aload_n 0, 1) := by decide +kernel
theorem dX11_missed_66 : decode cX11_missed 66 = .ok (.getfield 35, 3) := by decide +kernel
theorem dX11_missed_69 : decode cX11_missed 69 = .ok (.aload_n 0, 1) := by decide +kernel
theorem dX11_missed_70 : decode cX11_missed 70 = .ok (.getfield 44, 3) := by decide +kernel
theorem dX11_missed_73 : decode cX11_missed 73 = .ok (.invokevirtual 242, 3) := by decide +kernel
theorem dX11_missed_76 : decode cX11_missed 76 = .ok (.iload_n 3, 1) := by decide +kernel
theorem dX11_missed_77 : decode cX11_missed 77 = .ok (.if_icmp .le 6, 3) := by decide +kernel
theorem dX11_missed_80 : decode cX11_missed 80 = .ok (.iload 5, 2) := by decide +kernel
theorem dX11_missed_82 : decode cX11_missed 82 = .ok (.ireturn, 1) := by decide +kernel
theorem dX11_missed_83 : decode cX11_missed 83 = .ok (.iinc 5 1, 3) := by decide +kernel
theorem dX11_missed_86 : decode cX11_missed 86 = .ok (.goto (-40), 3) := by decide +kernel
theorem dX11_missed_89 : decode cX11_missed 89 = .ok (.bipush (-2), 2) := by decide +kernel
theorem dX11_missed_91 : decode cX11_missed 91 = .ok (.ireturn, 1) := by decide +kernel
theorem dX11_tone_0 : decode cX11_tone 0 = .ok (.iload_n 1, 1) := by decide +kernel
theorem dX11_tone_1 : decode cX11_tone 1 = .ok (.invokestatic 182, 3) := by decide +kernel
theorem dX11_tone_4 : decode cX11_tone 4 = .ok (.ifCond .eq 17, 3) := by decide +kernel
theorem dX11_tone_7 : decode cX11_tone 7 = .ok (.iload_n 2, 1) := by decide +kernel
theorem dX11_tone_8 : decode cX11_tone 8 = .ok (.invokestatic 182, 3) := by decide +kernel
theorem dX11_tone_11 : decode cX11_tone 11 = .ok (.ifCond .eq 10, 3) := by decide +kernel
theorem dX11_tone_14 : decode cX11_tone 14 = .ok (.iload_n 3, 1) := by decide +kernel
theorem dX11_tone_15 : decode cX11_tone 15 = .ok (.invokestatic 182, 3) := by decide +kernel
theorem dX11_tone_18 : decode cX11_tone 18 = .ok (.ifCond .ne 5, 3) := by decide +kernel
theorem dX11_tone_21 : decode cX11_tone 21 = .ok (.iconst (-1), 1) := by decide +kernel
theorem dX11_tone_22 : decode cX11_tone 22 = .ok (.ireturn, 1) := by decide +kernel
theorem dX11_tone_23 : decode cX11_tone 23 = .ok (.aload_n 0, 1) := by decide +kernel
theorem dX11_tone_24 : decode cX11_tone 24 = .ok (.getfield 35, 3) := by decide +kernel
theorem dX11_tone_27 : decode cX11_tone 27 = .ok (.iconst 0, 1) := by decide +kernel
theorem dX11_tone_28 : decode cX11_tone 28 = .ok (.iload_n 1, 1) := by decide +kernel
theorem dX11_tone_29 : decode cX11_tone 29 = .ok (.iastore, 1) := by decide +kernel
theorem dX11_tone_30 : decode cX11_tone 30 = .ok (.aload_n 0, 1) := by decide +kernel
theorem dX11_tone_31 : decode cX11_tone 31 = .ok (.getfield 35, 3) := by decide +kernel
theorem dX11_tone_34 : decode cX11_tone 34 = .ok (.iconst 1, 1) := by decide +kernel
theorem dX11_tone_35 : decode cX11_tone 35 = .ok (.iload_n 2, 1) := by decide +kernel
theorem dX11_tone_36 : decode cX11_tone 36 = .ok (.iastore, 1) := by decide +kernel
theorem dX11_tone_37 : decode cX11_tone 37 = .ok (.aload_n 0, 1) := by decide +kernel
theorem dX11_tone_38 : decode cX11_tone 38 = .ok (.getfield 35, 3) := by decide +kernel
theorem dX11_tone_41 : decode cX11_tone 41 = .ok (.iconst 2, 1) := by decide +kernel
theorem dX11_tone_42 : decode cX11_tone 42 = .ok (.iload_n 3, 1) := by decide +kernel
theorem dX11_tone_43 : decode cX11_tone 43 = .ok (.iastore, 1) := by decide +kernel
theorem dX11_tone_44 : decode cX11_tone 44 = .ok (.iconst 1, 1) := by decide +kernel
theorem dX11_tone_45 : decode cX11_tone 45 = .ok (.ireturn, 1) := by decide +kernel
theorem dX11_apart_0 : decode cX11_apart 0 = .ok (.aload_n 0, 1) := by decide +kernel
theorem dX11_apart_1 : decode cX11_apart 1 = .ok (.iload_n 1, 1) := by decide +kernel
theorem dX11_apart_2 : decode cX11_apart 2 = .ok (.invokevirtual 213, 3) := by decide +kernel
theorem dX11_apart_5 : decode cX11_apart 5 = .ok (.astore_n 3, 1) := by decide +kernel
theorem dX11_apart_6 : decode cX11_apart 6 = .ok (.aload_n 3, 1) := by decide +kernel
theorem dX11_apart_7 : decode cX11_apart 7 = .ok (.ifnull 10, 3) := by decide +kernel
theorem dX11_apart_10 : decode cX11_apart 10 = .ok (.iload_n 2, 1) := by decide +kernel
theorem dX11_apart_11 : decode cX11_apart 11 = .ok (.invokestatic 131, 3) := by decide +kernel
theorem dX11_apart_14 : decode cX11_apart 14 = .ok (.ifCond .ne 5, 3) := by decide +kernel
theorem dX11_apart_17 : decode cX11_apart 17 = .ok (.iconst (-1), 1) := by decide +kernel
theorem dX11_apart_18 : decode cX11_apart 18 = .ok (.ireturn, 1) := by decide +kernel
theorem dX11_apart_19 : decode cX11_apart 19 = .ok (.aload_n 0, 1) := by decide +kernel
theorem dX11_apart_20 : decode cX11_apart 20 = .ok (.getfield 19, 3) := by decide +kernel
theorem dX11_apart_23 : decode cX11_apart 23 = .ok (.iload_n 2, 1) := by decide +kernel
theorem dX11_apart_24 : decode cX11_apart 24 = .ok (.invokevirtual 174, 3) := by decide +kernel
theorem dX11_apart_27 : decode cX11_apart 27 = .ok (.aload_n 0, 1) := by decide +kernel
theorem dX11_apart_28 : decode cX11_apart 28 = .ok (.aload_n 3, 1) := by decide +kernel
theorem dX11_apart_29 : decode cX11_apart 29 = .ok (.aload_n 0, 1) := by decide +kernel
theorem dX11_apart_30 : decode cX11_apart 30 = .ok (.getfield 72, 3) := by decide +kernel
theorem dX11_apart_33 : decode cX11_apart 33 = .ok (.invokevirtual 238, 3) := by decide +kernel
theorem dX11_apart_36 : decode cX11_apart 36 = .ok (.aload_n 0, 1) := by decide +kernel
theorem dX11_apart_37 : decode cX11_apart 37 = .ok (.getfield 19, 3) := by decide +kernel
theorem dX11_apart_40 : decode cX11_apart 40 = .ok (.aload_n 0, 1) := by decide +kernel
theorem dX11_apart_41 : decode cX11_apart 41 = .ok (.getfield 35, 3) := by decide +kernel
theorem dX11_apart_44 : decode cX11_apart 44 = .ok (.aload_n 0, 1) := by decide +kernel
theorem dX11_apart_45 : decode cX11_apart 45 = .ok (.getfield 44, 3) := by decide +kernel
theorem dX11_apart_48 : decode cX11_apart 48 = .ok (.invokevirtual 242, 3) := by decide +kernel
theorem dX11_apart_51 : decode cX11_apart 51 = .ok (.ireturn, 1) := by decide +kernel
theorem dX11_match_0 : decode cX11_match 0 = .ok (.iload_n 1, 1) := by decide +kernel
theorem dX11_match_1 : decode cX11_match 1 = .ok (.invokestatic 131, 3) := by decide +kernel
theorem dX11_match_4 : decode cX11_match 4 = .ok (.ifCond .eq 24, 3) := by decide +kernel
theorem dX11_match_7 : decode cX11_match 7 = .ok (.aload_n 0, 1) := by decide +kernel
theorem dX11_match_8 : decode cX11_match 8 = .ok (.getfield 12, 3) := by decide +kernel
theorem dX11_match_11 : decode cX11_match 11 = .ok (.iload_n 2, 1) := by decide +kernel
theorem dX11_match_12 : decode cX11_match 12 = .ok (.invokevirtual 246, 3) := by decide +kernel
theorem dX11_match_15 : decode cX11_match 15 = .ok (.ifCond .eq 13, 3) := by decide +kernel
theorem dX11_match_18 : decode cX11_match 18 = .ok (.iload_n 3, 1) := by decide +kernel
theorem dX11_match_19 : decode cX11_match 19 = .ok (.iconst 1, 1) := by decide +kernel
theorem dX11_match_20 : decode cX11_match 20 = .ok (.bipush 8, 2) := by decide +kernel
theorem dX11_match_22 : decode cX11_match 22 = .ok (.invokestatic 77, 3) := by decide +kernel
theorem dX11_match_25 : decode cX11_match 25 = .ok (.ifCond .ne 5, 3) := by decide +kernel
theorem dX11_match_28 : decode cX11_match 28 = .ok (.iconst (-1), 1) := by decide +kernel
theorem dX11_match_29 : decode cX11_match 29 = .ok (.ireturn, 1) := by decide +kernel
theorem dX11_match_30 : decode cX11_match 30 = .ok (.aload_n 0, 1) := by decide +kernel
theorem dX11_match_31 : decode cX11_match 31 = .ok (.getfield 19, 3) := by decide +kernel
theorem dX11_match_34 : decode cX11_match 34 = .ok (.iload_n 1, 1) := by decide +kernel
theorem dX11_match_35 : decode cX11_match 35 = .ok (.invokevirtual 174, 3) := by decide +kernel
theorem dX11_match_38 : decode cX11_match 38 = .ok (.aload_n 0, 1) := by decide +kernel
theorem dX11_match_39 : decode cX11_match 39 = .ok (.getfield 50, 3) := by decide +kernel
theorem dX11_match_42 : decode cX11_match 42 = .ok (.aload_n 0, 1) := by decide +kernel
theorem dX11_match_43 : decode cX11_match 43 = .ok (.getfield 12, 3) := by decide +kernel
theorem dX11_match_46 : decode cX11_match 46 = .ok (.aload_n 0, 1) := by decide +kernel
theorem dX11_match_47 : decode cX11_match 47 = .ok (.getfield 19, 3) := by decide +kernel
theorem dX11_match_50 : decode cX11_match 50 = .ok (.aload_n 0, 1) := by decide +kernel
theorem dX11_match_51 : decode cX11_match 51 = .ok (.getfield 35, 3) := by decide +kernel
theorem dX11_match_54 : decode cX11_match 54 = .ok (.iload_n 2, 1) := by decide +kernel
theorem dX11_match_55 : decode cX11_match 55 = .ok (.iload_n 3, 1) := by decide +kernel
theorem dX11_match_56 : decode cX11_match 56 = .ok (.invokevirtual 249, 3) := by decide +kernel
theorem dX11_match_59 : decode cX11_match 59 = .ok (.ireturn, 1) := by decide +kernel
theorem dX11_matched_0 : decode cX11_matched 0 = .ok (.aload_n 0, 1) := by decide +kernel
theorem dX11_matched_1 : decode cX11_matched 1 = .ok (.getfield 12, 3) := by decide +kernel
theorem dX11_matched_4 : decode cX11_matched 4 = .ok (.iload_n 1, 1) := by decide +kernel
theorem dX11_matched_5 : decode cX11_matched 5 = .ok (.invokevirtual 94, 3) := by decide +kernel
theorem dX11_matched_8 : decode cX11_matched 8 = .ok (.ifnull 13, 3) := by decide +kernel
theorem dX11_matched_11 : decode cX11_matched 11 = .ok (.aload_n 0, 1) := by decide +kernel
theorem dX11_matched_12 : decode cX11_matched 12 = .ok (.getfield 50, 3) := by decide +kernel
theorem dX11_matched_15 : decode cX11_matched 15 = .ok (.getfield 253, 3) := by decide +kernel
theorem dX11_matched_18 : decode cX11_matched 18 = .ok (.ifCond .ne 7, 3) := by decide +kernel
theorem dX11_matched_21 : decode cX11_matched 21 = .ok (.iconst (-1), 1) := by decide +kernel
theorem dX11_matched_22 : decode cX11_matched 22 = .ok (.goto 11, 3) := by decide +kernel
theorem dX11_matched_25 : decode cX11_matched 25 = .ok (.aload_n 0, 1) := by decide +kernel
theorem dX11_matched_26 : decode cX11_matched 26 = .ok (.getfield 50, 3) := by decide +kernel
theorem dX11_matched_29 : decode cX11_matched 29 = .ok (.iload_n 1, 1) := by decide +kernel
theorem dX11_matched_30 : decode cX11_matched 30 = .ok (.invokevirtual 257, 3) := by decide +kernel
theorem dX11_matched_33 : decode cX11_matched 33 = .ok (.ireturn, 1) := by decide +kernel
theorem dX11_price_0 : decode cX11_price 0 = .ok (.aload_n 0, 1) := by decide +kernel
theorem dX11_price_1 : decode cX11_price 1 = .ok (.getfield 50, 3) := by decide +kernel
theorem dX11_price_4 : decode cX11_price 4 = .ok (.getfield 253, 3) := by decide +kernel
theorem dX11_price_7 : decode cX11_price 7 = .ok (.ifCond .eq 13, 3) := by decide +kernel
theorem dX11_price_10 : decode cX11_price 10 = .ok (.aload_n 0, 1) := by decide +kernel
theorem dX11_price_11 : decode cX11_price 11 = .ok (.getfield 50, 3) := by decide +kernel
theorem dX11_price_14 : decode cX11_price 14 = .ok (.getfield 260, 3) := by decide +kernel
theorem dX11_price_17 : decode cX11_price 17 = .ok (.goto 4, 3) := by decide +kernel
theorem dX11_price_20 : decode cX11_price 20 = .ok (.iconst (-1), 1) := by decide +kernel
theorem dX11_price_21 : decode cX11_price 21 = .ok (.ireturn, 1) := by decide +kernel
theorem dX11_glaze_0 : decode cX11_glaze 0 = .ok (.iload_n 1, 1) := by decide +kernel
theorem dX11_glaze_1 : decode cX11_glaze 1 = .ok (.invokestatic 131, 3) := by decide +kernel
theorem dX11_glaze_4 : decode cX11_glaze 4 = .ok (.ifCond .eq 21, 3) := by decide +kernel
theorem dX11_glaze_7 : decode cX11_glaze 7 = .ok (.aload_n 0, 1) := by decide +kernel
theorem dX11_glaze_8 : decode cX11_glaze 8 = .ok (.getfield 12, 3) := by decide +kernel
theorem dX11_glaze_11 : decode cX11_glaze 11 = .ok (.iload_n 2, 1) := by decide +kernel
theorem dX11_glaze_12 : decode cX11_glaze 12 = .ok (.invokevirtual 246, 3) := by decide +kernel
theorem dX11_glaze_15 : decode cX11_glaze 15 = .ok (.ifCond .eq 10, 3) := by decide +kernel
theorem dX11_glaze_18 : decode cX11_glaze 18 = .ok (.iload_n 3, 1) := by decide +kernel
theorem dX11_glaze_19 : decode cX11_glaze 19 = .ok (.invokestatic 182, 3) := by decide +kernel
theorem dX11_glaze_22 : decode cX11_glaze 22 = .ok (.ifCond .ne 5, 3) := by decide +kernel
theorem dX11_glaze_25 : decode cX11_glaze 25 = .ok (.iconst (-1), 1) := by decide +kernel
theorem dX11_glaze_26 : decode cX11_glaze 26 = .ok (.ireturn, 1) := by decide +kernel
theorem dX11_glaze_27 : decode cX11_glaze 27 = .ok (.aload_n 0, 1) := by decide +kernel
theorem dX11_glaze_28 : decode cX11_glaze 28 = .ok (.getfield 19, 3) := by decide +kernel
theorem dX11_glaze_31 : decode cX11_glaze 31 = .ok (.iload_n 1, 1) := by decide +kernel
theorem dX11_glaze_32 : decode cX11_glaze 32 = .ok (.invokevirtual 174, 3) := by decide +kernel
theorem dX11_glaze_35 : decode cX11_glaze 35 = .ok (.aload_n 0, 1) := by decide +kernel
theorem dX11_glaze_36 : decode cX11_glaze 36 = .ok (.getfield 64, 3) := by decide +kernel
theorem dX11_glaze_39 : decode cX11_glaze 39 = .ok (.aload_n 0, 1) := by decide +kernel
theorem dX11_glaze_40 : decode cX11_glaze 40 = .ok (.getfield 12, 3) := by decide +kernel
theorem dX11_glaze_43 : decode cX11_glaze 43 = .ok (.aload_n 0, 1) := by decide +kernel
theorem dX11_glaze_44 : decode cX11_glaze 44 = .ok (.getfield 19, 3) := by decide +kernel
theorem dX11_glaze_47 : decode cX11_glaze 47 = .ok (.aload_n 0, 1) := by decide +kernel
theorem dX11_glaze_48 : decode cX11_glaze 48 = .ok (.getfield 35, 3) := by decide +kernel
theorem dX11_glaze_51 : decode cX11_glaze 51 = .ok (.iload_n 2, 1) := by decide +kernel
theorem dX11_glaze_52 : decode cX11_glaze 52 = .ok (.iload_n 3, 1) := by decide +kernel
theorem dX11_glaze_53 : decode cX11_glaze 53 = .ok (.invokevirtual 263, 3) := by decide +kernel
theorem dX11_glaze_56 : decode cX11_glaze 56 = .ok (.ireturn, 1) := by decide +kernel
theorem dX11_glazed_0 : decode cX11_glazed 0 = .ok (.iload_n 1, 1) := by decide +kernel
theorem dX11_glazed_1 : decode cX11_glazed 1 = .ok (.iconst 0, 1) := by decide +kernel
theorem dX11_glazed_2 : decode cX11_glazed 2 = .ok (.aload_n 0, 1) := by decide +kernel
theorem dX11_glazed_3 : decode cX11_glazed 3 = .ok (.getfield 64, 3) := by decide +kernel
theorem dX11_glazed_6 : decode cX11_glazed 6 = .ok (.getfield 264, 3) := by decide +kernel
theorem dX11_glazed_9 : decode cX11_glazed 9 = .ok (.iconst 1, 1) := by decide +kernel
theorem dX11_glazed_10 : decode cX11_glazed 10 = .ok (.isub, 1) := by decide +kernel
theorem dX11_glazed_11 : decode cX11_glazed 11 = .ok (.invokestatic 77, 3) := by decide +kernel
theorem dX11_glazed_14 : decode cX11_glazed 14 = .ok (.ifCond .eq 14, 3) := by decide +kernel
theorem dX11_glazed_17 : decode cX11_glazed 17 = .ok (.aload_n 0, 1) := by decide +kernel
theorem dX11_glazed_18 : decode cX11_glazed 18 = .ok (.getfield 64, 3) := by decide +kernel
theorem dX11_glazed_21 : decode cX11_glazed 21 = .ok (.iload_n 1, 1) := by decide +kernel
theorem dX11_glazed_22 : decode cX11_glazed 22 = .ok (.invokevirtual 267, 3) := by decide +kernel
theorem dX11_glazed_25 : decode cX11_glazed 25 = .ok (.goto 4, 3) := by decide +kernel
theorem dX11_glazed_28 : decode cX11_glazed 28 = .ok (.iconst (-1), 1) := by decide +kernel
theorem dX11_glazed_29 : decode cX11_glazed 29 = .ok (.ireturn, 1) := by decide +kernel
theorem dX11_keep_0 : decode cX11_keep 0 = .ok (.aload_n 0, 1) := by decide +kernel
theorem dX11_keep_1 : decode cX11_keep 1 = .ok (.getfield 68, 3) := by decide +kernel
theorem dX11_keep_4 : decode cX11_keep 4 = .ok (.bipush 6, 2) := by decide +kernel
theorem dX11_keep_6 : decode cX11_keep 6 = .ok (.if_icmp .lt 6, 3) := by decide +kernel
theorem dX11_keep_9 : decode cX11_keep 9 = .ok (.bipush (-3), 2) := by decide +kernel
theorem dX11_keep_11 : decode cX11_keep 11 = .ok (.ireturn, 1) := by decide +kernel
theorem dX11_keep_12 : decode cX11_keep 12 = .ok (.iconst 0, 1) := by decide +kernel
theorem dX11_keep_13 : decode cX11_keep 13 = .ok (.istore_n 1, 1) := by decide +kernel
theorem dX11_keep_14 : decode cX11_keep 14 = .ok (.iload_n 1, 1) := by decide +kernel
theorem dX11_keep_15 : decode cX11_keep 15 = .ok (.iconst 3, 1) := by decide +kernel
theorem dX11_keep_16 : decode cX11_keep 16 = .ok (.if_icmp .ge 26, 3) := by decide +kernel
theorem dX11_keep_19 : decode cX11_keep 19 = .ok (.aload_n 0, 1) := by decide +kernel
theorem dX11_keep_20 : decode cX11_keep 20 = .ok (.getfield 41, 3) := by decide +kernel
theorem dX11_keep_23 : decode cX11_keep 23 = .ok (.aload_n 0, 1) := by decide +kernel
theorem dX11_keep_24 : decode cX11_keep 24 = .ok (.getfield 68, 3) := by decide +kernel
theorem dX11_keep_27 : decode cX11_keep 27 = .ok (.aaload, 1) := by decide +kernel
theorem dX11_keep_28 : decode cX11_keep 28 = .ok (.iload_n 1, 1) := by decide +kernel
theorem dX11_keep_29 : decode cX11_keep 29 = .ok (.aload_n 0, 1) := by decide +kernel
theorem dX11_keep_30 : decode cX11_keep 30 = .ok (.getfield 35, 3) := by decide +kernel
theorem dX11_keep_33 : decode cX11_keep 33 = .ok (.iload_n 1, 1) := by decide +kernel
theorem dX11_keep_34 : decode cX11_keep 34 = .ok (.iaload, 1) := by decide +kernel
theorem dX11_keep_35 : decode cX11_keep 35 = .ok (.iastore, 1) := by decide +kernel
theorem dX11_keep_36 : decode cX11_keep 36 = .ok (.iinc 1 1, 3) := by decide +kernel
theorem dX11_keep_39 : decode cX11_keep 39 = .ok (.goto (-25), 3) := by decide +kernel
theorem dX11_keep_42 : decode cX11_keep 42 = .ok (.aload_n 0, 1) := by decide +kernel
theorem dX11_keep_43 : decode cX11_keep 43 = .ok (.dup, 1) := by decide +kernel
theorem dX11_keep_44 : decode cX11_keep 44 = .ok (.getfield 68, 3) := by decide +kernel
theorem dX11_keep_47 : decode cX11_keep 47 = .ok (.iconst 1, 1) := by decide +kernel
theorem dX11_keep_48 : decode cX11_keep 48 = .ok (.iadd, 1) := by decide +kernel
theorem dX11_keep_49 : decode cX11_keep 49 = .ok (.putfield 68, 3) := by decide +kernel
theorem dX11_keep_52 : decode cX11_keep 52 = .ok (.aload_n 0, 1) := by decide +kernel
theorem dX11_keep_53 : decode cX11_keep 53 = .ok (.getfield 68, 3) := by decide +kernel
theorem dX11_keep_56 : decode cX11_keep 56 = .ok (.ireturn, 1) := by decide +kernel
theorem dX11_clear_0 : decode cX11_clear 0 = .ok (.aload_n 0, 1) := by decide +kernel
theorem dX11_clear_1 : decode cX11_clear 1 = .ok (.getfield 68, 3) := by decide +kernel
theorem dX11_clear_4 : decode cX11_clear 4 = .ok (.istore_n 1, 1) := by decide +kernel
theorem dX11_clear_5 : decode cX11_clear 5 = .ok (.aload_n 0, 1) := by decide +kernel
theorem dX11_clear_6 : decode cX11_clear 6 = .ok (.iconst 0, 1) := by decide +kernel
theorem dX11_clear_7 : decode cX11_clear 7 = .ok (.putfield 68, 3) := by decide +kernel
theorem dX11_clear_10 : decode cX11_clear 10 = .ok (.iload_n 1, 1) := by decide +kernel
theorem dX11_clear_11 : decode cX11_clear 11 = .ok (.ireturn, 1) := by decide +kernel
theorem dX11_fewest_0 : decode cX11_fewest 0 = .ok (.iload_n 1, 1) := by decide +kernel
theorem dX11_fewest_1 : decode cX11_fewest 1 = .ok (.invokestatic 131, 3) := by decide +kernel
theorem dX11_fewest_4 : decode cX11_fewest 4 = .ok (.ifCond .eq 24, 3) := by decide +kernel
theorem dX11_fewest_7 : decode cX11_fewest 7 = .ok (.iload_n 2, 1) := by decide +kernel
theorem dX11_fewest_8 : decode cX11_fewest 8 = .ok (.iconst 1, 1) := by decide +kernel
theorem dX11_fewest_9 : decode cX11_fewest 9 = .ok (.bipush 6, 2) := by decide +kernel
theorem dX11_fewest_11 : decode cX11_fewest 11 = .ok (.invokestatic 77, 3) := by decide +kernel
theorem dX11_fewest_14 : decode cX11_fewest 14 = .ok (.ifCond .eq 14, 3) := by decide +kernel
theorem dX11_fewest_17 : decode cX11_fewest 17 = .ok (.iload_n 3, 1) := by decide +kernel
theorem dX11_fewest_18 : decode cX11_fewest 18 = .ok (.iconst 0, 1) := by decide +kernel
theorem dX11_fewest_19 : decode cX11_fewest 19 = .ok (.sipush 30000, 3) := by decide +kernel
theorem dX11_fewest_22 : decode cX11_fewest 22 = .ok (.invokestatic 77, 3) := by decide +kernel
theorem dX11_fewest_25 : decode cX11_fewest 25 = .ok (.ifCond .ne 5, 3) := by decide +kernel
theorem dX11_fewest_28 : decode cX11_fewest 28 = .ok (.iconst (-1), 1) := by decide +kernel
theorem dX11_fewest_29 : decode cX11_fewest 29 = .ok (.ireturn, 1) := by decide +kernel
theorem dX11_fewest_30 : decode cX11_fewest 30 = .ok (.aload_n 0, 1) := by decide +kernel
theorem dX11_fewest_31 : decode cX11_fewest 31 = .ok (.getfield 68, 3) := by decide +kernel
theorem dX11_fewest_34 : decode cX11_fewest 34 = .ok (.ifCond .eq 13, 3) := by decide +kernel
theorem dX11_fewest_37 : decode cX11_fewest 37 = .ok (.aload_n 0, 1) := by decide +kernel
theorem dX11_fewest_38 : decode cX11_fewest 38 = .ok (.getfield 12, 3) := by decide +kernel
theorem dX11_fewest_41 : decode cX11_fewest 41 = .ok (.getfield 270, 3) := by decide +kernel
theorem dX11_fewest_44 : decode cX11_fewest 44 = .ok (.ifCond .ne 6, 3) := by decide +kernel
theorem dX11_fewest_47 : decode cX11_fewest 47 = .ok (.bipush (-2), 2) := by decide +kernel
theorem dX11_fewest_49 : decode cX11_fewest 49 = .ok (.ireturn, 1) := by decide +kernel
theorem dX11_fewest_50 : decode cX11_fewest 50 = .ok (.aload_n 0, 1) := by decide +kernel
theorem dX11_fewest_51 : decode cX11_fewest 51 = .ok (.getfield 19, 3) := by decide +kernel
theorem dX11_fewest_54 : decode cX11_fewest 54 = .ok (.iload_n 1, 1) := by decide +kernel
theorem dX11_fewest_55 : decode cX11_fewest 55 = .ok (.invokevirtual 174, 3) := by decide +kernel
theorem dX11_fewest_58 : decode cX11_fewest 58 = .ok (.aload_n 0, 1) := by decide +kernel
theorem dX11_fewest_59 : decode cX11_fewest 59 = .ok (.getfield 57, 3) := by decide +kernel
theorem dX11_fewest_62 : decode cX11_fewest 62 = .ok (.aload_n 0, 1) := by decide +kernel
theorem dX11_fewest_63 : decode cX11_fewest 63 = .ok (.getfield 41, 3) := by decide +kernel
theorem dX11_fewest_66 : decode cX11_fewest 66 = .ok (.aload_n 0, 1) := by decide +kernel
theorem dX11_fewest_67 : decode cX11_fewest 67 = .ok (.getfield 68, 3) := by decide +kernel
theorem dX11_fewest_70 : decode cX11_fewest 70 = .ok (.iload_n 3, 1) := by decide +kernel
theorem dX11_fewest_71 : decode cX11_fewest 71 = .ok (.invokevirtual 271, 3) := by decide +kernel
theorem dX11_fewest_74 : decode cX11_fewest 74 = .ok (.aload_n 0, 1) := by decide +kernel
theorem dX11_fewest_75 : decode cX11_fewest 75 = .ok (.getfield 57, 3) := by decide +kernel
theorem dX11_fewest_78 : decode cX11_fewest 78 = .ok (.aload_n 0, 1) := by decide +kernel
theorem dX11_fewest_79 : decode cX11_fewest 79 = .ok (.getfield 12, 3) := by decide +kernel
theorem dX11_fewest_82 : decode cX11_fewest 82 = .ok (.aload_n 0, 1) := by decide +kernel
theorem dX11_fewest_83 : decode cX11_fewest 83 = .ok (.getfield 19, 3) := by decide +kernel
theorem dX11_fewest_86 : decode cX11_fewest 86 = .ok (.iload_n 2, 1) := by decide +kernel
theorem dX11_fewest_87 : decode cX11_fewest 87 = .ok (.invokevirtual 275, 3) := by decide +kernel
theorem dX11_fewest_90 : decode cX11_fewest 90 = .ok (.ireturn, 1) := by decide +kernel
theorem dX11_count_0 : decode cX11_count 0 = .ok (.iload_n 1, 1) := by decide +kernel
theorem dX11_count_1 : decode cX11_count 1 = .ok (.tableswitch 99 0 7 #[47, 55, 60, 65, 70, 78, 86, 94], 47) := by decide +kernel
theorem dX11_count_48 : decode cX11_count 48 = .ok (.aload_n 0, 1) := by decide +kernel
theorem dX11_count_49 : decode cX11_count 49 = .ok (.getfield 12, 3) := by decide +kernel
theorem dX11_count_52 : decode cX11_count 52 = .ok (.getfield 270, 3) := by decide +kernel
theorem dX11_count_55 : decode cX11_count 55 = .ok (.ireturn, 1) := by decide +kernel
theorem dX11_count_56 : decode cX11_count 56 = .ok (.aload_n 0, 1) := by decide +kernel
theorem dX11_count_57 : decode cX11_count 57 = .ok (.getfield 72, 3) := by decide +kernel
theorem dX11_count_60 : decode cX11_count 60 = .ok (.ireturn, 1) := by decide +kernel
theorem dX11_count_61 : decode cX11_count 61 = .ok (.aload_n 0, 1) := by decide +kernel
theorem dX11_count_62 : decode cX11_count 62 = .ok (.getfield 68, 3) := by decide +kernel
theorem dX11_count_65 : decode cX11_count 65 = .ok (.ireturn, 1) := by decide +kernel
theorem dX11_count_66 : decode cX11_count 66 = .ok (.aload_n 0, 1) := by decide +kernel
theorem dX11_count_67 : decode cX11_count 67 = .ok (.invokevirtual 279, 3) := by decide +kernel
theorem dX11_count_70 : decode cX11_count 70 = .ok (.ireturn, 1) := by decide +kernel
theorem dX11_count_71 : decode cX11_count 71 = .ok (.aload_n 0, 1) := by decide +kernel
theorem dX11_count_72 : decode cX11_count 72 = .ok (.getfield 12, 3) := by decide +kernel
theorem dX11_count_75 : decode cX11_count 75 = .ok (.invokevirtual 283, 3) := by decide +kernel
theorem dX11_count_78 : decode cX11_count 78 = .ok (.ireturn, 1) := by decide +kernel
theorem dX11_count_79 : decode cX11_count 79 = .ok (.aload_n 0, 1) := by decide +kernel
theorem dX11_count_80 : decode cX11_count 80 = .ok (.getfield 12, 3) := by decide +kernel
theorem dX11_count_83 : decode cX11_count 83 = .ok (.invokevirtual 286, 3) := by decide +kernel
theorem dX11_count_86 : decode cX11_count 86 = .ok (.ireturn, 1) := by decide +kernel
theorem dX11_count_87 : decode cX11_count 87 = .ok (.aload_n 0, 1) := by decide +kernel
theorem dX11_count_88 : decode cX11_count 88 = .ok (.getfield 12, 3) := by decide +kernel
theorem dX11_count_91 : decode cX11_count 91 = .ok (.invokevirtual 289, 3) := by decide +kernel
theorem dX11_count_94 : decode cX11_count 94 = .ok (.ireturn, 1) := by decide +kernel
theorem dX11_count_95 : decode cX11_count 95 = .ok (.aload_n 0, 1) := by decide +kernel
theorem dX11_count_96 : decode cX11_count 96 = .ok (.invokevirtual 292, 3) := by decide +kernel
theorem dX11_count_99 : decode cX11_count 99 = .ok (.ireturn, 1) := by decide +kernel
theorem dX11_count_100 : decode cX11_count 100 = .ok (.iconst (-1), 1) := by decide +kernel
theorem dX11_count_101 : decode cX11_count 101 = .ok (.ireturn, 1) := by decide +kernel
theorem dX11_between_0 : decode cX11_between 0 = .ok (.iload_n 0, 1) := by decide +kernel
theorem dX11_between_1 : decode cX11_between 1 = .ok (.iload_n 1, 1) := by decide +kernel
theorem dX11_between_2 : decode cX11_between 2 = .ok (.if_icmp .lt 12, 3) := by decide +kernel
theorem dX11_between_5 : decode cX11_between 5 = .ok (.iload_n 0, 1) := by decide +kernel
theorem dX11_between_6 : decode cX11_between 6 = .ok (.iload_n 2, 1) := by decide +kernel
theorem dX11_between_7 : decode cX11_between 7 = .ok (.if_icmp .gt 7, 3) := by decide +kernel
theorem dX11_between_10 : decode cX11_between 10 = .ok (.iconst 1, 1) := by decide +kernel
theorem dX11_between_11 : decode cX11_between 11 = .ok (.goto 4, 3) := by decide +kernel
theorem dX11_between_14 : decode cX11_between 14 = .ok (.iconst 0, 1) := by decide +kernel
theorem dX11_between_15 : decode cX11_between 15 = .ok (.ireturn, 1) := by decide +kernel
theorem dX11_isBand_0 : decode cX11_isBand 0 = .ok (.iload_n 0, 1) := by decide +kernel
theorem dX11_isBand_1 : decode cX11_isBand 1 = .ok (.iconst 0, 1) := by decide +kernel
theorem dX11_isBand_2 : decode cX11_isBand 2 = .ok (.bipush 7, 2) := by decide +kernel
theorem dX11_isBand_4 : decode cX11_isBand 4 = .ok (.invokestatic 77, 3) := by decide +kernel
theorem dX11_isBand_7 : decode cX11_isBand 7 = .ok (.ireturn, 1) := by decide +kernel
theorem dX11_isLamp_0 : decode cX11_isLamp 0 = .ok (.iload_n 0, 1) := by decide +kernel
theorem dX11_isLamp_1 : decode cX11_isLamp 1 = .ok (.iconst 0, 1) := by decide +kernel
theorem dX11_isLamp_2 : decode cX11_isLamp 2 = .ok (.iconst 3, 1) := by decide +kernel
theorem dX11_isLamp_3 : decode cX11_isLamp 3 = .ok (.invokestatic 77, 3) := by decide +kernel
theorem dX11_isLamp_6 : decode cX11_isLamp 6 = .ok (.ireturn, 1) := by decide +kernel
theorem dX11_isSight_0 : decode cX11_isSight 0 = .ok (.iload_n 0, 1) := by decide +kernel
theorem dX11_isSight_1 : decode cX11_isSight 1 = .ok (.iconst 0, 1) := by decide +kernel
theorem dX11_isSight_2 : decode cX11_isSight 2 = .ok (.iconst 2, 1) := by decide +kernel
theorem dX11_isSight_3 : decode cX11_isSight 3 = .ok (.invokestatic 77, 3) := by decide +kernel
theorem dX11_isSight_6 : decode cX11_isSight 6 = .ok (.ireturn, 1) := by decide +kernel
theorem dX11_isShare_0 : decode cX11_isShare 0 = .ok (.iload_n 0, 1) := by decide +kernel
theorem dX11_isShare_1 : decode cX11_isShare 1 = .ok (.iconst 0, 1) := by decide +kernel
theorem dX11_isShare_2 : decode cX11_isShare 2 = .ok (.sipush 10000, 3) := by decide +kernel
theorem dX11_isShare_5 : decode cX11_isShare 5 = .ok (.invokestatic 77, 3) := by decide +kernel
theorem dX11_isShare_8 : decode cX11_isShare 8 = .ok (.ireturn, 1) := by decide +kernel
theorem dX11_replace_0 : decode cX11_replace 0 = .ok (.aload_n 0, 1) := by decide +kernel
theorem dX11_replace_1 : decode cX11_replace 1 = .ok (.iload_n 1, 1) := by decide +kernel
theorem dX11_replace_2 : decode cX11_replace 2 = .ok (.iaload, 1) := by decide +kernel
theorem dX11_replace_3 : decode cX11_replace 3 = .ok (.istore_n 3, 1) := by decide +kernel
theorem dX11_replace_4 : decode cX11_replace 4 = .ok (.aload_n 0, 1) := by decide +kernel
theorem dX11_replace_5 : decode cX11_replace 5 = .ok (.iload_n 1, 1) := by decide +kernel
theorem dX11_replace_6 : decode cX11_replace 6 = .ok (.iload_n 2, 1) := by decide +kernel
theorem dX11_replace_7 : decode cX11_replace 7 = .ok (.iastore, 1) := by decide +kernel
theorem dX11_replace_8 : decode cX11_replace 8 = .ok (.iload_n 3, 1) := by decide +kernel
theorem dX11_replace_9 : decode cX11_replace 9 = .ok (.ireturn, 1) := by decide +kernel
theorem dX11_potAt_0 : decode cX11_potAt 0 = .ok (.iload_n 1, 1) := by decide +kernel
theorem dX11_potAt_1 : decode cX11_potAt 1 = .ok (.iconst 0, 1) := by decide +kernel
theorem dX11_potAt_2 : decode cX11_potAt 2 = .ok (.bipush 9, 2) := by decide +kernel
theorem dX11_potAt_4 : decode cX11_potAt 4 = .ok (.invokestatic 77, 3) := by decide +kernel
theorem dX11_potAt_7 : decode cX11_potAt 7 = .ok (.ifCond .eq 12, 3) := by decide +kernel
theorem dX11_potAt_10 : decode cX11_potAt 10 = .ok (.aload_n 0, 1) := by decide +kernel
theorem dX11_potAt_11 : decode cX11_potAt 11 = .ok (.getfield 25, 3) := by decide +kernel
theorem dX11_potAt_14 : decode cX11_potAt 14 = .ok (.iload_n 1, 1) := by decide +kernel
theorem dX11_potAt_15 : decode cX11_potAt 15 = .ok (.aaload, 1) := by decide +kernel
theorem dX11_potAt_16 : decode cX11_potAt 16 = .ok (.goto 4, 3) := by decide +kernel
theorem dX11_potAt_19 : decode cX11_potAt 19 = .ok (.aconst_null, 1) := by decide +kernel
theorem dX11_potAt_20 : decode cX11_potAt 20 = .ok (.areturn, 1) := by decide +kernel
theorem dX11_areaAt_0 : decode cX11_areaAt 0 = .ok (.iload_n 1, 1) := by decide +kernel
theorem dX11_areaAt_1 : decode cX11_areaAt 1 = .ok (.iconst 0, 1) := by decide +kernel
theorem dX11_areaAt_2 : decode cX11_areaAt 2 = .ok (.bipush 9, 2) := by decide +kernel
theorem dX11_areaAt_4 : decode cX11_areaAt 4 = .ok (.invokestatic 77, 3) := by decide +kernel
theorem dX11_areaAt_7 : decode cX11_areaAt 7 = .ok (.ifCond .eq 12, 3) := by decide +kernel
theorem dX11_areaAt_10 : decode cX11_areaAt 10 = .ok (.aload_n 0, 1) := by decide +kernel
theorem dX11_areaAt_11 : decode cX11_areaAt 11 = .ok (.getfield 31, 3) := by decide +kernel
theorem dX11_areaAt_14 : decode cX11_areaAt 14 = .ok (.iload_n 1, 1) := by decide +kernel
theorem dX11_areaAt_15 : decode cX11_areaAt 15 = .ok (.aaload, 1) := by decide +kernel
theorem dX11_areaAt_16 : decode cX11_areaAt 16 = .ok (.goto 4, 3) := by decide +kernel
theorem dX11_areaAt_19 : decode cX11_areaAt 19 = .ok (.aconst_null, 1) := by decide +kernel
theorem dX11_areaAt_20 : decode cX11_areaAt 20 = .ok (.areturn, 1) := by decide +kernel
theorem dX11_inPots_0 : decode cX11_inPots 0 = .ok (.iconst 0, 1) := by decide +kernel
theorem dX11_inPots_1 : decode cX11_inPots 1 = .ok (.istore_n 2, 1) := by decide +kernel
theorem dX11_inPots_2 : decode cX11_inPots 2 = .ok (.iconst 0, 1) := by decide +kernel
theorem dX11_inPots_3 : decode cX11_inPots 3 = .ok (.istore_n 3, 1) := by decide +kernel
theorem dX11_inPots_4 : decode cX11_inPots 4 = .ok (.iload_n 3, 1) := by decide +kernel
theorem dX11_inPots_5 : decode cX11_inPots 5 = .ok (.bipush 10, 2) := by decide +kernel
theorem dX11_inPots_7 : decode cX11_inPots 7 = .ok (.if_icmp .ge 22, 3) := by decide +kernel
theorem dX11_inPots_10 : decode cX11_inPots 10 = .ok (.iload_n 2, 1) := by decide +kernel
theorem dX11_inPots_11 : decode cX11_inPots 11 = .ok (.aload_n 0, 1) := by decide +kernel
theorem dX11_inPots_12 : decode cX11_inPots 12 = .ok (.getfield 25, 3) := by decide +kernel
theorem dX11_inPots_15 : decode cX11_inPots 15 = .ok (.iload_n 3, 1) := by decide +kernel
theorem dX11_inPots_16 : decode cX11_inPots 16 = .ok (.aaload, 1) := by decide +kernel
theorem dX11_inPots_17 : decode cX11_inPots 17 = .ok (.iload_n 1, 1) := by decide +kernel
theorem dX11_inPots_18 : decode cX11_inPots 18 = .ok (.invokevirtual 167, 3) := by decide +kernel
theorem dX11_inPots_21 : decode cX11_inPots 21 = .ok (.iadd, 1) := by decide +kernel
theorem dX11_inPots_22 : decode cX11_inPots 22 = .ok (.istore_n 2, 1) := by decide +kernel
theorem dX11_inPots_23 : decode cX11_inPots 23 = .ok (.iinc 3 1, 3) := by decide +kernel
theorem dX11_inPots_26 : decode cX11_inPots 26 = .ok (.goto (-22), 3) := by decide +kernel
theorem dX11_inPots_29 : decode cX11_inPots 29 = .ok (.iload_n 2, 1) := by decide +kernel
theorem dX11_inPots_30 : decode cX11_inPots 30 = .ok (.ireturn, 1) := by decide +kernel
theorem dX11_allInPots_0 : decode cX11_allInPots 0 = .ok (.iconst 0, 1) := by decide +kernel
theorem dX11_allInPots_1 : decode cX11_allInPots 1 = .ok (.istore_n 1, 1) := by decide +kernel
theorem dX11_allInPots_2 : decode cX11_allInPots 2 = .ok (.iconst 0, 1) := by decide +kernel
theorem dX11_allInPots_3 : decode cX11_allInPots 3 = .ok (.istore_n 2, 1) := by decide +kernel
theorem dX11_allInPots_4 : decode cX11_allInPots 4 = .ok (.iload_n 2, 1) := by decide +kernel
theorem dX11_allInPots_5 : decode cX11_allInPots 5 = .ok (.bipush 10, 2) := by decide +kernel
theorem dX11_allInPots_7 : decode cX11_allInPots 7 = .ok (.if_icmp .ge 21, 3) := by decide +kernel
theorem dX11_allInPots_10 : decode cX11_allInPots 10 = .ok (.iload_n 1, 1) := by decide +kernel
theorem dX11_allInPots_11 : decode cX11_allInPots 11 = .ok (.aload_n 0, 1) := by decide +kernel
theorem dX11_allInPots_12 : decode cX11_allInPots 12 = .ok (.getfield 25, 3) := by decide +kernel
theorem dX11_allInPots_15 : decode cX11_allInPots 15 = .ok (.iload_n 2, 1) := by decide +kernel
theorem dX11_allInPots_16 : decode cX11_allInPots 16 = .ok (.aaload, 1) := by decide +kernel
theorem dX11_allInPots_17 : decode cX11_allInPots 17 = .ok (.getfield 151, 3) := by decide +kernel
theorem dX11_allInPots_20 : decode cX11_allInPots 20 = .ok (.iadd, 1) := by decide +kernel
theorem dX11_allInPots_21 : decode cX11_allInPots 21 = .ok (.istore_n 1, 1) := by decide +kernel
theorem dX11_allInPots_22 : decode cX11_allInPots 22 = .ok (.iinc 2 1, 3) := by decide +kernel
theorem dX11_allInPots_25 : decode cX11_allInPots 25 = .ok (.goto (-21), 3) := by decide +kernel
theorem dX11_allInPots_28 : decode cX11_allInPots 28 = .ok (.iload_n 1, 1) := by decide +kernel
theorem dX11_allInPots_29 : decode cX11_allInPots 29 = .ok (.ireturn, 1) := by decide +kernel
theorem dX11_allLayers_0 : decode cX11_allLayers 0 = .ok (.iconst 0, 1) := by decide +kernel
theorem dX11_allLayers_1 : decode cX11_allLayers 1 = .ok (.istore_n 1, 1) := by decide +kernel
theorem dX11_allLayers_2 : decode cX11_allLayers 2 = .ok (.iconst 0, 1) := by decide +kernel
theorem dX11_allLayers_3 : decode cX11_allLayers 3 = .ok (.istore_n 2, 1) := by decide +kernel
theorem dX11_allLayers_4 : decode cX11_allLayers 4 = .ok (.iload_n 2, 1) := by decide +kernel
theorem dX11_allLayers_5 : decode cX11_allLayers 5 = .ok (.bipush 10, 2) := by decide +kernel
theorem dX11_allLayers_7 : decode cX11_allLayers 7 = .ok (.if_icmp .ge 21, 3) := by decide +kernel
theorem dX11_allLayers_10 : decode cX11_allLayers 10 = .ok (.iload_n 1, 1) := by decide +kernel
theorem dX11_allLayers_11 : decode cX11_allLayers 11 = .ok (.aload_n 0, 1) := by decide +kernel
theorem dX11_allLayers_12 : decode cX11_allLayers 12 = .ok (.getfield 31, 3) := by decide +kernel
theorem dX11_allLayers_15 : decode cX11_allLayers 15 = .ok (.iload_n 2, 1) := by decide +kernel
theorem dX11_allLayers_16 : decode cX11_allLayers 16 = .ok (.aaload, 1) := by decide +kernel
theorem dX11_allLayers_17 : decode cX11_allLayers 17 = .ok (.getfield 217, 3) := by decide +kernel
theorem dX11_allLayers_20 : decode cX11_allLayers 20 = .ok (.iadd, 1) := by decide +kernel
theorem dX11_allLayers_21 : decode cX11_allLayers 21 = .ok (.istore_n 1, 1) := by decide +kernel
theorem dX11_allLayers_22 : decode cX11_allLayers 22 = .ok (.iinc 2 1, 3) := by decide +kernel
theorem dX11_allLayers_25 : decode cX11_allLayers 25 = .ok (.goto (-21), 3) := by decide +kernel
theorem dX11_allLayers_28 : decode cX11_allLayers 28 = .ok (.iload_n 1, 1) := by decide +kernel
theorem dX11_allLayers_29 : decode cX11_allLayers 29 = .ok (.ireturn, 1) := by decide +kernel
theorem dX11_sendFrom_0 : decode cX11_sendFrom 0 = .ok (.iconst 0, 1) := by decide +kernel
theorem dX11_sendFrom_1 : decode cX11_sendFrom 1 = .ok (.istore_n 3, 1) := by decide +kernel
theorem dX11_sendFrom_2 : decode cX11_sendFrom 2 = .ok (.iload_n 3, 1) := by decide +kernel
theorem dX11_sendFrom_3 : decode cX11_sendFrom 3 = .ok (.bipush 8, 2) := by decide +kernel
theorem dX11_sendFrom_5 : decode cX11_sendFrom 5 = .ok (.if_icmp .ge 37, 3) := by decide +kernel
theorem dX11_sendFrom_8 : decode cX11_sendFrom 8 = .ok (.aload_n 0, 1) := by decide +kernel
theorem dX11_sendFrom_9 : decode cX11_sendFrom 9 = .ok (.getfield 19, 3) := by decide +kernel
theorem dX11_sendFrom_12 : decode cX11_sendFrom 12 = .ok (.getfield 295, 3) := by decide +kernel
theorem dX11_sendFrom_15 : decode cX11_sendFrom 15 = .ok (.iload_n 3, 1) := by decide +kernel
theorem dX11_sendFrom_16 : decode cX11_sendFrom 16 = .ok (.baload, 1) := by decide +kernel
theorem dX11_sendFrom_17 : decode cX11_sendFrom 17 = .ok (.ifCond .eq 19, 3) := by decide +kernel
theorem dX11_sendFrom_20 : decode cX11_sendFrom 20 = .ok (.aload_n 0, 1) := by decide +kernel
theorem dX11_sendFrom_21 : decode cX11_sendFrom 21 = .ok (.getfield 44, 3) := by decide +kernel
theorem dX11_sendFrom_24 : decode cX11_sendFrom 24 = .ok (.iload_n 3, 1) := by decide +kernel
theorem dX11_sendFrom_25 : decode cX11_sendFrom 25 = .ok (.aload_n 1, 1) := by decide +kernel
theorem dX11_sendFrom_26 : decode cX11_sendFrom 26 = .ok (.aload_n 0, 1) := by decide +kernel
theorem dX11_sendFrom_27 : decode cX11_sendFrom 27 = .ok (.getfield 12, 3) := by decide +kernel
theorem dX11_sendFrom_30 : decode cX11_sendFrom 30 = .ok (.iload_n 3, 1) := by decide +kernel
theorem dX11_sendFrom_31 : decode cX11_sendFrom 31 = .ok (.iload_n 2, 1) := by decide +kernel
theorem dX11_sendFrom_32 : decode cX11_sendFrom 32 = .ok (.invokevirtual 235, 3) := by decide +kernel
theorem dX11_sendFrom_35 : decode cX11_sendFrom 35 = .ok (.iastore, 1) := by decide +kernel
theorem dX11_sendFrom_36 : decode cX11_sendFrom 36 = .ok (.iinc 3 1, 3) := by decide +kernel
theorem dX11_sendFrom_39 : decode cX11_sendFrom 39 = .ok (.goto (-37), 3) := by decide +kernel
theorem dX11_sendFrom_42 : decode cX11_sendFrom 42 = .ok (.return_, 1) := by decide +kernel
theorem dX12_in_0 : decode cX12_in 0 = .ok (.iload_n 0, 1) := by decide +kernel
theorem dX12_in_1 : decode cX12_in 1 = .ok (.iload_n 1, 1) := by decide +kernel
theorem dX12_in_2 : decode cX12_in 2 = .ok (.if_icmp .lt 12, 3) := by decide +kernel
theorem dX12_in_5 : decode cX12_in 5 = .ok (.iload_n 0, 1) := by decide +kernel
theorem dX12_in_6 : decode cX12_in 6 = .ok (.iload_n 2, 1) := by decide +kernel
theorem dX12_in_7 : decode cX12_in 7 = .ok (.if_icmp .gt 7, 3) := by decide +kernel
theorem dX12_in_10 : decode cX12_in 10 = .ok (.iconst 1, 1) := by decide +kernel
theorem dX12_in_11 : decode cX12_in 11 = .ok (.goto 4, 3) := by decide +kernel
theorem dX12_in_14 : decode cX12_in 14 = .ok (.iconst 0, 1) := by decide +kernel
theorem dX12_in_15 : decode cX12_in 15 = .ok (.ireturn, 1) := by decide +kernel
theorem dX12_init_0 : decode cX12_init 0 = .ok (.aload_n 0, 1) := by decide +kernel
theorem dX12_init_1 : decode cX12_init 1 = .ok (.invokespecial 7, 3) := by decide +kernel
theorem dX12_init_4 : decode cX12_init 4 = .ok (.aload_n 0, 1) := by decide +kernel
theorem dX12_init_5 : decode cX12_init 5 = .ok (.bipush 96, 2) := by decide +kernel
theorem dX12_init_7 : decode cX12_init 7 = .ok (.newarray .int, 2) := by decide +kernel
theorem dX12_init_9 : decode cX12_init 9 = .ok (.putfield 13, 3) := by decide +kernel
theorem dX12_init_12 : decode cX12_init 12 = .ok (.aload_n 0, 1) := by decide +kernel
theorem dX12_init_13 : decode cX12_init 13 = .ok (.bipush 96, 2) := by decide +kernel
theorem dX12_init_15 : decode cX12_init 15 = .ok (.newarray .int, 2) := by decide +kernel
theorem dX12_init_17 : decode cX12_init 17 = .ok (.putfield 17, 3) := by decide +kernel
theorem dX12_init_20 : decode cX12_init 20 = .ok (.aload_n 0, 1) := by decide +kernel
theorem dX12_init_21 : decode cX12_init 21 = .ok (.bipush 12, 2) := by decide +kernel
theorem dX12_init_23 : decode cX12_init 23 = .ok (.newarray .int, 2) := by decide +kernel
theorem dX12_init_25 : decode cX12_init 25 = .ok (.putfield 20, 3) := by decide +kernel
theorem dX12_init_28 : decode cX12_init 28 = .ok (.aload_n 0, 1) := by decide +kernel
theorem dX12_init_29 : decode cX12_init 29 = .ok (.bipush 12, 2) := by decide +kernel
theorem dX12_init_31 : decode cX12_init 31 = .ok (.newarray .int, 2) := by decide +kernel
theorem dX12_init_33 : decode cX12_init 33 = .ok (.putfield 23, 3) := by decide +kernel
theorem dX12_init_36 : decode cX12_init 36 = .ok (.aload_n 0, 1) := by decide +kernel
theorem dX12_init_37 : decode cX12_init 37 = .ok (.bipush 12, 2) := by decide +kernel
theorem dX12_init_39 : decode cX12_init 39 = .ok (.newarray .int, 2) := by decide +kernel
theorem dX12_init_41 : decode cX12_init 41 = .ok (.putfield 26, 3) := by decide +kernel
theorem dX12_init_44 : decode cX12_init 44 = .ok (.aload_n 0, 1) := by decide +kernel
theorem dX12_init_45 : decode cX12_init 45 = .ok (.bipush 12, 2) := by decide +kernel
theorem dX12_init_47 : decode cX12_init 47 = .ok (.newarray .int, 2) := by decide +kernel
theorem dX12_init_49 : decode cX12_init 49 = .ok (.putfield 29, 3) := by decide +kernel
theorem dX12_init_52 : decode cX12_init 52 = .ok (.aload_n 0, 1) := by decide +kernel
theorem dX12_init_53 : decode cX12_init 53 = .ok (.bipush 12, 2) := by decide +kernel
theorem dX12_init_55 : decode cX12_init 55 = .ok (.newarray .int, 2) := by decide +kernel
theorem dX12_init_57 : decode cX12_init 57 = .ok (.putfield 32, 3) := by decide +kernel
theorem dX12_init_60 : decode cX12_init 60 = .ok (.aload_n 0, 1) := by decide +kernel
theorem dX12_init_61 : decode cX12_init 61 = .ok (.bipush 32, 2) := by decide +kernel
theorem dX12_init_63 : decode cX12_init 63 = .ok (.newarray .int, 2) := by decide +kernel
theorem dX12_init_65 : decode cX12_init 65 = .ok (.putfield 35, 3) := by decide +kernel
theorem dX12_init_68 : decode cX12_init 68 = .ok (.aload_n 0, 1) := by decide +kernel
theorem dX12_init_69 : decode cX12_init 69 = .ok (.bipush 24, 2) := by decide +kernel
theorem dX12_init_71 : decode cX12_init 71 = .ok (.newarray .int, 2) := by decide +kernel
theorem dX12_init_73 : decode cX12_init 73 = .ok (.putfield 38, 3) := by decide +kernel
theorem dX12_init_76 : decode cX12_init 76 = .ok (.aload_n 0, 1) := by decide +kernel
theorem dX12_init_77 : decode cX12_init 77 = .ok (.bipush 8, 2) := by decide +kernel
theorem dX12_init_79 : decode cX12_init 79 = .ok (.newarray .int, 2) := by decide +kernel
theorem dX12_init_81 : decode cX12_init 81 = .ok (.putfield 41, 3) := by decide +kernel
theorem dX12_init_84 : decode cX12_init 84 = .ok (.aload_n 0, 1) := by decide +kernel
theorem dX12_init_85 : decode cX12_init 85 = .ok (.bipush 120, 2) := by decide +kernel
theorem dX12_init_87 : decode cX12_init 87 = .ok (.newarray .int, 2) := by decide +kernel
theorem dX12_init_89 : decode cX12_init 89 = .ok (.putfield 44, 3) := by decide +kernel
theorem dX12_init_92 : decode cX12_init 92 = .ok (.aload_n 0, 1) := by decide +kernel
theorem dX12_init_93 : decode cX12_init 93 = .ok (.bipush 8, 2) := by decide +kernel
theorem dX12_init_95 : decode cX12_init 95 = .ok (.newarray .int, 2) := by decide +kernel
theorem dX12_init_97 : decode cX12_init 97 = .ok (.putfield 47, 3) := by decide +kernel
theorem dX12_init_100 : decode cX12_init 100 = .ok (.aload_n 0, 1) := by decide +kernel
theorem dX12_init_101 : decode cX12_init 101 = .ok (.bipush 8, 2) := by decide +kernel
theorem dX12_init_103 : decode cX12_init 103 = .ok (.newarray .int, 2) := by decide +kernel
theorem dX12_init_105 : decode cX12_init 105 = .ok (.putfield 50, 3) := by decide +kernel
theorem dX12_init_108 : decode cX12_init 108 = .ok (.aload_n 0, 1) := by decide +kernel
theorem dX12_init_109 : decode cX12_init 109 = .ok (.bipush 10, 2) := by decide +kernel
theorem dX12_init_111 : decode cX12_init 111 = .ok (.newarray .int, 2) := by decide +kernel
theorem dX12_init_113 : decode cX12_init 113 = .ok (.putfield 53, 3) := by decide +kernel
theorem dX12_init_116 : decode cX12_init 116 = .ok (.aload_n 0, 1) := by decide +kernel
theorem dX12_init_117 : decode cX12_init 117 = .ok (.bipush 10, 2) := by decide +kernel
theorem dX12_init_119 : decode cX12_init 119 = .ok (.newarray .int, 2) := by decide +kernel
theorem dX12_init_121 : decode cX12_init 121 = .ok (.putfield 56, 3) := by decide +kernel
theorem dX12_init_124 : decode cX12_init 124 = .ok (.aload_n 0, 1) := by decide +kernel
theorem dX12_init_125 : decode cX12_init 125 = .ok (.bipush 100, 2) := by decide +kernel
theorem dX12_init_127 : decode cX12_init 127 = .ok (.newarray .int, 2) := by decide +kernel
theorem dX12_init_129 : decode cX12_init 129 = .ok (.putfield 59, 3) := by decide +kernel
theorem dX12_init_132 : decode cX12_init 132 = .ok (.aload_n 0, 1) := by decide +kernel
theorem dX12_init_133 : decode cX12_init 133 = .ok (.bipush 100, 2) := by decide +kernel
theorem dX12_init_135 : decode cX12_init 135 = .ok (.newarray .int, 2) := by decide +kernel
theorem dX12_init_137 : decode cX12_init 137 = .ok (.putfield 62, 3) := by decide +kernel
theorem dX12_init_140 : decode cX12_init 140 = .ok (.aload_n 0, 1) := by decide +kernel
theorem dX12_init_141 : decode cX12_init 141 = .ok (.sipush 1200, 3) := by decide +kernel
theorem dX12_init_144 : decode cX12_init 144 = .ok (.newarray .int, 2) := by decide +kernel
theorem dX12_init_146 : decode cX12_init 146 = .ok (.putfield 65, 3) := by decide +kernel
theorem dX12_init_149 : decode cX12_init 149 = .ok (.aload_n 0, 1) := by decide +kernel
theorem dX12_init_150 : decode cX12_init 150 = .ok (.iconst 3, 1) := by decide +kernel
theorem dX12_init_151 : decode cX12_init 151 = .ok (.newarray .int, 2) := by decide +kernel
theorem dX12_init_153 : decode cX12_init 153 = .ok (.putfield 68, 3) := by decide +kernel
theorem dX12_init_156 : decode cX12_init 156 = .ok (.aload_n 0, 1) := by decide +kernel
theorem dX12_init_157 : decode cX12_init 157 = .ok (.bipush 12, 2) := by decide +kernel
theorem dX12_init_159 : decode cX12_init 159 = .ok (.newarray .int, 2) := by decide +kernel
theorem dX12_init_161 : decode cX12_init 161 = .ok (.putfield 71, 3) := by decide +kernel
theorem dX12_init_164 : decode cX12_init 164 = .ok (.aload_n 0, 1) := by decide +kernel
theorem dX12_init_165 : decode cX12_init 165 = .ok (.bipush 12, 2) := by decide +kernel
theorem dX12_init_167 : decode cX12_init 167 = .ok (.newarray .int, 2) := by decide +kernel
theorem dX12_init_169 : decode cX12_init 169 = .ok (.putfield 74, 3) := by decide +kernel
theorem dX12_init_172 : decode cX12_init 172 = .ok (.aload_n 0, 1) := by decide +kernel
theorem dX12_init_173 : decode cX12_init 173 = .ok (.iconst (-1), 1) := by decide +kernel
theorem dX12_init_174 : decode cX12_init 174 = .ok (.putfield 77, 3) := by decide +kernel
theorem dX12_init_177 : decode cX12_init 177 = .ok (.aload_n 0, 1) := by decide +kernel
theorem dX12_init_178 : decode cX12_init 178 = .ok (.iconst 3, 1) := by decide +kernel
theorem dX12_init_179 : decode cX12_init 179 = .ok (.newarray .int, 2) := by decide +kernel
theorem dX12_init_181 : decode cX12_init 181 = .ok (.putfield 80, 3) := by decide +kernel
theorem dX12_init_184 : decode cX12_init 184 = .ok (.aload_n 0, 1) := by decide +kernel
theorem dX12_init_185 : decode cX12_init 185 = .ok (.iconst 3, 1) := by decide +kernel
theorem dX12_init_186 : decode cX12_init 186 = .ok (.newarray .int, 2) := by decide +kernel
theorem dX12_init_188 : decode cX12_init 188 = .ok (.putfield 83, 3) := by decide +kernel
theorem dX12_init_191 : decode cX12_init 191 = .ok (.aload_n 0, 1) := by decide +kernel
theorem dX12_init_192 : decode cX12_init 192 = .ok (.bipush 18, 2) := by decide +kernel
theorem dX12_init_194 : decode cX12_init 194 = .ok (.newarray .int, 2) := by decide +kernel
theorem dX12_init_196 : decode cX12_init 196 = .ok (.putfield 86, 3) := by decide +kernel
theorem dX12_init_199 : decode cX12_init 199 = .ok (.aload_n 0, 1) := by decide +kernel
theorem dX12_init_200 : decode cX12_init 200 = .ok (.sipush 4096, 3) := by decide +kernel
theorem dX12_init_203 : decode cX12_init 203 = .ok (.newarray .int, 2) := by decide +kernel
theorem dX12_init_205 : decode cX12_init 205 = .ok (.putfield 89, 3) := by decide +kernel
theorem dX12_init_208 : decode cX12_init 208 = .ok (.iconst 0, 1) := by decide +kernel
theorem dX12_init_209 : decode cX12_init 209 = .ok (.istore_n 1, 1) := by decide +kernel
theorem dX12_init_210 : decode cX12_init 210 = .ok (.iload_n 1, 1) := by decide +kernel
theorem dX12_init_211 : decode cX12_init 211 = .ok (.bipush 32, 2) := by decide +kernel
theorem dX12_init_213 : decode cX12_init 213 = .ok (.if_icmp .ge 17, 3) := by decide +kernel
theorem dX12_init_216 : decode cX12_init 216 = .ok (.aload_n 0, 1) := by decide +kernel
theorem dX12_init_217 : decode cX12_init 217 = .ok (.getfield 35, 3) := by decide +kernel
theorem dX12_init_220 : decode cX12_init 220 = .ok (.iload_n 1, 1) := by decide +kernel
theorem dX12_init_221 : decode cX12_init 221 = .ok (.bipush 10, 2) := by decide +kernel
theorem dX12_init_223 : decode cX12_init 223 = .ok (.iastore, 1) := by decide +kernel
theorem dX12_init_224 : decode cX12_init 224 = .ok (.iinc 1 1, 3) := by decide +kernel
theorem dX12_init_227 : decode cX12_init 227 = .ok (.goto (-17), 3) := by decide +kernel
theorem dX12_init_230 : decode cX12_init 230 = .ok (.iconst 5, 1) := by decide +kernel
theorem dX12_init_231 : decode cX12_init 231 = .ok (.istore_n 1, 1) := by decide +kernel
theorem dX12_init_232 : decode cX12_init 232 = .ok (.iload_n 1, 1) := by decide +kernel
theorem dX12_init_233 : decode cX12_init 233 = .ok (.bipush 8, 2) := by decide +kernel
theorem dX12_init_235 : decode cX12_init 235 = .ok (.if_icmp .ge 16, 3) := by decide +kernel
theorem dX12_init_238 : decode cX12_init 238 = .ok (.aload_n 0, 1) := by decide +kernel
theorem dX12_init_239 : decode cX12_init 239 = .ok (.getfield 38, 3) := by decide +kernel
theorem dX12_init_242 : decode cX12_init 242 = .ok (.iload_n 1, 1) := by decide +kernel
theorem dX12_init_243 : decode cX12_init 243 = .ok (.iconst 1, 1) := by decide +kernel
theorem dX12_init_244 : decode cX12_init 244 = .ok (.iastore, 1) := by decide +kernel
theorem dX12_init_245 : decode cX12_init 245 = .ok (.iinc 1 1, 3) := by decide +kernel
theorem dX12_init_248 : decode cX12_init 248 = .ok (.goto (-16), 3) := by decide +kernel
theorem dX12_init_251 : decode cX12_init 251 = .ok (.iconst 3, 1) := by decide +kernel
theorem dX12_init_252 : decode cX12_init 252 = .ok (.istore_n 1, 1) := by decide +kernel
theorem dX12_init_253 : decode cX12_init 253 = .ok (.iload_n 1, 1) := by decide +kernel
theorem dX12_init_254 : decode cX12_init 254 = .ok (.bipush 6, 2) := by decide +kernel
theorem dX12_init_256 : decode cX12_init 256 = .ok (.if_icmp .ge 19, 3) := by decide +kernel
theorem dX12_init_259 : decode cX12_init 259 = .ok (.aload_n 0, 1) := by decide +kernel
theorem dX12_init_260 : decode cX12_init 260 = .ok (.getfield 38, 3) := by decide +kernel
theorem dX12_init_263 : decode cX12_init 263 = .ok (.bipush 8, 2) := by decide +kernel
theorem dX12_init_265 : decode cX12_init 265 = .ok (.iload_n 1, 1) := by decide +kernel
theorem dX12_init_266 : decode cX12_init 266 = .ok (.iadd, 1) := by decide +kernel
theorem dX12_init_267 : decode cX12_init 267 = .ok (.iconst 1, 1) := by decide +kernel
theorem dX12_init_268 : decode cX12_init 268 = .ok (.iastore, 1) := by decide +kernel
theorem dX12_init_269 : decode cX12_init 269 = .ok (.iinc 1 1, 3) := by decide +kernel
theorem dX12_init_272 : decode cX12_init 272 = .ok (.goto (-19), 3) := by decide +kernel
theorem dX12_init_275 : decode cX12_init 275 = .ok (.iconst 0, 1) := by decide +kernel
theorem dX12_init_276 : decode cX12_init 276 = .ok (.istore_n 1, 1) := by decide +kernel
theorem dX12_init_277 : decode cX12_init 277 = .ok (.iload_n 1, 1) := by decide +kernel
theorem dX12_init_278 : decode cX12_init 278 = .ok (.iconst 3, 1) := by decide +kernel
theorem dX12_init_279 : decode cX12_init 279 = .ok (.if_icmp .ge 19, 3) := by decide +kernel
theorem dX12_init_282 : decode cX12_init 282 = .ok (.aload_n 0, 1) := by decide +kernel
theorem dX12_init_283 : decode cX12_init 283 = .ok (.getfield 38, 3) := by decide +kernel
theorem dX12_init_286 : decode cX12_init 286 = .ok (.bipush 16, 2) := by decide +kernel
theorem dX12_init_288 : decode cX12_init 288 = .ok (.iload_n 1, 1) := by decide +kernel
theorem dX12_init_289 : decode cX12_init 289 = .ok (.iadd, 1) := by decide +kernel
theorem dX12_init_290 : decode cX12_init 290 = .ok (.iconst 1, 1) := by decide +kernel
theorem dX12_init_291 : decode cX12_init 291 = .ok (.iastore, 1) := by decide +kernel
theorem dX12_init_292 : decode cX12_init 292 = .ok (.iinc 1 1, 3) := by decide +kernel
theorem dX12_init_295 : decode cX12_init 295 = .ok (.goto (-18), 3) := by decide +kernel
theorem dX12_init_298 : decode cX12_init 298 = .ok (.iconst 0, 1) := by decide +kernel
theorem dX12_init_299 : decode cX12_init 299 = .ok (.istore_n 1, 1) := by decide +kernel
theorem dX12_init_300 : decode cX12_init 300 = .ok (.iload_n 1, 1) := by decide +kernel
theorem dX12_init_301 : decode cX12_init 301 = .ok (.bipush 10, 2) := by decide +kernel
theorem dX12_init_303 : decode cX12_init 303 = .ok (.if_icmp .ge 18, 3) := by decide +kernel
theorem dX12_init_306 : decode cX12_init 306 = .ok (.aload_n 0, 1) := by decide +kernel
theorem dX12_init_307 : decode cX12_init 307 = .ok (.getfield 53, 3) := by decide +kernel
theorem dX12_init_310 : decode cX12_init 310 = .ok (.iload_n 1, 1) := by decide +kernel
theorem dX12_init_311 : decode cX12_init 311 = .ok (.sipush 9000, 3) := by decide +kernel
theorem dX12_init_314 : decode cX12_init 314 = .ok (.iastore, 1) := by decide +kernel
theorem dX12_init_315 : decode cX12_init 315 = .ok (.iinc 1 1, 3) := by decide +kernel
theorem dX12_init_318 : decode cX12_init 318 = .ok (.goto (-18), 3) := by decide +kernel
theorem dX12_init_321 : decode cX12_init 321 = .ok (.iconst 0, 1) := by decide +kernel
theorem dX12_init_322 : decode cX12_init 322 = .ok (.istore_n 1, 1) := by decide +kernel
theorem dX12_init_323 : decode cX12_init 323 = .ok (.iload_n 1, 1) := by decide +kernel
theorem dX12_init_324 : decode cX12_init 324 = .ok (.iconst 3, 1) := by decide +kernel
theorem dX12_init_325 : decode cX12_init 325 = .ok (.if_icmp .ge 18, 3) := by decide +kernel
theorem dX12_init_328 : decode cX12_init 328 = .ok (.aload_n 0, 1) := by decide +kernel
theorem dX12_init_329 : decode cX12_init 329 = .ok (.getfield 68, 3) := by decide +kernel
theorem dX12_init_332 : decode cX12_init 332 = .ok (.iload_n 1, 1) := by decide +kernel
theorem dX12_init_333 : decode cX12_init 333 = .ok (.sipush 5000, 3) := by decide +kernel
theorem dX12_init_336 : decode cX12_init 336 = .ok (.iastore, 1) := by decide +kernel
theorem dX12_init_337 : decode cX12_init 337 = .ok (.iinc 1 1, 3) := by decide +kernel
theorem dX12_init_340 : decode cX12_init 340 = .ok (.goto (-17), 3) := by decide +kernel
theorem dX12_init_343 : decode cX12_init 343 = .ok (.return_, 1) := by decide +kernel
theorem dX12_isTube_0 : decode cX12_isTube 0 = .ok (.iload_n 1, 1) := by decide +kernel
theorem dX12_isTube_1 : decode cX12_isTube 1 = .ok (.iconst 0, 1) := by decide +kernel
theorem dX12_isTube_2 : decode cX12_isTube 2 = .ok (.aload_n 0, 1) := by decide +kernel
theorem dX12_isTube_3 : decode cX12_isTube 3 = .ok (.getfield 92, 3) := by decide +kernel
theorem dX12_isTube_6 : decode cX12_isTube 6 = .ok (.iconst 1, 1) := by decide +kernel
theorem dX12_isTube_7 : decode cX12_isTube 7 = .ok (.isub, 1) := by decide +kernel
theorem dX12_isTube_8 : decode cX12_isTube 8 = .ok (.invokestatic 95, 3) := by decide +kernel
theorem dX12_isTube_11 : decode cX12_isTube 11 = .ok (.ireturn, 1) := by decide +kernel
theorem dX12_isBand_0 : decode cX12_isBand 0 = .ok (.iload_n 0, 1) := by decide +kernel
theorem dX12_isBand_1 : decode cX12_isBand 1 = .ok (.iconst 0, 1) := by decide +kernel
theorem dX12_isBand_2 : decode cX12_isBand 2 = .ok (.bipush 7, 2) := by decide +kernel
theorem dX12_isBand_4 : decode cX12_isBand 4 = .ok (.invokestatic 95, 3) := by decide +kernel
theorem dX12_isBand_7 : decode cX12_isBand 7 = .ok (.ireturn, 1) := by decide +kernel
theorem dX12_isLamp_0 : decode cX12_isLamp 0 = .ok (.iload_n 0, 1) := by decide +kernel
theorem dX12_isLamp_1 : decode cX12_isLamp 1 = .ok (.iconst 0, 1) := by decide +kernel
theorem dX12_isLamp_2 : decode cX12_isLamp 2 = .ok (.iconst 3, 1) := by decide +kernel
theorem dX12_isLamp_3 : decode cX12_isLamp 3 = .ok (.invokestatic 95, 3) := by decide +kernel
theorem dX12_isLamp_6 : decode cX12_isLamp 6 = .ok (.ireturn, 1) := by decide +kernel
theorem dX12_isSight_0 : decode cX12_isSight 0 = .ok (.iload_n 0, 1) := by decide +kernel
theorem dX12_isSight_1 : decode cX12_isSight 1 = .ok (.iconst 0, 1) := by decide +kernel
theorem dX12_isSight_2 : decode cX12_isSight 2 = .ok (.iconst 2, 1) := by decide +kernel
theorem dX12_isSight_3 : decode cX12_isSight 3 = .ok (.invokestatic 95, 3) := by decide +kernel
theorem dX12_isSight_6 : decode cX12_isSight 6 = .ok (.ireturn, 1) := by decide +kernel
theorem dX12_isPot_0 : decode cX12_isPot 0 = .ok (.iload_n 0, 1) := by decide +kernel
theorem dX12_isPot_1 : decode cX12_isPot 1 = .ok (.iconst 0, 1) := by decide +kernel
theorem dX12_isPot_2 : decode cX12_isPot 2 = .ok (.bipush 9, 2) := by decide +kernel
theorem dX12_isPot_4 : decode cX12_isPot 4 = .ok (.invokestatic 95, 3) := by decide +kernel
theorem dX12_isPot_7 : decode cX12_isPot 7 = .ok (.ireturn, 1) := by decide +kernel
theorem dX12_isArea_0 : decode cX12_isArea 0 = .ok (.iload_n 0, 1) := by decide +kernel
theorem dX12_isArea_1 : decode cX12_isArea 1 = .ok (.iconst 0, 1) := by decide +kernel
theorem dX12_isArea_2 : decode cX12_isArea 2 = .ok (.bipush 9, 2) := by decide +kernel
theorem dX12_isArea_4 : decode cX12_isArea 4 = .ok (.invokestatic 95, 3) := by decide +kernel
theorem dX12_isArea_7 : decode cX12_isArea 7 = .ok (.ireturn, 1) := by decide +kernel
theorem dX12_tube_0 : decode cX12_tube 0 = .ok (.iload_n 1, 1) := by decide +kernel
theorem dX12_tube_1 : decode cX12_tube 1 = .ok (.iconst 0, 1) := by decide +kernel
theorem dX12_tube_2 : decode cX12_tube 2 = .ok (.sipush 999, 3) := by decide +kernel
theorem dX12_tube_5 : decode cX12_tube 5 = .ok (.invokestatic 95, 3) := by decide +kernel
theorem dX12_tube_8 : decode cX12_tube 8 = .ok (.ifCond .eq 25, 3) := by decide +kernel
theorem dX12_tube_11 : decode cX12_tube 11 = .ok (.iload_n 2, 1) := by decide +kernel
theorem dX12_tube_12 : decode cX12_tube 12 = .ok (.iconst 0, 1) := by decide +kernel
theorem dX12_tube_13 : decode cX12_tube 13 = .ok (.sipush 999, 3) := by decide +kernel
theorem dX12_tube_16 : decode cX12_tube 16 = .ok (.invokestatic 95, 3) := by decide +kernel
theorem dX12_tube_19 : decode cX12_tube 19 = .ok (.ifCond .eq 14, 3) := by decide +kernel
theorem dX12_tube_22 : decode cX12_tube 22 = .ok (.iload_n 3, 1) := by decide +kernel
theorem dX12_tube_23 : decode cX12_tube 23 = .ok (.iconst 0, 1) := by decide +kernel
theorem dX12_tube_24 : decode cX12_tube 24 = .ok (.sipush 9999, 3) := by decide +kernel
theorem dX12_tube_27 : decode cX12_tube 27 = .ok (.invokestatic 95, 3) := by decide +kernel
theorem dX12_tube_30 : decode cX12_tube 30 = .ok (.ifCond .ne 5, 3) := by decide +kernel
theorem dX12_tube_33 : decode cX12_tube 33 = .ok (.iconst (-1), 1) := by decide +kernel
theorem dX12_tube_34 : decode cX12_tube 34 = .ok (.ireturn, 1) := by decide +kernel
theorem dX12_tube_35 : decode cX12_tube 35 = .ok (.aload_n 0, 1) := by decide +kernel
end
section
theorem dX12_tube_36 : decode cX12_tube 36 = .ok (.getfield 92, 3) := by decide +kernel
theorem dX12_tube_39 : decode cX12_tube 39 = .ok (.bipush 12, 2) := by decide +kernel
theorem dX12_tube_41 : decode cX12_tube 41 = .ok (.if_icmp .ne 6, 3) := by decide +kernel
theorem dX12_tube_44 : decode cX12_tube 44 = .ok (.bipush (-3), 2) := by decide +kernel
theorem dX12_tube_46 : decode cX12_tube 46 = .ok (.ireturn, 1) := by decide +kernel
theorem dX12_tube_47 : decode cX12_tube 47 = .ok (.iconst 0, 1) := by decide +kernel
theorem dX12_tube_48 : decode cX12_tube 48 = .ok (.istore 4, 2) := by decide +kernel
theorem dX12_tube_50 : decode cX12_tube 50 = .ok (.iload 4, 2) := by decide +kernel
theorem dX12_tube_52 : decode cX12_tube 52 = .ok (.bipush 8, 2) := by decide +kernel
theorem dX12_tube_54 : decode cX12_tube 54 = .ok (.if_icmp .ge 43, 3) := by decide +kernel
theorem dX12_tube_57 : decode cX12_tube 57 = .ok (.aload_n 0, 1) := by decide +kernel
theorem dX12_tube_58 : decode cX12_tube 58 = .ok (.getfield 13, 3) := by decide +kernel
theorem dX12_tube_61 : decode cX12_tube 61 = .ok (.bipush 8, 2) := by decide +kernel
theorem dX12_tube_63 : decode cX12_tube 63 = .ok (.aload_n 0, 1) := by decide +kernel
theorem dX12_tube_64 : decode cX12_tube 64 = .ok (.getfield 92, 3) := by decide +kernel
theorem dX12_tube_67 : decode cX12_tube 67 = .ok (.imul, 1) := by decide +kernel
theorem dX12_tube_68 : decode cX12_tube 68 = .ok (.iload 4, 2) := by decide +kernel
theorem dX12_tube_70 : decode cX12_tube 70 = .ok (.iadd, 1) := by decide +kernel
theorem dX12_tube_71 : decode cX12_tube 71 = .ok (.bipush 100, 2) := by decide +kernel
theorem dX12_tube_73 : decode cX12_tube 73 = .ok (.iastore, 1) := by decide +kernel
theorem dX12_tube_74 : decode cX12_tube 74 = .ok (.aload_n 0, 1) := by decide +kernel
theorem dX12_tube_75 : decode cX12_tube 75 = .ok (.getfield 17, 3) := by decide +kernel
theorem dX12_tube_78 : decode cX12_tube 78 = .ok (.bipush 8, 2) := by decide +kernel
theorem dX12_tube_80 : decode cX12_tube 80 = .ok (.aload_n 0, 1) := by decide +kernel
theorem dX12_tube_81 : decode cX12_tube 81 = .ok (.getfield 92, 3) := by decide +kernel
theorem dX12_tube_84 : decode cX12_tube 84 = .ok (.imul, 1) := by decide +kernel
theorem dX12_tube_85 : decode cX12_tube 85 = .ok (.iload 4, 2) := by decide +kernel
theorem dX12_tube_87 : decode cX12_tube 87 = .ok (.iadd, 1) := by decide +kernel
theorem dX12_tube_88 : decode cX12_tube 88 = .ok (.bipush 100, 2) := by decide +kernel
theorem dX12_tube_90 : decode cX12_tube 90 = .ok (.iastore, 1) := by decide +kernel
theorem dX12_tube_91 : decode cX12_tube 91 = .ok (.iinc 4 1, 3) := by decide +kernel
theorem dX12_tube_94 : decode cX12_tube 94 = .ok (.goto (-44), 3) := by decide +kernel
theorem dX12_tube_97 : decode cX12_tube 97 = .ok (.aload_n 0, 1) := by decide +kernel
theorem dX12_tube_98 : decode cX12_tube 98 = .ok (.getfield 20, 3) := by decide +kernel
theorem dX12_tube_101 : decode cX12_tube 101 = .ok (.aload_n 0, 1) := by decide +kernel
theorem dX12_tube_102 : decode cX12_tube 102 = .ok (.getfield 92, 3) := by decide +kernel
theorem dX12_tube_105 : decode cX12_tube 105 = .ok (.iload_n 1, 1) := by decide +kernel
theorem dX12_tube_106 : decode cX12_tube 106 = .ok (.iastore, 1) := by decide +kernel
theorem dX12_tube_107 : decode cX12_tube 107 = .ok (.aload_n 0, 1) := by decide +kernel
theorem dX12_tube_108 : decode cX12_tube 108 = .ok (.getfield 23, 3) := by decide +kernel
theorem dX12_tube_111 : decode cX12_tube 111 = .ok (.aload_n 0, 1) := by decide +kernel
theorem dX12_tube_112 : decode cX12_tube 112 = .ok (.getfield 92, 3) := by decide +kernel
theorem dX12_tube_115 : decode cX12_tube 115 = .ok (.iload_n 2, 1) := by decide +kernel
theorem dX12_tube_116 : decode cX12_tube 116 = .ok (.iastore, 1) := by decide +kernel
theorem dX12_tube_117 : decode cX12_tube 117 = .ok (.aload_n 0, 1) := by decide +kernel
theorem dX12_tube_118 : decode cX12_tube 118 = .ok (.getfield 26, 3) := by decide +kernel
theorem dX12_tube_121 : decode cX12_tube 121 = .ok (.aload_n 0, 1) := by decide +kernel
theorem dX12_tube_122 : decode cX12_tube 122 = .ok (.getfield 92, 3) := by decide +kernel
theorem dX12_tube_125 : decode cX12_tube 125 = .ok (.iload_n 3, 1) := by decide +kernel
theorem dX12_tube_126 : decode cX12_tube 126 = .ok (.iastore, 1) := by decide +kernel
theorem dX12_tube_127 : decode cX12_tube 127 = .ok (.aload_n 0, 1) := by decide +kernel
theorem dX12_tube_128 : decode cX12_tube 128 = .ok (.dup, 1) := by decide +kernel
theorem dX12_tube_129 : decode cX12_tube 129 = .ok (.getfield 92, 3) := by decide +kernel
theorem dX12_tube_132 : decode cX12_tube 132 = .ok (.iconst 1, 1) := by decide +kernel
theorem dX12_tube_133 : decode cX12_tube 133 = .ok (.iadd, 1) := by decide +kernel
theorem dX12_tube_134 : decode cX12_tube 134 = .ok (.putfield 92, 3) := by decide +kernel
theorem dX12_tube_137 : decode cX12_tube 137 = .ok (.aload_n 0, 1) := by decide +kernel
theorem dX12_tube_138 : decode cX12_tube 138 = .ok (.getfield 92, 3) := by decide +kernel
theorem dX12_tube_141 : decode cX12_tube 141 = .ok (.iconst 1, 1) := by decide +kernel
theorem dX12_tube_142 : decode cX12_tube 142 = .ok (.isub, 1) := by decide +kernel
theorem dX12_tube_143 : decode cX12_tube 143 = .ok (.ireturn, 1) := by decide +kernel
theorem dX12_band_0 : decode cX12_band 0 = .ok (.aload_n 0, 1) := by decide +kernel
theorem dX12_band_1 : decode cX12_band 1 = .ok (.iload_n 1, 1) := by decide +kernel
theorem dX12_band_2 : decode cX12_band 2 = .ok (.invokevirtual 99, 3) := by decide +kernel
theorem dX12_band_5 : decode cX12_band 5 = .ok (.ifCond .eq 33, 3) := by decide +kernel
theorem dX12_band_8 : decode cX12_band 8 = .ok (.iload_n 2, 1) := by decide +kernel
theorem dX12_band_9 : decode cX12_band 9 = .ok (.invokestatic 103, 3) := by decide +kernel
theorem dX12_band_12 : decode cX12_band 12 = .ok (.ifCond .eq 26, 3) := by decide +kernel
theorem dX12_band_15 : decode cX12_band 15 = .ok (.iload_n 3, 1) := by decide +kernel
theorem dX12_band_16 : decode cX12_band 16 = .ok (.iconst 0, 1) := by decide +kernel
theorem dX12_band_17 : decode cX12_band 17 = .ok (.sipush 999, 3) := by decide +kernel
theorem dX12_band_20 : decode cX12_band 20 = .ok (.invokestatic 95, 3) := by decide +kernel
theorem dX12_band_23 : decode cX12_band 23 = .ok (.ifCond .eq 15, 3) := by decide +kernel
theorem dX12_band_26 : decode cX12_band 26 = .ok (.iload 4, 2) := by decide +kernel
theorem dX12_band_28 : decode cX12_band 28 = .ok (.iconst 1, 1) := by decide +kernel
theorem dX12_band_29 : decode cX12_band 29 = .ok (.sipush 999, 3) := by decide +kernel
theorem dX12_band_32 : decode cX12_band 32 = .ok (.invokestatic 95, 3) := by decide +kernel
theorem dX12_band_35 : decode cX12_band 35 = .ok (.ifCond .ne 5, 3) := by decide +kernel
theorem dX12_band_38 : decode cX12_band 38 = .ok (.iconst (-1), 1) := by decide +kernel
theorem dX12_band_39 : decode cX12_band 39 = .ok (.ireturn, 1) := by decide +kernel
theorem dX12_band_40 : decode cX12_band 40 = .ok (.aload_n 0, 1) := by decide +kernel
theorem dX12_band_41 : decode cX12_band 41 = .ok (.getfield 13, 3) := by decide +kernel
theorem dX12_band_44 : decode cX12_band 44 = .ok (.bipush 8, 2) := by decide +kernel
theorem dX12_band_46 : decode cX12_band 46 = .ok (.iload_n 1, 1) := by decide +kernel
theorem dX12_band_47 : decode cX12_band 47 = .ok (.imul, 1) := by decide +kernel
theorem dX12_band_48 : decode cX12_band 48 = .ok (.iload_n 2, 1) := by decide +kernel
theorem dX12_band_49 : decode cX12_band 49 = .ok (.iadd, 1) := by decide +kernel
theorem dX12_band_50 : decode cX12_band 50 = .ok (.iload_n 3, 1) := by decide +kernel
theorem dX12_band_51 : decode cX12_band 51 = .ok (.iastore, 1) := by decide +kernel
theorem dX12_band_52 : decode cX12_band 52 = .ok (.aload_n 0, 1) := by decide +kernel
theorem dX12_band_53 : decode cX12_band 53 = .ok (.getfield 17, 3) := by decide +kernel
theorem dX12_band_56 : decode cX12_band 56 = .ok (.bipush 8, 2) := by decide +kernel
theorem dX12_band_58 : decode cX12_band 58 = .ok (.iload_n 1, 1) := by decide +kernel
theorem dX12_band_59 : decode cX12_band 59 = .ok (.imul, 1) := by decide +kernel
theorem dX12_band_60 : decode cX12_band 60 = .ok (.iload_n 2, 1) := by decide +kernel
theorem dX12_band_61 : decode cX12_band 61 = .ok (.iadd, 1) := by decide +kernel
theorem dX12_band_62 : decode cX12_band 62 = .ok (.iload 4, 2) := by decide +kernel
theorem dX12_band_64 : decode cX12_band 64 = .ok (.iastore, 1) := by decide +kernel
theorem dX12_band_65 : decode cX12_band 65 = .ok (.iconst 1, 1) := by decide +kernel
theorem dX12_band_66 : decode cX12_band 66 = .ok (.ireturn, 1) := by decide +kernel
theorem dX12_inPots_0 : decode cX12_inPots 0 = .ok (.iconst 0, 1) := by decide +kernel
theorem dX12_inPots_1 : decode cX12_inPots 1 = .ok (.istore_n 2, 1) := by decide +kernel
theorem dX12_inPots_2 : decode cX12_inPots 2 = .ok (.iconst 0, 1) := by decide +kernel
theorem dX12_inPots_3 : decode cX12_inPots 3 = .ok (.istore_n 3, 1) := by decide +kernel
theorem dX12_inPots_4 : decode cX12_inPots 4 = .ok (.iload_n 3, 1) := by decide +kernel
theorem dX12_inPots_5 : decode cX12_inPots 5 = .ok (.bipush 10, 2) := by decide +kernel
theorem dX12_inPots_7 : decode cX12_inPots 7 = .ok (.if_icmp .ge 23, 3) := by decide +kernel
theorem dX12_inPots_10 : decode cX12_inPots 10 = .ok (.iload_n 2, 1) := by decide +kernel
theorem dX12_inPots_11 : decode cX12_inPots 11 = .ok (.aload_n 0, 1) := by decide +kernel
theorem dX12_inPots_12 : decode cX12_inPots 12 = .ok (.getfield 44, 3) := by decide +kernel
theorem dX12_inPots_15 : decode cX12_inPots 15 = .ok (.bipush 12, 2) := by decide +kernel
theorem dX12_inPots_17 : decode cX12_inPots 17 = .ok (.iload_n 3, 1) := by decide +kernel
theorem dX12_inPots_18 : decode cX12_inPots 18 = .ok (.imul, 1) := by decide +kernel
theorem dX12_inPots_19 : decode cX12_inPots 19 = .ok (.iload_n 1, 1) := by decide +kernel
theorem dX12_inPots_20 : decode cX12_inPots 20 = .ok (.iadd, 1) := by decide +kernel
theorem dX12_inPots_21 : decode cX12_inPots 21 = .ok (.iaload, 1) := by decide +kernel
theorem dX12_inPots_22 : decode cX12_inPots 22 = .ok (.iadd, 1) := by decide +kernel
theorem dX12_inPots_23 : decode cX12_inPots 23 = .ok (.istore_n 2, 1) := by decide +kernel
theorem dX12_inPots_24 : decode cX12_inPots 24 = .ok (.iinc 3 1, 3) := by decide +kernel
theorem dX12_inPots_27 : decode cX12_inPots 27 = .ok (.goto (-23), 3) := by decide +kernel
theorem dX12_inPots_30 : decode cX12_inPots 30 = .ok (.iload_n 2, 1) := by decide +kernel
theorem dX12_inPots_31 : decode cX12_inPots 31 = .ok (.ireturn, 1) := by decide +kernel
theorem dX12_ofTube_0 : decode cX12_ofTube 0 = .ok (.aload_n 0, 1) := by decide +kernel
theorem dX12_ofTube_1 : decode cX12_ofTube 1 = .ok (.iload_n 1, 1) := by decide +kernel
theorem dX12_ofTube_2 : decode cX12_ofTube 2 = .ok (.invokevirtual 99, 3) := by decide +kernel
theorem dX12_ofTube_5 : decode cX12_ofTube 5 = .ok (.ifCond .ne 5, 3) := by decide +kernel
theorem dX12_ofTube_8 : decode cX12_ofTube 8 = .ok (.iconst (-1), 1) := by decide +kernel
theorem dX12_ofTube_9 : decode cX12_ofTube 9 = .ok (.ireturn, 1) := by decide +kernel
theorem dX12_ofTube_10 : decode cX12_ofTube 10 = .ok (.iload_n 2, 1) := by decide +kernel
theorem dX12_ofTube_11 : decode cX12_ofTube 11 = .ok (.tableswitch 78 0 5 #[37, 44, 51, 58, 64, 71], 37) := by decide +kernel
theorem dX12_ofTube_48 : decode cX12_ofTube 48 = .ok (.aload_n 0, 1) := by decide +kernel
theorem dX12_ofTube_49 : decode cX12_ofTube 49 = .ok (.getfield 20, 3) := by decide +kernel
theorem dX12_ofTube_52 : decode cX12_ofTube 52 = .ok (.iload_n 1, 1) := by decide +kernel
theorem dX12_ofTube_53 : decode cX12_ofTube 53 = .ok (.iaload, 1) := by decide +kernel
theorem dX12_ofTube_54 : decode cX12_ofTube 54 = .ok (.ireturn, 1) := by decide +kernel
theorem dX12_ofTube_55 : decode cX12_ofTube 55 = .ok (.aload_n 0, 1) := by decide +kernel
theorem dX12_ofTube_56 : decode cX12_ofTube 56 = .ok (.getfield 23, 3) := by decide +kernel
theorem dX12_ofTube_59 : decode cX12_ofTube 59 = .ok (.iload_n 1, 1) := by decide +kernel
theorem dX12_ofTube_60 : decode cX12_ofTube 60 = .ok (.iaload, 1) := by decide +kernel
theorem dX12_ofTube_61 : decode cX12_ofTube 61 = .ok (.ireturn, 1) := by decide +kernel
theorem dX12_ofTube_62 : decode cX12_ofTube 62 = .ok (.aload_n 0, 1) := by decide +kernel
theorem dX12_ofTube_63 : decode cX12_ofTube 63 = .ok (.getfield 26, 3) := by decide +kernel
theorem dX12_ofTube_66 : decode cX12_ofTube 66 = .ok (.iload_n 1, 1) := by decide +kernel
theorem dX12_ofTube_67 : decode cX12_ofTube 67 = .ok (.iaload, 1) := by decide +kernel
theorem dX12_ofTube_68 : decode cX12_ofTube 68 = .ok (.ireturn, 1) := by decide +kernel
theorem dX12_ofTube_69 : decode cX12_ofTube 69 = .ok (.aload_n 0, 1) := by decide +kernel
theorem dX12_ofTube_70 : decode cX12_ofTube 70 = .ok (.iload_n 1, 1) := by decide +kernel
theorem dX12_ofTube_71 : decode cX12_ofTube 71 = .ok (.invokevirtual 106, 3) := by decide +kernel
theorem dX12_ofTube_74 : decode cX12_ofTube 74 = .ok (.ireturn, 1) := by decide +kernel
theorem dX12_ofTube_75 : decode cX12_ofTube 75 = .ok (.aload_n 0, 1) := by decide +kernel
theorem dX12_ofTube_76 : decode cX12_ofTube 76 = .ok (.getfield 29, 3) := by decide +kernel
theorem dX12_ofTube_79 : decode cX12_ofTube 79 = .ok (.iload_n 1, 1) := by decide +kernel
theorem dX12_ofTube_80 : decode cX12_ofTube 80 = .ok (.iaload, 1) := by decide +kernel
theorem dX12_ofTube_81 : decode cX12_ofTube 81 = .ok (.ireturn, 1) := by decide +kernel
theorem dX12_ofTube_82 : decode cX12_ofTube 82 = .ok (.aload_n 0, 1) := by decide +kernel
theorem dX12_ofTube_83 : decode cX12_ofTube 83 = .ok (.getfield 32, 3) := by decide +kernel
theorem dX12_ofTube_86 : decode cX12_ofTube 86 = .ok (.iload_n 1, 1) := by decide +kernel
theorem dX12_ofTube_87 : decode cX12_ofTube 87 = .ok (.iaload, 1) := by decide +kernel
theorem dX12_ofTube_88 : decode cX12_ofTube 88 = .ok (.ireturn, 1) := by decide +kernel
theorem dX12_ofTube_89 : decode cX12_ofTube 89 = .ok (.iconst (-1), 1) := by decide +kernel
theorem dX12_ofTube_90 : decode cX12_ofTube 90 = .ok (.ireturn, 1) := by decide +kernel
theorem dX12_faded_0 : decode cX12_faded 0 = .ok (.aload_n 0, 1) := by decide +kernel
theorem dX12_faded_1 : decode cX12_faded 1 = .ok (.getfield 13, 3) := by decide +kernel
theorem dX12_faded_4 : decode cX12_faded 4 = .ok (.bipush 8, 2) := by decide +kernel
theorem dX12_faded_6 : decode cX12_faded 6 = .ok (.iload_n 1, 1) := by decide +kernel
theorem dX12_faded_7 : decode cX12_faded 7 = .ok (.imul, 1) := by decide +kernel
theorem dX12_faded_8 : decode cX12_faded 8 = .ok (.iload_n 2, 1) := by decide +kernel
theorem dX12_faded_9 : decode cX12_faded 9 = .ok (.iadd, 1) := by decide +kernel
theorem dX12_faded_10 : decode cX12_faded 10 = .ok (.iaload, 1) := by decide +kernel
theorem dX12_faded_11 : decode cX12_faded 11 = .ok (.istore 4, 2) := by decide +kernel
theorem dX12_faded_13 : decode cX12_faded 13 = .ok (.iconst 0, 1) := by decide +kernel
theorem dX12_faded_14 : decode cX12_faded 14 = .ok (.istore 5, 2) := by decide +kernel
theorem dX12_faded_16 : decode cX12_faded 16 = .ok (.iload 5, 2) := by decide +kernel
theorem dX12_faded_18 : decode cX12_faded 18 = .ok (.iload_n 3, 1) := by decide +kernel
theorem dX12_faded_19 : decode cX12_faded 19 = .ok (.if_icmp .ge 33, 3) := by decide +kernel
theorem dX12_faded_22 : decode cX12_faded 22 = .ok (.iload 4, 2) := by decide +kernel
theorem dX12_faded_24 : decode cX12_faded 24 = .ok (.ifCond .le 28, 3) := by decide +kernel
theorem dX12_faded_27 : decode cX12_faded 27 = .ok (.iload 4, 2) := by decide +kernel
theorem dX12_faded_29 : decode cX12_faded 29 = .ok (.sipush 1000, 3) := by decide +kernel
theorem dX12_faded_32 : decode cX12_faded 32 = .ok (.aload_n 0, 1) := by decide +kernel
theorem dX12_faded_33 : decode cX12_faded 33 = .ok (.getfield 23, 3) := by decide +kernel
theorem dX12_faded_36 : decode cX12_faded 36 = .ok (.iload_n 1, 1) := by decide +kernel
theorem dX12_faded_37 : decode cX12_faded 37 = .ok (.iaload, 1) := by decide +kernel
theorem dX12_faded_38 : decode cX12_faded 38 = .ok (.isub, 1) := by decide +kernel
theorem dX12_faded_39 : decode cX12_faded 39 = .ok (.imul, 1) := by decide +kernel
theorem dX12_faded_40 : decode cX12_faded 40 = .ok (.sipush 1000, 3) := by decide +kernel
theorem dX12_faded_43 : decode cX12_faded 43 = .ok (.idiv, 1) := by decide +kernel
theorem dX12_faded_44 : decode cX12_faded 44 = .ok (.istore 4, 2) := by decide +kernel
theorem dX12_faded_46 : decode cX12_faded 46 = .ok (.iinc 5 1, 3) := by decide +kernel
theorem dX12_faded_49 : decode cX12_faded 49 = .ok (.goto (-33), 3) := by decide +kernel
theorem dX12_faded_52 : decode cX12_faded 52 = .ok (.iload 4, 2) := by decide +kernel
theorem dX12_faded_54 : decode cX12_faded 54 = .ok (.ireturn, 1) := by decide +kernel
theorem dX12_row_0 : decode cX12_row 0 = .ok (.aload_n 0, 1) := by decide +kernel
theorem dX12_row_1 : decode cX12_row 1 = .ok (.iload_n 1, 1) := by decide +kernel
theorem dX12_row_2 : decode cX12_row 2 = .ok (.invokevirtual 99, 3) := by decide +kernel
theorem dX12_row_5 : decode cX12_row 5 = .ok (.ifCond .eq 30, 3) := by decide +kernel
theorem dX12_row_8 : decode cX12_row 8 = .ok (.iload_n 2, 1) := by decide +kernel
theorem dX12_row_9 : decode cX12_row 9 = .ok (.invokestatic 103, 3) := by decide +kernel
theorem dX12_row_12 : decode cX12_row 12 = .ok (.ifCond .eq 23, 3) := by decide +kernel
theorem dX12_row_15 : decode cX12_row 15 = .ok (.iload_n 3, 1) := by decide +kernel
theorem dX12_row_16 : decode cX12_row 16 = .ok (.iconst 0, 1) := by decide +kernel
theorem dX12_row_17 : decode cX12_row 17 = .ok (.bipush 99, 2) := by decide +kernel
theorem dX12_row_19 : decode cX12_row 19 = .ok (.invokestatic 95, 3) := by decide +kernel
theorem dX12_row_22 : decode cX12_row 22 = .ok (.ifCond .eq 13, 3) := by decide +kernel
theorem dX12_row_25 : decode cX12_row 25 = .ok (.iload 4, 2) := by decide +kernel
theorem dX12_row_27 : decode cX12_row 27 = .ok (.iconst 0, 1) := by decide +kernel
theorem dX12_row_28 : decode cX12_row 28 = .ok (.iconst 1, 1) := by decide +kernel
theorem dX12_row_29 : decode cX12_row 29 = .ok (.invokestatic 95, 3) := by decide +kernel
theorem dX12_row_32 : decode cX12_row 32 = .ok (.ifCond .ne 7, 3) := by decide +kernel
theorem dX12_row_35 : decode cX12_row 35 = .ok (.iconst (-1), 1) := by decide +kernel
theorem dX12_row_36 : decode cX12_row 36 = .ok (.goto 29, 3) := by decide +kernel
theorem dX12_row_39 : decode cX12_row 39 = .ok (.iload 4, 2) := by decide +kernel
theorem dX12_row_41 : decode cX12_row 41 = .ok (.ifCond .ne 13, 3) := by decide +kernel
theorem dX12_row_44 : decode cX12_row 44 = .ok (.aload_n 0, 1) := by decide +kernel
theorem dX12_row_45 : decode cX12_row 45 = .ok (.iload_n 1, 1) := by decide +kernel
theorem dX12_row_46 : decode cX12_row 46 = .ok (.iload_n 2, 1) := by decide +kernel
theorem dX12_row_47 : decode cX12_row 47 = .ok (.iload_n 3, 1) := by decide +kernel
theorem dX12_row_48 : decode cX12_row 48 = .ok (.invokevirtual 110, 3) := by decide +kernel
theorem dX12_row_51 : decode cX12_row 51 = .ok (.goto 14, 3) := by decide +kernel
theorem dX12_row_54 : decode cX12_row 54 = .ok (.aload_n 0, 1) := by decide +kernel
theorem dX12_row_55 : decode cX12_row 55 = .ok (.getfield 17, 3) := by decide +kernel
theorem dX12_row_58 : decode cX12_row 58 = .ok (.bipush 8, 2) := by decide +kernel
theorem dX12_row_60 : decode cX12_row 60 = .ok (.iload_n 1, 1) := by decide +kernel
theorem dX12_row_61 : decode cX12_row 61 = .ok (.imul, 1) := by decide +kernel
theorem dX12_row_62 : decode cX12_row 62 = .ok (.iload_n 2, 1) := by decide +kernel
theorem dX12_row_63 : decode cX12_row 63 = .ok (.iadd, 1) := by decide +kernel
theorem dX12_row_64 : decode cX12_row 64 = .ok (.iaload, 1) := by decide +kernel
theorem dX12_row_65 : decode cX12_row 65 = .ok (.ireturn, 1) := by decide +kernel
theorem dX12_lamp_0 : decode cX12_lamp 0 = .ok (.iload_n 1, 1) := by decide +kernel
theorem dX12_lamp_1 : decode cX12_lamp 1 = .ok (.invokestatic 114, 3) := by decide +kernel
theorem dX12_lamp_4 : decode cX12_lamp 4 = .ok (.ifCond .eq 20, 3) := by decide +kernel
theorem dX12_lamp_7 : decode cX12_lamp 7 = .ok (.iload_n 2, 1) := by decide +kernel
theorem dX12_lamp_8 : decode cX12_lamp 8 = .ok (.invokestatic 103, 3) := by decide +kernel
theorem dX12_lamp_11 : decode cX12_lamp 11 = .ok (.ifCond .eq 13, 3) := by decide +kernel
theorem dX12_lamp_14 : decode cX12_lamp 14 = .ok (.iload_n 3, 1) := by decide +kernel
theorem dX12_lamp_15 : decode cX12_lamp 15 = .ok (.iconst 0, 1) := by decide +kernel
theorem dX12_lamp_16 : decode cX12_lamp 16 = .ok (.bipush 99, 2) := by decide +kernel
theorem dX12_lamp_18 : decode cX12_lamp 18 = .ok (.invokestatic 95, 3) := by decide +kernel
theorem dX12_lamp_21 : decode cX12_lamp 21 = .ok (.ifCond .ne 5, 3) := by decide +kernel
theorem dX12_lamp_24 : decode cX12_lamp 24 = .ok (.iconst (-1), 1) := by decide +kernel
theorem dX12_lamp_25 : decode cX12_lamp 25 = .ok (.ireturn, 1) := by decide +kernel
theorem dX12_lamp_26 : decode cX12_lamp 26 = .ok (.aload_n 0, 1) := by decide +kernel
theorem dX12_lamp_27 : decode cX12_lamp 27 = .ok (.getfield 35, 3) := by decide +kernel
theorem dX12_lamp_30 : decode cX12_lamp 30 = .ok (.bipush 8, 2) := by decide +kernel
theorem dX12_lamp_32 : decode cX12_lamp 32 = .ok (.iload_n 1, 1) := by decide +kernel
theorem dX12_lamp_33 : decode cX12_lamp 33 = .ok (.imul, 1) := by decide +kernel
theorem dX12_lamp_34 : decode cX12_lamp 34 = .ok (.iload_n 2, 1) := by decide +kernel
theorem dX12_lamp_35 : decode cX12_lamp 35 = .ok (.iadd, 1) := by decide +kernel
theorem dX12_lamp_36 : decode cX12_lamp 36 = .ok (.iaload, 1) := by decide +kernel
theorem dX12_lamp_37 : decode cX12_lamp 37 = .ok (.istore 4, 2) := by decide +kernel
theorem dX12_lamp_39 : decode cX12_lamp 39 = .ok (.aload_n 0, 1) := by decide +kernel
theorem dX12_lamp_40 : decode cX12_lamp 40 = .ok (.getfield 35, 3) := by decide +kernel
theorem dX12_lamp_43 : decode cX12_lamp 43 = .ok (.bipush 8, 2) := by decide +kernel
theorem dX12_lamp_45 : decode cX12_lamp 45 = .ok (.iload_n 1, 1) := by decide +kernel
theorem dX12_lamp_46 : decode cX12_lamp 46 = .ok (.imul, 1) := by decide +kernel
theorem dX12_lamp_47 : decode cX12_lamp 47 = .ok (.iload_n 2, 1) := by decide +kernel
theorem dX12_lamp_48 : decode cX12_lamp 48 = .ok (.iadd, 1) := by decide +kernel
theorem dX12_lamp_49 : decode cX12_lamp 49 = .ok (.iload_n 3, 1) := by decide +kernel
theorem dX12_lamp_50 : decode cX12_lamp 50 = .ok (.iastore, 1) := by decide +kernel
theorem dX12_lamp_51 : decode cX12_lamp 51 = .ok (.iload 4, 2) := by decide +kernel
theorem dX12_lamp_53 : decode cX12_lamp 53 = .ok (.ireturn, 1) := by decide +kernel
theorem dX12_eye_0 : decode cX12_eye 0 = .ok (.iload_n 1, 1) := by decide +kernel
theorem dX12_eye_1 : decode cX12_eye 1 = .ok (.invokestatic 117, 3) := by decide +kernel
theorem dX12_eye_4 : decode cX12_eye 4 = .ok (.ifCond .eq 20, 3) := by decide +kernel
theorem dX12_eye_7 : decode cX12_eye 7 = .ok (.iload_n 2, 1) := by decide +kernel
theorem dX12_eye_8 : decode cX12_eye 8 = .ok (.invokestatic 103, 3) := by decide +kernel
theorem dX12_eye_11 : decode cX12_eye 11 = .ok (.ifCond .eq 13, 3) := by decide +kernel
theorem dX12_eye_14 : decode cX12_eye 14 = .ok (.iload_n 3, 1) := by decide +kernel
theorem dX12_eye_15 : decode cX12_eye 15 = .ok (.iconst 0, 1) := by decide +kernel
theorem dX12_eye_16 : decode cX12_eye 16 = .ok (.bipush 99, 2) := by decide +kernel
theorem dX12_eye_18 : decode cX12_eye 18 = .ok (.invokestatic 95, 3) := by decide +kernel
theorem dX12_eye_21 : decode cX12_eye 21 = .ok (.ifCond .ne 5, 3) := by decide +kernel
theorem dX12_eye_24 : decode cX12_eye 24 = .ok (.iconst (-1), 1) := by decide +kernel
theorem dX12_eye_25 : decode cX12_eye 25 = .ok (.ireturn, 1) := by decide +kernel
theorem dX12_eye_26 : decode cX12_eye 26 = .ok (.aload_n 0, 1) := by decide +kernel
theorem dX12_eye_27 : decode cX12_eye 27 = .ok (.getfield 38, 3) := by decide +kernel
theorem dX12_eye_30 : decode cX12_eye 30 = .ok (.bipush 8, 2) := by decide +kernel
theorem dX12_eye_32 : decode cX12_eye 32 = .ok (.iload_n 1, 1) := by decide +kernel
theorem dX12_eye_33 : decode cX12_eye 33 = .ok (.imul, 1) := by decide +kernel
theorem dX12_eye_34 : decode cX12_eye 34 = .ok (.iload_n 2, 1) := by decide +kernel
theorem dX12_eye_35 : decode cX12_eye 35 = .ok (.iadd, 1) := by decide +kernel
theorem dX12_eye_36 : decode cX12_eye 36 = .ok (.iaload, 1) := by decide +kernel
theorem dX12_eye_37 : decode cX12_eye 37 = .ok (.istore 4, 2) := by decide +kernel
theorem dX12_eye_39 : decode cX12_eye 39 = .ok (.aload_n 0, 1) := by decide +kernel
theorem dX12_eye_40 : decode cX12_eye 40 = .ok (.getfield 38, 3) := by decide +kernel
theorem dX12_eye_43 : decode cX12_eye 43 = .ok (.bipush 8, 2) := by decide +kernel
theorem dX12_eye_45 : decode cX12_eye 45 = .ok (.iload_n 1, 1) := by decide +kernel
theorem dX12_eye_46 : decode cX12_eye 46 = .ok (.imul, 1) := by decide +kernel
theorem dX12_eye_47 : decode cX12_eye 47 = .ok (.iload_n 2, 1) := by decide +kernel
theorem dX12_eye_48 : decode cX12_eye 48 = .ok (.iadd, 1) := by decide +kernel
theorem dX12_eye_49 : decode cX12_eye 49 = .ok (.iload_n 3, 1) := by decide +kernel
theorem dX12_eye_50 : decode cX12_eye 50 = .ok (.iastore, 1) := by decide +kernel
theorem dX12_eye_51 : decode cX12_eye 51 = .ok (.iload 4, 2) := by decide +kernel
theorem dX12_eye_53 : decode cX12_eye 53 = .ok (.ireturn, 1) := by decide +kernel
theorem dX12_years_0 : decode cX12_years 0 = .ok (.iload_n 1, 1) := by decide +kernel
theorem dX12_years_1 : decode cX12_years 1 = .ok (.iconst 1, 1) := by decide +kernel
theorem dX12_years_2 : decode cX12_years 2 = .ok (.bipush 99, 2) := by decide +kernel
theorem dX12_years_4 : decode cX12_years 4 = .ok (.invokestatic 95, 3) := by decide +kernel
theorem dX12_years_7 : decode cX12_years 7 = .ok (.ifCond .eq 14, 3) := by decide +kernel
theorem dX12_years_10 : decode cX12_years 10 = .ok (.aload_n 0, 1) := by decide +kernel
theorem dX12_years_11 : decode cX12_years 11 = .ok (.getfield 120, 3) := by decide +kernel
theorem dX12_years_14 : decode cX12_years 14 = .ok (.iload_n 1, 1) := by decide +kernel
theorem dX12_years_15 : decode cX12_years 15 = .ok (.iadd, 1) := by decide +kernel
theorem dX12_years_16 : decode cX12_years 16 = .ok (.bipush 99, 2) := by decide +kernel
theorem dX12_years_18 : decode cX12_years 18 = .ok (.if_icmp .le 5, 3) := by decide +kernel
theorem dX12_years_21 : decode cX12_years 21 = .ok (.iconst (-1), 1) := by decide +kernel
theorem dX12_years_22 : decode cX12_years 22 = .ok (.ireturn, 1) := by decide +kernel
theorem dX12_years_23 : decode cX12_years 23 = .ok (.aload_n 0, 1) := by decide +kernel
theorem dX12_years_24 : decode cX12_years 24 = .ok (.dup, 1) := by decide +kernel
theorem dX12_years_25 : decode cX12_years 25 = .ok (.getfield 120, 3) := by decide +kernel
theorem dX12_years_28 : decode cX12_years 28 = .ok (.iload_n 1, 1) := by decide +kernel
theorem dX12_years_29 : decode cX12_years 29 = .ok (.iadd, 1) := by decide +kernel
theorem dX12_years_30 : decode cX12_years 30 = .ok (.putfield 120, 3) := by decide +kernel
theorem dX12_years_33 : decode cX12_years 33 = .ok (.aload_n 0, 1) := by decide +kernel
theorem dX12_years_34 : decode cX12_years 34 = .ok (.getfield 120, 3) := by decide +kernel
theorem dX12_years_37 : decode cX12_years 37 = .ok (.ireturn, 1) := by decide +kernel
theorem dX12_root_0 : decode cX12_root 0 = .ok (.lconst 0, 1) := by decide +kernel
theorem dX12_root_1 : decode cX12_root 1 = .ok (.lstore_n 2, 1) := by decide +kernel
theorem dX12_root_2 : decode cX12_root 2 = .ok (.ldc2_w 123, 3) := by decide +kernel
theorem dX12_root_5 : decode cX12_root 5 = .ok (.lstore 4, 2) := by decide +kernel
theorem dX12_root_7 : decode cX12_root 7 = .ok (.lload 4, 2) := by decide +kernel
theorem dX12_root_9 : decode cX12_root 9 = .ok (.lload_n 2, 1) := by decide +kernel
theorem dX12_root_10 : decode cX12_root 10 = .ok (.lsub, 1) := by decide +kernel
theorem dX12_root_11 : decode cX12_root 11 = .ok (.lconst 1, 1) := by decide +kernel
theorem dX12_root_12 : decode cX12_root 12 = .ok (.lcmp, 1) := by decide +kernel
theorem dX12_root_13 : decode cX12_root 13 = .ok (.ifCond .le 36, 3) := by decide +kernel
theorem dX12_root_16 : decode cX12_root 16 = .ok (.lload_n 2, 1) := by decide +kernel
theorem dX12_root_17 : decode cX12_root 17 = .ok (.lload 4, 2) := by decide +kernel
theorem dX12_root_19 : decode cX12_root 19 = .ok (.ladd, 1) := by decide +kernel
theorem dX12_root_20 : decode cX12_root 20 = .ok (.ldc2_w 125, 3) := by decide +kernel
theorem dX12_root_23 : decode cX12_root 23 = .ok (.ldiv, 1) := by decide +kernel
theorem dX12_root_24 : decode cX12_root 24 = .ok (.lstore 6, 2) := by decide +kernel
theorem dX12_root_26 : decode cX12_root 26 = .ok (.lload 6, 2) := by decide +kernel
theorem dX12_root_28 : decode cX12_root 28 = .ok (.lload 6, 2) := by decide +kernel
theorem dX12_root_30 : decode cX12_root 30 = .ok (.lmul, 1) := by decide +kernel
theorem dX12_root_31 : decode cX12_root 31 = .ok (.lload_n 0, 1) := by decide +kernel
theorem dX12_root_32 : decode cX12_root 32 = .ok (.lcmp, 1) := by decide +kernel
theorem dX12_root_33 : decode cX12_root 33 = .ok (.ifCond .gt 9, 3) := by decide +kernel
theorem dX12_root_36 : decode cX12_root 36 = .ok (.lload 6, 2) := by decide +kernel
theorem dX12_root_38 : decode cX12_root 38 = .ok (.lstore_n 2, 1) := by decide +kernel
theorem dX12_root_39 : decode cX12_root 39 = .ok (.goto 7, 3) := by decide +kernel
theorem dX12_root_42 : decode cX12_root 42 = .ok (.lload 6, 2) := by decide +kernel
theorem dX12_root_44 : decode cX12_root 44 = .ok (.lstore 4, 2) := by decide +kernel
theorem dX12_root_46 : decode cX12_root 46 = .ok (.goto (-39), 3) := by decide +kernel
theorem dX12_root_49 : decode cX12_root 49 = .ok (.lload_n 2, 1) := by decide +kernel
theorem dX12_root_50 : decode cX12_root 50 = .ok (.lreturn, 1) := by decide +kernel
theorem dX12_thickBy_0 : decode cX12_thickBy 0 = .ok (.ldc2_w 127, 3) := by decide +kernel
theorem dX12_thickBy_3 : decode cX12_thickBy 3 = .ok (.lload_n 0, 1) := by decide +kernel
theorem dX12_thickBy_4 : decode cX12_thickBy 4 = .ok (.lmul, 1) := by decide +kernel
theorem dX12_thickBy_5 : decode cX12_thickBy 5 = .ok (.lload_n 2, 1) := by decide +kernel
theorem dX12_thickBy_6 : decode cX12_thickBy 6 = .ok (.ldiv, 1) := by decide +kernel
theorem dX12_thickBy_7 : decode cX12_thickBy 7 = .ok (.lstore 4, 2) := by decide +kernel
theorem dX12_thickBy_9 : decode cX12_thickBy 9 = .ok (.ldc2_w 127, 3) := by decide +kernel
theorem dX12_thickBy_12 : decode cX12_thickBy 12 = .ok (.lload 4, 2) := by decide +kernel
theorem dX12_thickBy_14 : decode cX12_thickBy 14 = .ok (.ladd, 1) := by decide +kernel
theorem dX12_thickBy_15 : decode cX12_thickBy 15 = .ok (.lload 4, 2) := by decide +kernel
theorem dX12_thickBy_17 : decode cX12_thickBy 17 = .ok (.lload 4, 2) := by decide +kernel
theorem dX12_thickBy_19 : decode cX12_thickBy 19 = .ok (.lmul, 1) := by decide +kernel
theorem dX12_thickBy_20 : decode cX12_thickBy 20 = .ok (.ldc2_w 129, 3) := by decide +kernel
theorem dX12_thickBy_23 : decode cX12_thickBy 23 = .ok (.lload 4, 2) := by decide +kernel
theorem dX12_thickBy_25 : decode cX12_thickBy 25 = .ok (.lmul, 1) := by decide +kernel
theorem dX12_thickBy_26 : decode cX12_thickBy 26 = .ok (.ladd, 1) := by decide +kernel
theorem dX12_thickBy_27 : decode cX12_thickBy 27 = .ok (.invokestatic 131, 3) := by decide +kernel
theorem dX12_thickBy_30 : decode cX12_thickBy 30 = .ok (.lsub, 1) := by decide +kernel
theorem dX12_thickBy_31 : decode cX12_thickBy 31 = .ok (.l2i, 1) := by decide +kernel
theorem dX12_thickBy_32 : decode cX12_thickBy 32 = .ok (.ireturn, 1) := by decide +kernel
theorem dX12_thinBy_0 : decode cX12_thinBy 0 = .ok (.ldc2_w 135, 3) := by decide +kernel
theorem dX12_thinBy_3 : decode cX12_thinBy 3 = .ok (.lload_n 0, 1) := by decide +kernel
theorem dX12_thinBy_4 : decode cX12_thinBy 4 = .ok (.lmul, 1) := by decide +kernel
theorem dX12_thinBy_5 : decode cX12_thinBy 5 = .ok (.ldc2_w 137, 3) := by decide +kernel
theorem dX12_thinBy_8 : decode cX12_thinBy 8 = .ok (.lload_n 0, 1) := by decide +kernel
theorem dX12_thinBy_9 : decode cX12_thinBy 9 = .ok (.lload_n 2, 1) := by decide +kernel
theorem dX12_thinBy_10 : decode cX12_thinBy 10 = .ok (.ladd, 1) := by decide +kernel
theorem dX12_thinBy_11 : decode cX12_thinBy 11 = .ok (.lmul, 1) := by decide +kernel
theorem dX12_thinBy_12 : decode cX12_thinBy 12 = .ok (.ldiv, 1) := by decide +kernel
theorem dX12_thinBy_13 : decode cX12_thinBy 13 = .ok (.lstore 5, 2) := by decide +kernel
theorem dX12_thinBy_15 : decode cX12_thinBy 15 = .ok (.ldc2_w 135, 3) := by decide +kernel
theorem dX12_thinBy_18 : decode cX12_thinBy 18 = .ok (.lload_n 2, 1) := by decide +kernel
theorem dX12_thinBy_19 : decode cX12_thinBy 19 = .ok (.lmul, 1) := by decide +kernel
theorem dX12_thinBy_20 : decode cX12_thinBy 20 = .ok (.ldc2_w 137, 3) := by decide +kernel
theorem dX12_thinBy_23 : decode cX12_thinBy 23 = .ok (.lload_n 0, 1) := by decide +kernel
theorem dX12_thinBy_24 : decode cX12_thinBy 24 = .ok (.lload_n 2, 1) := by decide +kernel
theorem dX12_thinBy_25 : decode cX12_thinBy 25 = .ok (.ladd, 1) := by decide +kernel
theorem dX12_thinBy_26 : decode cX12_thinBy 26 = .ok (.lmul, 1) := by decide +kernel
theorem dX12_thinBy_27 : decode cX12_thinBy 27 = .ok (.ldiv, 1) := by decide +kernel
theorem dX12_thinBy_28 : decode cX12_thinBy 28 = .ok (.lstore 7, 2) := by decide +kernel
theorem dX12_thinBy_30 : decode cX12_thinBy 30 = .ok (.ldc2_w 127, 3) := by decide +kernel
theorem dX12_thinBy_33 : decode cX12_thinBy 33 = .ok (.lload 5, 2) := by decide +kernel
theorem dX12_thinBy_35 : decode cX12_thinBy 35 = .ok (.lsub, 1) := by decide +kernel
theorem dX12_thinBy_36 : decode cX12_thinBy 36 = .ok (.lload 7, 2) := by decide +kernel
theorem dX12_thinBy_38 : decode cX12_thinBy 38 = .ok (.lsub, 1) := by decide +kernel
theorem dX12_thinBy_39 : decode cX12_thinBy 39 = .ok (.lstore 9, 2) := by decide +kernel
theorem dX12_thinBy_41 : decode cX12_thinBy 41 = .ok (.lload 7, 2) := by decide +kernel
theorem dX12_thinBy_43 : decode cX12_thinBy 43 = .ok (.lload 9, 2) := by decide +kernel
theorem dX12_thinBy_45 : decode cX12_thinBy 45 = .ok (.lload 9, 2) := by decide +kernel
theorem dX12_thinBy_47 : decode cX12_thinBy 47 = .ok (.lmul, 1) := by decide +kernel
theorem dX12_thinBy_48 : decode cX12_thinBy 48 = .ok (.iload 4, 2) := by decide +kernel
theorem dX12_thinBy_50 : decode cX12_thinBy 50 = .ok (.i2l, 1) := by decide +kernel
theorem dX12_thinBy_51 : decode cX12_thinBy 51 = .ok (.lmul, 1) := by decide +kernel
theorem dX12_thinBy_52 : decode cX12_thinBy 52 = .ok (.ldc2_w 139, 3) := by decide +kernel
theorem dX12_thinBy_55 : decode cX12_thinBy 55 = .ok (.lload 7, 2) := by decide +kernel
theorem dX12_thinBy_57 : decode cX12_thinBy 57 = .ok (.iload 4, 2) := by decide +kernel
theorem dX12_thinBy_59 : decode cX12_thinBy 59 = .ok (.i2l, 1) := by decide +kernel
theorem dX12_thinBy_60 : decode cX12_thinBy 60 = .ok (.lmul, 1) := by decide +kernel
theorem dX12_thinBy_61 : decode cX12_thinBy 61 = .ok (.lsub, 1) := by decide +kernel
theorem dX12_thinBy_62 : decode cX12_thinBy 62 = .ok (.ldiv, 1) := by decide +kernel
theorem dX12_thinBy_63 : decode cX12_thinBy 63 = .ok (.ladd, 1) := by decide +kernel
theorem dX12_thinBy_64 : decode cX12_thinBy 64 = .ok (.l2i, 1) := by decide +kernel
theorem dX12_thinBy_65 : decode cX12_thinBy 65 = .ok (.ireturn, 1) := by decide +kernel
theorem dX12_layerBy_0 : decode cX12_layerBy 0 = .ok (.iload 5, 2) := by decide +kernel
theorem dX12_layerBy_2 : decode cX12_layerBy 2 = .ok (.istore 6, 2) := by decide +kernel
theorem dX12_layerBy_4 : decode cX12_layerBy 4 = .ok (.iconst 0, 1) := by decide +kernel
theorem dX12_layerBy_5 : decode cX12_layerBy 5 = .ok (.istore 7, 2) := by decide +kernel
theorem dX12_layerBy_7 : decode cX12_layerBy 7 = .ok (.iload 7, 2) := by decide +kernel
theorem dX12_layerBy_9 : decode cX12_layerBy 9 = .ok (.iload 4, 2) := by decide +kernel
theorem dX12_layerBy_11 : decode cX12_layerBy 11 = .ok (.if_icmp .ge 18, 3) := by decide +kernel
theorem dX12_layerBy_14 : decode cX12_layerBy 14 = .ok (.lload_n 0, 1) := by decide +kernel
theorem dX12_layerBy_15 : decode cX12_layerBy 15 = .ok (.lload_n 2, 1) := by decide +kernel
theorem dX12_layerBy_16 : decode cX12_layerBy 16 = .ok (.iload 6, 2) := by decide +kernel
theorem dX12_layerBy_18 : decode cX12_layerBy 18 = .ok (.invokestatic 141, 3) := by decide +kernel
theorem dX12_layerBy_21 : decode cX12_layerBy 21 = .ok (.istore 6, 2) := by decide +kernel
theorem dX12_layerBy_23 : decode cX12_layerBy 23 = .ok (.iinc 7 1, 3) := by decide +kernel
theorem dX12_layerBy_26 : decode cX12_layerBy 26 = .ok (.goto (-19), 3) := by decide +kernel
theorem dX12_layerBy_29 : decode cX12_layerBy 29 = .ok (.iload 6, 2) := by decide +kernel
theorem dX12_layerBy_31 : decode cX12_layerBy 31 = .ok (.ireturn, 1) := by decide +kernel
theorem dX12_seenBy_0 : decode cX12_seenBy 0 = .ok (.lconst 0, 1) := by decide +kernel
theorem dX12_seenBy_1 : decode cX12_seenBy 1 = .ok (.lstore_n 3, 1) := by decide +kernel
theorem dX12_seenBy_2 : decode cX12_seenBy 2 = .ok (.lconst 0, 1) := by decide +kernel
theorem dX12_seenBy_3 : decode cX12_seenBy 3 = .ok (.lstore 5, 2) := by decide +kernel
theorem dX12_seenBy_5 : decode cX12_seenBy 5 = .ok (.iconst 0, 1) := by decide +kernel
theorem dX12_seenBy_6 : decode cX12_seenBy 6 = .ok (.istore 7, 2) := by decide +kernel
theorem dX12_seenBy_8 : decode cX12_seenBy 8 = .ok (.iload 7, 2) := by decide +kernel
theorem dX12_seenBy_10 : decode cX12_seenBy 10 = .ok (.bipush 8, 2) := by decide +kernel
theorem dX12_seenBy_12 : decode cX12_seenBy 12 = .ok (.if_icmp .ge 58, 3) := by decide +kernel
theorem dX12_seenBy_15 : decode cX12_seenBy 15 = .ok (.aload_n 0, 1) := by decide +kernel
theorem dX12_seenBy_16 : decode cX12_seenBy 16 = .ok (.getfield 35, 3) := by decide +kernel
theorem dX12_seenBy_19 : decode cX12_seenBy 19 = .ok (.bipush 8, 2) := by decide +kernel
theorem dX12_seenBy_21 : decode cX12_seenBy 21 = .ok (.iload_n 1, 1) := by decide +kernel
theorem dX12_seenBy_22 : decode cX12_seenBy 22 = .ok (.imul, 1) := by decide +kernel
theorem dX12_seenBy_23 : decode cX12_seenBy 23 = .ok (.iload 7, 2) := by decide +kernel
theorem dX12_seenBy_25 : decode cX12_seenBy 25 = .ok (.iadd, 1) := by decide +kernel
theorem dX12_seenBy_26 : decode cX12_seenBy 26 = .ok (.iaload, 1) := by decide +kernel
theorem dX12_seenBy_27 : decode cX12_seenBy 27 = .ok (.aload_n 0, 1) := by decide +kernel
theorem dX12_seenBy_28 : decode cX12_seenBy 28 = .ok (.getfield 38, 3) := by decide +kernel
theorem dX12_seenBy_31 : decode cX12_seenBy 31 = .ok (.bipush 8, 2) := by decide +kernel
theorem dX12_seenBy_33 : decode cX12_seenBy 33 = .ok (.iload_n 2, 1) := by decide +kernel
theorem dX12_seenBy_34 : decode cX12_seenBy 34 = .ok (.imul, 1) := by decide +kernel
theorem dX12_seenBy_35 : decode cX12_seenBy 35 = .ok (.iload 7, 2) := by decide +kernel
theorem dX12_seenBy_37 : decode cX12_seenBy 37 = .ok (.iadd, 1) := by decide +kernel
theorem dX12_seenBy_38 : decode cX12_seenBy 38 = .ok (.iaload, 1) := by decide +kernel
theorem dX12_seenBy_39 : decode cX12_seenBy 39 = .ok (.imul, 1) := by decide +kernel
theorem dX12_seenBy_40 : decode cX12_seenBy 40 = .ok (.i2l, 1) := by decide +kernel
theorem dX12_seenBy_41 : decode cX12_seenBy 41 = .ok (.lstore 8, 2) := by decide +kernel
theorem dX12_seenBy_43 : decode cX12_seenBy 43 = .ok (.lload_n 3, 1) := by decide +kernel
theorem dX12_seenBy_44 : decode cX12_seenBy 44 = .ok (.lload 8, 2) := by decide +kernel
theorem dX12_seenBy_46 : decode cX12_seenBy 46 = .ok (.aload_n 0, 1) := by decide +kernel
theorem dX12_seenBy_47 : decode cX12_seenBy 47 = .ok (.getfield 41, 3) := by decide +kernel
theorem dX12_seenBy_50 : decode cX12_seenBy 50 = .ok (.iload 7, 2) := by decide +kernel
theorem dX12_seenBy_52 : decode cX12_seenBy 52 = .ok (.iaload, 1) := by decide +kernel
theorem dX12_seenBy_53 : decode cX12_seenBy 53 = .ok (.i2l, 1) := by decide +kernel
theorem dX12_seenBy_54 : decode cX12_seenBy 54 = .ok (.lmul, 1) := by decide +kernel
theorem dX12_seenBy_55 : decode cX12_seenBy 55 = .ok (.ladd, 1) := by decide +kernel
theorem dX12_seenBy_56 : decode cX12_seenBy 56 = .ok (.lstore_n 3, 1) := by decide +kernel
theorem dX12_seenBy_57 : decode cX12_seenBy 57 = .ok (.lload 5, 2) := by decide +kernel
theorem dX12_seenBy_59 : decode cX12_seenBy 59 = .ok (.lload 8, 2) := by decide +kernel
theorem dX12_seenBy_61 : decode cX12_seenBy 61 = .ok (.ladd, 1) := by decide +kernel
theorem dX12_seenBy_62 : decode cX12_seenBy 62 = .ok (.lstore 5, 2) := by decide +kernel
theorem dX12_seenBy_64 : decode cX12_seenBy 64 = .ok (.iinc 7 1, 3) := by decide +kernel
theorem dX12_seenBy_67 : decode cX12_seenBy 67 = .ok (.goto (-59), 3) := by decide +kernel
theorem dX12_seenBy_70 : decode cX12_seenBy 70 = .ok (.lload 5, 2) := by decide +kernel
theorem dX12_seenBy_72 : decode cX12_seenBy 72 = .ok (.lconst 0, 1) := by decide +kernel
theorem dX12_seenBy_73 : decode cX12_seenBy 73 = .ok (.lcmp, 1) := by decide +kernel
theorem dX12_seenBy_74 : decode cX12_seenBy 74 = .ok (.ifCond .ne 7, 3) := by decide +kernel
theorem dX12_seenBy_77 : decode cX12_seenBy 77 = .ok (.iconst 0, 1) := by decide +kernel
theorem dX12_seenBy_78 : decode cX12_seenBy 78 = .ok (.goto 8, 3) := by decide +kernel
theorem dX12_seenBy_81 : decode cX12_seenBy 81 = .ok (.lload_n 3, 1) := by decide +kernel
theorem dX12_seenBy_82 : decode cX12_seenBy 82 = .ok (.lload 5, 2) := by decide +kernel
theorem dX12_seenBy_84 : decode cX12_seenBy 84 = .ok (.ldiv, 1) := by decide +kernel
theorem dX12_seenBy_85 : decode cX12_seenBy 85 = .ok (.l2i, 1) := by decide +kernel
theorem dX12_seenBy_86 : decode cX12_seenBy 86 = .ok (.ireturn, 1) := by decide +kernel
theorem dX12_off_0 : decode cX12_off 0 = .ok (.iload_n 0, 1) := by decide +kernel
theorem dX12_off_1 : decode cX12_off 1 = .ok (.iload_n 1, 1) := by decide +kernel
theorem dX12_off_2 : decode cX12_off 2 = .ok (.if_icmp .ge 9, 3) := by decide +kernel
theorem dX12_off_5 : decode cX12_off 5 = .ok (.iload_n 1, 1) := by decide +kernel
theorem dX12_off_6 : decode cX12_off 6 = .ok (.iload_n 0, 1) := by decide +kernel
theorem dX12_off_7 : decode cX12_off 7 = .ok (.isub, 1) := by decide +kernel
theorem dX12_off_8 : decode cX12_off 8 = .ok (.goto 6, 3) := by decide +kernel
theorem dX12_off_11 : decode cX12_off 11 = .ok (.iload_n 0, 1) := by decide +kernel
theorem dX12_off_12 : decode cX12_off 12 = .ok (.iload_n 1, 1) := by decide +kernel
theorem dX12_off_13 : decode cX12_off 13 = .ok (.isub, 1) := by decide +kernel
theorem dX12_off_14 : decode cX12_off 14 = .ok (.ireturn, 1) := by decide +kernel
theorem dX12_apartFrom_0 : decode cX12_apartFrom 0 = .ok (.aload_n 0, 1) := by decide +kernel
theorem dX12_apartFrom_1 : decode cX12_apartFrom 1 = .ok (.iload 4, 2) := by decide +kernel
theorem dX12_apartFrom_3 : decode cX12_apartFrom 3 = .ok (.iconst 0, 1) := by decide +kernel
theorem dX12_apartFrom_4 : decode cX12_apartFrom 4 = .ok (.invokevirtual 145, 3) := by decide +kernel
theorem dX12_apartFrom_7 : decode cX12_apartFrom 7 = .ok (.iload_n 1, 1) := by decide +kernel
theorem dX12_apartFrom_8 : decode cX12_apartFrom 8 = .ok (.invokestatic 149, 3) := by decide +kernel
theorem dX12_apartFrom_11 : decode cX12_apartFrom 11 = .ok (.aload_n 0, 1) := by decide +kernel
theorem dX12_apartFrom_12 : decode cX12_apartFrom 12 = .ok (.iload 4, 2) := by decide +kernel
theorem dX12_apartFrom_14 : decode cX12_apartFrom 14 = .ok (.iconst 1, 1) := by decide +kernel
theorem dX12_apartFrom_15 : decode cX12_apartFrom 15 = .ok (.invokevirtual 145, 3) := by decide +kernel
theorem dX12_apartFrom_18 : decode cX12_apartFrom 18 = .ok (.iload_n 2, 1) := by decide +kernel
theorem dX12_apartFrom_19 : decode cX12_apartFrom 19 = .ok (.invokestatic 149, 3) := by decide +kernel
theorem dX12_apartFrom_22 : decode cX12_apartFrom 22 = .ok (.iadd, 1) := by decide +kernel
theorem dX12_apartFrom_23 : decode cX12_apartFrom 23 = .ok (.aload_n 0, 1) := by decide +kernel
theorem dX12_apartFrom_24 : decode cX12_apartFrom 24 = .ok (.iload 4, 2) := by decide +kernel
theorem dX12_apartFrom_26 : decode cX12_apartFrom 26 = .ok (.iconst 2, 1) := by decide +kernel
theorem dX12_apartFrom_27 : decode cX12_apartFrom 27 = .ok (.invokevirtual 145, 3) := by decide +kernel
theorem dX12_apartFrom_30 : decode cX12_apartFrom 30 = .ok (.iload_n 3, 1) := by decide +kernel
theorem dX12_apartFrom_31 : decode cX12_apartFrom 31 = .ok (.invokestatic 149, 3) := by decide +kernel
theorem dX12_apartFrom_34 : decode cX12_apartFrom 34 = .ok (.iadd, 1) := by decide +kernel
theorem dX12_apartFrom_35 : decode cX12_apartFrom 35 = .ok (.ireturn, 1) := by decide +kernel
theorem dX12_inPot_0 : decode cX12_inPot 0 = .ok (.iconst 0, 1) := by decide +kernel
theorem dX12_inPot_1 : decode cX12_inPot 1 = .ok (.istore_n 2, 1) := by decide +kernel
theorem dX12_inPot_2 : decode cX12_inPot 2 = .ok (.iconst 0, 1) := by decide +kernel
theorem dX12_inPot_3 : decode cX12_inPot 3 = .ok (.istore_n 3, 1) := by decide +kernel
theorem dX12_inPot_4 : decode cX12_inPot 4 = .ok (.iload_n 3, 1) := by decide +kernel
theorem dX12_inPot_5 : decode cX12_inPot 5 = .ok (.bipush 12, 2) := by decide +kernel
theorem dX12_inPot_7 : decode cX12_inPot 7 = .ok (.if_icmp .ge 23, 3) := by decide +kernel
theorem dX12_inPot_10 : decode cX12_inPot 10 = .ok (.iload_n 2, 1) := by decide +kernel
theorem dX12_inPot_11 : decode cX12_inPot 11 = .ok (.aload_n 0, 1) := by decide +kernel
theorem dX12_inPot_12 : decode cX12_inPot 12 = .ok (.getfield 44, 3) := by decide +kernel
theorem dX12_inPot_15 : decode cX12_inPot 15 = .ok (.bipush 12, 2) := by decide +kernel
theorem dX12_inPot_17 : decode cX12_inPot 17 = .ok (.iload_n 1, 1) := by decide +kernel
theorem dX12_inPot_18 : decode cX12_inPot 18 = .ok (.imul, 1) := by decide +kernel
theorem dX12_inPot_19 : decode cX12_inPot 19 = .ok (.iload_n 3, 1) := by decide +kernel
theorem dX12_inPot_20 : decode cX12_inPot 20 = .ok (.iadd, 1) := by decide +kernel
theorem dX12_inPot_21 : decode cX12_inPot 21 = .ok (.iaload, 1) := by decide +kernel
theorem dX12_inPot_22 : decode cX12_inPot 22 = .ok (.iadd, 1) := by decide +kernel
theorem dX12_inPot_23 : decode cX12_inPot 23 = .ok (.istore_n 2, 1) := by decide +kernel
theorem dX12_inPot_24 : decode cX12_inPot 24 = .ok (.iinc 3 1, 3) := by decide +kernel
theorem dX12_inPot_27 : decode cX12_inPot 27 = .ok (.goto (-23), 3) := by decide +kernel
theorem dX12_inPot_30 : decode cX12_inPot 30 = .ok (.iload_n 2, 1) := by decide +kernel
theorem dX12_inPot_31 : decode cX12_inPot 31 = .ok (.ireturn, 1) := by decide +kernel
theorem dX12_press_0 : decode cX12_press 0 = .ok (.aload_n 0, 1) := by decide +kernel
theorem dX12_press_1 : decode cX12_press 1 = .ok (.iload_n 1, 1) := by decide +kernel
theorem dX12_press_2 : decode cX12_press 2 = .ok (.invokevirtual 99, 3) := by decide +kernel
theorem dX12_press_5 : decode cX12_press 5 = .ok (.ifCond .eq 20, 3) := by decide +kernel
theorem dX12_press_8 : decode cX12_press 8 = .ok (.iload_n 2, 1) := by decide +kernel
theorem dX12_press_9 : decode cX12_press 9 = .ok (.invokestatic 152, 3) := by decide +kernel
theorem dX12_press_12 : decode cX12_press 12 = .ok (.ifCond .eq 13, 3) := by decide +kernel
theorem dX12_press_15 : decode cX12_press 15 = .ok (.iload_n 3, 1) := by decide +kernel
theorem dX12_press_16 : decode cX12_press 16 = .ok (.iconst 1, 1) := by decide +kernel
theorem dX12_press_17 : decode cX12_press 17 = .ok (.bipush 99, 2) := by decide +kernel
theorem dX12_press_19 : decode cX12_press 19 = .ok (.invokestatic 95, 3) := by decide +kernel
theorem dX12_press_22 : decode cX12_press 22 = .ok (.ifCond .ne 5, 3) := by decide +kernel
theorem dX12_press_25 : decode cX12_press 25 = .ok (.iconst (-1), 1) := by decide +kernel
theorem dX12_press_26 : decode cX12_press 26 = .ok (.ireturn, 1) := by decide +kernel
theorem dX12_press_27 : decode cX12_press 27 = .ok (.aload_n 0, 1) := by decide +kernel
theorem dX12_press_28 : decode cX12_press 28 = .ok (.getfield 26, 3) := by decide +kernel
theorem dX12_press_31 : decode cX12_press 31 = .ok (.iload_n 1, 1) := by decide +kernel
theorem dX12_press_32 : decode cX12_press 32 = .ok (.iaload, 1) := by decide +kernel
theorem dX12_press_33 : decode cX12_press 33 = .ok (.iload_n 3, 1) := by decide +kernel
theorem dX12_press_34 : decode cX12_press 34 = .ok (.if_icmp .ge 6, 3) := by decide +kernel
theorem dX12_press_37 : decode cX12_press 37 = .ok (.bipush (-2), 2) := by decide +kernel
theorem dX12_press_39 : decode cX12_press 39 = .ok (.ireturn, 1) := by decide +kernel
theorem dX12_press_40 : decode cX12_press 40 = .ok (.aload_n 0, 1) := by decide +kernel
theorem dX12_press_41 : decode cX12_press 41 = .ok (.iload_n 2, 1) := by decide +kernel
theorem dX12_press_42 : decode cX12_press 42 = .ok (.invokevirtual 155, 3) := by decide +kernel
theorem dX12_press_45 : decode cX12_press 45 = .ok (.iload_n 3, 1) := by decide +kernel
theorem dX12_press_46 : decode cX12_press 46 = .ok (.iadd, 1) := by decide +kernel
theorem dX12_press_47 : decode cX12_press 47 = .ok (.sipush 999, 3) := by decide +kernel
theorem dX12_press_50 : decode cX12_press 50 = .ok (.if_icmp .le 6, 3) := by decide +kernel
theorem dX12_press_53 : decode cX12_press 53 = .ok (.bipush (-3), 2) := by decide +kernel
theorem dX12_press_55 : decode cX12_press 55 = .ok (.ireturn, 1) := by decide +kernel
theorem dX12_press_56 : decode cX12_press 56 = .ok (.aload_n 0, 1) := by decide +kernel
theorem dX12_press_57 : decode cX12_press 57 = .ok (.getfield 26, 3) := by decide +kernel
theorem dX12_press_60 : decode cX12_press 60 = .ok (.iload_n 1, 1) := by decide +kernel
theorem dX12_press_61 : decode cX12_press 61 = .ok (.dup2, 1) := by decide +kernel
theorem dX12_press_62 : decode cX12_press 62 = .ok (.iaload, 1) := by decide +kernel
theorem dX12_press_63 : decode cX12_press 63 = .ok (.iload_n 3, 1) := by decide +kernel
theorem dX12_press_64 : decode cX12_press 64 = .ok (.isub, 1) := by decide +kernel
theorem dX12_press_65 : decode cX12_press 65 = .ok (.iastore, 1) := by decide +kernel
theorem dX12_press_66 : decode cX12_press 66 = .ok (.aload_n 0, 1) := by decide +kernel
theorem dX12_press_67 : decode cX12_press 67 = .ok (.getfield 44, 3) := by decide +kernel
theorem dX12_press_70 : decode cX12_press 70 = .ok (.bipush 12, 2) := by decide +kernel
theorem dX12_press_72 : decode cX12_press 72 = .ok (.iload_n 2, 1) := by decide +kernel
theorem dX12_press_73 : decode cX12_press 73 = .ok (.imul, 1) := by decide +kernel
theorem dX12_press_74 : decode cX12_press 74 = .ok (.iload_n 1, 1) := by decide +kernel
theorem dX12_press_75 : decode cX12_press 75 = .ok (.iadd, 1) := by decide +kernel
theorem dX12_press_76 : decode cX12_press 76 = .ok (.dup2, 1) := by decide +kernel
theorem dX12_press_77 : decode cX12_press 77 = .ok (.iaload, 1) := by decide +kernel
theorem dX12_press_78 : decode cX12_press 78 = .ok (.iload_n 3, 1) := by decide +kernel
theorem dX12_press_79 : decode cX12_press 79 = .ok (.iadd, 1) := by decide +kernel
theorem dX12_press_80 : decode cX12_press 80 = .ok (.iastore, 1) := by decide +kernel
theorem dX12_press_81 : decode cX12_press 81 = .ok (.aload_n 0, 1) := by decide +kernel
theorem dX12_press_82 : decode cX12_press 82 = .ok (.iload_n 2, 1) := by decide +kernel
theorem dX12_press_83 : decode cX12_press 83 = .ok (.invokevirtual 155, 3) := by decide +kernel
theorem dX12_press_86 : decode cX12_press 86 = .ok (.ireturn, 1) := by decide +kernel
theorem dX12_pour_0 : decode cX12_pour 0 = .ok (.iload_n 1, 1) := by decide +kernel
theorem dX12_pour_1 : decode cX12_pour 1 = .ok (.invokestatic 152, 3) := by decide +kernel
theorem dX12_pour_4 : decode cX12_pour 4 = .ok (.ifCond .eq 15, 3) := by decide +kernel
theorem dX12_pour_7 : decode cX12_pour 7 = .ok (.iload_n 2, 1) := by decide +kernel
theorem dX12_pour_8 : decode cX12_pour 8 = .ok (.invokestatic 152, 3) := by decide +kernel
theorem dX12_pour_11 : decode cX12_pour 11 = .ok (.ifCond .eq 8, 3) := by decide +kernel
theorem dX12_pour_14 : decode cX12_pour 14 = .ok (.iload_n 1, 1) := by decide +kernel
theorem dX12_pour_15 : decode cX12_pour 15 = .ok (.iload_n 2, 1) := by decide +kernel
theorem dX12_pour_16 : decode cX12_pour 16 = .ok (.if_icmp .ne 5, 3) := by decide +kernel
theorem dX12_pour_19 : decode cX12_pour 19 = .ok (.iconst (-1), 1) := by decide +kernel
theorem dX12_pour_20 : decode cX12_pour 20 = .ok (.ireturn, 1) := by decide +kernel
theorem dX12_pour_21 : decode cX12_pour 21 = .ok (.aload_n 0, 1) := by decide +kernel
theorem dX12_pour_22 : decode cX12_pour 22 = .ok (.iload_n 1, 1) := by decide +kernel
theorem dX12_pour_23 : decode cX12_pour 23 = .ok (.invokevirtual 155, 3) := by decide +kernel
theorem dX12_pour_26 : decode cX12_pour 26 = .ok (.ifCond .ne 6, 3) := by decide +kernel
theorem dX12_pour_29 : decode cX12_pour 29 = .ok (.bipush (-2), 2) := by decide +kernel
theorem dX12_pour_31 : decode cX12_pour 31 = .ok (.ireturn, 1) := by decide +kernel
theorem dX12_pour_32 : decode cX12_pour 32 = .ok (.aload_n 0, 1) := by decide +kernel
theorem dX12_pour_33 : decode cX12_pour 33 = .ok (.iload_n 1, 1) := by decide +kernel
theorem dX12_pour_34 : decode cX12_pour 34 = .ok (.invokevirtual 155, 3) := by decide +kernel
theorem dX12_pour_37 : decode cX12_pour 37 = .ok (.aload_n 0, 1) := by decide +kernel
theorem dX12_pour_38 : decode cX12_pour 38 = .ok (.iload_n 2, 1) := by decide +kernel
theorem dX12_pour_39 : decode cX12_pour 39 = .ok (.invokevirtual 155, 3) := by decide +kernel
theorem dX12_pour_42 : decode cX12_pour 42 = .ok (.iadd, 1) := by decide +kernel
theorem dX12_pour_43 : decode cX12_pour 43 = .ok (.sipush 999, 3) := by decide +kernel
theorem dX12_pour_46 : decode cX12_pour 46 = .ok (.if_icmp .le 6, 3) := by decide +kernel
theorem dX12_pour_49 : decode cX12_pour 49 = .ok (.bipush (-3), 2) := by decide +kernel
theorem dX12_pour_51 : decode cX12_pour 51 = .ok (.ireturn, 1) := by decide +kernel
theorem dX12_pour_52 : decode cX12_pour 52 = .ok (.iconst 0, 1) := by decide +kernel
theorem dX12_pour_53 : decode cX12_pour 53 = .ok (.istore_n 3, 1) := by decide +kernel
theorem dX12_pour_54 : decode cX12_pour 54 = .ok (.iload_n 3, 1) := by decide +kernel
theorem dX12_pour_55 : decode cX12_pour 55 = .ok (.bipush 12, 2) := by decide +kernel
theorem dX12_pour_57 : decode cX12_pour 57 = .ok (.if_icmp .ge 46, 3) := by decide +kernel
theorem dX12_pour_60 : decode cX12_pour 60 = .ok (.aload_n 0, 1) := by decide +kernel
theorem dX12_pour_61 : decode cX12_pour 61 = .ok (.getfield 44, 3) := by decide +kernel
theorem dX12_pour_64 : decode cX12_pour 64 = .ok (.bipush 12, 2) := by decide +kernel
theorem dX12_pour_66 : decode cX12_pour 66 = .ok (.iload_n 2, 1) := by decide +kernel
theorem dX12_pour_67 : decode cX12_pour 67 = .ok (.imul, 1) := by decide +kernel
theorem dX12_pour_68 : decode cX12_pour 68 = .ok (.iload_n 3, 1) := by decide +kernel
theorem dX12_pour_69 : decode cX12_pour 69 = .ok (.iadd, 1) := by decide +kernel
theorem dX12_pour_70 : decode cX12_pour 70 = .ok (.dup2, 1) := by decide +kernel
theorem dX12_pour_71 : decode cX12_pour 71 = .ok (.iaload, 1) := by decide +kernel
theorem dX12_pour_72 : decode cX12_pour 72 = .ok (.aload_n 0, 1) := by decide +kernel
theorem dX12_pour_73 : decode cX12_pour 73 = .ok (.getfield 44, 3) := by decide +kernel
theorem dX12_pour_76 : decode cX12_pour 76 = .ok (.bipush 12, 2) := by decide +kernel
theorem dX12_pour_78 : decode cX12_pour 78 = .ok (.iload_n 1, 1) := by decide +kernel
theorem dX12_pour_79 : decode cX12_pour 79 = .ok (.imul, 1) := by decide +kernel
theorem dX12_pour_80 : decode cX12_pour 80 = .ok (.iload_n 3, 1) := by decide +kernel
theorem dX12_pour_81 : decode cX12_pour 81 = .ok (.iadd, 1) := by decide +kernel
theorem dX12_pour_82 : decode cX12_pour 82 = .ok (.iaload, 1) := by decide +kernel
theorem dX12_pour_83 : decode cX12_pour 83 = .ok (.iadd, 1) := by decide +kernel
theorem dX12_pour_84 : decode cX12_pour 84 = .ok (.iastore, 1) := by decide +kernel
theorem dX12_pour_85 : decode cX12_pour 85 = .ok (.aload_n 0, 1) := by decide +kernel
theorem dX12_pour_86 : decode cX12_pour 86 = .ok (.getfield 44, 3) := by decide +kernel
theorem dX12_pour_89 : decode cX12_pour 89 = .ok (.bipush 12, 2) := by decide +kernel
theorem dX12_pour_91 : decode cX12_pour 91 = .ok (.iload_n 1, 1) := by decide +kernel
theorem dX12_pour_92 : decode cX12_pour 92 = .ok (.imul, 1) := by decide +kernel
theorem dX12_pour_93 : decode cX12_pour 93 = .ok (.iload_n 3, 1) := by decide +kernel
theorem dX12_pour_94 : decode cX12_pour 94 = .ok (.iadd, 1) := by decide +kernel
theorem dX12_pour_95 : decode cX12_pour 95 = .ok (.iconst 0, 1) := by decide +kernel
theorem dX12_pour_96 : decode cX12_pour 96 = .ok (.iastore, 1) := by decide +kernel
theorem dX12_pour_97 : decode cX12_pour 97 = .ok (.iinc 3 1, 3) := by decide +kernel
theorem dX12_pour_100 : decode cX12_pour 100 = .ok (.goto (-46), 3) := by decide +kernel
theorem dX12_pour_103 : decode cX12_pour 103 = .ok (.aload_n 0, 1) := by decide +kernel
theorem dX12_pour_104 : decode cX12_pour 104 = .ok (.iload_n 2, 1) := by decide +kernel
theorem dX12_pour_105 : decode cX12_pour 105 = .ok (.invokevirtual 155, 3) := by decide +kernel
theorem dX12_pour_108 : decode cX12_pour 108 = .ok (.ireturn, 1) := by decide +kernel
theorem dX12_waste_0 : decode cX12_waste 0 = .ok (.iload_n 1, 1) := by decide +kernel
theorem dX12_waste_1 : decode cX12_waste 1 = .ok (.invokestatic 152, 3) := by decide +kernel
theorem dX12_waste_4 : decode cX12_waste 4 = .ok (.ifCond .ne 5, 3) := by decide +kernel
theorem dX12_waste_7 : decode cX12_waste 7 = .ok (.iconst (-1), 1) := by decide +kernel
theorem dX12_waste_8 : decode cX12_waste 8 = .ok (.ireturn, 1) := by decide +kernel
theorem dX12_waste_9 : decode cX12_waste 9 = .ok (.aload_n 0, 1) := by decide +kernel
theorem dX12_waste_10 : decode cX12_waste 10 = .ok (.iload_n 1, 1) := by decide +kernel
theorem dX12_waste_11 : decode cX12_waste 11 = .ok (.invokevirtual 155, 3) := by decide +kernel
theorem dX12_waste_14 : decode cX12_waste 14 = .ok (.istore_n 2, 1) := by decide +kernel
theorem dX12_waste_15 : decode cX12_waste 15 = .ok (.iload_n 2, 1) := by decide +kernel
theorem dX12_waste_16 : decode cX12_waste 16 = .ok (.ifCond .ne 6, 3) := by decide +kernel
theorem dX12_waste_19 : decode cX12_waste 19 = .ok (.bipush (-2), 2) := by decide +kernel
theorem dX12_waste_21 : decode cX12_waste 21 = .ok (.ireturn, 1) := by decide +kernel
theorem dX12_waste_22 : decode cX12_waste 22 = .ok (.iconst 0, 1) := by decide +kernel
theorem dX12_waste_23 : decode cX12_waste 23 = .ok (.istore_n 3, 1) := by decide +kernel
theorem dX12_waste_24 : decode cX12_waste 24 = .ok (.iload_n 3, 1) := by decide +kernel
theorem dX12_waste_25 : decode cX12_waste 25 = .ok (.bipush 12, 2) := by decide +kernel
theorem dX12_waste_27 : decode cX12_waste 27 = .ok (.if_icmp .ge 41, 3) := by decide +kernel
theorem dX12_waste_30 : decode cX12_waste 30 = .ok (.aload_n 0, 1) := by decide +kernel
theorem dX12_waste_31 : decode cX12_waste 31 = .ok (.getfield 32, 3) := by decide +kernel
theorem dX12_waste_34 : decode cX12_waste 34 = .ok (.iload_n 3, 1) := by decide +kernel
theorem dX12_waste_35 : decode cX12_waste 35 = .ok (.dup2, 1) := by decide +kernel
theorem dX12_waste_36 : decode cX12_waste 36 = .ok (.iaload, 1) := by decide +kernel
theorem dX12_waste_37 : decode cX12_waste 37 = .ok (.aload_n 0, 1) := by decide +kernel
theorem dX12_waste_38 : decode cX12_waste 38 = .ok (.getfield 44, 3) := by decide +kernel
theorem dX12_waste_41 : decode cX12_waste 41 = .ok (.bipush 12, 2) := by decide +kernel
theorem dX12_waste_43 : decode cX12_waste 43 = .ok (.iload_n 1, 1) := by decide +kernel
theorem dX12_waste_44 : decode cX12_waste 44 = .ok (.imul, 1) := by decide +kernel
theorem dX12_waste_45 : decode cX12_waste 45 = .ok (.iload_n 3, 1) := by decide +kernel
theorem dX12_waste_46 : decode cX12_waste 46 = .ok (.iadd, 1) := by decide +kernel
theorem dX12_waste_47 : decode cX12_waste 47 = .ok (.iaload, 1) := by decide +kernel
theorem dX12_waste_48 : decode cX12_waste 48 = .ok (.iadd, 1) := by decide +kernel
theorem dX12_waste_49 : decode cX12_waste 49 = .ok (.iastore, 1) := by decide +kernel
theorem dX12_waste_50 : decode cX12_waste 50 = .ok (.aload_n 0, 1) := by decide +kernel
theorem dX12_waste_51 : decode cX12_waste 51 = .ok (.getfield 44, 3) := by decide +kernel
theorem dX12_waste_54 : decode cX12_waste 54 = .ok (.bipush 12, 2) := by decide +kernel
theorem dX12_waste_56 : decode cX12_waste 56 = .ok (.iload_n 1, 1) := by decide +kernel
theorem dX12_waste_57 : decode cX12_waste 57 = .ok (.imul, 1) := by decide +kernel
theorem dX12_waste_58 : decode cX12_waste 58 = .ok (.iload_n 3, 1) := by decide +kernel
theorem dX12_waste_59 : decode cX12_waste 59 = .ok (.iadd, 1) := by decide +kernel
theorem dX12_waste_60 : decode cX12_waste 60 = .ok (.iconst 0, 1) := by decide +kernel
theorem dX12_waste_61 : decode cX12_waste 61 = .ok (.iastore, 1) := by decide +kernel
theorem dX12_waste_62 : decode cX12_waste 62 = .ok (.iinc 3 1, 3) := by decide +kernel
theorem dX12_waste_65 : decode cX12_waste 65 = .ok (.goto (-41), 3) := by decide +kernel
theorem dX12_waste_68 : decode cX12_waste 68 = .ok (.iload_n 2, 1) := by decide +kernel
theorem dX12_waste_69 : decode cX12_waste 69 = .ok (.ireturn, 1) := by decide +kernel
theorem dX12_drops_0 : decode cX12_drops 0 = .ok (.iload_n 1, 1) := by decide +kernel
theorem dX12_drops_1 : decode cX12_drops 1 = .ok (.invokestatic 152, 3) := by decide +kernel
theorem dX12_drops_4 : decode cX12_drops 4 = .ok (.ifCond .eq 16, 3) := by decide +kernel
theorem dX12_drops_7 : decode cX12_drops 7 = .ok (.iload_n 2, 1) := by decide +kernel
theorem dX12_drops_8 : decode cX12_drops 8 = .ok (.iconst (-1), 1) := by decide +kernel
theorem dX12_drops_9 : decode cX12_drops 9 = .ok (.if_icmp .eq 15, 3) := by decide +kernel
theorem dX12_drops_12 : decode cX12_drops 12 = .ok (.aload_n 0, 1) := by decide +kernel
theorem dX12_drops_13 : decode cX12_drops 13 = .ok (.iload_n 2, 1) := by decide +kernel
theorem dX12_drops_14 : decode cX12_drops 14 = .ok (.invokevirtual 99, 3) := by decide +kernel
theorem dX12_drops_17 : decode cX12_drops 17 = .ok (.ifCond .ne 7, 3) := by decide +kernel
theorem dX12_drops_20 : decode cX12_drops 20 = .ok (.iconst (-1), 1) := by decide +kernel
theorem dX12_drops_21 : decode cX12_drops 21 = .ok (.goto 26, 3) := by decide +kernel
theorem dX12_drops_24 : decode cX12_drops 24 = .ok (.iload_n 2, 1) := by decide +kernel
theorem dX12_drops_25 : decode cX12_drops 25 = .ok (.ifCond .ge 11, 3) := by decide +kernel
theorem dX12_drops_28 : decode cX12_drops 28 = .ok (.aload_n 0, 1) := by decide +kernel
theorem dX12_drops_29 : decode cX12_drops 29 = .ok (.iload_n 1, 1) := by decide +kernel
theorem dX12_drops_30 : decode cX12_drops 30 = .ok (.invokevirtual 155, 3) := by decide +kernel
theorem dX12_drops_33 : decode cX12_drops 33 = .ok (.goto 14, 3) := by decide +kernel
theorem dX12_drops_36 : decode cX12_drops 36 = .ok (.aload_n 0, 1) := by decide +kernel
theorem dX12_drops_37 : decode cX12_drops 37 = .ok (.getfield 44, 3) := by decide +kernel
theorem dX12_drops_40 : decode cX12_drops 40 = .ok (.bipush 12, 2) := by decide +kernel
theorem dX12_drops_42 : decode cX12_drops 42 = .ok (.iload_n 1, 1) := by decide +kernel
theorem dX12_drops_43 : decode cX12_drops 43 = .ok (.imul, 1) := by decide +kernel
theorem dX12_drops_44 : decode cX12_drops 44 = .ok (.iload_n 2, 1) := by decide +kernel
theorem dX12_drops_45 : decode cX12_drops 45 = .ok (.iadd, 1) := by decide +kernel
theorem dX12_drops_46 : decode cX12_drops 46 = .ok (.iaload, 1) := by decide +kernel
theorem dX12_drops_47 : decode cX12_drops 47 = .ok (.ireturn, 1) := by decide +kernel
theorem dX12_drinkOf_0 : decode cX12_drinkOf 0 = .ok (.lconst 0, 1) := by decide +kernel
theorem dX12_drinkOf_1 : decode cX12_drinkOf 1 = .ok (.lstore_n 3, 1) := by decide +kernel
theorem dX12_drinkOf_2 : decode cX12_drinkOf 2 = .ok (.iconst 0, 1) := by decide +kernel
theorem dX12_drinkOf_3 : decode cX12_drinkOf 3 = .ok (.istore 5, 2) := by decide +kernel
theorem dX12_drinkOf_5 : decode cX12_drinkOf 5 = .ok (.iload 5, 2) := by decide +kernel
theorem dX12_drinkOf_7 : decode cX12_drinkOf 7 = .ok (.aload_n 0, 1) := by decide +kernel
theorem dX12_drinkOf_8 : decode cX12_drinkOf 8 = .ok (.getfield 92, 3) := by decide +kernel
theorem dX12_drinkOf_11 : decode cX12_drinkOf 11 = .ok (.if_icmp .ge 39, 3) := by decide +kernel
theorem dX12_drinkOf_14 : decode cX12_drinkOf 14 = .ok (.lload_n 3, 1) := by decide +kernel
theorem dX12_drinkOf_15 : decode cX12_drinkOf 15 = .ok (.aload_n 0, 1) := by decide +kernel
theorem dX12_drinkOf_16 : decode cX12_drinkOf 16 = .ok (.getfield 44, 3) := by decide +kernel
theorem dX12_drinkOf_19 : decode cX12_drinkOf 19 = .ok (.bipush 12, 2) := by decide +kernel
theorem dX12_drinkOf_21 : decode cX12_drinkOf 21 = .ok (.iload_n 1, 1) := by decide +kernel
theorem dX12_drinkOf_22 : decode cX12_drinkOf 22 = .ok (.imul, 1) := by decide +kernel
theorem dX12_drinkOf_23 : decode cX12_drinkOf 23 = .ok (.iload 5, 2) := by decide +kernel
theorem dX12_drinkOf_25 : decode cX12_drinkOf 25 = .ok (.iadd, 1) := by decide +kernel
theorem dX12_drinkOf_26 : decode cX12_drinkOf 26 = .ok (.iaload, 1) := by decide +kernel
theorem dX12_drinkOf_27 : decode cX12_drinkOf 27 = .ok (.i2l, 1) := by decide +kernel
theorem dX12_drinkOf_28 : decode cX12_drinkOf 28 = .ok (.aload_n 0, 1) := by decide +kernel
theorem dX12_drinkOf_29 : decode cX12_drinkOf 29 = .ok (.getfield 13, 3) := by decide +kernel
theorem dX12_drinkOf_32 : decode cX12_drinkOf 32 = .ok (.bipush 8, 2) := by decide +kernel
theorem dX12_drinkOf_34 : decode cX12_drinkOf 34 = .ok (.iload 5, 2) := by decide +kernel
theorem dX12_drinkOf_36 : decode cX12_drinkOf 36 = .ok (.imul, 1) := by decide +kernel
theorem dX12_drinkOf_37 : decode cX12_drinkOf 37 = .ok (.iload_n 2, 1) := by decide +kernel
theorem dX12_drinkOf_38 : decode cX12_drinkOf 38 = .ok (.iadd, 1) := by decide +kernel
theorem dX12_drinkOf_39 : decode cX12_drinkOf 39 = .ok (.iaload, 1) := by decide +kernel
theorem dX12_drinkOf_40 : decode cX12_drinkOf 40 = .ok (.i2l, 1) := by decide +kernel
theorem dX12_drinkOf_41 : decode cX12_drinkOf 41 = .ok (.lmul, 1) := by decide +kernel
theorem dX12_drinkOf_42 : decode cX12_drinkOf 42 = .ok (.ladd, 1) := by decide +kernel
theorem dX12_drinkOf_43 : decode cX12_drinkOf 43 = .ok (.lstore_n 3, 1) := by decide +kernel
theorem dX12_drinkOf_44 : decode cX12_drinkOf 44 = .ok (.iinc 5 1, 3) := by decide +kernel
theorem dX12_drinkOf_47 : decode cX12_drinkOf 47 = .ok (.goto (-42), 3) := by decide +kernel
theorem dX12_drinkOf_50 : decode cX12_drinkOf 50 = .ok (.lload_n 3, 1) := by decide +kernel
theorem dX12_drinkOf_51 : decode cX12_drinkOf 51 = .ok (.lreturn, 1) := by decide +kernel
theorem dX12_scatterOf_0 : decode cX12_scatterOf 0 = .ok (.lconst 0, 1) := by decide +kernel
theorem dX12_scatterOf_1 : decode cX12_scatterOf 1 = .ok (.lstore_n 3, 1) := by decide +kernel
theorem dX12_scatterOf_2 : decode cX12_scatterOf 2 = .ok (.iconst 0, 1) := by decide +kernel
theorem dX12_scatterOf_3 : decode cX12_scatterOf 3 = .ok (.istore 5, 2) := by decide +kernel
theorem dX12_scatterOf_5 : decode cX12_scatterOf 5 = .ok (.iload 5, 2) := by decide +kernel
theorem dX12_scatterOf_7 : decode cX12_scatterOf 7 = .ok (.aload_n 0, 1) := by decide +kernel
theorem dX12_scatterOf_8 : decode cX12_scatterOf 8 = .ok (.getfield 92, 3) := by decide +kernel
theorem dX12_scatterOf_11 : decode cX12_scatterOf 11 = .ok (.if_icmp .ge 39, 3) := by decide +kernel
theorem dX12_scatterOf_14 : decode cX12_scatterOf 14 = .ok (.lload_n 3, 1) := by decide +kernel
theorem dX12_scatterOf_15 : decode cX12_scatterOf 15 = .ok (.aload_n 0, 1) := by decide +kernel
theorem dX12_scatterOf_16 : decode cX12_scatterOf 16 = .ok (.getfield 44, 3) := by decide +kernel
theorem dX12_scatterOf_19 : decode cX12_scatterOf 19 = .ok (.bipush 12, 2) := by decide +kernel
theorem dX12_scatterOf_21 : decode cX12_scatterOf 21 = .ok (.iload_n 1, 1) := by decide +kernel
theorem dX12_scatterOf_22 : decode cX12_scatterOf 22 = .ok (.imul, 1) := by decide +kernel
theorem dX12_scatterOf_23 : decode cX12_scatterOf 23 = .ok (.iload 5, 2) := by decide +kernel
theorem dX12_scatterOf_25 : decode cX12_scatterOf 25 = .ok (.iadd, 1) := by decide +kernel
theorem dX12_scatterOf_26 : decode cX12_scatterOf 26 = .ok (.iaload, 1) := by decide +kernel
theorem dX12_scatterOf_27 : decode cX12_scatterOf 27 = .ok (.i2l, 1) := by decide +kernel
theorem dX12_scatterOf_28 : decode cX12_scatterOf 28 = .ok (.aload_n 0, 1) := by decide +kernel
theorem dX12_scatterOf_29 : decode cX12_scatterOf 29 = .ok (.getfield 17, 3) := by decide +kernel
theorem dX12_scatterOf_32 : decode cX12_scatterOf 32 = .ok (.bipush 8, 2) := by decide +kernel
theorem dX12_scatterOf_34 : decode cX12_scatterOf 34 = .ok (.iload 5, 2) := by decide +kernel
theorem dX12_scatterOf_36 : decode cX12_scatterOf 36 = .ok (.imul, 1) := by decide +kernel
theorem dX12_scatterOf_37 : decode cX12_scatterOf 37 = .ok (.iload_n 2, 1) := by decide +kernel
theorem dX12_scatterOf_38 : decode cX12_scatterOf 38 = .ok (.iadd, 1) := by decide +kernel
theorem dX12_scatterOf_39 : decode cX12_scatterOf 39 = .ok (.iaload, 1) := by decide +kernel
theorem dX12_scatterOf_40 : decode cX12_scatterOf 40 = .ok (.i2l, 1) := by decide +kernel
theorem dX12_scatterOf_41 : decode cX12_scatterOf 41 = .ok (.lmul, 1) := by decide +kernel
theorem dX12_scatterOf_42 : decode cX12_scatterOf 42 = .ok (.ladd, 1) := by decide +kernel
theorem dX12_scatterOf_43 : decode cX12_scatterOf 43 = .ok (.lstore_n 3, 1) := by decide +kernel
theorem dX12_scatterOf_44 : decode cX12_scatterOf 44 = .ok (.iinc 5 1, 3) := by decide +kernel
theorem dX12_scatterOf_47 : decode cX12_scatterOf 47 = .ok (.goto (-42), 3) := by decide +kernel
theorem dX12_scatterOf_50 : decode cX12_scatterOf 50 = .ok (.lload_n 3, 1) := by decide +kernel
theorem dX12_scatterOf_51 : decode cX12_scatterOf 51 = .ok (.lreturn, 1) := by decide +kernel
theorem dX12_thick_0 : decode cX12_thick 0 = .ok (.iload_n 1, 1) := by decide +kernel
theorem dX12_thick_1 : decode cX12_thick 1 = .ok (.invokestatic 152, 3) := by decide +kernel
theorem dX12_thick_4 : decode cX12_thick 4 = .ok (.ifCond .eq 10, 3) := by decide +kernel
theorem dX12_thick_7 : decode cX12_thick 7 = .ok (.iload_n 2, 1) := by decide +kernel
theorem dX12_thick_8 : decode cX12_thick 8 = .ok (.invokestatic 103, 3) := by decide +kernel
theorem dX12_thick_11 : decode cX12_thick 11 = .ok (.ifCond .ne 7, 3) := by decide +kernel
theorem dX12_thick_14 : decode cX12_thick 14 = .ok (.iconst (-1), 1) := by decide +kernel
theorem dX12_thick_15 : decode cX12_thick 15 = .ok (.goto 31, 3) := by decide +kernel
theorem dX12_thick_18 : decode cX12_thick 18 = .ok (.aload_n 0, 1) := by decide +kernel
theorem dX12_thick_19 : decode cX12_thick 19 = .ok (.iload_n 1, 1) := by decide +kernel
theorem dX12_thick_20 : decode cX12_thick 20 = .ok (.invokevirtual 155, 3) := by decide +kernel
theorem dX12_thick_23 : decode cX12_thick 23 = .ok (.ifCond .ne 8, 3) := by decide +kernel
theorem dX12_thick_26 : decode cX12_thick 26 = .ok (.bipush (-2), 2) := by decide +kernel
theorem dX12_thick_28 : decode cX12_thick 28 = .ok (.goto 18, 3) := by decide +kernel
theorem dX12_thick_31 : decode cX12_thick 31 = .ok (.aload_n 0, 1) := by decide +kernel
theorem dX12_thick_32 : decode cX12_thick 32 = .ok (.iload_n 1, 1) := by decide +kernel
theorem dX12_thick_33 : decode cX12_thick 33 = .ok (.iload_n 2, 1) := by decide +kernel
theorem dX12_thick_34 : decode cX12_thick 34 = .ok (.invokevirtual 158, 3) := by decide +kernel
theorem dX12_thick_37 : decode cX12_thick 37 = .ok (.aload_n 0, 1) := by decide +kernel
theorem dX12_thick_38 : decode cX12_thick 38 = .ok (.iload_n 1, 1) := by decide +kernel
theorem dX12_thick_39 : decode cX12_thick 39 = .ok (.iload_n 2, 1) := by decide +kernel
theorem dX12_thick_40 : decode cX12_thick 40 = .ok (.invokevirtual 162, 3) := by decide +kernel
theorem dX12_thick_43 : decode cX12_thick 43 = .ok (.invokestatic 165, 3) := by decide +kernel
theorem dX12_thick_46 : decode cX12_thick 46 = .ok (.ireturn, 1) := by decide +kernel
theorem dX12_seen_0 : decode cX12_seen 0 = .ok (.iload_n 1, 1) := by decide +kernel
theorem dX12_seen_1 : decode cX12_seen 1 = .ok (.invokestatic 152, 3) := by decide +kernel
theorem dX12_seen_4 : decode cX12_seen 4 = .ok (.ifCond .eq 17, 3) := by decide +kernel
theorem dX12_seen_7 : decode cX12_seen 7 = .ok (.iload_n 2, 1) := by decide +kernel
theorem dX12_seen_8 : decode cX12_seen 8 = .ok (.invokestatic 114, 3) := by decide +kernel
theorem dX12_seen_11 : decode cX12_seen 11 = .ok (.ifCond .eq 10, 3) := by decide +kernel
theorem dX12_seen_14 : decode cX12_seen 14 = .ok (.iload_n 3, 1) := by decide +kernel
theorem dX12_seen_15 : decode cX12_seen 15 = .ok (.invokestatic 117, 3) := by decide +kernel
theorem dX12_seen_18 : decode cX12_seen 18 = .ok (.ifCond .ne 5, 3) := by decide +kernel
theorem dX12_seen_21 : decode cX12_seen 21 = .ok (.iconst (-1), 1) := by decide +kernel
theorem dX12_seen_22 : decode cX12_seen 22 = .ok (.ireturn, 1) := by decide +kernel
theorem dX12_seen_23 : decode cX12_seen 23 = .ok (.aload_n 0, 1) := by decide +kernel
theorem dX12_seen_24 : decode cX12_seen 24 = .ok (.iload_n 1, 1) := by decide +kernel
theorem dX12_seen_25 : decode cX12_seen 25 = .ok (.invokevirtual 155, 3) := by decide +kernel
theorem dX12_seen_28 : decode cX12_seen 28 = .ok (.ifCond .ne 6, 3) := by decide +kernel
theorem dX12_seen_31 : decode cX12_seen 31 = .ok (.bipush (-2), 2) := by decide +kernel
theorem dX12_seen_33 : decode cX12_seen 33 = .ok (.ireturn, 1) := by decide +kernel
theorem dX12_seen_34 : decode cX12_seen 34 = .ok (.iconst 0, 1) := by decide +kernel
theorem dX12_seen_35 : decode cX12_seen 35 = .ok (.istore 4, 2) := by decide +kernel
theorem dX12_seen_37 : decode cX12_seen 37 = .ok (.iload 4, 2) := by decide +kernel
theorem dX12_seen_39 : decode cX12_seen 39 = .ok (.bipush 8, 2) := by decide +kernel
theorem dX12_seen_41 : decode cX12_seen 41 = .ok (.if_icmp .ge 33, 3) := by decide +kernel
theorem dX12_seen_44 : decode cX12_seen 44 = .ok (.aload_n 0, 1) := by decide +kernel
theorem dX12_seen_45 : decode cX12_seen 45 = .ok (.getfield 41, 3) := by decide +kernel
theorem dX12_seen_48 : decode cX12_seen 48 = .ok (.iload 4, 2) := by decide +kernel
theorem dX12_seen_50 : decode cX12_seen 50 = .ok (.aload_n 0, 1) := by decide +kernel
theorem dX12_seen_51 : decode cX12_seen 51 = .ok (.iload_n 1, 1) := by decide +kernel
theorem dX12_seen_52 : decode cX12_seen 52 = .ok (.iload 4, 2) := by decide +kernel
theorem dX12_seen_54 : decode cX12_seen 54 = .ok (.invokevirtual 158, 3) := by decide +kernel
end
section
theorem dX12_seen_57 : decode cX12_seen 57 = .ok (.aload_n 0, 1) := by decide +kernel
theorem dX12_seen_58 : decode cX12_seen 58 = .ok (.iload_n 1, 1) := by decide +kernel
theorem dX12_seen_59 : decode cX12_seen 59 = .ok (.iload 4, 2) := by decide +kernel
theorem dX12_seen_61 : decode cX12_seen 61 = .ok (.invokevirtual 162, 3) := by decide +kernel
theorem dX12_seen_64 : decode cX12_seen 64 = .ok (.invokestatic 165, 3) := by decide +kernel
theorem dX12_seen_67 : decode cX12_seen 67 = .ok (.iastore, 1) := by decide +kernel
theorem dX12_seen_68 : decode cX12_seen 68 = .ok (.iinc 4 1, 3) := by decide +kernel
theorem dX12_seen_71 : decode cX12_seen 71 = .ok (.goto (-34), 3) := by decide +kernel
theorem dX12_seen_74 : decode cX12_seen 74 = .ok (.aload_n 0, 1) := by decide +kernel
theorem dX12_seen_75 : decode cX12_seen 75 = .ok (.iload_n 2, 1) := by decide +kernel
theorem dX12_seen_76 : decode cX12_seen 76 = .ok (.iload_n 3, 1) := by decide +kernel
theorem dX12_seen_77 : decode cX12_seen 77 = .ok (.invokevirtual 145, 3) := by decide +kernel
theorem dX12_seen_80 : decode cX12_seen 80 = .ok (.ireturn, 1) := by decide +kernel
theorem dX12_over_0 : decode cX12_over 0 = .ok (.iload_n 1, 1) := by decide +kernel
theorem dX12_over_1 : decode cX12_over 1 = .ok (.invokestatic 152, 3) := by decide +kernel
theorem dX12_over_4 : decode cX12_over 4 = .ok (.ifCond .eq 33, 3) := by decide +kernel
theorem dX12_over_7 : decode cX12_over 7 = .ok (.iload_n 2, 1) := by decide +kernel
theorem dX12_over_8 : decode cX12_over 8 = .ok (.invokestatic 103, 3) := by decide +kernel
theorem dX12_over_11 : decode cX12_over 11 = .ok (.ifCond .eq 26, 3) := by decide +kernel
theorem dX12_over_14 : decode cX12_over 14 = .ok (.iload_n 3, 1) := by decide +kernel
theorem dX12_over_15 : decode cX12_over 15 = .ok (.iconst 1, 1) := by decide +kernel
theorem dX12_over_16 : decode cX12_over 16 = .ok (.sipush 200, 3) := by decide +kernel
theorem dX12_over_19 : decode cX12_over 19 = .ok (.invokestatic 95, 3) := by decide +kernel
theorem dX12_over_22 : decode cX12_over 22 = .ok (.ifCond .eq 15, 3) := by decide +kernel
theorem dX12_over_25 : decode cX12_over 25 = .ok (.iload 4, 2) := by decide +kernel
theorem dX12_over_27 : decode cX12_over 27 = .ok (.iconst 0, 1) := by decide +kernel
theorem dX12_over_28 : decode cX12_over 28 = .ok (.sipush 10000, 3) := by decide +kernel
theorem dX12_over_31 : decode cX12_over 31 = .ok (.invokestatic 95, 3) := by decide +kernel
theorem dX12_over_34 : decode cX12_over 34 = .ok (.ifCond .ne 5, 3) := by decide +kernel
theorem dX12_over_37 : decode cX12_over 37 = .ok (.iconst (-1), 1) := by decide +kernel
theorem dX12_over_38 : decode cX12_over 38 = .ok (.ireturn, 1) := by decide +kernel
theorem dX12_over_39 : decode cX12_over 39 = .ok (.aload_n 0, 1) := by decide +kernel
theorem dX12_over_40 : decode cX12_over 40 = .ok (.iload_n 1, 1) := by decide +kernel
theorem dX12_over_41 : decode cX12_over 41 = .ok (.invokevirtual 155, 3) := by decide +kernel
theorem dX12_over_44 : decode cX12_over 44 = .ok (.ifCond .ne 8, 3) := by decide +kernel
theorem dX12_over_47 : decode cX12_over 47 = .ok (.bipush (-2), 2) := by decide +kernel
theorem dX12_over_49 : decode cX12_over 49 = .ok (.goto 21, 3) := by decide +kernel
theorem dX12_over_52 : decode cX12_over 52 = .ok (.aload_n 0, 1) := by decide +kernel
theorem dX12_over_53 : decode cX12_over 53 = .ok (.iload_n 1, 1) := by decide +kernel
theorem dX12_over_54 : decode cX12_over 54 = .ok (.iload_n 2, 1) := by decide +kernel
theorem dX12_over_55 : decode cX12_over 55 = .ok (.invokevirtual 158, 3) := by decide +kernel
theorem dX12_over_58 : decode cX12_over 58 = .ok (.aload_n 0, 1) := by decide +kernel
theorem dX12_over_59 : decode cX12_over 59 = .ok (.iload_n 1, 1) := by decide +kernel
theorem dX12_over_60 : decode cX12_over 60 = .ok (.iload_n 2, 1) := by decide +kernel
theorem dX12_over_61 : decode cX12_over 61 = .ok (.invokevirtual 162, 3) := by decide +kernel
theorem dX12_over_64 : decode cX12_over 64 = .ok (.iload_n 3, 1) := by decide +kernel
theorem dX12_over_65 : decode cX12_over 65 = .ok (.iload 4, 2) := by decide +kernel
theorem dX12_over_67 : decode cX12_over 67 = .ok (.invokestatic 169, 3) := by decide +kernel
theorem dX12_over_70 : decode cX12_over 70 = .ok (.ireturn, 1) := by decide +kernel
theorem dX12_hiding_0 : decode cX12_hiding 0 = .ok (.iload_n 1, 1) := by decide +kernel
theorem dX12_hiding_1 : decode cX12_hiding 1 = .ok (.invokestatic 152, 3) := by decide +kernel
theorem dX12_hiding_4 : decode cX12_hiding 4 = .ok (.ifCond .eq 14, 3) := by decide +kernel
theorem dX12_hiding_7 : decode cX12_hiding 7 = .ok (.iload_n 2, 1) := by decide +kernel
theorem dX12_hiding_8 : decode cX12_hiding 8 = .ok (.iconst 0, 1) := by decide +kernel
theorem dX12_hiding_9 : decode cX12_hiding 9 = .ok (.sipush 10000, 3) := by decide +kernel
theorem dX12_hiding_12 : decode cX12_hiding 12 = .ok (.invokestatic 95, 3) := by decide +kernel
theorem dX12_hiding_15 : decode cX12_hiding 15 = .ok (.ifCond .ne 5, 3) := by decide +kernel
theorem dX12_hiding_18 : decode cX12_hiding 18 = .ok (.iconst (-1), 1) := by decide +kernel
theorem dX12_hiding_19 : decode cX12_hiding 19 = .ok (.ireturn, 1) := by decide +kernel
theorem dX12_hiding_20 : decode cX12_hiding 20 = .ok (.aload_n 0, 1) := by decide +kernel
theorem dX12_hiding_21 : decode cX12_hiding 21 = .ok (.iload_n 1, 1) := by decide +kernel
theorem dX12_hiding_22 : decode cX12_hiding 22 = .ok (.invokevirtual 155, 3) := by decide +kernel
theorem dX12_hiding_25 : decode cX12_hiding 25 = .ok (.ifCond .ne 6, 3) := by decide +kernel
theorem dX12_hiding_28 : decode cX12_hiding 28 = .ok (.bipush (-2), 2) := by decide +kernel
theorem dX12_hiding_30 : decode cX12_hiding 30 = .ok (.ireturn, 1) := by decide +kernel
theorem dX12_hiding_31 : decode cX12_hiding 31 = .ok (.iconst 0, 1) := by decide +kernel
theorem dX12_hiding_32 : decode cX12_hiding 32 = .ok (.istore_n 3, 1) := by decide +kernel
theorem dX12_hiding_33 : decode cX12_hiding 33 = .ok (.iload_n 3, 1) := by decide +kernel
theorem dX12_hiding_34 : decode cX12_hiding 34 = .ok (.bipush 8, 2) := by decide +kernel
theorem dX12_hiding_36 : decode cX12_hiding 36 = .ok (.if_icmp .ge 25, 3) := by decide +kernel
theorem dX12_hiding_39 : decode cX12_hiding 39 = .ok (.aload_n 0, 1) := by decide +kernel
theorem dX12_hiding_40 : decode cX12_hiding 40 = .ok (.getfield 47, 3) := by decide +kernel
theorem dX12_hiding_43 : decode cX12_hiding 43 = .ok (.iload_n 3, 1) := by decide +kernel
theorem dX12_hiding_44 : decode cX12_hiding 44 = .ok (.iconst 0, 1) := by decide +kernel
theorem dX12_hiding_45 : decode cX12_hiding 45 = .ok (.iastore, 1) := by decide +kernel
theorem dX12_hiding_46 : decode cX12_hiding 46 = .ok (.aload_n 0, 1) := by decide +kernel
theorem dX12_hiding_47 : decode cX12_hiding 47 = .ok (.getfield 50, 3) := by decide +kernel
theorem dX12_hiding_50 : decode cX12_hiding 50 = .ok (.iload_n 3, 1) := by decide +kernel
theorem dX12_hiding_51 : decode cX12_hiding 51 = .ok (.sipush 10000, 3) := by decide +kernel
theorem dX12_hiding_54 : decode cX12_hiding 54 = .ok (.iastore, 1) := by decide +kernel
theorem dX12_hiding_55 : decode cX12_hiding 55 = .ok (.iinc 3 1, 3) := by decide +kernel
theorem dX12_hiding_58 : decode cX12_hiding 58 = .ok (.goto (-25), 3) := by decide +kernel
theorem dX12_hiding_61 : decode cX12_hiding 61 = .ok (.iconst 1, 1) := by decide +kernel
theorem dX12_hiding_62 : decode cX12_hiding 62 = .ok (.istore_n 3, 1) := by decide +kernel
theorem dX12_hiding_63 : decode cX12_hiding 63 = .ok (.iload_n 3, 1) := by decide +kernel
theorem dX12_hiding_64 : decode cX12_hiding 64 = .ok (.sipush 200, 3) := by decide +kernel
theorem dX12_hiding_67 : decode cX12_hiding 67 = .ok (.if_icmp .gt 130, 3) := by decide +kernel
theorem dX12_hiding_70 : decode cX12_hiding 70 = .ok (.iconst 1, 1) := by decide +kernel
theorem dX12_hiding_71 : decode cX12_hiding 71 = .ok (.istore 4, 2) := by decide +kernel
theorem dX12_hiding_73 : decode cX12_hiding 73 = .ok (.iconst 0, 1) := by decide +kernel
theorem dX12_hiding_74 : decode cX12_hiding 74 = .ok (.istore 5, 2) := by decide +kernel
theorem dX12_hiding_76 : decode cX12_hiding 76 = .ok (.iload 5, 2) := by decide +kernel
theorem dX12_hiding_78 : decode cX12_hiding 78 = .ok (.bipush 8, 2) := by decide +kernel
theorem dX12_hiding_80 : decode cX12_hiding 80 = .ok (.if_icmp .ge 104, 3) := by decide +kernel
theorem dX12_hiding_83 : decode cX12_hiding 83 = .ok (.aload_n 0, 1) := by decide +kernel
theorem dX12_hiding_84 : decode cX12_hiding 84 = .ok (.getfield 47, 3) := by decide +kernel
theorem dX12_hiding_87 : decode cX12_hiding 87 = .ok (.iload 5, 2) := by decide +kernel
theorem dX12_hiding_89 : decode cX12_hiding 89 = .ok (.aload_n 0, 1) := by decide +kernel
theorem dX12_hiding_90 : decode cX12_hiding 90 = .ok (.iload_n 1, 1) := by decide +kernel
theorem dX12_hiding_91 : decode cX12_hiding 91 = .ok (.iload 5, 2) := by decide +kernel
theorem dX12_hiding_93 : decode cX12_hiding 93 = .ok (.invokevirtual 158, 3) := by decide +kernel
theorem dX12_hiding_96 : decode cX12_hiding 96 = .ok (.aload_n 0, 1) := by decide +kernel
theorem dX12_hiding_97 : decode cX12_hiding 97 = .ok (.iload_n 1, 1) := by decide +kernel
theorem dX12_hiding_98 : decode cX12_hiding 98 = .ok (.iload 5, 2) := by decide +kernel
theorem dX12_hiding_100 : decode cX12_hiding 100 = .ok (.invokevirtual 162, 3) := by decide +kernel
theorem dX12_hiding_103 : decode cX12_hiding 103 = .ok (.aload_n 0, 1) := by decide +kernel
theorem dX12_hiding_104 : decode cX12_hiding 104 = .ok (.getfield 47, 3) := by decide +kernel
theorem dX12_hiding_107 : decode cX12_hiding 107 = .ok (.iload 5, 2) := by decide +kernel
theorem dX12_hiding_109 : decode cX12_hiding 109 = .ok (.iaload, 1) := by decide +kernel
theorem dX12_hiding_110 : decode cX12_hiding 110 = .ok (.invokestatic 141, 3) := by decide +kernel
theorem dX12_hiding_113 : decode cX12_hiding 113 = .ok (.iastore, 1) := by decide +kernel
theorem dX12_hiding_114 : decode cX12_hiding 114 = .ok (.aload_n 0, 1) := by decide +kernel
theorem dX12_hiding_115 : decode cX12_hiding 115 = .ok (.getfield 50, 3) := by decide +kernel
theorem dX12_hiding_118 : decode cX12_hiding 118 = .ok (.iload 5, 2) := by decide +kernel
theorem dX12_hiding_120 : decode cX12_hiding 120 = .ok (.aload_n 0, 1) := by decide +kernel
theorem dX12_hiding_121 : decode cX12_hiding 121 = .ok (.iload_n 1, 1) := by decide +kernel
theorem dX12_hiding_122 : decode cX12_hiding 122 = .ok (.iload 5, 2) := by decide +kernel
theorem dX12_hiding_124 : decode cX12_hiding 124 = .ok (.invokevirtual 158, 3) := by decide +kernel
theorem dX12_hiding_127 : decode cX12_hiding 127 = .ok (.aload_n 0, 1) := by decide +kernel
theorem dX12_hiding_128 : decode cX12_hiding 128 = .ok (.iload_n 1, 1) := by decide +kernel
theorem dX12_hiding_129 : decode cX12_hiding 129 = .ok (.iload 5, 2) := by decide +kernel
theorem dX12_hiding_131 : decode cX12_hiding 131 = .ok (.invokevirtual 162, 3) := by decide +kernel
theorem dX12_hiding_134 : decode cX12_hiding 134 = .ok (.aload_n 0, 1) := by decide +kernel
theorem dX12_hiding_135 : decode cX12_hiding 135 = .ok (.getfield 50, 3) := by decide +kernel
theorem dX12_hiding_138 : decode cX12_hiding 138 = .ok (.iload 5, 2) := by decide +kernel
theorem dX12_hiding_140 : decode cX12_hiding 140 = .ok (.iaload, 1) := by decide +kernel
theorem dX12_hiding_141 : decode cX12_hiding 141 = .ok (.invokestatic 141, 3) := by decide +kernel
theorem dX12_hiding_144 : decode cX12_hiding 144 = .ok (.iastore, 1) := by decide +kernel
theorem dX12_hiding_145 : decode cX12_hiding 145 = .ok (.iload 4, 2) := by decide +kernel
theorem dX12_hiding_147 : decode cX12_hiding 147 = .ok (.ifCond .eq 28, 3) := by decide +kernel
theorem dX12_hiding_150 : decode cX12_hiding 150 = .ok (.aload_n 0, 1) := by decide +kernel
theorem dX12_hiding_151 : decode cX12_hiding 151 = .ok (.getfield 47, 3) := by decide +kernel
theorem dX12_hiding_154 : decode cX12_hiding 154 = .ok (.iload 5, 2) := by decide +kernel
theorem dX12_hiding_156 : decode cX12_hiding 156 = .ok (.iaload, 1) := by decide +kernel
theorem dX12_hiding_157 : decode cX12_hiding 157 = .ok (.aload_n 0, 1) := by decide +kernel
theorem dX12_hiding_158 : decode cX12_hiding 158 = .ok (.getfield 50, 3) := by decide +kernel
theorem dX12_hiding_161 : decode cX12_hiding 161 = .ok (.iload 5, 2) := by decide +kernel
theorem dX12_hiding_163 : decode cX12_hiding 163 = .ok (.iaload, 1) := by decide +kernel
theorem dX12_hiding_164 : decode cX12_hiding 164 = .ok (.invokestatic 149, 3) := by decide +kernel
theorem dX12_hiding_167 : decode cX12_hiding 167 = .ok (.iload_n 2, 1) := by decide +kernel
theorem dX12_hiding_168 : decode cX12_hiding 168 = .ok (.if_icmp .gt 7, 3) := by decide +kernel
theorem dX12_hiding_171 : decode cX12_hiding 171 = .ok (.iconst 1, 1) := by decide +kernel
theorem dX12_hiding_172 : decode cX12_hiding 172 = .ok (.goto 4, 3) := by decide +kernel
theorem dX12_hiding_175 : decode cX12_hiding 175 = .ok (.iconst 0, 1) := by decide +kernel
theorem dX12_hiding_176 : decode cX12_hiding 176 = .ok (.istore 4, 2) := by decide +kernel
theorem dX12_hiding_178 : decode cX12_hiding 178 = .ok (.iinc 5 1, 3) := by decide +kernel
theorem dX12_hiding_181 : decode cX12_hiding 181 = .ok (.goto (-105), 3) := by decide +kernel
theorem dX12_hiding_184 : decode cX12_hiding 184 = .ok (.iload 4, 2) := by decide +kernel
theorem dX12_hiding_186 : decode cX12_hiding 186 = .ok (.ifCond .eq 5, 3) := by decide +kernel
theorem dX12_hiding_189 : decode cX12_hiding 189 = .ok (.iload_n 3, 1) := by decide +kernel
theorem dX12_hiding_190 : decode cX12_hiding 190 = .ok (.ireturn, 1) := by decide +kernel
theorem dX12_hiding_191 : decode cX12_hiding 191 = .ok (.iinc 3 1, 3) := by decide +kernel
theorem dX12_hiding_194 : decode cX12_hiding 194 = .ok (.goto (-131), 3) := by decide +kernel
theorem dX12_hiding_197 : decode cX12_hiding 197 = .ok (.bipush (-2), 2) := by decide +kernel
theorem dX12_hiding_199 : decode cX12_hiding 199 = .ok (.ireturn, 1) := by decide +kernel
theorem dX12_ground_0 : decode cX12_ground 0 = .ok (.iload_n 1, 1) := by decide +kernel
theorem dX12_ground_1 : decode cX12_ground 1 = .ok (.invokestatic 173, 3) := by decide +kernel
theorem dX12_ground_4 : decode cX12_ground 4 = .ok (.ifCond .eq 14, 3) := by decide +kernel
theorem dX12_ground_7 : decode cX12_ground 7 = .ok (.iload_n 2, 1) := by decide +kernel
theorem dX12_ground_8 : decode cX12_ground 8 = .ok (.iconst 0, 1) := by decide +kernel
theorem dX12_ground_9 : decode cX12_ground 9 = .ok (.sipush 10000, 3) := by decide +kernel
theorem dX12_ground_12 : decode cX12_ground 12 = .ok (.invokestatic 95, 3) := by decide +kernel
theorem dX12_ground_15 : decode cX12_ground 15 = .ok (.ifCond .ne 5, 3) := by decide +kernel
theorem dX12_ground_18 : decode cX12_ground 18 = .ok (.iconst (-1), 1) := by decide +kernel
theorem dX12_ground_19 : decode cX12_ground 19 = .ok (.ireturn, 1) := by decide +kernel
theorem dX12_ground_20 : decode cX12_ground 20 = .ok (.aload_n 0, 1) := by decide +kernel
theorem dX12_ground_21 : decode cX12_ground 21 = .ok (.getfield 56, 3) := by decide +kernel
theorem dX12_ground_24 : decode cX12_ground 24 = .ok (.iload_n 1, 1) := by decide +kernel
theorem dX12_ground_25 : decode cX12_ground 25 = .ok (.iaload, 1) := by decide +kernel
theorem dX12_ground_26 : decode cX12_ground 26 = .ok (.ifCond .le 6, 3) := by decide +kernel
theorem dX12_ground_29 : decode cX12_ground 29 = .ok (.bipush (-2), 2) := by decide +kernel
theorem dX12_ground_31 : decode cX12_ground 31 = .ok (.ireturn, 1) := by decide +kernel
theorem dX12_ground_32 : decode cX12_ground 32 = .ok (.aload_n 0, 1) := by decide +kernel
theorem dX12_ground_33 : decode cX12_ground 33 = .ok (.getfield 53, 3) := by decide +kernel
theorem dX12_ground_36 : decode cX12_ground 36 = .ok (.iload_n 1, 1) := by decide +kernel
theorem dX12_ground_37 : decode cX12_ground 37 = .ok (.iaload, 1) := by decide +kernel
theorem dX12_ground_38 : decode cX12_ground 38 = .ok (.istore_n 3, 1) := by decide +kernel
theorem dX12_ground_39 : decode cX12_ground 39 = .ok (.aload_n 0, 1) := by decide +kernel
theorem dX12_ground_40 : decode cX12_ground 40 = .ok (.getfield 53, 3) := by decide +kernel
theorem dX12_ground_43 : decode cX12_ground 43 = .ok (.iload_n 1, 1) := by decide +kernel
theorem dX12_ground_44 : decode cX12_ground 44 = .ok (.iload_n 2, 1) := by decide +kernel
theorem dX12_ground_45 : decode cX12_ground 45 = .ok (.iastore, 1) := by decide +kernel
theorem dX12_ground_46 : decode cX12_ground 46 = .ok (.iload_n 3, 1) := by decide +kernel
theorem dX12_ground_47 : decode cX12_ground 47 = .ok (.ireturn, 1) := by decide +kernel
theorem dX12_lay_0 : decode cX12_lay 0 = .ok (.iload_n 1, 1) := by decide +kernel
theorem dX12_lay_1 : decode cX12_lay 1 = .ok (.invokestatic 152, 3) := by decide +kernel
theorem dX12_lay_4 : decode cX12_lay 4 = .ok (.ifCond .eq 21, 3) := by decide +kernel
theorem dX12_lay_7 : decode cX12_lay 7 = .ok (.iload_n 2, 1) := by decide +kernel
theorem dX12_lay_8 : decode cX12_lay 8 = .ok (.invokestatic 173, 3) := by decide +kernel
theorem dX12_lay_11 : decode cX12_lay 11 = .ok (.ifCond .eq 14, 3) := by decide +kernel
theorem dX12_lay_14 : decode cX12_lay 14 = .ok (.iload_n 3, 1) := by decide +kernel
theorem dX12_lay_15 : decode cX12_lay 15 = .ok (.iconst 1, 1) := by decide +kernel
theorem dX12_lay_16 : decode cX12_lay 16 = .ok (.sipush 200, 3) := by decide +kernel
theorem dX12_lay_19 : decode cX12_lay 19 = .ok (.invokestatic 95, 3) := by decide +kernel
theorem dX12_lay_22 : decode cX12_lay 22 = .ok (.ifCond .ne 5, 3) := by decide +kernel
theorem dX12_lay_25 : decode cX12_lay 25 = .ok (.iconst (-1), 1) := by decide +kernel
theorem dX12_lay_26 : decode cX12_lay 26 = .ok (.ireturn, 1) := by decide +kernel
theorem dX12_lay_27 : decode cX12_lay 27 = .ok (.aload_n 0, 1) := by decide +kernel
theorem dX12_lay_28 : decode cX12_lay 28 = .ok (.iload_n 1, 1) := by decide +kernel
theorem dX12_lay_29 : decode cX12_lay 29 = .ok (.invokevirtual 155, 3) := by decide +kernel
theorem dX12_lay_32 : decode cX12_lay 32 = .ok (.ifCond .ne 6, 3) := by decide +kernel
theorem dX12_lay_35 : decode cX12_lay 35 = .ok (.bipush (-2), 2) := by decide +kernel
theorem dX12_lay_37 : decode cX12_lay 37 = .ok (.ireturn, 1) := by decide +kernel
theorem dX12_lay_38 : decode cX12_lay 38 = .ok (.aload_n 0, 1) := by decide +kernel
theorem dX12_lay_39 : decode cX12_lay 39 = .ok (.getfield 56, 3) := by decide +kernel
theorem dX12_lay_42 : decode cX12_lay 42 = .ok (.iload_n 2, 1) := by decide +kernel
theorem dX12_lay_43 : decode cX12_lay 43 = .ok (.iaload, 1) := by decide +kernel
theorem dX12_lay_44 : decode cX12_lay 44 = .ok (.bipush 10, 2) := by decide +kernel
theorem dX12_lay_46 : decode cX12_lay 46 = .ok (.if_icmp .ne 6, 3) := by decide +kernel
theorem dX12_lay_49 : decode cX12_lay 49 = .ok (.bipush (-3), 2) := by decide +kernel
theorem dX12_lay_51 : decode cX12_lay 51 = .ok (.ireturn, 1) := by decide +kernel
theorem dX12_lay_52 : decode cX12_lay 52 = .ok (.bipush 10, 2) := by decide +kernel
theorem dX12_lay_54 : decode cX12_lay 54 = .ok (.iload_n 2, 1) := by decide +kernel
theorem dX12_lay_55 : decode cX12_lay 55 = .ok (.imul, 1) := by decide +kernel
theorem dX12_lay_56 : decode cX12_lay 56 = .ok (.aload_n 0, 1) := by decide +kernel
theorem dX12_lay_57 : decode cX12_lay 57 = .ok (.getfield 56, 3) := by decide +kernel
theorem dX12_lay_60 : decode cX12_lay 60 = .ok (.iload_n 2, 1) := by decide +kernel
theorem dX12_lay_61 : decode cX12_lay 61 = .ok (.iaload, 1) := by decide +kernel
theorem dX12_lay_62 : decode cX12_lay 62 = .ok (.iadd, 1) := by decide +kernel
theorem dX12_lay_63 : decode cX12_lay 63 = .ok (.istore 4, 2) := by decide +kernel
theorem dX12_lay_65 : decode cX12_lay 65 = .ok (.aload_n 0, 1) := by decide +kernel
theorem dX12_lay_66 : decode cX12_lay 66 = .ok (.getfield 59, 3) := by decide +kernel
theorem dX12_lay_69 : decode cX12_lay 69 = .ok (.iload 4, 2) := by decide +kernel
theorem dX12_lay_71 : decode cX12_lay 71 = .ok (.iload_n 3, 1) := by decide +kernel
theorem dX12_lay_72 : decode cX12_lay 72 = .ok (.iastore, 1) := by decide +kernel
theorem dX12_lay_73 : decode cX12_lay 73 = .ok (.aload_n 0, 1) := by decide +kernel
theorem dX12_lay_74 : decode cX12_lay 74 = .ok (.getfield 62, 3) := by decide +kernel
theorem dX12_lay_77 : decode cX12_lay 77 = .ok (.iload 4, 2) := by decide +kernel
theorem dX12_lay_79 : decode cX12_lay 79 = .ok (.aload_n 0, 1) := by decide +kernel
theorem dX12_lay_80 : decode cX12_lay 80 = .ok (.getfield 120, 3) := by decide +kernel
theorem dX12_lay_83 : decode cX12_lay 83 = .ok (.iastore, 1) := by decide +kernel
theorem dX12_lay_84 : decode cX12_lay 84 = .ok (.iconst 0, 1) := by decide +kernel
theorem dX12_lay_85 : decode cX12_lay 85 = .ok (.istore 5, 2) := by decide +kernel
theorem dX12_lay_87 : decode cX12_lay 87 = .ok (.iload 5, 2) := by decide +kernel
theorem dX12_lay_89 : decode cX12_lay 89 = .ok (.bipush 12, 2) := by decide +kernel
theorem dX12_lay_91 : decode cX12_lay 91 = .ok (.if_icmp .ge 63, 3) := by decide +kernel
theorem dX12_lay_94 : decode cX12_lay 94 = .ok (.aload_n 0, 1) := by decide +kernel
theorem dX12_lay_95 : decode cX12_lay 95 = .ok (.getfield 44, 3) := by decide +kernel
theorem dX12_lay_98 : decode cX12_lay 98 = .ok (.bipush 12, 2) := by decide +kernel
theorem dX12_lay_100 : decode cX12_lay 100 = .ok (.iload_n 1, 1) := by decide +kernel
theorem dX12_lay_101 : decode cX12_lay 101 = .ok (.imul, 1) := by decide +kernel
theorem dX12_lay_102 : decode cX12_lay 102 = .ok (.iload 5, 2) := by decide +kernel
theorem dX12_lay_104 : decode cX12_lay 104 = .ok (.iadd, 1) := by decide +kernel
theorem dX12_lay_105 : decode cX12_lay 105 = .ok (.iaload, 1) := by decide +kernel
theorem dX12_lay_106 : decode cX12_lay 106 = .ok (.istore 6, 2) := by decide +kernel
theorem dX12_lay_108 : decode cX12_lay 108 = .ok (.aload_n 0, 1) := by decide +kernel
theorem dX12_lay_109 : decode cX12_lay 109 = .ok (.getfield 65, 3) := by decide +kernel
theorem dX12_lay_112 : decode cX12_lay 112 = .ok (.bipush 12, 2) := by decide +kernel
theorem dX12_lay_114 : decode cX12_lay 114 = .ok (.iload 4, 2) := by decide +kernel
theorem dX12_lay_116 : decode cX12_lay 116 = .ok (.imul, 1) := by decide +kernel
theorem dX12_lay_117 : decode cX12_lay 117 = .ok (.iload 5, 2) := by decide +kernel
theorem dX12_lay_119 : decode cX12_lay 119 = .ok (.iadd, 1) := by decide +kernel
theorem dX12_lay_120 : decode cX12_lay 120 = .ok (.iload 6, 2) := by decide +kernel
theorem dX12_lay_122 : decode cX12_lay 122 = .ok (.iastore, 1) := by decide +kernel
theorem dX12_lay_123 : decode cX12_lay 123 = .ok (.aload_n 0, 1) := by decide +kernel
theorem dX12_lay_124 : decode cX12_lay 124 = .ok (.getfield 29, 3) := by decide +kernel
theorem dX12_lay_127 : decode cX12_lay 127 = .ok (.iload 5, 2) := by decide +kernel
theorem dX12_lay_129 : decode cX12_lay 129 = .ok (.dup2, 1) := by decide +kernel
theorem dX12_lay_130 : decode cX12_lay 130 = .ok (.iaload, 1) := by decide +kernel
theorem dX12_lay_131 : decode cX12_lay 131 = .ok (.iload 6, 2) := by decide +kernel
theorem dX12_lay_133 : decode cX12_lay 133 = .ok (.iadd, 1) := by decide +kernel
theorem dX12_lay_134 : decode cX12_lay 134 = .ok (.iastore, 1) := by decide +kernel
theorem dX12_lay_135 : decode cX12_lay 135 = .ok (.aload_n 0, 1) := by decide +kernel
theorem dX12_lay_136 : decode cX12_lay 136 = .ok (.getfield 44, 3) := by decide +kernel
theorem dX12_lay_139 : decode cX12_lay 139 = .ok (.bipush 12, 2) := by decide +kernel
theorem dX12_lay_141 : decode cX12_lay 141 = .ok (.iload_n 1, 1) := by decide +kernel
theorem dX12_lay_142 : decode cX12_lay 142 = .ok (.imul, 1) := by decide +kernel
theorem dX12_lay_143 : decode cX12_lay 143 = .ok (.iload 5, 2) := by decide +kernel
theorem dX12_lay_145 : decode cX12_lay 145 = .ok (.iadd, 1) := by decide +kernel
theorem dX12_lay_146 : decode cX12_lay 146 = .ok (.iconst 0, 1) := by decide +kernel
theorem dX12_lay_147 : decode cX12_lay 147 = .ok (.iastore, 1) := by decide +kernel
theorem dX12_lay_148 : decode cX12_lay 148 = .ok (.iinc 5 1, 3) := by decide +kernel
theorem dX12_lay_151 : decode cX12_lay 151 = .ok (.goto (-64), 3) := by decide +kernel
theorem dX12_lay_154 : decode cX12_lay 154 = .ok (.aload_n 0, 1) := by decide +kernel
theorem dX12_lay_155 : decode cX12_lay 155 = .ok (.getfield 56, 3) := by decide +kernel
theorem dX12_lay_158 : decode cX12_lay 158 = .ok (.iload_n 2, 1) := by decide +kernel
theorem dX12_lay_159 : decode cX12_lay 159 = .ok (.dup2, 1) := by decide +kernel
theorem dX12_lay_160 : decode cX12_lay 160 = .ok (.iaload, 1) := by decide +kernel
theorem dX12_lay_161 : decode cX12_lay 161 = .ok (.iconst 1, 1) := by decide +kernel
theorem dX12_lay_162 : decode cX12_lay 162 = .ok (.iadd, 1) := by decide +kernel
theorem dX12_lay_163 : decode cX12_lay 163 = .ok (.iastore, 1) := by decide +kernel
theorem dX12_lay_164 : decode cX12_lay 164 = .ok (.aload_n 0, 1) := by decide +kernel
theorem dX12_lay_165 : decode cX12_lay 165 = .ok (.getfield 56, 3) := by decide +kernel
theorem dX12_lay_168 : decode cX12_lay 168 = .ok (.iload_n 2, 1) := by decide +kernel
theorem dX12_lay_169 : decode cX12_lay 169 = .ok (.iaload, 1) := by decide +kernel
theorem dX12_lay_170 : decode cX12_lay 170 = .ok (.ireturn, 1) := by decide +kernel
theorem dX12_backOf_0 : decode cX12_backOf 0 = .ok (.aload_n 0, 1) := by decide +kernel
theorem dX12_backOf_1 : decode cX12_backOf 1 = .ok (.getfield 53, 3) := by decide +kernel
theorem dX12_backOf_4 : decode cX12_backOf 4 = .ok (.iload_n 1, 1) := by decide +kernel
theorem dX12_backOf_5 : decode cX12_backOf 5 = .ok (.iaload, 1) := by decide +kernel
theorem dX12_backOf_6 : decode cX12_backOf 6 = .ok (.istore 4, 2) := by decide +kernel
theorem dX12_backOf_8 : decode cX12_backOf 8 = .ok (.bipush 10, 2) := by decide +kernel
theorem dX12_backOf_10 : decode cX12_backOf 10 = .ok (.iload_n 1, 1) := by decide +kernel
theorem dX12_backOf_11 : decode cX12_backOf 11 = .ok (.imul, 1) := by decide +kernel
theorem dX12_backOf_12 : decode cX12_backOf 12 = .ok (.istore 5, 2) := by decide +kernel
theorem dX12_backOf_14 : decode cX12_backOf 14 = .ok (.iload 5, 2) := by decide +kernel
theorem dX12_backOf_16 : decode cX12_backOf 16 = .ok (.bipush 10, 2) := by decide +kernel
theorem dX12_backOf_18 : decode cX12_backOf 18 = .ok (.iload_n 1, 1) := by decide +kernel
theorem dX12_backOf_19 : decode cX12_backOf 19 = .ok (.imul, 1) := by decide +kernel
theorem dX12_backOf_20 : decode cX12_backOf 20 = .ok (.aload_n 0, 1) := by decide +kernel
theorem dX12_backOf_21 : decode cX12_backOf 21 = .ok (.getfield 56, 3) := by decide +kernel
theorem dX12_backOf_24 : decode cX12_backOf 24 = .ok (.iload_n 1, 1) := by decide +kernel
theorem dX12_backOf_25 : decode cX12_backOf 25 = .ok (.iaload, 1) := by decide +kernel
theorem dX12_backOf_26 : decode cX12_backOf 26 = .ok (.iadd, 1) := by decide +kernel
theorem dX12_backOf_27 : decode cX12_backOf 27 = .ok (.if_icmp .ge 123, 3) := by decide +kernel
theorem dX12_backOf_30 : decode cX12_backOf 30 = .ok (.lconst 0, 1) := by decide +kernel
theorem dX12_backOf_31 : decode cX12_backOf 31 = .ok (.lstore 6, 2) := by decide +kernel
theorem dX12_backOf_33 : decode cX12_backOf 33 = .ok (.lconst 0, 1) := by decide +kernel
theorem dX12_backOf_34 : decode cX12_backOf 34 = .ok (.lstore 8, 2) := by decide +kernel
theorem dX12_backOf_36 : decode cX12_backOf 36 = .ok (.iconst 0, 1) := by decide +kernel
theorem dX12_backOf_37 : decode cX12_backOf 37 = .ok (.istore 10, 2) := by decide +kernel
theorem dX12_backOf_39 : decode cX12_backOf 39 = .ok (.iload 10, 2) := by decide +kernel
theorem dX12_backOf_41 : decode cX12_backOf 41 = .ok (.aload_n 0, 1) := by decide +kernel
theorem dX12_backOf_42 : decode cX12_backOf 42 = .ok (.getfield 92, 3) := by decide +kernel
theorem dX12_backOf_45 : decode cX12_backOf 45 = .ok (.if_icmp .ge 81, 3) := by decide +kernel
theorem dX12_backOf_48 : decode cX12_backOf 48 = .ok (.aload_n 0, 1) := by decide +kernel
theorem dX12_backOf_49 : decode cX12_backOf 49 = .ok (.getfield 65, 3) := by decide +kernel
theorem dX12_backOf_52 : decode cX12_backOf 52 = .ok (.bipush 12, 2) := by decide +kernel
theorem dX12_backOf_54 : decode cX12_backOf 54 = .ok (.iload 5, 2) := by decide +kernel
theorem dX12_backOf_56 : decode cX12_backOf 56 = .ok (.imul, 1) := by decide +kernel
theorem dX12_backOf_57 : decode cX12_backOf 57 = .ok (.iload 10, 2) := by decide +kernel
theorem dX12_backOf_59 : decode cX12_backOf 59 = .ok (.iadd, 1) := by decide +kernel
theorem dX12_backOf_60 : decode cX12_backOf 60 = .ok (.iaload, 1) := by decide +kernel
theorem dX12_backOf_61 : decode cX12_backOf 61 = .ok (.i2l, 1) := by decide +kernel
theorem dX12_backOf_62 : decode cX12_backOf 62 = .ok (.lstore 11, 2) := by decide +kernel
theorem dX12_backOf_64 : decode cX12_backOf 64 = .ok (.lload 11, 2) := by decide +kernel
theorem dX12_backOf_66 : decode cX12_backOf 66 = .ok (.lconst 0, 1) := by decide +kernel
theorem dX12_backOf_67 : decode cX12_backOf 67 = .ok (.lcmp, 1) := by decide +kernel
theorem dX12_backOf_68 : decode cX12_backOf 68 = .ok (.ifCond .ne 6, 3) := by decide +kernel
theorem dX12_backOf_71 : decode cX12_backOf 71 = .ok (.goto 49, 3) := by decide +kernel
theorem dX12_backOf_74 : decode cX12_backOf 74 = .ok (.lload 6, 2) := by decide +kernel
theorem dX12_backOf_76 : decode cX12_backOf 76 = .ok (.lload 11, 2) := by decide +kernel
theorem dX12_backOf_78 : decode cX12_backOf 78 = .ok (.aload_n 0, 1) := by decide +kernel
theorem dX12_backOf_79 : decode cX12_backOf 79 = .ok (.iload 10, 2) := by decide +kernel
theorem dX12_backOf_81 : decode cX12_backOf 81 = .ok (.iload_n 2, 1) := by decide +kernel
theorem dX12_backOf_82 : decode cX12_backOf 82 = .ok (.iload_n 3, 1) := by decide +kernel
theorem dX12_backOf_83 : decode cX12_backOf 83 = .ok (.aload_n 0, 1) := by decide +kernel
theorem dX12_backOf_84 : decode cX12_backOf 84 = .ok (.getfield 62, 3) := by decide +kernel
theorem dX12_backOf_87 : decode cX12_backOf 87 = .ok (.iload 5, 2) := by decide +kernel
theorem dX12_backOf_89 : decode cX12_backOf 89 = .ok (.iaload, 1) := by decide +kernel
theorem dX12_backOf_90 : decode cX12_backOf 90 = .ok (.isub, 1) := by decide +kernel
theorem dX12_backOf_91 : decode cX12_backOf 91 = .ok (.invokevirtual 110, 3) := by decide +kernel
theorem dX12_backOf_94 : decode cX12_backOf 94 = .ok (.i2l, 1) := by decide +kernel
theorem dX12_backOf_95 : decode cX12_backOf 95 = .ok (.lmul, 1) := by decide +kernel
theorem dX12_backOf_96 : decode cX12_backOf 96 = .ok (.ladd, 1) := by decide +kernel
theorem dX12_backOf_97 : decode cX12_backOf 97 = .ok (.lstore 6, 2) := by decide +kernel
theorem dX12_backOf_99 : decode cX12_backOf 99 = .ok (.lload 8, 2) := by decide +kernel
theorem dX12_backOf_101 : decode cX12_backOf 101 = .ok (.lload 11, 2) := by decide +kernel
theorem dX12_backOf_103 : decode cX12_backOf 103 = .ok (.aload_n 0, 1) := by decide +kernel
theorem dX12_backOf_104 : decode cX12_backOf 104 = .ok (.getfield 17, 3) := by decide +kernel
theorem dX12_backOf_107 : decode cX12_backOf 107 = .ok (.bipush 8, 2) := by decide +kernel
theorem dX12_backOf_109 : decode cX12_backOf 109 = .ok (.iload 10, 2) := by decide +kernel
theorem dX12_backOf_111 : decode cX12_backOf 111 = .ok (.imul, 1) := by decide +kernel
theorem dX12_backOf_112 : decode cX12_backOf 112 = .ok (.iload_n 2, 1) := by decide +kernel
theorem dX12_backOf_113 : decode cX12_backOf 113 = .ok (.iadd, 1) := by decide +kernel
theorem dX12_backOf_114 : decode cX12_backOf 114 = .ok (.iaload, 1) := by decide +kernel
theorem dX12_backOf_115 : decode cX12_backOf 115 = .ok (.i2l, 1) := by decide +kernel
theorem dX12_backOf_116 : decode cX12_backOf 116 = .ok (.lmul, 1) := by decide +kernel
theorem dX12_backOf_117 : decode cX12_backOf 117 = .ok (.ladd, 1) := by decide +kernel
theorem dX12_backOf_118 : decode cX12_backOf 118 = .ok (.lstore 8, 2) := by decide +kernel
theorem dX12_backOf_120 : decode cX12_backOf 120 = .ok (.iinc 10 1, 3) := by decide +kernel
theorem dX12_backOf_123 : decode cX12_backOf 123 = .ok (.goto (-84), 3) := by decide +kernel
theorem dX12_backOf_126 : decode cX12_backOf 126 = .ok (.lload 6, 2) := by decide +kernel
theorem dX12_backOf_128 : decode cX12_backOf 128 = .ok (.lload 8, 2) := by decide +kernel
theorem dX12_backOf_130 : decode cX12_backOf 130 = .ok (.aload_n 0, 1) := by decide +kernel
theorem dX12_backOf_131 : decode cX12_backOf 131 = .ok (.getfield 59, 3) := by decide +kernel
theorem dX12_backOf_134 : decode cX12_backOf 134 = .ok (.iload 5, 2) := by decide +kernel
theorem dX12_backOf_136 : decode cX12_backOf 136 = .ok (.iaload, 1) := by decide +kernel
theorem dX12_backOf_137 : decode cX12_backOf 137 = .ok (.iload 4, 2) := by decide +kernel
theorem dX12_backOf_139 : decode cX12_backOf 139 = .ok (.invokestatic 169, 3) := by decide +kernel
theorem dX12_backOf_142 : decode cX12_backOf 142 = .ok (.istore 4, 2) := by decide +kernel
theorem dX12_backOf_144 : decode cX12_backOf 144 = .ok (.iinc 5 1, 3) := by decide +kernel
theorem dX12_backOf_147 : decode cX12_backOf 147 = .ok (.goto (-133), 3) := by decide +kernel
theorem dX12_backOf_150 : decode cX12_backOf 150 = .ok (.iload 4, 2) := by decide +kernel
theorem dX12_backOf_152 : decode cX12_backOf 152 = .ok (.ireturn, 1) := by decide +kernel
theorem dX12_lightOf_0 : decode cX12_lightOf 0 = .ok (.iconst 0, 1) := by decide +kernel
theorem dX12_lightOf_1 : decode cX12_lightOf 1 = .ok (.istore_n 3, 1) := by decide +kernel
theorem dX12_lightOf_2 : decode cX12_lightOf 2 = .ok (.iload_n 3, 1) := by decide +kernel
theorem dX12_lightOf_3 : decode cX12_lightOf 3 = .ok (.bipush 8, 2) := by decide +kernel
theorem dX12_lightOf_5 : decode cX12_lightOf 5 = .ok (.if_icmp .ge 22, 3) := by decide +kernel
theorem dX12_lightOf_8 : decode cX12_lightOf 8 = .ok (.aload_n 0, 1) := by decide +kernel
theorem dX12_lightOf_9 : decode cX12_lightOf 9 = .ok (.getfield 41, 3) := by decide +kernel
theorem dX12_lightOf_12 : decode cX12_lightOf 12 = .ok (.iload_n 3, 1) := by decide +kernel
theorem dX12_lightOf_13 : decode cX12_lightOf 13 = .ok (.aload_n 0, 1) := by decide +kernel
theorem dX12_lightOf_14 : decode cX12_lightOf 14 = .ok (.iload_n 1, 1) := by decide +kernel
theorem dX12_lightOf_15 : decode cX12_lightOf 15 = .ok (.iload_n 3, 1) := by decide +kernel
theorem dX12_lightOf_16 : decode cX12_lightOf 16 = .ok (.iload_n 2, 1) := by decide +kernel
theorem dX12_lightOf_17 : decode cX12_lightOf 17 = .ok (.invokevirtual 176, 3) := by decide +kernel
theorem dX12_lightOf_20 : decode cX12_lightOf 20 = .ok (.iastore, 1) := by decide +kernel
theorem dX12_lightOf_21 : decode cX12_lightOf 21 = .ok (.iinc 3 1, 3) := by decide +kernel
theorem dX12_lightOf_24 : decode cX12_lightOf 24 = .ok (.goto (-22), 3) := by decide +kernel
theorem dX12_lightOf_27 : decode cX12_lightOf 27 = .ok (.return_, 1) := by decide +kernel
theorem dX12_back_0 : decode cX12_back 0 = .ok (.iload_n 1, 1) := by decide +kernel
theorem dX12_back_1 : decode cX12_back 1 = .ok (.invokestatic 173, 3) := by decide +kernel
theorem dX12_back_4 : decode cX12_back 4 = .ok (.ifCond .eq 33, 3) := by decide +kernel
theorem dX12_back_7 : decode cX12_back 7 = .ok (.iload_n 2, 1) := by decide +kernel
theorem dX12_back_8 : decode cX12_back 8 = .ok (.invokestatic 103, 3) := by decide +kernel
theorem dX12_back_11 : decode cX12_back 11 = .ok (.ifCond .eq 26, 3) := by decide +kernel
theorem dX12_back_14 : decode cX12_back 14 = .ok (.iload_n 3, 1) := by decide +kernel
theorem dX12_back_15 : decode cX12_back 15 = .ok (.aload_n 0, 1) := by decide +kernel
theorem dX12_back_16 : decode cX12_back 16 = .ok (.getfield 120, 3) := by decide +kernel
theorem dX12_back_19 : decode cX12_back 19 = .ok (.bipush 99, 2) := by decide +kernel
theorem dX12_back_21 : decode cX12_back 21 = .ok (.invokestatic 95, 3) := by decide +kernel
theorem dX12_back_24 : decode cX12_back 24 = .ok (.ifCond .eq 13, 3) := by decide +kernel
theorem dX12_back_27 : decode cX12_back 27 = .ok (.aload_n 0, 1) := by decide +kernel
theorem dX12_back_28 : decode cX12_back 28 = .ok (.iload_n 1, 1) := by decide +kernel
theorem dX12_back_29 : decode cX12_back 29 = .ok (.iload_n 2, 1) := by decide +kernel
theorem dX12_back_30 : decode cX12_back 30 = .ok (.iload_n 3, 1) := by decide +kernel
theorem dX12_back_31 : decode cX12_back 31 = .ok (.invokevirtual 176, 3) := by decide +kernel
theorem dX12_back_34 : decode cX12_back 34 = .ok (.goto 4, 3) := by decide +kernel
theorem dX12_back_37 : decode cX12_back 37 = .ok (.iconst (-1), 1) := by decide +kernel
theorem dX12_back_38 : decode cX12_back 38 = .ok (.ireturn, 1) := by decide +kernel
theorem dX12_look_0 : decode cX12_look 0 = .ok (.iload_n 1, 1) := by decide +kernel
theorem dX12_look_1 : decode cX12_look 1 = .ok (.invokestatic 173, 3) := by decide +kernel
theorem dX12_look_4 : decode cX12_look 4 = .ok (.ifCond .eq 17, 3) := by decide +kernel
theorem dX12_look_7 : decode cX12_look 7 = .ok (.iload_n 2, 1) := by decide +kernel
theorem dX12_look_8 : decode cX12_look 8 = .ok (.invokestatic 114, 3) := by decide +kernel
theorem dX12_look_11 : decode cX12_look 11 = .ok (.ifCond .eq 10, 3) := by decide +kernel
theorem dX12_look_14 : decode cX12_look 14 = .ok (.iload_n 3, 1) := by decide +kernel
theorem dX12_look_15 : decode cX12_look 15 = .ok (.invokestatic 117, 3) := by decide +kernel
theorem dX12_look_18 : decode cX12_look 18 = .ok (.ifCond .ne 5, 3) := by decide +kernel
theorem dX12_look_21 : decode cX12_look 21 = .ok (.iconst (-1), 1) := by decide +kernel
theorem dX12_look_22 : decode cX12_look 22 = .ok (.ireturn, 1) := by decide +kernel
theorem dX12_look_23 : decode cX12_look 23 = .ok (.aload_n 0, 1) := by decide +kernel
theorem dX12_look_24 : decode cX12_look 24 = .ok (.iload_n 1, 1) := by decide +kernel
theorem dX12_look_25 : decode cX12_look 25 = .ok (.aload_n 0, 1) := by decide +kernel
theorem dX12_look_26 : decode cX12_look 26 = .ok (.getfield 120, 3) := by decide +kernel
theorem dX12_look_29 : decode cX12_look 29 = .ok (.invokevirtual 179, 3) := by decide +kernel
theorem dX12_look_32 : decode cX12_look 32 = .ok (.aload_n 0, 1) := by decide +kernel
theorem dX12_look_33 : decode cX12_look 33 = .ok (.iload_n 2, 1) := by decide +kernel
theorem dX12_look_34 : decode cX12_look 34 = .ok (.iload_n 3, 1) := by decide +kernel
theorem dX12_look_35 : decode cX12_look 35 = .ok (.invokevirtual 145, 3) := by decide +kernel
theorem dX12_look_38 : decode cX12_look 38 = .ok (.ireturn, 1) := by decide +kernel
theorem dX12_missed_0 : decode cX12_missed 0 = .ok (.iload_n 1, 1) := by decide +kernel
theorem dX12_missed_1 : decode cX12_missed 1 = .ok (.invokestatic 173, 3) := by decide +kernel
theorem dX12_missed_4 : decode cX12_missed 4 = .ok (.ifCond .eq 21, 3) := by decide +kernel
theorem dX12_missed_7 : decode cX12_missed 7 = .ok (.iload_n 2, 1) := by decide +kernel
theorem dX12_missed_8 : decode cX12_missed 8 = .ok (.invokestatic 114, 3) := by decide +kernel
theorem dX12_missed_11 : decode cX12_missed 11 = .ok (.ifCond .eq 14, 3) := by decide +kernel
theorem dX12_missed_14 : decode cX12_missed 14 = .ok (.iload_n 3, 1) := by decide +kernel
theorem dX12_missed_15 : decode cX12_missed 15 = .ok (.iconst 0, 1) := by decide +kernel
theorem dX12_missed_16 : decode cX12_missed 16 = .ok (.sipush 30000, 3) := by decide +kernel
theorem dX12_missed_19 : decode cX12_missed 19 = .ok (.invokestatic 95, 3) := by decide +kernel
theorem dX12_missed_22 : decode cX12_missed 22 = .ok (.ifCond .ne 5, 3) := by decide +kernel
theorem dX12_missed_25 : decode cX12_missed 25 = .ok (.iconst (-1), 1) := by decide +kernel
theorem dX12_missed_26 : decode cX12_missed 26 = .ok (.ireturn, 1) := by decide +kernel
theorem dX12_missed_27 : decode cX12_missed 27 = .ok (.aload_n 0, 1) := by decide +kernel
theorem dX12_missed_28 : decode cX12_missed 28 = .ok (.getfield 120, 3) := by decide +kernel
theorem dX12_missed_31 : decode cX12_missed 31 = .ok (.istore 4, 2) := by decide +kernel
theorem dX12_missed_33 : decode cX12_missed 33 = .ok (.iload 4, 2) := by decide +kernel
theorem dX12_missed_35 : decode cX12_missed 35 = .ok (.bipush 99, 2) := by decide +kernel
theorem dX12_missed_37 : decode cX12_missed 37 = .ok (.if_icmp .gt 46, 3) := by decide +kernel
theorem dX12_missed_40 : decode cX12_missed 40 = .ok (.aload_n 0, 1) := by decide +kernel
theorem dX12_missed_41 : decode cX12_missed 41 = .ok (.iload_n 1, 1) := by decide +kernel
theorem dX12_missed_42 : decode cX12_missed 42 = .ok (.iload 4, 2) := by decide +kernel
theorem dX12_missed_44 : decode cX12_missed 44 = .ok (.invokevirtual 179, 3) := by decide +kernel
theorem dX12_missed_47 : decode cX12_missed 47 = .ok (.aload_n 0, 1) := by decide +kernel
theorem dX12_missed_48 : decode cX12_missed 48 = .ok (.aload_n 0, 1) := by decide +kernel
theorem dX12_missed_49 : decode cX12_missed 49 = .ok (.getfield 68, 3) := by decide +kernel
theorem dX12_missed_52 : decode cX12_missed 52 = .ok (.iconst 0, 1) := by decide +kernel
theorem dX12_missed_53 : decode cX12_missed 53 = .ok (.iaload, 1) := by decide +kernel
theorem dX12_missed_54 : decode cX12_missed 54 = .ok (.aload_n 0, 1) := by decide +kernel
theorem dX12_missed_55 : decode cX12_missed 55 = .ok (.getfield 68, 3) := by decide +kernel
theorem dX12_missed_58 : decode cX12_missed 58 = .ok (.iconst 1, 1) := by decide +kernel
theorem dX12_missed_59 : decode cX12_missed 59 = .ok (.iaload, 1) := by decide +kernel
theorem dX12_missed_60 : decode cX12_missed 60 = .ok (.aload_n 0, 1) := by decide +kernel
theorem dX12_missed_61 : decode cX12_missed 61 = .ok (.getfield 68, 3) := by decide +kernel
theorem dX12_missed_64 : decode cX12_missed 64 = .ok (.iconst 2, 1) := by decide +kernel
theorem dX12_missed_65 : decode cX12_missed 65 = .ok (.iaload, 1) := by decide +kernel
theorem dX12_missed_66 : decode cX12_missed 66 = .ok (.iload_n 2, 1) := by decide +kernel
theorem dX12_missed_67 : decode cX12_missed 67 = .ok (.invokevirtual 183, 3) := by decide +kernel
theorem dX12_missed_70 : decode cX12_missed 70 = .ok (.iload_n 3, 1) := by decide +kernel
theorem dX12_missed_71 : decode cX12_missed 71 = .ok (.if_icmp .le 6, 3) := by decide +kernel
theorem dX12_missed_74 : decode cX12_missed 74 = .ok (.iload 4, 2) := by decide +kernel
theorem dX12_missed_76 : decode cX12_missed 76 = .ok (.ireturn, 1) := by decide +kernel
theorem dX12_missed_77 : decode cX12_missed 77 = .ok (.iinc 4 1, 3) := by decide +kernel
theorem dX12_missed_80 : decode cX12_missed 80 = .ok (.goto (-47), 3) := by decide +kernel
theorem dX12_missed_83 : decode cX12_missed 83 = .ok (.bipush (-2), 2) := by decide +kernel
theorem dX12_missed_85 : decode cX12_missed 85 = .ok (.ireturn, 1) := by decide +kernel
theorem dX12_tone_0 : decode cX12_tone 0 = .ok (.iload_n 1, 1) := by decide +kernel
theorem dX12_tone_1 : decode cX12_tone 1 = .ok (.iconst 0, 1) := by decide +kernel
theorem dX12_tone_2 : decode cX12_tone 2 = .ok (.sipush 10000, 3) := by decide +kernel
theorem dX12_tone_5 : decode cX12_tone 5 = .ok (.invokestatic 95, 3) := by decide +kernel
theorem dX12_tone_8 : decode cX12_tone 8 = .ok (.ifCond .eq 25, 3) := by decide +kernel
theorem dX12_tone_11 : decode cX12_tone 11 = .ok (.iload_n 2, 1) := by decide +kernel
theorem dX12_tone_12 : decode cX12_tone 12 = .ok (.iconst 0, 1) := by decide +kernel
theorem dX12_tone_13 : decode cX12_tone 13 = .ok (.sipush 10000, 3) := by decide +kernel
theorem dX12_tone_16 : decode cX12_tone 16 = .ok (.invokestatic 95, 3) := by decide +kernel
theorem dX12_tone_19 : decode cX12_tone 19 = .ok (.ifCond .eq 14, 3) := by decide +kernel
theorem dX12_tone_22 : decode cX12_tone 22 = .ok (.iload_n 3, 1) := by decide +kernel
theorem dX12_tone_23 : decode cX12_tone 23 = .ok (.iconst 0, 1) := by decide +kernel
theorem dX12_tone_24 : decode cX12_tone 24 = .ok (.sipush 10000, 3) := by decide +kernel
theorem dX12_tone_27 : decode cX12_tone 27 = .ok (.invokestatic 95, 3) := by decide +kernel
theorem dX12_tone_30 : decode cX12_tone 30 = .ok (.ifCond .ne 5, 3) := by decide +kernel
theorem dX12_tone_33 : decode cX12_tone 33 = .ok (.iconst (-1), 1) := by decide +kernel
theorem dX12_tone_34 : decode cX12_tone 34 = .ok (.ireturn, 1) := by decide +kernel
theorem dX12_tone_35 : decode cX12_tone 35 = .ok (.aload_n 0, 1) := by decide +kernel
theorem dX12_tone_36 : decode cX12_tone 36 = .ok (.getfield 68, 3) := by decide +kernel
theorem dX12_tone_39 : decode cX12_tone 39 = .ok (.iconst 0, 1) := by decide +kernel
theorem dX12_tone_40 : decode cX12_tone 40 = .ok (.iload_n 1, 1) := by decide +kernel
theorem dX12_tone_41 : decode cX12_tone 41 = .ok (.iastore, 1) := by decide +kernel
theorem dX12_tone_42 : decode cX12_tone 42 = .ok (.aload_n 0, 1) := by decide +kernel
theorem dX12_tone_43 : decode cX12_tone 43 = .ok (.getfield 68, 3) := by decide +kernel
theorem dX12_tone_46 : decode cX12_tone 46 = .ok (.iconst 1, 1) := by decide +kernel
theorem dX12_tone_47 : decode cX12_tone 47 = .ok (.iload_n 2, 1) := by decide +kernel
theorem dX12_tone_48 : decode cX12_tone 48 = .ok (.iastore, 1) := by decide +kernel
theorem dX12_tone_49 : decode cX12_tone 49 = .ok (.aload_n 0, 1) := by decide +kernel
theorem dX12_tone_50 : decode cX12_tone 50 = .ok (.getfield 68, 3) := by decide +kernel
theorem dX12_tone_53 : decode cX12_tone 53 = .ok (.iconst 2, 1) := by decide +kernel
theorem dX12_tone_54 : decode cX12_tone 54 = .ok (.iload_n 3, 1) := by decide +kernel
theorem dX12_tone_55 : decode cX12_tone 55 = .ok (.iastore, 1) := by decide +kernel
theorem dX12_tone_56 : decode cX12_tone 56 = .ok (.iconst 1, 1) := by decide +kernel
theorem dX12_tone_57 : decode cX12_tone 57 = .ok (.ireturn, 1) := by decide +kernel
theorem dX12_apart_0 : decode cX12_apart 0 = .ok (.iload_n 1, 1) := by decide +kernel
theorem dX12_apart_1 : decode cX12_apart 1 = .ok (.invokestatic 173, 3) := by decide +kernel
theorem dX12_apart_4 : decode cX12_apart 4 = .ok (.ifCond .eq 10, 3) := by decide +kernel
theorem dX12_apart_7 : decode cX12_apart 7 = .ok (.iload_n 2, 1) := by decide +kernel
theorem dX12_apart_8 : decode cX12_apart 8 = .ok (.invokestatic 114, 3) := by decide +kernel
theorem dX12_apart_11 : decode cX12_apart 11 = .ok (.ifCond .ne 5, 3) := by decide +kernel
theorem dX12_apart_14 : decode cX12_apart 14 = .ok (.iconst (-1), 1) := by decide +kernel
theorem dX12_apart_15 : decode cX12_apart 15 = .ok (.ireturn, 1) := by decide +kernel
theorem dX12_apart_16 : decode cX12_apart 16 = .ok (.aload_n 0, 1) := by decide +kernel
theorem dX12_apart_17 : decode cX12_apart 17 = .ok (.iload_n 1, 1) := by decide +kernel
theorem dX12_apart_18 : decode cX12_apart 18 = .ok (.aload_n 0, 1) := by decide +kernel
theorem dX12_apart_19 : decode cX12_apart 19 = .ok (.getfield 120, 3) := by decide +kernel
theorem dX12_apart_22 : decode cX12_apart 22 = .ok (.invokevirtual 179, 3) := by decide +kernel
theorem dX12_apart_25 : decode cX12_apart 25 = .ok (.aload_n 0, 1) := by decide +kernel
theorem dX12_apart_26 : decode cX12_apart 26 = .ok (.aload_n 0, 1) := by decide +kernel
theorem dX12_apart_27 : decode cX12_apart 27 = .ok (.getfield 68, 3) := by decide +kernel
theorem dX12_apart_30 : decode cX12_apart 30 = .ok (.iconst 0, 1) := by decide +kernel
theorem dX12_apart_31 : decode cX12_apart 31 = .ok (.iaload, 1) := by decide +kernel
theorem dX12_apart_32 : decode cX12_apart 32 = .ok (.aload_n 0, 1) := by decide +kernel
theorem dX12_apart_33 : decode cX12_apart 33 = .ok (.getfield 68, 3) := by decide +kernel
theorem dX12_apart_36 : decode cX12_apart 36 = .ok (.iconst 1, 1) := by decide +kernel
theorem dX12_apart_37 : decode cX12_apart 37 = .ok (.iaload, 1) := by decide +kernel
theorem dX12_apart_38 : decode cX12_apart 38 = .ok (.aload_n 0, 1) := by decide +kernel
theorem dX12_apart_39 : decode cX12_apart 39 = .ok (.getfield 68, 3) := by decide +kernel
theorem dX12_apart_42 : decode cX12_apart 42 = .ok (.iconst 2, 1) := by decide +kernel
theorem dX12_apart_43 : decode cX12_apart 43 = .ok (.iaload, 1) := by decide +kernel
theorem dX12_apart_44 : decode cX12_apart 44 = .ok (.iload_n 2, 1) := by decide +kernel
theorem dX12_apart_45 : decode cX12_apart 45 = .ok (.invokevirtual 183, 3) := by decide +kernel
theorem dX12_apart_48 : decode cX12_apart 48 = .ok (.ireturn, 1) := by decide +kernel
theorem dX12_lightOfTrial_0 : decode cX12_lightOfTrial 0 = .ok (.iconst 0, 1) := by decide +kernel
theorem dX12_lightOfTrial_1 : decode cX12_lightOfTrial 1 = .ok (.istore_n 1, 1) := by decide +kernel
theorem dX12_lightOfTrial_2 : decode cX12_lightOfTrial 2 = .ok (.iload_n 1, 1) := by decide +kernel
theorem dX12_lightOfTrial_3 : decode cX12_lightOfTrial 3 = .ok (.bipush 8, 2) := by decide +kernel
theorem dX12_lightOfTrial_5 : decode cX12_lightOfTrial 5 = .ok (.if_icmp .ge 94, 3) := by decide +kernel
theorem dX12_lightOfTrial_8 : decode cX12_lightOfTrial 8 = .ok (.lconst 0, 1) := by decide +kernel
theorem dX12_lightOfTrial_9 : decode cX12_lightOfTrial 9 = .ok (.lstore_n 2, 1) := by decide +kernel
theorem dX12_lightOfTrial_10 : decode cX12_lightOfTrial 10 = .ok (.lconst 0, 1) := by decide +kernel
theorem dX12_lightOfTrial_11 : decode cX12_lightOfTrial 11 = .ok (.lstore 4, 2) := by decide +kernel
theorem dX12_lightOfTrial_13 : decode cX12_lightOfTrial 13 = .ok (.iconst 0, 1) := by decide +kernel
theorem dX12_lightOfTrial_14 : decode cX12_lightOfTrial 14 = .ok (.istore 6, 2) := by decide +kernel
theorem dX12_lightOfTrial_16 : decode cX12_lightOfTrial 16 = .ok (.iload 6, 2) := by decide +kernel
theorem dX12_lightOfTrial_18 : decode cX12_lightOfTrial 18 = .ok (.aload_n 0, 1) := by decide +kernel
theorem dX12_lightOfTrial_19 : decode cX12_lightOfTrial 19 = .ok (.getfield 92, 3) := by decide +kernel
theorem dX12_lightOfTrial_22 : decode cX12_lightOfTrial 22 = .ok (.if_icmp .ge 59, 3) := by decide +kernel
theorem dX12_lightOfTrial_25 : decode cX12_lightOfTrial 25 = .ok (.lload_n 2, 1) := by decide +kernel
theorem dX12_lightOfTrial_26 : decode cX12_lightOfTrial 26 = .ok (.aload_n 0, 1) := by decide +kernel
theorem dX12_lightOfTrial_27 : decode cX12_lightOfTrial 27 = .ok (.getfield 71, 3) := by decide +kernel
theorem dX12_lightOfTrial_30 : decode cX12_lightOfTrial 30 = .ok (.iload 6, 2) := by decide +kernel
theorem dX12_lightOfTrial_32 : decode cX12_lightOfTrial 32 = .ok (.iaload, 1) := by decide +kernel
theorem dX12_lightOfTrial_33 : decode cX12_lightOfTrial 33 = .ok (.aload_n 0, 1) := by decide +kernel
theorem dX12_lightOfTrial_34 : decode cX12_lightOfTrial 34 = .ok (.getfield 13, 3) := by decide +kernel
theorem dX12_lightOfTrial_37 : decode cX12_lightOfTrial 37 = .ok (.bipush 8, 2) := by decide +kernel
theorem dX12_lightOfTrial_39 : decode cX12_lightOfTrial 39 = .ok (.iload 6, 2) := by decide +kernel
theorem dX12_lightOfTrial_41 : decode cX12_lightOfTrial 41 = .ok (.imul, 1) := by decide +kernel
theorem dX12_lightOfTrial_42 : decode cX12_lightOfTrial 42 = .ok (.iload_n 1, 1) := by decide +kernel
theorem dX12_lightOfTrial_43 : decode cX12_lightOfTrial 43 = .ok (.iadd, 1) := by decide +kernel
theorem dX12_lightOfTrial_44 : decode cX12_lightOfTrial 44 = .ok (.iaload, 1) := by decide +kernel
theorem dX12_lightOfTrial_45 : decode cX12_lightOfTrial 45 = .ok (.imul, 1) := by decide +kernel
theorem dX12_lightOfTrial_46 : decode cX12_lightOfTrial 46 = .ok (.i2l, 1) := by decide +kernel
theorem dX12_lightOfTrial_47 : decode cX12_lightOfTrial 47 = .ok (.ladd, 1) := by decide +kernel
theorem dX12_lightOfTrial_48 : decode cX12_lightOfTrial 48 = .ok (.lstore_n 2, 1) := by decide +kernel
theorem dX12_lightOfTrial_49 : decode cX12_lightOfTrial 49 = .ok (.lload 4, 2) := by decide +kernel
theorem dX12_lightOfTrial_51 : decode cX12_lightOfTrial 51 = .ok (.aload_n 0, 1) := by decide +kernel
theorem dX12_lightOfTrial_52 : decode cX12_lightOfTrial 52 = .ok (.getfield 71, 3) := by decide +kernel
theorem dX12_lightOfTrial_55 : decode cX12_lightOfTrial 55 = .ok (.iload 6, 2) := by decide +kernel
theorem dX12_lightOfTrial_57 : decode cX12_lightOfTrial 57 = .ok (.iaload, 1) := by decide +kernel
theorem dX12_lightOfTrial_58 : decode cX12_lightOfTrial 58 = .ok (.aload_n 0, 1) := by decide +kernel
theorem dX12_lightOfTrial_59 : decode cX12_lightOfTrial 59 = .ok (.getfield 17, 3) := by decide +kernel
theorem dX12_lightOfTrial_62 : decode cX12_lightOfTrial 62 = .ok (.bipush 8, 2) := by decide +kernel
theorem dX12_lightOfTrial_64 : decode cX12_lightOfTrial 64 = .ok (.iload 6, 2) := by decide +kernel
theorem dX12_lightOfTrial_66 : decode cX12_lightOfTrial 66 = .ok (.imul, 1) := by decide +kernel
theorem dX12_lightOfTrial_67 : decode cX12_lightOfTrial 67 = .ok (.iload_n 1, 1) := by decide +kernel
theorem dX12_lightOfTrial_68 : decode cX12_lightOfTrial 68 = .ok (.iadd, 1) := by decide +kernel
theorem dX12_lightOfTrial_69 : decode cX12_lightOfTrial 69 = .ok (.iaload, 1) := by decide +kernel
theorem dX12_lightOfTrial_70 : decode cX12_lightOfTrial 70 = .ok (.imul, 1) := by decide +kernel
theorem dX12_lightOfTrial_71 : decode cX12_lightOfTrial 71 = .ok (.i2l, 1) := by decide +kernel
theorem dX12_lightOfTrial_72 : decode cX12_lightOfTrial 72 = .ok (.ladd, 1) := by decide +kernel
theorem dX12_lightOfTrial_73 : decode cX12_lightOfTrial 73 = .ok (.lstore 4, 2) := by decide +kernel
theorem dX12_lightOfTrial_75 : decode cX12_lightOfTrial 75 = .ok (.iinc 6 1, 3) := by decide +kernel
theorem dX12_lightOfTrial_78 : decode cX12_lightOfTrial 78 = .ok (.goto (-62), 3) := by decide +kernel
theorem dX12_lightOfTrial_81 : decode cX12_lightOfTrial 81 = .ok (.aload_n 0, 1) := by decide +kernel
theorem dX12_lightOfTrial_82 : decode cX12_lightOfTrial 82 = .ok (.getfield 41, 3) := by decide +kernel
theorem dX12_lightOfTrial_85 : decode cX12_lightOfTrial 85 = .ok (.iload_n 1, 1) := by decide +kernel
theorem dX12_lightOfTrial_86 : decode cX12_lightOfTrial 86 = .ok (.lload_n 2, 1) := by decide +kernel
theorem dX12_lightOfTrial_87 : decode cX12_lightOfTrial 87 = .ok (.lload 4, 2) := by decide +kernel
theorem dX12_lightOfTrial_89 : decode cX12_lightOfTrial 89 = .ok (.invokestatic 165, 3) := by decide +kernel
theorem dX12_lightOfTrial_92 : decode cX12_lightOfTrial 92 = .ok (.iastore, 1) := by decide +kernel
theorem dX12_lightOfTrial_93 : decode cX12_lightOfTrial 93 = .ok (.iinc 1 1, 3) := by decide +kernel
theorem dX12_lightOfTrial_96 : decode cX12_lightOfTrial 96 = .ok (.goto (-94), 3) := by decide +kernel
theorem dX12_lightOfTrial_99 : decode cX12_lightOfTrial 99 = .ok (.return_, 1) := by decide +kernel
theorem dX12_usedMany_0 : decode cX12_usedMany 0 = .ok (.iconst 0, 1) := by decide +kernel
theorem dX12_usedMany_1 : decode cX12_usedMany 1 = .ok (.istore_n 1, 1) := by decide +kernel
theorem dX12_usedMany_2 : decode cX12_usedMany 2 = .ok (.iconst 0, 1) := by decide +kernel
theorem dX12_usedMany_3 : decode cX12_usedMany 3 = .ok (.istore_n 2, 1) := by decide +kernel
theorem dX12_usedMany_4 : decode cX12_usedMany 4 = .ok (.iload_n 2, 1) := by decide +kernel
theorem dX12_usedMany_5 : decode cX12_usedMany 5 = .ok (.aload_n 0, 1) := by decide +kernel
theorem dX12_usedMany_6 : decode cX12_usedMany 6 = .ok (.getfield 92, 3) := by decide +kernel
theorem dX12_usedMany_9 : decode cX12_usedMany 9 = .ok (.if_icmp .ge 26, 3) := by decide +kernel
theorem dX12_usedMany_12 : decode cX12_usedMany 12 = .ok (.iload_n 1, 1) := by decide +kernel
theorem dX12_usedMany_13 : decode cX12_usedMany 13 = .ok (.aload_n 0, 1) := by decide +kernel
theorem dX12_usedMany_14 : decode cX12_usedMany 14 = .ok (.getfield 71, 3) := by decide +kernel
theorem dX12_usedMany_17 : decode cX12_usedMany 17 = .ok (.iload_n 2, 1) := by decide +kernel
theorem dX12_usedMany_18 : decode cX12_usedMany 18 = .ok (.iaload, 1) := by decide +kernel
theorem dX12_usedMany_19 : decode cX12_usedMany 19 = .ok (.ifCond .le 7, 3) := by decide +kernel
theorem dX12_usedMany_22 : decode cX12_usedMany 22 = .ok (.iconst 1, 1) := by decide +kernel
theorem dX12_usedMany_23 : decode cX12_usedMany 23 = .ok (.goto 4, 3) := by decide +kernel
theorem dX12_usedMany_26 : decode cX12_usedMany 26 = .ok (.iconst 0, 1) := by decide +kernel
theorem dX12_usedMany_27 : decode cX12_usedMany 27 = .ok (.iadd, 1) := by decide +kernel
theorem dX12_usedMany_28 : decode cX12_usedMany 28 = .ok (.istore_n 1, 1) := by decide +kernel
theorem dX12_usedMany_29 : decode cX12_usedMany 29 = .ok (.iinc 2 1, 3) := by decide +kernel
theorem dX12_usedMany_32 : decode cX12_usedMany 32 = .ok (.goto (-28), 3) := by decide +kernel
theorem dX12_usedMany_35 : decode cX12_usedMany 35 = .ok (.iload_n 1, 1) := by decide +kernel
theorem dX12_usedMany_36 : decode cX12_usedMany 36 = .ok (.ireturn, 1) := by decide +kernel
theorem dX12_next_0 : decode cX12_next 0 = .ok (.aload_n 0, 1) := by decide +kernel
theorem dX12_next_1 : decode cX12_next 1 = .ok (.getfield 92, 3) := by decide +kernel
theorem dX12_next_4 : decode cX12_next 4 = .ok (.iconst 1, 1) := by decide +kernel
theorem dX12_next_5 : decode cX12_next 5 = .ok (.isub, 1) := by decide +kernel
theorem dX12_next_6 : decode cX12_next 6 = .ok (.istore_n 2, 1) := by decide +kernel
theorem dX12_next_7 : decode cX12_next 7 = .ok (.iload_n 1, 1) := by decide +kernel
theorem dX12_next_8 : decode cX12_next 8 = .ok (.iload_n 2, 1) := by decide +kernel
theorem dX12_next_9 : decode cX12_next 9 = .ok (.ishr, 1) := by decide +kernel
theorem dX12_next_10 : decode cX12_next 10 = .ok (.iconst 1, 1) := by decide +kernel
theorem dX12_next_11 : decode cX12_next 11 = .ok (.iand, 1) := by decide +kernel
theorem dX12_next_12 : decode cX12_next 12 = .ok (.ifCond .ne 9, 3) := by decide +kernel
theorem dX12_next_15 : decode cX12_next 15 = .ok (.iinc 2 (-1), 3) := by decide +kernel
theorem dX12_next_18 : decode cX12_next 18 = .ok (.goto (-11), 3) := by decide +kernel
theorem dX12_next_21 : decode cX12_next 21 = .ok (.aload_n 0, 1) := by decide +kernel
theorem dX12_next_22 : decode cX12_next 22 = .ok (.getfield 71, 3) := by decide +kernel
theorem dX12_next_25 : decode cX12_next 25 = .ok (.iload_n 2, 1) := by decide +kernel
theorem dX12_next_26 : decode cX12_next 26 = .ok (.iaload, 1) := by decide +kernel
theorem dX12_next_27 : decode cX12_next 27 = .ok (.istore_n 3, 1) := by decide +kernel
theorem dX12_next_28 : decode cX12_next 28 = .ok (.aload_n 0, 1) := by decide +kernel
theorem dX12_next_29 : decode cX12_next 29 = .ok (.getfield 71, 3) := by decide +kernel
theorem dX12_next_32 : decode cX12_next 32 = .ok (.iload_n 2, 1) := by decide +kernel
theorem dX12_next_33 : decode cX12_next 33 = .ok (.iconst 0, 1) := by decide +kernel
theorem dX12_next_34 : decode cX12_next 34 = .ok (.iastore, 1) := by decide +kernel
theorem dX12_next_35 : decode cX12_next 35 = .ok (.iload_n 2, 1) := by decide +kernel
theorem dX12_next_36 : decode cX12_next 36 = .ok (.iconst 1, 1) := by decide +kernel
theorem dX12_next_37 : decode cX12_next 37 = .ok (.isub, 1) := by decide +kernel
theorem dX12_next_38 : decode cX12_next 38 = .ok (.istore 4, 2) := by decide +kernel
theorem dX12_next_40 : decode cX12_next 40 = .ok (.iload 4, 2) := by decide +kernel
theorem dX12_next_42 : decode cX12_next 42 = .ok (.ifCond .lt 19, 3) := by decide +kernel
theorem dX12_next_45 : decode cX12_next 45 = .ok (.aload_n 0, 1) := by decide +kernel
theorem dX12_next_46 : decode cX12_next 46 = .ok (.getfield 71, 3) := by decide +kernel
theorem dX12_next_49 : decode cX12_next 49 = .ok (.iload 4, 2) := by decide +kernel
theorem dX12_next_51 : decode cX12_next 51 = .ok (.iaload, 1) := by decide +kernel
theorem dX12_next_52 : decode cX12_next 52 = .ok (.ifCond .ne 9, 3) := by decide +kernel
theorem dX12_next_55 : decode cX12_next 55 = .ok (.iinc 4 (-1), 3) := by decide +kernel
theorem dX12_next_58 : decode cX12_next 58 = .ok (.goto (-18), 3) := by decide +kernel
theorem dX12_next_61 : decode cX12_next 61 = .ok (.iload 4, 2) := by decide +kernel
theorem dX12_next_63 : decode cX12_next 63 = .ok (.ifCond .ge 5, 3) := by decide +kernel
theorem dX12_next_66 : decode cX12_next 66 = .ok (.iconst 0, 1) := by decide +kernel
theorem dX12_next_67 : decode cX12_next 67 = .ok (.ireturn, 1) := by decide +kernel
theorem dX12_next_68 : decode cX12_next 68 = .ok (.aload_n 0, 1) := by decide +kernel
theorem dX12_next_69 : decode cX12_next 69 = .ok (.getfield 71, 3) := by decide +kernel
theorem dX12_next_72 : decode cX12_next 72 = .ok (.iload 4, 2) := by decide +kernel
theorem dX12_next_74 : decode cX12_next 74 = .ok (.dup2, 1) := by decide +kernel
theorem dX12_next_75 : decode cX12_next 75 = .ok (.iaload, 1) := by decide +kernel
theorem dX12_next_76 : decode cX12_next 76 = .ok (.iconst 1, 1) := by decide +kernel
theorem dX12_next_77 : decode cX12_next 77 = .ok (.isub, 1) := by decide +kernel
theorem dX12_next_78 : decode cX12_next 78 = .ok (.iastore, 1) := by decide +kernel
theorem dX12_next_79 : decode cX12_next 79 = .ok (.iload 4, 2) := by decide +kernel
theorem dX12_next_81 : decode cX12_next 81 = .ok (.iconst 1, 1) := by decide +kernel
theorem dX12_next_82 : decode cX12_next 82 = .ok (.iadd, 1) := by decide +kernel
theorem dX12_next_83 : decode cX12_next 83 = .ok (.istore 5, 2) := by decide +kernel
theorem dX12_next_85 : decode cX12_next 85 = .ok (.iload_n 1, 1) := by decide +kernel
theorem dX12_next_86 : decode cX12_next 86 = .ok (.iload 5, 2) := by decide +kernel
theorem dX12_next_88 : decode cX12_next 88 = .ok (.ishr, 1) := by decide +kernel
theorem dX12_next_89 : decode cX12_next 89 = .ok (.iconst 1, 1) := by decide +kernel
theorem dX12_next_90 : decode cX12_next 90 = .ok (.iand, 1) := by decide +kernel
theorem dX12_next_91 : decode cX12_next 91 = .ok (.ifCond .ne 9, 3) := by decide +kernel
theorem dX12_next_94 : decode cX12_next 94 = .ok (.iinc 5 1, 3) := by decide +kernel
theorem dX12_next_97 : decode cX12_next 97 = .ok (.goto (-12), 3) := by decide +kernel
theorem dX12_next_100 : decode cX12_next 100 = .ok (.aload_n 0, 1) := by decide +kernel
theorem dX12_next_101 : decode cX12_next 101 = .ok (.getfield 71, 3) := by decide +kernel
theorem dX12_next_104 : decode cX12_next 104 = .ok (.iload 5, 2) := by decide +kernel
theorem dX12_next_106 : decode cX12_next 106 = .ok (.dup2, 1) := by decide +kernel
theorem dX12_next_107 : decode cX12_next 107 = .ok (.iaload, 1) := by decide +kernel
theorem dX12_next_108 : decode cX12_next 108 = .ok (.iload_n 3, 1) := by decide +kernel
theorem dX12_next_109 : decode cX12_next 109 = .ok (.iconst 1, 1) := by decide +kernel
theorem dX12_next_110 : decode cX12_next 110 = .ok (.iadd, 1) := by decide +kernel
theorem dX12_next_111 : decode cX12_next 111 = .ok (.iadd, 1) := by decide +kernel
theorem dX12_next_112 : decode cX12_next 112 = .ok (.iastore, 1) := by decide +kernel
theorem dX12_next_113 : decode cX12_next 113 = .ok (.iconst 1, 1) := by decide +kernel
theorem dX12_next_114 : decode cX12_next 114 = .ok (.ireturn, 1) := by decide +kernel
theorem dX12_begin_0 : decode cX12_begin 0 = .ok (.iconst 1, 1) := by decide +kernel
theorem dX12_begin_1 : decode cX12_begin 1 = .ok (.istore_n 3, 1) := by decide +kernel
theorem dX12_begin_2 : decode cX12_begin 2 = .ok (.iconst 0, 1) := by decide +kernel
theorem dX12_begin_3 : decode cX12_begin 3 = .ok (.istore 4, 2) := by decide +kernel
theorem dX12_begin_5 : decode cX12_begin 5 = .ok (.iload 4, 2) := by decide +kernel
theorem dX12_begin_7 : decode cX12_begin 7 = .ok (.bipush 12, 2) := by decide +kernel
theorem dX12_begin_9 : decode cX12_begin 9 = .ok (.if_icmp .ge 62, 3) := by decide +kernel
theorem dX12_begin_12 : decode cX12_begin 12 = .ok (.iload_n 3, 1) := by decide +kernel
theorem dX12_begin_13 : decode cX12_begin 13 = .ok (.ifCond .eq 17, 3) := by decide +kernel
theorem dX12_begin_16 : decode cX12_begin 16 = .ok (.iload_n 1, 1) := by decide +kernel
theorem dX12_begin_17 : decode cX12_begin 17 = .ok (.iload 4, 2) := by decide +kernel
theorem dX12_begin_19 : decode cX12_begin 19 = .ok (.ishr, 1) := by decide +kernel
theorem dX12_begin_20 : decode cX12_begin 20 = .ok (.iconst 1, 1) := by decide +kernel
theorem dX12_begin_21 : decode cX12_begin 21 = .ok (.iand, 1) := by decide +kernel
theorem dX12_begin_22 : decode cX12_begin 22 = .ok (.iconst 1, 1) := by decide +kernel
theorem dX12_begin_23 : decode cX12_begin 23 = .ok (.if_icmp .ne 7, 3) := by decide +kernel
theorem dX12_begin_26 : decode cX12_begin 26 = .ok (.iconst 1, 1) := by decide +kernel
theorem dX12_begin_27 : decode cX12_begin 27 = .ok (.goto 4, 3) := by decide +kernel
theorem dX12_begin_30 : decode cX12_begin 30 = .ok (.iconst 0, 1) := by decide +kernel
theorem dX12_begin_31 : decode cX12_begin 31 = .ok (.istore 5, 2) := by decide +kernel
theorem dX12_begin_33 : decode cX12_begin 33 = .ok (.aload_n 0, 1) := by decide +kernel
theorem dX12_begin_34 : decode cX12_begin 34 = .ok (.getfield 71, 3) := by decide +kernel
theorem dX12_begin_37 : decode cX12_begin 37 = .ok (.iload 4, 2) := by decide +kernel
theorem dX12_begin_39 : decode cX12_begin 39 = .ok (.iload 5, 2) := by decide +kernel
theorem dX12_begin_41 : decode cX12_begin 41 = .ok (.ifCond .eq 7, 3) := by decide +kernel
theorem dX12_begin_44 : decode cX12_begin 44 = .ok (.iload_n 2, 1) := by decide +kernel
theorem dX12_begin_45 : decode cX12_begin 45 = .ok (.goto 4, 3) := by decide +kernel
theorem dX12_begin_48 : decode cX12_begin 48 = .ok (.iconst 0, 1) := by decide +kernel
theorem dX12_begin_49 : decode cX12_begin 49 = .ok (.iastore, 1) := by decide +kernel
theorem dX12_begin_50 : decode cX12_begin 50 = .ok (.iload_n 3, 1) := by decide +kernel
theorem dX12_begin_51 : decode cX12_begin 51 = .ok (.ifCond .eq 12, 3) := by decide +kernel
theorem dX12_begin_54 : decode cX12_begin 54 = .ok (.iload 5, 2) := by decide +kernel
theorem dX12_begin_56 : decode cX12_begin 56 = .ok (.ifCond .ne 7, 3) := by decide +kernel
theorem dX12_begin_59 : decode cX12_begin 59 = .ok (.iconst 1, 1) := by decide +kernel
theorem dX12_begin_60 : decode cX12_begin 60 = .ok (.goto 4, 3) := by decide +kernel
theorem dX12_begin_63 : decode cX12_begin 63 = .ok (.iconst 0, 1) := by decide +kernel
theorem dX12_begin_64 : decode cX12_begin 64 = .ok (.istore_n 3, 1) := by decide +kernel
theorem dX12_begin_65 : decode cX12_begin 65 = .ok (.iinc 4 1, 3) := by decide +kernel
theorem dX12_begin_68 : decode cX12_begin 68 = .ok (.goto (-63), 3) := by decide +kernel
theorem dX12_begin_71 : decode cX12_begin 71 = .ok (.return_, 1) := by decide +kernel
theorem dX12_isSet_0 : decode cX12_isSet 0 = .ok (.iload_n 1, 1) := by decide +kernel
theorem dX12_isSet_1 : decode cX12_isSet 1 = .ok (.ifCond .le 17, 3) := by decide +kernel
theorem dX12_isSet_4 : decode cX12_isSet 4 = .ok (.iload_n 1, 1) := by decide +kernel
theorem dX12_isSet_5 : decode cX12_isSet 5 = .ok (.iconst 1, 1) := by decide +kernel
theorem dX12_isSet_6 : decode cX12_isSet 6 = .ok (.aload_n 0, 1) := by decide +kernel
theorem dX12_isSet_7 : decode cX12_isSet 7 = .ok (.getfield 92, 3) := by decide +kernel
theorem dX12_isSet_10 : decode cX12_isSet 10 = .ok (.ishl, 1) := by decide +kernel
theorem dX12_isSet_11 : decode cX12_isSet 11 = .ok (.if_icmp .ge 7, 3) := by decide +kernel
theorem dX12_isSet_14 : decode cX12_isSet 14 = .ok (.iconst 1, 1) := by decide +kernel
theorem dX12_isSet_15 : decode cX12_isSet 15 = .ok (.goto 4, 3) := by decide +kernel
theorem dX12_isSet_18 : decode cX12_isSet 18 = .ok (.iconst 0, 1) := by decide +kernel
theorem dX12_isSet_19 : decode cX12_isSet 19 = .ok (.ireturn, 1) := by decide +kernel
theorem dX12_costOfTrial_0 : decode cX12_costOfTrial 0 = .ok (.iconst 0, 1) := by decide +kernel
theorem dX12_costOfTrial_1 : decode cX12_costOfTrial 1 = .ok (.istore_n 1, 1) := by decide +kernel
theorem dX12_costOfTrial_2 : decode cX12_costOfTrial 2 = .ok (.iconst 0, 1) := by decide +kernel
theorem dX12_costOfTrial_3 : decode cX12_costOfTrial 3 = .ok (.istore_n 2, 1) := by decide +kernel
theorem dX12_costOfTrial_4 : decode cX12_costOfTrial 4 = .ok (.iload_n 2, 1) := by decide +kernel
theorem dX12_costOfTrial_5 : decode cX12_costOfTrial 5 = .ok (.aload_n 0, 1) := by decide +kernel
theorem dX12_costOfTrial_6 : decode cX12_costOfTrial 6 = .ok (.getfield 92, 3) := by decide +kernel
theorem dX12_costOfTrial_9 : decode cX12_costOfTrial 9 = .ok (.if_icmp .ge 25, 3) := by decide +kernel
theorem dX12_costOfTrial_12 : decode cX12_costOfTrial 12 = .ok (.iload_n 1, 1) := by decide +kernel
theorem dX12_costOfTrial_13 : decode cX12_costOfTrial 13 = .ok (.aload_n 0, 1) := by decide +kernel
theorem dX12_costOfTrial_14 : decode cX12_costOfTrial 14 = .ok (.getfield 71, 3) := by decide +kernel
theorem dX12_costOfTrial_17 : decode cX12_costOfTrial 17 = .ok (.iload_n 2, 1) := by decide +kernel
theorem dX12_costOfTrial_18 : decode cX12_costOfTrial 18 = .ok (.iaload, 1) := by decide +kernel
theorem dX12_costOfTrial_19 : decode cX12_costOfTrial 19 = .ok (.aload_n 0, 1) := by decide +kernel
theorem dX12_costOfTrial_20 : decode cX12_costOfTrial 20 = .ok (.getfield 20, 3) := by decide +kernel
theorem dX12_costOfTrial_23 : decode cX12_costOfTrial 23 = .ok (.iload_n 2, 1) := by decide +kernel
theorem dX12_costOfTrial_24 : decode cX12_costOfTrial 24 = .ok (.iaload, 1) := by decide +kernel
theorem dX12_costOfTrial_25 : decode cX12_costOfTrial 25 = .ok (.imul, 1) := by decide +kernel
theorem dX12_costOfTrial_26 : decode cX12_costOfTrial 26 = .ok (.iadd, 1) := by decide +kernel
theorem dX12_costOfTrial_27 : decode cX12_costOfTrial 27 = .ok (.istore_n 1, 1) := by decide +kernel
theorem dX12_costOfTrial_28 : decode cX12_costOfTrial 28 = .ok (.iinc 2 1, 3) := by decide +kernel
theorem dX12_costOfTrial_31 : decode cX12_costOfTrial 31 = .ok (.goto (-27), 3) := by decide +kernel
theorem dX12_costOfTrial_34 : decode cX12_costOfTrial 34 = .ok (.iload_n 1, 1) := by decide +kernel
theorem dX12_costOfTrial_35 : decode cX12_costOfTrial 35 = .ok (.ireturn, 1) := by decide +kernel
theorem dX12_match_0 : decode cX12_match 0 = .ok (.iload_n 1, 1) := by decide +kernel
theorem dX12_match_1 : decode cX12_match 1 = .ok (.invokestatic 114, 3) := by decide +kernel
theorem dX12_match_4 : decode cX12_match 4 = .ok (.ifCond .eq 21, 3) := by decide +kernel
theorem dX12_match_7 : decode cX12_match 7 = .ok (.aload_n 0, 1) := by decide +kernel
theorem dX12_match_8 : decode cX12_match 8 = .ok (.iload_n 2, 1) := by decide +kernel
theorem dX12_match_9 : decode cX12_match 9 = .ok (.invokevirtual 187, 3) := by decide +kernel
theorem dX12_match_12 : decode cX12_match 12 = .ok (.ifCond .eq 13, 3) := by decide +kernel
theorem dX12_match_15 : decode cX12_match 15 = .ok (.iload_n 3, 1) := by decide +kernel
theorem dX12_match_16 : decode cX12_match 16 = .ok (.iconst 1, 1) := by decide +kernel
theorem dX12_match_17 : decode cX12_match 17 = .ok (.bipush 8, 2) := by decide +kernel
theorem dX12_match_19 : decode cX12_match 19 = .ok (.invokestatic 95, 3) := by decide +kernel
theorem dX12_match_22 : decode cX12_match 22 = .ok (.ifCond .ne 5, 3) := by decide +kernel
theorem dX12_match_25 : decode cX12_match 25 = .ok (.iconst (-1), 1) := by decide +kernel
theorem dX12_match_26 : decode cX12_match 26 = .ok (.ireturn, 1) := by decide +kernel
theorem dX12_match_27 : decode cX12_match 27 = .ok (.iconst (-1), 1) := by decide +kernel
theorem dX12_match_28 : decode cX12_match 28 = .ok (.istore 4, 2) := by decide +kernel
theorem dX12_match_30 : decode cX12_match 30 = .ok (.aload_n 0, 1) := by decide +kernel
theorem dX12_match_31 : decode cX12_match 31 = .ok (.iload_n 2, 1) := by decide +kernel
theorem dX12_match_32 : decode cX12_match 32 = .ok (.iload_n 3, 1) := by decide +kernel
theorem dX12_match_33 : decode cX12_match 33 = .ok (.invokevirtual 190, 3) := by decide +kernel
theorem dX12_match_36 : decode cX12_match 36 = .ok (.iconst 1, 1) := by decide +kernel
theorem dX12_match_37 : decode cX12_match 37 = .ok (.istore 5, 2) := by decide +kernel
theorem dX12_match_39 : decode cX12_match 39 = .ok (.iload 5, 2) := by decide +kernel
theorem dX12_match_41 : decode cX12_match 41 = .ok (.ifCond .eq 122, 3) := by decide +kernel
theorem dX12_match_44 : decode cX12_match 44 = .ok (.aload_n 0, 1) := by decide +kernel
theorem dX12_match_45 : decode cX12_match 45 = .ok (.invokevirtual 193, 3) := by decide +kernel
theorem dX12_match_48 : decode cX12_match 48 = .ok (.iconst 4, 1) := by decide +kernel
theorem dX12_match_49 : decode cX12_match 49 = .ok (.if_icmp .gt 104, 3) := by decide +kernel
theorem dX12_match_52 : decode cX12_match 52 = .ok (.aload_n 0, 1) := by decide +kernel
theorem dX12_match_53 : decode cX12_match 53 = .ok (.invokevirtual 197, 3) := by decide +kernel
theorem dX12_match_56 : decode cX12_match 56 = .ok (.aload_n 0, 1) := by decide +kernel
theorem dX12_match_57 : decode cX12_match 57 = .ok (.aload_n 0, 1) := by decide +kernel
theorem dX12_match_58 : decode cX12_match 58 = .ok (.getfield 68, 3) := by decide +kernel
theorem dX12_match_61 : decode cX12_match 61 = .ok (.iconst 0, 1) := by decide +kernel
theorem dX12_match_62 : decode cX12_match 62 = .ok (.iaload, 1) := by decide +kernel
theorem dX12_match_63 : decode cX12_match 63 = .ok (.aload_n 0, 1) := by decide +kernel
theorem dX12_match_64 : decode cX12_match 64 = .ok (.getfield 68, 3) := by decide +kernel
theorem dX12_match_67 : decode cX12_match 67 = .ok (.iconst 1, 1) := by decide +kernel
theorem dX12_match_68 : decode cX12_match 68 = .ok (.iaload, 1) := by decide +kernel
theorem dX12_match_69 : decode cX12_match 69 = .ok (.aload_n 0, 1) := by decide +kernel
theorem dX12_match_70 : decode cX12_match 70 = .ok (.getfield 68, 3) := by decide +kernel
theorem dX12_match_73 : decode cX12_match 73 = .ok (.iconst 2, 1) := by decide +kernel
theorem dX12_match_74 : decode cX12_match 74 = .ok (.iaload, 1) := by decide +kernel
theorem dX12_match_75 : decode cX12_match 75 = .ok (.iload_n 1, 1) := by decide +kernel
theorem dX12_match_76 : decode cX12_match 76 = .ok (.invokevirtual 183, 3) := by decide +kernel
theorem dX12_match_79 : decode cX12_match 79 = .ok (.istore 6, 2) := by decide +kernel
theorem dX12_match_81 : decode cX12_match 81 = .ok (.iload 4, 2) := by decide +kernel
theorem dX12_match_83 : decode cX12_match 83 = .ok (.ifCond .lt 28, 3) := by decide +kernel
theorem dX12_match_86 : decode cX12_match 86 = .ok (.iload 6, 2) := by decide +kernel
theorem dX12_match_88 : decode cX12_match 88 = .ok (.iload 4, 2) := by decide +kernel
theorem dX12_match_90 : decode cX12_match 90 = .ok (.if_icmp .lt 21, 3) := by decide +kernel
theorem dX12_match_93 : decode cX12_match 93 = .ok (.iload 6, 2) := by decide +kernel
theorem dX12_match_95 : decode cX12_match 95 = .ok (.iload 4, 2) := by decide +kernel
theorem dX12_match_97 : decode cX12_match 97 = .ok (.if_icmp .ne 56, 3) := by decide +kernel
theorem dX12_match_100 : decode cX12_match 100 = .ok (.aload_n 0, 1) := by decide +kernel
theorem dX12_match_101 : decode cX12_match 101 = .ok (.invokevirtual 200, 3) := by decide +kernel
theorem dX12_match_104 : decode cX12_match 104 = .ok (.aload_n 0, 1) := by decide +kernel
theorem dX12_match_105 : decode cX12_match 105 = .ok (.getfield 203, 3) := by decide +kernel
theorem dX12_match_108 : decode cX12_match 108 = .ok (.if_icmp .ge 45, 3) := by decide +kernel
theorem dX12_match_111 : decode cX12_match 111 = .ok (.iload 6, 2) := by decide +kernel
theorem dX12_match_113 : decode cX12_match 113 = .ok (.istore 4, 2) := by decide +kernel
theorem dX12_match_115 : decode cX12_match 115 = .ok (.aload_n 0, 1) := by decide +kernel
theorem dX12_match_116 : decode cX12_match 116 = .ok (.aload_n 0, 1) := by decide +kernel
theorem dX12_match_117 : decode cX12_match 117 = .ok (.invokevirtual 200, 3) := by decide +kernel
theorem dX12_match_120 : decode cX12_match 120 = .ok (.putfield 203, 3) := by decide +kernel
theorem dX12_match_123 : decode cX12_match 123 = .ok (.iconst 0, 1) := by decide +kernel
theorem dX12_match_124 : decode cX12_match 124 = .ok (.istore 7, 2) := by decide +kernel
theorem dX12_match_126 : decode cX12_match 126 = .ok (.iload 7, 2) := by decide +kernel
theorem dX12_match_128 : decode cX12_match 128 = .ok (.bipush 12, 2) := by decide +kernel
theorem dX12_match_130 : decode cX12_match 130 = .ok (.if_icmp .ge 23, 3) := by decide +kernel
theorem dX12_match_133 : decode cX12_match 133 = .ok (.aload_n 0, 1) := by decide +kernel
theorem dX12_match_134 : decode cX12_match 134 = .ok (.getfield 74, 3) := by decide +kernel
theorem dX12_match_137 : decode cX12_match 137 = .ok (.iload 7, 2) := by decide +kernel
theorem dX12_match_139 : decode cX12_match 139 = .ok (.aload_n 0, 1) := by decide +kernel
theorem dX12_match_140 : decode cX12_match 140 = .ok (.getfield 71, 3) := by decide +kernel
theorem dX12_match_143 : decode cX12_match 143 = .ok (.iload 7, 2) := by decide +kernel
end
section
theorem dX12_match_145 : decode cX12_match 145 = .ok (.iaload, 1) := by decide +kernel
theorem dX12_match_146 : decode cX12_match 146 = .ok (.iastore, 1) := by decide +kernel
theorem dX12_match_147 : decode cX12_match 147 = .ok (.iinc 7 1, 3) := by decide +kernel
theorem dX12_match_150 : decode cX12_match 150 = .ok (.goto (-24), 3) := by decide +kernel
theorem dX12_match_153 : decode cX12_match 153 = .ok (.aload_n 0, 1) := by decide +kernel
theorem dX12_match_154 : decode cX12_match 154 = .ok (.iload_n 2, 1) := by decide +kernel
theorem dX12_match_155 : decode cX12_match 155 = .ok (.invokevirtual 206, 3) := by decide +kernel
theorem dX12_match_158 : decode cX12_match 158 = .ok (.istore 5, 2) := by decide +kernel
theorem dX12_match_160 : decode cX12_match 160 = .ok (.goto (-121), 3) := by decide +kernel
theorem dX12_match_163 : decode cX12_match 163 = .ok (.aload_n 0, 1) := by decide +kernel
theorem dX12_match_164 : decode cX12_match 164 = .ok (.iconst 1, 1) := by decide +kernel
theorem dX12_match_165 : decode cX12_match 165 = .ok (.putfield 209, 3) := by decide +kernel
theorem dX12_match_168 : decode cX12_match 168 = .ok (.iload 4, 2) := by decide +kernel
theorem dX12_match_170 : decode cX12_match 170 = .ok (.ireturn, 1) := by decide +kernel
theorem dX12_matched_0 : decode cX12_matched 0 = .ok (.aload_n 0, 1) := by decide +kernel
theorem dX12_matched_1 : decode cX12_matched 1 = .ok (.getfield 209, 3) := by decide +kernel
theorem dX12_matched_4 : decode cX12_matched 4 = .ok (.ifCond .eq 20, 3) := by decide +kernel
theorem dX12_matched_7 : decode cX12_matched 7 = .ok (.aload_n 0, 1) := by decide +kernel
theorem dX12_matched_8 : decode cX12_matched 8 = .ok (.iload_n 1, 1) := by decide +kernel
theorem dX12_matched_9 : decode cX12_matched 9 = .ok (.invokevirtual 99, 3) := by decide +kernel
theorem dX12_matched_12 : decode cX12_matched 12 = .ok (.ifCond .eq 12, 3) := by decide +kernel
theorem dX12_matched_15 : decode cX12_matched 15 = .ok (.aload_n 0, 1) := by decide +kernel
theorem dX12_matched_16 : decode cX12_matched 16 = .ok (.getfield 74, 3) := by decide +kernel
theorem dX12_matched_19 : decode cX12_matched 19 = .ok (.iload_n 1, 1) := by decide +kernel
theorem dX12_matched_20 : decode cX12_matched 20 = .ok (.iaload, 1) := by decide +kernel
theorem dX12_matched_21 : decode cX12_matched 21 = .ok (.goto 4, 3) := by decide +kernel
theorem dX12_matched_24 : decode cX12_matched 24 = .ok (.iconst (-1), 1) := by decide +kernel
theorem dX12_matched_25 : decode cX12_matched 25 = .ok (.ireturn, 1) := by decide +kernel
theorem dX12_price_0 : decode cX12_price 0 = .ok (.aload_n 0, 1) := by decide +kernel
theorem dX12_price_1 : decode cX12_price 1 = .ok (.getfield 209, 3) := by decide +kernel
theorem dX12_price_4 : decode cX12_price 4 = .ok (.ifCond .eq 10, 3) := by decide +kernel
theorem dX12_price_7 : decode cX12_price 7 = .ok (.aload_n 0, 1) := by decide +kernel
theorem dX12_price_8 : decode cX12_price 8 = .ok (.getfield 203, 3) := by decide +kernel
theorem dX12_price_11 : decode cX12_price 11 = .ok (.goto 4, 3) := by decide +kernel
theorem dX12_price_14 : decode cX12_price 14 = .ok (.iconst (-1), 1) := by decide +kernel
theorem dX12_price_15 : decode cX12_price 15 = .ok (.ireturn, 1) := by decide +kernel
theorem dX12_lightOfGlaze_0 : decode cX12_lightOfGlaze 0 = .ok (.iconst 0, 1) := by decide +kernel
theorem dX12_lightOfGlaze_1 : decode cX12_lightOfGlaze 1 = .ok (.istore_n 3, 1) := by decide +kernel
theorem dX12_lightOfGlaze_2 : decode cX12_lightOfGlaze 2 = .ok (.iload_n 3, 1) := by decide +kernel
theorem dX12_lightOfGlaze_3 : decode cX12_lightOfGlaze 3 = .ok (.bipush 8, 2) := by decide +kernel
theorem dX12_lightOfGlaze_5 : decode cX12_lightOfGlaze 5 = .ok (.if_icmp .ge 95, 3) := by decide +kernel
theorem dX12_lightOfGlaze_8 : decode cX12_lightOfGlaze 8 = .ok (.iload_n 2, 1) := by decide +kernel
theorem dX12_lightOfGlaze_9 : decode cX12_lightOfGlaze 9 = .ok (.istore 4, 2) := by decide +kernel
theorem dX12_lightOfGlaze_11 : decode cX12_lightOfGlaze 11 = .ok (.iconst 0, 1) := by decide +kernel
theorem dX12_lightOfGlaze_12 : decode cX12_lightOfGlaze 12 = .ok (.istore 5, 2) := by decide +kernel
theorem dX12_lightOfGlaze_14 : decode cX12_lightOfGlaze 14 = .ok (.iload 5, 2) := by decide +kernel
theorem dX12_lightOfGlaze_16 : decode cX12_lightOfGlaze 16 = .ok (.iload_n 1, 1) := by decide +kernel
theorem dX12_lightOfGlaze_17 : decode cX12_lightOfGlaze 17 = .ok (.if_icmp .ge 69, 3) := by decide +kernel
theorem dX12_lightOfGlaze_20 : decode cX12_lightOfGlaze 20 = .ok (.aload_n 0, 1) := by decide +kernel
theorem dX12_lightOfGlaze_21 : decode cX12_lightOfGlaze 21 = .ok (.getfield 13, 3) := by decide +kernel
theorem dX12_lightOfGlaze_24 : decode cX12_lightOfGlaze 24 = .ok (.bipush 8, 2) := by decide +kernel
theorem dX12_lightOfGlaze_26 : decode cX12_lightOfGlaze 26 = .ok (.aload_n 0, 1) := by decide +kernel
theorem dX12_lightOfGlaze_27 : decode cX12_lightOfGlaze 27 = .ok (.getfield 83, 3) := by decide +kernel
theorem dX12_lightOfGlaze_30 : decode cX12_lightOfGlaze 30 = .ok (.iload 5, 2) := by decide +kernel
theorem dX12_lightOfGlaze_32 : decode cX12_lightOfGlaze 32 = .ok (.iaload, 1) := by decide +kernel
theorem dX12_lightOfGlaze_33 : decode cX12_lightOfGlaze 33 = .ok (.iconst 3, 1) := by decide +kernel
theorem dX12_lightOfGlaze_34 : decode cX12_lightOfGlaze 34 = .ok (.idiv, 1) := by decide +kernel
theorem dX12_lightOfGlaze_35 : decode cX12_lightOfGlaze 35 = .ok (.imul, 1) := by decide +kernel
theorem dX12_lightOfGlaze_36 : decode cX12_lightOfGlaze 36 = .ok (.iload_n 3, 1) := by decide +kernel
theorem dX12_lightOfGlaze_37 : decode cX12_lightOfGlaze 37 = .ok (.iadd, 1) := by decide +kernel
theorem dX12_lightOfGlaze_38 : decode cX12_lightOfGlaze 38 = .ok (.iaload, 1) := by decide +kernel
theorem dX12_lightOfGlaze_39 : decode cX12_lightOfGlaze 39 = .ok (.i2l, 1) := by decide +kernel
theorem dX12_lightOfGlaze_40 : decode cX12_lightOfGlaze 40 = .ok (.aload_n 0, 1) := by decide +kernel
theorem dX12_lightOfGlaze_41 : decode cX12_lightOfGlaze 41 = .ok (.getfield 17, 3) := by decide +kernel
theorem dX12_lightOfGlaze_44 : decode cX12_lightOfGlaze 44 = .ok (.bipush 8, 2) := by decide +kernel
theorem dX12_lightOfGlaze_46 : decode cX12_lightOfGlaze 46 = .ok (.aload_n 0, 1) := by decide +kernel
theorem dX12_lightOfGlaze_47 : decode cX12_lightOfGlaze 47 = .ok (.getfield 83, 3) := by decide +kernel
theorem dX12_lightOfGlaze_50 : decode cX12_lightOfGlaze 50 = .ok (.iload 5, 2) := by decide +kernel
theorem dX12_lightOfGlaze_52 : decode cX12_lightOfGlaze 52 = .ok (.iaload, 1) := by decide +kernel
theorem dX12_lightOfGlaze_53 : decode cX12_lightOfGlaze 53 = .ok (.iconst 3, 1) := by decide +kernel
theorem dX12_lightOfGlaze_54 : decode cX12_lightOfGlaze 54 = .ok (.idiv, 1) := by decide +kernel
theorem dX12_lightOfGlaze_55 : decode cX12_lightOfGlaze 55 = .ok (.imul, 1) := by decide +kernel
theorem dX12_lightOfGlaze_56 : decode cX12_lightOfGlaze 56 = .ok (.iload_n 3, 1) := by decide +kernel
theorem dX12_lightOfGlaze_57 : decode cX12_lightOfGlaze 57 = .ok (.iadd, 1) := by decide +kernel
theorem dX12_lightOfGlaze_58 : decode cX12_lightOfGlaze 58 = .ok (.iaload, 1) := by decide +kernel
theorem dX12_lightOfGlaze_59 : decode cX12_lightOfGlaze 59 = .ok (.i2l, 1) := by decide +kernel
theorem dX12_lightOfGlaze_60 : decode cX12_lightOfGlaze 60 = .ok (.getstatic 213, 3) := by decide +kernel
theorem dX12_lightOfGlaze_63 : decode cX12_lightOfGlaze 63 = .ok (.aload_n 0, 1) := by decide +kernel
theorem dX12_lightOfGlaze_64 : decode cX12_lightOfGlaze 64 = .ok (.getfield 83, 3) := by decide +kernel
theorem dX12_lightOfGlaze_67 : decode cX12_lightOfGlaze 67 = .ok (.iload 5, 2) := by decide +kernel
theorem dX12_lightOfGlaze_69 : decode cX12_lightOfGlaze 69 = .ok (.iaload, 1) := by decide +kernel
theorem dX12_lightOfGlaze_70 : decode cX12_lightOfGlaze 70 = .ok (.iconst 3, 1) := by decide +kernel
theorem dX12_lightOfGlaze_71 : decode cX12_lightOfGlaze 71 = .ok (.irem, 1) := by decide +kernel
theorem dX12_lightOfGlaze_72 : decode cX12_lightOfGlaze 72 = .ok (.iaload, 1) := by decide +kernel
theorem dX12_lightOfGlaze_73 : decode cX12_lightOfGlaze 73 = .ok (.iload 4, 2) := by decide +kernel
theorem dX12_lightOfGlaze_75 : decode cX12_lightOfGlaze 75 = .ok (.invokestatic 169, 3) := by decide +kernel
theorem dX12_lightOfGlaze_78 : decode cX12_lightOfGlaze 78 = .ok (.istore 4, 2) := by decide +kernel
theorem dX12_lightOfGlaze_80 : decode cX12_lightOfGlaze 80 = .ok (.iinc 5 1, 3) := by decide +kernel
theorem dX12_lightOfGlaze_83 : decode cX12_lightOfGlaze 83 = .ok (.goto (-69), 3) := by decide +kernel
theorem dX12_lightOfGlaze_86 : decode cX12_lightOfGlaze 86 = .ok (.aload_n 0, 1) := by decide +kernel
theorem dX12_lightOfGlaze_87 : decode cX12_lightOfGlaze 87 = .ok (.getfield 41, 3) := by decide +kernel
theorem dX12_lightOfGlaze_90 : decode cX12_lightOfGlaze 90 = .ok (.iload_n 3, 1) := by decide +kernel
theorem dX12_lightOfGlaze_91 : decode cX12_lightOfGlaze 91 = .ok (.iload 4, 2) := by decide +kernel
theorem dX12_lightOfGlaze_93 : decode cX12_lightOfGlaze 93 = .ok (.iastore, 1) := by decide +kernel
theorem dX12_lightOfGlaze_94 : decode cX12_lightOfGlaze 94 = .ok (.iinc 3 1, 3) := by decide +kernel
theorem dX12_lightOfGlaze_97 : decode cX12_lightOfGlaze 97 = .ok (.goto (-95), 3) := by decide +kernel
theorem dX12_lightOfGlaze_100 : decode cX12_lightOfGlaze 100 = .ok (.return_, 1) := by decide +kernel
theorem dX12_isGlaze_0 : decode cX12_isGlaze 0 = .ok (.aload_n 0, 1) := by decide +kernel
theorem dX12_isGlaze_1 : decode cX12_isGlaze 1 = .ok (.getfield 83, 3) := by decide +kernel
theorem dX12_isGlaze_4 : decode cX12_isGlaze 4 = .ok (.iload_n 1, 1) := by decide +kernel
theorem dX12_isGlaze_5 : decode cX12_isGlaze 5 = .ok (.iaload, 1) := by decide +kernel
theorem dX12_isGlaze_6 : decode cX12_isGlaze 6 = .ok (.iconst 3, 1) := by decide +kernel
theorem dX12_isGlaze_7 : decode cX12_isGlaze 7 = .ok (.idiv, 1) := by decide +kernel
theorem dX12_isGlaze_8 : decode cX12_isGlaze 8 = .ok (.istore_n 3, 1) := by decide +kernel
theorem dX12_isGlaze_9 : decode cX12_isGlaze 9 = .ok (.iload_n 2, 1) := by decide +kernel
theorem dX12_isGlaze_10 : decode cX12_isGlaze 10 = .ok (.iload_n 3, 1) := by decide +kernel
theorem dX12_isGlaze_11 : decode cX12_isGlaze 11 = .ok (.ishr, 1) := by decide +kernel
theorem dX12_isGlaze_12 : decode cX12_isGlaze 12 = .ok (.iconst 1, 1) := by decide +kernel
theorem dX12_isGlaze_13 : decode cX12_isGlaze 13 = .ok (.iand, 1) := by decide +kernel
theorem dX12_isGlaze_14 : decode cX12_isGlaze 14 = .ok (.ifCond .ne 5, 3) := by decide +kernel
theorem dX12_isGlaze_17 : decode cX12_isGlaze 17 = .ok (.iconst 0, 1) := by decide +kernel
theorem dX12_isGlaze_18 : decode cX12_isGlaze 18 = .ok (.ireturn, 1) := by decide +kernel
theorem dX12_isGlaze_19 : decode cX12_isGlaze 19 = .ok (.iconst 0, 1) := by decide +kernel
theorem dX12_isGlaze_20 : decode cX12_isGlaze 20 = .ok (.istore 4, 2) := by decide +kernel
theorem dX12_isGlaze_22 : decode cX12_isGlaze 22 = .ok (.iload 4, 2) := by decide +kernel
theorem dX12_isGlaze_24 : decode cX12_isGlaze 24 = .ok (.iload_n 1, 1) := by decide +kernel
theorem dX12_isGlaze_25 : decode cX12_isGlaze 25 = .ok (.if_icmp .ge 24, 3) := by decide +kernel
theorem dX12_isGlaze_28 : decode cX12_isGlaze 28 = .ok (.aload_n 0, 1) := by decide +kernel
theorem dX12_isGlaze_29 : decode cX12_isGlaze 29 = .ok (.getfield 83, 3) := by decide +kernel
theorem dX12_isGlaze_32 : decode cX12_isGlaze 32 = .ok (.iload 4, 2) := by decide +kernel
theorem dX12_isGlaze_34 : decode cX12_isGlaze 34 = .ok (.iaload, 1) := by decide +kernel
theorem dX12_isGlaze_35 : decode cX12_isGlaze 35 = .ok (.iconst 3, 1) := by decide +kernel
theorem dX12_isGlaze_36 : decode cX12_isGlaze 36 = .ok (.idiv, 1) := by decide +kernel
theorem dX12_isGlaze_37 : decode cX12_isGlaze 37 = .ok (.iload_n 3, 1) := by decide +kernel
theorem dX12_isGlaze_38 : decode cX12_isGlaze 38 = .ok (.if_icmp .ne 5, 3) := by decide +kernel
theorem dX12_isGlaze_41 : decode cX12_isGlaze 41 = .ok (.iconst 0, 1) := by decide +kernel
theorem dX12_isGlaze_42 : decode cX12_isGlaze 42 = .ok (.ireturn, 1) := by decide +kernel
theorem dX12_isGlaze_43 : decode cX12_isGlaze 43 = .ok (.iinc 4 1, 3) := by decide +kernel
theorem dX12_isGlaze_46 : decode cX12_isGlaze 46 = .ok (.goto (-24), 3) := by decide +kernel
theorem dX12_isGlaze_49 : decode cX12_isGlaze 49 = .ok (.iconst 1, 1) := by decide +kernel
theorem dX12_isGlaze_50 : decode cX12_isGlaze 50 = .ok (.ireturn, 1) := by decide +kernel
theorem dX12_glaze_0 : decode cX12_glaze 0 = .ok (.iload_n 1, 1) := by decide +kernel
theorem dX12_glaze_1 : decode cX12_glaze 1 = .ok (.invokestatic 114, 3) := by decide +kernel
theorem dX12_glaze_4 : decode cX12_glaze 4 = .ok (.ifCond .eq 22, 3) := by decide +kernel
theorem dX12_glaze_7 : decode cX12_glaze 7 = .ok (.aload_n 0, 1) := by decide +kernel
theorem dX12_glaze_8 : decode cX12_glaze 8 = .ok (.iload_n 2, 1) := by decide +kernel
theorem dX12_glaze_9 : decode cX12_glaze 9 = .ok (.invokevirtual 187, 3) := by decide +kernel
theorem dX12_glaze_12 : decode cX12_glaze 12 = .ok (.ifCond .eq 14, 3) := by decide +kernel
theorem dX12_glaze_15 : decode cX12_glaze 15 = .ok (.iload_n 3, 1) := by decide +kernel
theorem dX12_glaze_16 : decode cX12_glaze 16 = .ok (.iconst 0, 1) := by decide +kernel
theorem dX12_glaze_17 : decode cX12_glaze 17 = .ok (.sipush 10000, 3) := by decide +kernel
theorem dX12_glaze_20 : decode cX12_glaze 20 = .ok (.invokestatic 95, 3) := by decide +kernel
theorem dX12_glaze_23 : decode cX12_glaze 23 = .ok (.ifCond .ne 5, 3) := by decide +kernel
theorem dX12_glaze_26 : decode cX12_glaze 26 = .ok (.iconst (-1), 1) := by decide +kernel
theorem dX12_glaze_27 : decode cX12_glaze 27 = .ok (.ireturn, 1) := by decide +kernel
theorem dX12_glaze_28 : decode cX12_glaze 28 = .ok (.aload_n 0, 1) := by decide +kernel
theorem dX12_glaze_29 : decode cX12_glaze 29 = .ok (.iconst 0, 1) := by decide +kernel
theorem dX12_glaze_30 : decode cX12_glaze 30 = .ok (.iload_n 3, 1) := by decide +kernel
theorem dX12_glaze_31 : decode cX12_glaze 31 = .ok (.invokevirtual 216, 3) := by decide +kernel
theorem dX12_glaze_34 : decode cX12_glaze 34 = .ok (.aload_n 0, 1) := by decide +kernel
theorem dX12_glaze_35 : decode cX12_glaze 35 = .ok (.aload_n 0, 1) := by decide +kernel
theorem dX12_glaze_36 : decode cX12_glaze 36 = .ok (.getfield 68, 3) := by decide +kernel
theorem dX12_glaze_39 : decode cX12_glaze 39 = .ok (.iconst 0, 1) := by decide +kernel
theorem dX12_glaze_40 : decode cX12_glaze 40 = .ok (.iaload, 1) := by decide +kernel
theorem dX12_glaze_41 : decode cX12_glaze 41 = .ok (.aload_n 0, 1) := by decide +kernel
theorem dX12_glaze_42 : decode cX12_glaze 42 = .ok (.getfield 68, 3) := by decide +kernel
theorem dX12_glaze_45 : decode cX12_glaze 45 = .ok (.iconst 1, 1) := by decide +kernel
theorem dX12_glaze_46 : decode cX12_glaze 46 = .ok (.iaload, 1) := by decide +kernel
theorem dX12_glaze_47 : decode cX12_glaze 47 = .ok (.aload_n 0, 1) := by decide +kernel
theorem dX12_glaze_48 : decode cX12_glaze 48 = .ok (.getfield 68, 3) := by decide +kernel
theorem dX12_glaze_51 : decode cX12_glaze 51 = .ok (.iconst 2, 1) := by decide +kernel
theorem dX12_glaze_52 : decode cX12_glaze 52 = .ok (.iaload, 1) := by decide +kernel
theorem dX12_glaze_53 : decode cX12_glaze 53 = .ok (.iload_n 1, 1) := by decide +kernel
theorem dX12_glaze_54 : decode cX12_glaze 54 = .ok (.invokevirtual 183, 3) := by decide +kernel
theorem dX12_glaze_57 : decode cX12_glaze 57 = .ok (.istore 4, 2) := by decide +kernel
theorem dX12_glaze_59 : decode cX12_glaze 59 = .ok (.aload_n 0, 1) := by decide +kernel
theorem dX12_glaze_60 : decode cX12_glaze 60 = .ok (.iconst 0, 1) := by decide +kernel
theorem dX12_glaze_61 : decode cX12_glaze 61 = .ok (.putfield 77, 3) := by decide +kernel
theorem dX12_glaze_64 : decode cX12_glaze 64 = .ok (.iconst 1, 1) := by decide +kernel
theorem dX12_glaze_65 : decode cX12_glaze 65 = .ok (.istore 5, 2) := by decide +kernel
theorem dX12_glaze_67 : decode cX12_glaze 67 = .ok (.iload 5, 2) := by decide +kernel
theorem dX12_glaze_69 : decode cX12_glaze 69 = .ok (.iconst 3, 1) := by decide +kernel
theorem dX12_glaze_70 : decode cX12_glaze 70 = .ok (.if_icmp .gt 197, 3) := by decide +kernel
theorem dX12_glaze_73 : decode cX12_glaze 73 = .ok (.iconst 0, 1) := by decide +kernel
theorem dX12_glaze_74 : decode cX12_glaze 74 = .ok (.istore 6, 2) := by decide +kernel
theorem dX12_glaze_76 : decode cX12_glaze 76 = .ok (.aload_n 0, 1) := by decide +kernel
theorem dX12_glaze_77 : decode cX12_glaze 77 = .ok (.getfield 83, 3) := by decide +kernel
theorem dX12_glaze_80 : decode cX12_glaze 80 = .ok (.iconst 0, 1) := by decide +kernel
theorem dX12_glaze_81 : decode cX12_glaze 81 = .ok (.iconst (-1), 1) := by decide +kernel
theorem dX12_glaze_82 : decode cX12_glaze 82 = .ok (.iastore, 1) := by decide +kernel
theorem dX12_glaze_83 : decode cX12_glaze 83 = .ok (.iload 6, 2) := by decide +kernel
theorem dX12_glaze_85 : decode cX12_glaze 85 = .ok (.ifCond .lt 176, 3) := by decide +kernel
theorem dX12_glaze_88 : decode cX12_glaze 88 = .ok (.aload_n 0, 1) := by decide +kernel
theorem dX12_glaze_89 : decode cX12_glaze 89 = .ok (.getfield 83, 3) := by decide +kernel
theorem dX12_glaze_92 : decode cX12_glaze 92 = .ok (.iload 6, 2) := by decide +kernel
theorem dX12_glaze_94 : decode cX12_glaze 94 = .ok (.dup2, 1) := by decide +kernel
theorem dX12_glaze_95 : decode cX12_glaze 95 = .ok (.iaload, 1) := by decide +kernel
theorem dX12_glaze_96 : decode cX12_glaze 96 = .ok (.iconst 1, 1) := by decide +kernel
theorem dX12_glaze_97 : decode cX12_glaze 97 = .ok (.iadd, 1) := by decide +kernel
theorem dX12_glaze_98 : decode cX12_glaze 98 = .ok (.iastore, 1) := by decide +kernel
theorem dX12_glaze_99 : decode cX12_glaze 99 = .ok (.aload_n 0, 1) := by decide +kernel
theorem dX12_glaze_100 : decode cX12_glaze 100 = .ok (.getfield 83, 3) := by decide +kernel
theorem dX12_glaze_103 : decode cX12_glaze 103 = .ok (.iload 6, 2) := by decide +kernel
theorem dX12_glaze_105 : decode cX12_glaze 105 = .ok (.iaload, 1) := by decide +kernel
theorem dX12_glaze_106 : decode cX12_glaze 106 = .ok (.iconst 3, 1) := by decide +kernel
theorem dX12_glaze_107 : decode cX12_glaze 107 = .ok (.aload_n 0, 1) := by decide +kernel
theorem dX12_glaze_108 : decode cX12_glaze 108 = .ok (.getfield 92, 3) := by decide +kernel
theorem dX12_glaze_111 : decode cX12_glaze 111 = .ok (.imul, 1) := by decide +kernel
theorem dX12_glaze_112 : decode cX12_glaze 112 = .ok (.if_icmp .ne 9, 3) := by decide +kernel
theorem dX12_glaze_115 : decode cX12_glaze 115 = .ok (.iinc 6 (-1), 3) := by decide +kernel
theorem dX12_glaze_118 : decode cX12_glaze 118 = .ok (.goto (-35), 3) := by decide +kernel
theorem dX12_glaze_121 : decode cX12_glaze 121 = .ok (.aload_n 0, 1) := by decide +kernel
theorem dX12_glaze_122 : decode cX12_glaze 122 = .ok (.iload 6, 2) := by decide +kernel
theorem dX12_glaze_124 : decode cX12_glaze 124 = .ok (.iload_n 2, 1) := by decide +kernel
theorem dX12_glaze_125 : decode cX12_glaze 125 = .ok (.invokevirtual 219, 3) := by decide +kernel
theorem dX12_glaze_128 : decode cX12_glaze 128 = .ok (.ifCond .ne 6, 3) := by decide +kernel
theorem dX12_glaze_131 : decode cX12_glaze 131 = .ok (.goto (-48), 3) := by decide +kernel
theorem dX12_glaze_134 : decode cX12_glaze 134 = .ok (.iload 6, 2) := by decide +kernel
theorem dX12_glaze_136 : decode cX12_glaze 136 = .ok (.iload 5, 2) := by decide +kernel
theorem dX12_glaze_138 : decode cX12_glaze 138 = .ok (.iconst 1, 1) := by decide +kernel
theorem dX12_glaze_139 : decode cX12_glaze 139 = .ok (.isub, 1) := by decide +kernel
theorem dX12_glaze_140 : decode cX12_glaze 140 = .ok (.if_icmp .ge 17, 3) := by decide +kernel
theorem dX12_glaze_143 : decode cX12_glaze 143 = .ok (.iinc 6 1, 3) := by decide +kernel
theorem dX12_glaze_146 : decode cX12_glaze 146 = .ok (.aload_n 0, 1) := by decide +kernel
theorem dX12_glaze_147 : decode cX12_glaze 147 = .ok (.getfield 83, 3) := by decide +kernel
theorem dX12_glaze_150 : decode cX12_glaze 150 = .ok (.iload 6, 2) := by decide +kernel
theorem dX12_glaze_152 : decode cX12_glaze 152 = .ok (.iconst (-1), 1) := by decide +kernel
theorem dX12_glaze_153 : decode cX12_glaze 153 = .ok (.iastore, 1) := by decide +kernel
theorem dX12_glaze_154 : decode cX12_glaze 154 = .ok (.goto (-71), 3) := by decide +kernel
theorem dX12_glaze_157 : decode cX12_glaze 157 = .ok (.aload_n 0, 1) := by decide +kernel
theorem dX12_glaze_158 : decode cX12_glaze 158 = .ok (.iload 5, 2) := by decide +kernel
theorem dX12_glaze_160 : decode cX12_glaze 160 = .ok (.iload_n 3, 1) := by decide +kernel
theorem dX12_glaze_161 : decode cX12_glaze 161 = .ok (.invokevirtual 216, 3) := by decide +kernel
theorem dX12_glaze_164 : decode cX12_glaze 164 = .ok (.aload_n 0, 1) := by decide +kernel
theorem dX12_glaze_165 : decode cX12_glaze 165 = .ok (.aload_n 0, 1) := by decide +kernel
theorem dX12_glaze_166 : decode cX12_glaze 166 = .ok (.getfield 68, 3) := by decide +kernel
theorem dX12_glaze_169 : decode cX12_glaze 169 = .ok (.iconst 0, 1) := by decide +kernel
theorem dX12_glaze_170 : decode cX12_glaze 170 = .ok (.iaload, 1) := by decide +kernel
theorem dX12_glaze_171 : decode cX12_glaze 171 = .ok (.aload_n 0, 1) := by decide +kernel
theorem dX12_glaze_172 : decode cX12_glaze 172 = .ok (.getfield 68, 3) := by decide +kernel
theorem dX12_glaze_175 : decode cX12_glaze 175 = .ok (.iconst 1, 1) := by decide +kernel
theorem dX12_glaze_176 : decode cX12_glaze 176 = .ok (.iaload, 1) := by decide +kernel
theorem dX12_glaze_177 : decode cX12_glaze 177 = .ok (.aload_n 0, 1) := by decide +kernel
theorem dX12_glaze_178 : decode cX12_glaze 178 = .ok (.getfield 68, 3) := by decide +kernel
theorem dX12_glaze_181 : decode cX12_glaze 181 = .ok (.iconst 2, 1) := by decide +kernel
theorem dX12_glaze_182 : decode cX12_glaze 182 = .ok (.iaload, 1) := by decide +kernel
theorem dX12_glaze_183 : decode cX12_glaze 183 = .ok (.iload_n 1, 1) := by decide +kernel
theorem dX12_glaze_184 : decode cX12_glaze 184 = .ok (.invokevirtual 183, 3) := by decide +kernel
theorem dX12_glaze_187 : decode cX12_glaze 187 = .ok (.istore 7, 2) := by decide +kernel
theorem dX12_glaze_189 : decode cX12_glaze 189 = .ok (.iload 7, 2) := by decide +kernel
theorem dX12_glaze_191 : decode cX12_glaze 191 = .ok (.iload 4, 2) := by decide +kernel
theorem dX12_glaze_193 : decode cX12_glaze 193 = .ok (.if_icmp .lt 6, 3) := by decide +kernel
theorem dX12_glaze_196 : decode cX12_glaze 196 = .ok (.goto (-113), 3) := by decide +kernel
theorem dX12_glaze_199 : decode cX12_glaze 199 = .ok (.iload 7, 2) := by decide +kernel
theorem dX12_glaze_201 : decode cX12_glaze 201 = .ok (.istore 4, 2) := by decide +kernel
theorem dX12_glaze_203 : decode cX12_glaze 203 = .ok (.aload_n 0, 1) := by decide +kernel
theorem dX12_glaze_204 : decode cX12_glaze 204 = .ok (.iload 5, 2) := by decide +kernel
theorem dX12_glaze_206 : decode cX12_glaze 206 = .ok (.putfield 77, 3) := by decide +kernel
theorem dX12_glaze_209 : decode cX12_glaze 209 = .ok (.iconst 0, 1) := by decide +kernel
theorem dX12_glaze_210 : decode cX12_glaze 210 = .ok (.istore 8, 2) := by decide +kernel
theorem dX12_glaze_212 : decode cX12_glaze 212 = .ok (.iload 8, 2) := by decide +kernel
theorem dX12_glaze_214 : decode cX12_glaze 214 = .ok (.iload 5, 2) := by decide +kernel
theorem dX12_glaze_216 : decode cX12_glaze 216 = .ok (.if_icmp .ge 42, 3) := by decide +kernel
theorem dX12_glaze_219 : decode cX12_glaze 219 = .ok (.aload_n 0, 1) := by decide +kernel
theorem dX12_glaze_220 : decode cX12_glaze 220 = .ok (.getfield 80, 3) := by decide +kernel
theorem dX12_glaze_223 : decode cX12_glaze 223 = .ok (.iload 8, 2) := by decide +kernel
theorem dX12_glaze_225 : decode cX12_glaze 225 = .ok (.bipush 10, 2) := by decide +kernel
theorem dX12_glaze_227 : decode cX12_glaze 227 = .ok (.aload_n 0, 1) := by decide +kernel
theorem dX12_glaze_228 : decode cX12_glaze 228 = .ok (.getfield 83, 3) := by decide +kernel
theorem dX12_glaze_231 : decode cX12_glaze 231 = .ok (.iload 8, 2) := by decide +kernel
theorem dX12_glaze_233 : decode cX12_glaze 233 = .ok (.iaload, 1) := by decide +kernel
theorem dX12_glaze_234 : decode cX12_glaze 234 = .ok (.iconst 3, 1) := by decide +kernel
theorem dX12_glaze_235 : decode cX12_glaze 235 = .ok (.idiv, 1) := by decide +kernel
theorem dX12_glaze_236 : decode cX12_glaze 236 = .ok (.imul, 1) := by decide +kernel
theorem dX12_glaze_237 : decode cX12_glaze 237 = .ok (.getstatic 213, 3) := by decide +kernel
theorem dX12_glaze_240 : decode cX12_glaze 240 = .ok (.aload_n 0, 1) := by decide +kernel
theorem dX12_glaze_241 : decode cX12_glaze 241 = .ok (.getfield 83, 3) := by decide +kernel
theorem dX12_glaze_244 : decode cX12_glaze 244 = .ok (.iload 8, 2) := by decide +kernel
theorem dX12_glaze_246 : decode cX12_glaze 246 = .ok (.iaload, 1) := by decide +kernel
theorem dX12_glaze_247 : decode cX12_glaze 247 = .ok (.iconst 3, 1) := by decide +kernel
theorem dX12_glaze_248 : decode cX12_glaze 248 = .ok (.irem, 1) := by decide +kernel
theorem dX12_glaze_249 : decode cX12_glaze 249 = .ok (.iaload, 1) := by decide +kernel
theorem dX12_glaze_250 : decode cX12_glaze 250 = .ok (.iadd, 1) := by decide +kernel
theorem dX12_glaze_251 : decode cX12_glaze 251 = .ok (.iastore, 1) := by decide +kernel
theorem dX12_glaze_252 : decode cX12_glaze 252 = .ok (.iinc 8 1, 3) := by decide +kernel
theorem dX12_glaze_255 : decode cX12_glaze 255 = .ok (.goto (-43), 3) := by decide +kernel
theorem dX12_glaze_258 : decode cX12_glaze 258 = .ok (.goto (-175), 3) := by decide +kernel
theorem dX12_glaze_261 : decode cX12_glaze 261 = .ok (.iinc 5 1, 3) := by decide +kernel
theorem dX12_glaze_264 : decode cX12_glaze 264 = .ok (.goto (-197), 3) := by decide +kernel
theorem dX12_glaze_267 : decode cX12_glaze 267 = .ok (.iload 4, 2) := by decide +kernel
theorem dX12_glaze_269 : decode cX12_glaze 269 = .ok (.ireturn, 1) := by decide +kernel
theorem dX12_glazed_0 : decode cX12_glazed 0 = .ok (.iload_n 1, 1) := by decide +kernel
theorem dX12_glazed_1 : decode cX12_glazed 1 = .ok (.iconst 0, 1) := by decide +kernel
theorem dX12_glazed_2 : decode cX12_glazed 2 = .ok (.aload_n 0, 1) := by decide +kernel
theorem dX12_glazed_3 : decode cX12_glazed 3 = .ok (.getfield 77, 3) := by decide +kernel
theorem dX12_glazed_6 : decode cX12_glazed 6 = .ok (.iconst 1, 1) := by decide +kernel
theorem dX12_glazed_7 : decode cX12_glazed 7 = .ok (.isub, 1) := by decide +kernel
theorem dX12_glazed_8 : decode cX12_glazed 8 = .ok (.invokestatic 95, 3) := by decide +kernel
theorem dX12_glazed_11 : decode cX12_glazed 11 = .ok (.ifCond .eq 12, 3) := by decide +kernel
theorem dX12_glazed_14 : decode cX12_glazed 14 = .ok (.aload_n 0, 1) := by decide +kernel
theorem dX12_glazed_15 : decode cX12_glazed 15 = .ok (.getfield 80, 3) := by decide +kernel
theorem dX12_glazed_18 : decode cX12_glazed 18 = .ok (.iload_n 1, 1) := by decide +kernel
theorem dX12_glazed_19 : decode cX12_glazed 19 = .ok (.iaload, 1) := by decide +kernel
theorem dX12_glazed_20 : decode cX12_glazed 20 = .ok (.goto 4, 3) := by decide +kernel
theorem dX12_glazed_23 : decode cX12_glazed 23 = .ok (.iconst (-1), 1) := by decide +kernel
theorem dX12_glazed_24 : decode cX12_glazed 24 = .ok (.ireturn, 1) := by decide +kernel
theorem dX12_keep_0 : decode cX12_keep 0 = .ok (.aload_n 0, 1) := by decide +kernel
theorem dX12_keep_1 : decode cX12_keep 1 = .ok (.getfield 223, 3) := by decide +kernel
theorem dX12_keep_4 : decode cX12_keep 4 = .ok (.bipush 6, 2) := by decide +kernel
theorem dX12_keep_6 : decode cX12_keep 6 = .ok (.if_icmp .ne 6, 3) := by decide +kernel
theorem dX12_keep_9 : decode cX12_keep 9 = .ok (.bipush (-3), 2) := by decide +kernel
theorem dX12_keep_11 : decode cX12_keep 11 = .ok (.ireturn, 1) := by decide +kernel
theorem dX12_keep_12 : decode cX12_keep 12 = .ok (.iconst 0, 1) := by decide +kernel
theorem dX12_keep_13 : decode cX12_keep 13 = .ok (.istore_n 1, 1) := by decide +kernel
theorem dX12_keep_14 : decode cX12_keep 14 = .ok (.iload_n 1, 1) := by decide +kernel
theorem dX12_keep_15 : decode cX12_keep 15 = .ok (.iconst 3, 1) := by decide +kernel
theorem dX12_keep_16 : decode cX12_keep 16 = .ok (.if_icmp .ge 28, 3) := by decide +kernel
theorem dX12_keep_19 : decode cX12_keep 19 = .ok (.aload_n 0, 1) := by decide +kernel
theorem dX12_keep_20 : decode cX12_keep 20 = .ok (.getfield 86, 3) := by decide +kernel
theorem dX12_keep_23 : decode cX12_keep 23 = .ok (.iconst 3, 1) := by decide +kernel
theorem dX12_keep_24 : decode cX12_keep 24 = .ok (.aload_n 0, 1) := by decide +kernel
theorem dX12_keep_25 : decode cX12_keep 25 = .ok (.getfield 223, 3) := by decide +kernel
theorem dX12_keep_28 : decode cX12_keep 28 = .ok (.imul, 1) := by decide +kernel
theorem dX12_keep_29 : decode cX12_keep 29 = .ok (.iload_n 1, 1) := by decide +kernel
theorem dX12_keep_30 : decode cX12_keep 30 = .ok (.iadd, 1) := by decide +kernel
theorem dX12_keep_31 : decode cX12_keep 31 = .ok (.aload_n 0, 1) := by decide +kernel
theorem dX12_keep_32 : decode cX12_keep 32 = .ok (.getfield 68, 3) := by decide +kernel
theorem dX12_keep_35 : decode cX12_keep 35 = .ok (.iload_n 1, 1) := by decide +kernel
theorem dX12_keep_36 : decode cX12_keep 36 = .ok (.iaload, 1) := by decide +kernel
theorem dX12_keep_37 : decode cX12_keep 37 = .ok (.iastore, 1) := by decide +kernel
theorem dX12_keep_38 : decode cX12_keep 38 = .ok (.iinc 1 1, 3) := by decide +kernel
theorem dX12_keep_41 : decode cX12_keep 41 = .ok (.goto (-27), 3) := by decide +kernel
theorem dX12_keep_44 : decode cX12_keep 44 = .ok (.aload_n 0, 1) := by decide +kernel
theorem dX12_keep_45 : decode cX12_keep 45 = .ok (.dup, 1) := by decide +kernel
theorem dX12_keep_46 : decode cX12_keep 46 = .ok (.getfield 223, 3) := by decide +kernel
theorem dX12_keep_49 : decode cX12_keep 49 = .ok (.iconst 1, 1) := by decide +kernel
theorem dX12_keep_50 : decode cX12_keep 50 = .ok (.iadd, 1) := by decide +kernel
theorem dX12_keep_51 : decode cX12_keep 51 = .ok (.putfield 223, 3) := by decide +kernel
theorem dX12_keep_54 : decode cX12_keep 54 = .ok (.aload_n 0, 1) := by decide +kernel
theorem dX12_keep_55 : decode cX12_keep 55 = .ok (.getfield 223, 3) := by decide +kernel
theorem dX12_keep_58 : decode cX12_keep 58 = .ok (.ireturn, 1) := by decide +kernel
theorem dX12_clear_0 : decode cX12_clear 0 = .ok (.aload_n 0, 1) := by decide +kernel
theorem dX12_clear_1 : decode cX12_clear 1 = .ok (.getfield 223, 3) := by decide +kernel
theorem dX12_clear_4 : decode cX12_clear 4 = .ok (.istore_n 1, 1) := by decide +kernel
theorem dX12_clear_5 : decode cX12_clear 5 = .ok (.aload_n 0, 1) := by decide +kernel
theorem dX12_clear_6 : decode cX12_clear 6 = .ok (.iconst 0, 1) := by decide +kernel
theorem dX12_clear_7 : decode cX12_clear 7 = .ok (.putfield 223, 3) := by decide +kernel
theorem dX12_clear_10 : decode cX12_clear 10 = .ok (.iload_n 1, 1) := by decide +kernel
theorem dX12_clear_11 : decode cX12_clear 11 = .ok (.ireturn, 1) := by decide +kernel
theorem dX12_fewest_0 : decode cX12_fewest 0 = .ok (.iload_n 1, 1) := by decide +kernel
theorem dX12_fewest_1 : decode cX12_fewest 1 = .ok (.invokestatic 114, 3) := by decide +kernel
theorem dX12_fewest_4 : decode cX12_fewest 4 = .ok (.ifCond .eq 24, 3) := by decide +kernel
theorem dX12_fewest_7 : decode cX12_fewest 7 = .ok (.iload_n 2, 1) := by decide +kernel
theorem dX12_fewest_8 : decode cX12_fewest 8 = .ok (.iconst 1, 1) := by decide +kernel
theorem dX12_fewest_9 : decode cX12_fewest 9 = .ok (.bipush 6, 2) := by decide +kernel
theorem dX12_fewest_11 : decode cX12_fewest 11 = .ok (.invokestatic 95, 3) := by decide +kernel
theorem dX12_fewest_14 : decode cX12_fewest 14 = .ok (.ifCond .eq 14, 3) := by decide +kernel
theorem dX12_fewest_17 : decode cX12_fewest 17 = .ok (.iload_n 3, 1) := by decide +kernel
theorem dX12_fewest_18 : decode cX12_fewest 18 = .ok (.iconst 0, 1) := by decide +kernel
theorem dX12_fewest_19 : decode cX12_fewest 19 = .ok (.sipush 30000, 3) := by decide +kernel
theorem dX12_fewest_22 : decode cX12_fewest 22 = .ok (.invokestatic 95, 3) := by decide +kernel
theorem dX12_fewest_25 : decode cX12_fewest 25 = .ok (.ifCond .ne 5, 3) := by decide +kernel
theorem dX12_fewest_28 : decode cX12_fewest 28 = .ok (.iconst (-1), 1) := by decide +kernel
theorem dX12_fewest_29 : decode cX12_fewest 29 = .ok (.ireturn, 1) := by decide +kernel
theorem dX12_fewest_30 : decode cX12_fewest 30 = .ok (.aload_n 0, 1) := by decide +kernel
theorem dX12_fewest_31 : decode cX12_fewest 31 = .ok (.getfield 223, 3) := by decide +kernel
theorem dX12_fewest_34 : decode cX12_fewest 34 = .ok (.ifCond .eq 10, 3) := by decide +kernel
theorem dX12_fewest_37 : decode cX12_fewest 37 = .ok (.aload_n 0, 1) := by decide +kernel
theorem dX12_fewest_38 : decode cX12_fewest 38 = .ok (.getfield 92, 3) := by decide +kernel
theorem dX12_fewest_41 : decode cX12_fewest 41 = .ok (.ifCond .ne 6, 3) := by decide +kernel
theorem dX12_fewest_44 : decode cX12_fewest 44 = .ok (.bipush (-2), 2) := by decide +kernel
theorem dX12_fewest_46 : decode cX12_fewest 46 = .ok (.ireturn, 1) := by decide +kernel
theorem dX12_fewest_47 : decode cX12_fewest 47 = .ok (.iconst 1, 1) := by decide +kernel
theorem dX12_fewest_48 : decode cX12_fewest 48 = .ok (.aload_n 0, 1) := by decide +kernel
theorem dX12_fewest_49 : decode cX12_fewest 49 = .ok (.getfield 92, 3) := by decide +kernel
theorem dX12_fewest_52 : decode cX12_fewest 52 = .ok (.ishl, 1) := by decide +kernel
theorem dX12_fewest_53 : decode cX12_fewest 53 = .ok (.iconst 1, 1) := by decide +kernel
theorem dX12_fewest_54 : decode cX12_fewest 54 = .ok (.isub, 1) := by decide +kernel
theorem dX12_fewest_55 : decode cX12_fewest 55 = .ok (.istore 4, 2) := by decide +kernel
theorem dX12_fewest_57 : decode cX12_fewest 57 = .ok (.iconst 0, 1) := by decide +kernel
theorem dX12_fewest_58 : decode cX12_fewest 58 = .ok (.istore 5, 2) := by decide +kernel
theorem dX12_fewest_60 : decode cX12_fewest 60 = .ok (.iload 5, 2) := by decide +kernel
theorem dX12_fewest_62 : decode cX12_fewest 62 = .ok (.iload 4, 2) := by decide +kernel
theorem dX12_fewest_64 : decode cX12_fewest 64 = .ok (.if_icmp .gt 17, 3) := by decide +kernel
theorem dX12_fewest_67 : decode cX12_fewest 67 = .ok (.aload_n 0, 1) := by decide +kernel
theorem dX12_fewest_68 : decode cX12_fewest 68 = .ok (.getfield 89, 3) := by decide +kernel
theorem dX12_fewest_71 : decode cX12_fewest 71 = .ok (.iload 5, 2) := by decide +kernel
theorem dX12_fewest_73 : decode cX12_fewest 73 = .ok (.iconst 0, 1) := by decide +kernel
theorem dX12_fewest_74 : decode cX12_fewest 74 = .ok (.iastore, 1) := by decide +kernel
theorem dX12_fewest_75 : decode cX12_fewest 75 = .ok (.iinc 5 1, 3) := by decide +kernel
theorem dX12_fewest_78 : decode cX12_fewest 78 = .ok (.goto (-18), 3) := by decide +kernel
theorem dX12_fewest_81 : decode cX12_fewest 81 = .ok (.aload_n 0, 1) := by decide +kernel
theorem dX12_fewest_82 : decode cX12_fewest 82 = .ok (.iload 4, 2) := by decide +kernel
theorem dX12_fewest_84 : decode cX12_fewest 84 = .ok (.iload_n 2, 1) := by decide +kernel
theorem dX12_fewest_85 : decode cX12_fewest 85 = .ok (.invokevirtual 190, 3) := by decide +kernel
theorem dX12_fewest_88 : decode cX12_fewest 88 = .ok (.iconst 1, 1) := by decide +kernel
theorem dX12_fewest_89 : decode cX12_fewest 89 = .ok (.istore 5, 2) := by decide +kernel
theorem dX12_fewest_91 : decode cX12_fewest 91 = .ok (.iload 5, 2) := by decide +kernel
theorem dX12_fewest_93 : decode cX12_fewest 93 = .ok (.ifCond .eq 142, 3) := by decide +kernel
theorem dX12_fewest_96 : decode cX12_fewest 96 = .ok (.aload_n 0, 1) := by decide +kernel
theorem dX12_fewest_97 : decode cX12_fewest 97 = .ok (.invokevirtual 193, 3) := by decide +kernel
theorem dX12_fewest_100 : decode cX12_fewest 100 = .ok (.iconst 4, 1) := by decide +kernel
theorem dX12_fewest_101 : decode cX12_fewest 101 = .ok (.if_icmp .gt 123, 3) := by decide +kernel
theorem dX12_fewest_104 : decode cX12_fewest 104 = .ok (.aload_n 0, 1) := by decide +kernel
theorem dX12_fewest_105 : decode cX12_fewest 105 = .ok (.invokevirtual 197, 3) := by decide +kernel
theorem dX12_fewest_108 : decode cX12_fewest 108 = .ok (.iconst 0, 1) := by decide +kernel
theorem dX12_fewest_109 : decode cX12_fewest 109 = .ok (.istore 6, 2) := by decide +kernel
theorem dX12_fewest_111 : decode cX12_fewest 111 = .ok (.iconst 0, 1) := by decide +kernel
theorem dX12_fewest_112 : decode cX12_fewest 112 = .ok (.istore 7, 2) := by decide +kernel
theorem dX12_fewest_114 : decode cX12_fewest 114 = .ok (.iload 7, 2) := by decide +kernel
theorem dX12_fewest_116 : decode cX12_fewest 116 = .ok (.aload_n 0, 1) := by decide +kernel
theorem dX12_fewest_117 : decode cX12_fewest 117 = .ok (.getfield 92, 3) := by decide +kernel
theorem dX12_fewest_120 : decode cX12_fewest 120 = .ok (.if_icmp .ge 32, 3) := by decide +kernel
theorem dX12_fewest_123 : decode cX12_fewest 123 = .ok (.iload 6, 2) := by decide +kernel
theorem dX12_fewest_125 : decode cX12_fewest 125 = .ok (.aload_n 0, 1) := by decide +kernel
theorem dX12_fewest_126 : decode cX12_fewest 126 = .ok (.getfield 71, 3) := by decide +kernel
theorem dX12_fewest_129 : decode cX12_fewest 129 = .ok (.iload 7, 2) := by decide +kernel
theorem dX12_fewest_131 : decode cX12_fewest 131 = .ok (.iaload, 1) := by decide +kernel
theorem dX12_fewest_132 : decode cX12_fewest 132 = .ok (.ifCond .le 10, 3) := by decide +kernel
theorem dX12_fewest_135 : decode cX12_fewest 135 = .ok (.iconst 1, 1) := by decide +kernel
theorem dX12_fewest_136 : decode cX12_fewest 136 = .ok (.iload 7, 2) := by decide +kernel
theorem dX12_fewest_138 : decode cX12_fewest 138 = .ok (.ishl, 1) := by decide +kernel
theorem dX12_fewest_139 : decode cX12_fewest 139 = .ok (.goto 4, 3) := by decide +kernel
theorem dX12_fewest_142 : decode cX12_fewest 142 = .ok (.iconst 0, 1) := by decide +kernel
theorem dX12_fewest_143 : decode cX12_fewest 143 = .ok (.ior, 1) := by decide +kernel
theorem dX12_fewest_144 : decode cX12_fewest 144 = .ok (.istore 6, 2) := by decide +kernel
theorem dX12_fewest_146 : decode cX12_fewest 146 = .ok (.iinc 7 1, 3) := by decide +kernel
theorem dX12_fewest_149 : decode cX12_fewest 149 = .ok (.goto (-35), 3) := by decide +kernel
theorem dX12_fewest_152 : decode cX12_fewest 152 = .ok (.iconst 0, 1) := by decide +kernel
theorem dX12_fewest_153 : decode cX12_fewest 153 = .ok (.istore 7, 2) := by decide +kernel
theorem dX12_fewest_155 : decode cX12_fewest 155 = .ok (.iload 7, 2) := by decide +kernel
theorem dX12_fewest_157 : decode cX12_fewest 157 = .ok (.aload_n 0, 1) := by decide +kernel
theorem dX12_fewest_158 : decode cX12_fewest 158 = .ok (.getfield 223, 3) := by decide +kernel
theorem dX12_fewest_161 : decode cX12_fewest 161 = .ok (.if_icmp .ge 63, 3) := by decide +kernel
theorem dX12_fewest_164 : decode cX12_fewest 164 = .ok (.aload_n 0, 1) := by decide +kernel
theorem dX12_fewest_165 : decode cX12_fewest 165 = .ok (.aload_n 0, 1) := by decide +kernel
theorem dX12_fewest_166 : decode cX12_fewest 166 = .ok (.getfield 86, 3) := by decide +kernel
theorem dX12_fewest_169 : decode cX12_fewest 169 = .ok (.iconst 3, 1) := by decide +kernel
theorem dX12_fewest_170 : decode cX12_fewest 170 = .ok (.iload 7, 2) := by decide +kernel
theorem dX12_fewest_172 : decode cX12_fewest 172 = .ok (.imul, 1) := by decide +kernel
theorem dX12_fewest_173 : decode cX12_fewest 173 = .ok (.iaload, 1) := by decide +kernel
theorem dX12_fewest_174 : decode cX12_fewest 174 = .ok (.aload_n 0, 1) := by decide +kernel
theorem dX12_fewest_175 : decode cX12_fewest 175 = .ok (.getfield 86, 3) := by decide +kernel
theorem dX12_fewest_178 : decode cX12_fewest 178 = .ok (.iconst 3, 1) := by decide +kernel
theorem dX12_fewest_179 : decode cX12_fewest 179 = .ok (.iload 7, 2) := by decide +kernel
theorem dX12_fewest_181 : decode cX12_fewest 181 = .ok (.imul, 1) := by decide +kernel
theorem dX12_fewest_182 : decode cX12_fewest 182 = .ok (.iconst 1, 1) := by decide +kernel
theorem dX12_fewest_183 : decode cX12_fewest 183 = .ok (.iadd, 1) := by decide +kernel
theorem dX12_fewest_184 : decode cX12_fewest 184 = .ok (.iaload, 1) := by decide +kernel
theorem dX12_fewest_185 : decode cX12_fewest 185 = .ok (.aload_n 0, 1) := by decide +kernel
theorem dX12_fewest_186 : decode cX12_fewest 186 = .ok (.getfield 86, 3) := by decide +kernel
theorem dX12_fewest_189 : decode cX12_fewest 189 = .ok (.iconst 3, 1) := by decide +kernel
theorem dX12_fewest_190 : decode cX12_fewest 190 = .ok (.iload 7, 2) := by decide +kernel
theorem dX12_fewest_192 : decode cX12_fewest 192 = .ok (.imul, 1) := by decide +kernel
theorem dX12_fewest_193 : decode cX12_fewest 193 = .ok (.iconst 2, 1) := by decide +kernel
theorem dX12_fewest_194 : decode cX12_fewest 194 = .ok (.iadd, 1) := by decide +kernel
theorem dX12_fewest_195 : decode cX12_fewest 195 = .ok (.iaload, 1) := by decide +kernel
theorem dX12_fewest_196 : decode cX12_fewest 196 = .ok (.iload_n 1, 1) := by decide +kernel
theorem dX12_fewest_197 : decode cX12_fewest 197 = .ok (.invokevirtual 183, 3) := by decide +kernel
theorem dX12_fewest_200 : decode cX12_fewest 200 = .ok (.iload_n 3, 1) := by decide +kernel
theorem dX12_fewest_201 : decode cX12_fewest 201 = .ok (.if_icmp .gt 17, 3) := by decide +kernel
theorem dX12_fewest_204 : decode cX12_fewest 204 = .ok (.aload_n 0, 1) := by decide +kernel
theorem dX12_fewest_205 : decode cX12_fewest 205 = .ok (.getfield 89, 3) := by decide +kernel
theorem dX12_fewest_208 : decode cX12_fewest 208 = .ok (.iload 6, 2) := by decide +kernel
theorem dX12_fewest_210 : decode cX12_fewest 210 = .ok (.dup2, 1) := by decide +kernel
theorem dX12_fewest_211 : decode cX12_fewest 211 = .ok (.iaload, 1) := by decide +kernel
theorem dX12_fewest_212 : decode cX12_fewest 212 = .ok (.iconst 1, 1) := by decide +kernel
theorem dX12_fewest_213 : decode cX12_fewest 213 = .ok (.iload 7, 2) := by decide +kernel
theorem dX12_fewest_215 : decode cX12_fewest 215 = .ok (.ishl, 1) := by decide +kernel
theorem dX12_fewest_216 : decode cX12_fewest 216 = .ok (.ior, 1) := by decide +kernel
theorem dX12_fewest_217 : decode cX12_fewest 217 = .ok (.iastore, 1) := by decide +kernel
theorem dX12_fewest_218 : decode cX12_fewest 218 = .ok (.iinc 7 1, 3) := by decide +kernel
theorem dX12_fewest_221 : decode cX12_fewest 221 = .ok (.goto (-66), 3) := by decide +kernel
theorem dX12_fewest_224 : decode cX12_fewest 224 = .ok (.aload_n 0, 1) := by decide +kernel
theorem dX12_fewest_225 : decode cX12_fewest 225 = .ok (.iload 4, 2) := by decide +kernel
theorem dX12_fewest_227 : decode cX12_fewest 227 = .ok (.invokevirtual 206, 3) := by decide +kernel
theorem dX12_fewest_230 : decode cX12_fewest 230 = .ok (.istore 5, 2) := by decide +kernel
theorem dX12_fewest_232 : decode cX12_fewest 232 = .ok (.goto (-141), 3) := by decide +kernel
theorem dX12_fewest_235 : decode cX12_fewest 235 = .ok (.iconst (-1), 1) := by decide +kernel
theorem dX12_fewest_236 : decode cX12_fewest 236 = .ok (.istore 6, 2) := by decide +kernel
theorem dX12_fewest_238 : decode cX12_fewest 238 = .ok (.iconst 0, 1) := by decide +kernel
theorem dX12_fewest_239 : decode cX12_fewest 239 = .ok (.istore 7, 2) := by decide +kernel
theorem dX12_fewest_241 : decode cX12_fewest 241 = .ok (.iconst 1, 1) := by decide +kernel
theorem dX12_fewest_242 : decode cX12_fewest 242 = .ok (.istore 8, 2) := by decide +kernel
theorem dX12_fewest_244 : decode cX12_fewest 244 = .ok (.iload 8, 2) := by decide +kernel
theorem dX12_fewest_246 : decode cX12_fewest 246 = .ok (.iload 4, 2) := by decide +kernel
theorem dX12_fewest_248 : decode cX12_fewest 248 = .ok (.if_icmp .gt 111, 3) := by decide +kernel
theorem dX12_fewest_251 : decode cX12_fewest 251 = .ok (.iconst 0, 1) := by decide +kernel
theorem dX12_fewest_252 : decode cX12_fewest 252 = .ok (.istore 9, 2) := by decide +kernel
theorem dX12_fewest_254 : decode cX12_fewest 254 = .ok (.iconst 0, 1) := by decide +kernel
theorem dX12_fewest_255 : decode cX12_fewest 255 = .ok (.istore 10, 2) := by decide +kernel
theorem dX12_fewest_257 : decode cX12_fewest 257 = .ok (.iload 10, 2) := by decide +kernel
theorem dX12_fewest_259 : decode cX12_fewest 259 = .ok (.aload_n 0, 1) := by decide +kernel
theorem dX12_fewest_260 : decode cX12_fewest 260 = .ok (.getfield 92, 3) := by decide +kernel
theorem dX12_fewest_263 : decode cX12_fewest 263 = .ok (.if_icmp .ge 49, 3) := by decide +kernel
theorem dX12_fewest_266 : decode cX12_fewest 266 = .ok (.iload 8, 2) := by decide +kernel
theorem dX12_fewest_268 : decode cX12_fewest 268 = .ok (.iload 10, 2) := by decide +kernel
theorem dX12_fewest_270 : decode cX12_fewest 270 = .ok (.ishr, 1) := by decide +kernel
theorem dX12_fewest_271 : decode cX12_fewest 271 = .ok (.iconst 1, 1) := by decide +kernel
theorem dX12_fewest_272 : decode cX12_fewest 272 = .ok (.iand, 1) := by decide +kernel
theorem dX12_fewest_273 : decode cX12_fewest 273 = .ok (.ifCond .ne 6, 3) := by decide +kernel
theorem dX12_fewest_276 : decode cX12_fewest 276 = .ok (.goto 30, 3) := by decide +kernel
theorem dX12_fewest_279 : decode cX12_fewest 279 = .ok (.iinc 9 1, 3) := by decide +kernel
theorem dX12_fewest_282 : decode cX12_fewest 282 = .ok (.aload_n 0, 1) := by decide +kernel
theorem dX12_fewest_283 : decode cX12_fewest 283 = .ok (.getfield 89, 3) := by decide +kernel
theorem dX12_fewest_286 : decode cX12_fewest 286 = .ok (.iload 8, 2) := by decide +kernel
theorem dX12_fewest_288 : decode cX12_fewest 288 = .ok (.dup2, 1) := by decide +kernel
theorem dX12_fewest_289 : decode cX12_fewest 289 = .ok (.iaload, 1) := by decide +kernel
theorem dX12_fewest_290 : decode cX12_fewest 290 = .ok (.aload_n 0, 1) := by decide +kernel
theorem dX12_fewest_291 : decode cX12_fewest 291 = .ok (.getfield 89, 3) := by decide +kernel
theorem dX12_fewest_294 : decode cX12_fewest 294 = .ok (.iload 8, 2) := by decide +kernel
theorem dX12_fewest_296 : decode cX12_fewest 296 = .ok (.iconst 1, 1) := by decide +kernel
theorem dX12_fewest_297 : decode cX12_fewest 297 = .ok (.iload 10, 2) := by decide +kernel
theorem dX12_fewest_299 : decode cX12_fewest 299 = .ok (.ishl, 1) := by decide +kernel
theorem dX12_fewest_300 : decode cX12_fewest 300 = .ok (.iconst (-1), 1) := by decide +kernel
theorem dX12_fewest_301 : decode cX12_fewest 301 = .ok (.ixor, 1) := by decide +kernel
theorem dX12_fewest_302 : decode cX12_fewest 302 = .ok (.iand, 1) := by decide +kernel
theorem dX12_fewest_303 : decode cX12_fewest 303 = .ok (.iaload, 1) := by decide +kernel
theorem dX12_fewest_304 : decode cX12_fewest 304 = .ok (.ior, 1) := by decide +kernel
theorem dX12_fewest_305 : decode cX12_fewest 305 = .ok (.iastore, 1) := by decide +kernel
theorem dX12_fewest_306 : decode cX12_fewest 306 = .ok (.iinc 10 1, 3) := by decide +kernel
theorem dX12_fewest_309 : decode cX12_fewest 309 = .ok (.goto (-52), 3) := by decide +kernel
theorem dX12_fewest_312 : decode cX12_fewest 312 = .ok (.aload_n 0, 1) := by decide +kernel
theorem dX12_fewest_313 : decode cX12_fewest 313 = .ok (.getfield 89, 3) := by decide +kernel
theorem dX12_fewest_316 : decode cX12_fewest 316 = .ok (.iload 8, 2) := by decide +kernel
theorem dX12_fewest_318 : decode cX12_fewest 318 = .ok (.iaload, 1) := by decide +kernel
theorem dX12_fewest_319 : decode cX12_fewest 319 = .ok (.iconst 1, 1) := by decide +kernel
theorem dX12_fewest_320 : decode cX12_fewest 320 = .ok (.aload_n 0, 1) := by decide +kernel
theorem dX12_fewest_321 : decode cX12_fewest 321 = .ok (.getfield 223, 3) := by decide +kernel
theorem dX12_fewest_324 : decode cX12_fewest 324 = .ok (.ishl, 1) := by decide +kernel
theorem dX12_fewest_325 : decode cX12_fewest 325 = .ok (.iconst 1, 1) := by decide +kernel
theorem dX12_fewest_326 : decode cX12_fewest 326 = .ok (.isub, 1) := by decide +kernel
theorem dX12_fewest_327 : decode cX12_fewest 327 = .ok (.if_icmp .ne 26, 3) := by decide +kernel
theorem dX12_fewest_330 : decode cX12_fewest 330 = .ok (.iload 6, 2) := by decide +kernel
theorem dX12_fewest_332 : decode cX12_fewest 332 = .ok (.ifCond .lt 13, 3) := by decide +kernel
theorem dX12_fewest_335 : decode cX12_fewest 335 = .ok (.iload 9, 2) := by decide +kernel
theorem dX12_fewest_337 : decode cX12_fewest 337 = .ok (.iload 7, 2) := by decide +kernel
theorem dX12_fewest_339 : decode cX12_fewest 339 = .ok (.if_icmp .lt 6, 3) := by decide +kernel
theorem dX12_fewest_342 : decode cX12_fewest 342 = .ok (.goto 11, 3) := by decide +kernel
theorem dX12_fewest_345 : decode cX12_fewest 345 = .ok (.iload 8, 2) := by decide +kernel
theorem dX12_fewest_347 : decode cX12_fewest 347 = .ok (.istore 6, 2) := by decide +kernel
theorem dX12_fewest_349 : decode cX12_fewest 349 = .ok (.iload 9, 2) := by decide +kernel
theorem dX12_fewest_351 : decode cX12_fewest 351 = .ok (.istore 7, 2) := by decide +kernel
theorem dX12_fewest_353 : decode cX12_fewest 353 = .ok (.iinc 8 1, 3) := by decide +kernel
theorem dX12_fewest_356 : decode cX12_fewest 356 = .ok (.goto (-112), 3) := by decide +kernel
theorem dX12_fewest_359 : decode cX12_fewest 359 = .ok (.iload 6, 2) := by decide +kernel
theorem dX12_fewest_361 : decode cX12_fewest 361 = .ok (.ifCond .ge 8, 3) := by decide +kernel
theorem dX12_fewest_364 : decode cX12_fewest 364 = .ok (.bipush (-2), 2) := by decide +kernel
theorem dX12_fewest_366 : decode cX12_fewest 366 = .ok (.goto 5, 3) := by decide +kernel
theorem dX12_fewest_369 : decode cX12_fewest 369 = .ok (.iload 6, 2) := by decide +kernel
theorem dX12_fewest_371 : decode cX12_fewest 371 = .ok (.ireturn, 1) := by decide +kernel
theorem dX12_count_0 : decode cX12_count 0 = .ok (.iconst 0, 1) := by decide +kernel
theorem dX12_count_1 : decode cX12_count 1 = .ok (.istore_n 2, 1) := by decide +kernel
theorem dX12_count_2 : decode cX12_count 2 = .ok (.iload_n 1, 1) := by decide +kernel
theorem dX12_count_3 : decode cX12_count 3 = .ok (.tableswitch 184 0 7 #[45, 50, 55, 60, 84, 109, 134, 159], 45) := by decide +kernel
theorem dX12_count_48 : decode cX12_count 48 = .ok (.aload_n 0, 1) := by decide +kernel
theorem dX12_count_49 : decode cX12_count 49 = .ok (.getfield 92, 3) := by decide +kernel
theorem dX12_count_52 : decode cX12_count 52 = .ok (.ireturn, 1) := by decide +kernel
theorem dX12_count_53 : decode cX12_count 53 = .ok (.aload_n 0, 1) := by decide +kernel
theorem dX12_count_54 : decode cX12_count 54 = .ok (.getfield 120, 3) := by decide +kernel
theorem dX12_count_57 : decode cX12_count 57 = .ok (.ireturn, 1) := by decide +kernel
theorem dX12_count_58 : decode cX12_count 58 = .ok (.aload_n 0, 1) := by decide +kernel
theorem dX12_count_59 : decode cX12_count 59 = .ok (.getfield 223, 3) := by decide +kernel
theorem dX12_count_62 : decode cX12_count 62 = .ok (.ireturn, 1) := by decide +kernel
theorem dX12_count_63 : decode cX12_count 63 = .ok (.iconst 0, 1) := by decide +kernel
theorem dX12_count_64 : decode cX12_count 64 = .ok (.istore_n 3, 1) := by decide +kernel
theorem dX12_count_65 : decode cX12_count 65 = .ok (.iload_n 3, 1) := by decide +kernel
theorem dX12_count_66 : decode cX12_count 66 = .ok (.bipush 12, 2) := by decide +kernel
theorem dX12_count_68 : decode cX12_count 68 = .ok (.if_icmp .ge 17, 3) := by decide +kernel
theorem dX12_count_71 : decode cX12_count 71 = .ok (.iload_n 2, 1) := by decide +kernel
theorem dX12_count_72 : decode cX12_count 72 = .ok (.aload_n 0, 1) := by decide +kernel
theorem dX12_count_73 : decode cX12_count 73 = .ok (.iload_n 3, 1) := by decide +kernel
theorem dX12_count_74 : decode cX12_count 74 = .ok (.invokevirtual 106, 3) := by decide +kernel
theorem dX12_count_77 : decode cX12_count 77 = .ok (.iadd, 1) := by decide +kernel
theorem dX12_count_78 : decode cX12_count 78 = .ok (.istore_n 2, 1) := by decide +kernel
theorem dX12_count_79 : decode cX12_count 79 = .ok (.iinc 3 1, 3) := by decide +kernel
theorem dX12_count_82 : decode cX12_count 82 = .ok (.goto (-17), 3) := by decide +kernel
theorem dX12_count_85 : decode cX12_count 85 = .ok (.iload_n 2, 1) := by decide +kernel
theorem dX12_count_86 : decode cX12_count 86 = .ok (.ireturn, 1) := by decide +kernel
theorem dX12_count_87 : decode cX12_count 87 = .ok (.iconst 0, 1) := by decide +kernel
theorem dX12_count_88 : decode cX12_count 88 = .ok (.istore_n 3, 1) := by decide +kernel
theorem dX12_count_89 : decode cX12_count 89 = .ok (.iload_n 3, 1) := by decide +kernel
theorem dX12_count_90 : decode cX12_count 90 = .ok (.bipush 12, 2) := by decide +kernel
theorem dX12_count_92 : decode cX12_count 92 = .ok (.if_icmp .ge 18, 3) := by decide +kernel
theorem dX12_count_95 : decode cX12_count 95 = .ok (.iload_n 2, 1) := by decide +kernel
theorem dX12_count_96 : decode cX12_count 96 = .ok (.aload_n 0, 1) := by decide +kernel
theorem dX12_count_97 : decode cX12_count 97 = .ok (.getfield 29, 3) := by decide +kernel
theorem dX12_count_100 : decode cX12_count 100 = .ok (.iload_n 3, 1) := by decide +kernel
theorem dX12_count_101 : decode cX12_count 101 = .ok (.iaload, 1) := by decide +kernel
theorem dX12_count_102 : decode cX12_count 102 = .ok (.iadd, 1) := by decide +kernel
theorem dX12_count_103 : decode cX12_count 103 = .ok (.istore_n 2, 1) := by decide +kernel
theorem dX12_count_104 : decode cX12_count 104 = .ok (.iinc 3 1, 3) := by decide +kernel
theorem dX12_count_107 : decode cX12_count 107 = .ok (.goto (-18), 3) := by decide +kernel
theorem dX12_count_110 : decode cX12_count 110 = .ok (.iload_n 2, 1) := by decide +kernel
theorem dX12_count_111 : decode cX12_count 111 = .ok (.ireturn, 1) := by decide +kernel
theorem dX12_count_112 : decode cX12_count 112 = .ok (.iconst 0, 1) := by decide +kernel
theorem dX12_count_113 : decode cX12_count 113 = .ok (.istore_n 3, 1) := by decide +kernel
theorem dX12_count_114 : decode cX12_count 114 = .ok (.iload_n 3, 1) := by decide +kernel
theorem dX12_count_115 : decode cX12_count 115 = .ok (.bipush 12, 2) := by decide +kernel
theorem dX12_count_117 : decode cX12_count 117 = .ok (.if_icmp .ge 18, 3) := by decide +kernel
theorem dX12_count_120 : decode cX12_count 120 = .ok (.iload_n 2, 1) := by decide +kernel
theorem dX12_count_121 : decode cX12_count 121 = .ok (.aload_n 0, 1) := by decide +kernel
theorem dX12_count_122 : decode cX12_count 122 = .ok (.getfield 32, 3) := by decide +kernel
theorem dX12_count_125 : decode cX12_count 125 = .ok (.iload_n 3, 1) := by decide +kernel
theorem dX12_count_126 : decode cX12_count 126 = .ok (.iaload, 1) := by decide +kernel
theorem dX12_count_127 : decode cX12_count 127 = .ok (.iadd, 1) := by decide +kernel
theorem dX12_count_128 : decode cX12_count 128 = .ok (.istore_n 2, 1) := by decide +kernel
theorem dX12_count_129 : decode cX12_count 129 = .ok (.iinc 3 1, 3) := by decide +kernel
theorem dX12_count_132 : decode cX12_count 132 = .ok (.goto (-18), 3) := by decide +kernel
theorem dX12_count_135 : decode cX12_count 135 = .ok (.iload_n 2, 1) := by decide +kernel
theorem dX12_count_136 : decode cX12_count 136 = .ok (.ireturn, 1) := by decide +kernel
theorem dX12_count_137 : decode cX12_count 137 = .ok (.iconst 0, 1) := by decide +kernel
theorem dX12_count_138 : decode cX12_count 138 = .ok (.istore_n 3, 1) := by decide +kernel
theorem dX12_count_139 : decode cX12_count 139 = .ok (.iload_n 3, 1) := by decide +kernel
theorem dX12_count_140 : decode cX12_count 140 = .ok (.bipush 12, 2) := by decide +kernel
theorem dX12_count_142 : decode cX12_count 142 = .ok (.if_icmp .ge 18, 3) := by decide +kernel
theorem dX12_count_145 : decode cX12_count 145 = .ok (.iload_n 2, 1) := by decide +kernel
theorem dX12_count_146 : decode cX12_count 146 = .ok (.aload_n 0, 1) := by decide +kernel
theorem dX12_count_147 : decode cX12_count 147 = .ok (.getfield 26, 3) := by decide +kernel
theorem dX12_count_150 : decode cX12_count 150 = .ok (.iload_n 3, 1) := by decide +kernel
theorem dX12_count_151 : decode cX12_count 151 = .ok (.iaload, 1) := by decide +kernel
theorem dX12_count_152 : decode cX12_count 152 = .ok (.iadd, 1) := by decide +kernel
theorem dX12_count_153 : decode cX12_count 153 = .ok (.istore_n 2, 1) := by decide +kernel
theorem dX12_count_154 : decode cX12_count 154 = .ok (.iinc 3 1, 3) := by decide +kernel
theorem dX12_count_157 : decode cX12_count 157 = .ok (.goto (-18), 3) := by decide +kernel
theorem dX12_count_160 : decode cX12_count 160 = .ok (.iload_n 2, 1) := by decide +kernel
theorem dX12_count_161 : decode cX12_count 161 = .ok (.ireturn, 1) := by decide +kernel
theorem dX12_count_162 : decode cX12_count 162 = .ok (.iconst 0, 1) := by decide +kernel
theorem dX12_count_163 : decode cX12_count 163 = .ok (.istore_n 3, 1) := by decide +kernel
theorem dX12_count_164 : decode cX12_count 164 = .ok (.iload_n 3, 1) := by decide +kernel
theorem dX12_count_165 : decode cX12_count 165 = .ok (.bipush 10, 2) := by decide +kernel
theorem dX12_count_167 : decode cX12_count 167 = .ok (.if_icmp .ge 18, 3) := by decide +kernel
theorem dX12_count_170 : decode cX12_count 170 = .ok (.iload_n 2, 1) := by decide +kernel
theorem dX12_count_171 : decode cX12_count 171 = .ok (.aload_n 0, 1) := by decide +kernel
theorem dX12_count_172 : decode cX12_count 172 = .ok (.getfield 56, 3) := by decide +kernel
theorem dX12_count_175 : decode cX12_count 175 = .ok (.iload_n 3, 1) := by decide +kernel
theorem dX12_count_176 : decode cX12_count 176 = .ok (.iaload, 1) := by decide +kernel
theorem dX12_count_177 : decode cX12_count 177 = .ok (.iadd, 1) := by decide +kernel
theorem dX12_count_178 : decode cX12_count 178 = .ok (.istore_n 2, 1) := by decide +kernel
theorem dX12_count_179 : decode cX12_count 179 = .ok (.iinc 3 1, 3) := by decide +kernel
theorem dX12_count_182 : decode cX12_count 182 = .ok (.goto (-18), 3) := by decide +kernel
theorem dX12_count_185 : decode cX12_count 185 = .ok (.iload_n 2, 1) := by decide +kernel
theorem dX12_count_186 : decode cX12_count 186 = .ok (.ireturn, 1) := by decide +kernel
theorem dX12_count_187 : decode cX12_count 187 = .ok (.iconst (-1), 1) := by decide +kernel
theorem dX12_count_188 : decode cX12_count 188 = .ok (.ireturn, 1) := by decide +kernel
theorem dJ6_bitCount_0f7a4_0 : decode cJ6_bitCount_0f7a4 0 = .ok (.iload_n 0, 1) := by decide +kernel
theorem dJ6_bitCount_0f7a4_1 : decode cJ6_bitCount_0f7a4 1 = .ok (.iload_n 0, 1) := by decide +kernel
theorem dJ6_bitCount_0f7a4_2 : decode cJ6_bitCount_0f7a4 2 = .ok (.iconst 1, 1) := by decide +kernel
theorem dJ6_bitCount_0f7a4_3 : decode cJ6_bitCount_0f7a4 3 = .ok (.iushr, 1) := by decide +kernel
theorem dJ6_bitCount_0f7a4_4 : decode cJ6_bitCount_0f7a4 4 = .ok (.ldc_w 265, 3) := by decide +kernel
theorem dJ6_bitCount_0f7a4_7 : decode cJ6_bitCount_0f7a4 7 = .ok (.iand, 1) := by decide +kernel
theorem dJ6_bitCount_0f7a4_8 : decode cJ6_bitCount_0f7a4 8 = .ok (.isub, 1) := by decide +kernel
theorem dJ6_bitCount_0f7a4_9 : decode cJ6_bitCount_0f7a4 9 = .ok (.istore_n 0, 1) := by decide +kernel
theorem dJ6_bitCount_0f7a4_10 : decode cJ6_bitCount_0f7a4 10 = .ok (.iload_n 0, 1) := by decide +kernel
theorem dJ6_bitCount_0f7a4_11 : decode cJ6_bitCount_0f7a4 11 = .ok (.ldc_w 266, 3) := by decide +kernel
theorem dJ6_bitCount_0f7a4_14 : decode cJ6_bitCount_0f7a4 14 = .ok (.iand, 1) := by decide +kernel
theorem dJ6_bitCount_0f7a4_15 : decode cJ6_bitCount_0f7a4 15 = .ok (.iload_n 0, 1) := by decide +kernel
theorem dJ6_bitCount_0f7a4_16 : decode cJ6_bitCount_0f7a4 16 = .ok (.iconst 2, 1) := by decide +kernel
theorem dJ6_bitCount_0f7a4_17 : decode cJ6_bitCount_0f7a4 17 = .ok (.iushr, 1) := by decide +kernel
theorem dJ6_bitCount_0f7a4_18 : decode cJ6_bitCount_0f7a4 18 = .ok (.ldc_w 266, 3) := by decide +kernel
theorem dJ6_bitCount_0f7a4_21 : decode cJ6_bitCount_0f7a4 21 = .ok (.iand, 1) := by decide +kernel
theorem dJ6_bitCount_0f7a4_22 : decode cJ6_bitCount_0f7a4 22 = .ok (.iadd, 1) := by decide +kernel
theorem dJ6_bitCount_0f7a4_23 : decode cJ6_bitCount_0f7a4 23 = .ok (.istore_n 0, 1) := by decide +kernel
theorem dJ6_bitCount_0f7a4_24 : decode cJ6_bitCount_0f7a4 24 = .ok (.iload_n 0, 1) := by decide +kernel
theorem dJ6_bitCount_0f7a4_25 : decode cJ6_bitCount_0f7a4 25 = .ok (.iload_n 0, 1) := by decide +kernel
theorem dJ6_bitCount_0f7a4_26 : decode cJ6_bitCount_0f7a4 26 = .ok (.iconst 4, 1) := by decide +kernel
theorem dJ6_bitCount_0f7a4_27 : decode cJ6_bitCount_0f7a4 27 = .ok (.iushr, 1) := by decide +kernel
theorem dJ6_bitCount_0f7a4_28 : decode cJ6_bitCount_0f7a4 28 = .ok (.iadd, 1) := by decide +kernel
theorem dJ6_bitCount_0f7a4_29 : decode cJ6_bitCount_0f7a4 29 = .ok (.ldc_w 267, 3) := by decide +kernel
theorem dJ6_bitCount_0f7a4_32 : decode cJ6_bitCount_0f7a4 32 = .ok (.iand, 1) := by decide +kernel
theorem dJ6_bitCount_0f7a4_33 : decode cJ6_bitCount_0f7a4 33 = .ok (.istore_n 0, 1) := by decide +kernel
theorem dJ6_bitCount_0f7a4_34 : decode cJ6_bitCount_0f7a4 34 = .ok (.iload_n 0, 1) := by decide +kernel
theorem dJ6_bitCount_0f7a4_35 : decode cJ6_bitCount_0f7a4 35 = .ok (.iload_n 0, 1) := by decide +kernel
theorem dJ6_bitCount_0f7a4_36 : decode cJ6_bitCount_0f7a4 36 = .ok (.bipush 8, 2) := by decide +kernel
theorem dJ6_bitCount_0f7a4_38 : decode cJ6_bitCount_0f7a4 38 = .ok (.iushr, 1) := by decide +kernel
theorem dJ6_bitCount_0f7a4_39 : decode cJ6_bitCount_0f7a4 39 = .ok (.iadd, 1) := by decide +kernel
theorem dJ6_bitCount_0f7a4_40 : decode cJ6_bitCount_0f7a4 40 = .ok (.istore_n 0, 1) := by decide +kernel
theorem dJ6_bitCount_0f7a4_41 : decode cJ6_bitCount_0f7a4 41 = .ok (.iload_n 0, 1) := by decide +kernel
theorem dJ6_bitCount_0f7a4_42 : decode cJ6_bitCount_0f7a4 42 = .ok (.iload_n 0, 1) := by decide +kernel
theorem dJ6_bitCount_0f7a4_43 : decode cJ6_bitCount_0f7a4 43 = .ok (.bipush 16, 2) := by decide +kernel
theorem dJ6_bitCount_0f7a4_45 : decode cJ6_bitCount_0f7a4 45 = .ok (.iushr, 1) := by decide +kernel
theorem dJ6_bitCount_0f7a4_46 : decode cJ6_bitCount_0f7a4 46 = .ok (.iadd, 1) := by decide +kernel
theorem dJ6_bitCount_0f7a4_47 : decode cJ6_bitCount_0f7a4 47 = .ok (.istore_n 0, 1) := by decide +kernel
theorem dJ6_bitCount_0f7a4_48 : decode cJ6_bitCount_0f7a4 48 = .ok (.iload_n 0, 1) := by decide +kernel
theorem dJ6_bitCount_0f7a4_49 : decode cJ6_bitCount_0f7a4 49 = .ok (.bipush 63, 2) := by decide +kernel
theorem dJ6_bitCount_0f7a4_51 : decode cJ6_bitCount_0f7a4 51 = .ok (.iand, 1) := by decide +kernel
theorem dJ6_bitCount_0f7a4_52 : decode cJ6_bitCount_0f7a4 52 = .ok (.ireturn, 1) := by decide +kernel
theorem dJ9_abs_0f7a4_0 : decode cJ9_abs_0f7a4 0 = .ok (.iload_n 0, 1) := by decide +kernel
theorem dJ9_abs_0f7a4_1 : decode cJ9_abs_0f7a4 1 = .ok (.ifCond .ge 8, 3) := by decide +kernel
theorem dJ9_abs_0f7a4_4 : decode cJ9_abs_0f7a4 4 = .ok (.iload_n 0, 1) := by decide +kernel
theorem dJ9_abs_0f7a4_5 : decode cJ9_abs_0f7a4 5 = .ok (.ineg, 1) := by decide +kernel
theorem dJ9_abs_0f7a4_6 : decode cJ9_abs_0f7a4 6 = .ok (.goto 4, 3) := by decide +kernel
theorem dJ9_abs_0f7a4_9 : decode cJ9_abs_0f7a4 9 = .ok (.iload_n 0, 1) := by decide +kernel
theorem dJ9_abs_0f7a4_10 : decode cJ9_abs_0f7a4 10 = .ok (.ireturn, 1) := by decide +kernel
theorem dJ9_max_7cf53_0 : decode cJ9_max_7cf53 0 = .ok (.iload_n 0, 1) := by decide +kernel
theorem dJ9_max_7cf53_1 : decode cJ9_max_7cf53 1 = .ok (.iload_n 1, 1) := by decide +kernel
theorem dJ9_max_7cf53_2 : decode cJ9_max_7cf53 2 = .ok (.if_icmp .lt 7, 3) := by decide +kernel
theorem dJ9_max_7cf53_5 : decode cJ9_max_7cf53 5 = .ok (.iload_n 0, 1) := by decide +kernel
theorem dJ9_max_7cf53_6 : decode cJ9_max_7cf53 6 = .ok (.goto 4, 3) := by decide +kernel
theorem dJ9_max_7cf53_9 : decode cJ9_max_7cf53 9 = .ok (.iload_n 1, 1) := by decide +kernel
theorem dJ9_max_7cf53_10 : decode cJ9_max_7cf53 10 = .ok (.ireturn, 1) := by decide +kernel
theorem dJ7_fill_53178_0 : decode cJ7_fill_53178 0 = .ok (.iconst 0, 1) := by decide +kernel
theorem dJ7_fill_53178_1 : decode cJ7_fill_53178 1 = .ok (.istore_n 2, 1) := by decide +kernel
theorem dJ7_fill_53178_2 : decode cJ7_fill_53178 2 = .ok (.aload_n 0, 1) := by decide +kernel
theorem dJ7_fill_53178_3 : decode cJ7_fill_53178 3 = .ok (.arraylength, 1) := by decide +kernel
theorem dJ7_fill_53178_4 : decode cJ7_fill_53178 4 = .ok (.istore_n 3, 1) := by decide +kernel
theorem dJ7_fill_53178_5 : decode cJ7_fill_53178 5 = .ok (.iload_n 2, 1) := by decide +kernel
theorem dJ7_fill_53178_6 : decode cJ7_fill_53178 6 = .ok (.iload_n 3, 1) := by decide +kernel
theorem dJ7_fill_53178_7 : decode cJ7_fill_53178 7 = .ok (.if_icmp .ge 13, 3) := by decide +kernel
theorem dJ7_fill_53178_10 : decode cJ7_fill_53178 10 = .ok (.aload_n 0, 1) := by decide +kernel
theorem dJ7_fill_53178_11 : decode cJ7_fill_53178 11 = .ok (.iload_n 2, 1) := by decide +kernel
theorem dJ7_fill_53178_12 : decode cJ7_fill_53178 12 = .ok (.iload_n 1, 1) := by decide +kernel
theorem dJ7_fill_53178_13 : decode cJ7_fill_53178 13 = .ok (.iastore, 1) := by decide +kernel
theorem dJ7_fill_53178_14 : decode cJ7_fill_53178 14 = .ok (.iinc 2 1, 3) := by decide +kernel
theorem dJ7_fill_53178_17 : decode cJ7_fill_53178 17 = .ok (.goto (-12), 3) := by decide +kernel
theorem dJ7_fill_53178_20 : decode cJ7_fill_53178 20 = .ok (.return_, 1) := by decide +kernel
theorem dL_law_0 : decode cL_law 0 = .ok (.new 7, 3) := by decide +kernel
theorem dL_law_3 : decode cL_law 3 = .ok (.dup, 1) := by decide +kernel
theorem dL_law_4 : decode cL_law 4 = .ok (.invokespecial 9, 3) := by decide +kernel
theorem dL_law_7 : decode cL_law 7 = .ok (.astore_n 1, 1) := by decide +kernel
theorem dL_law_8 : decode cL_law 8 = .ok (.new 10, 3) := by decide +kernel
theorem dL_law_11 : decode cL_law 11 = .ok (.dup, 1) := by decide +kernel
theorem dL_law_12 : decode cL_law 12 = .ok (.invokespecial 12, 3) := by decide +kernel
theorem dL_law_15 : decode cL_law 15 = .ok (.astore_n 2, 1) := by decide +kernel
theorem dL_law_16 : decode cL_law 16 = .ok (.iconst 0, 1) := by decide +kernel
theorem dL_law_17 : decode cL_law 17 = .ok (.istore_n 3, 1) := by decide +kernel
theorem dL_law_18 : decode cL_law 18 = .ok (.iload_n 3, 1) := by decide +kernel
theorem dL_law_19 : decode cL_law 19 = .ok (.aload_n 0, 1) := by decide +kernel
theorem dL_law_20 : decode cL_law 20 = .ok (.arraylength, 1) := by decide +kernel
theorem dL_law_21 : decode cL_law 21 = .ok (.iconst 5, 1) := by decide +kernel
theorem dL_law_22 : decode cL_law 22 = .ok (.isub, 1) := by decide +kernel
theorem dL_law_23 : decode cL_law 23 = .ok (.if_icmp .gt 1258, 3) := by decide +kernel
theorem dL_law_26 : decode cL_law 26 = .ok (.aload_n 0, 1) := by decide +kernel
theorem dL_law_27 : decode cL_law 27 = .ok (.iload_n 3, 1) := by decide +kernel
theorem dL_law_28 : decode cL_law 28 = .ok (.iaload, 1) := by decide +kernel
theorem dL_law_29 : decode cL_law 29 = .ok (.bipush 31, 2) := by decide +kernel
theorem dL_law_31 : decode cL_law 31 = .ok (.iand, 1) := by decide +kernel
theorem dL_law_32 : decode cL_law 32 = .ok (.tableswitch 1243 0 30 #[140, 183, 236, 269, 322, 365, 408, 431, 474, 507, 530, 563, 596, 639, 692, 725, 758, 801, 844, 887, 930, 973, 1006, 1049, 1072, 1085, 1128, 1151, 1164, 1177, 1220], 140) := by decide +kernel
theorem dL_law_172 : decode cL_law 172 = .ok (.aload_n 1, 1) := by decide +kernel
theorem dL_law_173 : decode cL_law 173 = .ok (.aload_n 0, 1) := by decide +kernel
theorem dL_law_174 : decode cL_law 174 = .ok (.iload_n 3, 1) := by decide +kernel
theorem dL_law_175 : decode cL_law 175 = .ok (.iconst 1, 1) := by decide +kernel
theorem dL_law_176 : decode cL_law 176 = .ok (.iadd, 1) := by decide +kernel
theorem dL_law_177 : decode cL_law 177 = .ok (.iaload, 1) := by decide +kernel
theorem dL_law_178 : decode cL_law 178 = .ok (.aload_n 0, 1) := by decide +kernel
theorem dL_law_179 : decode cL_law 179 = .ok (.iload_n 3, 1) := by decide +kernel
theorem dL_law_180 : decode cL_law 180 = .ok (.iconst 2, 1) := by decide +kernel
theorem dL_law_181 : decode cL_law 181 = .ok (.iadd, 1) := by decide +kernel
theorem dL_law_182 : decode cL_law 182 = .ok (.iaload, 1) := by decide +kernel
theorem dL_law_183 : decode cL_law 183 = .ok (.aload_n 0, 1) := by decide +kernel
theorem dL_law_184 : decode cL_law 184 = .ok (.iload_n 3, 1) := by decide +kernel
theorem dL_law_185 : decode cL_law 185 = .ok (.iconst 3, 1) := by decide +kernel
theorem dL_law_186 : decode cL_law 186 = .ok (.iadd, 1) := by decide +kernel
theorem dL_law_187 : decode cL_law 187 = .ok (.iaload, 1) := by decide +kernel
theorem dL_law_188 : decode cL_law 188 = .ok (.invokevirtual 13, 3) := by decide +kernel
theorem dL_law_191 : decode cL_law 191 = .ok (.aload_n 2, 1) := by decide +kernel
theorem dL_law_192 : decode cL_law 192 = .ok (.aload_n 0, 1) := by decide +kernel
theorem dL_law_193 : decode cL_law 193 = .ok (.iload_n 3, 1) := by decide +kernel
theorem dL_law_194 : decode cL_law 194 = .ok (.iconst 1, 1) := by decide +kernel
theorem dL_law_195 : decode cL_law 195 = .ok (.iadd, 1) := by decide +kernel
theorem dL_law_196 : decode cL_law 196 = .ok (.iaload, 1) := by decide +kernel
theorem dL_law_197 : decode cL_law 197 = .ok (.aload_n 0, 1) := by decide +kernel
theorem dL_law_198 : decode cL_law 198 = .ok (.iload_n 3, 1) := by decide +kernel
theorem dL_law_199 : decode cL_law 199 = .ok (.iconst 2, 1) := by decide +kernel
theorem dL_law_200 : decode cL_law 200 = .ok (.iadd, 1) := by decide +kernel
theorem dL_law_201 : decode cL_law 201 = .ok (.iaload, 1) := by decide +kernel
theorem dL_law_202 : decode cL_law 202 = .ok (.aload_n 0, 1) := by decide +kernel
theorem dL_law_203 : decode cL_law 203 = .ok (.iload_n 3, 1) := by decide +kernel
theorem dL_law_204 : decode cL_law 204 = .ok (.iconst 3, 1) := by decide +kernel
theorem dL_law_205 : decode cL_law 205 = .ok (.iadd, 1) := by decide +kernel
theorem dL_law_206 : decode cL_law 206 = .ok (.iaload, 1) := by decide +kernel
theorem dL_law_207 : decode cL_law 207 = .ok (.invokevirtual 17, 3) := by decide +kernel
theorem dL_law_210 : decode cL_law 210 = .ok (.if_icmp .eq 1065, 3) := by decide +kernel
theorem dL_law_213 : decode cL_law 213 = .ok (.iconst 0, 1) := by decide +kernel
theorem dL_law_214 : decode cL_law 214 = .ok (.ireturn, 1) := by decide +kernel
theorem dL_law_215 : decode cL_law 215 = .ok (.aload_n 1, 1) := by decide +kernel
theorem dL_law_216 : decode cL_law 216 = .ok (.aload_n 0, 1) := by decide +kernel
theorem dL_law_217 : decode cL_law 217 = .ok (.iload_n 3, 1) := by decide +kernel
theorem dL_law_218 : decode cL_law 218 = .ok (.iconst 1, 1) := by decide +kernel
theorem dL_law_219 : decode cL_law 219 = .ok (.iadd, 1) := by decide +kernel
theorem dL_law_220 : decode cL_law 220 = .ok (.iaload, 1) := by decide +kernel
theorem dL_law_221 : decode cL_law 221 = .ok (.aload_n 0, 1) := by decide +kernel
theorem dL_law_222 : decode cL_law 222 = .ok (.iload_n 3, 1) := by decide +kernel
theorem dL_law_223 : decode cL_law 223 = .ok (.iconst 2, 1) := by decide +kernel
theorem dL_law_224 : decode cL_law 224 = .ok (.iadd, 1) := by decide +kernel
theorem dL_law_225 : decode cL_law 225 = .ok (.iaload, 1) := by decide +kernel
theorem dL_law_226 : decode cL_law 226 = .ok (.aload_n 0, 1) := by decide +kernel
theorem dL_law_227 : decode cL_law 227 = .ok (.iload_n 3, 1) := by decide +kernel
theorem dL_law_228 : decode cL_law 228 = .ok (.iconst 3, 1) := by decide +kernel
theorem dL_law_229 : decode cL_law 229 = .ok (.iadd, 1) := by decide +kernel
theorem dL_law_230 : decode cL_law 230 = .ok (.iaload, 1) := by decide +kernel
theorem dL_law_231 : decode cL_law 231 = .ok (.aload_n 0, 1) := by decide +kernel
theorem dL_law_232 : decode cL_law 232 = .ok (.iload_n 3, 1) := by decide +kernel
theorem dL_law_233 : decode cL_law 233 = .ok (.iconst 4, 1) := by decide +kernel
theorem dL_law_234 : decode cL_law 234 = .ok (.iadd, 1) := by decide +kernel
theorem dL_law_235 : decode cL_law 235 = .ok (.iaload, 1) := by decide +kernel
theorem dL_law_236 : decode cL_law 236 = .ok (.invokevirtual 18, 3) := by decide +kernel
theorem dL_law_239 : decode cL_law 239 = .ok (.aload_n 2, 1) := by decide +kernel
theorem dL_law_240 : decode cL_law 240 = .ok (.aload_n 0, 1) := by decide +kernel
theorem dL_law_241 : decode cL_law 241 = .ok (.iload_n 3, 1) := by decide +kernel
theorem dL_law_242 : decode cL_law 242 = .ok (.iconst 1, 1) := by decide +kernel
theorem dL_law_243 : decode cL_law 243 = .ok (.iadd, 1) := by decide +kernel
theorem dL_law_244 : decode cL_law 244 = .ok (.iaload, 1) := by decide +kernel
theorem dL_law_245 : decode cL_law 245 = .ok (.aload_n 0, 1) := by decide +kernel
theorem dL_law_246 : decode cL_law 246 = .ok (.iload_n 3, 1) := by decide +kernel
theorem dL_law_247 : decode cL_law 247 = .ok (.iconst 2, 1) := by decide +kernel
theorem dL_law_248 : decode cL_law 248 = .ok (.iadd, 1) := by decide +kernel
theorem dL_law_249 : decode cL_law 249 = .ok (.iaload, 1) := by decide +kernel
theorem dL_law_250 : decode cL_law 250 = .ok (.aload_n 0, 1) := by decide +kernel
theorem dL_law_251 : decode cL_law 251 = .ok (.iload_n 3, 1) := by decide +kernel
theorem dL_law_252 : decode cL_law 252 = .ok (.iconst 3, 1) := by decide +kernel
theorem dL_law_253 : decode cL_law 253 = .ok (.iadd, 1) := by decide +kernel
theorem dL_law_254 : decode cL_law 254 = .ok (.iaload, 1) := by decide +kernel
theorem dL_law_255 : decode cL_law 255 = .ok (.aload_n 0, 1) := by decide +kernel
theorem dL_law_256 : decode cL_law 256 = .ok (.iload_n 3, 1) := by decide +kernel
theorem dL_law_257 : decode cL_law 257 = .ok (.iconst 4, 1) := by decide +kernel
theorem dL_law_258 : decode cL_law 258 = .ok (.iadd, 1) := by decide +kernel
theorem dL_law_259 : decode cL_law 259 = .ok (.iaload, 1) := by decide +kernel
theorem dL_law_260 : decode cL_law 260 = .ok (.invokevirtual 22, 3) := by decide +kernel
theorem dL_law_263 : decode cL_law 263 = .ok (.if_icmp .eq 1012, 3) := by decide +kernel
theorem dL_law_266 : decode cL_law 266 = .ok (.iconst 0, 1) := by decide +kernel
theorem dL_law_267 : decode cL_law 267 = .ok (.ireturn, 1) := by decide +kernel
theorem dL_law_268 : decode cL_law 268 = .ok (.aload_n 1, 1) := by decide +kernel
theorem dL_law_269 : decode cL_law 269 = .ok (.aload_n 0, 1) := by decide +kernel
theorem dL_law_270 : decode cL_law 270 = .ok (.iload_n 3, 1) := by decide +kernel
theorem dL_law_271 : decode cL_law 271 = .ok (.iconst 1, 1) := by decide +kernel
theorem dL_law_272 : decode cL_law 272 = .ok (.iadd, 1) := by decide +kernel
theorem dL_law_273 : decode cL_law 273 = .ok (.iaload, 1) := by decide +kernel
theorem dL_law_274 : decode cL_law 274 = .ok (.aload_n 0, 1) := by decide +kernel
theorem dL_law_275 : decode cL_law 275 = .ok (.iload_n 3, 1) := by decide +kernel
theorem dL_law_276 : decode cL_law 276 = .ok (.iconst 2, 1) := by decide +kernel
theorem dL_law_277 : decode cL_law 277 = .ok (.iadd, 1) := by decide +kernel
theorem dL_law_278 : decode cL_law 278 = .ok (.iaload, 1) := by decide +kernel
theorem dL_law_279 : decode cL_law 279 = .ok (.invokevirtual 23, 3) := by decide +kernel
theorem dL_law_282 : decode cL_law 282 = .ok (.aload_n 2, 1) := by decide +kernel
theorem dL_law_283 : decode cL_law 283 = .ok (.aload_n 0, 1) := by decide +kernel
theorem dL_law_284 : decode cL_law 284 = .ok (.iload_n 3, 1) := by decide +kernel
theorem dL_law_285 : decode cL_law 285 = .ok (.iconst 1, 1) := by decide +kernel
theorem dL_law_286 : decode cL_law 286 = .ok (.iadd, 1) := by decide +kernel
theorem dL_law_287 : decode cL_law 287 = .ok (.iaload, 1) := by decide +kernel
theorem dL_law_288 : decode cL_law 288 = .ok (.aload_n 0, 1) := by decide +kernel
theorem dL_law_289 : decode cL_law 289 = .ok (.iload_n 3, 1) := by decide +kernel
theorem dL_law_290 : decode cL_law 290 = .ok (.iconst 2, 1) := by decide +kernel
theorem dL_law_291 : decode cL_law 291 = .ok (.iadd, 1) := by decide +kernel
theorem dL_law_292 : decode cL_law 292 = .ok (.iaload, 1) := by decide +kernel
theorem dL_law_293 : decode cL_law 293 = .ok (.invokevirtual 27, 3) := by decide +kernel
theorem dL_law_296 : decode cL_law 296 = .ok (.if_icmp .eq 979, 3) := by decide +kernel
theorem dL_law_299 : decode cL_law 299 = .ok (.iconst 0, 1) := by decide +kernel
theorem dL_law_300 : decode cL_law 300 = .ok (.ireturn, 1) := by decide +kernel
theorem dL_law_301 : decode cL_law 301 = .ok (.aload_n 1, 1) := by decide +kernel
theorem dL_law_302 : decode cL_law 302 = .ok (.aload_n 0, 1) := by decide +kernel
theorem dL_law_303 : decode cL_law 303 = .ok (.iload_n 3, 1) := by decide +kernel
theorem dL_law_304 : decode cL_law 304 = .ok (.iconst 1, 1) := by decide +kernel
theorem dL_law_305 : decode cL_law 305 = .ok (.iadd, 1) := by decide +kernel
theorem dL_law_306 : decode cL_law 306 = .ok (.iaload, 1) := by decide +kernel
theorem dL_law_307 : decode cL_law 307 = .ok (.aload_n 0, 1) := by decide +kernel
theorem dL_law_308 : decode cL_law 308 = .ok (.iload_n 3, 1) := by decide +kernel
theorem dL_law_309 : decode cL_law 309 = .ok (.iconst 2, 1) := by decide +kernel
theorem dL_law_310 : decode cL_law 310 = .ok (.iadd, 1) := by decide +kernel
theorem dL_law_311 : decode cL_law 311 = .ok (.iaload, 1) := by decide +kernel
end
section
theorem dL_law_312 : decode cL_law 312 = .ok (.aload_n 0, 1) := by decide +kernel
theorem dL_law_313 : decode cL_law 313 = .ok (.iload_n 3, 1) := by decide +kernel
theorem dL_law_314 : decode cL_law 314 = .ok (.iconst 3, 1) := by decide +kernel
theorem dL_law_315 : decode cL_law 315 = .ok (.iadd, 1) := by decide +kernel
theorem dL_law_316 : decode cL_law 316 = .ok (.iaload, 1) := by decide +kernel
theorem dL_law_317 : decode cL_law 317 = .ok (.aload_n 0, 1) := by decide +kernel
theorem dL_law_318 : decode cL_law 318 = .ok (.iload_n 3, 1) := by decide +kernel
theorem dL_law_319 : decode cL_law 319 = .ok (.iconst 4, 1) := by decide +kernel
theorem dL_law_320 : decode cL_law 320 = .ok (.iadd, 1) := by decide +kernel
theorem dL_law_321 : decode cL_law 321 = .ok (.iaload, 1) := by decide +kernel
theorem dL_law_322 : decode cL_law 322 = .ok (.invokevirtual 28, 3) := by decide +kernel
theorem dL_law_325 : decode cL_law 325 = .ok (.aload_n 2, 1) := by decide +kernel
theorem dL_law_326 : decode cL_law 326 = .ok (.aload_n 0, 1) := by decide +kernel
theorem dL_law_327 : decode cL_law 327 = .ok (.iload_n 3, 1) := by decide +kernel
theorem dL_law_328 : decode cL_law 328 = .ok (.iconst 1, 1) := by decide +kernel
theorem dL_law_329 : decode cL_law 329 = .ok (.iadd, 1) := by decide +kernel
theorem dL_law_330 : decode cL_law 330 = .ok (.iaload, 1) := by decide +kernel
theorem dL_law_331 : decode cL_law 331 = .ok (.aload_n 0, 1) := by decide +kernel
theorem dL_law_332 : decode cL_law 332 = .ok (.iload_n 3, 1) := by decide +kernel
theorem dL_law_333 : decode cL_law 333 = .ok (.iconst 2, 1) := by decide +kernel
theorem dL_law_334 : decode cL_law 334 = .ok (.iadd, 1) := by decide +kernel
theorem dL_law_335 : decode cL_law 335 = .ok (.iaload, 1) := by decide +kernel
theorem dL_law_336 : decode cL_law 336 = .ok (.aload_n 0, 1) := by decide +kernel
theorem dL_law_337 : decode cL_law 337 = .ok (.iload_n 3, 1) := by decide +kernel
theorem dL_law_338 : decode cL_law 338 = .ok (.iconst 3, 1) := by decide +kernel
theorem dL_law_339 : decode cL_law 339 = .ok (.iadd, 1) := by decide +kernel
theorem dL_law_340 : decode cL_law 340 = .ok (.iaload, 1) := by decide +kernel
theorem dL_law_341 : decode cL_law 341 = .ok (.aload_n 0, 1) := by decide +kernel
theorem dL_law_342 : decode cL_law 342 = .ok (.iload_n 3, 1) := by decide +kernel
theorem dL_law_343 : decode cL_law 343 = .ok (.iconst 4, 1) := by decide +kernel
theorem dL_law_344 : decode cL_law 344 = .ok (.iadd, 1) := by decide +kernel
theorem dL_law_345 : decode cL_law 345 = .ok (.iaload, 1) := by decide +kernel
theorem dL_law_346 : decode cL_law 346 = .ok (.invokevirtual 31, 3) := by decide +kernel
theorem dL_law_349 : decode cL_law 349 = .ok (.if_icmp .eq 926, 3) := by decide +kernel
theorem dL_law_352 : decode cL_law 352 = .ok (.iconst 0, 1) := by decide +kernel
theorem dL_law_353 : decode cL_law 353 = .ok (.ireturn, 1) := by decide +kernel
theorem dL_law_354 : decode cL_law 354 = .ok (.aload_n 1, 1) := by decide +kernel
theorem dL_law_355 : decode cL_law 355 = .ok (.aload_n 0, 1) := by decide +kernel
theorem dL_law_356 : decode cL_law 356 = .ok (.iload_n 3, 1) := by decide +kernel
theorem dL_law_357 : decode cL_law 357 = .ok (.iconst 1, 1) := by decide +kernel
theorem dL_law_358 : decode cL_law 358 = .ok (.iadd, 1) := by decide +kernel
theorem dL_law_359 : decode cL_law 359 = .ok (.iaload, 1) := by decide +kernel
theorem dL_law_360 : decode cL_law 360 = .ok (.aload_n 0, 1) := by decide +kernel
theorem dL_law_361 : decode cL_law 361 = .ok (.iload_n 3, 1) := by decide +kernel
theorem dL_law_362 : decode cL_law 362 = .ok (.iconst 2, 1) := by decide +kernel
theorem dL_law_363 : decode cL_law 363 = .ok (.iadd, 1) := by decide +kernel
theorem dL_law_364 : decode cL_law 364 = .ok (.iaload, 1) := by decide +kernel
theorem dL_law_365 : decode cL_law 365 = .ok (.aload_n 0, 1) := by decide +kernel
theorem dL_law_366 : decode cL_law 366 = .ok (.iload_n 3, 1) := by decide +kernel
theorem dL_law_367 : decode cL_law 367 = .ok (.iconst 3, 1) := by decide +kernel
theorem dL_law_368 : decode cL_law 368 = .ok (.iadd, 1) := by decide +kernel
theorem dL_law_369 : decode cL_law 369 = .ok (.iaload, 1) := by decide +kernel
theorem dL_law_370 : decode cL_law 370 = .ok (.invokevirtual 32, 3) := by decide +kernel
theorem dL_law_373 : decode cL_law 373 = .ok (.aload_n 2, 1) := by decide +kernel
theorem dL_law_374 : decode cL_law 374 = .ok (.aload_n 0, 1) := by decide +kernel
theorem dL_law_375 : decode cL_law 375 = .ok (.iload_n 3, 1) := by decide +kernel
theorem dL_law_376 : decode cL_law 376 = .ok (.iconst 1, 1) := by decide +kernel
theorem dL_law_377 : decode cL_law 377 = .ok (.iadd, 1) := by decide +kernel
theorem dL_law_378 : decode cL_law 378 = .ok (.iaload, 1) := by decide +kernel
theorem dL_law_379 : decode cL_law 379 = .ok (.aload_n 0, 1) := by decide +kernel
theorem dL_law_380 : decode cL_law 380 = .ok (.iload_n 3, 1) := by decide +kernel
theorem dL_law_381 : decode cL_law 381 = .ok (.iconst 2, 1) := by decide +kernel
theorem dL_law_382 : decode cL_law 382 = .ok (.iadd, 1) := by decide +kernel
theorem dL_law_383 : decode cL_law 383 = .ok (.iaload, 1) := by decide +kernel
theorem dL_law_384 : decode cL_law 384 = .ok (.aload_n 0, 1) := by decide +kernel
theorem dL_law_385 : decode cL_law 385 = .ok (.iload_n 3, 1) := by decide +kernel
theorem dL_law_386 : decode cL_law 386 = .ok (.iconst 3, 1) := by decide +kernel
theorem dL_law_387 : decode cL_law 387 = .ok (.iadd, 1) := by decide +kernel
theorem dL_law_388 : decode cL_law 388 = .ok (.iaload, 1) := by decide +kernel
theorem dL_law_389 : decode cL_law 389 = .ok (.invokevirtual 35, 3) := by decide +kernel
theorem dL_law_392 : decode cL_law 392 = .ok (.if_icmp .eq 883, 3) := by decide +kernel
theorem dL_law_395 : decode cL_law 395 = .ok (.iconst 0, 1) := by decide +kernel
theorem dL_law_396 : decode cL_law 396 = .ok (.ireturn, 1) := by decide +kernel
theorem dL_law_397 : decode cL_law 397 = .ok (.aload_n 1, 1) := by decide +kernel
theorem dL_law_398 : decode cL_law 398 = .ok (.aload_n 0, 1) := by decide +kernel
theorem dL_law_399 : decode cL_law 399 = .ok (.iload_n 3, 1) := by decide +kernel
theorem dL_law_400 : decode cL_law 400 = .ok (.iconst 1, 1) := by decide +kernel
theorem dL_law_401 : decode cL_law 401 = .ok (.iadd, 1) := by decide +kernel
theorem dL_law_402 : decode cL_law 402 = .ok (.iaload, 1) := by decide +kernel
theorem dL_law_403 : decode cL_law 403 = .ok (.aload_n 0, 1) := by decide +kernel
theorem dL_law_404 : decode cL_law 404 = .ok (.iload_n 3, 1) := by decide +kernel
theorem dL_law_405 : decode cL_law 405 = .ok (.iconst 2, 1) := by decide +kernel
theorem dL_law_406 : decode cL_law 406 = .ok (.iadd, 1) := by decide +kernel
theorem dL_law_407 : decode cL_law 407 = .ok (.iaload, 1) := by decide +kernel
theorem dL_law_408 : decode cL_law 408 = .ok (.aload_n 0, 1) := by decide +kernel
theorem dL_law_409 : decode cL_law 409 = .ok (.iload_n 3, 1) := by decide +kernel
theorem dL_law_410 : decode cL_law 410 = .ok (.iconst 3, 1) := by decide +kernel
theorem dL_law_411 : decode cL_law 411 = .ok (.iadd, 1) := by decide +kernel
theorem dL_law_412 : decode cL_law 412 = .ok (.iaload, 1) := by decide +kernel
theorem dL_law_413 : decode cL_law 413 = .ok (.invokevirtual 36, 3) := by decide +kernel
theorem dL_law_416 : decode cL_law 416 = .ok (.aload_n 2, 1) := by decide +kernel
theorem dL_law_417 : decode cL_law 417 = .ok (.aload_n 0, 1) := by decide +kernel
theorem dL_law_418 : decode cL_law 418 = .ok (.iload_n 3, 1) := by decide +kernel
theorem dL_law_419 : decode cL_law 419 = .ok (.iconst 1, 1) := by decide +kernel
theorem dL_law_420 : decode cL_law 420 = .ok (.iadd, 1) := by decide +kernel
theorem dL_law_421 : decode cL_law 421 = .ok (.iaload, 1) := by decide +kernel
theorem dL_law_422 : decode cL_law 422 = .ok (.aload_n 0, 1) := by decide +kernel
theorem dL_law_423 : decode cL_law 423 = .ok (.iload_n 3, 1) := by decide +kernel
theorem dL_law_424 : decode cL_law 424 = .ok (.iconst 2, 1) := by decide +kernel
theorem dL_law_425 : decode cL_law 425 = .ok (.iadd, 1) := by decide +kernel
theorem dL_law_426 : decode cL_law 426 = .ok (.iaload, 1) := by decide +kernel
theorem dL_law_427 : decode cL_law 427 = .ok (.aload_n 0, 1) := by decide +kernel
theorem dL_law_428 : decode cL_law 428 = .ok (.iload_n 3, 1) := by decide +kernel
theorem dL_law_429 : decode cL_law 429 = .ok (.iconst 3, 1) := by decide +kernel
theorem dL_law_430 : decode cL_law 430 = .ok (.iadd, 1) := by decide +kernel
theorem dL_law_431 : decode cL_law 431 = .ok (.iaload, 1) := by decide +kernel
theorem dL_law_432 : decode cL_law 432 = .ok (.invokevirtual 39, 3) := by decide +kernel
theorem dL_law_435 : decode cL_law 435 = .ok (.if_icmp .eq 840, 3) := by decide +kernel
theorem dL_law_438 : decode cL_law 438 = .ok (.iconst 0, 1) := by decide +kernel
theorem dL_law_439 : decode cL_law 439 = .ok (.ireturn, 1) := by decide +kernel
theorem dL_law_440 : decode cL_law 440 = .ok (.aload_n 1, 1) := by decide +kernel
theorem dL_law_441 : decode cL_law 441 = .ok (.aload_n 0, 1) := by decide +kernel
theorem dL_law_442 : decode cL_law 442 = .ok (.iload_n 3, 1) := by decide +kernel
theorem dL_law_443 : decode cL_law 443 = .ok (.iconst 1, 1) := by decide +kernel
theorem dL_law_444 : decode cL_law 444 = .ok (.iadd, 1) := by decide +kernel
theorem dL_law_445 : decode cL_law 445 = .ok (.iaload, 1) := by decide +kernel
theorem dL_law_446 : decode cL_law 446 = .ok (.invokevirtual 40, 3) := by decide +kernel
theorem dL_law_449 : decode cL_law 449 = .ok (.aload_n 2, 1) := by decide +kernel
theorem dL_law_450 : decode cL_law 450 = .ok (.aload_n 0, 1) := by decide +kernel
theorem dL_law_451 : decode cL_law 451 = .ok (.iload_n 3, 1) := by decide +kernel
theorem dL_law_452 : decode cL_law 452 = .ok (.iconst 1, 1) := by decide +kernel
theorem dL_law_453 : decode cL_law 453 = .ok (.iadd, 1) := by decide +kernel
theorem dL_law_454 : decode cL_law 454 = .ok (.iaload, 1) := by decide +kernel
theorem dL_law_455 : decode cL_law 455 = .ok (.invokevirtual 44, 3) := by decide +kernel
theorem dL_law_458 : decode cL_law 458 = .ok (.if_icmp .eq 817, 3) := by decide +kernel
theorem dL_law_461 : decode cL_law 461 = .ok (.iconst 0, 1) := by decide +kernel
theorem dL_law_462 : decode cL_law 462 = .ok (.ireturn, 1) := by decide +kernel
theorem dL_law_463 : decode cL_law 463 = .ok (.aload_n 1, 1) := by decide +kernel
theorem dL_law_464 : decode cL_law 464 = .ok (.aload_n 0, 1) := by decide +kernel
theorem dL_law_465 : decode cL_law 465 = .ok (.iload_n 3, 1) := by decide +kernel
theorem dL_law_466 : decode cL_law 466 = .ok (.iconst 1, 1) := by decide +kernel
theorem dL_law_467 : decode cL_law 467 = .ok (.iadd, 1) := by decide +kernel
theorem dL_law_468 : decode cL_law 468 = .ok (.iaload, 1) := by decide +kernel
theorem dL_law_469 : decode cL_law 469 = .ok (.aload_n 0, 1) := by decide +kernel
theorem dL_law_470 : decode cL_law 470 = .ok (.iload_n 3, 1) := by decide +kernel
theorem dL_law_471 : decode cL_law 471 = .ok (.iconst 2, 1) := by decide +kernel
theorem dL_law_472 : decode cL_law 472 = .ok (.iadd, 1) := by decide +kernel
theorem dL_law_473 : decode cL_law 473 = .ok (.iaload, 1) := by decide +kernel
theorem dL_law_474 : decode cL_law 474 = .ok (.aload_n 0, 1) := by decide +kernel
theorem dL_law_475 : decode cL_law 475 = .ok (.iload_n 3, 1) := by decide +kernel
theorem dL_law_476 : decode cL_law 476 = .ok (.iconst 3, 1) := by decide +kernel
theorem dL_law_477 : decode cL_law 477 = .ok (.iadd, 1) := by decide +kernel
theorem dL_law_478 : decode cL_law 478 = .ok (.iaload, 1) := by decide +kernel
theorem dL_law_479 : decode cL_law 479 = .ok (.invokevirtual 45, 3) := by decide +kernel
theorem dL_law_482 : decode cL_law 482 = .ok (.aload_n 2, 1) := by decide +kernel
theorem dL_law_483 : decode cL_law 483 = .ok (.aload_n 0, 1) := by decide +kernel
theorem dL_law_484 : decode cL_law 484 = .ok (.iload_n 3, 1) := by decide +kernel
theorem dL_law_485 : decode cL_law 485 = .ok (.iconst 1, 1) := by decide +kernel
theorem dL_law_486 : decode cL_law 486 = .ok (.iadd, 1) := by decide +kernel
theorem dL_law_487 : decode cL_law 487 = .ok (.iaload, 1) := by decide +kernel
theorem dL_law_488 : decode cL_law 488 = .ok (.aload_n 0, 1) := by decide +kernel
theorem dL_law_489 : decode cL_law 489 = .ok (.iload_n 3, 1) := by decide +kernel
theorem dL_law_490 : decode cL_law 490 = .ok (.iconst 2, 1) := by decide +kernel
theorem dL_law_491 : decode cL_law 491 = .ok (.iadd, 1) := by decide +kernel
theorem dL_law_492 : decode cL_law 492 = .ok (.iaload, 1) := by decide +kernel
theorem dL_law_493 : decode cL_law 493 = .ok (.aload_n 0, 1) := by decide +kernel
theorem dL_law_494 : decode cL_law 494 = .ok (.iload_n 3, 1) := by decide +kernel
theorem dL_law_495 : decode cL_law 495 = .ok (.iconst 3, 1) := by decide +kernel
theorem dL_law_496 : decode cL_law 496 = .ok (.iadd, 1) := by decide +kernel
theorem dL_law_497 : decode cL_law 497 = .ok (.iaload, 1) := by decide +kernel
theorem dL_law_498 : decode cL_law 498 = .ok (.invokevirtual 48, 3) := by decide +kernel
theorem dL_law_501 : decode cL_law 501 = .ok (.if_icmp .eq 774, 3) := by decide +kernel
theorem dL_law_504 : decode cL_law 504 = .ok (.iconst 0, 1) := by decide +kernel
theorem dL_law_505 : decode cL_law 505 = .ok (.ireturn, 1) := by decide +kernel
theorem dL_law_506 : decode cL_law 506 = .ok (.aload_n 1, 1) := by decide +kernel
theorem dL_law_507 : decode cL_law 507 = .ok (.aload_n 0, 1) := by decide +kernel
theorem dL_law_508 : decode cL_law 508 = .ok (.iload_n 3, 1) := by decide +kernel
theorem dL_law_509 : decode cL_law 509 = .ok (.iconst 1, 1) := by decide +kernel
theorem dL_law_510 : decode cL_law 510 = .ok (.iadd, 1) := by decide +kernel
theorem dL_law_511 : decode cL_law 511 = .ok (.iaload, 1) := by decide +kernel
theorem dL_law_512 : decode cL_law 512 = .ok (.aload_n 0, 1) := by decide +kernel
theorem dL_law_513 : decode cL_law 513 = .ok (.iload_n 3, 1) := by decide +kernel
theorem dL_law_514 : decode cL_law 514 = .ok (.iconst 2, 1) := by decide +kernel
theorem dL_law_515 : decode cL_law 515 = .ok (.iadd, 1) := by decide +kernel
theorem dL_law_516 : decode cL_law 516 = .ok (.iaload, 1) := by decide +kernel
theorem dL_law_517 : decode cL_law 517 = .ok (.invokevirtual 49, 3) := by decide +kernel
theorem dL_law_520 : decode cL_law 520 = .ok (.aload_n 2, 1) := by decide +kernel
theorem dL_law_521 : decode cL_law 521 = .ok (.aload_n 0, 1) := by decide +kernel
theorem dL_law_522 : decode cL_law 522 = .ok (.iload_n 3, 1) := by decide +kernel
theorem dL_law_523 : decode cL_law 523 = .ok (.iconst 1, 1) := by decide +kernel
theorem dL_law_524 : decode cL_law 524 = .ok (.iadd, 1) := by decide +kernel
theorem dL_law_525 : decode cL_law 525 = .ok (.iaload, 1) := by decide +kernel
theorem dL_law_526 : decode cL_law 526 = .ok (.aload_n 0, 1) := by decide +kernel
theorem dL_law_527 : decode cL_law 527 = .ok (.iload_n 3, 1) := by decide +kernel
theorem dL_law_528 : decode cL_law 528 = .ok (.iconst 2, 1) := by decide +kernel
theorem dL_law_529 : decode cL_law 529 = .ok (.iadd, 1) := by decide +kernel
theorem dL_law_530 : decode cL_law 530 = .ok (.iaload, 1) := by decide +kernel
theorem dL_law_531 : decode cL_law 531 = .ok (.invokevirtual 52, 3) := by decide +kernel
theorem dL_law_534 : decode cL_law 534 = .ok (.if_icmp .eq 741, 3) := by decide +kernel
theorem dL_law_537 : decode cL_law 537 = .ok (.iconst 0, 1) := by decide +kernel
theorem dL_law_538 : decode cL_law 538 = .ok (.ireturn, 1) := by decide +kernel
theorem dL_law_539 : decode cL_law 539 = .ok (.aload_n 1, 1) := by decide +kernel
theorem dL_law_540 : decode cL_law 540 = .ok (.aload_n 0, 1) := by decide +kernel
theorem dL_law_541 : decode cL_law 541 = .ok (.iload_n 3, 1) := by decide +kernel
theorem dL_law_542 : decode cL_law 542 = .ok (.iconst 1, 1) := by decide +kernel
theorem dL_law_543 : decode cL_law 543 = .ok (.iadd, 1) := by decide +kernel
theorem dL_law_544 : decode cL_law 544 = .ok (.iaload, 1) := by decide +kernel
theorem dL_law_545 : decode cL_law 545 = .ok (.invokevirtual 53, 3) := by decide +kernel
theorem dL_law_548 : decode cL_law 548 = .ok (.aload_n 2, 1) := by decide +kernel
theorem dL_law_549 : decode cL_law 549 = .ok (.aload_n 0, 1) := by decide +kernel
theorem dL_law_550 : decode cL_law 550 = .ok (.iload_n 3, 1) := by decide +kernel
theorem dL_law_551 : decode cL_law 551 = .ok (.iconst 1, 1) := by decide +kernel
theorem dL_law_552 : decode cL_law 552 = .ok (.iadd, 1) := by decide +kernel
theorem dL_law_553 : decode cL_law 553 = .ok (.iaload, 1) := by decide +kernel
theorem dL_law_554 : decode cL_law 554 = .ok (.invokevirtual 56, 3) := by decide +kernel
theorem dL_law_557 : decode cL_law 557 = .ok (.if_icmp .eq 718, 3) := by decide +kernel
theorem dL_law_560 : decode cL_law 560 = .ok (.iconst 0, 1) := by decide +kernel
theorem dL_law_561 : decode cL_law 561 = .ok (.ireturn, 1) := by decide +kernel
theorem dL_law_562 : decode cL_law 562 = .ok (.aload_n 1, 1) := by decide +kernel
theorem dL_law_563 : decode cL_law 563 = .ok (.aload_n 0, 1) := by decide +kernel
theorem dL_law_564 : decode cL_law 564 = .ok (.iload_n 3, 1) := by decide +kernel
theorem dL_law_565 : decode cL_law 565 = .ok (.iconst 1, 1) := by decide +kernel
theorem dL_law_566 : decode cL_law 566 = .ok (.iadd, 1) := by decide +kernel
theorem dL_law_567 : decode cL_law 567 = .ok (.iaload, 1) := by decide +kernel
theorem dL_law_568 : decode cL_law 568 = .ok (.aload_n 0, 1) := by decide +kernel
theorem dL_law_569 : decode cL_law 569 = .ok (.iload_n 3, 1) := by decide +kernel
theorem dL_law_570 : decode cL_law 570 = .ok (.iconst 2, 1) := by decide +kernel
theorem dL_law_571 : decode cL_law 571 = .ok (.iadd, 1) := by decide +kernel
theorem dL_law_572 : decode cL_law 572 = .ok (.iaload, 1) := by decide +kernel
theorem dL_law_573 : decode cL_law 573 = .ok (.invokevirtual 57, 3) := by decide +kernel
theorem dL_law_576 : decode cL_law 576 = .ok (.aload_n 2, 1) := by decide +kernel
theorem dL_law_577 : decode cL_law 577 = .ok (.aload_n 0, 1) := by decide +kernel
theorem dL_law_578 : decode cL_law 578 = .ok (.iload_n 3, 1) := by decide +kernel
theorem dL_law_579 : decode cL_law 579 = .ok (.iconst 1, 1) := by decide +kernel
theorem dL_law_580 : decode cL_law 580 = .ok (.iadd, 1) := by decide +kernel
theorem dL_law_581 : decode cL_law 581 = .ok (.iaload, 1) := by decide +kernel
theorem dL_law_582 : decode cL_law 582 = .ok (.aload_n 0, 1) := by decide +kernel
theorem dL_law_583 : decode cL_law 583 = .ok (.iload_n 3, 1) := by decide +kernel
theorem dL_law_584 : decode cL_law 584 = .ok (.iconst 2, 1) := by decide +kernel
theorem dL_law_585 : decode cL_law 585 = .ok (.iadd, 1) := by decide +kernel
theorem dL_law_586 : decode cL_law 586 = .ok (.iaload, 1) := by decide +kernel
theorem dL_law_587 : decode cL_law 587 = .ok (.invokevirtual 60, 3) := by decide +kernel
theorem dL_law_590 : decode cL_law 590 = .ok (.if_icmp .eq 685, 3) := by decide +kernel
theorem dL_law_593 : decode cL_law 593 = .ok (.iconst 0, 1) := by decide +kernel
theorem dL_law_594 : decode cL_law 594 = .ok (.ireturn, 1) := by decide +kernel
theorem dL_law_595 : decode cL_law 595 = .ok (.aload_n 1, 1) := by decide +kernel
theorem dL_law_596 : decode cL_law 596 = .ok (.aload_n 0, 1) := by decide +kernel
theorem dL_law_597 : decode cL_law 597 = .ok (.iload_n 3, 1) := by decide +kernel
theorem dL_law_598 : decode cL_law 598 = .ok (.iconst 1, 1) := by decide +kernel
theorem dL_law_599 : decode cL_law 599 = .ok (.iadd, 1) := by decide +kernel
theorem dL_law_600 : decode cL_law 600 = .ok (.iaload, 1) := by decide +kernel
theorem dL_law_601 : decode cL_law 601 = .ok (.aload_n 0, 1) := by decide +kernel
theorem dL_law_602 : decode cL_law 602 = .ok (.iload_n 3, 1) := by decide +kernel
theorem dL_law_603 : decode cL_law 603 = .ok (.iconst 2, 1) := by decide +kernel
theorem dL_law_604 : decode cL_law 604 = .ok (.iadd, 1) := by decide +kernel
theorem dL_law_605 : decode cL_law 605 = .ok (.iaload, 1) := by decide +kernel
theorem dL_law_606 : decode cL_law 606 = .ok (.invokevirtual 61, 3) := by decide +kernel
theorem dL_law_609 : decode cL_law 609 = .ok (.aload_n 2, 1) := by decide +kernel
theorem dL_law_610 : decode cL_law 610 = .ok (.aload_n 0, 1) := by decide +kernel
theorem dL_law_611 : decode cL_law 611 = .ok (.iload_n 3, 1) := by decide +kernel
theorem dL_law_612 : decode cL_law 612 = .ok (.iconst 1, 1) := by decide +kernel
theorem dL_law_613 : decode cL_law 613 = .ok (.iadd, 1) := by decide +kernel
theorem dL_law_614 : decode cL_law 614 = .ok (.iaload, 1) := by decide +kernel
theorem dL_law_615 : decode cL_law 615 = .ok (.aload_n 0, 1) := by decide +kernel
theorem dL_law_616 : decode cL_law 616 = .ok (.iload_n 3, 1) := by decide +kernel
theorem dL_law_617 : decode cL_law 617 = .ok (.iconst 2, 1) := by decide +kernel
theorem dL_law_618 : decode cL_law 618 = .ok (.iadd, 1) := by decide +kernel
theorem dL_law_619 : decode cL_law 619 = .ok (.iaload, 1) := by decide +kernel
theorem dL_law_620 : decode cL_law 620 = .ok (.invokevirtual 64, 3) := by decide +kernel
theorem dL_law_623 : decode cL_law 623 = .ok (.if_icmp .eq 652, 3) := by decide +kernel
theorem dL_law_626 : decode cL_law 626 = .ok (.iconst 0, 1) := by decide +kernel
theorem dL_law_627 : decode cL_law 627 = .ok (.ireturn, 1) := by decide +kernel
theorem dL_law_628 : decode cL_law 628 = .ok (.aload_n 1, 1) := by decide +kernel
theorem dL_law_629 : decode cL_law 629 = .ok (.aload_n 0, 1) := by decide +kernel
theorem dL_law_630 : decode cL_law 630 = .ok (.iload_n 3, 1) := by decide +kernel
theorem dL_law_631 : decode cL_law 631 = .ok (.iconst 1, 1) := by decide +kernel
theorem dL_law_632 : decode cL_law 632 = .ok (.iadd, 1) := by decide +kernel
theorem dL_law_633 : decode cL_law 633 = .ok (.iaload, 1) := by decide +kernel
theorem dL_law_634 : decode cL_law 634 = .ok (.aload_n 0, 1) := by decide +kernel
theorem dL_law_635 : decode cL_law 635 = .ok (.iload_n 3, 1) := by decide +kernel
theorem dL_law_636 : decode cL_law 636 = .ok (.iconst 2, 1) := by decide +kernel
theorem dL_law_637 : decode cL_law 637 = .ok (.iadd, 1) := by decide +kernel
theorem dL_law_638 : decode cL_law 638 = .ok (.iaload, 1) := by decide +kernel
theorem dL_law_639 : decode cL_law 639 = .ok (.aload_n 0, 1) := by decide +kernel
theorem dL_law_640 : decode cL_law 640 = .ok (.iload_n 3, 1) := by decide +kernel
theorem dL_law_641 : decode cL_law 641 = .ok (.iconst 3, 1) := by decide +kernel
theorem dL_law_642 : decode cL_law 642 = .ok (.iadd, 1) := by decide +kernel
theorem dL_law_643 : decode cL_law 643 = .ok (.iaload, 1) := by decide +kernel
theorem dL_law_644 : decode cL_law 644 = .ok (.invokevirtual 65, 3) := by decide +kernel
theorem dL_law_647 : decode cL_law 647 = .ok (.aload_n 2, 1) := by decide +kernel
theorem dL_law_648 : decode cL_law 648 = .ok (.aload_n 0, 1) := by decide +kernel
theorem dL_law_649 : decode cL_law 649 = .ok (.iload_n 3, 1) := by decide +kernel
theorem dL_law_650 : decode cL_law 650 = .ok (.iconst 1, 1) := by decide +kernel
theorem dL_law_651 : decode cL_law 651 = .ok (.iadd, 1) := by decide +kernel
theorem dL_law_652 : decode cL_law 652 = .ok (.iaload, 1) := by decide +kernel
theorem dL_law_653 : decode cL_law 653 = .ok (.aload_n 0, 1) := by decide +kernel
theorem dL_law_654 : decode cL_law 654 = .ok (.iload_n 3, 1) := by decide +kernel
theorem dL_law_655 : decode cL_law 655 = .ok (.iconst 2, 1) := by decide +kernel
theorem dL_law_656 : decode cL_law 656 = .ok (.iadd, 1) := by decide +kernel
theorem dL_law_657 : decode cL_law 657 = .ok (.iaload, 1) := by decide +kernel
theorem dL_law_658 : decode cL_law 658 = .ok (.aload_n 0, 1) := by decide +kernel
theorem dL_law_659 : decode cL_law 659 = .ok (.iload_n 3, 1) := by decide +kernel
theorem dL_law_660 : decode cL_law 660 = .ok (.iconst 3, 1) := by decide +kernel
theorem dL_law_661 : decode cL_law 661 = .ok (.iadd, 1) := by decide +kernel
theorem dL_law_662 : decode cL_law 662 = .ok (.iaload, 1) := by decide +kernel
theorem dL_law_663 : decode cL_law 663 = .ok (.invokevirtual 68, 3) := by decide +kernel
theorem dL_law_666 : decode cL_law 666 = .ok (.if_icmp .eq 609, 3) := by decide +kernel
theorem dL_law_669 : decode cL_law 669 = .ok (.iconst 0, 1) := by decide +kernel
theorem dL_law_670 : decode cL_law 670 = .ok (.ireturn, 1) := by decide +kernel
theorem dL_law_671 : decode cL_law 671 = .ok (.aload_n 1, 1) := by decide +kernel
theorem dL_law_672 : decode cL_law 672 = .ok (.aload_n 0, 1) := by decide +kernel
theorem dL_law_673 : decode cL_law 673 = .ok (.iload_n 3, 1) := by decide +kernel
theorem dL_law_674 : decode cL_law 674 = .ok (.iconst 1, 1) := by decide +kernel
theorem dL_law_675 : decode cL_law 675 = .ok (.iadd, 1) := by decide +kernel
theorem dL_law_676 : decode cL_law 676 = .ok (.iaload, 1) := by decide +kernel
theorem dL_law_677 : decode cL_law 677 = .ok (.aload_n 0, 1) := by decide +kernel
theorem dL_law_678 : decode cL_law 678 = .ok (.iload_n 3, 1) := by decide +kernel
theorem dL_law_679 : decode cL_law 679 = .ok (.iconst 2, 1) := by decide +kernel
theorem dL_law_680 : decode cL_law 680 = .ok (.iadd, 1) := by decide +kernel
theorem dL_law_681 : decode cL_law 681 = .ok (.iaload, 1) := by decide +kernel
theorem dL_law_682 : decode cL_law 682 = .ok (.aload_n 0, 1) := by decide +kernel
theorem dL_law_683 : decode cL_law 683 = .ok (.iload_n 3, 1) := by decide +kernel
theorem dL_law_684 : decode cL_law 684 = .ok (.iconst 3, 1) := by decide +kernel
theorem dL_law_685 : decode cL_law 685 = .ok (.iadd, 1) := by decide +kernel
theorem dL_law_686 : decode cL_law 686 = .ok (.iaload, 1) := by decide +kernel
theorem dL_law_687 : decode cL_law 687 = .ok (.aload_n 0, 1) := by decide +kernel
theorem dL_law_688 : decode cL_law 688 = .ok (.iload_n 3, 1) := by decide +kernel
theorem dL_law_689 : decode cL_law 689 = .ok (.iconst 4, 1) := by decide +kernel
theorem dL_law_690 : decode cL_law 690 = .ok (.iadd, 1) := by decide +kernel
theorem dL_law_691 : decode cL_law 691 = .ok (.iaload, 1) := by decide +kernel
theorem dL_law_692 : decode cL_law 692 = .ok (.invokevirtual 69, 3) := by decide +kernel
theorem dL_law_695 : decode cL_law 695 = .ok (.aload_n 2, 1) := by decide +kernel
theorem dL_law_696 : decode cL_law 696 = .ok (.aload_n 0, 1) := by decide +kernel
theorem dL_law_697 : decode cL_law 697 = .ok (.iload_n 3, 1) := by decide +kernel
theorem dL_law_698 : decode cL_law 698 = .ok (.iconst 1, 1) := by decide +kernel
theorem dL_law_699 : decode cL_law 699 = .ok (.iadd, 1) := by decide +kernel
theorem dL_law_700 : decode cL_law 700 = .ok (.iaload, 1) := by decide +kernel
theorem dL_law_701 : decode cL_law 701 = .ok (.aload_n 0, 1) := by decide +kernel
theorem dL_law_702 : decode cL_law 702 = .ok (.iload_n 3, 1) := by decide +kernel
theorem dL_law_703 : decode cL_law 703 = .ok (.iconst 2, 1) := by decide +kernel
theorem dL_law_704 : decode cL_law 704 = .ok (.iadd, 1) := by decide +kernel
theorem dL_law_705 : decode cL_law 705 = .ok (.iaload, 1) := by decide +kernel
theorem dL_law_706 : decode cL_law 706 = .ok (.aload_n 0, 1) := by decide +kernel
theorem dL_law_707 : decode cL_law 707 = .ok (.iload_n 3, 1) := by decide +kernel
theorem dL_law_708 : decode cL_law 708 = .ok (.iconst 3, 1) := by decide +kernel
theorem dL_law_709 : decode cL_law 709 = .ok (.iadd, 1) := by decide +kernel
theorem dL_law_710 : decode cL_law 710 = .ok (.iaload, 1) := by decide +kernel
theorem dL_law_711 : decode cL_law 711 = .ok (.aload_n 0, 1) := by decide +kernel
theorem dL_law_712 : decode cL_law 712 = .ok (.iload_n 3, 1) := by decide +kernel
theorem dL_law_713 : decode cL_law 713 = .ok (.iconst 4, 1) := by decide +kernel
theorem dL_law_714 : decode cL_law 714 = .ok (.iadd, 1) := by decide +kernel
theorem dL_law_715 : decode cL_law 715 = .ok (.iaload, 1) := by decide +kernel
theorem dL_law_716 : decode cL_law 716 = .ok (.invokevirtual 72, 3) := by decide +kernel
theorem dL_law_719 : decode cL_law 719 = .ok (.if_icmp .eq 556, 3) := by decide +kernel
theorem dL_law_722 : decode cL_law 722 = .ok (.iconst 0, 1) := by decide +kernel
theorem dL_law_723 : decode cL_law 723 = .ok (.ireturn, 1) := by decide +kernel
theorem dL_law_724 : decode cL_law 724 = .ok (.aload_n 1, 1) := by decide +kernel
theorem dL_law_725 : decode cL_law 725 = .ok (.aload_n 0, 1) := by decide +kernel
theorem dL_law_726 : decode cL_law 726 = .ok (.iload_n 3, 1) := by decide +kernel
theorem dL_law_727 : decode cL_law 727 = .ok (.iconst 1, 1) := by decide +kernel
theorem dL_law_728 : decode cL_law 728 = .ok (.iadd, 1) := by decide +kernel
theorem dL_law_729 : decode cL_law 729 = .ok (.iaload, 1) := by decide +kernel
theorem dL_law_730 : decode cL_law 730 = .ok (.aload_n 0, 1) := by decide +kernel
theorem dL_law_731 : decode cL_law 731 = .ok (.iload_n 3, 1) := by decide +kernel
theorem dL_law_732 : decode cL_law 732 = .ok (.iconst 2, 1) := by decide +kernel
theorem dL_law_733 : decode cL_law 733 = .ok (.iadd, 1) := by decide +kernel
theorem dL_law_734 : decode cL_law 734 = .ok (.iaload, 1) := by decide +kernel
theorem dL_law_735 : decode cL_law 735 = .ok (.invokevirtual 73, 3) := by decide +kernel
theorem dL_law_738 : decode cL_law 738 = .ok (.aload_n 2, 1) := by decide +kernel
theorem dL_law_739 : decode cL_law 739 = .ok (.aload_n 0, 1) := by decide +kernel
theorem dL_law_740 : decode cL_law 740 = .ok (.iload_n 3, 1) := by decide +kernel
theorem dL_law_741 : decode cL_law 741 = .ok (.iconst 1, 1) := by decide +kernel
theorem dL_law_742 : decode cL_law 742 = .ok (.iadd, 1) := by decide +kernel
theorem dL_law_743 : decode cL_law 743 = .ok (.iaload, 1) := by decide +kernel
theorem dL_law_744 : decode cL_law 744 = .ok (.aload_n 0, 1) := by decide +kernel
theorem dL_law_745 : decode cL_law 745 = .ok (.iload_n 3, 1) := by decide +kernel
theorem dL_law_746 : decode cL_law 746 = .ok (.iconst 2, 1) := by decide +kernel
theorem dL_law_747 : decode cL_law 747 = .ok (.iadd, 1) := by decide +kernel
theorem dL_law_748 : decode cL_law 748 = .ok (.iaload, 1) := by decide +kernel
theorem dL_law_749 : decode cL_law 749 = .ok (.invokevirtual 76, 3) := by decide +kernel
theorem dL_law_752 : decode cL_law 752 = .ok (.if_icmp .eq 523, 3) := by decide +kernel
theorem dL_law_755 : decode cL_law 755 = .ok (.iconst 0, 1) := by decide +kernel
theorem dL_law_756 : decode cL_law 756 = .ok (.ireturn, 1) := by decide +kernel
theorem dL_law_757 : decode cL_law 757 = .ok (.aload_n 1, 1) := by decide +kernel
theorem dL_law_758 : decode cL_law 758 = .ok (.aload_n 0, 1) := by decide +kernel
theorem dL_law_759 : decode cL_law 759 = .ok (.iload_n 3, 1) := by decide +kernel
theorem dL_law_760 : decode cL_law 760 = .ok (.iconst 1, 1) := by decide +kernel
theorem dL_law_761 : decode cL_law 761 = .ok (.iadd, 1) := by decide +kernel
theorem dL_law_762 : decode cL_law 762 = .ok (.iaload, 1) := by decide +kernel
theorem dL_law_763 : decode cL_law 763 = .ok (.aload_n 0, 1) := by decide +kernel
theorem dL_law_764 : decode cL_law 764 = .ok (.iload_n 3, 1) := by decide +kernel
theorem dL_law_765 : decode cL_law 765 = .ok (.iconst 2, 1) := by decide +kernel
theorem dL_law_766 : decode cL_law 766 = .ok (.iadd, 1) := by decide +kernel
theorem dL_law_767 : decode cL_law 767 = .ok (.iaload, 1) := by decide +kernel
theorem dL_law_768 : decode cL_law 768 = .ok (.invokevirtual 77, 3) := by decide +kernel
theorem dL_law_771 : decode cL_law 771 = .ok (.aload_n 2, 1) := by decide +kernel
theorem dL_law_772 : decode cL_law 772 = .ok (.aload_n 0, 1) := by decide +kernel
theorem dL_law_773 : decode cL_law 773 = .ok (.iload_n 3, 1) := by decide +kernel
theorem dL_law_774 : decode cL_law 774 = .ok (.iconst 1, 1) := by decide +kernel
theorem dL_law_775 : decode cL_law 775 = .ok (.iadd, 1) := by decide +kernel
theorem dL_law_776 : decode cL_law 776 = .ok (.iaload, 1) := by decide +kernel
theorem dL_law_777 : decode cL_law 777 = .ok (.aload_n 0, 1) := by decide +kernel
theorem dL_law_778 : decode cL_law 778 = .ok (.iload_n 3, 1) := by decide +kernel
theorem dL_law_779 : decode cL_law 779 = .ok (.iconst 2, 1) := by decide +kernel
theorem dL_law_780 : decode cL_law 780 = .ok (.iadd, 1) := by decide +kernel
theorem dL_law_781 : decode cL_law 781 = .ok (.iaload, 1) := by decide +kernel
theorem dL_law_782 : decode cL_law 782 = .ok (.invokevirtual 80, 3) := by decide +kernel
theorem dL_law_785 : decode cL_law 785 = .ok (.if_icmp .eq 490, 3) := by decide +kernel
theorem dL_law_788 : decode cL_law 788 = .ok (.iconst 0, 1) := by decide +kernel
theorem dL_law_789 : decode cL_law 789 = .ok (.ireturn, 1) := by decide +kernel
theorem dL_law_790 : decode cL_law 790 = .ok (.aload_n 1, 1) := by decide +kernel
theorem dL_law_791 : decode cL_law 791 = .ok (.aload_n 0, 1) := by decide +kernel
theorem dL_law_792 : decode cL_law 792 = .ok (.iload_n 3, 1) := by decide +kernel
theorem dL_law_793 : decode cL_law 793 = .ok (.iconst 1, 1) := by decide +kernel
theorem dL_law_794 : decode cL_law 794 = .ok (.iadd, 1) := by decide +kernel
theorem dL_law_795 : decode cL_law 795 = .ok (.iaload, 1) := by decide +kernel
theorem dL_law_796 : decode cL_law 796 = .ok (.aload_n 0, 1) := by decide +kernel
theorem dL_law_797 : decode cL_law 797 = .ok (.iload_n 3, 1) := by decide +kernel
theorem dL_law_798 : decode cL_law 798 = .ok (.iconst 2, 1) := by decide +kernel
theorem dL_law_799 : decode cL_law 799 = .ok (.iadd, 1) := by decide +kernel
theorem dL_law_800 : decode cL_law 800 = .ok (.iaload, 1) := by decide +kernel
theorem dL_law_801 : decode cL_law 801 = .ok (.aload_n 0, 1) := by decide +kernel
theorem dL_law_802 : decode cL_law 802 = .ok (.iload_n 3, 1) := by decide +kernel
theorem dL_law_803 : decode cL_law 803 = .ok (.iconst 3, 1) := by decide +kernel
theorem dL_law_804 : decode cL_law 804 = .ok (.iadd, 1) := by decide +kernel
theorem dL_law_805 : decode cL_law 805 = .ok (.iaload, 1) := by decide +kernel
theorem dL_law_806 : decode cL_law 806 = .ok (.invokevirtual 81, 3) := by decide +kernel
theorem dL_law_809 : decode cL_law 809 = .ok (.aload_n 2, 1) := by decide +kernel
theorem dL_law_810 : decode cL_law 810 = .ok (.aload_n 0, 1) := by decide +kernel
theorem dL_law_811 : decode cL_law 811 = .ok (.iload_n 3, 1) := by decide +kernel
theorem dL_law_812 : decode cL_law 812 = .ok (.iconst 1, 1) := by decide +kernel
theorem dL_law_813 : decode cL_law 813 = .ok (.iadd, 1) := by decide +kernel
theorem dL_law_814 : decode cL_law 814 = .ok (.iaload, 1) := by decide +kernel
theorem dL_law_815 : decode cL_law 815 = .ok (.aload_n 0, 1) := by decide +kernel
theorem dL_law_816 : decode cL_law 816 = .ok (.iload_n 3, 1) := by decide +kernel
theorem dL_law_817 : decode cL_law 817 = .ok (.iconst 2, 1) := by decide +kernel
theorem dL_law_818 : decode cL_law 818 = .ok (.iadd, 1) := by decide +kernel
theorem dL_law_819 : decode cL_law 819 = .ok (.iaload, 1) := by decide +kernel
theorem dL_law_820 : decode cL_law 820 = .ok (.aload_n 0, 1) := by decide +kernel
theorem dL_law_821 : decode cL_law 821 = .ok (.iload_n 3, 1) := by decide +kernel
theorem dL_law_822 : decode cL_law 822 = .ok (.iconst 3, 1) := by decide +kernel
theorem dL_law_823 : decode cL_law 823 = .ok (.iadd, 1) := by decide +kernel
theorem dL_law_824 : decode cL_law 824 = .ok (.iaload, 1) := by decide +kernel
theorem dL_law_825 : decode cL_law 825 = .ok (.invokevirtual 84, 3) := by decide +kernel
theorem dL_law_828 : decode cL_law 828 = .ok (.if_icmp .eq 447, 3) := by decide +kernel
theorem dL_law_831 : decode cL_law 831 = .ok (.iconst 0, 1) := by decide +kernel
theorem dL_law_832 : decode cL_law 832 = .ok (.ireturn, 1) := by decide +kernel
theorem dL_law_833 : decode cL_law 833 = .ok (.aload_n 1, 1) := by decide +kernel
theorem dL_law_834 : decode cL_law 834 = .ok (.aload_n 0, 1) := by decide +kernel
theorem dL_law_835 : decode cL_law 835 = .ok (.iload_n 3, 1) := by decide +kernel
theorem dL_law_836 : decode cL_law 836 = .ok (.iconst 1, 1) := by decide +kernel
theorem dL_law_837 : decode cL_law 837 = .ok (.iadd, 1) := by decide +kernel
theorem dL_law_838 : decode cL_law 838 = .ok (.iaload, 1) := by decide +kernel
theorem dL_law_839 : decode cL_law 839 = .ok (.aload_n 0, 1) := by decide +kernel
theorem dL_law_840 : decode cL_law 840 = .ok (.iload_n 3, 1) := by decide +kernel
theorem dL_law_841 : decode cL_law 841 = .ok (.iconst 2, 1) := by decide +kernel
theorem dL_law_842 : decode cL_law 842 = .ok (.iadd, 1) := by decide +kernel
theorem dL_law_843 : decode cL_law 843 = .ok (.iaload, 1) := by decide +kernel
theorem dL_law_844 : decode cL_law 844 = .ok (.aload_n 0, 1) := by decide +kernel
theorem dL_law_845 : decode cL_law 845 = .ok (.iload_n 3, 1) := by decide +kernel
theorem dL_law_846 : decode cL_law 846 = .ok (.iconst 3, 1) := by decide +kernel
theorem dL_law_847 : decode cL_law 847 = .ok (.iadd, 1) := by decide +kernel
theorem dL_law_848 : decode cL_law 848 = .ok (.iaload, 1) := by decide +kernel
theorem dL_law_849 : decode cL_law 849 = .ok (.invokevirtual 85, 3) := by decide +kernel
theorem dL_law_852 : decode cL_law 852 = .ok (.aload_n 2, 1) := by decide +kernel
theorem dL_law_853 : decode cL_law 853 = .ok (.aload_n 0, 1) := by decide +kernel
theorem dL_law_854 : decode cL_law 854 = .ok (.iload_n 3, 1) := by decide +kernel
theorem dL_law_855 : decode cL_law 855 = .ok (.iconst 1, 1) := by decide +kernel
theorem dL_law_856 : decode cL_law 856 = .ok (.iadd, 1) := by decide +kernel
theorem dL_law_857 : decode cL_law 857 = .ok (.iaload, 1) := by decide +kernel
theorem dL_law_858 : decode cL_law 858 = .ok (.aload_n 0, 1) := by decide +kernel
theorem dL_law_859 : decode cL_law 859 = .ok (.iload_n 3, 1) := by decide +kernel
theorem dL_law_860 : decode cL_law 860 = .ok (.iconst 2, 1) := by decide +kernel
theorem dL_law_861 : decode cL_law 861 = .ok (.iadd, 1) := by decide +kernel
theorem dL_law_862 : decode cL_law 862 = .ok (.iaload, 1) := by decide +kernel
theorem dL_law_863 : decode cL_law 863 = .ok (.aload_n 0, 1) := by decide +kernel
theorem dL_law_864 : decode cL_law 864 = .ok (.iload_n 3, 1) := by decide +kernel
theorem dL_law_865 : decode cL_law 865 = .ok (.iconst 3, 1) := by decide +kernel
theorem dL_law_866 : decode cL_law 866 = .ok (.iadd, 1) := by decide +kernel
theorem dL_law_867 : decode cL_law 867 = .ok (.iaload, 1) := by decide +kernel
theorem dL_law_868 : decode cL_law 868 = .ok (.invokevirtual 88, 3) := by decide +kernel
theorem dL_law_871 : decode cL_law 871 = .ok (.if_icmp .eq 404, 3) := by decide +kernel
theorem dL_law_874 : decode cL_law 874 = .ok (.iconst 0, 1) := by decide +kernel
theorem dL_law_875 : decode cL_law 875 = .ok (.ireturn, 1) := by decide +kernel
theorem dL_law_876 : decode cL_law 876 = .ok (.aload_n 1, 1) := by decide +kernel
theorem dL_law_877 : decode cL_law 877 = .ok (.aload_n 0, 1) := by decide +kernel
theorem dL_law_878 : decode cL_law 878 = .ok (.iload_n 3, 1) := by decide +kernel
theorem dL_law_879 : decode cL_law 879 = .ok (.iconst 1, 1) := by decide +kernel
theorem dL_law_880 : decode cL_law 880 = .ok (.iadd, 1) := by decide +kernel
theorem dL_law_881 : decode cL_law 881 = .ok (.iaload, 1) := by decide +kernel
theorem dL_law_882 : decode cL_law 882 = .ok (.aload_n 0, 1) := by decide +kernel
theorem dL_law_883 : decode cL_law 883 = .ok (.iload_n 3, 1) := by decide +kernel
theorem dL_law_884 : decode cL_law 884 = .ok (.iconst 2, 1) := by decide +kernel
theorem dL_law_885 : decode cL_law 885 = .ok (.iadd, 1) := by decide +kernel
theorem dL_law_886 : decode cL_law 886 = .ok (.iaload, 1) := by decide +kernel
theorem dL_law_887 : decode cL_law 887 = .ok (.aload_n 0, 1) := by decide +kernel
theorem dL_law_888 : decode cL_law 888 = .ok (.iload_n 3, 1) := by decide +kernel
theorem dL_law_889 : decode cL_law 889 = .ok (.iconst 3, 1) := by decide +kernel
theorem dL_law_890 : decode cL_law 890 = .ok (.iadd, 1) := by decide +kernel
theorem dL_law_891 : decode cL_law 891 = .ok (.iaload, 1) := by decide +kernel
theorem dL_law_892 : decode cL_law 892 = .ok (.invokevirtual 89, 3) := by decide +kernel
theorem dL_law_895 : decode cL_law 895 = .ok (.aload_n 2, 1) := by decide +kernel
theorem dL_law_896 : decode cL_law 896 = .ok (.aload_n 0, 1) := by decide +kernel
theorem dL_law_897 : decode cL_law 897 = .ok (.iload_n 3, 1) := by decide +kernel
theorem dL_law_898 : decode cL_law 898 = .ok (.iconst 1, 1) := by decide +kernel
theorem dL_law_899 : decode cL_law 899 = .ok (.iadd, 1) := by decide +kernel
theorem dL_law_900 : decode cL_law 900 = .ok (.iaload, 1) := by decide +kernel
theorem dL_law_901 : decode cL_law 901 = .ok (.aload_n 0, 1) := by decide +kernel
theorem dL_law_902 : decode cL_law 902 = .ok (.iload_n 3, 1) := by decide +kernel
theorem dL_law_903 : decode cL_law 903 = .ok (.iconst 2, 1) := by decide +kernel
theorem dL_law_904 : decode cL_law 904 = .ok (.iadd, 1) := by decide +kernel
theorem dL_law_905 : decode cL_law 905 = .ok (.iaload, 1) := by decide +kernel
theorem dL_law_906 : decode cL_law 906 = .ok (.aload_n 0, 1) := by decide +kernel
theorem dL_law_907 : decode cL_law 907 = .ok (.iload_n 3, 1) := by decide +kernel
theorem dL_law_908 : decode cL_law 908 = .ok (.iconst 3, 1) := by decide +kernel
theorem dL_law_909 : decode cL_law 909 = .ok (.iadd, 1) := by decide +kernel
theorem dL_law_910 : decode cL_law 910 = .ok (.iaload, 1) := by decide +kernel
theorem dL_law_911 : decode cL_law 911 = .ok (.invokevirtual 92, 3) := by decide +kernel
theorem dL_law_914 : decode cL_law 914 = .ok (.if_icmp .eq 361, 3) := by decide +kernel
theorem dL_law_917 : decode cL_law 917 = .ok (.iconst 0, 1) := by decide +kernel
theorem dL_law_918 : decode cL_law 918 = .ok (.ireturn, 1) := by decide +kernel
theorem dL_law_919 : decode cL_law 919 = .ok (.aload_n 1, 1) := by decide +kernel
theorem dL_law_920 : decode cL_law 920 = .ok (.aload_n 0, 1) := by decide +kernel
theorem dL_law_921 : decode cL_law 921 = .ok (.iload_n 3, 1) := by decide +kernel
theorem dL_law_922 : decode cL_law 922 = .ok (.iconst 1, 1) := by decide +kernel
theorem dL_law_923 : decode cL_law 923 = .ok (.iadd, 1) := by decide +kernel
theorem dL_law_924 : decode cL_law 924 = .ok (.iaload, 1) := by decide +kernel
theorem dL_law_925 : decode cL_law 925 = .ok (.aload_n 0, 1) := by decide +kernel
theorem dL_law_926 : decode cL_law 926 = .ok (.iload_n 3, 1) := by decide +kernel
theorem dL_law_927 : decode cL_law 927 = .ok (.iconst 2, 1) := by decide +kernel
theorem dL_law_928 : decode cL_law 928 = .ok (.iadd, 1) := by decide +kernel
theorem dL_law_929 : decode cL_law 929 = .ok (.iaload, 1) := by decide +kernel
theorem dL_law_930 : decode cL_law 930 = .ok (.aload_n 0, 1) := by decide +kernel
theorem dL_law_931 : decode cL_law 931 = .ok (.iload_n 3, 1) := by decide +kernel
theorem dL_law_932 : decode cL_law 932 = .ok (.iconst 3, 1) := by decide +kernel
theorem dL_law_933 : decode cL_law 933 = .ok (.iadd, 1) := by decide +kernel
theorem dL_law_934 : decode cL_law 934 = .ok (.iaload, 1) := by decide +kernel
theorem dL_law_935 : decode cL_law 935 = .ok (.invokevirtual 93, 3) := by decide +kernel
theorem dL_law_938 : decode cL_law 938 = .ok (.aload_n 2, 1) := by decide +kernel
theorem dL_law_939 : decode cL_law 939 = .ok (.aload_n 0, 1) := by decide +kernel
theorem dL_law_940 : decode cL_law 940 = .ok (.iload_n 3, 1) := by decide +kernel
theorem dL_law_941 : decode cL_law 941 = .ok (.iconst 1, 1) := by decide +kernel
theorem dL_law_942 : decode cL_law 942 = .ok (.iadd, 1) := by decide +kernel
theorem dL_law_943 : decode cL_law 943 = .ok (.iaload, 1) := by decide +kernel
theorem dL_law_944 : decode cL_law 944 = .ok (.aload_n 0, 1) := by decide +kernel
theorem dL_law_945 : decode cL_law 945 = .ok (.iload_n 3, 1) := by decide +kernel
theorem dL_law_946 : decode cL_law 946 = .ok (.iconst 2, 1) := by decide +kernel
theorem dL_law_947 : decode cL_law 947 = .ok (.iadd, 1) := by decide +kernel
theorem dL_law_948 : decode cL_law 948 = .ok (.iaload, 1) := by decide +kernel
theorem dL_law_949 : decode cL_law 949 = .ok (.aload_n 0, 1) := by decide +kernel
theorem dL_law_950 : decode cL_law 950 = .ok (.iload_n 3, 1) := by decide +kernel
theorem dL_law_951 : decode cL_law 951 = .ok (.iconst 3, 1) := by decide +kernel
theorem dL_law_952 : decode cL_law 952 = .ok (.iadd, 1) := by decide +kernel
theorem dL_law_953 : decode cL_law 953 = .ok (.iaload, 1) := by decide +kernel
theorem dL_law_954 : decode cL_law 954 = .ok (.invokevirtual 96, 3) := by decide +kernel
theorem dL_law_957 : decode cL_law 957 = .ok (.if_icmp .eq 318, 3) := by decide +kernel
theorem dL_law_960 : decode cL_law 960 = .ok (.iconst 0, 1) := by decide +kernel
theorem dL_law_961 : decode cL_law 961 = .ok (.ireturn, 1) := by decide +kernel
theorem dL_law_962 : decode cL_law 962 = .ok (.aload_n 1, 1) := by decide +kernel
theorem dL_law_963 : decode cL_law 963 = .ok (.aload_n 0, 1) := by decide +kernel
theorem dL_law_964 : decode cL_law 964 = .ok (.iload_n 3, 1) := by decide +kernel
theorem dL_law_965 : decode cL_law 965 = .ok (.iconst 1, 1) := by decide +kernel
theorem dL_law_966 : decode cL_law 966 = .ok (.iadd, 1) := by decide +kernel
theorem dL_law_967 : decode cL_law 967 = .ok (.iaload, 1) := by decide +kernel
theorem dL_law_968 : decode cL_law 968 = .ok (.aload_n 0, 1) := by decide +kernel
theorem dL_law_969 : decode cL_law 969 = .ok (.iload_n 3, 1) := by decide +kernel
theorem dL_law_970 : decode cL_law 970 = .ok (.iconst 2, 1) := by decide +kernel
theorem dL_law_971 : decode cL_law 971 = .ok (.iadd, 1) := by decide +kernel
theorem dL_law_972 : decode cL_law 972 = .ok (.iaload, 1) := by decide +kernel
theorem dL_law_973 : decode cL_law 973 = .ok (.aload_n 0, 1) := by decide +kernel
theorem dL_law_974 : decode cL_law 974 = .ok (.iload_n 3, 1) := by decide +kernel
theorem dL_law_975 : decode cL_law 975 = .ok (.iconst 3, 1) := by decide +kernel
theorem dL_law_976 : decode cL_law 976 = .ok (.iadd, 1) := by decide +kernel
theorem dL_law_977 : decode cL_law 977 = .ok (.iaload, 1) := by decide +kernel
theorem dL_law_978 : decode cL_law 978 = .ok (.invokevirtual 97, 3) := by decide +kernel
theorem dL_law_981 : decode cL_law 981 = .ok (.aload_n 2, 1) := by decide +kernel
theorem dL_law_982 : decode cL_law 982 = .ok (.aload_n 0, 1) := by decide +kernel
theorem dL_law_983 : decode cL_law 983 = .ok (.iload_n 3, 1) := by decide +kernel
theorem dL_law_984 : decode cL_law 984 = .ok (.iconst 1, 1) := by decide +kernel
theorem dL_law_985 : decode cL_law 985 = .ok (.iadd, 1) := by decide +kernel
theorem dL_law_986 : decode cL_law 986 = .ok (.iaload, 1) := by decide +kernel
theorem dL_law_987 : decode cL_law 987 = .ok (.aload_n 0, 1) := by decide +kernel
theorem dL_law_988 : decode cL_law 988 = .ok (.iload_n 3, 1) := by decide +kernel
theorem dL_law_989 : decode cL_law 989 = .ok (.iconst 2, 1) := by decide +kernel
theorem dL_law_990 : decode cL_law 990 = .ok (.iadd, 1) := by decide +kernel
theorem dL_law_991 : decode cL_law 991 = .ok (.iaload, 1) := by decide +kernel
theorem dL_law_992 : decode cL_law 992 = .ok (.aload_n 0, 1) := by decide +kernel
theorem dL_law_993 : decode cL_law 993 = .ok (.iload_n 3, 1) := by decide +kernel
theorem dL_law_994 : decode cL_law 994 = .ok (.iconst 3, 1) := by decide +kernel
theorem dL_law_995 : decode cL_law 995 = .ok (.iadd, 1) := by decide +kernel
theorem dL_law_996 : decode cL_law 996 = .ok (.iaload, 1) := by decide +kernel
theorem dL_law_997 : decode cL_law 997 = .ok (.invokevirtual 100, 3) := by decide +kernel
theorem dL_law_1000 : decode cL_law 1000 = .ok (.if_icmp .eq 275, 3) := by decide +kernel
theorem dL_law_1003 : decode cL_law 1003 = .ok (.iconst 0, 1) := by decide +kernel
theorem dL_law_1004 : decode cL_law 1004 = .ok (.ireturn, 1) := by decide +kernel
theorem dL_law_1005 : decode cL_law 1005 = .ok (.aload_n 1, 1) := by decide +kernel
theorem dL_law_1006 : decode cL_law 1006 = .ok (.aload_n 0, 1) := by decide +kernel
theorem dL_law_1007 : decode cL_law 1007 = .ok (.iload_n 3, 1) := by decide +kernel
theorem dL_law_1008 : decode cL_law 1008 = .ok (.iconst 1, 1) := by decide +kernel
theorem dL_law_1009 : decode cL_law 1009 = .ok (.iadd, 1) := by decide +kernel
theorem dL_law_1010 : decode cL_law 1010 = .ok (.iaload, 1) := by decide +kernel
theorem dL_law_1011 : decode cL_law 1011 = .ok (.aload_n 0, 1) := by decide +kernel
theorem dL_law_1012 : decode cL_law 1012 = .ok (.iload_n 3, 1) := by decide +kernel
theorem dL_law_1013 : decode cL_law 1013 = .ok (.iconst 2, 1) := by decide +kernel
theorem dL_law_1014 : decode cL_law 1014 = .ok (.iadd, 1) := by decide +kernel
theorem dL_law_1015 : decode cL_law 1015 = .ok (.iaload, 1) := by decide +kernel
theorem dL_law_1016 : decode cL_law 1016 = .ok (.invokevirtual 101, 3) := by decide +kernel
theorem dL_law_1019 : decode cL_law 1019 = .ok (.aload_n 2, 1) := by decide +kernel
theorem dL_law_1020 : decode cL_law 1020 = .ok (.aload_n 0, 1) := by decide +kernel
theorem dL_law_1021 : decode cL_law 1021 = .ok (.iload_n 3, 1) := by decide +kernel
theorem dL_law_1022 : decode cL_law 1022 = .ok (.iconst 1, 1) := by decide +kernel
theorem dL_law_1023 : decode cL_law 1023 = .ok (.iadd, 1) := by decide +kernel
theorem dL_law_1024 : decode cL_law 1024 = .ok (.iaload, 1) := by decide +kernel
theorem dL_law_1025 : decode cL_law 1025 = .ok (.aload_n 0, 1) := by decide +kernel
theorem dL_law_1026 : decode cL_law 1026 = .ok (.iload_n 3, 1) := by decide +kernel
theorem dL_law_1027 : decode cL_law 1027 = .ok (.iconst 2, 1) := by decide +kernel
theorem dL_law_1028 : decode cL_law 1028 = .ok (.iadd, 1) := by decide +kernel
theorem dL_law_1029 : decode cL_law 1029 = .ok (.iaload, 1) := by decide +kernel
theorem dL_law_1030 : decode cL_law 1030 = .ok (.invokevirtual 104, 3) := by decide +kernel
theorem dL_law_1033 : decode cL_law 1033 = .ok (.if_icmp .eq 242, 3) := by decide +kernel
theorem dL_law_1036 : decode cL_law 1036 = .ok (.iconst 0, 1) := by decide +kernel
theorem dL_law_1037 : decode cL_law 1037 = .ok (.ireturn, 1) := by decide +kernel
theorem dL_law_1038 : decode cL_law 1038 = .ok (.aload_n 1, 1) := by decide +kernel
theorem dL_law_1039 : decode cL_law 1039 = .ok (.aload_n 0, 1) := by decide +kernel
theorem dL_law_1040 : decode cL_law 1040 = .ok (.iload_n 3, 1) := by decide +kernel
theorem dL_law_1041 : decode cL_law 1041 = .ok (.iconst 1, 1) := by decide +kernel
theorem dL_law_1042 : decode cL_law 1042 = .ok (.iadd, 1) := by decide +kernel
theorem dL_law_1043 : decode cL_law 1043 = .ok (.iaload, 1) := by decide +kernel
theorem dL_law_1044 : decode cL_law 1044 = .ok (.aload_n 0, 1) := by decide +kernel
theorem dL_law_1045 : decode cL_law 1045 = .ok (.iload_n 3, 1) := by decide +kernel
theorem dL_law_1046 : decode cL_law 1046 = .ok (.iconst 2, 1) := by decide +kernel
theorem dL_law_1047 : decode cL_law 1047 = .ok (.iadd, 1) := by decide +kernel
theorem dL_law_1048 : decode cL_law 1048 = .ok (.iaload, 1) := by decide +kernel
theorem dL_law_1049 : decode cL_law 1049 = .ok (.aload_n 0, 1) := by decide +kernel
theorem dL_law_1050 : decode cL_law 1050 = .ok (.iload_n 3, 1) := by decide +kernel
theorem dL_law_1051 : decode cL_law 1051 = .ok (.iconst 3, 1) := by decide +kernel
theorem dL_law_1052 : decode cL_law 1052 = .ok (.iadd, 1) := by decide +kernel
theorem dL_law_1053 : decode cL_law 1053 = .ok (.iaload, 1) := by decide +kernel
theorem dL_law_1054 : decode cL_law 1054 = .ok (.invokevirtual 105, 3) := by decide +kernel
theorem dL_law_1057 : decode cL_law 1057 = .ok (.aload_n 2, 1) := by decide +kernel
theorem dL_law_1058 : decode cL_law 1058 = .ok (.aload_n 0, 1) := by decide +kernel
theorem dL_law_1059 : decode cL_law 1059 = .ok (.iload_n 3, 1) := by decide +kernel
theorem dL_law_1060 : decode cL_law 1060 = .ok (.iconst 1, 1) := by decide +kernel
theorem dL_law_1061 : decode cL_law 1061 = .ok (.iadd, 1) := by decide +kernel
theorem dL_law_1062 : decode cL_law 1062 = .ok (.iaload, 1) := by decide +kernel
theorem dL_law_1063 : decode cL_law 1063 = .ok (.aload_n 0, 1) := by decide +kernel
theorem dL_law_1064 : decode cL_law 1064 = .ok (.iload_n 3, 1) := by decide +kernel
theorem dL_law_1065 : decode cL_law 1065 = .ok (.iconst 2, 1) := by decide +kernel
theorem dL_law_1066 : decode cL_law 1066 = .ok (.iadd, 1) := by decide +kernel
theorem dL_law_1067 : decode cL_law 1067 = .ok (.iaload, 1) := by decide +kernel
theorem dL_law_1068 : decode cL_law 1068 = .ok (.aload_n 0, 1) := by decide +kernel
theorem dL_law_1069 : decode cL_law 1069 = .ok (.iload_n 3, 1) := by decide +kernel
theorem dL_law_1070 : decode cL_law 1070 = .ok (.iconst 3, 1) := by decide +kernel
theorem dL_law_1071 : decode cL_law 1071 = .ok (.iadd, 1) := by decide +kernel
theorem dL_law_1072 : decode cL_law 1072 = .ok (.iaload, 1) := by decide +kernel
theorem dL_law_1073 : decode cL_law 1073 = .ok (.invokevirtual 108, 3) := by decide +kernel
theorem dL_law_1076 : decode cL_law 1076 = .ok (.if_icmp .eq 199, 3) := by decide +kernel
theorem dL_law_1079 : decode cL_law 1079 = .ok (.iconst 0, 1) := by decide +kernel
theorem dL_law_1080 : decode cL_law 1080 = .ok (.ireturn, 1) := by decide +kernel
theorem dL_law_1081 : decode cL_law 1081 = .ok (.aload_n 1, 1) := by decide +kernel
theorem dL_law_1082 : decode cL_law 1082 = .ok (.aload_n 0, 1) := by decide +kernel
theorem dL_law_1083 : decode cL_law 1083 = .ok (.iload_n 3, 1) := by decide +kernel
theorem dL_law_1084 : decode cL_law 1084 = .ok (.iconst 1, 1) := by decide +kernel
theorem dL_law_1085 : decode cL_law 1085 = .ok (.iadd, 1) := by decide +kernel
theorem dL_law_1086 : decode cL_law 1086 = .ok (.iaload, 1) := by decide +kernel
theorem dL_law_1087 : decode cL_law 1087 = .ok (.invokevirtual 109, 3) := by decide +kernel
theorem dL_law_1090 : decode cL_law 1090 = .ok (.aload_n 2, 1) := by decide +kernel
theorem dL_law_1091 : decode cL_law 1091 = .ok (.aload_n 0, 1) := by decide +kernel
theorem dL_law_1092 : decode cL_law 1092 = .ok (.iload_n 3, 1) := by decide +kernel
theorem dL_law_1093 : decode cL_law 1093 = .ok (.iconst 1, 1) := by decide +kernel
theorem dL_law_1094 : decode cL_law 1094 = .ok (.iadd, 1) := by decide +kernel
theorem dL_law_1095 : decode cL_law 1095 = .ok (.iaload, 1) := by decide +kernel
theorem dL_law_1096 : decode cL_law 1096 = .ok (.invokevirtual 112, 3) := by decide +kernel
theorem dL_law_1099 : decode cL_law 1099 = .ok (.if_icmp .eq 176, 3) := by decide +kernel
theorem dL_law_1102 : decode cL_law 1102 = .ok (.iconst 0, 1) := by decide +kernel
theorem dL_law_1103 : decode cL_law 1103 = .ok (.ireturn, 1) := by decide +kernel
theorem dL_law_1104 : decode cL_law 1104 = .ok (.aload_n 1, 1) := by decide +kernel
theorem dL_law_1105 : decode cL_law 1105 = .ok (.invokevirtual 113, 3) := by decide +kernel
theorem dL_law_1108 : decode cL_law 1108 = .ok (.aload_n 2, 1) := by decide +kernel
theorem dL_law_1109 : decode cL_law 1109 = .ok (.invokevirtual 117, 3) := by decide +kernel
theorem dL_law_1112 : decode cL_law 1112 = .ok (.if_icmp .eq 163, 3) := by decide +kernel
theorem dL_law_1115 : decode cL_law 1115 = .ok (.iconst 0, 1) := by decide +kernel
theorem dL_law_1116 : decode cL_law 1116 = .ok (.ireturn, 1) := by decide +kernel
theorem dL_law_1117 : decode cL_law 1117 = .ok (.aload_n 1, 1) := by decide +kernel
theorem dL_law_1118 : decode cL_law 1118 = .ok (.aload_n 0, 1) := by decide +kernel
theorem dL_law_1119 : decode cL_law 1119 = .ok (.iload_n 3, 1) := by decide +kernel
theorem dL_law_1120 : decode cL_law 1120 = .ok (.iconst 1, 1) := by decide +kernel
theorem dL_law_1121 : decode cL_law 1121 = .ok (.iadd, 1) := by decide +kernel
theorem dL_law_1122 : decode cL_law 1122 = .ok (.iaload, 1) := by decide +kernel
theorem dL_law_1123 : decode cL_law 1123 = .ok (.aload_n 0, 1) := by decide +kernel
theorem dL_law_1124 : decode cL_law 1124 = .ok (.iload_n 3, 1) := by decide +kernel
theorem dL_law_1125 : decode cL_law 1125 = .ok (.iconst 2, 1) := by decide +kernel
theorem dL_law_1126 : decode cL_law 1126 = .ok (.iadd, 1) := by decide +kernel
theorem dL_law_1127 : decode cL_law 1127 = .ok (.iaload, 1) := by decide +kernel
theorem dL_law_1128 : decode cL_law 1128 = .ok (.aload_n 0, 1) := by decide +kernel
theorem dL_law_1129 : decode cL_law 1129 = .ok (.iload_n 3, 1) := by decide +kernel
theorem dL_law_1130 : decode cL_law 1130 = .ok (.iconst 3, 1) := by decide +kernel
theorem dL_law_1131 : decode cL_law 1131 = .ok (.iadd, 1) := by decide +kernel
theorem dL_law_1132 : decode cL_law 1132 = .ok (.iaload, 1) := by decide +kernel
theorem dL_law_1133 : decode cL_law 1133 = .ok (.invokevirtual 118, 3) := by decide +kernel
theorem dL_law_1136 : decode cL_law 1136 = .ok (.aload_n 2, 1) := by decide +kernel
theorem dL_law_1137 : decode cL_law 1137 = .ok (.aload_n 0, 1) := by decide +kernel
theorem dL_law_1138 : decode cL_law 1138 = .ok (.iload_n 3, 1) := by decide +kernel
theorem dL_law_1139 : decode cL_law 1139 = .ok (.iconst 1, 1) := by decide +kernel
theorem dL_law_1140 : decode cL_law 1140 = .ok (.iadd, 1) := by decide +kernel
theorem dL_law_1141 : decode cL_law 1141 = .ok (.iaload, 1) := by decide +kernel
theorem dL_law_1142 : decode cL_law 1142 = .ok (.aload_n 0, 1) := by decide +kernel
theorem dL_law_1143 : decode cL_law 1143 = .ok (.iload_n 3, 1) := by decide +kernel
theorem dL_law_1144 : decode cL_law 1144 = .ok (.iconst 2, 1) := by decide +kernel
theorem dL_law_1145 : decode cL_law 1145 = .ok (.iadd, 1) := by decide +kernel
theorem dL_law_1146 : decode cL_law 1146 = .ok (.iaload, 1) := by decide +kernel
theorem dL_law_1147 : decode cL_law 1147 = .ok (.aload_n 0, 1) := by decide +kernel
theorem dL_law_1148 : decode cL_law 1148 = .ok (.iload_n 3, 1) := by decide +kernel
theorem dL_law_1149 : decode cL_law 1149 = .ok (.iconst 3, 1) := by decide +kernel
theorem dL_law_1150 : decode cL_law 1150 = .ok (.iadd, 1) := by decide +kernel
theorem dL_law_1151 : decode cL_law 1151 = .ok (.iaload, 1) := by decide +kernel
theorem dL_law_1152 : decode cL_law 1152 = .ok (.invokevirtual 121, 3) := by decide +kernel
theorem dL_law_1155 : decode cL_law 1155 = .ok (.if_icmp .eq 120, 3) := by decide +kernel
theorem dL_law_1158 : decode cL_law 1158 = .ok (.iconst 0, 1) := by decide +kernel
theorem dL_law_1159 : decode cL_law 1159 = .ok (.ireturn, 1) := by decide +kernel
theorem dL_law_1160 : decode cL_law 1160 = .ok (.aload_n 1, 1) := by decide +kernel
theorem dL_law_1161 : decode cL_law 1161 = .ok (.aload_n 0, 1) := by decide +kernel
theorem dL_law_1162 : decode cL_law 1162 = .ok (.iload_n 3, 1) := by decide +kernel
theorem dL_law_1163 : decode cL_law 1163 = .ok (.iconst 1, 1) := by decide +kernel
theorem dL_law_1164 : decode cL_law 1164 = .ok (.iadd, 1) := by decide +kernel
theorem dL_law_1165 : decode cL_law 1165 = .ok (.iaload, 1) := by decide +kernel
theorem dL_law_1166 : decode cL_law 1166 = .ok (.invokevirtual 122, 3) := by decide +kernel
theorem dL_law_1169 : decode cL_law 1169 = .ok (.aload_n 2, 1) := by decide +kernel
theorem dL_law_1170 : decode cL_law 1170 = .ok (.aload_n 0, 1) := by decide +kernel
theorem dL_law_1171 : decode cL_law 1171 = .ok (.iload_n 3, 1) := by decide +kernel
theorem dL_law_1172 : decode cL_law 1172 = .ok (.iconst 1, 1) := by decide +kernel
theorem dL_law_1173 : decode cL_law 1173 = .ok (.iadd, 1) := by decide +kernel
theorem dL_law_1174 : decode cL_law 1174 = .ok (.iaload, 1) := by decide +kernel
theorem dL_law_1175 : decode cL_law 1175 = .ok (.invokevirtual 125, 3) := by decide +kernel
theorem dL_law_1178 : decode cL_law 1178 = .ok (.if_icmp .eq 97, 3) := by decide +kernel
theorem dL_law_1181 : decode cL_law 1181 = .ok (.iconst 0, 1) := by decide +kernel
theorem dL_law_1182 : decode cL_law 1182 = .ok (.ireturn, 1) := by decide +kernel
theorem dL_law_1183 : decode cL_law 1183 = .ok (.aload_n 1, 1) := by decide +kernel
theorem dL_law_1184 : decode cL_law 1184 = .ok (.invokevirtual 126, 3) := by decide +kernel
theorem dL_law_1187 : decode cL_law 1187 = .ok (.aload_n 2, 1) := by decide +kernel
theorem dL_law_1188 : decode cL_law 1188 = .ok (.invokevirtual 129, 3) := by decide +kernel
theorem dL_law_1191 : decode cL_law 1191 = .ok (.if_icmp .eq 84, 3) := by decide +kernel
theorem dL_law_1194 : decode cL_law 1194 = .ok (.iconst 0, 1) := by decide +kernel
theorem dL_law_1195 : decode cL_law 1195 = .ok (.ireturn, 1) := by decide +kernel
theorem dL_law_1196 : decode cL_law 1196 = .ok (.aload_n 1, 1) := by decide +kernel
theorem dL_law_1197 : decode cL_law 1197 = .ok (.invokevirtual 130, 3) := by decide +kernel
theorem dL_law_1200 : decode cL_law 1200 = .ok (.aload_n 2, 1) := by decide +kernel
theorem dL_law_1201 : decode cL_law 1201 = .ok (.invokevirtual 133, 3) := by decide +kernel
theorem dL_law_1204 : decode cL_law 1204 = .ok (.if_icmp .eq 71, 3) := by decide +kernel
theorem dL_law_1207 : decode cL_law 1207 = .ok (.iconst 0, 1) := by decide +kernel
theorem dL_law_1208 : decode cL_law 1208 = .ok (.ireturn, 1) := by decide +kernel
theorem dL_law_1209 : decode cL_law 1209 = .ok (.aload_n 1, 1) := by decide +kernel
theorem dL_law_1210 : decode cL_law 1210 = .ok (.aload_n 0, 1) := by decide +kernel
theorem dL_law_1211 : decode cL_law 1211 = .ok (.iload_n 3, 1) := by decide +kernel
theorem dL_law_1212 : decode cL_law 1212 = .ok (.iconst 1, 1) := by decide +kernel
theorem dL_law_1213 : decode cL_law 1213 = .ok (.iadd, 1) := by decide +kernel
theorem dL_law_1214 : decode cL_law 1214 = .ok (.iaload, 1) := by decide +kernel
theorem dL_law_1215 : decode cL_law 1215 = .ok (.aload_n 0, 1) := by decide +kernel
theorem dL_law_1216 : decode cL_law 1216 = .ok (.iload_n 3, 1) := by decide +kernel
theorem dL_law_1217 : decode cL_law 1217 = .ok (.iconst 2, 1) := by decide +kernel
theorem dL_law_1218 : decode cL_law 1218 = .ok (.iadd, 1) := by decide +kernel
theorem dL_law_1219 : decode cL_law 1219 = .ok (.iaload, 1) := by decide +kernel
theorem dL_law_1220 : decode cL_law 1220 = .ok (.aload_n 0, 1) := by decide +kernel
theorem dL_law_1221 : decode cL_law 1221 = .ok (.iload_n 3, 1) := by decide +kernel
theorem dL_law_1222 : decode cL_law 1222 = .ok (.iconst 3, 1) := by decide +kernel
theorem dL_law_1223 : decode cL_law 1223 = .ok (.iadd, 1) := by decide +kernel
theorem dL_law_1224 : decode cL_law 1224 = .ok (.iaload, 1) := by decide +kernel
theorem dL_law_1225 : decode cL_law 1225 = .ok (.invokevirtual 134, 3) := by decide +kernel
theorem dL_law_1228 : decode cL_law 1228 = .ok (.aload_n 2, 1) := by decide +kernel
theorem dL_law_1229 : decode cL_law 1229 = .ok (.aload_n 0, 1) := by decide +kernel
theorem dL_law_1230 : decode cL_law 1230 = .ok (.iload_n 3, 1) := by decide +kernel
theorem dL_law_1231 : decode cL_law 1231 = .ok (.iconst 1, 1) := by decide +kernel
theorem dL_law_1232 : decode cL_law 1232 = .ok (.iadd, 1) := by decide +kernel
theorem dL_law_1233 : decode cL_law 1233 = .ok (.iaload, 1) := by decide +kernel
theorem dL_law_1234 : decode cL_law 1234 = .ok (.aload_n 0, 1) := by decide +kernel
theorem dL_law_1235 : decode cL_law 1235 = .ok (.iload_n 3, 1) := by decide +kernel
theorem dL_law_1236 : decode cL_law 1236 = .ok (.iconst 2, 1) := by decide +kernel
theorem dL_law_1237 : decode cL_law 1237 = .ok (.iadd, 1) := by decide +kernel
theorem dL_law_1238 : decode cL_law 1238 = .ok (.iaload, 1) := by decide +kernel
theorem dL_law_1239 : decode cL_law 1239 = .ok (.aload_n 0, 1) := by decide +kernel
theorem dL_law_1240 : decode cL_law 1240 = .ok (.iload_n 3, 1) := by decide +kernel
theorem dL_law_1241 : decode cL_law 1241 = .ok (.iconst 3, 1) := by decide +kernel
theorem dL_law_1242 : decode cL_law 1242 = .ok (.iadd, 1) := by decide +kernel
theorem dL_law_1243 : decode cL_law 1243 = .ok (.iaload, 1) := by decide +kernel
theorem dL_law_1244 : decode cL_law 1244 = .ok (.invokevirtual 137, 3) := by decide +kernel
theorem dL_law_1247 : decode cL_law 1247 = .ok (.if_icmp .eq 28, 3) := by decide +kernel
theorem dL_law_1250 : decode cL_law 1250 = .ok (.iconst 0, 1) := by decide +kernel
theorem dL_law_1251 : decode cL_law 1251 = .ok (.ireturn, 1) := by decide +kernel
theorem dL_law_1252 : decode cL_law 1252 = .ok (.aload_n 1, 1) := by decide +kernel
theorem dL_law_1253 : decode cL_law 1253 = .ok (.aload_n 0, 1) := by decide +kernel
theorem dL_law_1254 : decode cL_law 1254 = .ok (.iload_n 3, 1) := by decide +kernel
theorem dL_law_1255 : decode cL_law 1255 = .ok (.iconst 1, 1) := by decide +kernel
theorem dL_law_1256 : decode cL_law 1256 = .ok (.iadd, 1) := by decide +kernel
theorem dL_law_1257 : decode cL_law 1257 = .ok (.iaload, 1) := by decide +kernel
theorem dL_law_1258 : decode cL_law 1258 = .ok (.invokevirtual 138, 3) := by decide +kernel
theorem dL_law_1261 : decode cL_law 1261 = .ok (.aload_n 2, 1) := by decide +kernel
theorem dL_law_1262 : decode cL_law 1262 = .ok (.aload_n 0, 1) := by decide +kernel
theorem dL_law_1263 : decode cL_law 1263 = .ok (.iload_n 3, 1) := by decide +kernel
theorem dL_law_1264 : decode cL_law 1264 = .ok (.iconst 1, 1) := by decide +kernel
theorem dL_law_1265 : decode cL_law 1265 = .ok (.iadd, 1) := by decide +kernel
theorem dL_law_1266 : decode cL_law 1266 = .ok (.iaload, 1) := by decide +kernel
theorem dL_law_1267 : decode cL_law 1267 = .ok (.invokevirtual 141, 3) := by decide +kernel
theorem dL_law_1270 : decode cL_law 1270 = .ok (.if_icmp .eq 5, 3) := by decide +kernel
theorem dL_law_1273 : decode cL_law 1273 = .ok (.iconst 0, 1) := by decide +kernel
theorem dL_law_1274 : decode cL_law 1274 = .ok (.ireturn, 1) := by decide +kernel
theorem dL_law_1275 : decode cL_law 1275 = .ok (.iinc 3 5, 3) := by decide +kernel
theorem dL_law_1278 : decode cL_law 1278 = .ok (.goto (-1260), 3) := by decide +kernel
theorem dL_law_1281 : decode cL_law 1281 = .ok (.iconst 1, 1) := by decide +kernel
theorem dL_law_1282 : decode cL_law 1282 = .ok (.ireturn, 1) := by decide +kernel
end
section
/-! A SMALL MACHINE OVER THE KIT's: values with addresses that the prover chooses ('virtual'), a heap as a function, a judgement pb_S with one row an instruction. -/
abbrev pb_M : Type := MethodName × ByteArray × Nat × Option FieldType
abbrev pb_C : Type := (Nat × Nat × (Nat → Int32)) ⊕ (Nat × Nat × (Nat → Option Nat)) ⊕ (Nat × List Value)
abbrev pb_H : Type := Nat → Option pb_C
/-- launch, first new address, class numbers, primitive array classes, reference array classes, first heap, the address of the one static row -/
abbrev pb_Z : Type := Launch × Nat × va_G × (Nat → ClassId) × (Nat → ClassId) × Heap × Nat
abbrev pb_zl (Z : pb_Z) : Launch := Z.1
abbrev pb_zb (Z : pb_Z) : Nat := Z.2.1
abbrev pb_zD (Z : pb_Z) : va_G := Z.2.2.1
abbrev pb_zp (Z : pb_Z) : Nat → ClassId := Z.2.2.2.1
abbrev pb_zr (Z : pb_Z) : Nat → ClassId := Z.2.2.2.2.1
abbrev pb_zh (Z : pb_Z) : Heap := Z.2.2.2.2.2.1
abbrev pb_zt (Z : pb_Z) : Nat := Z.2.2.2.2.2.2
def pb_up (ρ : Nat → Nat) : Value → Value
  | .ref a => .ref (ρ a)
  | v => v
def pb_ok (h : pb_H) : Value → Prop
  | .ref a => h a ≠ none
  | _ => True
def pb_oks (h : pb_H) : List Value → Prop
  | [] => True
  | v :: st => pb_ok h v ∧ pb_oks h st
def pb_set (h : pb_H) (a : Nat) (c : pb_C) : pb_H := fun b => if b = a then some c else h b
def pb_pk : Nat → FieldType
  | 1 => .boolean
  | _ => .int
def pb_cell (Z : pb_Z) (ρ : Nat → Nat) (c : pb_C) (q : Nat) (H : Heap) : Prop := match c with
  | .inl (k, n, f) => ∃ cell : Cell, H[q]? = some cell ∧ cell.cls = pb_zp Z k ∧ (∀ z, cell.vm ≠ .statics z) ∧ cell.vm ≠ .unknown ∧ (n ≤ cell.slots.size ∧ cell.slots.size.toInt32 = nI n) ∧ (∀ j, j < n → cell.slots[j]? = some (.int (f j))) ∧ (k < 2 → cell = arrV (pb_zp Z k) n (fun j => .int (f j)))
  | .inr (.inl (k, n, f)) => H[q]? = some (arrV (pb_zr Z k) n (fun j => va_rf ((f j).map ρ)))
  | .inr (.inr (ci, fs)) => ∃ r : vw_C, vwCl[ci]? = some r ∧ fs.length = r.2.2 ∧ t_OB q ((pb_zD Z).1 ci) r.2.2 ((pb_zD Z).2 ci) H (vp_V (fs.map (pb_up ρ)))
def pb_refs (h : pb_H) (c : pb_C) : Prop := match c with
  | .inl _ => True
  | .inr (.inl (_, _, f)) => ∀ j a, f j = some a → h a ≠ none
  | .inr (.inr (_, fs)) => pb_oks h fs
def pb_Rl (Z : pb_Z) (ρ : Nat → Nat) (h : pb_H) (H : Heap) : Prop :=
  (∀ a c, h a = some c → pb_cell Z ρ c (ρ a) H ∧ pb_refs h c) ∧ (∀ a b, h a ≠ none → h b ≠ none → ρ a = ρ b → a = b) ∧ (∀ a, 2 ≤ a → h a ≠ none → pb_zb Z ≤ ρ a) ∧
  pb_zb Z ≤ H.size ∧ (∀ q, q < pb_zb Z → H[q]? = (pb_zh Z)[q]?) ∧ ρ 1 = pb_zt Z ∧ h 1 ≠ none
def pb_Ex (h0 : pb_H) (ρ0 : Nat → Nat) (h : pb_H) (ρ : Nat → Nat) : Prop := ∀ a, h0 a ≠ none → h a ≠ none ∧ ρ a = ρ0 a
def pb_ts (Z : pb_Z) : List (ClassId × FieldType) := [(pb_zp Z 0, .int), (pb_zp Z 1, .boolean), (pb_zr Z 0, .object "PaintBox$Tube"), (pb_zr Z 1, .object "PaintBox$Mixture"), (pb_zr Z 2, .object "PaintBox$Area"), (pb_zr Z 3, .object "PaintBox$Layer"), (pb_zr Z 4, .array .int)]
/-- words that no list of steady words carries -/
def pb_isN : Cond → Bool
  | .methodLinkNest .. => true
  | .fieldLinkNest .. => true
  | .declares _ => true
  | _ => false
def pb_nw : List Cond := lw_tbl.filter pb_isN
theorem pb_isN_on {w : Cond} (hw : pb_isN w = true) : w.onTables = true := by
  cases w <;> first | rfl | (simp [pb_isN] at hw; done)
theorem pb_isN_warm {w : Cond} (hw : pb_isN w = true) {s U : State} (hW : s.WarmedH U.vm) (h : va_Nw w s) : va_Nw w U := by
  cases w <;> first | (simp [pb_isN] at hw; done) | exact va_Nw.warmM hW h | exact va_Nw.warmF hW h | exact va_Nw.warmD hW h
def pb_AA (U : State) : Prop := (Cond.arrayOver (.array .int)).before #[] U = true
theorem pb_AA.moved {u U : State} (hvm : u.vm.Alike U.vm) (h : pb_AA u) : pb_AA U := by
  obtain ⟨comp, c, k, h1, h2, h3, h4, h5⟩ := arrayOverA_spec h
  obtain ⟨k', hk', he⟩ := hvm.2.2 _ _ h3
  have hi : (U.vm.classes.findIdx? fun (x : Class) => match x.kind with | .array component _ => component == comp | _ => false) = some c := by
    rw [hvm.findIdx?_eq _ (fun _ => rfl)]
    exact h2
  have hkind : k'.kind = .array comp (.array .int) := by rw [he]; exact h4
  have f1 : U.vm.findClass (FieldType.array .int).toString = some comp := by rw [hvm.findClass]; exact h1
  have f2 : U.vm.findClass ("[" ++ (FieldType.array .int).toString) = some c := by rw [hvm.findClass]; exact h5
  unfold pb_AA Cond.before Cond.holds
  simp only [Cond.value]
  rw [f1, Option.bind_some]
  refine (congrArg (fun o : Option Nat => (o.bind (fun c => (U.vm.classes[c]?).map fun (k : Class) => match k.kind with | .array _ ty => decide (ty = FieldType.array .int) && decide (U.vm.findClass ("[" ++ (FieldType.array .int).toString) = some c) | _ => false) == some true)) hi).trans ?_
  simp [hk', hkind, f2]
def pb_AO (U : State) : Prop := va_AO "PaintBox$Tube" U ∧ va_AO "PaintBox$Mixture" U ∧ va_AO "PaintBox$Area" U ∧ va_AO "PaintBox$Layer" U ∧ pb_AA U
theorem pb_AO.moved {u U : State} (hvm : u.vm.Alike U.vm) (h : pb_AO u) : pb_AO U := ⟨h.1.moved hvm, h.2.1.moved hvm, h.2.2.1.moved hvm, h.2.2.2.1.moved hvm, h.2.2.2.2.moved hvm⟩
def pb_K0 (Z : pb_Z) (U : State) : Prop := va_K (pb_zD Z) vwCl (pb_ts Z) U ∧ ArrOfT U (pb_zp Z 2) .int ∧ ArrOfT U (pb_zp Z 3) .int ∧ va_Z "PaintBoxModel" "THICKNESS" "[I" (.ref (pb_zt Z)) (fun q => pb_zb Z ≤ q) U (pb_zh Z) ∧ pb_AO U
theorem pb_K0.moved {Z : pb_Z} {u U : State} (hvm : u.vm.Alike U.vm) (h : pb_K0 Z u) : pb_K0 Z U := ⟨h.1.moved hvm, arrOfT_moved hvm h.2.1, arrOfT_moved hvm h.2.2.1, h.2.2.2.1.moved hvm, h.2.2.2.2.moved hvm⟩
def pb_K (Z : pb_Z) (U : State) : Prop := pb_K0 Z U ∧ ∀ w ∈ pb_nw, va_Nw w U
theorem pb_K.warm {Z : pb_Z} {s U : State} (hW : s.WarmedH U.vm) (h : pb_K Z s) : pb_K Z U := ⟨h.1.moved hW.alike, fun w hw => pb_isN_warm (List.mem_filter.mp hw).2 hW (h.2 w hw)⟩
theorem pb_K.same {Z : pb_Z} {u U : State} (hv : u.vm = U.vm) (h : pb_K Z u) : pb_K Z U := ⟨h.1.moved (by rw [hv]; exact Vm.Alike.refl _), fun w hw => va_Nw.same (pb_isN_on (List.mem_filter.mp hw).2) hv (h.2 w hw)⟩
/-- the words of the private methods of the abstract class, on the two that are made -/
def pb_xw : List Cond := [.selects RX5 yX9_addMember yX9_addMember, .selects RX5 yX9_spread yX9_spread, .selects RX5 yX9_sumUp yX9_sumUp, .selects RX1 yX9_addMember yX9_addMember, .selects RX1 yX9_spread yX9_spread, .selects RX1 yX9_sumUp yX9_sumUp]
def pb_tbl : List Cond := pb_xw ++ lw_tbl.filter goodWord
def pb_ws (y : pb_M) : List Cond := Cond.code y.1 y.2.1 y.2.2.1 y.2.2.2 :: pb_tbl
/-- the locals: what is known of them -/
def pb_lv (ρ : Nat → Nat) (ls : Array Slot) (n : Nat) (lv : List (Option Value)) : Prop := ls.size = n ∧ lv_wf ls ∧ ∀ (i : Nat) (v : Value), lv[i]? = some (some v) → ls[i]? = some (.val (pb_up ρ v))
def pb_Fx (Z : pb_Z) (y : pb_M) (p : Program) (s : State) (m : MethodId) (args : Array Value) (meth : Method) (c : Code) : Prop :=
  p.tables.exec = Jvm.exec ∧ c.code = y.2.1 ∧ meth.sig.returnType = y.2.2.2 ∧ c.maxLocals = y.2.2.1 ∧ s.vm.findClass y.1.cls = some m.cls ∧ (∀ w ∈ pb_tbl, w.before args s = true) ∧ pb_K Z s ∧ meth.locks = false ∧ meth.name = y.1.name
def pb_Rm (d mc ms : Nat) (R : Room) : Prop := d ≤ R.frames ∧ 40 * d ≤ R.locals ∧ R.cells = mc ∧ R.slots = ms
def pb_Dy (Z : pb_Z) (y : pb_M) (k n mc ms : Nat) (ρ0 : Nat → Nat) (h0 : pb_H) (lv : List (Option Value)) (st : List Value) (h : pb_H) (cells slots : Nat) (ρ : Nat → Nat) (H : Heap) (locs : List Loc) (ls : Array Slot) : Prop :=
  cells + k ≤ mc ∧ slots + n ≤ ms ∧ pb_lv ρ ls y.2.2.1 lv ∧ pb_Rl Z ρ h H ∧ pb_Ex h0 ρ0 h ρ ∧ pb_oks h st ∧ (∀ (i : Nat) (v : Value), lv[i]? = some (some v) → pb_ok h v) ∧ (∀ q ∈ locs, pb_zb Z ≤ q.base)
def pb_P (Z : pb_Z) (ρ0 : Nat → Nat) (h0 : pb_H) (av : List Value) : Array Value → State → Prop := fun a U => a = (av.map (pb_up ρ0)).toArray ∧ pb_Rl Z ρ0 h0 U.heap ∧ pb_oks h0 av ∧ pb_K Z U
def pb_Q (Z : pb_Z) (ρ0 : Nat → Nat) (h0 : pb_H) (post : Option Value → pb_H → Prop) : Array Value → State → Outcome → State → Prop := fun _ _ o t => ∃ (v : Option Value) (ρ : Nat → Nat) (h : pb_H), o = .returned (v.map (pb_up ρ)) ∧ pb_Rl Z ρ h t.heap ∧ pb_Ex h0 ρ0 h ρ ∧ pb_oks h v.toList ∧ post v h
/-- THE JUDGEMENT: method y, at pc, with these locals, this operand stack, this heap; at most d frames, k cells, n slots more; it returns, and 'post' holds of what it answers and of the heap then -/
def pb_S (Z : pb_Z) (y : pb_M) (d k n : Nat) (post : Option Value → pb_H → Prop) (pc : Nat) (lv : List (Option Value)) (st : List Value) (h : pb_H) : Prop :=
  ∀ (p : Program) (e : Env) (s : State) (m : MethodId) (args : Array Value) (below : List Frame) (meth : Method) (c : Code) (R : Room) (mc ms : Nat) (ρ0 : Nat → Nat) (h0 : pb_H), pb_Fx Z y p s m args meth c → pb_Rm d mc ms R →
    ∀ (cells slots : Nat) (ρ : Nat → Nat) (H : Heap) (locs : List Loc) (ls : Array Slot), pb_Dy Z y k n mc ms ρ0 h0 lv st h cells slots ρ H locs ls →
      W p (pb_zl Z) e R s m args below meth c H locs cells slots (MQ below (pb_Q Z ρ0 h0 post) args s mc ms (fun q => pb_zb Z ≤ q)) (F0 m pc ls (st.map (pb_up ρ)))
/-- A METHOD's CONTRACT -/
def pb_T (Z : pb_Z) (y : pb_M) (d k n : Nat) (av : List Value) (h0 : pb_H) (post : Option Value → pb_H → Prop) : Prop :=
  ∀ ρ0 : Nat → Nat, Met (pb_zl Z) y.1 (pb_ws y) { frames := d, cells := k, slots := n, locals := 40 * d } (pb_P Z ρ0 h0 av) (pb_Q Z ρ0 h0 post) k n (fun q => pb_zb Z ≤ q)
-- facts about heaps
theorem pb_set_self (h : pb_H) (a : Nat) (c : pb_C) : pb_set h a c a = some c := if_pos rfl
theorem pb_set_ne (h : pb_H) {a b : Nat} (c : pb_C) (hb : b ≠ a) : pb_set h a c b = h b := if_neg hb
theorem pb_set_dom {h : pb_H} {a : Nat} {c : pb_C} {b : Nat} (hb : h b ≠ none) : pb_set h a c b ≠ none := by
  unfold pb_set
  split
  · exact fun q => by cases q
  · exact hb
theorem pb_ok_mono {h h' : pb_H} (hd : ∀ b, h b ≠ none → h' b ≠ none) {v : Value} (hv : pb_ok h v) : pb_ok h' v := by
  cases v <;> first | exact trivial | exact hd _ hv
theorem pb_oks_mono {h h' : pb_H} (hd : ∀ b, h b ≠ none → h' b ≠ none) : ∀ {st : List Value}, pb_oks h st → pb_oks h' st
  | [], _ => trivial
  | _ :: _, hs => ⟨pb_ok_mono hd hs.1, pb_oks_mono hd hs.2⟩
theorem pb_refs_mono {h h' : pb_H} (hd : ∀ b, h b ≠ none → h' b ≠ none) {c : pb_C} (hc : pb_refs h c) : pb_refs h' c := by
  rcases c with c | c | c
  · exact trivial
  · exact fun j a hj => hd a (hc j a hj)
  · exact pb_oks_mono hd hc
theorem pb_up_ext {h : pb_H} {ρ ρ' : Nat → Nat} (he : ∀ b, h b ≠ none → ρ' b = ρ b) {v : Value} (hv : pb_ok h v) : pb_up ρ' v = pb_up ρ v := by
  cases v <;> first | rfl | exact congrArg Value.ref (he _ hv)
theorem pb_ups_ext {h : pb_H} {ρ ρ' : Nat → Nat} (he : ∀ b, h b ≠ none → ρ' b = ρ b) : ∀ {st : List Value}, pb_oks h st → st.map (pb_up ρ') = st.map (pb_up ρ)
  | [], _ => rfl
  | v :: st, hs => by rw [List.map_cons, List.map_cons, pb_up_ext he hs.1, pb_ups_ext he hs.2]
theorem pb_oks_app {h : pb_H} : ∀ {a b : List Value}, pb_oks h (a ++ b) → pb_oks h a ∧ pb_oks h b
  | [], _, hs => ⟨trivial, hs⟩
  | _ :: _, _, hs => ⟨⟨hs.1, (pb_oks_app hs.2).1⟩, (pb_oks_app hs.2).2⟩
theorem pb_oks_cat {h : pb_H} : ∀ {a b : List Value}, pb_oks h a → pb_oks h b → pb_oks h (a ++ b)
  | [], _, _, hb => hb
  | _ :: _, _, ha, hb => ⟨ha.1, pb_oks_cat ha.2 hb⟩
theorem pb_oks_mem {h : pb_H} : ∀ {a : List Value}, pb_oks h a → ∀ v ∈ a, pb_ok h v
  | [], _, v, hv => by cases hv
  | w :: a, hs, v, hv => (List.mem_cons.mp hv).elim (fun e => e ▸ hs.1) (fun q => pb_oks_mem hs.2 v q)
theorem pb_oks_of {h : pb_H} : ∀ {a : List Value}, (∀ v ∈ a, pb_ok h v) → pb_oks h a
  | [], _ => trivial
  | w :: _, hs => ⟨hs w List.mem_cons_self, pb_oks_of (fun v hv => hs v (List.mem_cons_of_mem _ hv))⟩
theorem pb_oks_rev {h : pb_H} {a : List Value} (hs : pb_oks h a.reverse) : pb_oks h a := pb_oks_of (fun v hv => pb_oks_mem hs v (List.mem_reverse.mpr hv))
theorem pb_cell_mono {Z : pb_Z} {ρ ρ' : Nat → Nat} {h : pb_H} {c : pb_C} {q : Nat} {H H' : Heap} (hc : pb_cell Z ρ c q H) (hr : pb_refs h c) (he : ∀ b, h b ≠ none → ρ' b = ρ b) (hq : H'[q]? = H[q]?) : pb_cell Z ρ' c q H' := by
  rcases c with ⟨k, n, f⟩ | ⟨k, n, f⟩ | ⟨ci, fs⟩
  · obtain ⟨cell, h1, h2⟩ := hc
    exact ⟨cell, by rw [hq]; exact h1, h2⟩
  · show H'[q]? = _
    rw [hq, hc]
    refine congrArg some (congrArg (arrV _ n) (funext fun j => ?_))
    cases hj : f j with
    | none => rfl
    | some a => exact congrArg Value.ref (he a (hr j a hj)).symm
  · obtain ⟨r, h1, h2, h3⟩ := hc
    refine ⟨r, h1, h2, ?_⟩
    rw [pb_ups_ext he hr]
    exact h3.kept hq
theorem pb_cell_lt {Z : pb_Z} {ρ : Nat → Nat} {c : pb_C} {q : Nat} {H : Heap} (hc : pb_cell Z ρ c q H) : q < H.size := by
  rcases c with ⟨k, n, f⟩ | ⟨k, n, f⟩ | ⟨ci, fs⟩
  · obtain ⟨cell, h1, h2⟩ := hc
    exact (Array.getElem?_eq_some_iff.mp h1).1
  · exact (Array.getElem?_eq_some_iff.mp hc).1
  · obtain ⟨r, h1, h2, cell, h3, -⟩ := hc
    exact (Array.getElem?_eq_some_iff.mp h3).1
theorem pb_Rl.at {Z : pb_Z} {ρ : Nat → Nat} {h : pb_H} {H : Heap} (hr : pb_Rl Z ρ h H) {a : Nat} {c : pb_C} (ha : h a = some c) : pb_cell Z ρ c (ρ a) H := (hr.1 a c ha).1
/-- a cell is written -/
theorem pb_Rl.set {Z : pb_Z} {ρ : Nat → Nat} {h : pb_H} {H H' : Heap} (hr : pb_Rl Z ρ h H) {a : Nat} {c0 c : pb_C} (ha : h a = some c0) (h2 : 2 ≤ a) (hc : pb_cell Z ρ c (ρ a) H') (hrf : pb_refs h c) (hz : H'.size = H.size) (ho : ∀ q : Nat, q ≠ ρ a → H'[q]? = H[q]?) : pb_Rl Z ρ (pb_set h a c) H' := by
  have hna : h a ≠ none := by rw [ha]; exact fun q => by cases q
  have hdom : ∀ b, pb_set h a c b ≠ none → h b ≠ none := fun b hb => by
    by_cases e : b = a
    · rw [e]; exact hna
    · rw [pb_set_ne h c e] at hb; exact hb
  refine ⟨fun b cb hb => ?_, fun b b' hb hb' => hr.2.1 b b' (hdom b hb) (hdom b' hb'), fun b hb2 hb => hr.2.2.1 b hb2 (hdom b hb), by rw [hz]; exact hr.2.2.2.1, fun q hq => ?_, hr.2.2.2.2.2.1, pb_set_dom hr.2.2.2.2.2.2⟩
  · by_cases e : b = a
    · subst e
      rw [pb_set_self] at hb
      cases hb
      exact ⟨hc, pb_refs_mono (fun _ => pb_set_dom) hrf⟩
    · rw [pb_set_ne h c e] at hb
      have hnb : h b ≠ none := by rw [hb]; exact fun q => by cases q
      obtain ⟨g1, g2⟩ := hr.1 b cb hb
      exact ⟨pb_cell_mono g1 g2 (fun _ _ => rfl) (ho _ (fun q => e (hr.2.1 b a hnb hna q))), pb_refs_mono (fun _ => pb_set_dom) g2⟩
  · have hne : q ≠ ρ a := fun e => by
      have := hr.2.2.1 a h2 hna
      omega
    rw [ho q hne]
    exact hr.2.2.2.2.1 q hq
theorem pb_Ex.set {h0 : pb_H} {ρ0 : Nat → Nat} {h : pb_H} {ρ : Nat → Nat} (he : pb_Ex h0 ρ0 h ρ) (a : Nat) (c : pb_C) : pb_Ex h0 ρ0 (pb_set h a c) ρ := fun b hb => ⟨pb_set_dom (he b hb).1, (he b hb).2⟩
def pb_re (ρ : Nat → Nat) (a q : Nat) : Nat → Nat := fun b => if b = a then q else ρ b
/-- a cell is made -/
theorem pb_Rl.new {Z : pb_Z} {ρ : Nat → Nat} {h : pb_H} {H H' : Heap} (hr : pb_Rl Z ρ h H) {a : Nat} {c : pb_C} (ha : h a = none) (h2 : 2 ≤ a) (hc : pb_cell Z (pb_re ρ a H.size) c H.size H') (hrf : pb_refs h c) (hz : H.size ≤ H'.size) (ho : ∀ q : Nat, q < H.size → H'[q]? = H[q]?) : pb_Rl Z (pb_re ρ a H.size) (pb_set h a c) H' := by
  have hne : ∀ b, h b ≠ none → b ≠ a := fun b hb e => hb (by rw [e]; exact ha)
  have he : ∀ b, h b ≠ none → pb_re ρ a H.size b = ρ b := fun b hb => if_neg (hne b hb)
  have hlt : ∀ b, h b ≠ none → ρ b < H.size := fun b hb => by
    cases e : h b with
    | none => exact absurd e hb
    | some cb => exact pb_cell_lt (hr.1 b cb e).1
  have hself : pb_re ρ a H.size a = H.size := if_pos rfl
  have hdom : ∀ b, pb_set h a c b ≠ none → b ≠ a → h b ≠ none := fun b hb e => by rw [pb_set_ne h c e] at hb; exact hb
  refine ⟨fun b cb hb => ?_, fun b b' hb hb' hq => ?_, fun b hb2 hb => ?_, Nat.le_trans hr.2.2.2.1 hz, fun q hq => ?_, ?_, pb_set_dom hr.2.2.2.2.2.2⟩
  · by_cases e : b = a
    · subst e
      rw [pb_set_self] at hb
      cases hb
      rw [hself]
      exact ⟨hc, pb_refs_mono (fun _ => pb_set_dom) hrf⟩
    · rw [pb_set_ne h c e] at hb
      have hnb : h b ≠ none := by rw [hb]; exact fun q => by cases q
      obtain ⟨g1, g2⟩ := hr.1 b cb hb
      rw [he b hnb]
      exact ⟨pb_cell_mono g1 g2 he (ho _ (hlt b hnb)), pb_refs_mono (fun _ => pb_set_dom) g2⟩
  · by_cases e : b = a <;> by_cases e' : b' = a
    · rw [e, e']
    · rw [e, hself, he b' (hdom b' hb' e')] at hq
      have := hlt b' (hdom b' hb' e')
      omega
    · rw [e', hself, he b (hdom b hb e)] at hq
      have := hlt b (hdom b hb e)
      omega
    · rw [he b (hdom b hb e), he b' (hdom b' hb' e')] at hq
      exact hr.2.1 b b' (hdom b hb e) (hdom b' hb' e') hq
  · by_cases e : b = a
    · rw [e, hself]; exact hr.2.2.2.1
    · rw [he b (hdom b hb e)]; exact hr.2.2.1 b hb2 (hdom b hb e)
  · rw [ho q (Nat.lt_of_lt_of_le hq hr.2.2.2.1)]
    exact hr.2.2.2.2.1 q hq
  · show (if 1 = a then H.size else ρ 1) = _
    rw [if_neg (by omega)]
    exact hr.2.2.2.2.2.1
theorem pb_Ex.new {h0 : pb_H} {ρ0 : Nat → Nat} {h : pb_H} {ρ : Nat → Nat} (he : pb_Ex h0 ρ0 h ρ) {a : Nat} (c : pb_C) (q : Nat) (ha : h a = none) : pb_Ex h0 ρ0 (pb_set h a c) (pb_re ρ a q) := fun b hb => ⟨pb_set_dom (he b hb).1, by
  show (if b = a then q else ρ b) = _
  rw [if_neg (fun e => (he b hb).1 (by rw [e]; exact ha))]
  exact (he b hb).2⟩
theorem pb_lv.ext {ρ ρ' : Nat → Nat} {ls : Array Slot} {n : Nat} {lv : List (Option Value)} {h : pb_H} (hl : pb_lv ρ ls n lv) (ho : ∀ (i : Nat) (v : Value), lv[i]? = some (some v) → pb_ok h v) (he : ∀ b, h b ≠ none → ρ' b = ρ b) : pb_lv ρ' ls n lv := ⟨hl.1, hl.2.1, fun i v hi => by rw [pb_up_ext he (ho i v hi)]; exact hl.2.2 i v hi⟩
end
section
section PBI
variable {Z : pb_Z} {y : pb_M} {d k n : Nat} {post : Option Value → pb_H → Prop} {pc : Nat} {lv : List (Option Value)} {st : List Value} {h : pb_H}
theorem pb_Dy.stk {k n mc ms : Nat} {ρ0 : Nat → Nat} {h0 : pb_H} {st' : List Value} {cells slots : Nat} {ρ : Nat → Nat} {H : Heap} {locs : List Loc} {ls : Array Slot} (hD : pb_Dy Z y k n mc ms ρ0 h0 lv st h cells slots ρ H locs ls) (hs : pb_oks h st') : pb_Dy Z y k n mc ms ρ0 h0 lv st' h cells slots ρ H locs ls := ⟨hD.1, hD.2.1, hD.2.2.1, hD.2.2.2.1, hD.2.2.2.2.1, hs, hD.2.2.2.2.2.2.1, hD.2.2.2.2.2.2.2⟩
theorem pb_Dy.oks {k n mc ms : Nat} {ρ0 : Nat → Nat} {h0 : pb_H} {cells slots : Nat} {ρ : Nat → Nat} {H : Heap} {locs : List Loc} {ls : Array Slot} (hD : pb_Dy Z y k n mc ms ρ0 h0 lv st h cells slots ρ H locs ls) : pb_oks h st := hD.2.2.2.2.2.1
theorem pb_up_cat (ρ : Nat → Nat) (v : Value) : (pb_up ρ v).category = v.category := by cases v <;> rfl
theorem pb_iconst {c0 : Int} {x : Int32} (hd : decode y.2.1 pc = .ok (.iconst c0, 1)) (hv : Int32.ofInt c0 = x) {pc2 : Nat} (hp : pc + 1 = pc2) (kk : pb_S Z y d k n post pc2 lv (.int x :: st) h) : pb_S Z y d k n post pc lv (st) h := by
  subst hp
  intro p e s m args below meth c R mc ms ρ0 h0 hF hR cells slots ρ H locs ls hD
  exact lv_iconst hF.1 hF.2.1 hd hv (kk p e s m args below meth c R mc ms ρ0 h0 hF hR cells slots ρ H locs ls (hD.stk ⟨trivial, hD.oks⟩))
theorem pb_bipush {c0 : Int} {x : Int32} (hd : decode y.2.1 pc = .ok (.bipush c0, 2)) (hv : (Int8.ofInt c0).toInt32 = x) {pc2 : Nat} (hp : pc + 2 = pc2) (kk : pb_S Z y d k n post pc2 lv (.int x :: st) h) : pb_S Z y d k n post pc lv (st) h := by
  subst hp
  intro p e s m args below meth c R mc ms ρ0 h0 hF hR cells slots ρ H locs ls hD
  exact lv_bipush hF.1 hF.2.1 hd hv (kk p e s m args below meth c R mc ms ρ0 h0 hF hR cells slots ρ H locs ls (hD.stk ⟨trivial, hD.oks⟩))
theorem pb_sipush {c0 : Int} {x : Int32} (hd : decode y.2.1 pc = .ok (.sipush c0, 3)) (hv : (Int16.ofInt c0).toInt32 = x) {pc2 : Nat} (hp : pc + 3 = pc2) (kk : pb_S Z y d k n post pc2 lv (.int x :: st) h) : pb_S Z y d k n post pc lv (st) h := by
  subst hp
  intro p e s m args below meth c R mc ms ρ0 h0 hF hR cells slots ρ H locs ls hD
  exact lv_sipush hF.1 hF.2.1 hd hv (kk p e s m args below meth c R mc ms ρ0 h0 hF hR cells slots ρ H locs ls (hD.stk ⟨trivial, hD.oks⟩))
theorem pb_lconst {c0 : Fin 2} {x : Int64} (hd : decode y.2.1 pc = .ok (.lconst c0, 1)) (hv : Int64.ofNat (c0 : Nat) = x) {pc2 : Nat} (hp : pc + 1 = pc2) (kk : pb_S Z y d k n post pc2 lv (.long x :: st) h) : pb_S Z y d k n post pc lv (st) h := by
  subst hp
  intro p e s m args below meth c R mc ms ρ0 h0 hF hR cells slots ρ H locs ls hD
  exact lv_lconst hF.1 hF.2.1 hd hv (kk p e s m args below meth c R mc ms ρ0 h0 hF hR cells slots ρ H locs ls (hD.stk ⟨trivial, hD.oks⟩))
theorem pb_ldc2 {i0 : Nat} {x : Int64} (hd : decode y.2.1 pc = .ok (.ldc2_w i0, 3)) (hc : Cond.constantLong y.1.cls i0 x ∈ pb_tbl) {pc2 : Nat} (hp : pc + 3 = pc2) (kk : pb_S Z y d k n post pc2 lv (.long x :: st) h) : pb_S Z y d k n post pc lv (st) h := by
  subst hp
  intro p e s m args below meth c R mc ms ρ0 h0 hF hR cells slots ρ H locs ls hD
  exact lv_ldc2 hF.1 hF.2.1 hF.2.2.2.2.1 (hF.2.2.2.2.2.1 _ hc) hd (kk p e s m args below meth c R mc ms ρ0 h0 hF hR cells slots ρ H locs ls (hD.stk ⟨trivial, hD.oks⟩))
theorem pb_ldcw {i0 : Nat} {x : Int32} (hd : decode y.2.1 pc = .ok (.ldc_w i0, 3)) (hc : Cond.constant y.1.cls i0 x ∈ pb_tbl) {pc2 : Nat} (hp : pc + 3 = pc2) (kk : pb_S Z y d k n post pc2 lv (.int x :: st) h) : pb_S Z y d k n post pc lv (st) h := by
  subst hp
  intro p e s m args below meth c R mc ms ρ0 h0 hF hR cells slots ρ H locs ls hD
  exact lv_ldcw hF.1 hF.2.1 hF.2.2.2.2.1 (hF.2.2.2.2.2.1 _ hc) hd (kk p e s m args below meth c R mc ms ρ0 h0 hF hR cells slots ρ H locs ls (hD.stk ⟨trivial, hD.oks⟩))
theorem pb_anull  (hd : decode y.2.1 pc = .ok (.aconst_null, 1)) {pc2 : Nat} (hp : pc + 1 = pc2) (kk : pb_S Z y d k n post pc2 lv (.null :: st) h) : pb_S Z y d k n post pc lv (st) h := by
  subst hp
  intro p e s m args below meth c R mc ms ρ0 h0 hF hR cells slots ρ H locs ls hD
  exact lv_null hF.1 hF.2.1 hd (kk p e s m args below meth c R mc ms ρ0 h0 hF hR cells slots ρ H locs ls (hD.stk ⟨trivial, hD.oks⟩))
theorem pb_iload {i0 : Nat} {x : Int32} (hd : decode y.2.1 pc = .ok (.iload i0, 2)) (hl : lv[i0]? = some (some (.int x))) {pc2 : Nat} (hp : pc + 2 = pc2) (kk : pb_S Z y d k n post pc2 lv (.int x :: st) h) : pb_S Z y d k n post pc lv (st) h := by
  subst hp
  intro p e s m args below meth c R mc ms ρ0 h0 hF hR cells slots ρ H locs ls hD
  exact lv_iload hF.1 hF.2.1 hd (hD.2.2.1.2.2 _ _ hl) (kk p e s m args below meth c R mc ms ρ0 h0 hF hR cells slots ρ H locs ls (hD.stk ⟨trivial, hD.oks⟩))
theorem pb_iload_n {j0 : Fin 4} {i0 : Nat} {x : Int32} (hd : decode y.2.1 pc = .ok (.iload_n j0, 1)) (hj : (j0 : Nat) = i0) (hl : lv[i0]? = some (some (.int x))) {pc2 : Nat} (hp : pc + 1 = pc2) (kk : pb_S Z y d k n post pc2 lv (.int x :: st) h) : pb_S Z y d k n post pc lv (st) h := by
  subst hp
  intro p e s m args below meth c R mc ms ρ0 h0 hF hR cells slots ρ H locs ls hD
  exact lv_iload_n hF.1 hF.2.1 hd hj (hD.2.2.1.2.2 _ _ hl) (kk p e s m args below meth c R mc ms ρ0 h0 hF hR cells slots ρ H locs ls (hD.stk ⟨trivial, hD.oks⟩))
theorem pb_lload {i0 : Nat} {x : Int64} (hd : decode y.2.1 pc = .ok (.lload i0, 2)) (hl : lv[i0]? = some (some (.long x))) {pc2 : Nat} (hp : pc + 2 = pc2) (kk : pb_S Z y d k n post pc2 lv (.long x :: st) h) : pb_S Z y d k n post pc lv (st) h := by
  subst hp
  intro p e s m args below meth c R mc ms ρ0 h0 hF hR cells slots ρ H locs ls hD
  exact lv_lload hF.1 hF.2.1 hd (hD.2.2.1.2.2 _ _ hl) (kk p e s m args below meth c R mc ms ρ0 h0 hF hR cells slots ρ H locs ls (hD.stk ⟨trivial, hD.oks⟩))
theorem pb_lload_n {j0 : Fin 4} {i0 : Nat} {x : Int64} (hd : decode y.2.1 pc = .ok (.lload_n j0, 1)) (hj : (j0 : Nat) = i0) (hl : lv[i0]? = some (some (.long x))) {pc2 : Nat} (hp : pc + 1 = pc2) (kk : pb_S Z y d k n post pc2 lv (.long x :: st) h) : pb_S Z y d k n post pc lv (st) h := by
  subst hp
  intro p e s m args below meth c R mc ms ρ0 h0 hF hR cells slots ρ H locs ls hD
  exact lv_lload_n hF.1 hF.2.1 hd hj (hD.2.2.1.2.2 _ _ hl) (kk p e s m args below meth c R mc ms ρ0 h0 hF hR cells slots ρ H locs ls (hD.stk ⟨trivial, hD.oks⟩))
theorem pb_aload {i0 : Nat} {x : Nat} (hd : decode y.2.1 pc = .ok (.aload i0, 2)) (hl : lv[i0]? = some (some (.ref x))) {pc2 : Nat} (hp : pc + 2 = pc2) (kk : pb_S Z y d k n post pc2 lv (.ref x :: st) h) : pb_S Z y d k n post pc lv (st) h := by
  subst hp
  intro p e s m args below meth c R mc ms ρ0 h0 hF hR cells slots ρ H locs ls hD
  exact lv_aload hF.1 hF.2.1 hd (hD.2.2.1.2.2 _ _ hl) (kk p e s m args below meth c R mc ms ρ0 h0 hF hR cells slots ρ H locs ls (hD.stk ⟨hD.2.2.2.2.2.2.1 _ _ hl, hD.oks⟩))
theorem pb_aload_n {j0 : Fin 4} {i0 : Nat} {x : Nat} (hd : decode y.2.1 pc = .ok (.aload_n j0, 1)) (hj : (j0 : Nat) = i0) (hl : lv[i0]? = some (some (.ref x))) {pc2 : Nat} (hp : pc + 1 = pc2) (kk : pb_S Z y d k n post pc2 lv (.ref x :: st) h) : pb_S Z y d k n post pc lv (st) h := by
  subst hp
  intro p e s m args below meth c R mc ms ρ0 h0 hF hR cells slots ρ H locs ls hD
  exact lv_aload_n hF.1 hF.2.1 hd hj (hD.2.2.1.2.2 _ _ hl) (kk p e s m args below meth c R mc ms ρ0 h0 hF hR cells slots ρ H locs ls (hD.stk ⟨hD.2.2.2.2.2.2.1 _ _ hl, hD.oks⟩))
theorem pb_aloadN {i0 : Nat} (hd : decode y.2.1 pc = .ok (.aload i0, 2)) (hl : lv[i0]? = some (some .null)) {pc2 : Nat} (hp : pc + 2 = pc2) (kk : pb_S Z y d k n post pc2 lv (.null :: st) h) : pb_S Z y d k n post pc lv (st) h := by
  subst hp
  intro p e s m args below meth c R mc ms ρ0 h0 hF hR cells slots ρ H locs ls hD
  exact lv_aloadN hF.1 hF.2.1 hd (hD.2.2.1.2.2 _ _ hl) (kk p e s m args below meth c R mc ms ρ0 h0 hF hR cells slots ρ H locs ls (hD.stk ⟨trivial, hD.oks⟩))
theorem pb_aload_nN {j0 : Fin 4} {i0 : Nat} (hd : decode y.2.1 pc = .ok (.aload_n j0, 1)) (hj : (j0 : Nat) = i0) (hl : lv[i0]? = some (some .null)) {pc2 : Nat} (hp : pc + 1 = pc2) (kk : pb_S Z y d k n post pc2 lv (.null :: st) h) : pb_S Z y d k n post pc lv (st) h := by
  subst hp
  intro p e s m args below meth c R mc ms ρ0 h0 hF hR cells slots ρ H locs ls hD
  exact lv_aload_nN hF.1 hF.2.1 hd hj (hD.2.2.1.2.2 _ _ hl) (kk p e s m args below meth c R mc ms ρ0 h0 hF hR cells slots ρ H locs ls (hD.stk ⟨trivial, hD.oks⟩))
theorem pb_iadd {x x2 : Int32} (hd : decode y.2.1 pc = .ok (.iadd, 1)) {pc2 : Nat} (hp : pc + 1 = pc2) (kk : pb_S Z y d k n post pc2 lv (.int (x + x2) :: st) h) : pb_S Z y d k n post pc lv (.int x2 :: .int x :: st) h := by
  subst hp
  intro p e s m args below meth c R mc ms ρ0 h0 hF hR cells slots ρ H locs ls hD
  exact lv_iadd hF.1 hF.2.1 hd (kk p e s m args below meth c R mc ms ρ0 h0 hF hR cells slots ρ H locs ls (hD.stk ⟨trivial, hD.oks.2.2⟩))
theorem pb_isub {x x2 : Int32} (hd : decode y.2.1 pc = .ok (.isub, 1)) {pc2 : Nat} (hp : pc + 1 = pc2) (kk : pb_S Z y d k n post pc2 lv (.int (x - x2) :: st) h) : pb_S Z y d k n post pc lv (.int x2 :: .int x :: st) h := by
  subst hp
  intro p e s m args below meth c R mc ms ρ0 h0 hF hR cells slots ρ H locs ls hD
  exact lv_isub hF.1 hF.2.1 hd (kk p e s m args below meth c R mc ms ρ0 h0 hF hR cells slots ρ H locs ls (hD.stk ⟨trivial, hD.oks.2.2⟩))
theorem pb_imul {x x2 : Int32} (hd : decode y.2.1 pc = .ok (.imul, 1)) {pc2 : Nat} (hp : pc + 1 = pc2) (kk : pb_S Z y d k n post pc2 lv (.int (x * x2) :: st) h) : pb_S Z y d k n post pc lv (.int x2 :: .int x :: st) h := by
  subst hp
  intro p e s m args below meth c R mc ms ρ0 h0 hF hR cells slots ρ H locs ls hD
  exact lv_imul hF.1 hF.2.1 hd (kk p e s m args below meth c R mc ms ρ0 h0 hF hR cells slots ρ H locs ls (hD.stk ⟨trivial, hD.oks.2.2⟩))
theorem pb_iand {x x2 : Int32} (hd : decode y.2.1 pc = .ok (.iand, 1)) {pc2 : Nat} (hp : pc + 1 = pc2) (kk : pb_S Z y d k n post pc2 lv (.int (x &&& x2) :: st) h) : pb_S Z y d k n post pc lv (.int x2 :: .int x :: st) h := by
  subst hp
  intro p e s m args below meth c R mc ms ρ0 h0 hF hR cells slots ρ H locs ls hD
  exact lv_iand hF.1 hF.2.1 hd (kk p e s m args below meth c R mc ms ρ0 h0 hF hR cells slots ρ H locs ls (hD.stk ⟨trivial, hD.oks.2.2⟩))
theorem pb_ior {x x2 : Int32} (hd : decode y.2.1 pc = .ok (.ior, 1)) {pc2 : Nat} (hp : pc + 1 = pc2) (kk : pb_S Z y d k n post pc2 lv (.int (x ||| x2) :: st) h) : pb_S Z y d k n post pc lv (.int x2 :: .int x :: st) h := by
  subst hp
  intro p e s m args below meth c R mc ms ρ0 h0 hF hR cells slots ρ H locs ls hD
  exact lv_ior hF.1 hF.2.1 hd (kk p e s m args below meth c R mc ms ρ0 h0 hF hR cells slots ρ H locs ls (hD.stk ⟨trivial, hD.oks.2.2⟩))
theorem pb_ixor {x x2 : Int32} (hd : decode y.2.1 pc = .ok (.ixor, 1)) {pc2 : Nat} (hp : pc + 1 = pc2) (kk : pb_S Z y d k n post pc2 lv (.int (x ^^^ x2) :: st) h) : pb_S Z y d k n post pc lv (.int x2 :: .int x :: st) h := by
  subst hp
  intro p e s m args below meth c R mc ms ρ0 h0 hF hR cells slots ρ H locs ls hD
  exact lv_ixor hF.1 hF.2.1 hd (kk p e s m args below meth c R mc ms ρ0 h0 hF hR cells slots ρ H locs ls (hD.stk ⟨trivial, hD.oks.2.2⟩))
theorem pb_idiv {x x2 : Int32} (hd : decode y.2.1 pc = .ok (.idiv, 1)) (hne : ¬ x2 = 0) {pc2 : Nat} (hp : pc + 1 = pc2) (kk : pb_S Z y d k n post pc2 lv (.int (x / x2) :: st) h) : pb_S Z y d k n post pc lv (.int x2 :: .int x :: st) h := by
  subst hp
  intro p e s m args below meth c R mc ms ρ0 h0 hF hR cells slots ρ H locs ls hD
  exact lv_idiv hF.1 hF.2.1 hd hne (kk p e s m args below meth c R mc ms ρ0 h0 hF hR cells slots ρ H locs ls (hD.stk ⟨trivial, hD.oks.2.2⟩))
theorem pb_irem {x x2 : Int32} (hd : decode y.2.1 pc = .ok (.irem, 1)) (hne : ¬ x2 = 0) {pc2 : Nat} (hp : pc + 1 = pc2) (kk : pb_S Z y d k n post pc2 lv (.int (x - x / x2 * x2) :: st) h) : pb_S Z y d k n post pc lv (.int x2 :: .int x :: st) h := by
  subst hp
  intro p e s m args below meth c R mc ms ρ0 h0 hF hR cells slots ρ H locs ls hD
  exact lv_irem hF.1 hF.2.1 hd hne (kk p e s m args below meth c R mc ms ρ0 h0 hF hR cells slots ρ H locs ls (hD.stk ⟨trivial, hD.oks.2.2⟩))
theorem pb_ineg {x : Int32} (hd : decode y.2.1 pc = .ok (.ineg, 1)) {pc2 : Nat} (hp : pc + 1 = pc2) (kk : pb_S Z y d k n post pc2 lv (.int (-x) :: st) h) : pb_S Z y d k n post pc lv (.int x :: st) h := by
  subst hp
  intro p e s m args below meth c R mc ms ρ0 h0 hF hR cells slots ρ H locs ls hD
  exact lv_ineg hF.1 hF.2.1 hd (kk p e s m args below meth c R mc ms ρ0 h0 hF hR cells slots ρ H locs ls (hD.stk ⟨trivial, hD.oks.2⟩))
theorem pb_ladd {x x2 : Int64} (hd : decode y.2.1 pc = .ok (.ladd, 1)) {pc2 : Nat} (hp : pc + 1 = pc2) (kk : pb_S Z y d k n post pc2 lv (.long (x + x2) :: st) h) : pb_S Z y d k n post pc lv (.long x2 :: .long x :: st) h := by
  subst hp
  intro p e s m args below meth c R mc ms ρ0 h0 hF hR cells slots ρ H locs ls hD
  exact lv_ladd hF.1 hF.2.1 hd (kk p e s m args below meth c R mc ms ρ0 h0 hF hR cells slots ρ H locs ls (hD.stk ⟨trivial, hD.oks.2.2⟩))
theorem pb_lsub {x x2 : Int64} (hd : decode y.2.1 pc = .ok (.lsub, 1)) {pc2 : Nat} (hp : pc + 1 = pc2) (kk : pb_S Z y d k n post pc2 lv (.long (x - x2) :: st) h) : pb_S Z y d k n post pc lv (.long x2 :: .long x :: st) h := by
  subst hp
  intro p e s m args below meth c R mc ms ρ0 h0 hF hR cells slots ρ H locs ls hD
  exact lv_lsub hF.1 hF.2.1 hd (kk p e s m args below meth c R mc ms ρ0 h0 hF hR cells slots ρ H locs ls (hD.stk ⟨trivial, hD.oks.2.2⟩))
theorem pb_lmul {x x2 : Int64} (hd : decode y.2.1 pc = .ok (.lmul, 1)) {pc2 : Nat} (hp : pc + 1 = pc2) (kk : pb_S Z y d k n post pc2 lv (.long (x * x2) :: st) h) : pb_S Z y d k n post pc lv (.long x2 :: .long x :: st) h := by
  subst hp
  intro p e s m args below meth c R mc ms ρ0 h0 hF hR cells slots ρ H locs ls hD
  exact lv_lmul hF.1 hF.2.1 hd (kk p e s m args below meth c R mc ms ρ0 h0 hF hR cells slots ρ H locs ls (hD.stk ⟨trivial, hD.oks.2.2⟩))
theorem pb_ldiv {x x2 : Int64} (hd : decode y.2.1 pc = .ok (.ldiv, 1)) (hne : ¬ x2 = 0) {pc2 : Nat} (hp : pc + 1 = pc2) (kk : pb_S Z y d k n post pc2 lv (.long (x / x2) :: st) h) : pb_S Z y d k n post pc lv (.long x2 :: .long x :: st) h := by
  subst hp
  intro p e s m args below meth c R mc ms ρ0 h0 hF hR cells slots ρ H locs ls hD
  exact lv_ldiv hF.1 hF.2.1 hd hne (kk p e s m args below meth c R mc ms ρ0 h0 hF hR cells slots ρ H locs ls (hD.stk ⟨trivial, hD.oks.2.2⟩))
theorem pb_i2l {x : Int32} (hd : decode y.2.1 pc = .ok (.i2l, 1)) {pc2 : Nat} (hp : pc + 1 = pc2) (kk : pb_S Z y d k n post pc2 lv (.long x.toInt64 :: st) h) : pb_S Z y d k n post pc lv (.int x :: st) h := by
  subst hp
  intro p e s m args below meth c R mc ms ρ0 h0 hF hR cells slots ρ H locs ls hD
  exact lv_i2l hF.1 hF.2.1 hd rfl (kk p e s m args below meth c R mc ms ρ0 h0 hF hR cells slots ρ H locs ls (hD.stk ⟨trivial, hD.oks.2⟩))
theorem pb_l2i {x : Int64} (hd : decode y.2.1 pc = .ok (.l2i, 1)) {pc2 : Nat} (hp : pc + 1 = pc2) (kk : pb_S Z y d k n post pc2 lv (.int x.toInt32 :: st) h) : pb_S Z y d k n post pc lv (.long x :: st) h := by
  subst hp
  intro p e s m args below meth c R mc ms ρ0 h0 hF hR cells slots ρ H locs ls hD
  exact lv_l2i hF.1 hF.2.1 hd rfl (kk p e s m args below meth c R mc ms ρ0 h0 hF hR cells slots ρ H locs ls (hD.stk ⟨trivial, hD.oks.2⟩))
theorem pb_lcmp {x x2 : Int64} (hd : decode y.2.1 pc = .ok (.lcmp, 1)) {pc2 : Nat} (hp : pc + 1 = pc2) (kk : pb_S Z y d k n post pc2 lv (.int (lg_cmp x x2) :: st) h) : pb_S Z y d k n post pc lv (.long x2 :: .long x :: st) h := by
  subst hp
  intro p e s m args below meth c R mc ms ρ0 h0 hF hR cells slots ρ H locs ls hD
  exact W.lcmp hF.1 hF.2.1 hd (kk p e s m args below meth c R mc ms ρ0 h0 hF hR cells slots ρ H locs ls (hD.stk ⟨trivial, hD.oks.2.2⟩))
theorem pb_iushr {x x2 : Int32} (hd : decode y.2.1 pc = .ok (.iushr, 1)) {pc2 : Nat} (hp : pc + 1 = pc2) (kk : pb_S Z y d k n post pc2 lv (.int (x.toUInt32 >>> (x2.toUInt32 &&& Int32.toUInt32 31)).toInt32 :: st) h) : pb_S Z y d k n post pc lv (.int x2 :: .int x :: st) h := by
  subst hp
  intro p e s m args below meth c R mc ms ρ0 h0 hF hR cells slots ρ H locs ls hD
  exact lv_iushr hF.1 hF.2.1 hd rfl (kk p e s m args below meth c R mc ms ρ0 h0 hF hR cells slots ρ H locs ls (hD.stk ⟨trivial, hD.oks.2.2⟩))
theorem pb_dup {v : Value} (hd : decode y.2.1 pc = .ok (.dup, 1)) (hv : v.category = 1) {pc2 : Nat} (hp : pc + 1 = pc2) (kk : pb_S Z y d k n post pc2 lv (v :: v :: st) h) : pb_S Z y d k n post pc lv (v :: st) h := by
  subst hp
  intro p e s m args below meth c R mc ms ρ0 h0 hF hR cells slots ρ H locs ls hD
  exact lv_dup hF.1 hF.2.1 hd (by rw [pb_up_cat]; exact hv) (kk p e s m args below meth c R mc ms ρ0 h0 hF hR cells slots ρ H locs ls (hD.stk ⟨hD.oks.1, hD.oks.1, hD.oks.2⟩))
theorem pb_dup2 {v v2 : Value} (hd : decode y.2.1 pc = .ok (.dup2, 1)) (hv : v.category = 1) (hv2 : v2.category = 1) {pc2 : Nat} (hp : pc + 1 = pc2) (kk : pb_S Z y d k n post pc2 lv (v :: v2 :: v :: v2 :: st) h) : pb_S Z y d k n post pc lv (v :: v2 :: st) h := by
  subst hp
  intro p e s m args below meth c R mc ms ρ0 h0 hF hR cells slots ρ H locs ls hD
  exact lv_dup2_11 hF.1 hF.2.1 hd (by rw [pb_up_cat]; exact hv) (by rw [pb_up_cat]; exact hv2) (kk p e s m args below meth c R mc ms ρ0 h0 hF hR cells slots ρ H locs ls (hD.stk ⟨hD.oks.1, hD.oks.2.1, hD.oks.1, hD.oks.2.1, hD.oks.2.2⟩))
theorem pb_ishl {x x2 : Int32} (hd : decode y.2.1 pc = .ok (.ishl, 1)) {pc2 : Nat} (hp : pc + 1 = pc2) (kk : pb_S Z y d k n post pc2 lv (.int (x <<< (x2 &&& 31)) :: st) h) : pb_S Z y d k n post pc lv (.int x2 :: .int x :: st) h := by
  subst hp
  intro p e s m args below meth c R mc ms ρ0 h0 hF hR cells slots ρ H locs ls hD
  exact lv_ishl hF.1 hF.2.1 hd (kk p e s m args below meth c R mc ms ρ0 h0 hF hR cells slots ρ H locs ls (hD.stk ⟨trivial, hD.oks.2.2⟩))
theorem pb_ishr {x x2 : Int32} (hd : decode y.2.1 pc = .ok (.ishr, 1)) {pc2 : Nat} (hp : pc + 1 = pc2) (kk : pb_S Z y d k n post pc2 lv (.int (x >>> (x2 &&& 31)) :: st) h) : pb_S Z y d k n post pc lv (.int x2 :: .int x :: st) h := by
  subst hp
  intro p e s m args below meth c R mc ms ρ0 h0 hF hR cells slots ρ H locs ls hD
  exact lv_ishr hF.1 hF.2.1 hd (kk p e s m args below meth c R mc ms ρ0 h0 hF hR cells slots ρ H locs ls (hD.stk ⟨trivial, hD.oks.2.2⟩))
theorem pb_if_eq {x : Int32} {off : Int} {tgt pc2 : Nat} (hd : decode y.2.1 pc = .ok (.ifCond .eq off, 3)) (ht : (pc : Int) + off = (tgt : Int)) (hp : pc + 3 = pc2) (kt : x = 0 → pb_S Z y d k n post tgt lv st h) (kf : ¬ x = 0 → pb_S Z y d k n post pc2 lv st h) : pb_S Z y d k n post pc lv (.int x :: st) h := by
  subst hp
  intro p e s m args below meth c R mc ms ρ0 h0 hF hR cells slots ρ H locs ls hD
  exact lv_if_eq hF.1 hF.2.1 hd ht (fun hq => kt hq p e s m args below meth c R mc ms ρ0 h0 hF hR cells slots ρ H locs ls (hD.stk hD.oks.2)) (fun hq => kf hq p e s m args below meth c R mc ms ρ0 h0 hF hR cells slots ρ H locs ls (hD.stk hD.oks.2))
theorem pb_if_ne {x : Int32} {off : Int} {tgt pc2 : Nat} (hd : decode y.2.1 pc = .ok (.ifCond .ne off, 3)) (ht : (pc : Int) + off = (tgt : Int)) (hp : pc + 3 = pc2) (kt : ¬ x = 0 → pb_S Z y d k n post tgt lv st h) (kf : x = 0 → pb_S Z y d k n post pc2 lv st h) : pb_S Z y d k n post pc lv (.int x :: st) h := by
  subst hp
  intro p e s m args below meth c R mc ms ρ0 h0 hF hR cells slots ρ H locs ls hD
  exact lv_if_ne hF.1 hF.2.1 hd ht (fun hq => kt hq p e s m args below meth c R mc ms ρ0 h0 hF hR cells slots ρ H locs ls (hD.stk hD.oks.2)) (fun hq => kf hq p e s m args below meth c R mc ms ρ0 h0 hF hR cells slots ρ H locs ls (hD.stk hD.oks.2))
theorem pb_if_lt {x : Int32} {off : Int} {tgt pc2 : Nat} (hd : decode y.2.1 pc = .ok (.ifCond .lt off, 3)) (ht : (pc : Int) + off = (tgt : Int)) (hp : pc + 3 = pc2) (kt : x < 0 → pb_S Z y d k n post tgt lv st h) (kf : ¬ x < 0 → pb_S Z y d k n post pc2 lv st h) : pb_S Z y d k n post pc lv (.int x :: st) h := by
  subst hp
  intro p e s m args below meth c R mc ms ρ0 h0 hF hR cells slots ρ H locs ls hD
  exact lv_if_lt hF.1 hF.2.1 hd ht (fun hq => kt hq p e s m args below meth c R mc ms ρ0 h0 hF hR cells slots ρ H locs ls (hD.stk hD.oks.2)) (fun hq => kf hq p e s m args below meth c R mc ms ρ0 h0 hF hR cells slots ρ H locs ls (hD.stk hD.oks.2))
theorem pb_if_ge {x : Int32} {off : Int} {tgt pc2 : Nat} (hd : decode y.2.1 pc = .ok (.ifCond .ge off, 3)) (ht : (pc : Int) + off = (tgt : Int)) (hp : pc + 3 = pc2) (kt : 0 ≤ x → pb_S Z y d k n post tgt lv st h) (kf : ¬ 0 ≤ x → pb_S Z y d k n post pc2 lv st h) : pb_S Z y d k n post pc lv (.int x :: st) h := by
  subst hp
  intro p e s m args below meth c R mc ms ρ0 h0 hF hR cells slots ρ H locs ls hD
  exact lv_if_ge hF.1 hF.2.1 hd ht (fun hq => kt hq p e s m args below meth c R mc ms ρ0 h0 hF hR cells slots ρ H locs ls (hD.stk hD.oks.2)) (fun hq => kf hq p e s m args below meth c R mc ms ρ0 h0 hF hR cells slots ρ H locs ls (hD.stk hD.oks.2))
theorem pb_if_gt {x : Int32} {off : Int} {tgt pc2 : Nat} (hd : decode y.2.1 pc = .ok (.ifCond .gt off, 3)) (ht : (pc : Int) + off = (tgt : Int)) (hp : pc + 3 = pc2) (kt : 0 < x → pb_S Z y d k n post tgt lv st h) (kf : ¬ 0 < x → pb_S Z y d k n post pc2 lv st h) : pb_S Z y d k n post pc lv (.int x :: st) h := by
  subst hp
  intro p e s m args below meth c R mc ms ρ0 h0 hF hR cells slots ρ H locs ls hD
  exact lv_if_gt hF.1 hF.2.1 hd ht (fun hq => kt hq p e s m args below meth c R mc ms ρ0 h0 hF hR cells slots ρ H locs ls (hD.stk hD.oks.2)) (fun hq => kf hq p e s m args below meth c R mc ms ρ0 h0 hF hR cells slots ρ H locs ls (hD.stk hD.oks.2))
theorem pb_if_le {x : Int32} {off : Int} {tgt pc2 : Nat} (hd : decode y.2.1 pc = .ok (.ifCond .le off, 3)) (ht : (pc : Int) + off = (tgt : Int)) (hp : pc + 3 = pc2) (kt : x ≤ 0 → pb_S Z y d k n post tgt lv st h) (kf : ¬ x ≤ 0 → pb_S Z y d k n post pc2 lv st h) : pb_S Z y d k n post pc lv (.int x :: st) h := by
  subst hp
  intro p e s m args below meth c R mc ms ρ0 h0 hF hR cells slots ρ H locs ls hD
  exact lv_if_le hF.1 hF.2.1 hd ht (fun hq => kt hq p e s m args below meth c R mc ms ρ0 h0 hF hR cells slots ρ H locs ls (hD.stk hD.oks.2)) (fun hq => kf hq p e s m args below meth c R mc ms ρ0 h0 hF hR cells slots ρ H locs ls (hD.stk hD.oks.2))
theorem pb_icmp_eq {x x2 : Int32} {off : Int} {tgt pc2 : Nat} (hd : decode y.2.1 pc = .ok (.if_icmp .eq off, 3)) (ht : (pc : Int) + off = (tgt : Int)) (hp : pc + 3 = pc2) (kt : x = x2 → pb_S Z y d k n post tgt lv st h) (kf : ¬ x = x2 → pb_S Z y d k n post pc2 lv st h) : pb_S Z y d k n post pc lv (.int x2 :: .int x :: st) h := by
  subst hp
  intro p e s m args below meth c R mc ms ρ0 h0 hF hR cells slots ρ H locs ls hD
  exact lv_icmp_eq hF.1 hF.2.1 hd ht (fun hq => kt hq p e s m args below meth c R mc ms ρ0 h0 hF hR cells slots ρ H locs ls (hD.stk hD.oks.2.2)) (fun hq => kf hq p e s m args below meth c R mc ms ρ0 h0 hF hR cells slots ρ H locs ls (hD.stk hD.oks.2.2))
theorem pb_icmp_ne {x x2 : Int32} {off : Int} {tgt pc2 : Nat} (hd : decode y.2.1 pc = .ok (.if_icmp .ne off, 3)) (ht : (pc : Int) + off = (tgt : Int)) (hp : pc + 3 = pc2) (kt : ¬ x = x2 → pb_S Z y d k n post tgt lv st h) (kf : x = x2 → pb_S Z y d k n post pc2 lv st h) : pb_S Z y d k n post pc lv (.int x2 :: .int x :: st) h := by
  subst hp
  intro p e s m args below meth c R mc ms ρ0 h0 hF hR cells slots ρ H locs ls hD
  exact lv_icmp_ne hF.1 hF.2.1 hd ht (fun hq => kt hq p e s m args below meth c R mc ms ρ0 h0 hF hR cells slots ρ H locs ls (hD.stk hD.oks.2.2)) (fun hq => kf hq p e s m args below meth c R mc ms ρ0 h0 hF hR cells slots ρ H locs ls (hD.stk hD.oks.2.2))
theorem pb_icmp_lt {x x2 : Int32} {off : Int} {tgt pc2 : Nat} (hd : decode y.2.1 pc = .ok (.if_icmp .lt off, 3)) (ht : (pc : Int) + off = (tgt : Int)) (hp : pc + 3 = pc2) (kt : x < x2 → pb_S Z y d k n post tgt lv st h) (kf : ¬ x < x2 → pb_S Z y d k n post pc2 lv st h) : pb_S Z y d k n post pc lv (.int x2 :: .int x :: st) h := by
  subst hp
  intro p e s m args below meth c R mc ms ρ0 h0 hF hR cells slots ρ H locs ls hD
  exact lv_icmp_lt hF.1 hF.2.1 hd ht (fun hq => kt hq p e s m args below meth c R mc ms ρ0 h0 hF hR cells slots ρ H locs ls (hD.stk hD.oks.2.2)) (fun hq => kf hq p e s m args below meth c R mc ms ρ0 h0 hF hR cells slots ρ H locs ls (hD.stk hD.oks.2.2))
theorem pb_icmp_ge {x x2 : Int32} {off : Int} {tgt pc2 : Nat} (hd : decode y.2.1 pc = .ok (.if_icmp .ge off, 3)) (ht : (pc : Int) + off = (tgt : Int)) (hp : pc + 3 = pc2) (kt : x2 ≤ x → pb_S Z y d k n post tgt lv st h) (kf : ¬ x2 ≤ x → pb_S Z y d k n post pc2 lv st h) : pb_S Z y d k n post pc lv (.int x2 :: .int x :: st) h := by
  subst hp
  intro p e s m args below meth c R mc ms ρ0 h0 hF hR cells slots ρ H locs ls hD
  exact lv_icmp_ge hF.1 hF.2.1 hd ht (fun hq => kt hq p e s m args below meth c R mc ms ρ0 h0 hF hR cells slots ρ H locs ls (hD.stk hD.oks.2.2)) (fun hq => kf hq p e s m args below meth c R mc ms ρ0 h0 hF hR cells slots ρ H locs ls (hD.stk hD.oks.2.2))
theorem pb_icmp_gt {x x2 : Int32} {off : Int} {tgt pc2 : Nat} (hd : decode y.2.1 pc = .ok (.if_icmp .gt off, 3)) (ht : (pc : Int) + off = (tgt : Int)) (hp : pc + 3 = pc2) (kt : x2 < x → pb_S Z y d k n post tgt lv st h) (kf : ¬ x2 < x → pb_S Z y d k n post pc2 lv st h) : pb_S Z y d k n post pc lv (.int x2 :: .int x :: st) h := by
  subst hp
  intro p e s m args below meth c R mc ms ρ0 h0 hF hR cells slots ρ H locs ls hD
  exact lv_icmp_gt hF.1 hF.2.1 hd ht (fun hq => kt hq p e s m args below meth c R mc ms ρ0 h0 hF hR cells slots ρ H locs ls (hD.stk hD.oks.2.2)) (fun hq => kf hq p e s m args below meth c R mc ms ρ0 h0 hF hR cells slots ρ H locs ls (hD.stk hD.oks.2.2))
theorem pb_icmp_le {x x2 : Int32} {off : Int} {tgt pc2 : Nat} (hd : decode y.2.1 pc = .ok (.if_icmp .le off, 3)) (ht : (pc : Int) + off = (tgt : Int)) (hp : pc + 3 = pc2) (kt : x ≤ x2 → pb_S Z y d k n post tgt lv st h) (kf : ¬ x ≤ x2 → pb_S Z y d k n post pc2 lv st h) : pb_S Z y d k n post pc lv (.int x2 :: .int x :: st) h := by
  subst hp
  intro p e s m args below meth c R mc ms ρ0 h0 hF hR cells slots ρ H locs ls hD
  exact lv_icmp_le hF.1 hF.2.1 hd ht (fun hq => kt hq p e s m args below meth c R mc ms ρ0 h0 hF hR cells slots ρ H locs ls (hD.stk hD.oks.2.2)) (fun hq => kf hq p e s m args below meth c R mc ms ρ0 h0 hF hR cells slots ρ H locs ls (hD.stk hD.oks.2.2))
theorem pb_goto {off : Int} {tgt : Nat} (hd : decode y.2.1 pc = .ok (.goto off, 3)) (ht : (pc : Int) + off = (tgt : Int)) (kk : pb_S Z y d k n post tgt lv st h) : pb_S Z y d k n post pc lv (st) h := by
  intro p e s m args below meth c R mc ms ρ0 h0 hF hR cells slots ρ H locs ls hD
  exact lv_goto hF.1 hF.2.1 hd ht (kk p e s m args below meth c R mc ms ρ0 h0 hF hR cells slots ρ H locs ls (hD.stk hD.oks))
theorem pb_ifnonnull {a : Nat} {off : Int} {tgt : Nat} (hd : decode y.2.1 pc = .ok (.ifnonnull off, 3)) (ht : (pc : Int) + off = (tgt : Int)) (kk : pb_S Z y d k n post tgt lv st h) : pb_S Z y d k n post pc lv (.ref a :: st) h := by
  intro p e s m args below meth c R mc ms ρ0 h0 hF hR cells slots ρ H locs ls hD
  exact lv_ifnonnull hF.1 hF.2.1 hd ht (kk p e s m args below meth c R mc ms ρ0 h0 hF hR cells slots ρ H locs ls (hD.stk hD.oks.2))
theorem pb_ifnonnullN {off : Int} {pc2 : Nat} (hd : decode y.2.1 pc = .ok (.ifnonnull off, 3)) (hp : pc + 3 = pc2) (kk : pb_S Z y d k n post pc2 lv st h) : pb_S Z y d k n post pc lv (.null :: st) h := by
  subst hp
  intro p e s m args below meth c R mc ms ρ0 h0 hF hR cells slots ρ H locs ls hD
  exact lv_ifnonnullN hF.1 hF.2.1 hd (kk p e s m args below meth c R mc ms ρ0 h0 hF hR cells slots ρ H locs ls (hD.stk hD.oks.2))
theorem pb_ifnull {a : Nat} {off : Int} {pc2 : Nat} (hd : decode y.2.1 pc = .ok (.ifnull off, 3)) (hp : pc + 3 = pc2) (kk : pb_S Z y d k n post pc2 lv st h) : pb_S Z y d k n post pc lv (.ref a :: st) h := by
  subst hp
  intro p e s m args below meth c R mc ms ρ0 h0 hF hR cells slots ρ H locs ls hD
  exact lv_ifnull hF.1 hF.2.1 hd (kk p e s m args below meth c R mc ms ρ0 h0 hF hR cells slots ρ H locs ls (hD.stk hD.oks.2))
theorem pb_ifnullN {off : Int} {tgt : Nat} (hd : decode y.2.1 pc = .ok (.ifnull off, 3)) (ht : (pc : Int) + off = (tgt : Int)) (kk : pb_S Z y d k n post tgt lv st h) : pb_S Z y d k n post pc lv (.null :: st) h := by
  intro p e s m args below meth c R mc ms ρ0 h0 hF hR cells slots ρ H locs ls hD
  exact lv_ifnullN hF.1 hF.2.1 hd ht (kk p e s m args below meth c R mc ms ρ0 h0 hF hR cells slots ρ H locs ls (hD.stk hD.oks.2))
theorem pb_swIn {x : Int32} {dflt lo hi off : Int} {offs : Array Int} {len tgt : Nat} (hd : decode y.2.1 pc = .ok (.tableswitch dflt lo hi offs, len)) (h1 : ¬ x.toInt < lo) (h2 : ¬ hi < x.toInt) (ho : offs[(x.toInt - lo).toNat]? = some off) (ht : (pc : Int) + off = (tgt : Int)) (kk : pb_S Z y d k n post tgt lv st h) : pb_S Z y d k n post pc lv (.int x :: st) h := by
  intro p e s m args below meth c R mc ms ρ0 h0 hF hR cells slots ρ H locs ls hD
  exact lv_tableIn hF.1 hF.2.1 hd h1 h2 ho ht (kk p e s m args below meth c R mc ms ρ0 h0 hF hR cells slots ρ H locs ls (hD.stk hD.oks.2))
theorem pb_swOut {x : Int32} {dflt lo hi : Int} {offs : Array Int} {len tgt : Nat} (hd : decode y.2.1 pc = .ok (.tableswitch dflt lo hi offs, len)) (h1 : x.toInt < lo ∨ hi < x.toInt) (ht : (pc : Int) + dflt = (tgt : Int)) (kk : pb_S Z y d k n post tgt lv st h) : pb_S Z y d k n post pc lv (.int x :: st) h := by
  intro p e s m args below meth c R mc ms ρ0 h0 hF hR cells slots ρ H locs ls hD
  exact lv_tableOut hF.1 hF.2.1 hd h1 ht (kk p e s m args below meth c R mc ms ρ0 h0 hF hR cells slots ρ H locs ls (hD.stk hD.oks.2))
/-- the known locals as pairs -/
def pb_as (ρ : Nat → Nat) : Nat → List (Option Value) → List (Nat × Value)
  | _, [] => []
  | i, none :: l => pb_as ρ (i + 1) l
  | i, some v :: l => (i, pb_up ρ v) :: pb_as ρ (i + 1) l
theorem pb_as_of {ρ : Nat → Nat} : ∀ {l : List (Option Value)} {i : Nat} {q : Nat × Value}, q ∈ pb_as ρ i l → ∃ (j : Nat) (v : Value), l[j]? = some (some v) ∧ q = (i + j, pb_up ρ v)
  | [], i, q, hq => by cases hq
  | none :: l, i, q, hq => by
    obtain ⟨j, v, h1, h2⟩ := pb_as_of (l := l) (i := i + 1) hq
    exact ⟨j + 1, v, h1, by rw [h2]; congr 1; omega⟩
  | some v :: l, i, q, hq => by
    rcases List.mem_cons.mp hq with rfl | hq
    · exact ⟨0, v, rfl, rfl⟩
    · obtain ⟨j, v, h1, h2⟩ := pb_as_of (l := l) (i := i + 1) hq
      exact ⟨j + 1, v, h1, by rw [h2]; congr 1; omega⟩
theorem pb_as_in {ρ : Nat → Nat} : ∀ {l : List (Option Value)} {i j : Nat} {v : Value}, l[j]? = some (some v) → (i + j, pb_up ρ v) ∈ pb_as ρ i l
  | [], i, j, v, h => by simp at h
  | none :: l, i, 0, v, h => by simp at h
  | none :: l, i, j + 1, v, h => by
    have := pb_as_in (ρ := ρ) (l := l) (i := i + 1) (j := j) (v := v) (by simpa using h)
    rw [show i + (j + 1) = i + 1 + j by omega]
    exact this
  | some w :: l, i, 0, v, h => by
    have e : w = v := by simpa using h
    subst e
    exact List.mem_cons_self
  | some w :: l, i, j + 1, v, h => by
    have := pb_as_in (ρ := ρ) (l := l) (i := i + 1) (j := j) (v := v) (by simpa using h)
    rw [show i + (j + 1) = i + 1 + j by omega]
    exact List.mem_cons_of_mem _ this
theorem pb_lv.has {ρ : Nat → Nat} {ls : Array Slot} {nL : Nat} (hl : pb_lv ρ ls nL lv) : lv_has ls nL (pb_as ρ 0 lv) := ⟨hl.1, hl.2.1, fun q hq => by
  obtain ⟨j, v, h1, h2⟩ := pb_as_of hq
  rw [h2]
  show ls[0 + j]? = _
  rw [Nat.zero_add]
  exact hl.2.2 j v h1⟩
def pb_fx (lv : List (Option Value)) : Nat → List (Option Value)
  | 0 => lv
  | i + 1 => match lv[i]? with
    | some (some w) => if w.category = 2 then lv.set i none else lv
    | _ => lv
theorem pb_fx_at {lv : List (Option Value)} {i j : Nat} {w : Value} (h : (pb_fx lv i)[j]? = some (some w)) : lv[j]? = some (some w) ∧ ¬ (j + 1 = i ∧ w.category = 2) := by
  cases i with
  | zero => exact ⟨h, fun q => by omega⟩
  | succ i =>
    have h : (match lv[i]? with
      | some (some w) => if w.category = 2 then lv.set i none else lv
      | _ => lv)[j]? = some (some w) := h
    cases hx : lv[i]? with
    | none =>
      rw [hx] at h
      refine ⟨h, fun q => ?_⟩
      have e : j = i := by omega
      subst e
      have h : lv[j]? = some (some w) := h
      rw [hx] at h
      cases h
    | some o =>
      cases o with
      | none =>
        rw [hx] at h
        refine ⟨h, fun q => ?_⟩
        have e : j = i := by omega
        subst e
        have h : lv[j]? = some (some w) := h
        rw [hx] at h
        cases h
      | some w' =>
        rw [hx] at h
        have h : (if w'.category = 2 then lv.set i none else lv)[j]? = some (some w) := h
        by_cases hc : w'.category = 2
        · rw [if_pos hc] at h
          by_cases e : j = i
          · subst e
            rw [List.getElem?_set] at h
            simp at h
          · rw [List.getElem?_set_ne (Ne.symm e)] at h
            exact ⟨h, fun q => e (by omega)⟩
        · rw [if_neg hc] at h
          refine ⟨h, fun q => hc ?_⟩
          have e : j = i := by omega
          have h9 : some (some w') = some (some w) := by rw [← hx, ← e]; exact h
          cases h9
          exact q.2
def pb_s1 (lv : List (Option Value)) (i : Nat) (v : Value) : List (Option Value) := (pb_fx lv i).set i (some v)
def pb_s2 (lv : List (Option Value)) (i : Nat) (v : Value) : List (Option Value) := ((pb_fx lv i).set i (some v)).set (i + 1) none
theorem pb_s1_at {lv : List (Option Value)} {i j : Nat} {v w : Value} (h : (pb_s1 lv i v)[j]? = some (some w)) : (j = i ∧ w = v) ∨ (j ≠ i ∧ lv[j]? = some (some w) ∧ ¬ (j + 1 = i ∧ w.category = 2)) := by
  unfold pb_s1 at h
  by_cases e : j = i
  · subst e
    rw [List.getElem?_set] at h
    simp at h
    exact Or.inl ⟨rfl, h.2.symm⟩
  · rw [List.getElem?_set_ne (Ne.symm e)] at h
    exact Or.inr ⟨e, pb_fx_at h⟩
theorem pb_s2_at {lv : List (Option Value)} {i j : Nat} {v w : Value} (h : (pb_s2 lv i v)[j]? = some (some w)) : (j = i ∧ w = v) ∨ (j ≠ i ∧ j ≠ i + 1 ∧ lv[j]? = some (some w) ∧ ¬ (j + 1 = i ∧ w.category = 2)) := by
  unfold pb_s2 at h
  by_cases e1 : j = i + 1
  · subst e1
    rw [List.getElem?_set] at h
    simp at h
  · rw [List.getElem?_set_ne (Ne.symm e1)] at h
    rcases pb_s1_at h with q | q
    · exact Or.inl q
    · exact Or.inr ⟨q.1, e1, q.2⟩
theorem pb_lv.s1 {ρ : Nat → Nat} {ls' : Array Slot} {nL i : Nat} {v : Value} (hl : lv_has ls' nL ((i, pb_up ρ v) :: (pb_as ρ 0 lv).filter (fun q => !(q.1 == i) && !(q.1 + 1 == i && q.2.category == 2)))) : pb_lv ρ ls' nL (pb_s1 lv i v) := ⟨hl.1, hl.2.1, fun j w hj => by
  rcases pb_s1_at hj with ⟨rfl, rfl⟩ | ⟨h1, h2, h3⟩
  · exact hl.2.2 _ List.mem_cons_self
  · refine hl.2.2 (j, pb_up ρ w) (List.mem_cons_of_mem _ (List.mem_filter.mpr ⟨?_, ?_⟩))
    · have := pb_as_in (ρ := ρ) (i := 0) h2
      rw [Nat.zero_add] at this
      exact this
    · simp only [Bool.and_eq_true, Bool.not_eq_true', beq_eq_false_iff_ne, ne_eq, Bool.and_eq_false_iff, pb_up_cat]
      refine ⟨h1, ?_⟩
      by_cases q : j + 1 = i
      · exact Or.inr (fun z => h3 ⟨q, z⟩)
      · exact Or.inl q⟩
theorem pb_lv.s2 {ρ : Nat → Nat} {ls' : Array Slot} {nL i : Nat} {v : Value} (hl : lv_has ls' nL ((i, pb_up ρ v) :: (pb_as ρ 0 lv).filter (fun q => !(q.1 == i) && (!(q.1 == i + 1) && !(q.1 + 1 == i && q.2.category == 2))))) : pb_lv ρ ls' nL (pb_s2 lv i v) := ⟨hl.1, hl.2.1, fun j w hj => by
  rcases pb_s2_at hj with ⟨rfl, rfl⟩ | ⟨h1, h1', h2, h3⟩
  · exact hl.2.2 _ List.mem_cons_self
  · refine hl.2.2 (j, pb_up ρ w) (List.mem_cons_of_mem _ (List.mem_filter.mpr ⟨?_, ?_⟩))
    · have := pb_as_in (ρ := ρ) (i := 0) h2
      rw [Nat.zero_add] at this
      exact this
    · simp only [Bool.and_eq_true, Bool.not_eq_true', beq_eq_false_iff_ne, ne_eq, Bool.and_eq_false_iff, pb_up_cat]
      refine ⟨h1, h1', ?_⟩
      by_cases q : j + 1 = i
      · exact Or.inr (fun z => h3 ⟨q, z⟩)
      · exact Or.inl q⟩
theorem pb_Dy.s1 {k n mc ms : Nat} {ρ0 : Nat → Nat} {h0 : pb_H} {v : Value} {i : Nat} {cells slots : Nat} {ρ : Nat → Nat} {H : Heap} {locs : List Loc} {ls ls' : Array Slot} (hD : pb_Dy Z y k n mc ms ρ0 h0 lv (v :: st) h cells slots ρ H locs ls) (hl : pb_lv ρ ls' y.2.2.1 (pb_s1 lv i v)) : pb_Dy Z y k n mc ms ρ0 h0 (pb_s1 lv i v) st h cells slots ρ H locs ls' :=
  ⟨hD.1, hD.2.1, hl, hD.2.2.2.1, hD.2.2.2.2.1, hD.oks.2, fun j w hj => by
    rcases pb_s1_at hj with ⟨rfl, rfl⟩ | ⟨h1, h2, h3⟩
    · exact hD.oks.1
    · exact hD.2.2.2.2.2.2.1 j w h2, hD.2.2.2.2.2.2.2⟩
theorem pb_Dy.s2 {k n mc ms : Nat} {ρ0 : Nat → Nat} {h0 : pb_H} {v : Value} {i : Nat} {cells slots : Nat} {ρ : Nat → Nat} {H : Heap} {locs : List Loc} {ls ls' : Array Slot} (hD : pb_Dy Z y k n mc ms ρ0 h0 lv (v :: st) h cells slots ρ H locs ls) (hl : pb_lv ρ ls' y.2.2.1 (pb_s2 lv i v)) : pb_Dy Z y k n mc ms ρ0 h0 (pb_s2 lv i v) st h cells slots ρ H locs ls' :=
  ⟨hD.1, hD.2.1, hl, hD.2.2.2.1, hD.2.2.2.2.1, hD.oks.2, fun j w hj => by
    rcases pb_s2_at hj with ⟨rfl, rfl⟩ | ⟨h1, h1', h2, h3⟩
    · exact hD.oks.1
    · exact hD.2.2.2.2.2.2.1 j w h2, hD.2.2.2.2.2.2.2⟩
theorem pb_istore {x : Int32} {i0 : Nat} {lv2 : List (Option Value)} {pc2 : Nat} (hd : decode y.2.1 pc = .ok (.istore i0, 2)) (hn : i0 < y.2.2.1) (hs : pb_s1 lv i0 (.int x) = lv2) (hp : pc + 2 = pc2) (kk : pb_S Z y d k n post pc2 lv2 st h) : pb_S Z y d k n post pc lv (.int x :: st) h := by
  subst hp hs
  intro p e s m args below meth c R mc ms ρ0 h0 hF hR cells slots ρ H locs ls hD
  exact lv_istore hF.1 hF.2.1 hd (hD.2.2.1.has) hn rfl (fun ls hl => kk p e s m args below meth c R mc ms ρ0 h0 hF hR cells slots ρ H locs ls (hD.s1 (pb_lv.s1 (v := .int x) hl)))
theorem pb_istore_n {x : Int32} {j0 : Fin 4} {i0 : Nat} {lv2 : List (Option Value)} {pc2 : Nat} (hd : decode y.2.1 pc = .ok (.istore_n j0, 1)) (hj : (j0 : Nat) = i0) (hn : i0 < y.2.2.1) (hs : pb_s1 lv i0 (.int x) = lv2) (hp : pc + 1 = pc2) (kk : pb_S Z y d k n post pc2 lv2 st h) : pb_S Z y d k n post pc lv (.int x :: st) h := by
  subst hp hs
  intro p e s m args below meth c R mc ms ρ0 h0 hF hR cells slots ρ H locs ls hD
  exact lv_istore_n hF.1 hF.2.1 hd hj (hD.2.2.1.has) hn rfl (fun ls hl => kk p e s m args below meth c R mc ms ρ0 h0 hF hR cells slots ρ H locs ls (hD.s1 (pb_lv.s1 (v := .int x) hl)))
theorem pb_astore {x : Nat} {i0 : Nat} {lv2 : List (Option Value)} {pc2 : Nat} (hd : decode y.2.1 pc = .ok (.astore i0, 2)) (hn : i0 < y.2.2.1) (hs : pb_s1 lv i0 (.ref x) = lv2) (hp : pc + 2 = pc2) (kk : pb_S Z y d k n post pc2 lv2 st h) : pb_S Z y d k n post pc lv (.ref x :: st) h := by
  subst hp hs
  intro p e s m args below meth c R mc ms ρ0 h0 hF hR cells slots ρ H locs ls hD
  exact lv_astore hF.1 hF.2.1 hd (hD.2.2.1.has) hn rfl (fun ls hl => kk p e s m args below meth c R mc ms ρ0 h0 hF hR cells slots ρ H locs ls (hD.s1 (pb_lv.s1 (v := .ref x) hl)))
theorem pb_astore_n {x : Nat} {j0 : Fin 4} {i0 : Nat} {lv2 : List (Option Value)} {pc2 : Nat} (hd : decode y.2.1 pc = .ok (.astore_n j0, 1)) (hj : (j0 : Nat) = i0) (hn : i0 < y.2.2.1) (hs : pb_s1 lv i0 (.ref x) = lv2) (hp : pc + 1 = pc2) (kk : pb_S Z y d k n post pc2 lv2 st h) : pb_S Z y d k n post pc lv (.ref x :: st) h := by
  subst hp hs
  intro p e s m args below meth c R mc ms ρ0 h0 hF hR cells slots ρ H locs ls hD
  exact lv_astore_n hF.1 hF.2.1 hd hj (hD.2.2.1.has) hn rfl (fun ls hl => kk p e s m args below meth c R mc ms ρ0 h0 hF hR cells slots ρ H locs ls (hD.s1 (pb_lv.s1 (v := .ref x) hl)))
theorem pb_astoreN {i0 : Nat} {lv2 : List (Option Value)} {pc2 : Nat} (hd : decode y.2.1 pc = .ok (.astore i0, 2)) (hn : i0 < y.2.2.1) (hs : pb_s1 lv i0 (.null) = lv2) (hp : pc + 2 = pc2) (kk : pb_S Z y d k n post pc2 lv2 st h) : pb_S Z y d k n post pc lv (.null :: st) h := by
  subst hp hs
  intro p e s m args below meth c R mc ms ρ0 h0 hF hR cells slots ρ H locs ls hD
  exact lv_astoreN hF.1 hF.2.1 hd (hD.2.2.1.has) hn rfl (fun ls hl => kk p e s m args below meth c R mc ms ρ0 h0 hF hR cells slots ρ H locs ls (hD.s1 (pb_lv.s1 (v := .null) hl)))
theorem pb_astore_nN {j0 : Fin 4} {i0 : Nat} {lv2 : List (Option Value)} {pc2 : Nat} (hd : decode y.2.1 pc = .ok (.astore_n j0, 1)) (hj : (j0 : Nat) = i0) (hn : i0 < y.2.2.1) (hs : pb_s1 lv i0 (.null) = lv2) (hp : pc + 1 = pc2) (kk : pb_S Z y d k n post pc2 lv2 st h) : pb_S Z y d k n post pc lv (.null :: st) h := by
  subst hp hs
  intro p e s m args below meth c R mc ms ρ0 h0 hF hR cells slots ρ H locs ls hD
  exact lv_astore_nN hF.1 hF.2.1 hd hj (hD.2.2.1.has) hn rfl (fun ls hl => kk p e s m args below meth c R mc ms ρ0 h0 hF hR cells slots ρ H locs ls (hD.s1 (pb_lv.s1 (v := .null) hl)))
theorem pb_lstore {x : Int64} {i0 : Nat} {lv2 : List (Option Value)} {pc2 : Nat} (hd : decode y.2.1 pc = .ok (.lstore i0, 2)) (hn : i0 + 1 < y.2.2.1) (hs : pb_s2 lv i0 (.long x) = lv2) (hp : pc + 2 = pc2) (kk : pb_S Z y d k n post pc2 lv2 st h) : pb_S Z y d k n post pc lv (.long x :: st) h := by
  subst hp hs
  intro p e s m args below meth c R mc ms ρ0 h0 hF hR cells slots ρ H locs ls hD
  exact lv_lstore hF.1 hF.2.1 hd (hD.2.2.1.has) hn rfl (fun ls hl => kk p e s m args below meth c R mc ms ρ0 h0 hF hR cells slots ρ H locs ls (hD.s2 (pb_lv.s2 (v := .long x) hl)))
theorem pb_lstore_n {x : Int64} {j0 : Fin 4} {i0 : Nat} {lv2 : List (Option Value)} {pc2 : Nat} (hd : decode y.2.1 pc = .ok (.lstore_n j0, 1)) (hj : (j0 : Nat) = i0) (hn : i0 + 1 < y.2.2.1) (hs : pb_s2 lv i0 (.long x) = lv2) (hp : pc + 1 = pc2) (kk : pb_S Z y d k n post pc2 lv2 st h) : pb_S Z y d k n post pc lv (.long x :: st) h := by
  subst hp hs
  intro p e s m args below meth c R mc ms ρ0 h0 hF hR cells slots ρ H locs ls hD
  exact lv_lstore_n hF.1 hF.2.1 hd hj (hD.2.2.1.has) hn rfl (fun ls hl => kk p e s m args below meth c R mc ms ρ0 h0 hF hR cells slots ρ H locs ls (hD.s2 (pb_lv.s2 (v := .long x) hl)))
theorem pb_iinc {x : Int32} {c0 : Int} {v : Int32} {i0 : Nat} {lv2 : List (Option Value)} {pc2 : Nat} (hd : decode y.2.1 pc = .ok (.iinc i0 c0, 3)) (hl : lv[i0]? = some (some (.int x))) (hv : x + Int32.ofInt c0 = v) (hn : i0 < y.2.2.1) (hs : pb_s1 lv i0 (.int v) = lv2) (hp : pc + 3 = pc2) (kk : pb_S Z y d k n post pc2 lv2 st h) : pb_S Z y d k n post pc lv st h := by
  subst hp hs
  intro p e s m args below meth c R mc ms ρ0 h0 hF hR cells slots ρ H locs ls hD
  obtain ⟨j, hj⟩ := List.getElem?_of_mem (pb_as_in (ρ := ρ) (i := 0) hl)
  rw [Nat.zero_add] at hj
  have hD2 : pb_Dy Z y k n mc ms ρ0 h0 lv (.int v :: st) h cells slots ρ H locs ls := hD.stk ⟨trivial, hD.oks⟩
  exact lv_iinc hF.1 hF.2.1 hd (hD.2.2.1.has) hj hv hn rfl (fun ls hl => kk p e s m args below meth c R mc ms ρ0 h0 hF hR cells slots ρ H locs ls (hD2.s1 (pb_lv.s1 (v := .int v) hl)))
-- returns
theorem pb_W_Q {p : Program} {l : Launch} {e : Env} {R : Room} {s : State} {m : MethodId} {args : Array Value} {below : List Frame} {meth : Method} {c : Code} {H : Heap} {locs : List Loc} {cells slots : Nat} {Q Q' : State → Prop} {g : JFrame} (hw : W p l e R s m args below meth c H locs cells slots Q g) (hq : ∀ t, Q t → Q' t) : W p l e R s m args below meth c H locs cells slots Q' g := fun T hT X => by
  obtain ⟨t, a, b⟩ := hw T hT X
  exact ⟨t, a, hq t b⟩
theorem pb_ireturn {x : Int32} (hd : decode y.2.1 pc = .ok (.ireturn, 1)) (hr : y.2.2.2 = some .int) (hq : post (some (.int x)) h) : pb_S Z y d k n post pc lv [.int x] h := by
  intro p e s m args below meth c R mc ms ρ0 h0 hF hR cells slots ρ H locs ls hD
  refine W.widen (k := mc) (n := ms) (by have := hD.1; omega) (by have := hD.2.1; omega) ?_
  exact W.iret hF.1 hF.2.1 (hF.2.2.1.trans hr) (fun t ht hW => ⟨some (.int x), ρ, h, rfl, by rw [ht]; exact hD.2.2.2.1, hD.2.2.2.2.1, ⟨trivial, trivial⟩, hq⟩) hD.2.2.2.2.2.2.2 hd hF.2.2.2.2.2.2.2.1
theorem pb_zreturn {x : Int32} (hd : decode y.2.1 pc = .ok (.ireturn, 1)) (hr : y.2.2.2 = some .boolean) (hx : x = 0 ∨ x = 1) (hq : post (some (.int x)) h) : pb_S Z y d k n post pc lv [.int x] h := by
  intro p e s m args below meth c R mc ms ρ0 h0 hF hR cells slots ρ H locs ls hD
  refine W.widen (k := mc) (n := ms) (by have := hD.1; omega) (by have := hD.2.1; omega) ?_
  exact W.zret hF.1 hF.2.1 (hF.2.2.1.trans hr) (by rcases hx with rfl | rfl <;> rfl) (fun t ht hW => ⟨some (.int x), ρ, h, rfl, by rw [ht]; exact hD.2.2.2.1, hD.2.2.2.2.1, ⟨trivial, trivial⟩, hq⟩) hD.2.2.2.2.2.2.2 hd hF.2.2.2.2.2.2.2.1
theorem pb_lreturn {x : Int64} (hd : decode y.2.1 pc = .ok (.lreturn, 1)) (hr : y.2.2.2 = some .long) (hq : post (some (.long x)) h) : pb_S Z y d k n post pc lv [.long x] h := by
  intro p e s m args below meth c R mc ms ρ0 h0 hF hR cells slots ρ H locs ls hD
  refine W.widen (k := mc) (n := ms) (by have := hD.1; omega) (by have := hD.2.1; omega) ?_
  exact W.lret hF.1 hF.2.1 (hF.2.2.1.trans hr) (fun t ht hW => ⟨some (.long x), ρ, h, rfl, by rw [ht]; exact hD.2.2.2.1, hD.2.2.2.2.1, ⟨trivial, trivial⟩, hq⟩) hD.2.2.2.2.2.2.2 hd hF.2.2.2.2.2.2.2.1
theorem pb_return (hd : decode y.2.1 pc = .ok (.return_, 1)) (hr : y.2.2.2 = none) (hq : post none h) : pb_S Z y d k n post pc lv [] h := by
  intro p e s m args below meth c R mc ms ρ0 h0 hF hR cells slots ρ H locs ls hD
  refine W.widen (k := mc) (n := ms) (by have := hD.1; omega) (by have := hD.2.1; omega) ?_
  exact W.vret hF.1 hF.2.1 (hF.2.2.1.trans hr) (fun t ht hW => ⟨none, ρ, h, rfl, by rw [ht]; exact hD.2.2.2.1, hD.2.2.2.2.1, trivial, hq⟩) hD.2.2.2.2.2.2.2 hd hF.2.2.2.2.2.2.2.1
theorem pb_areturn {v : Value} {rt : FieldType} (hd : decode y.2.1 pc = .ok (.areturn, 1)) (hr : y.2.2.2 = some rt) (hrt : (∃ n, rt = .object n) ∨ ∃ t, rt = .array t) (hv : v = .null ∨ ∃ a, v = .ref a) (hq : post (some v) h) : pb_S Z y d k n post pc lv [v] h := by
  intro p e s m args below meth c R mc ms ρ0 h0 hF hR cells slots ρ H locs ls hD
  refine W.widen (k := mc) (n := ms) (by have := hD.1; omega) (by have := hD.2.1; omega) ?_
  exact W.aret hF.1 hF.2.1 (hF.2.2.1.trans hr) hrt (by rcases hv with rfl | ⟨a, rfl⟩; exact Or.inl rfl; exact Or.inr ⟨_, rfl⟩) (fun t ht hW => ⟨some v, ρ, h, rfl, by rw [ht]; exact hD.2.2.2.1, hD.2.2.2.2.1, ⟨hD.oks.1, trivial⟩, hq⟩) hD.2.2.2.2.2.2.2 hd hF.2.2.2.2.2.2.2.1
end PBI
end
section
section PBH
variable {Z : pb_Z} {y : pb_M} {d k n : Nat} {post : Option Value → pb_H → Prop} {pc : Nat} {lv : List (Option Value)} {st : List Value} {h : pb_H}
/-- a class of the list, by its number: name, fields, how many, their types -/
def pb_cl (ci : Nat) (C : String) (T : u_T) (N : Nat) (ty : Nat → FieldType) : Prop := vwCl[ci]? = some (C, T, N) ∧ (∀ w ∈ u_ws C T N, w ∈ pb_tbl) ∧ (∀ j, j < N → parseFieldDescriptor (T j).2.2.1 = some (ty j)) ∧ (∀ a, a < N → ∀ b, b < N → a ≠ b → (T a).2.1 ≠ (T b).2.1)
/-- a field's entry in a class file's pool -/
def pb_fl (own : String) (idx ci kf : Nat) (C : String) (T : u_T) (N : Nat) (ty : Nat → FieldType) : Prop := pb_cl ci C T N ty ∧ kf < N ∧ Cond.fieldLink own idx (T kf).1 (T kf).2.1 (T kf).2.2.1 ∈ pb_tbl
theorem pb_nar (ρ : Nat → Nat) {ty : FieldType} {v : Value} (h : narrow ty v = v) : narrow ty (pb_up ρ v) = pb_up ρ v := by
  cases v <;> first | exact h | (cases ty <;> first | rfl | exact h | (simp [narrow] at h ⊢; done) | (simp [pb_up, narrow]; done))
theorem pb_fit (ρ : Nat → Nat) {ty : FieldType} {v : Value} (h : fits ty v = true) : fits ty (pb_up ρ v) = true := by
  cases v <;> first | exact h | (cases ty <;> first | exact h | (simp [fits] at h ⊢; done) | (simp [pb_up, fits]; done))
theorem pb_cellP {ρ : Nat → Nat} {H : Heap} {ci : Nat} {fs : List Value} {q : Nat} (hc : pb_cell Z ρ (.inr (.inr (ci, fs))) q H) : va_P (pb_zD Z) vwCl [(q, .inr (ci, fs.map (pb_up ρ)))] H := fun j x hj => by
  cases j with
  | zero =>
    cases hj
    obtain ⟨r, h1, -, h3⟩ := hc
    exact ⟨r, h1, h3⟩
  | succ j => cases hj
theorem pb_getf {own : String} {idx ci kf N a : Nat} {C : String} {T : u_T} {ty : Nat → FieldType} {fs : List Value} {v : Value} {pc2 : Nat} (hl : pb_fl own idx ci kf C T N ty) (hw : y.1.cls = own) (hd : decode y.2.1 pc = .ok (.getfield idx, 3)) (ha : h a = some (.inr (.inr (ci, fs)))) (hv : fs[kf]? = some v) (hp : pc + 3 = pc2) (kk : pb_S Z y d k n post pc2 lv (v :: st) h) : pb_S Z y d k n post pc lv (.ref a :: st) h := by
  subst hp hw
  intro p e s m args below meth c R mc ms ρ0 h0 hF hR cells slots ρ H locs ls hD
  have hcell := hD.2.2.2.1.1 a _ ha
  exact va_get hF.1 hF.2.1 hF.2.2.2.2.2.1 hl.1.2.1 hF.2.2.2.2.1 hF.2.2.2.2.2.2.1.1.1 (pb_cellP hcell.1) 0 rfl hl.1.1 kf hl.2.1 (hF.2.2.2.2.2.1 _ hl.2.2) (fun _ q => q) (v := pb_up ρ v) (by rw [List.getElem?_map, hv]; rfl) hd
    (kk p e s m args below meth c R mc ms ρ0 h0 hF hR cells slots ρ H locs ls (hD.stk ⟨pb_oks_mem hcell.2 v (List.mem_of_getElem? hv), hD.oks.2⟩))
/-- the one field of a nest mate's that is private -/
theorem pb_getN {own host : String} {idx ci kf N a : Nat} {C : String} {T : u_T} {ty : Nat → FieldType} {fs : List Value} {v : Value} {pc2 : Nat} (hl : pb_cl ci C T N ty) (hk : kf < N) (hi : Cond.fieldLinkNest own idx (T kf).1 (T kf).2.1 (T kf).2.2.1 host ∈ pb_nw) (hw : y.1.cls = own) (hd : decode y.2.1 pc = .ok (.getfield idx, 3)) (ha : h a = some (.inr (.inr (ci, fs)))) (hv : fs[kf]? = some v) (hp : pc + 3 = pc2) (kk : pb_S Z y d k n post pc2 lv (v :: st) h) : pb_S Z y d k n post pc lv (.ref a :: st) h := by
  subst hp hw
  intro p e s m args below meth c R mc ms ρ0 h0 hF hR cells slots ρ H locs ls hD
  have hcell := hD.2.2.2.1.1 a _ ha
  exact va_getN hF.1 hF.2.1 hF.2.2.2.2.2.1 hl.2.1 hF.2.2.2.2.1 hF.2.2.2.2.2.2.1.1.1 (pb_cellP hcell.1) 0 rfl hl.1 kf hk (va_Nw.use rfl (hF.2.2.2.2.2.2.1.2 _ hi)) (fun _ q => q) (v := pb_up ρ v) (by rw [List.getElem?_map, hv]; rfl) hd
    (kk p e s m args below meth c R mc ms ρ0 h0 hF hR cells slots ρ H locs ls (hD.stk ⟨pb_oks_mem hcell.2 v (List.mem_of_getElem? hv), hD.oks.2⟩))
theorem pb_oks_set {h : pb_H} : ∀ {fs : List Value} {i : Nat} {v : Value}, pb_oks h fs → pb_ok h v → pb_oks h (fs.set i v)
  | [], _, _, hs, _ => hs
  | _ :: _, 0, _, hs, hv => ⟨hv, hs.2⟩
  | _ :: _, i + 1, _, hs, hv => ⟨hs.1, pb_oks_set hs.2 hv⟩
/-- behind a write -/
theorem pb_Dy.wr {k n mc ms : Nat} {ρ0 : Nat → Nat} {h0 : pb_H} {st' : List Value} {cells slots : Nat} {ρ : Nat → Nat} {H H' : Heap} {locs : List Loc} {ls : Array Slot} {a i : Nat} {c0 c : pb_C} (hD : pb_Dy Z y k n mc ms ρ0 h0 lv st h cells slots ρ H locs ls) (hs : pb_oks h st') (ha : h a = some c0) (h2 : 2 ≤ a) (hc : pb_cell Z ρ c (ρ a) H') (hrf : pb_refs h c) (hz : H'.size = H.size) (ho : ∀ q : Nat, q ≠ ρ a → H'[q]? = H[q]?) : pb_Dy Z y k n mc ms ρ0 h0 lv st' (pb_set h a c) cells slots ρ H' (locs ++ [⟨ρ a, i⟩]) ls :=
  ⟨hD.1, hD.2.1, hD.2.2.1, hD.2.2.2.1.set ha h2 hc hrf hz ho, hD.2.2.2.2.1.set a c, pb_oks_mono (fun _ => pb_set_dom) hs, fun j v hj => pb_ok_mono (fun _ => pb_set_dom) (hD.2.2.2.2.2.2.1 j v hj), t_lc hD.2.2.2.2.2.2.2 (hD.2.2.2.1.2.2.1 a h2 (by rw [ha]; exact fun q => by cases q))⟩
theorem pb_putf {own : String} {idx ci kf N a : Nat} {C : String} {T : u_T} {ty : Nat → FieldType} {fs fs2 : List Value} {v : Value} {pc2 : Nat} (hl : pb_fl own idx ci kf C T N ty) (hw : y.1.cls = own) (hd : decode y.2.1 pc = .ok (.putfield idx, 3)) (ha : h a = some (.inr (.inr (ci, fs)))) (h2 : 2 ≤ a) (hfin : (T kf).2.2.2 = false) (hn : narrow (ty kf) v = v) (hft : fits (ty kf) v = true) (hs : fs.set kf v = fs2) (hp : pc + 3 = pc2) (kk : pb_S Z y d k n post pc2 lv st (pb_set h a (.inr (.inr (ci, fs2))))) : pb_S Z y d k n post pc lv (v :: .ref a :: st) h := by
  subst hp hw hs
  intro p e s m args below meth c R mc ms ρ0 h0 hF hR cells slots ρ H locs ls hD
  have hcell := hD.2.2.2.1.1 a _ ha
  obtain ⟨hcl, hk, hli⟩ := hl
  obtain ⟨hc, hin, hty, hnm⟩ := hcl
  have hts := hF.2.2.2.2.2.1
  have hK := hF.2.2.2.2.2.2.1.1.1
  have hap := va_apart (own := y.1.cls) hts hin ty hty hnm hK hc
  obtain ⟨r, h1, hlen, cell, q1, q2, q3, q4⟩ := hcell.1
  have hr : r = (C, T, N) := Option.some.inj (h1.symm.trans hc)
  subst hr
  obtain ⟨hS, hfc, kC, hkC, hkind⟩ := hK.1 ci _ hc
  obtain ⟨cf, kf', fi, f, hi, hsl⟩ := hS kf hk
  have hlay := hts _ (hin _ (u_in_lay hk))
  unfold u_lay at hlay
  rw [if_neg (by rw [hfin]; decide)] at hlay
  have hst := (u_facts hfc hkC (u_lays hts hin hk) hi).1
  have h6 := u_store hfc hkC hkind hlay hi (hty kf hk) (pb_nar ρ hn) (pb_fit ρ hft)
  refine W.putK hF.1 hF.2.1 (f := f) (v := pb_up ρ v) ⟨hF.2.2.2.2.1, hts _ hli, ⟨_, _, _, hi⟩, hst⟩ (by rw [q2]; exact h6) q1 q3 (by rw [hsl]; exact k2_hasslot (q4 kf hk)) rfl rfl hd fun H' e1 e2 e3 => ?_
  refine kk p e s m args below meth c R mc ms ρ0 h0 hF hR cells slots ρ H' _ ls (hD.wr hD.oks.2.2 ha h2 ⟨_, hc, by rw [List.length_set]; exact hlen, ?_⟩ (pb_oks_set hcell.2 hD.oks.1) e2 e3)
  rw [hsl] at e1
  rw [List.map_set]
  exact t_OB.to (V := updV (vp_V (fs.map (pb_up ρ))) kf (pb_up ρ v)) ⟨_, e1, q2, q3, t_set q4 hap hk _⟩ (fun j _ => vp_updV_set (by rw [List.length_map, hlen]; exact hk) _ j)
theorem pb_putF {own : String} {idx ci kf N a : Nat} {C : String} {T : u_T} {ty : Nat → FieldType} {fs fs2 : List Value} {v : Value} {pc2 : Nat} (hl : pb_fl own idx ci kf C T N ty) (hw : y.1.cls = own) (hd : decode y.2.1 pc = .ok (.putfield idx, 3)) (ha : h a = some (.inr (.inr (ci, fs)))) (h2 : 2 ≤ a) (hfin : (T kf).2.2.2 = true) (hni : y.1.name = "<init>") (hdc : (T kf).1 = own) (hn : narrow (ty kf) v = v) (hft : fits (ty kf) v = true) (hs : fs.set kf v = fs2) (hp : pc + 3 = pc2) (kk : pb_S Z y d k n post pc2 lv st (pb_set h a (.inr (.inr (ci, fs2))))) : pb_S Z y d k n post pc lv (v :: .ref a :: st) h := by
  subst hp hw hs
  intro p e s m args below meth c R mc ms ρ0 h0 hF hR cells slots ρ H locs ls hD
  have hcell := hD.2.2.2.1.1 a _ ha
  obtain ⟨hcl, hk, hli⟩ := hl
  obtain ⟨hc, hin, hty, hnm⟩ := hcl
  have hts := hF.2.2.2.2.2.1
  have hK := hF.2.2.2.2.2.2.1.1.1
  have hap := va_apart (own := y.1.cls) hts hin ty hty hnm hK hc
  obtain ⟨r, h1, hlen, cell, q1, q2, q3, q4⟩ := hcell.1
  have hr : r = (C, T, N) := Option.some.inj (h1.symm.trans hc)
  subst hr
  obtain ⟨hS, hfc, kC, hkC, hkind⟩ := hK.1 ci _ hc
  obtain ⟨cf, kf', fi, f, hi, hsl⟩ := hS kf hk
  have hlay := hts _ (hin _ (u_in_lay hk))
  unfold u_lay at hlay
  rw [if_pos hfin] at hlay
  have hst := (u_facts hfc hkC (u_lays hts hin hk) hi).1
  have hcf : m.cls = cf := by
    obtain ⟨_, _, c', _, _, _, -, -, hf', -, -, -, hown2, -⟩ := Cond.laysFinal_spec hlay
    have e1 : c' = cf := by have := hi.symm.trans hf'; simp at this; exact this.1.symm
    rw [hdc] at hown2
    rw [← e1]; exact Option.some.inj (hF.2.2.2.2.1.symm.trans hown2)
  have h6 := u_fits hfc hkC hkind (Or.inr hlay) hi (hty kf hk) (pb_nar ρ hn) (pb_fit ρ hft)
  refine W.putFinK hF.1 hF.2.1 (v := pb_up ρ v) hF.2.2.2.2.1 (hts _ hli) hi hst hcf (hF.2.2.2.2.2.2.2.2.trans hni) (by rw [q2]; exact h6) q1 q3 (by rw [hsl]; exact k2_hasslot (q4 kf hk)) rfl rfl hd fun H' e1 e2 e3 => ?_
  refine kk p e s m args below meth c R mc ms ρ0 h0 hF hR cells slots ρ H' _ ls (hD.wr hD.oks.2.2 ha h2 ⟨_, hc, by rw [List.length_set]; exact hlen, ?_⟩ (pb_oks_set hcell.2 hD.oks.1) e2 e3)
  rw [hsl] at e1
  rw [List.map_set]
  exact t_OB.to (V := updV (vp_V (fs.map (pb_up ρ))) kf (pb_up ρ v)) ⟨_, e1, q2, q3, t_set q4 hap hk _⟩ (fun j _ => vp_updV_set (by rw [List.length_map, hlen]; exact hk) _ j)
-- arrays
theorem pb_pkA {s : State} (hK : pb_K Z s) {kd : Nat} (hkd : kd < 4) : ArrOfT s (pb_zp Z kd) (pb_pk kd) := by
  rcases (show kd = 0 ∨ kd = 1 ∨ kd = 2 ∨ kd = 3 by omega) with rfl | rfl | rfl | rfl
  · exact (hK.1.1.2 0 _ rfl).1
  · exact (hK.1.1.2 1 _ rfl).1
  · exact hK.1.2.1
  · exact hK.1.2.2.1
theorem pb_isA {s : State} {cA : ClassId} {ty : FieldType} (hA : ArrOfT s cA ty) {cell : Cell} (hc : cell.cls = cA) (hv : ∀ z, cell.vm ≠ .statics z) : s.isArrayOf cell ty := by
  obtain ⟨-, k, hk, comp, hkind⟩ := hA 0 (fun _ => .null)
  exact ⟨hv, k, by rw [hc]; exact hk, comp, hkind⟩
theorem pb_iaload {kd N a j : Nat} {f : Nat → Int32} {pc2 : Nat} (hd : decode y.2.1 pc = .ok (.iaload, 1)) (hkd : kd < 4 ∧ pb_pk kd = .int) (ha : h a = some (.inl (kd, N, f))) (hj : j < N) (hN : N < 2 ^ 31) (hp : pc + 1 = pc2) (kk : pb_S Z y d k n post pc2 lv (.int (f j) :: st) h) : pb_S Z y d k n post pc lv (.int (nI j) :: .ref a :: st) h := by
  subst hp
  intro p e s m args below meth c R mc ms ρ0 h0 hF hR cells slots ρ H locs ls hD
  obtain ⟨cell, c1, c2, c3, c4, c5, c6, -⟩ := (hD.2.2.2.1.1 a _ ha).1
  have hcl : (nI j).toNatClampNeg = j := nI_clamp (by omega)
  have hA := pb_isA (pb_pkA hF.2.2.2.2.2.2.1 hkd.1) c2 c3
  rw [hkd.2] at hA
  exact W.iald (v := .int (f j)) hF.1 hF.2.1 c1 hA c4 (fun q => nI_in hj hN (q.elim Or.inl (fun q => Or.inr (Nat.le_trans c5.1 q)))) (by rw [hcl]; exact c6 j hj) rfl rfl hd
    (kk p e s m args below meth c R mc ms ρ0 h0 hF hR cells slots ρ H locs ls (hD.stk ⟨trivial, hD.oks.2.2⟩))
theorem pb_baload {N a j : Nat} {f : Nat → Int32} {pc2 : Nat} (hd : decode y.2.1 pc = .ok (.baload, 1)) (ha : h a = some (.inl (1, N, f))) (hj : j < N) (hN : N < 2 ^ 31) (hp : pc + 1 = pc2) (kk : pb_S Z y d k n post pc2 lv (.int (f j) :: st) h) : pb_S Z y d k n post pc lv (.int (nI j) :: .ref a :: st) h := by
  subst hp
  intro p e s m args below meth c R mc ms ρ0 h0 hF hR cells slots ρ H locs ls hD
  obtain ⟨cell, c1, c2, c3, c4, c5, c6, -⟩ := (hD.2.2.2.1.1 a _ ha).1
  have hcl : (nI j).toNatClampNeg = j := nI_clamp (by omega)
  have hA := pb_isA (pb_pkA hF.2.2.2.2.2.2.1 (kd := 1) (by omega)) c2 c3
  exact W.zald (v := .int (f j)) hF.1 hF.2.1 c1 hA c4 (fun q => nI_in hj hN (q.elim Or.inl (fun q => Or.inr (Nat.le_trans c5.1 q)))) (by rw [hcl]; exact c6 j hj) rfl rfl hd
    (kk p e s m args below meth c R mc ms ρ0 h0 hF hR cells slots ρ H locs ls (hD.stk ⟨trivial, hD.oks.2.2⟩))
theorem pb_alen {kd N a : Nat} {f : Nat → Int32} {pc2 : Nat} (hd : decode y.2.1 pc = .ok (.arraylength, 1)) (hkd : kd < 4) (ha : h a = some (.inl (kd, N, f))) (hp : pc + 1 = pc2) (kk : pb_S Z y d k n post pc2 lv (.int (nI N) :: st) h) : pb_S Z y d k n post pc lv (.ref a :: st) h := by
  subst hp
  intro p e s m args below meth c R mc ms ρ0 h0 hF hR cells slots ρ H locs ls hD
  obtain ⟨cell, c1, c2, c3, c4, c5, c6, -⟩ := (hD.2.2.2.1.1 a _ ha).1
  exact W.alen hF.1 hF.2.1 c1 (pb_isA (pb_pkA hF.2.2.2.2.2.2.1 hkd) c2 c3) c5.2 rfl rfl hd
    (kk p e s m args below meth c R mc ms ρ0 h0 hF hR cells slots ρ H locs ls (hD.stk ⟨trivial, hD.oks.2⟩))
def pb_u (f : Nat → Int32) (j : Nat) (x : Int32) : Nat → Int32 := fun i => if i = j then x else f i
theorem pb_arrU (cA : ClassId) (N : Nat) (f : Nat → Int32) (j : Nat) (x : Int32) : (arrV cA N (fun i => .int (f i))).setSlot j (.int x) = arrV cA N (fun i => .int (pb_u f j x i)) := by
  rw [arrV_store]
  refine congrArg (arrV cA N) (funext fun i => ?_)
  by_cases e : i = j
  · subst e; simp [updV, pb_u]
  · simp [updV, pb_u, e]
theorem pb_cellA {Z : pb_Z} {ρ : Nat → Nat} {kd N q : Nat} {f : Nat → Int32} {H : Heap} (hH : H[q]? = some (arrV (pb_zp Z kd) N (fun j => .int (f j)))) : pb_cell Z ρ (.inl (kd, N, f)) q H := ⟨_, hH, rfl, (fun z hz => by cases hz), (fun hz => by cases hz), ⟨by rw [arrV_size]; exact Nat.le_refl _, by rw [arrV_size]; rfl⟩, fun j hj => arrV_read _ _ hj, fun _ => rfl⟩
theorem pb_iastore {N a j : Nat} {f : Nat → Int32} {x : Int32} {pc2 : Nat} (hd : decode y.2.1 pc = .ok (.iastore, 1)) (ha : h a = some (.inl (0, N, f))) (h2 : 2 ≤ a) (hj : j < N) (hN : N < 2 ^ 31) (hp : pc + 1 = pc2) (kk : pb_S Z y d k n post pc2 lv st (pb_set h a (.inl (0, N, pb_u f j x)))) : pb_S Z y d k n post pc lv (.int x :: .int (nI j) :: .ref a :: st) h := by
  subst hp
  intro p e s m args below meth c R mc ms ρ0 h0 hF hR cells slots ρ H locs ls hD
  obtain ⟨cell, c1, c2, c3, c4, c5, c6, c7⟩ := (hD.2.2.2.1.1 a _ ha).1
  have hcl : (nI j).toNatClampNeg = j := nI_clamp (by omega)
  refine W.iast hF.1 hF.2.1 c1 (pb_isA (pb_pkA hF.2.2.2.2.2.2.1 (kd := 0) (by omega)) c2 c3) c4 (fun q => nI_in hj hN (q.elim Or.inl (fun q => Or.inr (Nat.le_trans c5.1 q)))) rfl rfl hd (fun H' e1 e2 e3 => ?_)
  rw [hcl, c7 (by omega), pb_arrU] at e1
  exact kk p e s m args below meth c R mc ms ρ0 h0 hF hR cells slots ρ H' _ ls (hD.wr hD.oks.2.2.2 ha h2 (pb_cellA e1) trivial e2 e3)
theorem pb_bastore {N a j : Nat} {f : Nat → Int32} {x : Int32} {pc2 : Nat} (hd : decode y.2.1 pc = .ok (.bastore, 1)) (ha : h a = some (.inl (1, N, f))) (h2 : 2 ≤ a) (hx : x = 0 ∨ x = 1) (hj : j < N) (hN : N < 2 ^ 31) (hp : pc + 1 = pc2) (kk : pb_S Z y d k n post pc2 lv st (pb_set h a (.inl (1, N, pb_u f j x)))) : pb_S Z y d k n post pc lv (.int x :: .int (nI j) :: .ref a :: st) h := by
  subst hp
  intro p e s m args below meth c R mc ms ρ0 h0 hF hR cells slots ρ H locs ls hD
  obtain ⟨cell, c1, c2, c3, c4, c5, c6, c7⟩ := (hD.2.2.2.1.1 a _ ha).1
  have hcl : (nI j).toNatClampNeg = j := nI_clamp (by omega)
  have hnx : narrow .boolean (.int x) = .int x := by rcases hx with rfl | rfl <;> rfl
  refine W.zast hF.1 hF.2.1 c1 (pb_isA (pb_pkA hF.2.2.2.2.2.2.1 (kd := 1) (by omega)) c2 c3) c4 (fun q => nI_in hj hN (q.elim Or.inl (fun q => Or.inr (Nat.le_trans c5.1 q)))) rfl rfl hd (fun H' e1 e2 e3 => ?_)
  rw [hcl, c7 (by omega), hnx, pb_arrU] at e1
  exact kk p e s m args below meth c R mc ms ρ0 h0 hF hR cells slots ρ H' _ ls (hD.wr hD.oks.2.2.2 ha h2 (pb_cellA e1) trivial e2 e3)
def pb_rk : Nat → FieldType
  | 0 => .object "PaintBox$Tube"
  | 1 => .object "PaintBox$Mixture"
  | 2 => .object "PaintBox$Area"
  | 3 => .object "PaintBox$Layer"
  | _ => .array .int
theorem pb_rkA {s : State} (hK : pb_K Z s) {kd : Nat} (hkd : kd < 5) : ArrOfT s (pb_zr Z kd) (pb_rk kd) := by
  rcases (show kd = 0 ∨ kd = 1 ∨ kd = 2 ∨ kd = 3 ∨ kd = 4 by omega) with rfl | rfl | rfl | rfl | rfl
  · exact (hK.1.1.2 2 _ rfl).1
  · exact (hK.1.1.2 3 _ rfl).1
  · exact (hK.1.1.2 4 _ rfl).1
  · exact (hK.1.1.2 5 _ rfl).1
  · exact (hK.1.1.2 6 _ rfl).1
theorem pb_rfu (ρ : Nat → Nat) (o : Option Nat) : va_rf (o.map ρ) = pb_up ρ (va_rf o) := by cases o <;> rfl
theorem pb_aaload {kd N a j : Nat} {f : Nat → Option Nat} {v : Value} {pc2 : Nat} (hd : decode y.2.1 pc = .ok (.aaload, 1)) (hkd : kd < 5) (ha : h a = some (.inr (.inl (kd, N, f)))) (hj : j < N) (hN : N < 2 ^ 31) (hv : va_rf (f j) = v) (hp : pc + 1 = pc2) (kk : pb_S Z y d k n post pc2 lv (v :: st) h) : pb_S Z y d k n post pc lv (.int (nI j) :: .ref a :: st) h := by
  subst hp
  intro p e s m args below meth c R mc ms ρ0 h0 hF hR cells slots ρ H locs ls hD
  have hcell := hD.2.2.2.1.1 a _ ha
  have hcl : (nI j).toNatClampNeg = j := nI_clamp (by omega)
  refine W.aald (v := pb_up ρ v) (ty := pb_rk kd) hF.1 hF.2.1 hcell.1 (pb_rkA hF.2.2.2.2.2.2.1 hkd N _) ?_ (fun q => by cases q) (by rw [arrV_size]; exact nI_in hj hN) (by rw [hcl, arrV_read _ _ hj, pb_rfu, hv]) rfl rfl hd
    (kk p e s m args below meth c R mc ms ρ0 h0 hF hR cells slots ρ H locs ls (hD.stk ⟨?_, hD.oks.2.2⟩))
  · rcases (show kd = 0 ∨ kd = 1 ∨ kd = 2 ∨ kd = 3 ∨ kd = 4 by omega) with rfl | rfl | rfl | rfl | rfl <;> rfl
  · rw [← hv]
    cases hf : f j with
    | none => exact trivial
    | some b => exact hcell.2 j b hf
/-- an object into a row of its class -/
theorem pb_aastore {kd ci N a b j : Nat} {f : Nat → Option Nat} {fs : List Value} {C : String} {T : u_T} {M : Nat} {pc2 : Nat} (hd : decode y.2.1 pc = .ok (.aastore, 1)) (hkd : kd < 4) (hC : vwCl[ci]? = some (C, T, M)) (hCk : pb_rk kd = .object C) (ha : h a = some (.inr (.inl (kd, N, f)))) (h2 : 2 ≤ a) (hb : h b = some (.inr (.inr (ci, fs)))) (hj : j < N) (hN : N < 2 ^ 31) (hp : pc + 1 = pc2) (kk : pb_S Z y d k n post pc2 lv st (pb_set h a (.inr (.inl (kd, N, fun i => if i = j then some b else f i))))) : pb_S Z y d k n post pc lv (.ref b :: .int (nI j) :: .ref a :: st) h := by
  subst hp
  intro p e s m args below meth c R mc ms ρ0 h0 hF hR cells slots ρ H locs ls hD
  have hcell := hD.2.2.2.1.1 a _ ha
  have hcl : (nI j).toNatClampNeg = j := nI_clamp (by omega)
  have hK := hF.2.2.2.2.2.2.1.1.1
  obtain ⟨r', hr', hlen', cellV, g1, g2, g3, -⟩ := (hD.2.2.2.1.1 b _ hb).1
  have hcls := (hK.1 ci _ hC).2
  have hRA : va_RA s (pb_zr Z kd) (.object C) := by
    rcases (show kd = 0 ∨ kd = 1 ∨ kd = 2 ∨ kd = 3 by omega) with rfl | rfl | rfl | rfl
    · have := (hK.2 2 _ rfl).2; cases hCk; exact this
    · have := (hK.2 3 _ rfl).2; cases hCk; exact this
    · have := (hK.2 4 _ rfl).2; cases hCk; exact this
    · have := (hK.2 5 _ rfl).2; cases hCk; exact this
  obtain ⟨kA, comp, k1, k2, k3, -⟩ := hRA
  have hcomp : comp = (pb_zD Z).1 ci := Option.some.inj (k3.symm.trans hcls.1)
  subst hcomp
  obtain ⟨kC, hkC, -⟩ := id hcls.2
  refine W.aast hF.1 hF.2.1 hcell.1 (fun q h => by cases h) (fun h => by cases h) k1 k2 rfl hkC ⟨nI_pos (by omega), by rw [hcl, arrV_size]; exact hj⟩ g1 (fun q h => by rw [g3] at h; cases h) (by rw [g2]; exact hkC) (by rw [g2]; exact va_assign hcls) rfl rfl hd fun H' e1 e2 e3 => ?_
  refine kk p e s m args below meth c R mc ms ρ0 h0 hF hR cells slots ρ H' _ ls (hD.wr hD.oks.2.2.2 ha h2 ?_ ?_ e2 e3)
  · show H'[ρ a]? = _
    rw [e1, hcl, arrV_store]
    refine congrArg some (congrArg (arrV _ N) (funext fun i => ?_))
    by_cases e : i = j
    · subst e; simp [updV, va_rf]
    · simp [updV, e]
  · intro i q hq
    by_cases e : i = j
    · simp only [e, if_true] at hq
      cases hq
      rw [hb]; exact fun z => by cases z
    · simp only [e, if_false] at hq
      exact hcell.2 i q hq
-- making
/-- behind a making -/
theorem pb_Dy.mk {k n k2 n2 mc ms : Nat} {ρ0 : Nat → Nat} {h0 : pb_H} {st' : List Value} {cells slots cells2 slots2 : Nat} {ρ : Nat → Nat} {H H' : Heap} {locs : List Loc} {ls : Array Slot} {a : Nat} {c : pb_C} (hD : pb_Dy Z y k n mc ms ρ0 h0 lv st h cells slots ρ H locs ls) (hs : pb_oks h st') (ha : h a = none) (h2 : 2 ≤ a) (hk : cells2 + k2 ≤ cells + k) (hn : slots2 + n2 ≤ slots + n) (hc : pb_cell Z (pb_re ρ a H.size) c H.size H') (hrf : pb_refs h c) (hz : H.size ≤ H'.size) (ho : ∀ q : Nat, q < H.size → H'[q]? = H[q]?) : pb_Dy Z y k2 n2 mc ms ρ0 h0 lv (.ref a :: st') (pb_set h a c) cells2 slots2 (pb_re ρ a H.size) H' locs ls := by
  have he : ∀ b, h b ≠ none → pb_re ρ a H.size b = ρ b := fun b hb => if_neg (fun e => hb (by rw [e]; exact ha))
  exact ⟨by have := hD.1; omega, by have := hD.2.1; omega, hD.2.2.1.ext hD.2.2.2.2.2.2.1 he, hD.2.2.2.1.new ha h2 hc hrf hz ho, hD.2.2.2.2.1.new c _ ha, ⟨(by show pb_set h a c a ≠ none; rw [pb_set_self]; exact (fun q => by cases q)), pb_oks_mono (fun _ => pb_set_dom) hs⟩, fun j v hj => pb_ok_mono (fun _ => pb_set_dom) (hD.2.2.2.2.2.2.1 j v hj), hD.2.2.2.2.2.2.2⟩
theorem pb_st_re {h : pb_H} {ρ : Nat → Nat} {a q : Nat} {st : List Value} (ha : h a = none) (hs : pb_oks h st) : st.map (pb_up (pb_re ρ a q)) = st.map (pb_up ρ) := pb_ups_ext (fun b hb => if_neg (fun e => hb (by rw [e]; exact ha))) hs
theorem pb_new (a : Nat) {own : String} {idx ci N : Nat} {C : String} {T : u_T} {ty : Nat → FieldType} {fs : List Value} {k2 n2 pc2 : Nat} (hl : pb_cl ci C T N ty) (hw : y.1.cls = own) (hcl : Cond.classLink own idx C ∈ pb_tbl) (hin : Cond.instantiable C N ∈ pb_tbl) (hini : Cond.initialized C ∈ pb_tbl) (hd : decode y.2.1 pc = .ok (.new idx, 3)) (ha : h a = none) (h2 : 2 ≤ a) (hfs : (List.range N).map (fun j => defaultValue (ty j)) = fs) (hu : fs.all (fun v => match v with | .ref _ => false | _ => true) = true) (hk : k2 + 1 ≤ k) (hn : n2 + N ≤ n) (hp : pc + 3 = pc2) (kk : pb_S Z y d k2 n2 post pc2 lv (.ref a :: st) (pb_set h a (.inr (.inr (ci, fs))))) : pb_S Z y d k n post pc lv st h := by
  subst hp hw
  intro p e s m args below meth c R mc ms ρ0 h0 hF hR cells slots ρ H locs ls hD
  obtain ⟨hc, hin0, hty, hnm⟩ := hl
  have hts := hF.2.2.2.2.2.1
  have hKn := hF.2.2.2.2.2.2.1.1.1.1 ci _ hc
  have hup : ∀ ρ' : Nat → Nat, fs.map (pb_up ρ') = fs := fun ρ' => by
    have : ∀ l : List Value, l.all (fun v => match v with | .ref _ => false | _ => true) = true → l.map (pb_up ρ') = l := by
      intro l
      induction l with
      | nil => intro _; rfl
      | cons v l ih =>
        intro hl
        simp only [List.all_cons, Bool.and_eq_true] at hl
        rw [List.map_cons, ih hl.2]
        cases v <;> first | rfl | (simp at hl)
    exact this fs hu
  have hok : pb_oks h fs := by
    have : ∀ l : List Value, l.all (fun v => match v with | .ref _ => false | _ => true) = true → pb_oks h l := by
      intro l
      induction l with
      | nil => intro _; trivial
      | cons v l ih =>
        intro hl
        simp only [List.all_cons, Bool.and_eq_true] at hl
        refine ⟨?_, ih hl.2⟩
        cases v <;> first | trivial | (simp at hl)
    exact this fs hu
  refine W.newcK hF.1 hF.2.1 hF.2.2.2.2.1 (hts _ hcl) (hts _ hin) (hts _ hini) rfl hd (by rw [hR.2.2.1]; have := hD.1; omega) (by rw [hR.2.2.2]; have := hD.2.1; omega) hKn.2.1 rfl fun H1 kC hkC e1 z1 o1 => ?_
  have hst := pb_st_re (ρ := ρ) (q := H.size) ha hD.oks
  have hre : pb_re ρ a H.size a = H.size := if_pos rfl
  have kw := kk p e s m args below meth c R mc ms ρ0 h0 hF hR (cells + 1) (slots + N) (pb_re ρ a H.size) H1 locs ls (hD.mk hD.oks ha h2 (by omega) (by omega) (by
    refine ⟨_, hc, ?_, ?_⟩
    · rw [← hfs, List.length_map, List.length_range]
    · rw [hup]
      refine (u_born ty hts hin0 hKn hkC e1 hty).to (fun j hj => ?_)
      rw [← hfs]
      unfold vp_V
      rw [List.getD_eq_getElem?_getD, List.getElem?_map, List.getElem?_range hj]
      rfl) hok (by omega) o1)
  rw [List.map_cons, hst] at kw
  have e9 : pb_up (pb_re ρ a H.size) (.ref a) = .ref H.size := congrArg Value.ref hre
  rw [e9] at kw
  exact kw
theorem pb_newa (a : Nat) {ar : ArrayType} {kd N : Nat} {k2 n2 pc2 : Nat} (hd : decode y.2.1 pc = .ok (.newarray ar, 2)) (hkd : kd < 2 ∧ newarray.typeOf ar = pb_pk kd) (hw : Cond.arrayClass (pb_pk kd) ∈ pb_tbl) (ha : h a = none) (h2 : 2 ≤ a) (hN : N ≤ 100000) (hk : k2 + 1 ≤ k) (hn : n2 + N ≤ n) (hp : pc + 2 = pc2) (kk : pb_S Z y d k2 n2 post pc2 lv (.ref a :: st) (pb_set h a (.inl (kd, N, fun _ => 0)))) : pb_S Z y d k n post pc lv (.int (nI N) :: st) h := by
  subst hp
  intro p e s m args below meth c R mc ms ρ0 h0 hF hR cells slots ρ H locs ls hD
  have hts := hF.2.2.2.2.2.1
  have hcl : (nI N).toNatClampNeg = N := nI_clamp (by omega)
  have hK := hF.2.2.2.2.2.2.1.1.1
  have hfc : s.vm.findClass ("[" ++ (pb_pk kd).toString) = some (pb_zp Z kd) := by
    rcases (show kd = 0 ∨ kd = 1 by omega) with rfl | rfl
    · exact (hK.2 0 _ rfl).2
    · exact (hK.2 1 _ rfl).2
  have hcb : componentBytes (newarray.typeOf ar) ≤ 8 := by
    rw [hkd.2]
    rcases (show kd = 0 ∨ kd = 1 by omega) with rfl | rfl <;> decide
  have hdef : defaultValue (newarray.typeOf ar) = .int 0 := by
    rw [hkd.2]
    rcases (show kd = 0 ∨ kd = 1 by omega) with rfl | rfl <;> rfl
  refine W.newa hF.1 hF.2.1 (by rw [hkd.2]; exact hts _ hw) rfl hd rfl (nI_pos (by omega)) (by
    rw [hcl]
    have := Nat.mul_le_mul hN hcb
    omega) (by rw [hR.2.2.1]; have := hD.1; omega) (by rw [hR.2.2.2, hcl]; have := hD.2.1; omega) (fun cA kA comp f1 f2 f3 => ?_)
  rw [hkd.2, hfc] at f1
  cases f1
  rw [hcl, hdef]
  generalize hH1 : H.push ({ cls := pb_zp Z kd, slots := Array.replicate N (.int 0), vm := .none } : Cell) = H1
  have z1 : H1.size = H.size + 1 := by rw [← hH1, Array.size_push]
  have e1 : H1[H.size]? = some (arrV (pb_zp Z kd) N (fun _ => .int 0)) := by rw [← hH1, Array.getElem?_push_size, ← arrV_new]
  have o1 : ∀ q : Nat, q < H.size → H1[q]? = H[q]? := fun q hq => by rw [← hH1, Array.getElem?_push, if_neg (Nat.ne_of_lt hq)]
  have hst := pb_st_re (ρ := ρ) (q := H.size) ha hD.oks.2
  have hre : pb_re ρ a H.size a = H.size := if_pos rfl
  have kw := kk p e s m args below meth c R mc ms ρ0 h0 hF hR (cells + 1) (slots + N) (pb_re ρ a H.size) H1 locs ls (hD.mk hD.oks.2 ha h2 (by omega) (by omega) (pb_cellA e1) trivial (by omega) o1)
  rw [List.map_cons, hst] at kw
  have e9 : pb_up (pb_re ρ a H.size) (.ref a) = .ref H.size := congrArg Value.ref hre
  rw [e9] at kw
  exact kw
theorem pb_anewa (a : Nat) {own : String} {idx kd N : Nat} {C : String} {k2 n2 pc2 : Nat} (hd : decode y.2.1 pc = .ok (.anewarray idx, 3)) (hw : y.1.cls = own) (hkd : kd < 4) (hCk : pb_rk kd = .object C) (hcl : Cond.classLink own idx C ∈ pb_tbl) (ha : h a = none) (h2 : 2 ≤ a) (hN : N ≤ 100000) (hk : k2 + 1 ≤ k) (hn : n2 + N ≤ n) (hp : pc + 3 = pc2) (kk : pb_S Z y d k2 n2 post pc2 lv (.ref a :: st) (pb_set h a (.inr (.inl (kd, N, fun _ => none))))) : pb_S Z y d k n post pc lv (.int (nI N) :: st) h := by
  subst hp hw
  intro p e s m args below meth c R mc ms ρ0 h0 hF hR cells slots ρ H locs ls hD
  have hts := hF.2.2.2.2.2.1
  have hcN : (nI N).toNatClampNeg = N := nI_clamp (by omega)
  have hK := hF.2.2.2.2.2.2.1.1.1
  have hfc : s.vm.findClass ("[" ++ (FieldType.object C).toString) = some (pb_zr Z kd) := by
    rcases (show kd = 0 ∨ kd = 1 ∨ kd = 2 ∨ kd = 3 by omega) with rfl | rfl | rfl | rfl
    · obtain ⟨_, _, _, _, _, h9⟩ := (hK.2 2 _ rfl).2; cases hCk; exact h9
    · obtain ⟨_, _, _, _, _, h9⟩ := (hK.2 3 _ rfl).2; cases hCk; exact h9
    · obtain ⟨_, _, _, _, _, h9⟩ := (hK.2 4 _ rfl).2; cases hCk; exact h9
    · obtain ⟨_, _, _, _, _, h9⟩ := (hK.2 5 _ rfl).2; cases hCk; exact h9
  have hov : va_AO C s := by
    have hq := hF.2.2.2.2.2.2.1.1.2.2.2.2
    rcases (show kd = 0 ∨ kd = 1 ∨ kd = 2 ∨ kd = 3 by omega) with rfl | rfl | rfl | rfl
    · cases hCk; exact hq.1
    · cases hCk; exact hq.2.1
    · cases hCk; exact hq.2.2.1
    · cases hCk; exact hq.2.2.2.1
  refine W.anew hF.1 hF.2.1 hF.2.2.2.2.1 (hts _ hcl) (va_AO.use hov) rfl hd rfl (nI_pos (by omega)) (by rw [hcN]; omega) (by rw [hR.2.2.1]; have := hD.1; omega) (by rw [hR.2.2.2, hcN]; have := hD.2.1; omega) (fun cA kA comp f1 f2 f3 f4 => ?_)
  rw [hfc] at f1
  cases f1
  rw [hcN]
  generalize hH1 : H.push ({ cls := pb_zr Z kd, slots := Array.replicate N .null, vm := .none } : Cell) = H1
  have z1 : H1.size = H.size + 1 := by rw [← hH1, Array.size_push]
  have e1 : H1[H.size]? = some (arrV (pb_zr Z kd) N (fun _ => .null)) := by rw [← hH1, Array.getElem?_push_size, ← arrV_new]
  have o1 : ∀ q : Nat, q < H.size → H1[q]? = H[q]? := fun q hq => by rw [← hH1, Array.getElem?_push, if_neg (Nat.ne_of_lt hq)]
  have hst := pb_st_re (ρ := ρ) (q := H.size) ha hD.oks.2
  have hre : pb_re ρ a H.size a = H.size := if_pos rfl
  have kw := kk p e s m args below meth c R mc ms ρ0 h0 hF hR (cells + 1) (slots + N) (pb_re ρ a H.size) H1 locs ls (hD.mk hD.oks.2 ha h2 (by omega) (by omega) e1 (fun j b hj => by cases hj) (by omega) o1)
  rw [List.map_cons, hst] at kw
  have e9 : pb_up (pb_re ρ a H.size) (.ref a) = .ref H.size := congrArg Value.ref hre
  rw [e9] at kw
  exact kw
end PBH
end
section
-- the words: all of lw_tbl are good; those of the private methods of the abstract class follow
theorem pb_goods {w : Cond} (h : w ∈ pb_tbl) : (w.onTables && w.keeps) = true ∨ ∃ ty, w = .arrayClass ty := by
  rcases List.mem_append.mp h with h | h
  · simp only [pb_xw, List.mem_cons, List.not_mem_nil, or_false] at h
    rcases h with rfl | rfl | rfl | rfl | rfl | rfl <;> exact Or.inl rfl
  · exact good_of_word (List.mem_filter.mp h).2
theorem pb_selP {C : String} {y : MethodName} {n : Nat} {s : State} {args : Array Value} (hins : (Cond.instantiable C n).before args s = true) (hsame : (Cond.sameMethod y.cls y.cls y.name y.desc).before args s = true) (hpriv : (Cond.privateMethod y).before args s = true) (hinst : (Cond.instanceMethod y).before args s = true) : (Cond.selects C y y).before args s = true := by
  obtain ⟨c, k, hc, hk, -, -, -, -⟩ := Cond.instantiable_spec hins
  obtain ⟨mk, methM, hnamed, hmethM, -, -⟩ := Cond.instanceMethod_spec hinst
  obtain ⟨cn, ck, r1, hcn, hck, hni, hf, hn1⟩ := Cond.sameMethod_found hsame
  cases hnamed.symm.trans hn1
  have hcls : mk.cls = cn := Option.some.inj ((findClass_of_methodNamed hnamed).symm.trans hcn)
  have hsel : selectMethod {} s.vm c mk = .method mk := selectMethod_private hmethM (Cond.privateMethod_at hpriv mk methM hnamed hmethM)
  simp only [Cond.before, Cond.holds, Cond.value, hc, hf, hnamed, hsel, hcls, hck]
  simp; exact hni
theorem pb_tbl_of {args : Array Value} {s : State} (hts : ∀ w ∈ lw_tbl, w.before args s = true) : ∀ w ∈ pb_tbl, w.before args s = true := by
  intro w hw
  rcases List.mem_append.mp hw with hw | hw
  · simp only [pb_xw, List.mem_cons, List.not_mem_nil, or_false] at hw
    rcases hw with rfl | rfl | rfl | rfl | rfl | rfl
    · exact pb_selP (n := 16) (hts _ (by decide +kernel)) (hts _ (by decide +kernel)) (hts _ (by decide +kernel)) (hts _ (by decide +kernel))
    · exact pb_selP (n := 16) (hts _ (by decide +kernel)) (hts _ (by decide +kernel)) (hts _ (by decide +kernel)) (hts _ (by decide +kernel))
    · exact pb_selP (n := 16) (hts _ (by decide +kernel)) (hts _ (by decide +kernel)) (hts _ (by decide +kernel)) (hts _ (by decide +kernel))
    · exact pb_selP (n := 16) (hts _ (by decide +kernel)) (hts _ (by decide +kernel)) (hts _ (by decide +kernel)) (hts _ (by decide +kernel))
    · exact pb_selP (n := 16) (hts _ (by decide +kernel)) (hts _ (by decide +kernel)) (hts _ (by decide +kernel)) (hts _ (by decide +kernel))
    · exact pb_selP (n := 16) (hts _ (by decide +kernel)) (hts _ (by decide +kernel)) (hts _ (by decide +kernel)) (hts _ (by decide +kernel))
  · exact hts w (List.mem_filter.mp hw).1
theorem pb_objW : Cond.code objectInit ⟨#[0xb1]⟩ 1 none ∈ pb_tbl := List.mem_of_getElem? (i := 61) rfl
section PBC
variable {Z : pb_Z} {y : pb_M} {d k n : Nat} {post : Option Value → pb_H → Prop} {pc : Nat} {lv : List (Option Value)} {st : List Value} {h : pb_H}
-- entry
def pb_sl : List Value → List (Option Value)
  | [] => []
  | v :: vs => if v.category = 2 then some v :: none :: pb_sl vs else some v :: pb_sl vs
def pb_en (av : List Value) (n : Nat) : List (Option Value) := pb_sl av ++ List.replicate (n - (pb_sl av).length) none
theorem pb_sl_in {ρ : Nat → Nat} : ∀ {vs : List Value} {o i : Nat} {v : Value}, (pb_sl vs)[i]? = some (some v) → (o + i, pb_up ρ v) ∈ lv_args o (vs.map (pb_up ρ))
  | [], o, i, v, h => by simp [pb_sl] at h
  | w :: vs, o, i, v, h => by
    unfold pb_sl at h
    by_cases hc : w.category = 2
    · rw [if_pos hc] at h
      match i, h with
      | 0, h =>
        have e : w = v := by simpa using h
        subst e
        exact List.mem_cons_self
      | 1, h => simp at h
      | i + 2, h =>
        have := pb_sl_in (ρ := ρ) (vs := vs) (o := o + 2) (i := i) (v := v) (by simpa using h)
        rw [show o + (i + 2) = o + 2 + i by omega]
        show _ ∈ (o, pb_up ρ w) :: lv_args (if (pb_up ρ w).category = 2 then o + 2 else o + 1) (vs.map (pb_up ρ))
        rw [pb_up_cat, if_pos hc]
        exact List.mem_cons_of_mem _ this
    · rw [if_neg hc] at h
      match i, h with
      | 0, h =>
        have e : w = v := by simpa using h
        subst e
        exact List.mem_cons_self
      | i + 1, h =>
        have := pb_sl_in (ρ := ρ) (vs := vs) (o := o + 1) (i := i) (v := v) (by simpa using h)
        rw [show o + (i + 1) = o + 1 + i by omega]
        show _ ∈ (o, pb_up ρ w) :: lv_args (if (pb_up ρ w).category = 2 then o + 2 else o + 1) (vs.map (pb_up ρ))
        rw [pb_up_cat, if_neg hc]
        exact List.mem_cons_of_mem _ this
theorem pb_sl_mem : ∀ {vs : List Value} {i : Nat} {v : Value}, (pb_sl vs)[i]? = some (some v) → v ∈ vs
  | [], i, v, h => by simp [pb_sl] at h
  | w :: vs, i, v, h => by
    unfold pb_sl at h
    by_cases hc : w.category = 2
    · rw [if_pos hc] at h
      match i, h with
      | 0, h =>
        have e : w = v := by simpa using h
        subst e
        exact List.mem_cons_self
      | 1, h => simp at h
      | i + 2, h => exact List.mem_cons_of_mem _ (pb_sl_mem (i := i) (by simpa using h))
    · rw [if_neg hc] at h
      match i, h with
      | 0, h =>
        have e : w = v := by simpa using h
        subst e
        exact List.mem_cons_self
      | i + 1, h => exact List.mem_cons_of_mem _ (pb_sl_mem (i := i) (by simpa using h))
theorem pb_en_at {av : List Value} {n i : Nat} {v : Value} (h : (pb_en av n)[i]? = some (some v)) : (pb_sl av)[i]? = some (some v) := by
  unfold pb_en at h
  by_cases hi : i < (pb_sl av).length
  · rw [List.getElem?_append_left hi] at h
    exact h
  · rw [List.getElem?_append_right (by omega)] at h
    have hm := List.mem_of_getElem? h
    rw [List.mem_replicate] at hm
    cases hm.2
theorem pb_lgl (ρ : Nat → Nat) : ∀ av : List Value, (lg_sl (av.map (pb_up ρ))).length = (pb_sl av).length
  | [] => rfl
  | v :: vs => by
    have ih := pb_lgl ρ vs
    unfold lg_sl at ih ⊢
    unfold pb_sl
    rw [List.map_cons, List.flatMap_cons, List.length_append, ih, pb_up_cat]
    by_cases hc : v.category = 2
    · rw [if_pos hc, if_pos hc]; simp; omega
    · rw [if_neg hc, if_neg hc]; simp; omega
/-- A METHOD's CONTRACT out of its walk -/
theorem pb_T.of {av : List Value} {h0 : pb_H} (hy : plainName y.1.cls = true) (hn : (pb_sl av).length ≤ y.2.2.1) {lv : List (Option Value)} (hl : pb_en av y.2.2.1 = lv) (hS : pb_S Z y d k n post 0 lv [] h0) : pb_T Z y d k n av h0 post := by
  subst hl
  intro ρ0
  refine Met.ofW (cc := y.2.1) (maxL := y.2.2.1) (ret := y.2.2.2) hy rfl ?_
  intro p e s m args below meth c s₁ B hml hv
  obtain ⟨rfl, hRl, hok, hK⟩ := hv
  have hts := atoms_spec (ws := pb_ws y) B.pre
  have hF : pb_Fx Z y p s m (av.map (pb_up ρ0)).toArray meth c := ⟨B.exec, B.bytes, B.returns, hml, findClass_of_methodNamed B.named, (fun w hw => hts w (List.mem_cons_of_mem _ hw)), hK, B.notSynchronized, (name_of_methodNamed B.named B.method).1⟩
  have hle := lv_entry (av.map (pb_up ρ0)) (n := y.2.2.1) (by rw [pb_lgl]; exact hn)
  rw [lg_entry_eq]
  refine hS p e s m _ below meth c _ k n ρ0 h0 hF ⟨Nat.le_refl _, Nat.le_refl _, rfl, rfl⟩ 0 0 ρ0 s.heap [] _ ⟨by omega, by omega, ⟨hle.1, hle.2.1, fun i v hi => ?_⟩, hRl, fun a ha => ⟨ha, rfl⟩, trivial, fun i v hi => pb_oks_mem hok v (pb_sl_mem (pb_en_at hi)), fun q hq => by cases hq⟩
  have := pb_sl_in (ρ := ρ0) (o := 0) (pb_en_at hi)
  rw [Nat.zero_add] at this
  exact hle.2.2 _ this
theorem pb_S.mono {post' : Option Value → pb_H → Prop} (hS : pb_S Z y d k n post pc lv st h) (hp : ∀ v h', post v h' → post' v h') : pb_S Z y d k n post' pc lv st h := by
  intro p e s m args below meth c R mc ms ρ0 h0 hF hR cells slots ρ H locs ls hD
  refine pb_W_Q (hS p e s m args below meth c R mc ms ρ0 h0 hF hR cells slots ρ H locs ls hD) ?_
  rintro t ⟨o, h1, h2, ⟨v, ρ', h', q1, q2, q3, q4, q5⟩, h3⟩
  exact ⟨o, h1, h2, ⟨v, ρ', h', q1, q2, q3, q4, hp v h' q5⟩, h3⟩
theorem pb_S.le {k2 n2 : Nat} (hS : pb_S Z y d k2 n2 post pc lv st h) (hk : k2 ≤ k) (hn : n2 ≤ n) : pb_S Z y d k n post pc lv st h := by
  intro p e s m args below meth c R mc ms ρ0 h0 hF hR cells slots ρ H locs ls hD
  exact hS p e s m args below meth c R mc ms ρ0 h0 hF hR cells slots ρ H locs ls ⟨by have := hD.1; omega, by have := hD.2.1; omega, hD.2.2⟩
/-- known of the locals: less -/
theorem pb_S.less {lv2 : List (Option Value)} (hS : pb_S Z y d k n post pc lv2 st h) (hl : ∀ (i : Nat) (v : Value), lv2[i]? = some (some v) → lv[i]? = some (some v)) : pb_S Z y d k n post pc lv st h := by
  intro p e s m args below meth c R mc ms ρ0 h0 hF hR cells slots ρ H locs ls hD
  exact hS p e s m args below meth c R mc ms ρ0 h0 hF hR cells slots ρ H locs ls ⟨hD.1, hD.2.1, ⟨hD.2.2.1.1, hD.2.2.1.2.1, fun i v hi => hD.2.2.1.2.2 i v (hl i v hi)⟩, hD.2.2.2.1, hD.2.2.2.2.1, hD.2.2.2.2.2.1, fun i v hi => hD.2.2.2.2.2.2.1 i v (hl i v hi), hD.2.2.2.2.2.2.2⟩
-- calls
/-- what a method's words are, wherever it is called -/
def pb_mw (y : pb_M) (n : Nat) : Prop := Cond.code y.1 y.2.1 y.2.2.1 y.2.2.2 ∈ pb_tbl ∧ Cond.initialized y.1.cls ∈ pb_tbl ∧ (y.1.cls ≠ "java/lang/invoke/MethodHandle" ∧ y.1.cls ≠ "java/lang/invoke/VarHandle") ∧ (parseMethodDescriptor y.1.desc).map (fun d => d.parameters.length) = some n ∧ y.2.2.1 ≤ 21
theorem pb_blind {ρ : Nat → Nat} {av : List Value} : FrameBlind (pb_P Z ρ h av) := fun a U g mk hp => ⟨hp.1, hp.2.1, hp.2.2.1, pb_K.same (u := U) (U := U.calling g mk a) rfl hp.2.2.2⟩
theorem pb_sig {x : MethodName} {n : Nat} (h : (parseMethodDescriptor x.desc).map (fun d => d.parameters.length) = some n) : ∀ sig, parseMethodDescriptor x.desc = some sig → n = sig.parameters.length := fun sig hs => by
  rw [hs] at h
  exact (Option.some.inj h).symm
theorem pb_pay {y' : pb_M} {args : Array Value} {s : State} (hts : ∀ w ∈ pb_tbl, w.before args s = true) (hc : Cond.code y'.1 y'.2.1 y'.2.2.1 y'.2.2.2 ∈ pb_tbl) : ∀ w ∈ pb_ws y', ∀ (a' : Array Value) (U : State), s.WarmedH U.vm → w.before a' U = true := fun w hw a' U hW => by
  have hm : w ∈ pb_tbl := (List.mem_cons.mp hw).elim (fun e => e ▸ hc) id
  exact word_at hW (pb_goods hm) (hts w hm)
/-- behind a call -/
theorem pb_after {post' : Option Value → pb_H → Prop} {k' n' k2 n2 pc2 : Nat} {rest stk : List Value} {p : Program} {e : Env} {s : State} {m : MethodId} {args : Array Value} {below : List Frame} {meth : Method} {c : Code} {R : Room} {mc ms : Nat} {ρ0 : Nat → Nat} {h0 : pb_H} {cells slots : Nat} {ρ : Nat → Nat} {H : Heap} {locs : List Loc} {ls : Array Slot} {As : Array Value} (hF : pb_Fx Z y p s m args meth c) (hR : pb_Rm d mc ms R) (hD : pb_Dy Z y k n mc ms ρ0 h0 lv st h cells slots ρ H locs ls) (hs : pb_oks h rest) (hk : k2 + k' ≤ k) (hn : n2 + n' ≤ n) (hp : pc + 3 = pc2)
    (hrun : va_Run p (pb_zl Z) e R s m args below meth c H locs cells slots k' n' (F0 m pc ls stk) (rest.map (pb_up ρ)) (pb_Q Z ρ h post' As) (fun q => pb_zb Z ≤ q))
    (kk : ∀ v h', post' v h' → (∀ b, h b ≠ none → h' b ≠ none) → pb_S Z y d k2 n2 post pc2 lv (v.toList ++ rest) h') :
    W p (pb_zl Z) e R s m args below meth c H locs cells slots (MQ below (pb_Q Z ρ0 h0 post) args s mc ms (fun q => pb_zb Z ≤ q)) (F0 m pc ls stk) := by
  subst hp
  intro T hT X
  obtain ⟨v, st₀, t, T', L, e0, X', hL, e1, e2, ⟨v', ρ', h', q1, q2, q3, q4, q5⟩, hgo⟩ := hrun T hT X
  cases q1
  have he : ∀ b, h b ≠ none → ρ' b = ρ b := fun b hb => (q3 b hb).2
  have hdm : ∀ b, h b ≠ none → h' b ≠ none := fun b hb => (q3 b hb).1
  obtain ⟨t2, a1, b1⟩ := kk v' h' q5 hdm p e s m args below meth c R mc ms ρ0 h0 hF hR (cells + k') (slots + n') ρ' T'.heap (locs ++ L) ls ⟨by have := hD.1; omega, by have := hD.2.1; omega, hD.2.2.1.ext hD.2.2.2.2.2.2.1 he, by rw [e1]; exact q2, fun b hb => ⟨hdm b (hD.2.2.2.2.1 b hb).1, (he b (hD.2.2.2.2.1 b hb).1).trans (hD.2.2.2.2.1 b hb).2⟩, pb_oks_cat q4 (pb_oks_mono hdm hs), fun j w hj => pb_ok_mono hdm (hD.2.2.2.2.2.2.1 j w hj), t_lL hD.2.2.2.2.2.2.2 hL⟩ T' rfl X'
  refine ⟨t2, hgo t2 ?_, b1⟩
  have e9 : (v'.toList ++ rest).map (pb_up ρ') = (v'.map (pb_up ρ')).toList ++ rest.map (pb_up ρ) := by
    rw [List.map_append, pb_ups_ext he hs]
    cases v' <;> rfl
  rw [e9] at a1
  exact a1
theorem pb_cat (ρ : Nat → Nat) (st : List Value) : ((st.map (pb_up ρ)).map fun v => v.category) = st.map fun v => v.category := by
  rw [List.map_map]
  exact List.map_congr_left (fun v _ => pb_up_cat ρ v)
theorem pb_room {m : MethodId} {ls : Array Slot} {stk : List Value} {ρ : Nat → Nat} {rest : List Value} (hr : (rest.map fun v => v.category).sum ≤ 8) : 2 * (F0 m pc ls stk).monitorRoom + ((rest.map (pb_up ρ)).map fun v => v.category).sum ≤ 8 := by
  rw [pb_cat]
  show 2 * 0 + _ ≤ 8
  omega
theorem pb_callB {y' : pb_M} {nn idx d' k' n' : Nat} {args : Array Value} {s : State} {own : String} {R : Room} {mc ms : Nat} (hm : pb_mw y' nn) (hts : ∀ w ∈ pb_tbl, w.before args s = true) (hl : Cond.methodLink own idx y'.1 ∈ pb_tbl) (hR : pb_Rm d mc ms R) (hdd : d' + 1 ≤ d) : CallB R s args own idx y'.1 y'.2.1 y'.2.2.1 y'.2.2.2 (pb_ws y') { frames := d', cells := k', slots := n', locals := 40 * d' } k' n' nn :=
  ⟨rfl, rfl, by show d' + 1 ≤ _; have := hR.1; omega, by show 8 + (_ + 11) + 40 * d' ≤ _; have := hR.2.1; have := hm.2.2.2.2; omega, pb_pay hts hm.1, List.mem_cons_self, hts _ hm.1, hts _ hm.2.1, hm.2.2.1, pb_sig hm.2.2.2.1, hts _ hl⟩
theorem pb_callS {y' : pb_M} {nn idx d' k' n' k2 n2 pc2 : Nat} {post' : Option Value → pb_H → Prop} {av rest : List Value} (hm : pb_mw y' nn) (hsw : Cond.static y'.1 ∈ pb_tbl) {own : String} (hw : y.1.cls = own) (hl : Cond.methodLink own idx y'.1 ∈ pb_tbl) (hd : decode y.2.1 pc = .ok (.invokestatic idx, 3)) (hT : pb_T Z y' d' k' n' av h post') (hdd : d' + 1 ≤ d) (hk : k2 + k' ≤ k) (hn : n2 + n' ≤ n) (hlen : av.length = nn) (hst : av.reverse ++ rest = st) (hr : (rest.map fun v => v.category).sum ≤ 8) (hp : pc + 3 = pc2) (kk : ∀ v h', post' v h' → (∀ b, h b ≠ none → h' b ≠ none) → pb_S Z y d k2 n2 post pc2 lv (v.toList ++ rest) h') : pb_S Z y d k n post pc lv st h := by
  subst hw hst
  intro p e s m args below meth c R mc ms ρ0 h0 hF hR cells slots ρ H locs ls hD
  have hts := hF.2.2.2.2.2.1
  have hoks := pb_oks_app hD.oks
  refine pb_after (As := (av.map (pb_up ρ)).toArray) hF hR hD hoks.2 hk hn hp ?_ kk
  exact va_runS (As := av.map (pb_up ρ)) (rest := rest.map (pb_up ρ)) ⟨hF.1, hF.2.1, hF.2.2.2.1, hF.2.2.2.2.1, hts⟩ (hT ρ) ⟨pb_callB hm hts hl hR hdd, hts _ hsw⟩ ⟨pb_blind, fun U hU hW => ⟨rfl, by rw [hU]; exact hD.2.2.2.1, pb_oks_rev hoks.1, pb_K.warm hW hF.2.2.2.2.2.2.1⟩⟩ rfl (by rw [List.length_map]; exact hlen) hD.2.2.1.1 (by rw [List.map_append, List.map_reverse]) (pb_room hr) hd ⟨by rw [hR.2.2.1]; have := hD.1; omega, by rw [hR.2.2.2]; have := hD.2.1; omega⟩
theorem pb_callSN {y' : pb_M} {nn idx d' k' n' k2 n2 pc2 : Nat} {post' : Option Value → pb_H → Prop} {av rest : List Value} {host : String} (hm : pb_mw y' nn) (hsw : Cond.static y'.1 ∈ pb_tbl) {own : String} (hw : y.1.cls = own) (hl : Cond.methodLinkNest own idx y'.1 host ∈ pb_nw) (hd : decode y.2.1 pc = .ok (.invokestatic idx, 3)) (hT : pb_T Z y' d' k' n' av h post') (hdd : d' + 1 ≤ d) (hk : k2 + k' ≤ k) (hn : n2 + n' ≤ n) (hlen : av.length = nn) (hst : av.reverse ++ rest = st) (hr : (rest.map fun v => v.category).sum ≤ 8) (hp : pc + 3 = pc2) (kk : ∀ v h', post' v h' → (∀ b, h b ≠ none → h' b ≠ none) → pb_S Z y d k2 n2 post pc2 lv (v.toList ++ rest) h') : pb_S Z y d k n post pc lv st h := by
  subst hw hst
  intro p e s m args below meth c R mc ms ρ0 h0 hF hR cells slots ρ H locs ls hD
  have hts := hF.2.2.2.2.2.1
  have hoks := pb_oks_app hD.oks
  refine pb_after (As := (av.map (pb_up ρ)).toArray) hF hR hD hoks.2 hk hn hp ?_ kk
  exact va_runSN (host := host) (As := av.map (pb_up ρ)) (rest := rest.map (pb_up ρ)) ⟨hF.1, hF.2.1, hF.2.2.2.1, hF.2.2.2.2.1, hts⟩ (hT ρ) ⟨⟨⟨rfl, rfl, by show d' + 1 ≤ _; have := hR.1; omega, by show 8 + (_ + 11) + 40 * d' ≤ _; have := hR.2.1; have := hm.2.2.2.2; omega, pb_pay hts hm.1, List.mem_cons_self⟩, hts _ hm.1, hts _ hm.2.1, hm.2.2.1, pb_sig hm.2.2.2.1, va_Nw.use rfl (hF.2.2.2.2.2.2.1.2 _ hl)⟩, hts _ hsw, trivial⟩ ⟨pb_blind, fun U hU hW => ⟨rfl, by rw [hU]; exact hD.2.2.2.1, pb_oks_rev hoks.1, pb_K.warm hW hF.2.2.2.2.2.2.1⟩⟩ rfl (by rw [List.length_map]; exact hlen) hD.2.2.1.1 (by rw [List.map_append, List.map_reverse]) (pb_room hr) hd ⟨by rw [hR.2.2.1]; have := hD.1; omega, by rw [hR.2.2.2]; have := hD.2.1; omega⟩
theorem pb_recv {ρ : Nat → Nat} {H : Heap} {ci a N : Nat} {C : String} {T : u_T} {fs : List Value} {s : State} (hK : pb_K Z s) (hr : pb_Rl Z ρ h H) (hC : vwCl[ci]? = some (C, T, N)) (ha : h a = some (.inr (.inr (ci, fs)))) : ∃ cellB : Cell, H[ρ a]? = some cellB ∧ cellB.vm.isStatics = false ∧ s.vm.findClass C = some cellB.cls := by
  obtain ⟨r, h1, -, cell, g1, g2, g3, -⟩ := (hr.1 a _ ha).1
  exact ⟨cell, g1, by rw [g3]; rfl, by rw [g2]; exact (hK.1.1.1 ci _ hC).2.1⟩
theorem pb_callV {y' : pb_M} {nn idx d' k' n' k2 n2 pc2 ci a N : Nat} {C : String} {T : u_T} {fs : List Value} {post' : Option Value → pb_H → Prop} {av rest : List Value} (hm : pb_mw y' nn) (hC : vwCl[ci]? = some (C, T, N)) (hin : Cond.instanceMethod y'.1 ∈ pb_tbl) (hse : Cond.selects C y'.1 y'.1 ∈ pb_tbl) {own : String} (hw : y.1.cls = own) (hl : Cond.methodLink own idx y'.1 ∈ pb_tbl) (hd : decode y.2.1 pc = .ok (.invokevirtual idx, 3)) (ha : h a = some (.inr (.inr (ci, fs)))) (hT : pb_T Z y' d' k' n' (.ref a :: av) h post') (hdd : d' + 1 ≤ d) (hk : k2 + k' ≤ k) (hn : n2 + n' ≤ n) (hlen : av.length = nn) (hst : av.reverse ++ .ref a :: rest = st) (hr : (rest.map fun v => v.category).sum ≤ 8) (hp : pc + 3 = pc2) (kk : ∀ v h', post' v h' → (∀ b, h b ≠ none → h' b ≠ none) → pb_S Z y d k2 n2 post pc2 lv (v.toList ++ rest) h') : pb_S Z y d k n post pc lv st h := by
  subst hw hst
  intro p e s m args below meth c R mc ms ρ0 h0 hF hR cells slots ρ H locs ls hD
  have hts := hF.2.2.2.2.2.1
  have hoks := pb_oks_app hD.oks
  refine pb_after (As := (Value.ref (ρ a) :: av.map (pb_up ρ)).toArray) hF hR hD hoks.2.2 hk hn hp ?_ kk
  exact va_runV (b := ρ a) (As := av.map (pb_up ρ)) (rest := rest.map (pb_up ρ)) ⟨hF.1, hF.2.1, hF.2.2.2.1, hF.2.2.2.2.1, hts⟩ (hT ρ) ⟨pb_callB hm hts hl hR hdd, hts _ hin, hts _ hse⟩ ⟨pb_blind, pb_recv hF.2.2.2.2.2.2.1 hD.2.2.2.1 hC ha, fun U hU hW => ⟨rfl, by rw [hU]; exact hD.2.2.2.1, ⟨hoks.2.1, pb_oks_rev hoks.1⟩, pb_K.warm hW hF.2.2.2.2.2.2.1⟩⟩ rfl (by rw [List.length_map]; exact hlen) hD.2.2.1.1 (by rw [List.map_append, List.map_reverse]; rfl) (pb_room hr) hd ⟨by rw [hR.2.2.1]; have := hD.1; omega, by rw [hR.2.2.2]; have := hD.2.1; omega⟩
/-- a method that the receiver's class inherits, or that an abstract one names: x is named, y' is run -/
theorem pb_callU {y' : pb_M} {x : MethodName} {owner : String} {nn idx d' k' n' k2 n2 pc2 ci a N : Nat} {C : String} {T : u_T} {fs : List Value} {post' : Option Value → pb_H → Prop} {av rest : List Value} (hm : pb_mw y' nn) (hC : vwCl[ci]? = some (C, T, N)) (hxd : x.desc = y'.1.desc) (how : owner ≠ "java/lang/invoke/MethodHandle" ∧ owner ≠ "java/lang/invoke/VarHandle") (hin : Cond.instanceMethod y'.1 ∈ pb_tbl) (hse : Cond.selects C x y'.1 ∈ pb_tbl) (hsm : Cond.sameMethod x.cls owner x.name x.desc ∈ pb_tbl) (hdc : y'.1 = ⟨owner, x.name, x.desc⟩ ∨ Cond.declares ⟨owner, x.name, x.desc⟩ ∈ pb_nw) {own : String} (hw : y.1.cls = own) (hl : Cond.methodLink own idx x ∈ pb_tbl) (hd : decode y.2.1 pc = .ok (.invokevirtual idx, 3)) (ha : h a = some (.inr (.inr (ci, fs)))) (hT : pb_T Z y' d' k' n' (.ref a :: av) h post') (hdd : d' + 1 ≤ d) (hk : k2 + k' ≤ k) (hn : n2 + n' ≤ n) (hlen : av.length = nn) (hst : av.reverse ++ .ref a :: rest = st) (hr : (rest.map fun v => v.category).sum ≤ 8) (hp : pc + 3 = pc2) (kk : ∀ v h', post' v h' → (∀ b, h b ≠ none → h' b ≠ none) → pb_S Z y d k2 n2 post pc2 lv (v.toList ++ rest) h') : pb_S Z y d k n post pc lv st h := by
  subst hw hst
  intro p e s m args below meth c R mc ms ρ0 h0 hF hR cells slots ρ H locs ls hD
  have hts := hF.2.2.2.2.2.1
  have hoks := pb_oks_app hD.oks
  refine pb_after (As := (Value.ref (ρ a) :: av.map (pb_up ρ)).toArray) hF hR hD hoks.2.2 hk hn hp ?_ kk
  have hdcl : va_Decl s ⟨owner, x.name, x.desc⟩ := by
    rcases hdc with hdc | hdc
    · rw [← hdc]
      exact va_Decl.of (hts _ hin) (hts _ hm.1)
    · exact va_Decl.abs (hF.2.2.2.2.2.2.1.2 _ hdc)
  exact va_runU (x := x) (owner := owner) (b := ρ a) (As := av.map (pb_up ρ)) (rest := rest.map (pb_up ρ)) ⟨hF.1, hF.2.1, hF.2.2.2.1, hF.2.2.2.2.1, hts⟩ (hT ρ) ⟨⟨rfl, rfl, by show d' + 1 ≤ _; have := hR.1; omega, by show 8 + (_ + 11) + 40 * d' ≤ _; have := hR.2.1; have := hm.2.2.2.2; omega, pb_pay hts hm.1, List.mem_cons_self⟩, hts _ hm.1, hts _ hm.2.1, how, by rw [hxd]; exact pb_sig hm.2.2.2.1, hts _ hl, hts _ hsm, hdcl, hts _ hse, hts _ hin⟩ ⟨pb_blind, pb_recv hF.2.2.2.2.2.2.1 hD.2.2.2.1 hC ha, fun U hU hW => ⟨rfl, by rw [hU]; exact hD.2.2.2.1, ⟨hoks.2.1, pb_oks_rev hoks.1⟩, pb_K.warm hW hF.2.2.2.2.2.2.1⟩⟩ rfl (by rw [List.length_map]; exact hlen) hD.2.2.1.1 (by rw [List.map_append, List.map_reverse]; rfl) (pb_room hr) hd ⟨by rw [hR.2.2.1]; have := hD.1; omega, by rw [hR.2.2.2]; have := hD.2.1; omega⟩
theorem pb_callI {y' : pb_M} {nn idx d' k' n' k2 n2 pc2 a : Nat} {post' : Option Value → pb_H → Prop} {av rest : List Value} (hm : pb_mw y' nn) (hret : y'.2.2.2 = none) (hni : y'.1.name = "<init>") (hin : Cond.instanceMethod y'.1 ∈ pb_tbl) {own : String} (hw : y.1.cls = own) (hl : Cond.methodLink own idx y'.1 ∈ pb_tbl) (hd : decode y.2.1 pc = .ok (.invokespecial idx, 3)) (hT : pb_T Z y' d' k' n' (.ref a :: av) h post') (hdd : d' + 1 ≤ d) (hk : k2 + k' ≤ k) (hn : n2 + n' ≤ n) (hlen : av.length = nn) (hst : av.reverse ++ .ref a :: rest = st) (hr : (rest.map fun v => v.category).sum ≤ 8) (hp : pc + 3 = pc2) (kk : ∀ v h', post' v h' → (∀ b, h b ≠ none → h' b ≠ none) → pb_S Z y d k2 n2 post pc2 lv (v.toList ++ rest) h') : pb_S Z y d k n post pc lv st h := by
  subst hw hst
  intro p e s m args below meth c R mc ms ρ0 h0 hF hR cells slots ρ H locs ls hD
  have hts := hF.2.2.2.2.2.1
  have hoks := pb_oks_app hD.oks
  refine pb_after (As := (Value.ref (ρ a) :: av.map (pb_up ρ)).toArray) hF hR hD hoks.2.2 hk hn hp ?_ kk
  have cb := pb_callB (k' := k') (n' := n') hm hts hl hR hdd
  rw [hret] at cb
  exact va_runI (b := ρ a) (As := av.map (pb_up ρ)) (rest := rest.map (pb_up ρ)) ⟨hF.1, hF.2.1, hF.2.2.2.1, hF.2.2.2.2.1, hts⟩ (hT ρ) ⟨cb, hni, hts _ hin⟩ ⟨pb_blind, fun U hU hW => ⟨rfl, by rw [hU]; exact hD.2.2.2.1, ⟨hoks.2.1, pb_oks_rev hoks.1⟩, pb_K.warm hW hF.2.2.2.2.2.2.1⟩⟩ rfl (by rw [List.length_map]; exact hlen) hD.2.2.1.1 (by rw [List.map_append, List.map_reverse]; rfl) (pb_room hr) hd ⟨by rw [hR.2.2.1]; have := hD.1; omega, by rw [hR.2.2.2]; have := hD.2.1; omega⟩
theorem pb_callIN {y' : pb_M} {nn idx d' k' n' k2 n2 pc2 a : Nat} {host : String} {post' : Option Value → pb_H → Prop} {av rest : List Value} (hm : pb_mw y' nn) (hret : y'.2.2.2 = none) (hni : y'.1.name = "<init>") (hin : Cond.instanceMethod y'.1 ∈ pb_tbl) {own : String} (hw : y.1.cls = own) (hl : Cond.methodLinkNest own idx y'.1 host ∈ pb_nw) (hd : decode y.2.1 pc = .ok (.invokespecial idx, 3)) (hT : pb_T Z y' d' k' n' (.ref a :: av) h post') (hdd : d' + 1 ≤ d) (hk : k2 + k' ≤ k) (hn : n2 + n' ≤ n) (hlen : av.length = nn) (hst : av.reverse ++ .ref a :: rest = st) (hr : (rest.map fun v => v.category).sum ≤ 8) (hp : pc + 3 = pc2) (kk : ∀ v h', post' v h' → (∀ b, h b ≠ none → h' b ≠ none) → pb_S Z y d k2 n2 post pc2 lv (v.toList ++ rest) h') : pb_S Z y d k n post pc lv st h := by
  subst hw hst
  intro p e s m args below meth c R mc ms ρ0 h0 hF hR cells slots ρ H locs ls hD
  have hts := hF.2.2.2.2.2.1
  have hoks := pb_oks_app hD.oks
  refine pb_after (As := (Value.ref (ρ a) :: av.map (pb_up ρ)).toArray) hF hR hD hoks.2.2 hk hn hp ?_ kk
  have cn : va_CN R s args y.1.cls idx y'.1 host y'.2.1 y'.2.2.1 none (pb_ws y') { frames := d', cells := k', slots := n', locals := 40 * d' } k' n' nn := by
    rw [← hret]
    exact ⟨⟨rfl, rfl, by show d' + 1 ≤ _; have := hR.1; omega, by show 8 + (_ + 11) + 40 * d' ≤ _; have := hR.2.1; have := hm.2.2.2.2; omega, pb_pay hts hm.1, List.mem_cons_self⟩, hts _ hm.1, hts _ hm.2.1, hm.2.2.1, pb_sig hm.2.2.2.1, va_Nw.use rfl (hF.2.2.2.2.2.2.1.2 _ hl)⟩
  exact va_runIN (host := host) (b := ρ a) (As := av.map (pb_up ρ)) (rest := rest.map (pb_up ρ)) ⟨hF.1, hF.2.1, hF.2.2.2.1, hF.2.2.2.2.1, hts⟩ (hT ρ) ⟨cn, hni, hts _ hin⟩ ⟨pb_blind, fun U hU hW => ⟨rfl, by rw [hU]; exact hD.2.2.2.1, ⟨hoks.2.1, pb_oks_rev hoks.1⟩, pb_K.warm hW hF.2.2.2.2.2.2.1⟩⟩ rfl (by rw [List.length_map]; exact hlen) hD.2.2.1.1 (by rw [List.map_append, List.map_reverse]; rfl) (pb_room hr) hd ⟨by rw [hR.2.2.1]; have := hD.1; omega, by rw [hR.2.2.2]; have := hD.2.1; omega⟩
/-- Object.<init> -/
theorem pb_objI {idx a pc2 : Nat} {own : String} (hw : y.1.cls = own) (hl : Cond.methodLink own idx objectInit ∈ pb_tbl) (hd : decode y.2.1 pc = .ok (.invokespecial idx, 3)) (hdd : 1 ≤ d) (hr : (st.map fun v => v.category).sum ≤ 8) (hp : pc + 3 = pc2) (kk : pb_S Z y d k n post pc2 lv st h) : pb_S Z y d k n post pc lv (.ref a :: st) h := by
  subst hw hp
  intro p e s m args below meth c R mc ms ρ0 h0 hF hR cells slots ρ H locs ls hD
  have hts := hF.2.2.2.2.2.1
  refine W.objInit hF.1 hF.2.1 hF.2.2.2.2.1 (hts _ hl) (hts _ (by decide +kernel)) (hts _ pb_objW) rfl (by rw [hF.2.2.2.1]; exact hD.2.2.1.1) rfl hd (by have := hR.1; omega) ?_ ?_
  · show 2 * 0 + ((st.map (pb_up ρ)).map fun v => v.category).sum + 12 ≤ _
    rw [pb_cat]
    have := hR.2.1
    omega
  · exact kk p e s m args below meth c R mc ms ρ0 h0 hF hR cells slots ρ H locs ls (hD.stk hD.oks.2)
end PBC
end
section
section PBM
variable {Z : pb_Z} {y : pb_M} {d k n : Nat} {post : Option Value → pb_H → Prop} {pc : Nat} {lv : List (Option Value)} {st : List Value} {h : pb_H}
/-- the one static row -/
theorem pb_gets {idx pc2 : Nat} {own : String} (hw : y.1.cls = own) (hl : Cond.fieldLink own idx "PaintBoxModel" "THICKNESS" "[I" ∈ pb_tbl) (hd : decode y.2.1 pc = .ok (.getstatic idx, 3)) (hp : pc + 3 = pc2) (kk : pb_S Z y d k n post pc2 lv (.ref 1 :: st) h) : pb_S Z y d k n post pc lv st h := by
  subst hw hp
  intro p e s m args below meth c R mc ms ρ0 h0 hF hR cells slots ρ H locs ls hD
  obtain ⟨cf, kf, fi, f, a, cell, h1, h2, h3, h4, h5, h6, h7, h8⟩ := hF.2.2.2.2.2.2.1.1.2.2.2.1
  have hr := hD.2.2.2.1
  have ha : a < pb_zb Z := Nat.not_le.mp h8
  have kw := kk p e s m args below meth c R mc ms ρ0 h0 hF hR cells slots ρ H locs ls (hD.stk ⟨hr.2.2.2.2.2.2, hD.oks⟩)
  have e9 : (Value.ref 1 :: st).map (pb_up ρ) = .ref (pb_zt Z) :: st.map (pb_up ρ) := by
    show Value.ref (ρ 1) :: _ = _
    rw [hr.2.2.2.2.2.1]
  rw [e9] at kw
  exact W.gets hF.1 hF.2.1 hF.2.2.2.2.1 (hF.2.2.2.2.2.1 _ hl) h1 h2 h3 h4 (by rw [hr.2.2.2.2.1 a ha]; exact h5) (fun e => by rw [e] at h6; cases h6) h7 rfl hd kw
/-- System.arraycopy between two rows of ints -/
theorem pb_acopy {idx pc2 a0 a n0 n1 sp dp m0 : Nat} {own : String} {f g : Nat → Int32} (hw : y.1.cls = own) (hl : Cond.methodLink own idx arraycopyName ∈ pb_tbl) (hd : decode y.2.1 pc = .ok (.invokestatic idx, 3)) (ha0 : h a0 = some (.inl (0, n0, f))) (ha : h a = some (.inl (0, n1, g))) (h2 : 2 ≤ a) (hs : sp + m0 ≤ n0) (ht : dp + m0 ≤ n1) (hn0 : n0 < 2 ^ 31) (hn1 : n1 < 2 ^ 31) (hdd : 1 ≤ d) (hr : (st.map fun v => v.category).sum ≤ 8) (hp : pc + 3 = pc2) (kk : pb_S Z y d k n post pc2 lv st (pb_set h a (.inl (0, n1, va_cpy f g sp dp m0)))) : pb_S Z y d k n post pc lv (.int (nI m0) :: .int (nI dp) :: .ref a :: .int (nI sp) :: .ref a0 :: st) h := by
  subst hw hp
  intro p e s m args below meth c R mc ms ρ0 h0 hF hR cells slots ρ H locs ls hD
  intro T hT X
  have hts := hF.2.2.2.2.2.1
  obtain ⟨cell0, c1, c2, c3, c4, c5, c6, c7⟩ := (hD.2.2.2.1.1 a0 _ ha0).1
  obtain ⟨cell1, d1, d2, d3, d4, d5, d6, d7⟩ := (hD.2.2.2.1.1 a _ ha).1
  have c7 := c7 (by omega)
  have d7 := d7 (by omega)
  subst c7 d7
  obtain ⟨-, k0, hk0, cm0, hkk0⟩ := (pb_pkA hF.2.2.2.2.2.2.1 (kd := 0) (by omega)) n0 (fun j => .int (f j))
  have z1 : (nI sp).toNatClampNeg = sp := nI_clamp (by omega)
  have z2 : (nI dp).toNatClampNeg = dp := nI_clamp (by omega)
  have z3 : (nI m0).toNatClampNeg = m0 := nI_clamp (by omega)
  obtain ⟨vm', X', step⟩ := X.arraycopy hF.1 hF.2.2.2.2.1 (hts _ hl) (hts _ (by decide +kernel)) (hts _ (by decide +kernel)) (hts _ (by decide +kernel)) (src := ρ a0) (dst := ρ a) (srcPos := nI sp) (destPos := nI dp) (n := nI m0) (by rw [hT]; exact c1) (by rw [hT]; exact d1)
    c3 d3 c4 d4 hk0 hk0 hkk0 hkk0 (by simp [refKind, pb_pk]) (nI_pos (by omega)) (nI_pos (by omega)) (nI_pos (by omega))
    (by rw [nI_toInt (by omega), nI_toInt (by omega), arrV_size]; omega)
    (by rw [nI_toInt (by omega), nI_toInt (by omega), arrV_size]; omega)
    (fun vm₁ _ i hi => by
      rw [z3] at hi
      have e : (arrV (pb_zp Z 0) n0 (fun j => Value.int (f j))).slots.getD ((nI sp).toNatClampNeg + i) .null = .int (f (sp + i)) := by
        rw [z1, Array.getD_eq_getD_getElem?, arrV_read _ _ (by omega)]
        rfl
      refine ⟨?_, ?_⟩
      · rw [e]; rfl
      · rw [e]; exact trivial)
    (g := F0 m pc ls (.int (nI m0) :: .int (nI dp) :: .ref (ρ a) :: .int (nI sp) :: .ref (ρ a0) :: st.map (pb_up ρ))) rfl (by rw [hF.2.2.2.1]; exact hD.2.2.1.1) (rest := st.map (pb_up ρ)) rfl (by rw [hF.2.1]; exact hd) (by have := hR.1; omega) (by
      show 2 * 0 + ((st.map (pb_up ρ)).map fun v => v.category).sum + _ ≤ _
      rw [pb_cat]
      have := hR.2.1
      have e : nativeFrameWords "java/lang/System" "arraycopy" 5 ≤ 20 := by decide +kernel
      omega)
  have e1 : copied (arrV (pb_zp Z 0) n0 (fun j => Value.int (f j))) (arrV (pb_zp Z 0) n1 (fun j => Value.int (g j))) (nI sp) (nI dp) (nI m0) = arrV (pb_zp Z 0) n1 (fun j => .int (va_cpy f g sp dp m0 j)) := by
    have := va_copied (fun z => Value.int z) (pb_zp Z 0) (pb_zp Z 0) (n1 := n1) (dp := dp) f g hs
    unfold copied
    rw [z1, z2, z3]
    exact this
  rw [e1] at X' step
  have hl1 : ρ a < H.size := (Array.getElem?_eq_some_iff.mp d1).1
  have hheap : ((T.setVm vm').setCell (ρ a) (arrV (pb_zp Z 0) n1 (fun j => .int (va_cpy f g sp dp m0 j)))).heap = H.setIfInBounds (ρ a) (arrV (pb_zp Z 0) n1 (fun j => .int (va_cpy f g sp dp m0 j))) := by rw [← hT]; rfl
  have oq : ∀ q : Nat, q ≠ ρ a → (H.setIfInBounds (ρ a) (arrV (pb_zp Z 0) n1 (fun j => .int (va_cpy f g sp dp m0 j))))[q]? = H[q]? := fun q hq => by simp [Array.getElem?_setIfInBounds, Ne.symm hq]
  have hself : (H.setIfInBounds (ρ a) (arrV (pb_zp Z 0) n1 (fun j => .int (va_cpy f g sp dp m0 j))))[ρ a]? = some (arrV (pb_zp Z 0) n1 (fun j => .int (va_cpy f g sp dp m0 j))) := by simp [Array.getElem?_setIfInBounds, hl1]
  have hDw : pb_Dy Z y k n mc ms ρ0 h0 lv st (pb_set h a (.inl (0, n1, va_cpy f g sp dp m0))) cells slots ρ (H.setIfInBounds (ρ a) (arrV (pb_zp Z 0) n1 (fun j => .int (va_cpy f g sp dp m0 j)))) (locs ++ [⟨ρ a, 0⟩]) ls := hD.wr hD.oks.2.2.2.2.2 ha h2 (pb_cellA hself) trivial (by simp) oq
  have hDw2 := fun (L : List Loc) (hL : ∀ q ∈ L, pb_zb Z ≤ q.base) => (⟨hDw.1, hDw.2.1, hDw.2.2.1, hDw.2.2.2.1, hDw.2.2.2.2.1, hDw.2.2.2.2.2.1, hDw.2.2.2.2.2.2.1, t_lL hD.2.2.2.2.2.2.2 hL⟩ : pb_Dy Z y k n mc ms ρ0 h0 lv st (pb_set h a (.inl (0, n1, va_cpy f g sp dp m0))) cells slots ρ (H.setIfInBounds (ρ a) (arrV (pb_zp Z 0) n1 (fun j => .int (va_cpy f g sp dp m0 j)))) (locs ++ L) ls)
  obtain ⟨t, a1, b1⟩ := kk p e s m args below meth c R mc ms ρ0 h0 hF hR cells slots ρ _ _ ls (hDw2 _ (fun q hq => by
      obtain ⟨z, -, hz⟩ := List.mem_map.mp hq
      rw [← hz]
      exact hD.2.2.2.1.2.2.1 a h2 (by rw [ha]; exact fun q => by cases q))) _ hheap X'
  exact ⟨t, step t a1, b1⟩
/-- new int[N][M]: the outer row at a, the inner ones at b, b + 1 and on -/
def pb_mul (h : pb_H) (a b N M : Nat) : pb_H := fun x => if x = a then some (.inr (.inl (4, N, fun i => if i < N then some (b + i) else none))) else if b ≤ x ∧ x < b + N then some (.inl (0, M, fun _ => 0)) else h x
theorem pb_mna (a b : Nat) {own : String} {idx N M : Nat} {k2 n2 pc2 : Nat} (hd : decode y.2.1 pc = .ok (.multianewarray idx 2, 4)) (hw : y.1.cls = own) (hcl : Cond.classLink own idx "[[I" ∈ pb_tbl) (ha : h a = none) (hb : ∀ i, i < N → h (b + i) = none) (hab : a < b) (h2 : 2 ≤ a) (hN : N ≤ 100000) (hM : M ≤ 100000) (hk : k2 + (1 + N) ≤ k) (hn : n2 + (N + N * M) ≤ n) (hp : pc + 4 = pc2) (kk : pb_S Z y d k2 n2 post pc2 lv (.ref a :: st) (pb_mul h a b N M)) : pb_S Z y d k n post pc lv (.int (nI M) :: .int (nI N) :: st) h := by
  subst hw hp
  intro p e s m args below meth c R mc ms ρ0 h0 hF hR cells slots ρ H locs ls hD
  intro T hT X
  have hts := hF.2.2.2.2.2.1
  have zN : (nI N).toNatClampNeg = N := nI_clamp (by omega)
  have zM : (nI M).toNatClampNeg = M := nI_clamp (by omega)
  have hD1 := hD.1
  have hD2 := hD.2.1
  obtain ⟨vm₁, cA, comp, -, fA, fC, hO, -, X', step⟩ := X.multianewarray2F hF.1 hF.2.2.2.2.1 (ty := .int) (hts _ hcl) (hF.2.2.2.2.2.2.1.1.2.2.2.2.2.2.2.2) (hts _ (by decide +kernel)) (g := F0 m pc ls (.int (nI M) :: .int (nI N) :: st.map (pb_up ρ))) rfl (by rw [hF.2.1]; exact hd) rfl (nI_pos (by omega)) (nI_pos (by omega)) (by rw [zN]; omega) (by rw [zM]; show M * 4 ≤ _; omega) (by rw [zM]; omega) rfl rfl (by rw [zN, hR.2.2.1]; omega) (by rw [zN, zM, hR.2.2.2]; omega)
  rw [zN, zM] at X' step
  have hK := hF.2.2.2.2.2.2.1.1.1
  have eA : cA = pb_zr Z 4 := Option.some.inj (fA.symm.trans (hK.2 6 _ rfl).2)
  have eC : comp = pb_zp Z 0 := Option.some.inj (fC.symm.trans (hK.2 0 _ rfl).2)
  subst eA eC
  generalize hFl : Jvm.Free.Multi.fill (T.setVm vm₁) (pb_zr Z 4) (pb_zp Z 0) N M (defaultValue .int) N = F at X' step
  have hTh : (T.setVm vm₁).heap = H := hT
  obtain ⟨f1, f2, -, -⟩ := Jvm.Free.Multi.fill_facts (T.setVm vm₁) (pb_zr Z 4) (pb_zp Z 0) N M (defaultValue .int) N
  rw [hFl, hTh] at f1 f2
  have hold : ∀ x : Nat, x < H.size → F.heap[x]? = H[x]? := fun x hx => by
    have := Jvm.Free.Multi.fill_old (T.setVm vm₁) (pb_zr Z 4) (pb_zp Z 0) N M (defaultValue .int) (a := x) (by rw [hTh]; exact hx) N
    rw [hFl, hTh] at this
    exact this
  have hrow : ∀ j : Nat, j < N → F.heap[H.size + 1 + j]? = some (arrV (pb_zp Z 0) M (fun _ => .int 0)) := fun j hj => by
    have := Jvm.Free.Multi.fill_inner (T.setVm vm₁) (pb_zr Z 4) (pb_zp Z 0) N M (defaultValue .int) N j hj
    rw [hFl, hTh] at this
    rw [this]
    refine congrArg some ?_
    show ({ cls := _, slots := Array.replicate M (.int 0), vm := .none } : Cell) = _
    rw [arrV_new]
  have hout : ∀ i : Nat, Jvm.Free.Multi.outerC (pb_zr Z 4) N H.size i = arrV (pb_zr Z 4) N (fun j => va_rf (if j < i then some (H.size + 1 + j) else none)) := by
    intro i
    induction i with
    | zero =>
      show ({ cls := _, slots := Array.replicate N .null, vm := .none } : Cell) = _
      rw [arrV_new]
      refine congrArg (arrV _ N) (funext fun j => ?_)
      simp [va_rf]
    | succ i ih =>
      show (Jvm.Free.Multi.outerC (pb_zr Z 4) N H.size i).setSlot i (.ref (H.size + 1 + i)) = _
      rw [ih, arrV_store]
      refine congrArg (arrV _ N) (funext fun j => ?_)
      by_cases e : j = i
      · subst e
        simp [updV, va_rf]
      · by_cases h9 : j < i
        · simp [updV, e, h9, Nat.lt_succ_of_lt h9]
        · simp [updV, e, h9, show ¬ j < i + 1 by omega]
  rw [hout] at f2
  -- the new map of addresses
  have hr := hD.2.2.2.1
  have hlt : ∀ x, h x ≠ none → ρ x < H.size := fun x hx => by
    cases e : h x with
    | none => exact absurd e hx
    | some cb => exact pb_cell_lt (hr.1 x cb e).1
  have hna : ∀ x, h x ≠ none → x ≠ a := fun x hx e => hx (by rw [e]; exact ha)
  have hnb : ∀ x, h x ≠ none → ¬ (b ≤ x ∧ x < b + N) := fun x hx e => hx (by
    have := hb (x - b) (by omega)
    rw [show b + (x - b) = x by omega] at this
    exact this)
  have hre : ∀ x, h x ≠ none → (fun x => if x = a then H.size else if b ≤ x ∧ x < b + N then H.size + 1 + (x - b) else ρ x) x = ρ x := fun x hx => by
    show (if x = a then H.size else if b ≤ x ∧ x < b + N then H.size + 1 + (x - b) else ρ x) = ρ x
    rw [if_neg (hna x hx), if_neg (hnb x hx)]
  have hmd : ∀ x, h x ≠ none → pb_mul h a b N M x ≠ none := fun x hx => by
    unfold pb_mul
    rw [if_neg (hna x hx), if_neg (hnb x hx)]
    exact hx
  generalize hρ : (fun x => if x = a then H.size else if b ≤ x ∧ x < b + N then H.size + 1 + (x - b) else ρ x) = ρ' at hre
  have ra : ρ' a = H.size := by rw [← hρ]; exact if_pos rfl
  have rb : ∀ x, x ≠ a → b ≤ x ∧ x < b + N → ρ' x = H.size + 1 + (x - b) := fun x hx hx2 => by
    rw [← hρ]
    show (if x = a then H.size else if b ≤ x ∧ x < b + N then H.size + 1 + (x - b) else ρ x) = _
    rw [if_neg hx, if_pos hx2]
  have hRl : pb_Rl Z ρ' (pb_mul h a b N M) F.heap := by
    refine ⟨fun x cx hx => ?_, fun x x' hx hx' hq => ?_, fun x hx2 hx => ?_, by rw [f1]; have := hr.2.2.2.1; omega, fun q hq => ?_, ?_, hmd 1 hr.2.2.2.2.2.2⟩
    · unfold pb_mul at hx
      by_cases e1 : x = a
      · rw [if_pos e1] at hx
        cases hx
        subst e1
        refine ⟨?_, fun j q hq => ?_⟩
        · show F.heap[ρ' x]? = _
          rw [ra, f2]
          refine congrArg some (congrArg (arrV _ N) (funext fun j => ?_))
          by_cases hj : j < N
          · simp only [hj, if_true, Option.map_some, va_rf]
            rw [rb (b + j) (by omega) (by omega), show b + j - b = j by omega]
          · simp only [hj, if_false, Option.map_none, va_rf]
        · have hq : (if j < N then some (b + j) else none) = some q := hq
          by_cases hj : j < N
          · rw [if_pos hj] at hq
            cases hq
            unfold pb_mul
            rw [if_neg (by omega), if_pos (by omega)]
            exact fun z => by cases z
          · rw [if_neg hj] at hq
            cases hq
      · rw [if_neg e1] at hx
        by_cases e2 : b ≤ x ∧ x < b + N
        · rw [if_pos e2] at hx
          cases hx
          refine ⟨pb_cellA ?_, trivial⟩
          rw [rb x e1 e2]
          exact hrow _ (by omega)
        · rw [if_neg e2] at hx
          have hnx : h x ≠ none := by rw [hx]; exact fun q => by cases q
          obtain ⟨g1, g2⟩ := hr.1 x cx hx
          rw [hre x hnx]
          exact ⟨pb_cell_mono g1 g2 hre (hold _ (hlt x hnx)), pb_refs_mono hmd g2⟩
    · have key : ∀ z, pb_mul h a b N M z ≠ none → (z = a ∧ ρ' z = H.size) ∨ (z ≠ a ∧ (b ≤ z ∧ z < b + N) ∧ ρ' z = H.size + 1 + (z - b)) ∨ (h z ≠ none ∧ ρ' z = ρ z ∧ ρ z < H.size) := fun z hz => by
        by_cases e1 : z = a
        · exact Or.inl ⟨e1, by rw [e1]; exact ra⟩
        · by_cases e2 : b ≤ z ∧ z < b + N
          · exact Or.inr (Or.inl ⟨e1, e2, rb z e1 e2⟩)
          · have hnz : h z ≠ none := by
              unfold pb_mul at hz
              rw [if_neg e1, if_neg e2] at hz
              exact hz
            exact Or.inr (Or.inr ⟨hnz, hre z hnz, hlt z hnz⟩)
      rcases key x hx with ⟨u1, u2⟩ | ⟨u1, u2, u3⟩ | ⟨u1, u2, u3⟩ <;> rcases key x' hx' with ⟨w1, w2⟩ | ⟨w1, w2, w3⟩ | ⟨w1, w2, w3⟩
      · rw [u1, w1]
      · omega
      · omega
      · omega
      · omega
      · omega
      · omega
      · omega
      · exact hr.2.1 x x' u1 w1 (by rw [← u2, ← w2]; exact hq)
    · have hbase := hr.2.2.2.1
      by_cases e1 : x = a
      · rw [e1, ra]; exact hbase
      · by_cases e2 : b ≤ x ∧ x < b + N
        · rw [rb x e1 e2]; omega
        · have hnz : h x ≠ none := by
            unfold pb_mul at hx
            rw [if_neg e1, if_neg e2] at hx
            exact hx
          rw [hre x hnz]
          exact hr.2.2.1 x hx2 hnz
    · rw [hold q (Nat.lt_of_lt_of_le hq hr.2.2.2.1)]
      exact hr.2.2.2.2.1 q hq
    · rw [hre 1 hr.2.2.2.2.2.2]
      exact hr.2.2.2.2.2.1
  obtain ⟨t, a1, b1⟩ := kk p e s m args below meth c R mc ms ρ0 h0 hF hR (cells + 1 + N) (slots + N + N * M) ρ' F.heap locs ls ⟨by omega, by omega, hD.2.2.1.ext hD.2.2.2.2.2.2.1 hre, hRl, fun x hx => ⟨hmd x (hD.2.2.2.2.1 x hx).1, (hre x (hD.2.2.2.2.1 x hx).1).trans (hD.2.2.2.2.1 x hx).2⟩, ⟨by show pb_mul h a b N M a ≠ none; unfold pb_mul; rw [if_pos rfl]; exact (fun q => by cases q), pb_oks_mono hmd hD.oks.2.2⟩, fun j v hj => pb_ok_mono hmd (hD.2.2.2.2.2.2.1 j v hj), hD.2.2.2.2.2.2.2⟩ F rfl X'
  refine ⟨t, step t ?_, b1⟩
  have e9 : (Value.ref a :: st).map (pb_up ρ') = .ref T.heap.size :: st.map (pb_up ρ) := by
    show Value.ref (ρ' a) :: _ = _
    rw [ra, hT, pb_ups_ext hre hD.oks.2.2]
  rw [e9] at a1
  exact a1
end PBM
end
section
-- ===== end of PART A; then your names; then what follows =====
/-! THE CLAIM OUT OF ONE WALK OF THE LAW'S BODY. Your part is whole_start (and what it stands on); all else here is the same for every law, but numbers. -/
def R_law : String := "PaintBoxLaw"
def lw_P (b : Addr) (xs : List Int32) (args : Array Value) (s : State) : Prop := args = #[.ref b] ∧ s.IntsAt b xs ∧ xs.length ≤ 2560 ∧ (Jvm.Cond.and given_1 narrow_1).before args s = true
def lw_Q (_ : Array Value) (s : State) (o : Outcome) (t : State) : Prop := o = .returned (some (.int 1)) ∧ Framed s o t [] 600000 7302250
def lw_Z (below : List Frame) (a : Array Value) (s : State) : State → Prop := fun t => ∃ o, t.status = .running ∧ Ended t below o ∧ lw_Q a s o t
/-- the law's own end, with 1 on the stack, nothing written that was there before, its room as the claim has it -/
theorem lw_ret {p : Program} {l : Launch} {e : Env} {s : State} {m : MethodId} {below : List Frame} {meth : Method} {c : Code} {b : Nat} (hx : p.tables.exec = Jvm.exec) (hb : c.code = code) (hr : meth.sig.returnType = ret) (hlocks : meth.locks = false) {pc : Nat} {H : Heap} {ls : Array Slot} (hdg : decode code pc = .ok (.ireturn, 1)) : W p l e room_1 s m #[Value.ref b] below meth c H [] 600000 7302250 (lw_Z below #[Value.ref b] s) (F0 m pc ls [.int 1]) := by
  intro T hT X
  obtain ⟨fs, hret, hrun, hended, hW, hframe⟩ := X.leave (v := some (.int 1)) (hlocks := hlocks) (fun h => by rw [hr] at h; cases h)
  have hmeth' : T.vm.method? m = some meth := X.method'
  refine ⟨T.setFrames fs, ?_, .returned (some (.int 1)), hrun, hended, rfl, ⟨_, rfl⟩, hW, hframe⟩
  jvm_step X.here [X.here.top, hx, hb, hdg, hmeth', hr, ret, narrow_b1]
  (try refine ⟨rfl, ?_⟩); (try refine ⟨rfl, ?_⟩)
  first | (intro acts; rw [hret _ acts rfl rfl rfl]) | rw [hret _ _ rfl rfl rfl]
  exact Steps.refl _
/-- what holds at the law's entry: the machine, the code, the tables' words (any of lw_tbl by 'hts w (by decide +kernel)'), the script of L ints xs at the cell b, what the Statement gives of the start (any of its parts by flat_of_before) -/
def lw_At (p : Program) (s : State) (m : MethodId) (meth : Method) (c : Code) (b L : Nat) (xs : Nat → Int32) : Prop :=
  p.tables.exec = Jvm.exec ∧ c.code = code ∧ meth.sig.returnType = ret ∧ c.maxLocals = 4 ∧ s.vm.findClass R_law = some m.cls ∧ (∀ w ∈ lw_tbl, w.before #[Value.ref b] s = true) ∧ va_X b L xs s s.heap ∧ b < s.heap.size ∧ meth.locks = false ∧ (Jvm.Cond.and given_1 narrow_1).before #[Value.ref b] s = true

theorem pb_arrC {ty : FieldType} {A : Array Value} {s : State} (h : (Cond.arrayClass ty).before A s = true) : ∃ (c : ClassId) (k : Class) (comp : ClassId), s.vm.findClass ("[" ++ ty.toString) = some c ∧ s.vm.classes[c]? = some k ∧ k.kind = .array comp ty := by
  obtain ⟨c, k, comp, h1, h2, h3⟩ := Cond.arrayClass_spec h
  exact ⟨c, k, comp, h1, h2, h3⟩
abbrev pb_yL : pb_M := (yL_law, cL_law, 4, some .boolean)
/-- the first heap: the script, the static row -/
def pb_h0 (L : Nat) (xs : Nat → Int32) : pb_H := fun a => if a = 0 then some (.inl (2, L, xs)) else if a = 1 then some (.inl (3, 3, fun j => if j = 0 then 1 else if j = 1 then 2 else 4)) else none

set_option maxRecDepth 100000 in
set_option maxHeartbeats 4000000 in
theorem pb_begin {p : Program} {s : State} {m : MethodId} {meth : Method} {c : Code} (l : Launch) {b L : Nat} {xs : Nat → Int32} (hn : meth.name = "law") (C0 : lw_At p s m meth c b L xs) : ∃ (Z : pb_Z) (ρ : Nat → Nat), pb_zl Z = l ∧ pb_zb Z = s.heap.size ∧ pb_Fx Z pb_yL p s m #[Value.ref b] meth c ∧ pb_Rl Z ρ (pb_h0 L xs) s.heap ∧ ρ 0 = b := by
  obtain ⟨hx, hb, hr, hml, hown, hts, hX, hbl, hlocks, hgv⟩ := id C0

  obtain ⟨c0, iS0, hKn0⟩ := u_known (C := RX0) (T := TX0) (N := 3) (n := 3) hts inX0 (hts (.instantiable RX0 3) (by decide +kernel))
  obtain ⟨c1, iS1, hKn1⟩ := u_known (C := RX1) (T := TX1) (N := 16) (n := 16) hts inX1 (hts (.instantiable RX1 16) (by decide +kernel))
  obtain ⟨c2, iS2, hKn2⟩ := u_known (C := RX2) (T := TX2) (N := 8) (n := 8) hts inX2 (hts (.instantiable RX2 8) (by decide +kernel))
  obtain ⟨c3, iS3, hKn3⟩ := u_known (C := RX3) (T := TX3) (N := 7) (n := 7) hts inX3 (hts (.instantiable RX3 7) (by decide +kernel))
  obtain ⟨c4, iS4, hKn4⟩ := u_known (C := RX4) (T := TX4) (N := 5) (n := 5) hts inX4 (hts (.instantiable RX4 5) (by decide +kernel))
  obtain ⟨c5, iS5, hKn5⟩ := u_known (C := RX5) (T := TX5) (N := 16) (n := 16) hts inX5 (hts (.instantiable RX5 16) (by decide +kernel))
  obtain ⟨c6, iS6, hKn6⟩ := u_known (C := RX6) (T := TX6) (N := 2) (n := 2) hts inX6 (hts (.instantiable RX6 2) (by decide +kernel))
  obtain ⟨c7, iS7, hKn7⟩ := u_known (C := RX8) (T := TX8) (N := 2) (n := 2) hts inX8 (hts (.instantiable RX8 2) (by decide +kernel))
  obtain ⟨c8, iS8, hKn8⟩ := u_known (C := RX10) (T := TX10) (N := 7) (n := 7) hts inX10 (hts (.instantiable RX10 7) (by decide +kernel))
  obtain ⟨c9, iS9, hKn9⟩ := u_known (C := RX11) (T := TX11) (N := 12) (n := 12) hts inX11 (hts (.instantiable RX11 12) (by decide +kernel))
  obtain ⟨c10, iS10, hKn10⟩ := u_known (C := RX12) (T := TX12) (N := 32) (n := 32) hts inX12 (hts (.instantiable RX12 32) (by decide +kernel))
  obtain ⟨dC, dI, hKc⟩ : ∃ (dC : Nat → ClassId) (dI : Nat → Nat → Nat), ∀ (k : Nat) (q : vw_C), vwCl[k]? = some q → u_Kn s q.1 q.2.1 q.2.2 (dC k) (dI k) := by
    refine ⟨fun k => if k = 0 then c0 else if k = 1 then c1 else if k = 2 then c2 else if k = 3 then c3 else if k = 4 then c4 else if k = 5 then c5 else if k = 6 then c6 else if k = 7 then c7 else if k = 8 then c8 else if k = 9 then c9 else c10, fun k => if k = 0 then iS0 else if k = 1 then iS1 else if k = 2 then iS2 else if k = 3 then iS3 else if k = 4 then iS4 else if k = 5 then iS5 else if k = 6 then iS6 else if k = 7 then iS7 else if k = 8 then iS8 else if k = 9 then iS9 else iS10, ?_⟩
    intro k q hq
    match k, hq with
    | 0, hq => cases hq; exact hKn0
    | 1, hq => cases hq; exact hKn1
    | 2, hq => cases hq; exact hKn2
    | 3, hq => cases hq; exact hKn3
    | 4, hq => cases hq; exact hKn4
    | 5, hq => cases hq; exact hKn5
    | 6, hq => cases hq; exact hKn6
    | 7, hq => cases hq; exact hKn7
    | 8, hq => cases hq; exact hKn8
    | 9, hq => cases hq; exact hKn9
    | 10, hq => cases hq; exact hKn10
    | k + 11, hq => simp [vwCl] at hq
  -- arrays of ints and booleans
  have hsI : (Cond.arrayClass .int).before #[Value.ref b] s = true := hts _ (by decide +kernel)
  have hsZ : (Cond.arrayClass .boolean).before #[Value.ref b] s = true := hts _ (by decide +kernel)
  obtain ⟨cI, kI, cmI, fI1, fI2, fI3⟩ := pb_arrC hsI
  obtain ⟨cZ, kZ, cmZ, fZ1, fZ2, fZ3⟩ := pb_arrC hsZ

  have ovT : (Cond.arrayOver (.object "PaintBox$Tube")).before #[Value.ref b] s = true := hts _ (by decide +kernel)
  obtain ⟨cmT, cT, kT, hT1, -, hT2, hT3, hT4⟩ := Cond.arrayOver_spec ovT
  have ovM : (Cond.arrayOver (.object "PaintBox$Mixture")).before #[Value.ref b] s = true := hts _ (by decide +kernel)
  obtain ⟨cmM, cM, kM, hM1, -, hM2, hM3, hM4⟩ := Cond.arrayOver_spec ovM
  have ovA : (Cond.arrayOver (.object "PaintBox$Area")).before #[Value.ref b] s = true := hts _ (by decide +kernel)
  obtain ⟨cmA, cA, kA, hA1, -, hA2, hA3, hA4⟩ := Cond.arrayOver_spec ovA
  have ovY : (Cond.arrayOver (.object "PaintBox$Layer")).before #[Value.ref b] s = true := hts _ (by decide +kernel)
  obtain ⟨cmY, cY, kY, hY1, -, hY2, hY3, hY4⟩ := Cond.arrayOver_spec ovY
  have ovI : (Cond.arrayOver (.array .int)).before #[Value.ref b] s = true := hts _ (by decide +kernel)
  obtain ⟨cm2, c2, k2, h21, -, h22, h23, h24⟩ := arrayOverA_spec ovI
  -- the script and the static row
  obtain ⟨scr, hs1, hs2, hs3, hs4, hs5⟩ := hX
  have hall := flat_of_before _ hgv
  have hA : ∀ a : Nat, a < s.heap.size → ¬ (fun q => s.heap.size ≤ q) a := fun a h1 h2 => by
    have h2 : s.heap.size ≤ a := h2
    omega
  obtain ⟨tA, htA, hTT⟩ := va_Tof (A := fun q => s.heap.size ≤ q) (N := 3) (f := fun j => .int (if j = 0 then 1 else if j = 1 then 2 else 4)) (by omega) (hall (.arrayOf (.static "PaintBoxModel" "THICKNESS" "[I") .int) (by decide +kernel)) (va_eqt (hall (.eq (.length (.static "PaintBoxModel" "THICKNESS" "[I")) (.int 3)) (by decide +kernel))) (fun j hj => by
    rcases (show j = 0 ∨ j = 1 ∨ j = 2 by omega) with rfl | rfl | rfl
    · exact va_eqt (hall (.eq (.elem (.static "PaintBoxModel" "THICKNESS" "[I") (.int 0)) (.int 1)) (by decide +kernel))
    · exact va_eqt (hall (.eq (.elem (.static "PaintBoxModel" "THICKNESS" "[I") (.int 1)) (.int 2)) (by decide +kernel))
    · exact va_eqt (hall (.eq (.elem (.static "PaintBoxModel" "THICKNESS" "[I") (.int 2)) (.int 4)) (by decide +kernel))) hA
  have hne : b ≠ tA := by
    intro e
    have hq := hall (.not (.eq (.arg 0) (.static "PaintBoxModel" "THICKNESS" "[I"))) (by decide +kernel)
    have e1 : (Term.arg 0).eval #[Value.ref b] s none [] s = some (.ref b) := rfl
    rw [← e] at htA
    simp [Cond.before, Cond.holds, Cond.value, e1, htA] at hq
  have hZt := va_Zref (A := fun q => s.heap.size ≤ q) (hts (.laysStatic "PaintBoxModel" "THICKNESS" "[I") (by decide +kernel)) (hts (.initialized "PaintBoxModel") (by decide +kernel)) htA hA
  obtain ⟨th, ht1, ht2, ht3, ht4, ht5, ht6, ht7⟩ := hTT
  refine ⟨(l, s.heap.size, (dC, dI), (fun k => if k = 0 then cI else if k = 1 then cZ else if k = 2 then scr.cls else th.cls), (fun k => if k = 0 then cT else if k = 1 then cM else if k = 2 then cA else if k = 3 then cY else c2), s.heap, tA), (fun a => if a = 0 then b else tA), rfl, rfl, ⟨hx, hb, hr, hml, hown, pb_tbl_of hts, ⟨⟨⟨hKc, fun k q hk => ?_⟩, fun N z => ?_, fun N z => ?_, hZt, ⟨ovT, ovM, ovA, ovY, ovI⟩⟩, fun w hw => va_Nw.of (pb_isN_on (List.mem_filter.mp hw).2) (hts w (List.mem_filter.mp hw).1)⟩, hlocks, hn⟩, ⟨fun a cc ha => ?_, fun a a' ha ha' hq => ?_, fun a ha2 ha => ?_, Nat.le_refl _, fun q _ => rfl, rfl, fun q => by cases q⟩, rfl⟩
  · match k, hk with
    | 0, hk => cases hk; exact ⟨fun N z => ⟨(fun q hq => by cases hq), kI, fI2, cmI, fI3⟩, fI1⟩
    | 1, hk => cases hk; exact ⟨fun N z => ⟨(fun q hq => by cases hq), kZ, fZ2, cmZ, fZ3⟩, fZ1⟩
    | 2, hk => cases hk; exact ⟨fun N z => ⟨(fun q hq => by cases hq), kT, hT2, cmT, hT3⟩, kT, cmT, hT2, hT3, hT1, hT4⟩
    | 3, hk => cases hk; exact ⟨fun N z => ⟨(fun q hq => by cases hq), kM, hM2, cmM, hM3⟩, kM, cmM, hM2, hM3, hM1, hM4⟩
    | 4, hk => cases hk; exact ⟨fun N z => ⟨(fun q hq => by cases hq), kA, hA2, cmA, hA3⟩, kA, cmA, hA2, hA3, hA1, hA4⟩
    | 5, hk => cases hk; exact ⟨fun N z => ⟨(fun q hq => by cases hq), kY, hY2, cmY, hY3⟩, kY, cmY, hY2, hY3, hY1, hY4⟩
    | 6, hk => cases hk; exact ⟨fun N z => ⟨(fun q hq => by cases hq), k2, h22, cm2, h23⟩, h24⟩
    | k + 7, hk => simp [pb_ts] at hk
  · obtain ⟨-, kS, hkS, cmS, hkkS⟩ := hs2
    exact ⟨(fun q hq => by cases hq), kS, hkS, cmS, hkkS⟩
  · obtain ⟨-, kS, hkS, cmS, hkkS⟩ := ht2
    exact ⟨(fun q hq => by cases hq), kS, hkS, cmS, hkkS⟩
  · unfold pb_h0 at ha
    by_cases e0 : a = 0
    · rw [if_pos e0] at ha
      cases ha
      subst e0
      exact ⟨⟨scr, hs1, rfl, hs2.1, hs3, ⟨by omega, by rw [hs4]; rfl⟩, hs5, fun h9 => by omega⟩, trivial⟩
    · rw [if_neg e0] at ha
      by_cases e1 : a = 1
      · rw [if_pos e1] at ha
        cases ha
        subst e1
        exact ⟨⟨th, ht1, rfl, ht2.1, ht3, ⟨ht4, ht5⟩, ht6, fun h9 => by omega⟩, trivial⟩
      · rw [if_neg e1] at ha
        cases ha
  · have hd : ∀ z, pb_h0 L xs z ≠ none → z = 0 ∨ z = 1 := fun z hz => by
      unfold pb_h0 at hz
      by_cases e0 : z = 0
      · exact Or.inl e0
      · rw [if_neg e0] at hz
        by_cases e1 : z = 1
        · exact Or.inr e1
        · rw [if_neg e1] at hz
          exact absurd rfl hz
    rcases hd a ha with rfl | rfl <;> rcases hd a' ha' with rfl | rfl
    · rfl
    · exact absurd hq hne
    · exact absurd hq.symm hne
    · rfl
  · exfalso
    apply ha
    unfold pb_h0
    rw [if_neg (by omega), if_neg (by omega)]
/-- THE LAW's WALK out of the small machine's -/
theorem pb_whole {p : Program} {e : Env} {s : State} {m : MethodId} {below : List Frame} {meth : Method} {c : Code} (l : Launch) {b L : Nat} {xs : Nat → Int32} (hn : meth.name = "law") (C0 : lw_At p s m meth c b L xs) (hS : ∀ Z : pb_Z, pb_S Z pb_yL 100 600000 7302250 (fun v _ => v = some (.int 1)) 0 [some (.ref 0), none, none, none] [] (pb_h0 L xs)) : W p l e room_1 s m #[Value.ref b] below meth c s.heap [] 0 0 (lw_Z below #[Value.ref b] s) (entryFrame m ([Value.ref b] : List Value).toArray 4) := by
  obtain ⟨Z, ρ, rfl, hzb, hF, hRl, h0⟩ := pb_begin l hn C0
  have hle := lv_entry ([.ref b]) (n := 4) (Nat.le_of_ble_eq_true rfl)
  rw [lg_entry_eq]
  generalize (lg_sl ([.ref b]) ++ List.replicate (4 - (lg_sl ([.ref b])).length) Slot.unset).toArray = ls at hle ⊢
  have hz0 : pb_h0 L xs 0 ≠ none := fun q => by cases q
  refine pb_W_Q (hS Z p e s m #[Value.ref b] below meth c room_1 600000 7302250 ρ (pb_h0 L xs) hF ⟨by decide, by decide, rfl, rfl⟩ 0 0 ρ s.heap [] ls ⟨by omega, by omega, ⟨hle.1, hle.2.1, fun i v hi => ?_⟩, hRl, fun a ha => ⟨ha, rfl⟩, trivial, fun i v hi => ?_, fun q hq => by cases hq⟩) ?_
  · match i, hi with
    | 0, hi =>
      cases hi
      show ls[0]? = some (.val (.ref (ρ 0)))
      rw [h0]
      exact hle.2.2 (0, .ref b) List.mem_cons_self
    | 1, hi => cases hi
    | 2, hi => cases hi
    | 3, hi => cases hi
    | i + 4, hi => simp at hi
  · match i, hi with
    | 0, hi => cases hi; exact hz0
    | 1, hi => cases hi
    | 2, hi => cases hi
    | 3, hi => cases hi
    | i + 4, hi => simp at hi
  · rintro t ⟨o, h1, h2, ⟨v, ρ', h', q1, q2, q3, q4, q5⟩, Lc, hFE, hLc⟩
    subst q5
    refine ⟨o, h1, h2, q1, ?_⟩
    obtain ⟨z1, z2, z3⟩ := hFE
    refine ⟨z1, z2, z3.weaken (fun y hy hlt => ?_) (Nat.le_refl _) (Nat.le_refl _)⟩
    have := hLc y hy
    rw [hzb] at this
    exact absurd hlt (Nat.not_lt.mpr this)
end
section
theorem pb_i0 {w : Cond} (h : w ∈ k2_sels lw_privs) (hg : goodWord w = true) : w ∈ pb_tbl := List.mem_append_right _ (List.mem_filter.mpr ⟨List.mem_append_left _ h, hg⟩)
theorem pb_i1 {w : Cond} (h : w ∈ tables_1_1) (hg : goodWord w = true) : w ∈ pb_tbl := List.mem_append_right _ (List.mem_filter.mpr ⟨List.mem_append_right _ (List.mem_append_left _ h), hg⟩)
theorem pb_j1 {w : Cond} (h : w ∈ tables_1_1) (hg : pb_isN w = true) : w ∈ pb_nw := List.mem_filter.mpr ⟨List.mem_append_right _ (List.mem_append_left _ h), hg⟩
theorem pb_i2 {w : Cond} (h : w ∈ tables_1_2) (hg : goodWord w = true) : w ∈ pb_tbl := List.mem_append_right _ (List.mem_filter.mpr ⟨List.mem_append_right _ (List.mem_append_right _ (List.mem_append_left _ h)), hg⟩)
theorem pb_j2 {w : Cond} (h : w ∈ tables_1_2) (hg : pb_isN w = true) : w ∈ pb_nw := List.mem_filter.mpr ⟨List.mem_append_right _ (List.mem_append_right _ (List.mem_append_left _ h)), hg⟩
theorem pb_i3 {w : Cond} (h : w ∈ tables_1_3) (hg : goodWord w = true) : w ∈ pb_tbl := List.mem_append_right _ (List.mem_filter.mpr ⟨List.mem_append_right _ (List.mem_append_right _ (List.mem_append_right _ (List.mem_append_left _ h))), hg⟩)
theorem pb_j3 {w : Cond} (h : w ∈ tables_1_3) (hg : pb_isN w = true) : w ∈ pb_nw := List.mem_filter.mpr ⟨List.mem_append_right _ (List.mem_append_right _ (List.mem_append_right _ (List.mem_append_left _ h))), hg⟩
theorem pb_i4 {w : Cond} (h : w ∈ tables_1_4) (hg : goodWord w = true) : w ∈ pb_tbl := List.mem_append_right _ (List.mem_filter.mpr ⟨List.mem_append_right _ (List.mem_append_right _ (List.mem_append_right _ (List.mem_append_right _ (List.mem_append_left _ h)))), hg⟩)
theorem pb_j4 {w : Cond} (h : w ∈ tables_1_4) (hg : pb_isN w = true) : w ∈ pb_nw := List.mem_filter.mpr ⟨List.mem_append_right _ (List.mem_append_right _ (List.mem_append_right _ (List.mem_append_right _ (List.mem_append_left _ h)))), hg⟩
theorem pb_i5 {w : Cond} (h : w ∈ tables_1_5) (hg : goodWord w = true) : w ∈ pb_tbl := List.mem_append_right _ (List.mem_filter.mpr ⟨List.mem_append_right _ (List.mem_append_right _ (List.mem_append_right _ (List.mem_append_right _ (List.mem_append_right _ h)))), hg⟩)
theorem pb_j5 {w : Cond} (h : w ∈ tables_1_5) (hg : pb_isN w = true) : w ∈ pb_nw := List.mem_filter.mpr ⟨List.mem_append_right _ (List.mem_append_right _ (List.mem_append_right _ (List.mem_append_right _ (List.mem_append_right _ h)))), hg⟩
theorem pb_wi0 : ∀ w ∈ u_ws RX0 TX0 3, w ∈ pb_tbl := by
  show ∀ w ∈ [u_lay RX0 TX0 0, u_lay RX0 TX0 1, u_lay RX0 TX0 2], w ∈ pb_tbl
  exact List.forall_mem_cons.mpr ⟨pb_i1 (List.mem_of_getElem? (i := 237) (by decide +kernel)) rfl, List.forall_mem_cons.mpr ⟨pb_i1 (List.mem_of_getElem? (i := 239) (by decide +kernel)) rfl, List.forall_mem_cons.mpr ⟨pb_i2 (List.mem_of_getElem? (i := 1) (by decide +kernel)) rfl, fun _ h => absurd h List.not_mem_nil⟩⟩⟩
theorem pb_cl0 : pb_cl 0 RX0 TX0 3 tyX0 := ⟨rfl, pb_wi0, tyX0_ok, nmX0⟩
theorem pb_wi1 : ∀ w ∈ u_ws RX1 TX1 16, w ∈ pb_tbl := by
  show ∀ w ∈ [u_lay RX1 TX1 0, u_lay RX1 TX1 1, u_lay RX1 TX1 2, u_lay RX1 TX1 3, u_lay RX1 TX1 4, u_lay RX1 TX1 5, u_lay RX1 TX1 6, u_lay RX1 TX1 7, u_lay RX1 TX1 8, u_lay RX1 TX1 9, u_lay RX1 TX1 10, u_lay RX1 TX1 11, u_lay RX1 TX1 12, u_lay RX1 TX1 13, u_lay RX1 TX1 14, u_lay RX1 TX1 15], w ∈ pb_tbl
  exact List.forall_mem_cons.mpr ⟨pb_i1 (List.mem_of_getElem? (i := 167) (by decide +kernel)) rfl, List.forall_mem_cons.mpr ⟨pb_i1 (List.mem_of_getElem? (i := 168) (by decide +kernel)) rfl, List.forall_mem_cons.mpr ⟨pb_i1 (List.mem_of_getElem? (i := 169) (by decide +kernel)) rfl, List.forall_mem_cons.mpr ⟨pb_i1 (List.mem_of_getElem? (i := 170) (by decide +kernel)) rfl, List.forall_mem_cons.mpr ⟨pb_i1 (List.mem_of_getElem? (i := 171) (by decide +kernel)) rfl, List.forall_mem_cons.mpr ⟨pb_i1 (List.mem_of_getElem? (i := 172) (by decide +kernel)) rfl, List.forall_mem_cons.mpr ⟨pb_i1 (List.mem_of_getElem? (i := 173) (by decide +kernel)) rfl, List.forall_mem_cons.mpr ⟨pb_i1 (List.mem_of_getElem? (i := 174) (by decide +kernel)) rfl, List.forall_mem_cons.mpr ⟨pb_i1 (List.mem_of_getElem? (i := 175) (by decide +kernel)) rfl, List.forall_mem_cons.mpr ⟨pb_i1 (List.mem_of_getElem? (i := 176) (by decide +kernel)) rfl, List.forall_mem_cons.mpr ⟨pb_i1 (List.mem_of_getElem? (i := 177) (by decide +kernel)) rfl, List.forall_mem_cons.mpr ⟨pb_i1 (List.mem_of_getElem? (i := 157) (by decide +kernel)) rfl, List.forall_mem_cons.mpr ⟨pb_i1 (List.mem_of_getElem? (i := 159) (by decide +kernel)) rfl, List.forall_mem_cons.mpr ⟨pb_i1 (List.mem_of_getElem? (i := 161) (by decide +kernel)) rfl, List.forall_mem_cons.mpr ⟨pb_i1 (List.mem_of_getElem? (i := 163) (by decide +kernel)) rfl, List.forall_mem_cons.mpr ⟨pb_i1 (List.mem_of_getElem? (i := 165) (by decide +kernel)) rfl, fun _ h => absurd h List.not_mem_nil⟩⟩⟩⟩⟩⟩⟩⟩⟩⟩⟩⟩⟩⟩⟩⟩
theorem pb_cl1 : pb_cl 1 RX1 TX1 16 tyX1 := ⟨rfl, pb_wi1, tyX1_ok, nmX1⟩
theorem pb_wi2 : ∀ w ∈ u_ws RX2 TX2 8, w ∈ pb_tbl := by
  show ∀ w ∈ [u_lay RX2 TX2 0, u_lay RX2 TX2 1, u_lay RX2 TX2 2, u_lay RX2 TX2 3, u_lay RX2 TX2 4, u_lay RX2 TX2 5, u_lay RX2 TX2 6, u_lay RX2 TX2 7], w ∈ pb_tbl
  exact List.forall_mem_cons.mpr ⟨pb_i1 (List.mem_of_getElem? (i := 195) (by decide +kernel)) rfl, List.forall_mem_cons.mpr ⟨pb_i1 (List.mem_of_getElem? (i := 197) (by decide +kernel)) rfl, List.forall_mem_cons.mpr ⟨pb_i1 (List.mem_of_getElem? (i := 199) (by decide +kernel)) rfl, List.forall_mem_cons.mpr ⟨pb_i1 (List.mem_of_getElem? (i := 201) (by decide +kernel)) rfl, List.forall_mem_cons.mpr ⟨pb_i1 (List.mem_of_getElem? (i := 203) (by decide +kernel)) rfl, List.forall_mem_cons.mpr ⟨pb_i1 (List.mem_of_getElem? (i := 205) (by decide +kernel)) rfl, List.forall_mem_cons.mpr ⟨pb_i1 (List.mem_of_getElem? (i := 207) (by decide +kernel)) rfl, List.forall_mem_cons.mpr ⟨pb_i1 (List.mem_of_getElem? (i := 209) (by decide +kernel)) rfl, fun _ h => absurd h List.not_mem_nil⟩⟩⟩⟩⟩⟩⟩⟩
theorem pb_cl2 : pb_cl 2 RX2 TX2 8 tyX2 := ⟨rfl, pb_wi2, tyX2_ok, nmX2⟩
theorem pb_wi3 : ∀ w ∈ u_ws RX3 TX3 7, w ∈ pb_tbl := by
  show ∀ w ∈ [u_lay RX3 TX3 0, u_lay RX3 TX3 1, u_lay RX3 TX3 2, u_lay RX3 TX3 3, u_lay RX3 TX3 4, u_lay RX3 TX3 5, u_lay RX3 TX3 6], w ∈ pb_tbl
  exact List.forall_mem_cons.mpr ⟨pb_i3 (List.mem_of_getElem? (i := 56) (by decide +kernel)) rfl, List.forall_mem_cons.mpr ⟨pb_i3 (List.mem_of_getElem? (i := 58) (by decide +kernel)) rfl, List.forall_mem_cons.mpr ⟨pb_i3 (List.mem_of_getElem? (i := 60) (by decide +kernel)) rfl, List.forall_mem_cons.mpr ⟨pb_i3 (List.mem_of_getElem? (i := 62) (by decide +kernel)) rfl, List.forall_mem_cons.mpr ⟨pb_i3 (List.mem_of_getElem? (i := 64) (by decide +kernel)) rfl, List.forall_mem_cons.mpr ⟨pb_i3 (List.mem_of_getElem? (i := 66) (by decide +kernel)) rfl, List.forall_mem_cons.mpr ⟨pb_i3 (List.mem_of_getElem? (i := 68) (by decide +kernel)) rfl, fun _ h => absurd h List.not_mem_nil⟩⟩⟩⟩⟩⟩⟩
theorem pb_cl3 : pb_cl 3 RX3 TX3 7 tyX3 := ⟨rfl, pb_wi3, tyX3_ok, nmX3⟩
theorem pb_wi4 : ∀ w ∈ u_ws RX4 TX4 5, w ∈ pb_tbl := by
  show ∀ w ∈ [u_lay RX4 TX4 0, u_lay RX4 TX4 1, u_lay RX4 TX4 2, u_lay RX4 TX4 3, u_lay RX4 TX4 4], w ∈ pb_tbl
  exact List.forall_mem_cons.mpr ⟨pb_i1 (List.mem_of_getElem? (i := 66) (by decide +kernel)) rfl, List.forall_mem_cons.mpr ⟨pb_i1 (List.mem_of_getElem? (i := 68) (by decide +kernel)) rfl, List.forall_mem_cons.mpr ⟨pb_i1 (List.mem_of_getElem? (i := 70) (by decide +kernel)) rfl, List.forall_mem_cons.mpr ⟨pb_i1 (List.mem_of_getElem? (i := 72) (by decide +kernel)) rfl, List.forall_mem_cons.mpr ⟨pb_i1 (List.mem_of_getElem? (i := 74) (by decide +kernel)) rfl, fun _ h => absurd h List.not_mem_nil⟩⟩⟩⟩⟩
theorem pb_cl4 : pb_cl 4 RX4 TX4 5 tyX4 := ⟨rfl, pb_wi4, tyX4_ok, nmX4⟩
theorem pb_wi5 : ∀ w ∈ u_ws RX5 TX5 16, w ∈ pb_tbl := by
  show ∀ w ∈ [u_lay RX5 TX5 0, u_lay RX5 TX5 1, u_lay RX5 TX5 2, u_lay RX5 TX5 3, u_lay RX5 TX5 4, u_lay RX5 TX5 5, u_lay RX5 TX5 6, u_lay RX5 TX5 7, u_lay RX5 TX5 8, u_lay RX5 TX5 9, u_lay RX5 TX5 10, u_lay RX5 TX5 11, u_lay RX5 TX5 12, u_lay RX5 TX5 13, u_lay RX5 TX5 14, u_lay RX5 TX5 15], w ∈ pb_tbl
  exact List.forall_mem_cons.mpr ⟨pb_i1 (List.mem_of_getElem? (i := 122) (by decide +kernel)) rfl, List.forall_mem_cons.mpr ⟨pb_i1 (List.mem_of_getElem? (i := 124) (by decide +kernel)) rfl, List.forall_mem_cons.mpr ⟨pb_i1 (List.mem_of_getElem? (i := 126) (by decide +kernel)) rfl, List.forall_mem_cons.mpr ⟨pb_i1 (List.mem_of_getElem? (i := 128) (by decide +kernel)) rfl, List.forall_mem_cons.mpr ⟨pb_i1 (List.mem_of_getElem? (i := 130) (by decide +kernel)) rfl, List.forall_mem_cons.mpr ⟨pb_i1 (List.mem_of_getElem? (i := 132) (by decide +kernel)) rfl, List.forall_mem_cons.mpr ⟨pb_i1 (List.mem_of_getElem? (i := 134) (by decide +kernel)) rfl, List.forall_mem_cons.mpr ⟨pb_i1 (List.mem_of_getElem? (i := 136) (by decide +kernel)) rfl, List.forall_mem_cons.mpr ⟨pb_i1 (List.mem_of_getElem? (i := 138) (by decide +kernel)) rfl, List.forall_mem_cons.mpr ⟨pb_i1 (List.mem_of_getElem? (i := 140) (by decide +kernel)) rfl, List.forall_mem_cons.mpr ⟨pb_i1 (List.mem_of_getElem? (i := 142) (by decide +kernel)) rfl, List.forall_mem_cons.mpr ⟨pb_i1 (List.mem_of_getElem? (i := 112) (by decide +kernel)) rfl, List.forall_mem_cons.mpr ⟨pb_i1 (List.mem_of_getElem? (i := 114) (by decide +kernel)) rfl, List.forall_mem_cons.mpr ⟨pb_i1 (List.mem_of_getElem? (i := 116) (by decide +kernel)) rfl, List.forall_mem_cons.mpr ⟨pb_i1 (List.mem_of_getElem? (i := 118) (by decide +kernel)) rfl, List.forall_mem_cons.mpr ⟨pb_i1 (List.mem_of_getElem? (i := 120) (by decide +kernel)) rfl, fun _ h => absurd h List.not_mem_nil⟩⟩⟩⟩⟩⟩⟩⟩⟩⟩⟩⟩⟩⟩⟩⟩
theorem pb_cl5 : pb_cl 5 RX5 TX5 16 tyX5 := ⟨rfl, pb_wi5, tyX5_ok, nmX5⟩
theorem pb_wi6 : ∀ w ∈ u_ws RX6 TX6 2, w ∈ pb_tbl := by
  show ∀ w ∈ [u_lay RX6 TX6 0, u_lay RX6 TX6 1], w ∈ pb_tbl
  exact List.forall_mem_cons.mpr ⟨pb_i1 (List.mem_of_getElem? (i := 220) (by decide +kernel)) rfl, List.forall_mem_cons.mpr ⟨pb_i1 (List.mem_of_getElem? (i := 222) (by decide +kernel)) rfl, fun _ h => absurd h List.not_mem_nil⟩⟩
theorem pb_cl6 : pb_cl 6 RX6 TX6 2 tyX6 := ⟨rfl, pb_wi6, tyX6_ok, nmX6⟩
theorem pb_wi7 : ∀ w ∈ u_ws RX8 TX8 2, w ∈ pb_tbl := by
  show ∀ w ∈ [u_lay RX8 TX8 0, u_lay RX8 TX8 1], w ∈ pb_tbl
  exact List.forall_mem_cons.mpr ⟨pb_i1 (List.mem_of_getElem? (i := 40) (by decide +kernel)) rfl, List.forall_mem_cons.mpr ⟨pb_i1 (List.mem_of_getElem? (i := 42) (by decide +kernel)) rfl, fun _ h => absurd h List.not_mem_nil⟩⟩
theorem pb_cl7 : pb_cl 7 RX8 TX8 2 tyX8 := ⟨rfl, pb_wi7, tyX8_ok, nmX8⟩
theorem pb_wi8 : ∀ w ∈ u_ws RX10 TX10 7, w ∈ pb_tbl := by
  show ∀ w ∈ [u_lay RX10 TX10 0, u_lay RX10 TX10 1, u_lay RX10 TX10 2, u_lay RX10 TX10 3, u_lay RX10 TX10 4, u_lay RX10 TX10 5, u_lay RX10 TX10 6], w ∈ pb_tbl
  exact List.forall_mem_cons.mpr ⟨pb_i2 (List.mem_of_getElem? (i := 78) (by decide +kernel)) rfl, List.forall_mem_cons.mpr ⟨pb_i2 (List.mem_of_getElem? (i := 80) (by decide +kernel)) rfl, List.forall_mem_cons.mpr ⟨pb_i2 (List.mem_of_getElem? (i := 82) (by decide +kernel)) rfl, List.forall_mem_cons.mpr ⟨pb_i2 (List.mem_of_getElem? (i := 84) (by decide +kernel)) rfl, List.forall_mem_cons.mpr ⟨pb_i2 (List.mem_of_getElem? (i := 86) (by decide +kernel)) rfl, List.forall_mem_cons.mpr ⟨pb_i2 (List.mem_of_getElem? (i := 88) (by decide +kernel)) rfl, List.forall_mem_cons.mpr ⟨pb_i2 (List.mem_of_getElem? (i := 90) (by decide +kernel)) rfl, fun _ h => absurd h List.not_mem_nil⟩⟩⟩⟩⟩⟩⟩
theorem pb_cl8 : pb_cl 8 RX10 TX10 7 tyX10 := ⟨rfl, pb_wi8, tyX10_ok, nmX10⟩
theorem pb_wi9 : ∀ w ∈ u_ws RX11 TX11 12, w ∈ pb_tbl := by
  show ∀ w ∈ [u_lay RX11 TX11 0, u_lay RX11 TX11 1, u_lay RX11 TX11 2, u_lay RX11 TX11 3, u_lay RX11 TX11 4, u_lay RX11 TX11 5, u_lay RX11 TX11 6, u_lay RX11 TX11 7, u_lay RX11 TX11 8, u_lay RX11 TX11 9, u_lay RX11 TX11 10, u_lay RX11 TX11 11], w ∈ pb_tbl
  exact List.forall_mem_cons.mpr ⟨pb_i2 (List.mem_of_getElem? (i := 16) (by decide +kernel)) rfl, List.forall_mem_cons.mpr ⟨pb_i2 (List.mem_of_getElem? (i := 18) (by decide +kernel)) rfl, List.forall_mem_cons.mpr ⟨pb_i2 (List.mem_of_getElem? (i := 20) (by decide +kernel)) rfl, List.forall_mem_cons.mpr ⟨pb_i2 (List.mem_of_getElem? (i := 22) (by decide +kernel)) rfl, List.forall_mem_cons.mpr ⟨pb_i2 (List.mem_of_getElem? (i := 24) (by decide +kernel)) rfl, List.forall_mem_cons.mpr ⟨pb_i2 (List.mem_of_getElem? (i := 26) (by decide +kernel)) rfl, List.forall_mem_cons.mpr ⟨pb_i2 (List.mem_of_getElem? (i := 28) (by decide +kernel)) rfl, List.forall_mem_cons.mpr ⟨pb_i2 (List.mem_of_getElem? (i := 30) (by decide +kernel)) rfl, List.forall_mem_cons.mpr ⟨pb_i2 (List.mem_of_getElem? (i := 32) (by decide +kernel)) rfl, List.forall_mem_cons.mpr ⟨pb_i2 (List.mem_of_getElem? (i := 34) (by decide +kernel)) rfl, List.forall_mem_cons.mpr ⟨pb_i2 (List.mem_of_getElem? (i := 36) (by decide +kernel)) rfl, List.forall_mem_cons.mpr ⟨pb_i2 (List.mem_of_getElem? (i := 38) (by decide +kernel)) rfl, fun _ h => absurd h List.not_mem_nil⟩⟩⟩⟩⟩⟩⟩⟩⟩⟩⟩⟩
theorem pb_cl9 : pb_cl 9 RX11 TX11 12 tyX11 := ⟨rfl, pb_wi9, tyX11_ok, nmX11⟩
theorem pb_wi10 : ∀ w ∈ u_ws RX12 TX12 32, w ∈ pb_tbl := by
  show ∀ w ∈ [u_lay RX12 TX12 0, u_lay RX12 TX12 1, u_lay RX12 TX12 2, u_lay RX12 TX12 3, u_lay RX12 TX12 4, u_lay RX12 TX12 5, u_lay RX12 TX12 6, u_lay RX12 TX12 7, u_lay RX12 TX12 8, u_lay RX12 TX12 9, u_lay RX12 TX12 10, u_lay RX12 TX12 11, u_lay RX12 TX12 12, u_lay RX12 TX12 13, u_lay RX12 TX12 14, u_lay RX12 TX12 15, u_lay RX12 TX12 16, u_lay RX12 TX12 17, u_lay RX12 TX12 18, u_lay RX12 TX12 19, u_lay RX12 TX12 20, u_lay RX12 TX12 21, u_lay RX12 TX12 22, u_lay RX12 TX12 23, u_lay RX12 TX12 24, u_lay RX12 TX12 25, u_lay RX12 TX12 26, u_lay RX12 TX12 27, u_lay RX12 TX12 28, u_lay RX12 TX12 29, u_lay RX12 TX12 30, u_lay RX12 TX12 31], w ∈ pb_tbl
  exact List.forall_mem_cons.mpr ⟨pb_i4 (List.mem_of_getElem? (i := 117) (by decide +kernel)) rfl, List.forall_mem_cons.mpr ⟨pb_i4 (List.mem_of_getElem? (i := 119) (by decide +kernel)) rfl, List.forall_mem_cons.mpr ⟨pb_i4 (List.mem_of_getElem? (i := 121) (by decide +kernel)) rfl, List.forall_mem_cons.mpr ⟨pb_i4 (List.mem_of_getElem? (i := 123) (by decide +kernel)) rfl, List.forall_mem_cons.mpr ⟨pb_i4 (List.mem_of_getElem? (i := 125) (by decide +kernel)) rfl, List.forall_mem_cons.mpr ⟨pb_i4 (List.mem_of_getElem? (i := 127) (by decide +kernel)) rfl, List.forall_mem_cons.mpr ⟨pb_i4 (List.mem_of_getElem? (i := 129) (by decide +kernel)) rfl, List.forall_mem_cons.mpr ⟨pb_i4 (List.mem_of_getElem? (i := 131) (by decide +kernel)) rfl, List.forall_mem_cons.mpr ⟨pb_i4 (List.mem_of_getElem? (i := 133) (by decide +kernel)) rfl, List.forall_mem_cons.mpr ⟨pb_i4 (List.mem_of_getElem? (i := 135) (by decide +kernel)) rfl, List.forall_mem_cons.mpr ⟨pb_i4 (List.mem_of_getElem? (i := 137) (by decide +kernel)) rfl, List.forall_mem_cons.mpr ⟨pb_i4 (List.mem_of_getElem? (i := 139) (by decide +kernel)) rfl, List.forall_mem_cons.mpr ⟨pb_i4 (List.mem_of_getElem? (i := 141) (by decide +kernel)) rfl, List.forall_mem_cons.mpr ⟨pb_i4 (List.mem_of_getElem? (i := 143) (by decide +kernel)) rfl, List.forall_mem_cons.mpr ⟨pb_i4 (List.mem_of_getElem? (i := 145) (by decide +kernel)) rfl, List.forall_mem_cons.mpr ⟨pb_i4 (List.mem_of_getElem? (i := 147) (by decide +kernel)) rfl, List.forall_mem_cons.mpr ⟨pb_i4 (List.mem_of_getElem? (i := 149) (by decide +kernel)) rfl, List.forall_mem_cons.mpr ⟨pb_i4 (List.mem_of_getElem? (i := 151) (by decide +kernel)) rfl, List.forall_mem_cons.mpr ⟨pb_i4 (List.mem_of_getElem? (i := 153) (by decide +kernel)) rfl, List.forall_mem_cons.mpr ⟨pb_i4 (List.mem_of_getElem? (i := 155) (by decide +kernel)) rfl, List.forall_mem_cons.mpr ⟨pb_i4 (List.mem_of_getElem? (i := 157) (by decide +kernel)) rfl, List.forall_mem_cons.mpr ⟨pb_i4 (List.mem_of_getElem? (i := 159) (by decide +kernel)) rfl, List.forall_mem_cons.mpr ⟨pb_i4 (List.mem_of_getElem? (i := 161) (by decide +kernel)) rfl, List.forall_mem_cons.mpr ⟨pb_i4 (List.mem_of_getElem? (i := 163) (by decide +kernel)) rfl, List.forall_mem_cons.mpr ⟨pb_i4 (List.mem_of_getElem? (i := 165) (by decide +kernel)) rfl, List.forall_mem_cons.mpr ⟨pb_i4 (List.mem_of_getElem? (i := 167) (by decide +kernel)) rfl, List.forall_mem_cons.mpr ⟨pb_i4 (List.mem_of_getElem? (i := 169) (by decide +kernel)) rfl, List.forall_mem_cons.mpr ⟨pb_i4 (List.mem_of_getElem? (i := 171) (by decide +kernel)) rfl, List.forall_mem_cons.mpr ⟨pb_i4 (List.mem_of_getElem? (i := 173) (by decide +kernel)) rfl, List.forall_mem_cons.mpr ⟨pb_i4 (List.mem_of_getElem? (i := 175) (by decide +kernel)) rfl, List.forall_mem_cons.mpr ⟨pb_i4 (List.mem_of_getElem? (i := 177) (by decide +kernel)) rfl, List.forall_mem_cons.mpr ⟨pb_i4 (List.mem_of_getElem? (i := 179) (by decide +kernel)) rfl, fun _ h => absurd h List.not_mem_nil⟩⟩⟩⟩⟩⟩⟩⟩⟩⟩⟩⟩⟩⟩⟩⟩⟩⟩⟩⟩⟩⟩⟩⟩⟩⟩⟩⟩⟩⟩⟩⟩
theorem pb_cl10 : pb_cl 10 RX12 TX12 32 tyX12 := ⟨rfl, pb_wi10, tyX12_ok, nmX12⟩
abbrev mX0_init : pb_M := (yX0_init, cX0_init, 1, none)
set_option maxRecDepth 100000 in
theorem mwX0_init : pb_mw mX0_init 0 := ⟨pb_i1 (List.mem_of_getElem? (i := 228) (rfl)) rfl, pb_i1 (List.mem_of_getElem? (i := 10) (by decide +kernel)) rfl, ⟨by decide, by decide⟩, by decide +kernel, by decide⟩
theorem pnX0_init : plainName mX0_init.1.cls = true := by decide +kernel
theorem iwX0_init : Cond.instanceMethod mX0_init.1 ∈ pb_tbl := pb_i1 (List.mem_of_getElem? (i := 227) (by decide +kernel)) rfl
abbrev mX0_isFull : pb_M := (yX0_isFull, cX0_isFull, 1, (some .boolean))
set_option maxRecDepth 100000 in
theorem mwX0_isFull : pb_mw mX0_isFull 0 := ⟨pb_i3 (List.mem_of_getElem? (i := 38) (rfl)) rfl, pb_i1 (List.mem_of_getElem? (i := 10) (by decide +kernel)) rfl, ⟨by decide, by decide⟩, by decide +kernel, by decide⟩
theorem pnX0_isFull : plainName mX0_isFull.1.cls = true := by decide +kernel
theorem iwX0_isFull : Cond.instanceMethod mX0_isFull.1 ∈ pb_tbl := pb_i3 (List.mem_of_getElem? (i := 36) (by decide +kernel)) rfl
theorem seX0_isFull : Cond.selects RX0 mX0_isFull.1 mX0_isFull.1 ∈ pb_tbl := pb_i3 (List.mem_of_getElem? (i := 37) (by decide +kernel)) rfl
abbrev mX0_add : pb_M := (yX0_add, cX0_add, 2, none)
set_option maxRecDepth 100000 in
theorem mwX0_add : pb_mw mX0_add 1 := ⟨pb_i3 (List.mem_of_getElem? (i := 74) (rfl)) rfl, pb_i1 (List.mem_of_getElem? (i := 10) (by decide +kernel)) rfl, ⟨by decide, by decide⟩, by decide +kernel, by decide⟩
theorem pnX0_add : plainName mX0_add.1.cls = true := by decide +kernel
theorem iwX0_add : Cond.instanceMethod mX0_add.1 ∈ pb_tbl := pb_i3 (List.mem_of_getElem? (i := 72) (by decide +kernel)) rfl
theorem seX0_add : Cond.selects RX0 mX0_add.1 mX0_add.1 ∈ pb_tbl := pb_i3 (List.mem_of_getElem? (i := 73) (by decide +kernel)) rfl
abbrev mX0_sentBack : pb_M := (yX0_sentBack, cX0_sentBack, 6, (some .int))
set_option maxRecDepth 100000 in
theorem mwX0_sentBack : pb_mw mX0_sentBack 3 := ⟨pb_i3 (List.mem_of_getElem? (i := 87) (rfl)) rfl, pb_i1 (List.mem_of_getElem? (i := 10) (by decide +kernel)) rfl, ⟨by decide, by decide⟩, by decide +kernel, by decide⟩
theorem pnX0_sentBack : plainName mX0_sentBack.1.cls = true := by decide +kernel
theorem iwX0_sentBack : Cond.instanceMethod mX0_sentBack.1 ∈ pb_tbl := pb_i3 (List.mem_of_getElem? (i := 85) (by decide +kernel)) rfl
theorem seX0_sentBack : Cond.selects RX0 mX0_sentBack.1 mX0_sentBack.1 ∈ pb_tbl := pb_i3 (List.mem_of_getElem? (i := 86) (by decide +kernel)) rfl
abbrev mX1_init : pb_M := (yX1_init, cX1_init, 1, none)
set_option maxRecDepth 100000 in
theorem mwX1_init : pb_mw mX1_init 0 := ⟨pb_i1 (List.mem_of_getElem? (i := 149) (rfl)) rfl, pb_i1 (List.mem_of_getElem? (i := 7) (by decide +kernel)) rfl, ⟨by decide, by decide⟩, by decide +kernel, by decide⟩
theorem pnX1_init : plainName mX1_init.1.cls = true := by decide +kernel
theorem iwX1_init : Cond.instanceMethod mX1_init.1 ∈ pb_tbl := pb_i1 (List.mem_of_getElem? (i := 148) (by decide +kernel)) rfl
abbrev mX1_aimAt : pb_M := (yX1_aimAt, cX1_aimAt, 5, none)
set_option maxRecDepth 100000 in
theorem mwX1_aimAt : pb_mw mX1_aimAt 3 := ⟨pb_i4 (List.mem_of_getElem? (i := 32) (rfl)) rfl, pb_i1 (List.mem_of_getElem? (i := 7) (by decide +kernel)) rfl, ⟨by decide, by decide⟩, by decide +kernel, by decide⟩
theorem pnX1_aimAt : plainName mX1_aimAt.1.cls = true := by decide +kernel
theorem iwX1_aimAt : Cond.instanceMethod mX1_aimAt.1 ∈ pb_tbl := pb_i4 (List.mem_of_getElem? (i := 30) (by decide +kernel)) rfl
theorem seX1_aimAt : Cond.selects RX1 mX1_aimAt.1 mX1_aimAt.1 ∈ pb_tbl := pb_i4 (List.mem_of_getElem? (i := 31) (by decide +kernel)) rfl
abbrev mX1_fewestOf : pb_M := (yX1_fewestOf, cX1_fewestOf, 5, (some .int))
set_option maxRecDepth 100000 in
theorem mwX1_fewestOf : pb_mw mX1_fewestOf 3 := ⟨pb_i4 (List.mem_of_getElem? (i := 37) (rfl)) rfl, pb_i1 (List.mem_of_getElem? (i := 7) (by decide +kernel)) rfl, ⟨by decide, by decide⟩, by decide +kernel, by decide⟩
theorem pnX1_fewestOf : plainName mX1_fewestOf.1.cls = true := by decide +kernel
theorem iwX1_fewestOf : Cond.instanceMethod mX1_fewestOf.1 ∈ pb_tbl := pb_i4 (List.mem_of_getElem? (i := 35) (by decide +kernel)) rfl
theorem seX1_fewestOf : Cond.selects RX1 mX1_fewestOf.1 mX1_fewestOf.1 ∈ pb_tbl := pb_i4 (List.mem_of_getElem? (i := 36) (by decide +kernel)) rfl
abbrev mX1_weigh : pb_M := (yX1_weigh, cX1_weigh, 8, none)
set_option maxRecDepth 100000 in
theorem mwX1_weigh : pb_mw mX1_weigh 1 := ⟨pb_i3 (List.mem_of_getElem? (i := 163) (rfl)) rfl, pb_i1 (List.mem_of_getElem? (i := 7) (by decide +kernel)) rfl, ⟨by decide, by decide⟩, by decide +kernel, by decide⟩
theorem pnX1_weigh : plainName mX1_weigh.1.cls = true := by decide +kernel
theorem iwX1_weigh : Cond.instanceMethod mX1_weigh.1 ∈ pb_tbl := pb_i3 (List.mem_of_getElem? (i := 162) (by decide +kernel)) rfl
abbrev mX1_passOn : pb_M := (yX1_passOn, cX1_passOn, 5, none)
set_option maxRecDepth 100000 in
theorem mwX1_passOn : pb_mw mX1_passOn 1 := ⟨pb_i4 (List.mem_of_getElem? (i := 45) (rfl)) rfl, pb_i1 (List.mem_of_getElem? (i := 7) (by decide +kernel)) rfl, ⟨by decide, by decide⟩, by decide +kernel, by decide⟩
theorem pnX1_passOn : plainName mX1_passOn.1.cls = true := by decide +kernel
theorem iwX1_passOn : Cond.instanceMethod mX1_passOn.1 ∈ pb_tbl := pb_i4 (List.mem_of_getElem? (i := 44) (by decide +kernel)) rfl
theorem seX1_passOn : Cond.selects RX1 mX1_passOn.1 mX1_passOn.1 ∈ pb_tbl := pb_i0 (List.mem_of_getElem? (i := 8) (by decide +kernel)) rfl
abbrev mX1_leastOf : pb_M := (yX1_leastOf, cX1_leastOf, 5, (some .int))
set_option maxRecDepth 100000 in
theorem mwX1_leastOf : pb_mw mX1_leastOf 1 := ⟨pb_i4 (List.mem_of_getElem? (i := 49) (rfl)) rfl, pb_i1 (List.mem_of_getElem? (i := 7) (by decide +kernel)) rfl, ⟨by decide, by decide⟩, by decide +kernel, by decide⟩
theorem pnX1_leastOf : plainName mX1_leastOf.1.cls = true := by decide +kernel
theorem iwX1_leastOf : Cond.instanceMethod mX1_leastOf.1 ∈ pb_tbl := pb_i4 (List.mem_of_getElem? (i := 48) (by decide +kernel)) rfl
theorem seX1_leastOf : Cond.selects RX1 mX1_leastOf.1 mX1_leastOf.1 ∈ pb_tbl := pb_i0 (List.mem_of_getElem? (i := 9) (by decide +kernel)) rfl
abbrev mX2_init : pb_M := (yX2_init, cX2_init, 1, none)
set_option maxRecDepth 100000 in
theorem mwX2_init : pb_mw mX2_init 0 := ⟨pb_i1 (List.mem_of_getElem? (i := 183) (rfl)) rfl, pb_i1 (List.mem_of_getElem? (i := 8) (by decide +kernel)) rfl, ⟨by decide, by decide⟩, by decide +kernel, by decide⟩
theorem pnX2_init : plainName mX2_init.1.cls = true := by decide +kernel
theorem iwX2_init : Cond.instanceMethod mX2_init.1 ∈ pb_tbl := pb_i1 (List.mem_of_getElem? (i := 182) (by decide +kernel)) rfl
abbrev mX2_nearest : pb_M := (yX2_nearest, cX2_nearest, 8, (some .int))
set_option maxRecDepth 100000 in
theorem mwX2_nearest : pb_mw mX2_nearest 5 := ⟨pb_i3 (List.mem_of_getElem? (i := 221) (rfl)) rfl, pb_i1 (List.mem_of_getElem? (i := 8) (by decide +kernel)) rfl, ⟨by decide, by decide⟩, by decide +kernel, by decide⟩
theorem pnX2_nearest : plainName mX2_nearest.1.cls = true := by decide +kernel
theorem iwX2_nearest : Cond.instanceMethod mX2_nearest.1 ∈ pb_tbl := pb_i3 (List.mem_of_getElem? (i := 219) (by decide +kernel)) rfl
theorem seX2_nearest : Cond.selects RX2 mX2_nearest.1 mX2_nearest.1 ∈ pb_tbl := pb_i3 (List.mem_of_getElem? (i := 220) (by decide +kernel)) rfl
abbrev mX2_bestLayer : pb_M := (yX2_bestLayer, cX2_bestLayer, 2, (some .int))
set_option maxRecDepth 100000 in
theorem mwX2_bestLayer : pb_mw mX2_bestLayer 1 := ⟨pb_i4 (List.mem_of_getElem? (i := 16) (rfl)) rfl, pb_i1 (List.mem_of_getElem? (i := 8) (by decide +kernel)) rfl, ⟨by decide, by decide⟩, by decide +kernel, by decide⟩
theorem pnX2_bestLayer : plainName mX2_bestLayer.1.cls = true := by decide +kernel
theorem iwX2_bestLayer : Cond.instanceMethod mX2_bestLayer.1 ∈ pb_tbl := pb_i4 (List.mem_of_getElem? (i := 14) (by decide +kernel)) rfl
theorem seX2_bestLayer : Cond.selects RX2 mX2_bestLayer.1 mX2_bestLayer.1 ∈ pb_tbl := pb_i4 (List.mem_of_getElem? (i := 15) (by decide +kernel)) rfl
abbrev mX2_readThin : pb_M := (yX2_readThin, cX2_readThin, 6, none)
set_option maxRecDepth 100000 in
theorem mwX2_readThin : pb_mw mX2_readThin 2 := ⟨pb_i3 (List.mem_of_getElem? (i := 227) (rfl)) rfl, pb_i1 (List.mem_of_getElem? (i := 8) (by decide +kernel)) rfl, ⟨by decide, by decide⟩, by decide +kernel, by decide⟩
theorem pnX2_readThin : plainName mX2_readThin.1.cls = true := by decide +kernel
theorem iwX2_readThin : Cond.instanceMethod mX2_readThin.1 ∈ pb_tbl := pb_i3 (List.mem_of_getElem? (i := 226) (by decide +kernel)) rfl
theorem seX2_readThin : Cond.selects RX2 mX2_readThin.1 mX2_readThin.1 ∈ pb_tbl := pb_i0 (List.mem_of_getElem? (i := 4) (by decide +kernel)) rfl
abbrev mX2_layOn : pb_M := (yX2_layOn, cX2_layOn, 7, none)
set_option maxRecDepth 100000 in
theorem mwX2_layOn : pb_mw mX2_layOn 3 := ⟨pb_i3 (List.mem_of_getElem? (i := 237) (rfl)) rfl, pb_i1 (List.mem_of_getElem? (i := 8) (by decide +kernel)) rfl, ⟨by decide, by decide⟩, by decide +kernel, by decide⟩
theorem pnX2_layOn : plainName mX2_layOn.1.cls = true := by decide +kernel
theorem iwX2_layOn : Cond.instanceMethod mX2_layOn.1 ∈ pb_tbl := pb_i3 (List.mem_of_getElem? (i := 236) (by decide +kernel)) rfl
theorem seX2_layOn : Cond.selects RX2 mX2_layOn.1 mX2_layOn.1 ∈ pb_tbl := pb_i0 (List.mem_of_getElem? (i := 5) (by decide +kernel)) rfl
abbrev mX2_thicken : pb_M := (yX2_thicken, cX2_thicken, 6, none)
set_option maxRecDepth 100000 in
theorem mwX2_thicken : pb_mw mX2_thicken 4 := ⟨pb_i4 (List.mem_of_getElem? (i := 1) (rfl)) rfl, pb_i1 (List.mem_of_getElem? (i := 8) (by decide +kernel)) rfl, ⟨by decide, by decide⟩, by decide +kernel, by decide⟩
theorem pnX2_thicken : plainName mX2_thicken.1.cls = true := by decide +kernel
theorem iwX2_thicken : Cond.instanceMethod mX2_thicken.1 ∈ pb_tbl := pb_i4 (List.mem_of_getElem? (i := 0) (by decide +kernel)) rfl
theorem seX2_thicken : Cond.selects RX2 mX2_thicken.1 mX2_thicken.1 ∈ pb_tbl := pb_i0 (List.mem_of_getElem? (i := 6) (by decide +kernel)) rfl
abbrev mX2_weigh : pb_M := (yX2_weigh, cX2_weigh, 5, none)
set_option maxRecDepth 100000 in
theorem mwX2_weigh : pb_mw mX2_weigh 2 := ⟨pb_i4 (List.mem_of_getElem? (i := 6) (rfl)) rfl, pb_i1 (List.mem_of_getElem? (i := 8) (by decide +kernel)) rfl, ⟨by decide, by decide⟩, by decide +kernel, by decide⟩
theorem pnX2_weigh : plainName mX2_weigh.1.cls = true := by decide +kernel
theorem iwX2_weigh : Cond.instanceMethod mX2_weigh.1 ∈ pb_tbl := pb_i4 (List.mem_of_getElem? (i := 5) (by decide +kernel)) rfl
theorem seX2_weigh : Cond.selects RX2 mX2_weigh.1 mX2_weigh.1 ∈ pb_tbl := pb_i0 (List.mem_of_getElem? (i := 7) (by decide +kernel)) rfl
abbrev mX3_init : pb_M := (yX3_init, cX3_init, 4, none)
set_option maxRecDepth 100000 in
theorem mwX3_init : pb_mw mX3_init 3 := ⟨pb_i3 (List.mem_of_getElem? (i := 43) (rfl)) rfl, pb_i1 (List.mem_of_getElem? (i := 15) (by decide +kernel)) rfl, ⟨by decide, by decide⟩, by decide +kernel, by decide⟩
theorem pnX3_init : plainName mX3_init.1.cls = true := by decide +kernel
theorem iwX3_init : Cond.instanceMethod mX3_init.1 ∈ pb_tbl := pb_i3 (List.mem_of_getElem? (i := 42) (by decide +kernel)) rfl
abbrev mX3_sentOver : pb_M := (yX3_sentOver, cX3_sentOver, 9, (some .int))
set_option maxRecDepth 100000 in
theorem mwX3_sentOver : pb_mw mX3_sentOver 4 := ⟨pb_i3 (List.mem_of_getElem? (i := 91) (rfl)) rfl, pb_i1 (List.mem_of_getElem? (i := 15) (by decide +kernel)) rfl, ⟨by decide, by decide⟩, by decide +kernel, by decide⟩
theorem pnX3_sentOver : plainName mX3_sentOver.1.cls = true := by decide +kernel
theorem iwX3_sentOver : Cond.instanceMethod mX3_sentOver.1 ∈ pb_tbl := pb_i3 (List.mem_of_getElem? (i := 89) (by decide +kernel)) rfl
theorem seX3_sentOver : Cond.selects RX3 mX3_sentOver.1 mX3_sentOver.1 ∈ pb_tbl := pb_i3 (List.mem_of_getElem? (i := 90) (by decide +kernel)) rfl
abbrev mX4_init : pb_M := (yX4_init, cX4_init, 2, none)
set_option maxRecDepth 100000 in
theorem mwX4_init : pb_mw mX4_init 0 := ⟨pb_i1 (List.mem_of_getElem? (i := 49) (rfl)) rfl, pb_i1 (List.mem_of_getElem? (i := 3) (by decide +kernel)) rfl, ⟨by decide, by decide⟩, by decide +kernel, by decide⟩
theorem pnX4_init : plainName mX4_init.1.cls = true := by decide +kernel
theorem iwX4_init : Cond.instanceMethod mX4_init.1 ∈ pb_tbl := pb_i1 (List.mem_of_getElem? (i := 48) (by decide +kernel)) rfl
abbrev mX4_shine : pb_M := (yX4_shine, cX4_shine, 4, none)
set_option maxRecDepth 100000 in
theorem mwX4_shine : pb_mw mX4_shine 1 := ⟨pb_i2 (List.mem_of_getElem? (i := 226) (rfl)) rfl, pb_i1 (List.mem_of_getElem? (i := 3) (by decide +kernel)) rfl, ⟨by decide, by decide⟩, by decide +kernel, by decide⟩
theorem pnX4_shine : plainName mX4_shine.1.cls = true := by decide +kernel
theorem iwX4_shine : Cond.instanceMethod mX4_shine.1 ∈ pb_tbl := pb_i2 (List.mem_of_getElem? (i := 224) (by decide +kernel)) rfl
theorem seX4_shine : Cond.selects RX4 mX4_shine.1 mX4_shine.1 ∈ pb_tbl := pb_i2 (List.mem_of_getElem? (i := 225) (by decide +kernel)) rfl
abbrev mX4_bySight : pb_M := (yX4_bySight, cX4_bySight, 6, (some .int))
set_option maxRecDepth 100000 in
theorem mwX4_bySight : pb_mw mX4_bySight 2 := ⟨pb_i2 (List.mem_of_getElem? (i := 230) (rfl)) rfl, pb_i1 (List.mem_of_getElem? (i := 3) (by decide +kernel)) rfl, ⟨by decide, by decide⟩, by decide +kernel, by decide⟩
theorem pnX4_bySight : plainName mX4_bySight.1.cls = true := by decide +kernel
theorem iwX4_bySight : Cond.instanceMethod mX4_bySight.1 ∈ pb_tbl := pb_i2 (List.mem_of_getElem? (i := 228) (by decide +kernel)) rfl
theorem seX4_bySight : Cond.selects RX4 mX4_bySight.1 mX4_bySight.1 ∈ pb_tbl := pb_i2 (List.mem_of_getElem? (i := 229) (by decide +kernel)) rfl
abbrev mX4_farFrom : pb_M := (yX4_farFrom, cX4_farFrom, 5, (some .int))
set_option maxRecDepth 100000 in
theorem mwX4_farFrom : pb_mw mX4_farFrom 2 := ⟨pb_i3 (List.mem_of_getElem? (i := 112) (rfl)) rfl, pb_i1 (List.mem_of_getElem? (i := 3) (by decide +kernel)) rfl, ⟨by decide, by decide⟩, by decide +kernel, by decide⟩
theorem pnX4_farFrom : plainName mX4_farFrom.1.cls = true := by decide +kernel
theorem iwX4_farFrom : Cond.instanceMethod mX4_farFrom.1 ∈ pb_tbl := pb_i3 (List.mem_of_getElem? (i := 110) (by decide +kernel)) rfl
theorem seX4_farFrom : Cond.selects RX4 mX4_farFrom.1 mX4_farFrom.1 ∈ pb_tbl := pb_i3 (List.mem_of_getElem? (i := 111) (by decide +kernel)) rfl
abbrev mX5_init : pb_M := (yX5_init, cX5_init, 1, none)
set_option maxRecDepth 100000 in
theorem mwX5_init : pb_mw mX5_init 0 := ⟨pb_i1 (List.mem_of_getElem? (i := 88) (rfl)) rfl, pb_i1 (List.mem_of_getElem? (i := 6) (by decide +kernel)) rfl, ⟨by decide, by decide⟩, by decide +kernel, by decide⟩
theorem pnX5_init : plainName mX5_init.1.cls = true := by decide +kernel
theorem iwX5_init : Cond.instanceMethod mX5_init.1 ∈ pb_tbl := pb_i1 (List.mem_of_getElem? (i := 87) (by decide +kernel)) rfl
abbrev mX5_nearest : pb_M := (yX5_nearest, cX5_nearest, 6, (some .int))
set_option maxRecDepth 100000 in
theorem mwX5_nearest : pb_mw mX5_nearest 5 := ⟨pb_i3 (List.mem_of_getElem? (i := 136) (rfl)) rfl, pb_i1 (List.mem_of_getElem? (i := 6) (by decide +kernel)) rfl, ⟨by decide, by decide⟩, by decide +kernel, by decide⟩
theorem pnX5_nearest : plainName mX5_nearest.1.cls = true := by decide +kernel
theorem iwX5_nearest : Cond.instanceMethod mX5_nearest.1 ∈ pb_tbl := pb_i3 (List.mem_of_getElem? (i := 134) (by decide +kernel)) rfl
theorem seX5_nearest : Cond.selects RX5 mX5_nearest.1 mX5_nearest.1 ∈ pb_tbl := pb_i3 (List.mem_of_getElem? (i := 135) (by decide +kernel)) rfl
abbrev mX5_dropsOf : pb_M := (yX5_dropsOf, cX5_dropsOf, 2, (some .int))
set_option maxRecDepth 100000 in
theorem mwX5_dropsOf : pb_mw mX5_dropsOf 1 := ⟨pb_i3 (List.mem_of_getElem? (i := 209) (rfl)) rfl, pb_i1 (List.mem_of_getElem? (i := 6) (by decide +kernel)) rfl, ⟨by decide, by decide⟩, by decide +kernel, by decide⟩
theorem pnX5_dropsOf : plainName mX5_dropsOf.1.cls = true := by decide +kernel
theorem iwX5_dropsOf : Cond.instanceMethod mX5_dropsOf.1 ∈ pb_tbl := pb_i3 (List.mem_of_getElem? (i := 207) (by decide +kernel)) rfl
theorem seX5_dropsOf : Cond.selects RX5 mX5_dropsOf.1 mX5_dropsOf.1 ∈ pb_tbl := pb_i3 (List.mem_of_getElem? (i := 208) (by decide +kernel)) rfl
abbrev mX5_weigh : pb_M := (yX5_weigh, cX5_weigh, 4, none)
set_option maxRecDepth 100000 in
theorem mwX5_weigh : pb_mw mX5_weigh 1 := ⟨pb_i3 (List.mem_of_getElem? (i := 181) (rfl)) rfl, pb_i1 (List.mem_of_getElem? (i := 6) (by decide +kernel)) rfl, ⟨by decide, by decide⟩, by decide +kernel, by decide⟩
theorem pnX5_weigh : plainName mX5_weigh.1.cls = true := by decide +kernel
theorem iwX5_weigh : Cond.instanceMethod mX5_weigh.1 ∈ pb_tbl := pb_i3 (List.mem_of_getElem? (i := 180) (by decide +kernel)) rfl
abbrev mX6_init : pb_M := (yX6_init, cX6_init, 1, none)
set_option maxRecDepth 100000 in
theorem mwX6_init : pb_mw mX6_init 0 := ⟨pb_i1 (List.mem_of_getElem? (i := 215) (rfl)) rfl, pb_i1 (List.mem_of_getElem? (i := 9) (by decide +kernel)) rfl, ⟨by decide, by decide⟩, by decide +kernel, by decide⟩
theorem pnX6_init : plainName mX6_init.1.cls = true := by decide +kernel
theorem iwX6_init : Cond.instanceMethod mX6_init.1 ∈ pb_tbl := pb_i1 (List.mem_of_getElem? (i := 214) (by decide +kernel)) rfl
abbrev mX6_of : pb_M := (yX6_of, cX6_of, 2, (some .int))
set_option maxRecDepth 100000 in
theorem mwX6_of : pb_mw mX6_of 1 := ⟨pb_i2 (List.mem_of_getElem? (i := 122) (rfl)) rfl, pb_i1 (List.mem_of_getElem? (i := 9) (by decide +kernel)) rfl, ⟨by decide, by decide⟩, by decide +kernel, by decide⟩
theorem pnX6_of : plainName mX6_of.1.cls = true := by decide +kernel
theorem iwX6_of : Cond.instanceMethod mX6_of.1 ∈ pb_tbl := pb_i2 (List.mem_of_getElem? (i := 120) (by decide +kernel)) rfl
theorem seX6_of : Cond.selects RX6 mX6_of.1 mX6_of.1 ∈ pb_tbl := pb_i2 (List.mem_of_getElem? (i := 121) (by decide +kernel)) rfl
abbrev mX6_add : pb_M := (yX6_add, cX6_add, 3, none)
set_option maxRecDepth 100000 in
theorem mwX6_add : pb_mw mX6_add 2 := ⟨pb_i2 (List.mem_of_getElem? (i := 167) (rfl)) rfl, pb_i1 (List.mem_of_getElem? (i := 9) (by decide +kernel)) rfl, ⟨by decide, by decide⟩, by decide +kernel, by decide⟩
theorem pnX6_add : plainName mX6_add.1.cls = true := by decide +kernel
theorem iwX6_add : Cond.instanceMethod mX6_add.1 ∈ pb_tbl := pb_i2 (List.mem_of_getElem? (i := 165) (by decide +kernel)) rfl
theorem seX6_add : Cond.selects RX6 mX6_add.1 mX6_add.1 ∈ pb_tbl := pb_i2 (List.mem_of_getElem? (i := 166) (by decide +kernel)) rfl
abbrev mX6_addAll : pb_M := (yX6_addAll, cX6_addAll, 3, none)
set_option maxRecDepth 100000 in
theorem mwX6_addAll : pb_mw mX6_addAll 1 := ⟨pb_i2 (List.mem_of_getElem? (i := 175) (rfl)) rfl, pb_i1 (List.mem_of_getElem? (i := 9) (by decide +kernel)) rfl, ⟨by decide, by decide⟩, by decide +kernel, by decide⟩
theorem pnX6_addAll : plainName mX6_addAll.1.cls = true := by decide +kernel
theorem iwX6_addAll : Cond.instanceMethod mX6_addAll.1 ∈ pb_tbl := pb_i2 (List.mem_of_getElem? (i := 173) (by decide +kernel)) rfl
theorem seX6_addAll : Cond.selects RX6 mX6_addAll.1 mX6_addAll.1 ∈ pb_tbl := pb_i2 (List.mem_of_getElem? (i := 174) (by decide +kernel)) rfl
abbrev mX6_makeEmpty : pb_M := (yX6_makeEmpty, cX6_makeEmpty, 1, none)
set_option maxRecDepth 100000 in
theorem mwX6_makeEmpty : pb_mw mX6_makeEmpty 0 := ⟨pb_i2 (List.mem_of_getElem? (i := 180) (rfl)) rfl, pb_i1 (List.mem_of_getElem? (i := 9) (by decide +kernel)) rfl, ⟨by decide, by decide⟩, by decide +kernel, by decide⟩
theorem pnX6_makeEmpty : plainName mX6_makeEmpty.1.cls = true := by decide +kernel
theorem iwX6_makeEmpty : Cond.instanceMethod mX6_makeEmpty.1 ∈ pb_tbl := pb_i2 (List.mem_of_getElem? (i := 178) (by decide +kernel)) rfl
theorem seX6_makeEmpty : Cond.selects RX6 mX6_makeEmpty.1 mX6_makeEmpty.1 ∈ pb_tbl := pb_i2 (List.mem_of_getElem? (i := 179) (by decide +kernel)) rfl
abbrev mX6_drink : pb_M := (yX6_drink, cX6_drink, 6, (some .int))
set_option maxRecDepth 100000 in
theorem mwX6_drink : pb_mw mX6_drink 3 := ⟨pb_i2 (List.mem_of_getElem? (i := 206) (rfl)) rfl, pb_i1 (List.mem_of_getElem? (i := 9) (by decide +kernel)) rfl, ⟨by decide, by decide⟩, by decide +kernel, by decide⟩
theorem pnX6_drink : plainName mX6_drink.1.cls = true := by decide +kernel
theorem iwX6_drink : Cond.instanceMethod mX6_drink.1 ∈ pb_tbl := pb_i2 (List.mem_of_getElem? (i := 204) (by decide +kernel)) rfl
theorem seX6_drink : Cond.selects RX6 mX6_drink.1 mX6_drink.1 ∈ pb_tbl := pb_i2 (List.mem_of_getElem? (i := 205) (by decide +kernel)) rfl
abbrev mX6_scatter : pb_M := (yX6_scatter, cX6_scatter, 5, (some .int))
set_option maxRecDepth 100000 in
theorem mwX6_scatter : pb_mw mX6_scatter 2 := ⟨pb_i2 (List.mem_of_getElem? (i := 211) (rfl)) rfl, pb_i1 (List.mem_of_getElem? (i := 9) (by decide +kernel)) rfl, ⟨by decide, by decide⟩, by decide +kernel, by decide⟩
theorem pnX6_scatter : plainName mX6_scatter.1.cls = true := by decide +kernel
theorem iwX6_scatter : Cond.instanceMethod mX6_scatter.1 ∈ pb_tbl := pb_i2 (List.mem_of_getElem? (i := 209) (by decide +kernel)) rfl
theorem seX6_scatter : Cond.selects RX6 mX6_scatter.1 mX6_scatter.1 ∈ pb_tbl := pb_i2 (List.mem_of_getElem? (i := 210) (by decide +kernel)) rfl
abbrev mX6_sentThick : pb_M := (yX6_sentThick, cX6_sentThick, 3, (some .int))
set_option maxRecDepth 100000 in
theorem mwX6_sentThick : pb_mw mX6_sentThick 2 := ⟨pb_i2 (List.mem_of_getElem? (i := 202) (rfl)) rfl, pb_i1 (List.mem_of_getElem? (i := 9) (by decide +kernel)) rfl, ⟨by decide, by decide⟩, by decide +kernel, by decide⟩
theorem pnX6_sentThick : plainName mX6_sentThick.1.cls = true := by decide +kernel
theorem iwX6_sentThick : Cond.instanceMethod mX6_sentThick.1 ∈ pb_tbl := pb_i2 (List.mem_of_getElem? (i := 200) (by decide +kernel)) rfl
theorem seX6_sentThick : Cond.selects RX6 mX6_sentThick.1 mX6_sentThick.1 ∈ pb_tbl := pb_i2 (List.mem_of_getElem? (i := 201) (by decide +kernel)) rfl
abbrev mX7_thickSent : pb_M := (yX7_thickSent, cX7_thickSent, 11, (some .int))
set_option maxRecDepth 100000 in
theorem mwX7_thickSent : pb_mw mX7_thickSent 2 := ⟨pb_i2 (List.mem_of_getElem? (i := 215) (rfl)) rfl, pb_i1 (List.mem_of_getElem? (i := 13) (by decide +kernel)) rfl, ⟨by decide, by decide⟩, by decide +kernel, by decide⟩
theorem pnX7_thickSent : plainName mX7_thickSent.1.cls = true := by decide +kernel
theorem swX7_thickSent : Cond.static mX7_thickSent.1 ∈ pb_tbl := pb_i2 (List.mem_of_getElem? (i := 214) (by decide +kernel)) rfl
abbrev mX7_thinTake : pb_M := (yX7_thinTake, cX7_thinTake, 3, (some .int))
set_option maxRecDepth 100000 in
theorem mwX7_thinTake : pb_mw mX7_thinTake 2 := ⟨pb_i3 (List.mem_of_getElem? (i := 2) (rfl)) rfl, pb_i1 (List.mem_of_getElem? (i := 13) (by decide +kernel)) rfl, ⟨by decide, by decide⟩, by decide +kernel, by decide⟩
theorem pnX7_thinTake : plainName mX7_thinTake.1.cls = true := by decide +kernel
theorem swX7_thinTake : Cond.static mX7_thinTake.1 ∈ pb_tbl := pb_i3 (List.mem_of_getElem? (i := 1) (by decide +kernel)) rfl
abbrev mX7_thinSend : pb_M := (yX7_thinSend, cX7_thinSend, 3, (some .int))
set_option maxRecDepth 100000 in
theorem mwX7_thinSend : pb_mw mX7_thinSend 2 := ⟨pb_i3 (List.mem_of_getElem? (i := 5) (rfl)) rfl, pb_i1 (List.mem_of_getElem? (i := 13) (by decide +kernel)) rfl, ⟨by decide, by decide⟩, by decide +kernel, by decide⟩
theorem pnX7_thinSend : plainName mX7_thinSend.1.cls = true := by decide +kernel
theorem swX7_thinSend : Cond.static mX7_thinSend.1 ∈ pb_tbl := pb_i3 (List.mem_of_getElem? (i := 4) (by decide +kernel)) rfl
abbrev mX7_thin : pb_M := (yX7_thin, cX7_thin, 7, (some .int))
set_option maxRecDepth 100000 in
theorem mwX7_thin : pb_mw mX7_thin 3 := ⟨pb_i3 (List.mem_of_getElem? (i := 11) (rfl)) rfl, pb_i1 (List.mem_of_getElem? (i := 13) (by decide +kernel)) rfl, ⟨by decide, by decide⟩, by decide +kernel, by decide⟩
theorem pnX7_thin : plainName mX7_thin.1.cls = true := by decide +kernel
theorem swX7_thin : Cond.static mX7_thin.1 ∈ pb_tbl := pb_i3 (List.mem_of_getElem? (i := 10) (by decide +kernel)) rfl
abbrev mX7_layered : pb_M := (yX7_layered, cX7_layered, 7, (some .int))
set_option maxRecDepth 100000 in
theorem mwX7_layered : pb_mw mX7_layered 4 := ⟨pb_i3 (List.mem_of_getElem? (i := 8) (rfl)) rfl, pb_i1 (List.mem_of_getElem? (i := 13) (by decide +kernel)) rfl, ⟨by decide, by decide⟩, by decide +kernel, by decide⟩
theorem pnX7_layered : plainName mX7_layered.1.cls = true := by decide +kernel
theorem swX7_layered : Cond.static mX7_layered.1 ∈ pb_tbl := pb_i3 (List.mem_of_getElem? (i := 7) (by decide +kernel)) rfl
abbrev mX7_leastHiding : pb_M := (yX7_leastHiding, cX7_leastHiding, 6, (some .int))
set_option maxRecDepth 100000 in
theorem mwX7_leastHiding : pb_mw mX7_leastHiding 3 := ⟨pb_i3 (List.mem_of_getElem? (i := 19) (rfl)) rfl, pb_i1 (List.mem_of_getElem? (i := 13) (by decide +kernel)) rfl, ⟨by decide, by decide⟩, by decide +kernel, by decide⟩
theorem pnX7_leastHiding : plainName mX7_leastHiding.1.cls = true := by decide +kernel
theorem swX7_leastHiding : Cond.static mX7_leastHiding.1 ∈ pb_tbl := pb_i3 (List.mem_of_getElem? (i := 18) (by decide +kernel)) rfl
abbrev mX8_init : pb_M := (yX8_init, cX8_init, 1, none)
set_option maxRecDepth 100000 in
theorem mwX8_init : pb_mw mX8_init 0 := ⟨pb_i1 (List.mem_of_getElem? (i := 30) (rfl)) rfl, pb_i1 (List.mem_of_getElem? (i := 2) (by decide +kernel)) rfl, ⟨by decide, by decide⟩, by decide +kernel, by decide⟩
theorem pnX8_init : plainName mX8_init.1.cls = true := by decide +kernel
theorem iwX8_init : Cond.instanceMethod mX8_init.1 ∈ pb_tbl := pb_i1 (List.mem_of_getElem? (i := 29) (by decide +kernel)) rfl
abbrev mX8_isFull : pb_M := (yX8_isFull, cX8_isFull, 1, (some .boolean))
set_option maxRecDepth 100000 in
theorem mwX8_isFull : pb_mw mX8_isFull 0 := ⟨pb_i2 (List.mem_of_getElem? (i := 51) (rfl)) rfl, pb_i1 (List.mem_of_getElem? (i := 2) (by decide +kernel)) rfl, ⟨by decide, by decide⟩, by decide +kernel, by decide⟩
theorem pnX8_isFull : plainName mX8_isFull.1.cls = true := by decide +kernel
theorem iwX8_isFull : Cond.instanceMethod mX8_isFull.1 ∈ pb_tbl := pb_i2 (List.mem_of_getElem? (i := 49) (by decide +kernel)) rfl
theorem seX8_isFull : Cond.selects RX8 mX8_isFull.1 mX8_isFull.1 ∈ pb_tbl := pb_i2 (List.mem_of_getElem? (i := 50) (by decide +kernel)) rfl
abbrev mX8_add : pb_M := (yX8_add, cX8_add, 2, (some .int))
set_option maxRecDepth 100000 in
theorem mwX8_add : pb_mw mX8_add 1 := ⟨pb_i2 (List.mem_of_getElem? (i := 96) (rfl)) rfl, pb_i1 (List.mem_of_getElem? (i := 2) (by decide +kernel)) rfl, ⟨by decide, by decide⟩, by decide +kernel, by decide⟩
theorem pnX8_add : plainName mX8_add.1.cls = true := by decide +kernel
theorem iwX8_add : Cond.instanceMethod mX8_add.1 ∈ pb_tbl := pb_i2 (List.mem_of_getElem? (i := 94) (by decide +kernel)) rfl
theorem seX8_add : Cond.selects RX8 mX8_add.1 mX8_add.1 ∈ pb_tbl := pb_i2 (List.mem_of_getElem? (i := 95) (by decide +kernel)) rfl
abbrev mX8_at : pb_M := (yX8_at, cX8_at, 2, (some (.object "PaintBox$Tube")))
set_option maxRecDepth 100000 in
theorem mwX8_at : pb_mw mX8_at 1 := ⟨pb_i2 (List.mem_of_getElem? (i := 105) (rfl)) rfl, pb_i1 (List.mem_of_getElem? (i := 2) (by decide +kernel)) rfl, ⟨by decide, by decide⟩, by decide +kernel, by decide⟩
theorem pnX8_at : plainName mX8_at.1.cls = true := by decide +kernel
theorem iwX8_at : Cond.instanceMethod mX8_at.1 ∈ pb_tbl := pb_i2 (List.mem_of_getElem? (i := 103) (by decide +kernel)) rfl
theorem seX8_at : Cond.selects RX8 mX8_at.1 mX8_at.1 ∈ pb_tbl := pb_i2 (List.mem_of_getElem? (i := 104) (by decide +kernel)) rfl
abbrev mX8_hasSet : pb_M := (yX8_hasSet, cX8_hasSet, 2, (some .boolean))
set_option maxRecDepth 100000 in
theorem mwX8_hasSet : pb_mw mX8_hasSet 1 := ⟨pb_i3 (List.mem_of_getElem? (i := 132) (rfl)) rfl, pb_i1 (List.mem_of_getElem? (i := 2) (by decide +kernel)) rfl, ⟨by decide, by decide⟩, by decide +kernel, by decide⟩
theorem pnX8_hasSet : plainName mX8_hasSet.1.cls = true := by decide +kernel
theorem iwX8_hasSet : Cond.instanceMethod mX8_hasSet.1 ∈ pb_tbl := pb_i3 (List.mem_of_getElem? (i := 130) (by decide +kernel)) rfl
theorem seX8_hasSet : Cond.selects RX8 mX8_hasSet.1 mX8_hasSet.1 ∈ pb_tbl := pb_i3 (List.mem_of_getElem? (i := 131) (by decide +kernel)) rfl
abbrev mX8_countLost : pb_M := (yX8_countLost, cX8_countLost, 3, none)
set_option maxRecDepth 100000 in
theorem mwX8_countLost : pb_mw mX8_countLost 1 := ⟨pb_i2 (List.mem_of_getElem? (i := 189) (rfl)) rfl, pb_i1 (List.mem_of_getElem? (i := 2) (by decide +kernel)) rfl, ⟨by decide, by decide⟩, by decide +kernel, by decide⟩
theorem pnX8_countLost : plainName mX8_countLost.1.cls = true := by decide +kernel
theorem iwX8_countLost : Cond.instanceMethod mX8_countLost.1 ∈ pb_tbl := pb_i2 (List.mem_of_getElem? (i := 187) (by decide +kernel)) rfl
theorem seX8_countLost : Cond.selects RX8 mX8_countLost.1 mX8_countLost.1 ∈ pb_tbl := pb_i2 (List.mem_of_getElem? (i := 188) (by decide +kernel)) rfl
abbrev mX8_countLaid : pb_M := (yX8_countLaid, cX8_countLaid, 3, none)
set_option maxRecDepth 100000 in
theorem mwX8_countLaid : pb_mw mX8_countLaid 1 := ⟨pb_i3 (List.mem_of_getElem? (i := 79) (rfl)) rfl, pb_i1 (List.mem_of_getElem? (i := 2) (by decide +kernel)) rfl, ⟨by decide, by decide⟩, by decide +kernel, by decide⟩
theorem pnX8_countLaid : plainName mX8_countLaid.1.cls = true := by decide +kernel
theorem iwX8_countLaid : Cond.instanceMethod mX8_countLaid.1 ∈ pb_tbl := pb_i3 (List.mem_of_getElem? (i := 77) (by decide +kernel)) rfl
theorem seX8_countLaid : Cond.selects RX8 mX8_countLaid.1 mX8_countLaid.1 ∈ pb_tbl := pb_i3 (List.mem_of_getElem? (i := 78) (by decide +kernel)) rfl
abbrev mX8_allLaid : pb_M := (yX8_allLaid, cX8_allLaid, 3, (some .int))
set_option maxRecDepth 100000 in
theorem mwX8_allLaid : pb_mw mX8_allLaid 0 := ⟨pb_i4 (List.mem_of_getElem? (i := 67) (rfl)) rfl, pb_i1 (List.mem_of_getElem? (i := 2) (by decide +kernel)) rfl, ⟨by decide, by decide⟩, by decide +kernel, by decide⟩
theorem pnX8_allLaid : plainName mX8_allLaid.1.cls = true := by decide +kernel
theorem iwX8_allLaid : Cond.instanceMethod mX8_allLaid.1 ∈ pb_tbl := pb_i4 (List.mem_of_getElem? (i := 65) (by decide +kernel)) rfl
theorem seX8_allLaid : Cond.selects RX8 mX8_allLaid.1 mX8_allLaid.1 ∈ pb_tbl := pb_i4 (List.mem_of_getElem? (i := 66) (by decide +kernel)) rfl
abbrev mX8_allLost : pb_M := (yX8_allLost, cX8_allLost, 3, (some .int))
set_option maxRecDepth 100000 in
theorem mwX8_allLost : pb_mw mX8_allLost 0 := ⟨pb_i4 (List.mem_of_getElem? (i := 71) (rfl)) rfl, pb_i1 (List.mem_of_getElem? (i := 2) (by decide +kernel)) rfl, ⟨by decide, by decide⟩, by decide +kernel, by decide⟩
theorem pnX8_allLost : plainName mX8_allLost.1.cls = true := by decide +kernel
theorem iwX8_allLost : Cond.instanceMethod mX8_allLost.1 ∈ pb_tbl := pb_i4 (List.mem_of_getElem? (i := 69) (by decide +kernel)) rfl
theorem seX8_allLost : Cond.selects RX8 mX8_allLost.1 mX8_allLost.1 ∈ pb_tbl := pb_i4 (List.mem_of_getElem? (i := 70) (by decide +kernel)) rfl
abbrev mX8_allHeld : pb_M := (yX8_allHeld, cX8_allHeld, 3, (some .int))
set_option maxRecDepth 100000 in
theorem mwX8_allHeld : pb_mw mX8_allHeld 0 := ⟨pb_i4 (List.mem_of_getElem? (i := 75) (rfl)) rfl, pb_i1 (List.mem_of_getElem? (i := 2) (by decide +kernel)) rfl, ⟨by decide, by decide⟩, by decide +kernel, by decide⟩
theorem pnX8_allHeld : plainName mX8_allHeld.1.cls = true := by decide +kernel
theorem iwX8_allHeld : Cond.instanceMethod mX8_allHeld.1 ∈ pb_tbl := pb_i4 (List.mem_of_getElem? (i := 73) (by decide +kernel)) rfl
theorem seX8_allHeld : Cond.selects RX8 mX8_allHeld.1 mX8_allHeld.1 ∈ pb_tbl := pb_i4 (List.mem_of_getElem? (i := 74) (by decide +kernel)) rfl
abbrev mX9_init : pb_M := (yX9_init, cX9_init, 1, none)
set_option maxRecDepth 100000 in
theorem mwX9_init : pb_mw mX9_init 0 := ⟨pb_i1 (List.mem_of_getElem? (i := 91) (rfl)) rfl, pb_i1 (List.mem_of_getElem? (i := 5) (by decide +kernel)) rfl, ⟨by decide, by decide⟩, by decide +kernel, by decide⟩
theorem pnX9_init : plainName mX9_init.1.cls = true := by decide +kernel
theorem iwX9_init : Cond.instanceMethod mX9_init.1 ∈ pb_tbl := pb_i1 (List.mem_of_getElem? (i := 90) (by decide +kernel)) rfl
abbrev mX9_goThrough : pb_M := (yX9_goThrough, cX9_goThrough, 7, none)
set_option maxRecDepth 100000 in
theorem mwX9_goThrough : pb_mw mX9_goThrough 4 := ⟨pb_i3 (List.mem_of_getElem? (i := 145) (rfl)) rfl, pb_i1 (List.mem_of_getElem? (i := 5) (by decide +kernel)) rfl, ⟨by decide, by decide⟩, by decide +kernel, by decide⟩
theorem pnX9_goThrough : plainName mX9_goThrough.1.cls = true := by decide +kernel
theorem iwX9_goThrough : Cond.instanceMethod mX9_goThrough.1 ∈ pb_tbl := pb_i3 (List.mem_of_getElem? (i := 144) (by decide +kernel)) rfl
abbrev mX9_addMember : pb_M := (yX9_addMember, cX9_addMember, 4, none)
set_option maxRecDepth 100000 in
theorem mwX9_addMember : pb_mw mX9_addMember 2 := ⟨pb_i3 (List.mem_of_getElem? (i := 150) (rfl)) rfl, pb_i1 (List.mem_of_getElem? (i := 5) (by decide +kernel)) rfl, ⟨by decide, by decide⟩, by decide +kernel, by decide⟩
theorem pnX9_addMember : plainName mX9_addMember.1.cls = true := by decide +kernel
theorem iwX9_addMember : Cond.instanceMethod mX9_addMember.1 ∈ pb_tbl := pb_i3 (List.mem_of_getElem? (i := 149) (by decide +kernel)) rfl
abbrev mX9_spread : pb_M := (yX9_spread, cX9_spread, 7, none)
set_option maxRecDepth 100000 in
theorem mwX9_spread : pb_mw mX9_spread 4 := ⟨pb_i3 (List.mem_of_getElem? (i := 156) (rfl)) rfl, pb_i1 (List.mem_of_getElem? (i := 5) (by decide +kernel)) rfl, ⟨by decide, by decide⟩, by decide +kernel, by decide⟩
theorem pnX9_spread : plainName mX9_spread.1.cls = true := by decide +kernel
theorem iwX9_spread : Cond.instanceMethod mX9_spread.1 ∈ pb_tbl := pb_i3 (List.mem_of_getElem? (i := 155) (by decide +kernel)) rfl
abbrev mX9_sumUp : pb_M := (yX9_sumUp, cX9_sumUp, 5, none)
set_option maxRecDepth 100000 in
theorem mwX9_sumUp : pb_mw mX9_sumUp 1 := ⟨pb_i3 (List.mem_of_getElem? (i := 201) (rfl)) rfl, pb_i1 (List.mem_of_getElem? (i := 5) (by decide +kernel)) rfl, ⟨by decide, by decide⟩, by decide +kernel, by decide⟩
theorem pnX9_sumUp : plainName mX9_sumUp.1.cls = true := by decide +kernel
theorem iwX9_sumUp : Cond.instanceMethod mX9_sumUp.1 ∈ pb_tbl := pb_i3 (List.mem_of_getElem? (i := 200) (by decide +kernel)) rfl
abbrev mX9_bySight : pb_M := (yX9_bySight, cX9_bySight, 6, (some .int))
set_option maxRecDepth 100000 in
theorem mwX9_bySight : pb_mw mX9_bySight 2 := ⟨pb_i3 (List.mem_of_getElem? (i := 175) (rfl)) rfl, pb_i1 (List.mem_of_getElem? (i := 5) (by decide +kernel)) rfl, ⟨by decide, by decide⟩, by decide +kernel, by decide⟩
theorem pnX9_bySight : plainName mX9_bySight.1.cls = true := by decide +kernel
theorem iwX9_bySight : Cond.instanceMethod mX9_bySight.1 ∈ pb_tbl := pb_i3 (List.mem_of_getElem? (i := 174) (by decide +kernel)) rfl
abbrev mX9_tubesUsed : pb_M := (yX9_tubesUsed, cX9_tubesUsed, 3, (some .int))
set_option maxRecDepth 100000 in
theorem mwX9_tubesUsed : pb_mw mX9_tubesUsed 0 := ⟨pb_i3 (List.mem_of_getElem? (i := 169) (rfl)) rfl, pb_i1 (List.mem_of_getElem? (i := 5) (by decide +kernel)) rfl, ⟨by decide, by decide⟩, by decide +kernel, by decide⟩
theorem pnX9_tubesUsed : plainName mX9_tubesUsed.1.cls = true := by decide +kernel
theorem iwX9_tubesUsed : Cond.instanceMethod mX9_tubesUsed.1 ∈ pb_tbl := pb_i3 (List.mem_of_getElem? (i := 168) (by decide +kernel)) rfl
abbrev mX9_cost : pb_M := (yX9_cost, cX9_cost, 3, (some .int))
set_option maxRecDepth 100000 in
theorem mwX9_cost : pb_mw mX9_cost 0 := ⟨pb_i3 (List.mem_of_getElem? (i := 191) (rfl)) rfl, pb_i1 (List.mem_of_getElem? (i := 5) (by decide +kernel)) rfl, ⟨by decide, by decide⟩, by decide +kernel, by decide⟩
theorem pnX9_cost : plainName mX9_cost.1.cls = true := by decide +kernel
theorem iwX9_cost : Cond.instanceMethod mX9_cost.1 ∈ pb_tbl := pb_i3 (List.mem_of_getElem? (i := 190) (by decide +kernel)) rfl
abbrev mX9_writeDrops : pb_M := (yX9_writeDrops, cX9_writeDrops, 3, none)
set_option maxRecDepth 100000 in
theorem mwX9_writeDrops : pb_mw mX9_writeDrops 1 := ⟨pb_i3 (List.mem_of_getElem? (i := 197) (rfl)) rfl, pb_i1 (List.mem_of_getElem? (i := 5) (by decide +kernel)) rfl, ⟨by decide, by decide⟩, by decide +kernel, by decide⟩
theorem pnX9_writeDrops : plainName mX9_writeDrops.1.cls = true := by decide +kernel
theorem iwX9_writeDrops : Cond.instanceMethod mX9_writeDrops.1 ∈ pb_tbl := pb_i3 (List.mem_of_getElem? (i := 196) (by decide +kernel)) rfl
abbrev mX10_init : pb_M := (yX10_init, cX10_init, 5, none)
set_option maxRecDepth 100000 in
theorem mwX10_init : pb_mw mX10_init 3 := ⟨pb_i2 (List.mem_of_getElem? (i := 56) (rfl)) rfl, pb_i1 (List.mem_of_getElem? (i := 12) (by decide +kernel)) rfl, ⟨by decide, by decide⟩, by decide +kernel, by decide⟩
theorem pnX10_init : plainName mX10_init.1.cls = true := by decide +kernel
theorem iwX10_init : Cond.instanceMethod mX10_init.1 ∈ pb_tbl := pb_i2 (List.mem_of_getElem? (i := 55) (by decide +kernel)) rfl
abbrev mX10_paint : pb_M := (yX10_paint, cX10_paint, 6, none)
set_option maxRecDepth 100000 in
theorem mwX10_paint : pb_mw mX10_paint 3 := ⟨pb_i2 (List.mem_of_getElem? (i := 61) (rfl)) rfl, pb_i1 (List.mem_of_getElem? (i := 12) (by decide +kernel)) rfl, ⟨by decide, by decide⟩, by decide +kernel, by decide⟩
theorem pnX10_paint : plainName mX10_paint.1.cls = true := by decide +kernel
theorem iwX10_paint : Cond.instanceMethod mX10_paint.1 ∈ pb_tbl := pb_i2 (List.mem_of_getElem? (i := 59) (by decide +kernel)) rfl
theorem seX10_paint : Cond.selects RX10 mX10_paint.1 mX10_paint.1 ∈ pb_tbl := pb_i2 (List.mem_of_getElem? (i := 60) (by decide +kernel)) rfl
abbrev mX10_drinkAfter : pb_M := (yX10_drinkAfter, cX10_drinkAfter, 3, (some .int))
set_option maxRecDepth 100000 in
theorem mwX10_drinkAfter : pb_mw mX10_drinkAfter 2 := ⟨pb_i2 (List.mem_of_getElem? (i := 130) (rfl)) rfl, pb_i1 (List.mem_of_getElem? (i := 12) (by decide +kernel)) rfl, ⟨by decide, by decide⟩, by decide +kernel, by decide⟩
theorem pnX10_drinkAfter : plainName mX10_drinkAfter.1.cls = true := by decide +kernel
theorem iwX10_drinkAfter : Cond.instanceMethod mX10_drinkAfter.1 ∈ pb_tbl := pb_i2 (List.mem_of_getElem? (i := 128) (by decide +kernel)) rfl
theorem seX10_drinkAfter : Cond.selects RX10 mX10_drinkAfter.1 mX10_drinkAfter.1 ∈ pb_tbl := pb_i2 (List.mem_of_getElem? (i := 129) (by decide +kernel)) rfl
abbrev mX10_scatterOf : pb_M := (yX10_scatterOf, cX10_scatterOf, 2, (some .int))
set_option maxRecDepth 100000 in
theorem mwX10_scatterOf : pb_mw mX10_scatterOf 1 := ⟨pb_i2 (List.mem_of_getElem? (i := 134) (rfl)) rfl, pb_i1 (List.mem_of_getElem? (i := 12) (by decide +kernel)) rfl, ⟨by decide, by decide⟩, by decide +kernel, by decide⟩
theorem pnX10_scatterOf : plainName mX10_scatterOf.1.cls = true := by decide +kernel
theorem iwX10_scatterOf : Cond.instanceMethod mX10_scatterOf.1 ∈ pb_tbl := pb_i2 (List.mem_of_getElem? (i := 132) (by decide +kernel)) rfl
theorem seX10_scatterOf : Cond.selects RX10 mX10_scatterOf.1 mX10_scatterOf.1 ∈ pb_tbl := pb_i2 (List.mem_of_getElem? (i := 133) (by decide +kernel)) rfl
abbrev mX11_init : pb_M := (yX11_init, cX11_init, 2, none)
set_option maxRecDepth 100000 in
theorem mwX11_init : pb_mw mX11_init 0 := ⟨pb_i1 (List.mem_of_getElem? (i := 22) (rfl)) rfl, pb_i1 (List.mem_of_getElem? (i := 1) (by decide +kernel)) rfl, ⟨by decide, by decide⟩, by decide +kernel, by decide⟩
theorem pnX11_init : plainName mX11_init.1.cls = true := by decide +kernel
theorem iwX11_init : Cond.instanceMethod mX11_init.1 ∈ pb_tbl := pb_i1 (List.mem_of_getElem? (i := 21) (by decide +kernel)) rfl
abbrev mX11_tube : pb_M := (yX11_tube, cX11_tube, 4, (some .int))
set_option maxRecDepth 100000 in
theorem mwX11_tube : pb_mw mX11_tube 3 := ⟨pb_i2 (List.mem_of_getElem? (i := 44) (rfl)) rfl, pb_i1 (List.mem_of_getElem? (i := 1) (by decide +kernel)) rfl, ⟨by decide, by decide⟩, by decide +kernel, by decide⟩
theorem pnX11_tube : plainName mX11_tube.1.cls = true := by decide +kernel
theorem iwX11_tube : Cond.instanceMethod mX11_tube.1 ∈ pb_tbl := pb_i2 (List.mem_of_getElem? (i := 42) (by decide +kernel)) rfl
theorem seX11_tube : Cond.selects RX11 mX11_tube.1 mX11_tube.1 ∈ pb_tbl := pb_i2 (List.mem_of_getElem? (i := 43) (by decide +kernel)) rfl
abbrev mX11_band : pb_M := (yX11_band, cX11_band, 6, (some .int))
set_option maxRecDepth 100000 in
theorem mwX11_band : pb_mw mX11_band 4 := ⟨pb_i2 (List.mem_of_getElem? (i := 101) (rfl)) rfl, pb_i1 (List.mem_of_getElem? (i := 1) (by decide +kernel)) rfl, ⟨by decide, by decide⟩, by decide +kernel, by decide⟩
theorem pnX11_band : plainName mX11_band.1.cls = true := by decide +kernel
theorem iwX11_band : Cond.instanceMethod mX11_band.1 ∈ pb_tbl := pb_i2 (List.mem_of_getElem? (i := 99) (by decide +kernel)) rfl
theorem seX11_band : Cond.selects RX11 mX11_band.1 mX11_band.1 ∈ pb_tbl := pb_i2 (List.mem_of_getElem? (i := 100) (by decide +kernel)) rfl
abbrev mX11_ofTube : pb_M := (yX11_ofTube, cX11_ofTube, 4, (some .int))
set_option maxRecDepth 100000 in
theorem mwX11_ofTube : pb_mw mX11_ofTube 2 := ⟨pb_i2 (List.mem_of_getElem? (i := 114) (rfl)) rfl, pb_i1 (List.mem_of_getElem? (i := 1) (by decide +kernel)) rfl, ⟨by decide, by decide⟩, by decide +kernel, by decide⟩
theorem pnX11_ofTube : plainName mX11_ofTube.1.cls = true := by decide +kernel
theorem iwX11_ofTube : Cond.instanceMethod mX11_ofTube.1 ∈ pb_tbl := pb_i2 (List.mem_of_getElem? (i := 112) (by decide +kernel)) rfl
theorem seX11_ofTube : Cond.selects RX11 mX11_ofTube.1 mX11_ofTube.1 ∈ pb_tbl := pb_i2 (List.mem_of_getElem? (i := 113) (by decide +kernel)) rfl
abbrev mX11_row : pb_M := (yX11_row, cX11_row, 6, (some .int))
set_option maxRecDepth 100000 in
theorem mwX11_row : pb_mw mX11_row 4 := ⟨pb_i2 (List.mem_of_getElem? (i := 126) (rfl)) rfl, pb_i1 (List.mem_of_getElem? (i := 1) (by decide +kernel)) rfl, ⟨by decide, by decide⟩, by decide +kernel, by decide⟩
theorem pnX11_row : plainName mX11_row.1.cls = true := by decide +kernel
theorem iwX11_row : Cond.instanceMethod mX11_row.1 ∈ pb_tbl := pb_i2 (List.mem_of_getElem? (i := 124) (by decide +kernel)) rfl
theorem seX11_row : Cond.selects RX11 mX11_row.1 mX11_row.1 ∈ pb_tbl := pb_i2 (List.mem_of_getElem? (i := 125) (by decide +kernel)) rfl
abbrev mX11_lamp : pb_M := (yX11_lamp, cX11_lamp, 4, (some .int))
set_option maxRecDepth 100000 in
theorem mwX11_lamp : pb_mw mX11_lamp 3 := ⟨pb_i2 (List.mem_of_getElem? (i := 138) (rfl)) rfl, pb_i1 (List.mem_of_getElem? (i := 1) (by decide +kernel)) rfl, ⟨by decide, by decide⟩, by decide +kernel, by decide⟩
theorem pnX11_lamp : plainName mX11_lamp.1.cls = true := by decide +kernel
theorem iwX11_lamp : Cond.instanceMethod mX11_lamp.1 ∈ pb_tbl := pb_i2 (List.mem_of_getElem? (i := 136) (by decide +kernel)) rfl
theorem seX11_lamp : Cond.selects RX11 mX11_lamp.1 mX11_lamp.1 ∈ pb_tbl := pb_i2 (List.mem_of_getElem? (i := 137) (by decide +kernel)) rfl
abbrev mX11_eye : pb_M := (yX11_eye, cX11_eye, 4, (some .int))
set_option maxRecDepth 100000 in
theorem mwX11_eye : pb_mw mX11_eye 3 := ⟨pb_i2 (List.mem_of_getElem? (i := 148) (rfl)) rfl, pb_i1 (List.mem_of_getElem? (i := 1) (by decide +kernel)) rfl, ⟨by decide, by decide⟩, by decide +kernel, by decide⟩
theorem pnX11_eye : plainName mX11_eye.1.cls = true := by decide +kernel
theorem iwX11_eye : Cond.instanceMethod mX11_eye.1 ∈ pb_tbl := pb_i2 (List.mem_of_getElem? (i := 146) (by decide +kernel)) rfl
theorem seX11_eye : Cond.selects RX11 mX11_eye.1 mX11_eye.1 ∈ pb_tbl := pb_i2 (List.mem_of_getElem? (i := 147) (by decide +kernel)) rfl
abbrev mX11_years : pb_M := (yX11_years, cX11_years, 2, (some .int))
set_option maxRecDepth 100000 in
theorem mwX11_years : pb_mw mX11_years 1 := ⟨pb_i2 (List.mem_of_getElem? (i := 155) (rfl)) rfl, pb_i1 (List.mem_of_getElem? (i := 1) (by decide +kernel)) rfl, ⟨by decide, by decide⟩, by decide +kernel, by decide⟩
theorem pnX11_years : plainName mX11_years.1.cls = true := by decide +kernel
theorem iwX11_years : Cond.instanceMethod mX11_years.1 ∈ pb_tbl := pb_i2 (List.mem_of_getElem? (i := 153) (by decide +kernel)) rfl
theorem seX11_years : Cond.selects RX11 mX11_years.1 mX11_years.1 ∈ pb_tbl := pb_i2 (List.mem_of_getElem? (i := 154) (by decide +kernel)) rfl
abbrev mX11_press : pb_M := (yX11_press, cX11_press, 6, (some .int))
set_option maxRecDepth 100000 in
theorem mwX11_press : pb_mw mX11_press 3 := ⟨pb_i2 (List.mem_of_getElem? (i := 159) (rfl)) rfl, pb_i1 (List.mem_of_getElem? (i := 1) (by decide +kernel)) rfl, ⟨by decide, by decide⟩, by decide +kernel, by decide⟩
theorem pnX11_press : plainName mX11_press.1.cls = true := by decide +kernel
theorem iwX11_press : Cond.instanceMethod mX11_press.1 ∈ pb_tbl := pb_i2 (List.mem_of_getElem? (i := 157) (by decide +kernel)) rfl
theorem seX11_press : Cond.selects RX11 mX11_press.1 mX11_press.1 ∈ pb_tbl := pb_i2 (List.mem_of_getElem? (i := 158) (by decide +kernel)) rfl
abbrev mX11_pour : pb_M := (yX11_pour, cX11_pour, 5, (some .int))
set_option maxRecDepth 100000 in
theorem mwX11_pour : pb_mw mX11_pour 2 := ⟨pb_i2 (List.mem_of_getElem? (i := 171) (rfl)) rfl, pb_i1 (List.mem_of_getElem? (i := 1) (by decide +kernel)) rfl, ⟨by decide, by decide⟩, by decide +kernel, by decide⟩
theorem pnX11_pour : plainName mX11_pour.1.cls = true := by decide +kernel
theorem iwX11_pour : Cond.instanceMethod mX11_pour.1 ∈ pb_tbl := pb_i2 (List.mem_of_getElem? (i := 169) (by decide +kernel)) rfl
theorem seX11_pour : Cond.selects RX11 mX11_pour.1 mX11_pour.1 ∈ pb_tbl := pb_i2 (List.mem_of_getElem? (i := 170) (by decide +kernel)) rfl
abbrev mX11_waste : pb_M := (yX11_waste, cX11_waste, 4, (some .int))
set_option maxRecDepth 100000 in
theorem mwX11_waste : pb_mw mX11_waste 1 := ⟨pb_i2 (List.mem_of_getElem? (i := 185) (rfl)) rfl, pb_i1 (List.mem_of_getElem? (i := 1) (by decide +kernel)) rfl, ⟨by decide, by decide⟩, by decide +kernel, by decide⟩
theorem pnX11_waste : plainName mX11_waste.1.cls = true := by decide +kernel
theorem iwX11_waste : Cond.instanceMethod mX11_waste.1 ∈ pb_tbl := pb_i2 (List.mem_of_getElem? (i := 183) (by decide +kernel)) rfl
theorem seX11_waste : Cond.selects RX11 mX11_waste.1 mX11_waste.1 ∈ pb_tbl := pb_i2 (List.mem_of_getElem? (i := 184) (by decide +kernel)) rfl
abbrev mX11_drops : pb_M := (yX11_drops, cX11_drops, 4, (some .int))
set_option maxRecDepth 100000 in
theorem mwX11_drops : pb_mw mX11_drops 2 := ⟨pb_i2 (List.mem_of_getElem? (i := 194) (rfl)) rfl, pb_i1 (List.mem_of_getElem? (i := 1) (by decide +kernel)) rfl, ⟨by decide, by decide⟩, by decide +kernel, by decide⟩
theorem pnX11_drops : plainName mX11_drops.1.cls = true := by decide +kernel
theorem iwX11_drops : Cond.instanceMethod mX11_drops.1 ∈ pb_tbl := pb_i2 (List.mem_of_getElem? (i := 192) (by decide +kernel)) rfl
theorem seX11_drops : Cond.selects RX11 mX11_drops.1 mX11_drops.1 ∈ pb_tbl := pb_i2 (List.mem_of_getElem? (i := 193) (by decide +kernel)) rfl
abbrev mX11_thick : pb_M := (yX11_thick, cX11_thick, 4, (some .int))
set_option maxRecDepth 100000 in
theorem mwX11_thick : pb_mw mX11_thick 2 := ⟨pb_i2 (List.mem_of_getElem? (i := 198) (rfl)) rfl, pb_i1 (List.mem_of_getElem? (i := 1) (by decide +kernel)) rfl, ⟨by decide, by decide⟩, by decide +kernel, by decide⟩
theorem pnX11_thick : plainName mX11_thick.1.cls = true := by decide +kernel
theorem iwX11_thick : Cond.instanceMethod mX11_thick.1 ∈ pb_tbl := pb_i2 (List.mem_of_getElem? (i := 196) (by decide +kernel)) rfl
theorem seX11_thick : Cond.selects RX11 mX11_thick.1 mX11_thick.1 ∈ pb_tbl := pb_i2 (List.mem_of_getElem? (i := 197) (by decide +kernel)) rfl
abbrev mX11_seen : pb_M := (yX11_seen, cX11_seen, 6, (some .int))
set_option maxRecDepth 100000 in
theorem mwX11_seen : pb_mw mX11_seen 3 := ⟨pb_i2 (List.mem_of_getElem? (i := 222) (rfl)) rfl, pb_i1 (List.mem_of_getElem? (i := 1) (by decide +kernel)) rfl, ⟨by decide, by decide⟩, by decide +kernel, by decide⟩
theorem pnX11_seen : plainName mX11_seen.1.cls = true := by decide +kernel
theorem iwX11_seen : Cond.instanceMethod mX11_seen.1 ∈ pb_tbl := pb_i2 (List.mem_of_getElem? (i := 220) (by decide +kernel)) rfl
theorem seX11_seen : Cond.selects RX11 mX11_seen.1 mX11_seen.1 ∈ pb_tbl := pb_i2 (List.mem_of_getElem? (i := 221) (by decide +kernel)) rfl
abbrev mX11_over : pb_M := (yX11_over, cX11_over, 8, (some .int))
set_option maxRecDepth 100000 in
theorem mwX11_over : pb_mw mX11_over 4 := ⟨pb_i2 (List.mem_of_getElem? (i := 234) (rfl)) rfl, pb_i1 (List.mem_of_getElem? (i := 1) (by decide +kernel)) rfl, ⟨by decide, by decide⟩, by decide +kernel, by decide⟩
theorem pnX11_over : plainName mX11_over.1.cls = true := by decide +kernel
theorem iwX11_over : Cond.instanceMethod mX11_over.1 ∈ pb_tbl := pb_i2 (List.mem_of_getElem? (i := 232) (by decide +kernel)) rfl
theorem seX11_over : Cond.selects RX11 mX11_over.1 mX11_over.1 ∈ pb_tbl := pb_i2 (List.mem_of_getElem? (i := 233) (by decide +kernel)) rfl
abbrev mX11_hiding : pb_M := (yX11_hiding, cX11_hiding, 8, (some .int))
set_option maxRecDepth 100000 in
theorem mwX11_hiding : pb_mw mX11_hiding 2 := ⟨pb_i3 (List.mem_of_getElem? (i := 16) (rfl)) rfl, pb_i1 (List.mem_of_getElem? (i := 1) (by decide +kernel)) rfl, ⟨by decide, by decide⟩, by decide +kernel, by decide⟩
theorem pnX11_hiding : plainName mX11_hiding.1.cls = true := by decide +kernel
theorem iwX11_hiding : Cond.instanceMethod mX11_hiding.1 ∈ pb_tbl := pb_i3 (List.mem_of_getElem? (i := 14) (by decide +kernel)) rfl
theorem seX11_hiding : Cond.selects RX11 mX11_hiding.1 mX11_hiding.1 ∈ pb_tbl := pb_i3 (List.mem_of_getElem? (i := 15) (by decide +kernel)) rfl
abbrev mX11_ground : pb_M := (yX11_ground, cX11_ground, 5, (some .int))
set_option maxRecDepth 100000 in
theorem mwX11_ground : pb_mw mX11_ground 2 := ⟨pb_i3 (List.mem_of_getElem? (i := 26) (rfl)) rfl, pb_i1 (List.mem_of_getElem? (i := 1) (by decide +kernel)) rfl, ⟨by decide, by decide⟩, by decide +kernel, by decide⟩
theorem pnX11_ground : plainName mX11_ground.1.cls = true := by decide +kernel
theorem iwX11_ground : Cond.instanceMethod mX11_ground.1 ∈ pb_tbl := pb_i3 (List.mem_of_getElem? (i := 24) (by decide +kernel)) rfl
theorem seX11_ground : Cond.selects RX11 mX11_ground.1 mX11_ground.1 ∈ pb_tbl := pb_i3 (List.mem_of_getElem? (i := 25) (by decide +kernel)) rfl
abbrev mX11_lay : pb_M := (yX11_lay, cX11_lay, 6, (some .int))
set_option maxRecDepth 100000 in
theorem mwX11_lay : pb_mw mX11_lay 3 := ⟨pb_i3 (List.mem_of_getElem? (i := 34) (rfl)) rfl, pb_i1 (List.mem_of_getElem? (i := 1) (by decide +kernel)) rfl, ⟨by decide, by decide⟩, by decide +kernel, by decide⟩
theorem pnX11_lay : plainName mX11_lay.1.cls = true := by decide +kernel
theorem iwX11_lay : Cond.instanceMethod mX11_lay.1 ∈ pb_tbl := pb_i3 (List.mem_of_getElem? (i := 32) (by decide +kernel)) rfl
theorem seX11_lay : Cond.selects RX11 mX11_lay.1 mX11_lay.1 ∈ pb_tbl := pb_i3 (List.mem_of_getElem? (i := 33) (by decide +kernel)) rfl
abbrev mX11_back : pb_M := (yX11_back, cX11_back, 5, (some .int))
set_option maxRecDepth 100000 in
theorem mwX11_back : pb_mw mX11_back 3 := ⟨pb_i3 (List.mem_of_getElem? (i := 83) (rfl)) rfl, pb_i1 (List.mem_of_getElem? (i := 1) (by decide +kernel)) rfl, ⟨by decide, by decide⟩, by decide +kernel, by decide⟩
theorem pnX11_back : plainName mX11_back.1.cls = true := by decide +kernel
theorem iwX11_back : Cond.instanceMethod mX11_back.1 ∈ pb_tbl := pb_i3 (List.mem_of_getElem? (i := 81) (by decide +kernel)) rfl
theorem seX11_back : Cond.selects RX11 mX11_back.1 mX11_back.1 ∈ pb_tbl := pb_i3 (List.mem_of_getElem? (i := 82) (by decide +kernel)) rfl
abbrev mX11_look : pb_M := (yX11_look, cX11_look, 5, (some .int))
set_option maxRecDepth 100000 in
theorem mwX11_look : pb_mw mX11_look 3 := ⟨pb_i3 (List.mem_of_getElem? (i := 100) (rfl)) rfl, pb_i1 (List.mem_of_getElem? (i := 1) (by decide +kernel)) rfl, ⟨by decide, by decide⟩, by decide +kernel, by decide⟩
theorem pnX11_look : plainName mX11_look.1.cls = true := by decide +kernel
theorem iwX11_look : Cond.instanceMethod mX11_look.1 ∈ pb_tbl := pb_i3 (List.mem_of_getElem? (i := 98) (by decide +kernel)) rfl
theorem seX11_look : Cond.selects RX11 mX11_look.1 mX11_look.1 ∈ pb_tbl := pb_i3 (List.mem_of_getElem? (i := 99) (by decide +kernel)) rfl
abbrev mX11_missed : pb_M := (yX11_missed, cX11_missed, 6, (some .int))
set_option maxRecDepth 100000 in
theorem mwX11_missed : pb_mw mX11_missed 3 := ⟨pb_i3 (List.mem_of_getElem? (i := 108) (rfl)) rfl, pb_i1 (List.mem_of_getElem? (i := 1) (by decide +kernel)) rfl, ⟨by decide, by decide⟩, by decide +kernel, by decide⟩
theorem pnX11_missed : plainName mX11_missed.1.cls = true := by decide +kernel
theorem iwX11_missed : Cond.instanceMethod mX11_missed.1 ∈ pb_tbl := pb_i3 (List.mem_of_getElem? (i := 106) (by decide +kernel)) rfl
theorem seX11_missed : Cond.selects RX11 mX11_missed.1 mX11_missed.1 ∈ pb_tbl := pb_i3 (List.mem_of_getElem? (i := 107) (by decide +kernel)) rfl
abbrev mX11_tone : pb_M := (yX11_tone, cX11_tone, 4, (some .int))
set_option maxRecDepth 100000 in
theorem mwX11_tone : pb_mw mX11_tone 3 := ⟨pb_i3 (List.mem_of_getElem? (i := 120) (rfl)) rfl, pb_i1 (List.mem_of_getElem? (i := 1) (by decide +kernel)) rfl, ⟨by decide, by decide⟩, by decide +kernel, by decide⟩
theorem pnX11_tone : plainName mX11_tone.1.cls = true := by decide +kernel
theorem iwX11_tone : Cond.instanceMethod mX11_tone.1 ∈ pb_tbl := pb_i3 (List.mem_of_getElem? (i := 118) (by decide +kernel)) rfl
theorem seX11_tone : Cond.selects RX11 mX11_tone.1 mX11_tone.1 ∈ pb_tbl := pb_i3 (List.mem_of_getElem? (i := 119) (by decide +kernel)) rfl
abbrev mX11_apart : pb_M := (yX11_apart, cX11_apart, 4, (some .int))
set_option maxRecDepth 100000 in
theorem mwX11_apart : pb_mw mX11_apart 2 := ⟨pb_i3 (List.mem_of_getElem? (i := 124) (rfl)) rfl, pb_i1 (List.mem_of_getElem? (i := 1) (by decide +kernel)) rfl, ⟨by decide, by decide⟩, by decide +kernel, by decide⟩
theorem pnX11_apart : plainName mX11_apart.1.cls = true := by decide +kernel
theorem iwX11_apart : Cond.instanceMethod mX11_apart.1 ∈ pb_tbl := pb_i3 (List.mem_of_getElem? (i := 122) (by decide +kernel)) rfl
theorem seX11_apart : Cond.selects RX11 mX11_apart.1 mX11_apart.1 ∈ pb_tbl := pb_i3 (List.mem_of_getElem? (i := 123) (by decide +kernel)) rfl
abbrev mX11_match : pb_M := (yX11_match, cX11_match, 4, (some .int))
set_option maxRecDepth 100000 in
theorem mwX11_match : pb_mw mX11_match 3 := ⟨pb_i3 (List.mem_of_getElem? (i := 128) (rfl)) rfl, pb_i1 (List.mem_of_getElem? (i := 1) (by decide +kernel)) rfl, ⟨by decide, by decide⟩, by decide +kernel, by decide⟩
theorem pnX11_match : plainName mX11_match.1.cls = true := by decide +kernel
theorem iwX11_match : Cond.instanceMethod mX11_match.1 ∈ pb_tbl := pb_i3 (List.mem_of_getElem? (i := 126) (by decide +kernel)) rfl
theorem seX11_match : Cond.selects RX11 mX11_match.1 mX11_match.1 ∈ pb_tbl := pb_i3 (List.mem_of_getElem? (i := 127) (by decide +kernel)) rfl
abbrev mX11_matched : pb_M := (yX11_matched, cX11_matched, 2, (some .int))
set_option maxRecDepth 100000 in
theorem mwX11_matched : pb_mw mX11_matched 1 := ⟨pb_i3 (List.mem_of_getElem? (i := 205) (rfl)) rfl, pb_i1 (List.mem_of_getElem? (i := 1) (by decide +kernel)) rfl, ⟨by decide, by decide⟩, by decide +kernel, by decide⟩
theorem pnX11_matched : plainName mX11_matched.1.cls = true := by decide +kernel
theorem iwX11_matched : Cond.instanceMethod mX11_matched.1 ∈ pb_tbl := pb_i3 (List.mem_of_getElem? (i := 203) (by decide +kernel)) rfl
theorem seX11_matched : Cond.selects RX11 mX11_matched.1 mX11_matched.1 ∈ pb_tbl := pb_i3 (List.mem_of_getElem? (i := 204) (by decide +kernel)) rfl
abbrev mX11_price : pb_M := (yX11_price, cX11_price, 1, (some .int))
set_option maxRecDepth 100000 in
theorem mwX11_price : pb_mw mX11_price 0 := ⟨pb_i3 (List.mem_of_getElem? (i := 213) (rfl)) rfl, pb_i1 (List.mem_of_getElem? (i := 1) (by decide +kernel)) rfl, ⟨by decide, by decide⟩, by decide +kernel, by decide⟩
theorem pnX11_price : plainName mX11_price.1.cls = true := by decide +kernel
theorem iwX11_price : Cond.instanceMethod mX11_price.1 ∈ pb_tbl := pb_i3 (List.mem_of_getElem? (i := 211) (by decide +kernel)) rfl
theorem seX11_price : Cond.selects RX11 mX11_price.1 mX11_price.1 ∈ pb_tbl := pb_i3 (List.mem_of_getElem? (i := 212) (by decide +kernel)) rfl
abbrev mX11_glaze : pb_M := (yX11_glaze, cX11_glaze, 4, (some .int))
set_option maxRecDepth 100000 in
theorem mwX11_glaze : pb_mw mX11_glaze 3 := ⟨pb_i3 (List.mem_of_getElem? (i := 217) (rfl)) rfl, pb_i1 (List.mem_of_getElem? (i := 1) (by decide +kernel)) rfl, ⟨by decide, by decide⟩, by decide +kernel, by decide⟩
theorem pnX11_glaze : plainName mX11_glaze.1.cls = true := by decide +kernel
theorem iwX11_glaze : Cond.instanceMethod mX11_glaze.1 ∈ pb_tbl := pb_i3 (List.mem_of_getElem? (i := 215) (by decide +kernel)) rfl
theorem seX11_glaze : Cond.selects RX11 mX11_glaze.1 mX11_glaze.1 ∈ pb_tbl := pb_i3 (List.mem_of_getElem? (i := 216) (by decide +kernel)) rfl
abbrev mX11_glazed : pb_M := (yX11_glazed, cX11_glazed, 2, (some .int))
set_option maxRecDepth 100000 in
theorem mwX11_glazed : pb_mw mX11_glazed 1 := ⟨pb_i4 (List.mem_of_getElem? (i := 12) (rfl)) rfl, pb_i1 (List.mem_of_getElem? (i := 1) (by decide +kernel)) rfl, ⟨by decide, by decide⟩, by decide +kernel, by decide⟩
theorem pnX11_glazed : plainName mX11_glazed.1.cls = true := by decide +kernel
theorem iwX11_glazed : Cond.instanceMethod mX11_glazed.1 ∈ pb_tbl := pb_i4 (List.mem_of_getElem? (i := 10) (by decide +kernel)) rfl
theorem seX11_glazed : Cond.selects RX11 mX11_glazed.1 mX11_glazed.1 ∈ pb_tbl := pb_i4 (List.mem_of_getElem? (i := 11) (by decide +kernel)) rfl
abbrev mX11_keep : pb_M := (yX11_keep, cX11_keep, 2, (some .int))
set_option maxRecDepth 100000 in
theorem mwX11_keep : pb_mw mX11_keep 0 := ⟨pb_i4 (List.mem_of_getElem? (i := 20) (rfl)) rfl, pb_i1 (List.mem_of_getElem? (i := 1) (by decide +kernel)) rfl, ⟨by decide, by decide⟩, by decide +kernel, by decide⟩
theorem pnX11_keep : plainName mX11_keep.1.cls = true := by decide +kernel
theorem iwX11_keep : Cond.instanceMethod mX11_keep.1 ∈ pb_tbl := pb_i4 (List.mem_of_getElem? (i := 18) (by decide +kernel)) rfl
theorem seX11_keep : Cond.selects RX11 mX11_keep.1 mX11_keep.1 ∈ pb_tbl := pb_i4 (List.mem_of_getElem? (i := 19) (by decide +kernel)) rfl
abbrev mX11_clear : pb_M := (yX11_clear, cX11_clear, 2, (some .int))
set_option maxRecDepth 100000 in
theorem mwX11_clear : pb_mw mX11_clear 0 := ⟨pb_i4 (List.mem_of_getElem? (i := 24) (rfl)) rfl, pb_i1 (List.mem_of_getElem? (i := 1) (by decide +kernel)) rfl, ⟨by decide, by decide⟩, by decide +kernel, by decide⟩
theorem pnX11_clear : plainName mX11_clear.1.cls = true := by decide +kernel
theorem iwX11_clear : Cond.instanceMethod mX11_clear.1 ∈ pb_tbl := pb_i4 (List.mem_of_getElem? (i := 22) (by decide +kernel)) rfl
theorem seX11_clear : Cond.selects RX11 mX11_clear.1 mX11_clear.1 ∈ pb_tbl := pb_i4 (List.mem_of_getElem? (i := 23) (by decide +kernel)) rfl
abbrev mX11_fewest : pb_M := (yX11_fewest, cX11_fewest, 4, (some .int))
set_option maxRecDepth 100000 in
theorem mwX11_fewest : pb_mw mX11_fewest 3 := ⟨pb_i4 (List.mem_of_getElem? (i := 28) (rfl)) rfl, pb_i1 (List.mem_of_getElem? (i := 1) (by decide +kernel)) rfl, ⟨by decide, by decide⟩, by decide +kernel, by decide⟩
theorem pnX11_fewest : plainName mX11_fewest.1.cls = true := by decide +kernel
theorem iwX11_fewest : Cond.instanceMethod mX11_fewest.1 ∈ pb_tbl := pb_i4 (List.mem_of_getElem? (i := 26) (by decide +kernel)) rfl
theorem seX11_fewest : Cond.selects RX11 mX11_fewest.1 mX11_fewest.1 ∈ pb_tbl := pb_i4 (List.mem_of_getElem? (i := 27) (by decide +kernel)) rfl
abbrev mX11_count : pb_M := (yX11_count, cX11_count, 2, (some .int))
set_option maxRecDepth 100000 in
theorem mwX11_count : pb_mw mX11_count 1 := ⟨pb_i4 (List.mem_of_getElem? (i := 59) (rfl)) rfl, pb_i1 (List.mem_of_getElem? (i := 1) (by decide +kernel)) rfl, ⟨by decide, by decide⟩, by decide +kernel, by decide⟩
theorem pnX11_count : plainName mX11_count.1.cls = true := by decide +kernel
theorem iwX11_count : Cond.instanceMethod mX11_count.1 ∈ pb_tbl := pb_i4 (List.mem_of_getElem? (i := 57) (by decide +kernel)) rfl
theorem seX11_count : Cond.selects RX11 mX11_count.1 mX11_count.1 ∈ pb_tbl := pb_i4 (List.mem_of_getElem? (i := 58) (by decide +kernel)) rfl
abbrev mX11_between : pb_M := (yX11_between, cX11_between, 3, (some .boolean))
set_option maxRecDepth 100000 in
theorem mwX11_between : pb_mw mX11_between 3 := ⟨pb_i2 (List.mem_of_getElem? (i := 47) (rfl)) rfl, pb_i1 (List.mem_of_getElem? (i := 1) (by decide +kernel)) rfl, ⟨by decide, by decide⟩, by decide +kernel, by decide⟩
theorem pnX11_between : plainName mX11_between.1.cls = true := by decide +kernel
theorem swX11_between : Cond.static mX11_between.1 ∈ pb_tbl := pb_i2 (List.mem_of_getElem? (i := 46) (by decide +kernel)) rfl
abbrev mX11_isBand : pb_M := (yX11_isBand, cX11_isBand, 1, (some .boolean))
set_option maxRecDepth 100000 in
theorem mwX11_isBand : pb_mw mX11_isBand 1 := ⟨pb_i2 (List.mem_of_getElem? (i := 109) (rfl)) rfl, pb_i1 (List.mem_of_getElem? (i := 1) (by decide +kernel)) rfl, ⟨by decide, by decide⟩, by decide +kernel, by decide⟩
theorem pnX11_isBand : plainName mX11_isBand.1.cls = true := by decide +kernel
theorem swX11_isBand : Cond.static mX11_isBand.1 ∈ pb_tbl := pb_i2 (List.mem_of_getElem? (i := 108) (by decide +kernel)) rfl
abbrev mX11_isLamp : pb_M := (yX11_isLamp, cX11_isLamp, 1, (some .boolean))
set_option maxRecDepth 100000 in
theorem mwX11_isLamp : pb_mw mX11_isLamp 1 := ⟨pb_i2 (List.mem_of_getElem? (i := 141) (rfl)) rfl, pb_i1 (List.mem_of_getElem? (i := 1) (by decide +kernel)) rfl, ⟨by decide, by decide⟩, by decide +kernel, by decide⟩
theorem pnX11_isLamp : plainName mX11_isLamp.1.cls = true := by decide +kernel
theorem swX11_isLamp : Cond.static mX11_isLamp.1 ∈ pb_tbl := pb_i2 (List.mem_of_getElem? (i := 140) (by decide +kernel)) rfl
abbrev mX11_isSight : pb_M := (yX11_isSight, cX11_isSight, 1, (some .boolean))
set_option maxRecDepth 100000 in
theorem mwX11_isSight : pb_mw mX11_isSight 1 := ⟨pb_i2 (List.mem_of_getElem? (i := 151) (rfl)) rfl, pb_i1 (List.mem_of_getElem? (i := 1) (by decide +kernel)) rfl, ⟨by decide, by decide⟩, by decide +kernel, by decide⟩
theorem pnX11_isSight : plainName mX11_isSight.1.cls = true := by decide +kernel
theorem swX11_isSight : Cond.static mX11_isSight.1 ∈ pb_tbl := pb_i2 (List.mem_of_getElem? (i := 150) (by decide +kernel)) rfl
abbrev mX11_isShare : pb_M := (yX11_isShare, cX11_isShare, 1, (some .boolean))
set_option maxRecDepth 100000 in
theorem mwX11_isShare : pb_mw mX11_isShare 1 := ⟨pb_i2 (List.mem_of_getElem? (i := 237) (rfl)) rfl, pb_i1 (List.mem_of_getElem? (i := 1) (by decide +kernel)) rfl, ⟨by decide, by decide⟩, by decide +kernel, by decide⟩
theorem pnX11_isShare : plainName mX11_isShare.1.cls = true := by decide +kernel
theorem swX11_isShare : Cond.static mX11_isShare.1 ∈ pb_tbl := pb_i2 (List.mem_of_getElem? (i := 236) (by decide +kernel)) rfl
abbrev mX11_replace : pb_M := (yX11_replace, cX11_replace, 4, (some .int))
set_option maxRecDepth 100000 in
theorem mwX11_replace : pb_mw mX11_replace 3 := ⟨pb_i2 (List.mem_of_getElem? (i := 144) (rfl)) rfl, pb_i1 (List.mem_of_getElem? (i := 1) (by decide +kernel)) rfl, ⟨by decide, by decide⟩, by decide +kernel, by decide⟩
theorem pnX11_replace : plainName mX11_replace.1.cls = true := by decide +kernel
theorem swX11_replace : Cond.static mX11_replace.1 ∈ pb_tbl := pb_i2 (List.mem_of_getElem? (i := 143) (by decide +kernel)) rfl
abbrev mX11_potAt : pb_M := (yX11_potAt, cX11_potAt, 2, (some (.object "PaintBox$Mixture")))
set_option maxRecDepth 100000 in
theorem mwX11_potAt : pb_mw mX11_potAt 1 := ⟨pb_i2 (List.mem_of_getElem? (i := 163) (rfl)) rfl, pb_i1 (List.mem_of_getElem? (i := 1) (by decide +kernel)) rfl, ⟨by decide, by decide⟩, by decide +kernel, by decide⟩
theorem pnX11_potAt : plainName mX11_potAt.1.cls = true := by decide +kernel
theorem iwX11_potAt : Cond.instanceMethod mX11_potAt.1 ∈ pb_tbl := pb_i2 (List.mem_of_getElem? (i := 162) (by decide +kernel)) rfl
theorem seX11_potAt : Cond.selects RX11 mX11_potAt.1 mX11_potAt.1 ∈ pb_tbl := pb_i0 (List.mem_of_getElem? (i := 1) (by decide +kernel)) rfl
abbrev mX11_areaAt : pb_M := (yX11_areaAt, cX11_areaAt, 2, (some (.object "PaintBox$Area")))
set_option maxRecDepth 100000 in
theorem mwX11_areaAt : pb_mw mX11_areaAt 1 := ⟨pb_i3 (List.mem_of_getElem? (i := 30) (rfl)) rfl, pb_i1 (List.mem_of_getElem? (i := 1) (by decide +kernel)) rfl, ⟨by decide, by decide⟩, by decide +kernel, by decide⟩
theorem pnX11_areaAt : plainName mX11_areaAt.1.cls = true := by decide +kernel
theorem iwX11_areaAt : Cond.instanceMethod mX11_areaAt.1 ∈ pb_tbl := pb_i3 (List.mem_of_getElem? (i := 29) (by decide +kernel)) rfl
theorem seX11_areaAt : Cond.selects RX11 mX11_areaAt.1 mX11_areaAt.1 ∈ pb_tbl := pb_i0 (List.mem_of_getElem? (i := 2) (by decide +kernel)) rfl
abbrev mX11_inPots : pb_M := (yX11_inPots, cX11_inPots, 4, (some .int))
set_option maxRecDepth 100000 in
theorem mwX11_inPots : pb_mw mX11_inPots 1 := ⟨pb_i2 (List.mem_of_getElem? (i := 118) (rfl)) rfl, pb_i1 (List.mem_of_getElem? (i := 1) (by decide +kernel)) rfl, ⟨by decide, by decide⟩, by decide +kernel, by decide⟩
theorem pnX11_inPots : plainName mX11_inPots.1.cls = true := by decide +kernel
theorem iwX11_inPots : Cond.instanceMethod mX11_inPots.1 ∈ pb_tbl := pb_i2 (List.mem_of_getElem? (i := 117) (by decide +kernel)) rfl
theorem seX11_inPots : Cond.selects RX11 mX11_inPots.1 mX11_inPots.1 ∈ pb_tbl := pb_i0 (List.mem_of_getElem? (i := 0) (by decide +kernel)) rfl
abbrev mX11_allInPots : pb_M := (yX11_allInPots, cX11_allInPots, 3, (some .int))
set_option maxRecDepth 100000 in
theorem mwX11_allInPots : pb_mw mX11_allInPots 0 := ⟨pb_i4 (List.mem_of_getElem? (i := 63) (rfl)) rfl, pb_i1 (List.mem_of_getElem? (i := 1) (by decide +kernel)) rfl, ⟨by decide, by decide⟩, by decide +kernel, by decide⟩
theorem pnX11_allInPots : plainName mX11_allInPots.1.cls = true := by decide +kernel
theorem iwX11_allInPots : Cond.instanceMethod mX11_allInPots.1 ∈ pb_tbl := pb_i4 (List.mem_of_getElem? (i := 62) (by decide +kernel)) rfl
theorem seX11_allInPots : Cond.selects RX11 mX11_allInPots.1 mX11_allInPots.1 ∈ pb_tbl := pb_i0 (List.mem_of_getElem? (i := 10) (by decide +kernel)) rfl
abbrev mX11_allLayers : pb_M := (yX11_allLayers, cX11_allLayers, 3, (some .int))
set_option maxRecDepth 100000 in
theorem mwX11_allLayers : pb_mw mX11_allLayers 0 := ⟨pb_i4 (List.mem_of_getElem? (i := 79) (rfl)) rfl, pb_i1 (List.mem_of_getElem? (i := 1) (by decide +kernel)) rfl, ⟨by decide, by decide⟩, by decide +kernel, by decide⟩
theorem pnX11_allLayers : plainName mX11_allLayers.1.cls = true := by decide +kernel
theorem iwX11_allLayers : Cond.instanceMethod mX11_allLayers.1 ∈ pb_tbl := pb_i4 (List.mem_of_getElem? (i := 78) (by decide +kernel)) rfl
theorem seX11_allLayers : Cond.selects RX11 mX11_allLayers.1 mX11_allLayers.1 ∈ pb_tbl := pb_i0 (List.mem_of_getElem? (i := 11) (by decide +kernel)) rfl
abbrev mX11_sendFrom : pb_M := (yX11_sendFrom, cX11_sendFrom, 4, none)
set_option maxRecDepth 100000 in
theorem mwX11_sendFrom : pb_mw mX11_sendFrom 2 := ⟨pb_i3 (List.mem_of_getElem? (i := 104) (rfl)) rfl, pb_i1 (List.mem_of_getElem? (i := 1) (by decide +kernel)) rfl, ⟨by decide, by decide⟩, by decide +kernel, by decide⟩
theorem pnX11_sendFrom : plainName mX11_sendFrom.1.cls = true := by decide +kernel
theorem iwX11_sendFrom : Cond.instanceMethod mX11_sendFrom.1 ∈ pb_tbl := pb_i3 (List.mem_of_getElem? (i := 103) (by decide +kernel)) rfl
theorem seX11_sendFrom : Cond.selects RX11 mX11_sendFrom.1 mX11_sendFrom.1 ∈ pb_tbl := pb_i0 (List.mem_of_getElem? (i := 3) (by decide +kernel)) rfl
abbrev mX12_in : pb_M := (yX12_in, cX12_in, 3, (some .boolean))
set_option maxRecDepth 100000 in
theorem mwX12_in : pb_mw mX12_in 3 := ⟨pb_i4 (List.mem_of_getElem? (i := 188) (rfl)) rfl, pb_i1 (List.mem_of_getElem? (i := 11) (by decide +kernel)) rfl, ⟨by decide, by decide⟩, by decide +kernel, by decide⟩
theorem pnX12_in : plainName mX12_in.1.cls = true := by decide +kernel
theorem swX12_in : Cond.static mX12_in.1 ∈ pb_tbl := pb_i4 (List.mem_of_getElem? (i := 187) (by decide +kernel)) rfl
abbrev mX12_init : pb_M := (yX12_init, cX12_init, 2, none)
set_option maxRecDepth 100000 in
theorem mwX12_init : pb_mw mX12_init 0 := ⟨pb_i4 (List.mem_of_getElem? (i := 84) (rfl)) rfl, pb_i1 (List.mem_of_getElem? (i := 11) (by decide +kernel)) rfl, ⟨by decide, by decide⟩, by decide +kernel, by decide⟩
theorem pnX12_init : plainName mX12_init.1.cls = true := by decide +kernel
theorem iwX12_init : Cond.instanceMethod mX12_init.1 ∈ pb_tbl := pb_i4 (List.mem_of_getElem? (i := 83) (by decide +kernel)) rfl
abbrev mX12_isTube : pb_M := (yX12_isTube, cX12_isTube, 2, (some .boolean))
set_option maxRecDepth 100000 in
theorem mwX12_isTube : pb_mw mX12_isTube 1 := ⟨pb_i4 (List.mem_of_getElem? (i := 196) (rfl)) rfl, pb_i1 (List.mem_of_getElem? (i := 11) (by decide +kernel)) rfl, ⟨by decide, by decide⟩, by decide +kernel, by decide⟩
theorem pnX12_isTube : plainName mX12_isTube.1.cls = true := by decide +kernel
theorem iwX12_isTube : Cond.instanceMethod mX12_isTube.1 ∈ pb_tbl := pb_i4 (List.mem_of_getElem? (i := 195) (by decide +kernel)) rfl
theorem seX12_isTube : Cond.selects RX12 mX12_isTube.1 mX12_isTube.1 ∈ pb_tbl := pb_i0 (List.mem_of_getElem? (i := 12) (by decide +kernel)) rfl
abbrev mX12_isBand : pb_M := (yX12_isBand, cX12_isBand, 1, (some .boolean))
set_option maxRecDepth 100000 in
theorem mwX12_isBand : pb_mw mX12_isBand 1 := ⟨pb_i4 (List.mem_of_getElem? (i := 199) (rfl)) rfl, pb_i1 (List.mem_of_getElem? (i := 11) (by decide +kernel)) rfl, ⟨by decide, by decide⟩, by decide +kernel, by decide⟩
theorem pnX12_isBand : plainName mX12_isBand.1.cls = true := by decide +kernel
theorem swX12_isBand : Cond.static mX12_isBand.1 ∈ pb_tbl := pb_i4 (List.mem_of_getElem? (i := 198) (by decide +kernel)) rfl
abbrev mX12_isLamp : pb_M := (yX12_isLamp, cX12_isLamp, 1, (some .boolean))
set_option maxRecDepth 100000 in
theorem mwX12_isLamp : pb_mw mX12_isLamp 1 := ⟨pb_i4 (List.mem_of_getElem? (i := 222) (rfl)) rfl, pb_i1 (List.mem_of_getElem? (i := 11) (by decide +kernel)) rfl, ⟨by decide, by decide⟩, by decide +kernel, by decide⟩
theorem pnX12_isLamp : plainName mX12_isLamp.1.cls = true := by decide +kernel
theorem swX12_isLamp : Cond.static mX12_isLamp.1 ∈ pb_tbl := pb_i4 (List.mem_of_getElem? (i := 221) (by decide +kernel)) rfl
abbrev mX12_isSight : pb_M := (yX12_isSight, cX12_isSight, 1, (some .boolean))
set_option maxRecDepth 100000 in
theorem mwX12_isSight : pb_mw mX12_isSight 1 := ⟨pb_i4 (List.mem_of_getElem? (i := 229) (rfl)) rfl, pb_i1 (List.mem_of_getElem? (i := 11) (by decide +kernel)) rfl, ⟨by decide, by decide⟩, by decide +kernel, by decide⟩
theorem pnX12_isSight : plainName mX12_isSight.1.cls = true := by decide +kernel
theorem swX12_isSight : Cond.static mX12_isSight.1 ∈ pb_tbl := pb_i4 (List.mem_of_getElem? (i := 228) (by decide +kernel)) rfl
abbrev mX12_isPot : pb_M := (yX12_isPot, cX12_isPot, 1, (some .boolean))
set_option maxRecDepth 100000 in
theorem mwX12_isPot : pb_mw mX12_isPot 1 := ⟨pb_i5 (List.mem_of_getElem? (i := 0) (rfl)) rfl, pb_i1 (List.mem_of_getElem? (i := 11) (by decide +kernel)) rfl, ⟨by decide, by decide⟩, by decide +kernel, by decide⟩
theorem pnX12_isPot : plainName mX12_isPot.1.cls = true := by decide +kernel
theorem swX12_isPot : Cond.static mX12_isPot.1 ∈ pb_tbl := pb_i4 (List.mem_of_getElem? (i := 239) (by decide +kernel)) rfl
abbrev mX12_isArea : pb_M := (yX12_isArea, cX12_isArea, 1, (some .boolean))
set_option maxRecDepth 100000 in
theorem mwX12_isArea : pb_mw mX12_isArea 1 := ⟨pb_i5 (List.mem_of_getElem? (i := 73) (rfl)) rfl, pb_i1 (List.mem_of_getElem? (i := 11) (by decide +kernel)) rfl, ⟨by decide, by decide⟩, by decide +kernel, by decide⟩
theorem pnX12_isArea : plainName mX12_isArea.1.cls = true := by decide +kernel
theorem swX12_isArea : Cond.static mX12_isArea.1 ∈ pb_tbl := pb_i5 (List.mem_of_getElem? (i := 72) (by decide +kernel)) rfl
abbrev mX12_tube : pb_M := (yX12_tube, cX12_tube, 5, (some .int))
set_option maxRecDepth 100000 in
theorem mwX12_tube : pb_mw mX12_tube 3 := ⟨pb_i4 (List.mem_of_getElem? (i := 185) (rfl)) rfl, pb_i1 (List.mem_of_getElem? (i := 11) (by decide +kernel)) rfl, ⟨by decide, by decide⟩, by decide +kernel, by decide⟩
theorem pnX12_tube : plainName mX12_tube.1.cls = true := by decide +kernel
theorem iwX12_tube : Cond.instanceMethod mX12_tube.1 ∈ pb_tbl := pb_i4 (List.mem_of_getElem? (i := 183) (by decide +kernel)) rfl
theorem seX12_tube : Cond.selects RX12 mX12_tube.1 mX12_tube.1 ∈ pb_tbl := pb_i4 (List.mem_of_getElem? (i := 184) (by decide +kernel)) rfl
abbrev mX12_band : pb_M := (yX12_band, cX12_band, 5, (some .int))
set_option maxRecDepth 100000 in
theorem mwX12_band : pb_mw mX12_band 4 := ⟨pb_i4 (List.mem_of_getElem? (i := 192) (rfl)) rfl, pb_i1 (List.mem_of_getElem? (i := 11) (by decide +kernel)) rfl, ⟨by decide, by decide⟩, by decide +kernel, by decide⟩
theorem pnX12_band : plainName mX12_band.1.cls = true := by decide +kernel
theorem iwX12_band : Cond.instanceMethod mX12_band.1 ∈ pb_tbl := pb_i4 (List.mem_of_getElem? (i := 190) (by decide +kernel)) rfl
theorem seX12_band : Cond.selects RX12 mX12_band.1 mX12_band.1 ∈ pb_tbl := pb_i4 (List.mem_of_getElem? (i := 191) (by decide +kernel)) rfl
abbrev mX12_inPots : pb_M := (yX12_inPots, cX12_inPots, 4, (some .int))
set_option maxRecDepth 100000 in
theorem mwX12_inPots : pb_mw mX12_inPots 1 := ⟨pb_i4 (List.mem_of_getElem? (i := 207) (rfl)) rfl, pb_i1 (List.mem_of_getElem? (i := 11) (by decide +kernel)) rfl, ⟨by decide, by decide⟩, by decide +kernel, by decide⟩
theorem pnX12_inPots : plainName mX12_inPots.1.cls = true := by decide +kernel
theorem iwX12_inPots : Cond.instanceMethod mX12_inPots.1 ∈ pb_tbl := pb_i4 (List.mem_of_getElem? (i := 206) (by decide +kernel)) rfl
theorem seX12_inPots : Cond.selects RX12 mX12_inPots.1 mX12_inPots.1 ∈ pb_tbl := pb_i0 (List.mem_of_getElem? (i := 13) (by decide +kernel)) rfl
abbrev mX12_ofTube : pb_M := (yX12_ofTube, cX12_ofTube, 3, (some .int))
set_option maxRecDepth 100000 in
theorem mwX12_ofTube : pb_mw mX12_ofTube 2 := ⟨pb_i4 (List.mem_of_getElem? (i := 203) (rfl)) rfl, pb_i1 (List.mem_of_getElem? (i := 11) (by decide +kernel)) rfl, ⟨by decide, by decide⟩, by decide +kernel, by decide⟩
theorem pnX12_ofTube : plainName mX12_ofTube.1.cls = true := by decide +kernel
theorem iwX12_ofTube : Cond.instanceMethod mX12_ofTube.1 ∈ pb_tbl := pb_i4 (List.mem_of_getElem? (i := 201) (by decide +kernel)) rfl
theorem seX12_ofTube : Cond.selects RX12 mX12_ofTube.1 mX12_ofTube.1 ∈ pb_tbl := pb_i4 (List.mem_of_getElem? (i := 202) (by decide +kernel)) rfl
abbrev mX12_faded : pb_M := (yX12_faded, cX12_faded, 6, (some .int))
set_option maxRecDepth 100000 in
theorem mwX12_faded : pb_mw mX12_faded 3 := ⟨pb_i4 (List.mem_of_getElem? (i := 215) (rfl)) rfl, pb_i1 (List.mem_of_getElem? (i := 11) (by decide +kernel)) rfl, ⟨by decide, by decide⟩, by decide +kernel, by decide⟩
theorem pnX12_faded : plainName mX12_faded.1.cls = true := by decide +kernel
theorem iwX12_faded : Cond.instanceMethod mX12_faded.1 ∈ pb_tbl := pb_i4 (List.mem_of_getElem? (i := 214) (by decide +kernel)) rfl
theorem seX12_faded : Cond.selects RX12 mX12_faded.1 mX12_faded.1 ∈ pb_tbl := pb_i0 (List.mem_of_getElem? (i := 14) (by decide +kernel)) rfl
abbrev mX12_row : pb_M := (yX12_row, cX12_row, 5, (some .int))
set_option maxRecDepth 100000 in
theorem mwX12_row : pb_mw mX12_row 4 := ⟨pb_i4 (List.mem_of_getElem? (i := 211) (rfl)) rfl, pb_i1 (List.mem_of_getElem? (i := 11) (by decide +kernel)) rfl, ⟨by decide, by decide⟩, by decide +kernel, by decide⟩
theorem pnX12_row : plainName mX12_row.1.cls = true := by decide +kernel
theorem iwX12_row : Cond.instanceMethod mX12_row.1 ∈ pb_tbl := pb_i4 (List.mem_of_getElem? (i := 209) (by decide +kernel)) rfl
theorem seX12_row : Cond.selects RX12 mX12_row.1 mX12_row.1 ∈ pb_tbl := pb_i4 (List.mem_of_getElem? (i := 210) (by decide +kernel)) rfl
abbrev mX12_lamp : pb_M := (yX12_lamp, cX12_lamp, 5, (some .int))
set_option maxRecDepth 100000 in
theorem mwX12_lamp : pb_mw mX12_lamp 3 := ⟨pb_i4 (List.mem_of_getElem? (i := 219) (rfl)) rfl, pb_i1 (List.mem_of_getElem? (i := 11) (by decide +kernel)) rfl, ⟨by decide, by decide⟩, by decide +kernel, by decide⟩
theorem pnX12_lamp : plainName mX12_lamp.1.cls = true := by decide +kernel
theorem iwX12_lamp : Cond.instanceMethod mX12_lamp.1 ∈ pb_tbl := pb_i4 (List.mem_of_getElem? (i := 217) (by decide +kernel)) rfl
theorem seX12_lamp : Cond.selects RX12 mX12_lamp.1 mX12_lamp.1 ∈ pb_tbl := pb_i4 (List.mem_of_getElem? (i := 218) (by decide +kernel)) rfl
abbrev mX12_eye : pb_M := (yX12_eye, cX12_eye, 5, (some .int))
set_option maxRecDepth 100000 in
theorem mwX12_eye : pb_mw mX12_eye 3 := ⟨pb_i4 (List.mem_of_getElem? (i := 226) (rfl)) rfl, pb_i1 (List.mem_of_getElem? (i := 11) (by decide +kernel)) rfl, ⟨by decide, by decide⟩, by decide +kernel, by decide⟩
theorem pnX12_eye : plainName mX12_eye.1.cls = true := by decide +kernel
theorem iwX12_eye : Cond.instanceMethod mX12_eye.1 ∈ pb_tbl := pb_i4 (List.mem_of_getElem? (i := 224) (by decide +kernel)) rfl
theorem seX12_eye : Cond.selects RX12 mX12_eye.1 mX12_eye.1 ∈ pb_tbl := pb_i4 (List.mem_of_getElem? (i := 225) (by decide +kernel)) rfl
abbrev mX12_years : pb_M := (yX12_years, cX12_years, 2, (some .int))
set_option maxRecDepth 100000 in
theorem mwX12_years : pb_mw mX12_years 1 := ⟨pb_i4 (List.mem_of_getElem? (i := 233) (rfl)) rfl, pb_i1 (List.mem_of_getElem? (i := 11) (by decide +kernel)) rfl, ⟨by decide, by decide⟩, by decide +kernel, by decide⟩
theorem pnX12_years : plainName mX12_years.1.cls = true := by decide +kernel
theorem iwX12_years : Cond.instanceMethod mX12_years.1 ∈ pb_tbl := pb_i4 (List.mem_of_getElem? (i := 231) (by decide +kernel)) rfl
theorem seX12_years : Cond.selects RX12 mX12_years.1 mX12_years.1 ∈ pb_tbl := pb_i4 (List.mem_of_getElem? (i := 232) (by decide +kernel)) rfl
abbrev mX12_root : pb_M := (yX12_root, cX12_root, 8, (some .long))
set_option maxRecDepth 100000 in
theorem mwX12_root : pb_mw mX12_root 1 := ⟨pb_i5 (List.mem_of_getElem? (i := 36) (rfl)) rfl, pb_i1 (List.mem_of_getElem? (i := 11) (by decide +kernel)) rfl, ⟨by decide, by decide⟩, by decide +kernel, by decide⟩
theorem pnX12_root : plainName mX12_root.1.cls = true := by decide +kernel
theorem swX12_root : Cond.static mX12_root.1 ∈ pb_tbl := pb_i5 (List.mem_of_getElem? (i := 35) (by decide +kernel)) rfl
abbrev mX12_thickBy : pb_M := (yX12_thickBy, cX12_thickBy, 6, (some .int))
set_option maxRecDepth 100000 in
theorem mwX12_thickBy : pb_mw mX12_thickBy 2 := ⟨pb_i5 (List.mem_of_getElem? (i := 31) (rfl)) rfl, pb_i1 (List.mem_of_getElem? (i := 11) (by decide +kernel)) rfl, ⟨by decide, by decide⟩, by decide +kernel, by decide⟩
theorem pnX12_thickBy : plainName mX12_thickBy.1.cls = true := by decide +kernel
theorem swX12_thickBy : Cond.static mX12_thickBy.1 ∈ pb_tbl := pb_i5 (List.mem_of_getElem? (i := 30) (by decide +kernel)) rfl
abbrev mX12_thinBy : pb_M := (yX12_thinBy, cX12_thinBy, 11, (some .int))
set_option maxRecDepth 100000 in
theorem mwX12_thinBy : pb_mw mX12_thinBy 3 := ⟨pb_i5 (List.mem_of_getElem? (i := 56) (rfl)) rfl, pb_i1 (List.mem_of_getElem? (i := 11) (by decide +kernel)) rfl, ⟨by decide, by decide⟩, by decide +kernel, by decide⟩
theorem pnX12_thinBy : plainName mX12_thinBy.1.cls = true := by decide +kernel
theorem swX12_thinBy : Cond.static mX12_thinBy.1 ∈ pb_tbl := pb_i5 (List.mem_of_getElem? (i := 55) (by decide +kernel)) rfl
abbrev mX12_layerBy : pb_M := (yX12_layerBy, cX12_layerBy, 8, (some .int))
set_option maxRecDepth 100000 in
theorem mwX12_layerBy : pb_mw mX12_layerBy 4 := ⟨pb_i5 (List.mem_of_getElem? (i := 53) (rfl)) rfl, pb_i1 (List.mem_of_getElem? (i := 11) (by decide +kernel)) rfl, ⟨by decide, by decide⟩, by decide +kernel, by decide⟩
theorem pnX12_layerBy : plainName mX12_layerBy.1.cls = true := by decide +kernel
theorem swX12_layerBy : Cond.static mX12_layerBy.1 ∈ pb_tbl := pb_i5 (List.mem_of_getElem? (i := 52) (by decide +kernel)) rfl
abbrev mX12_seenBy : pb_M := (yX12_seenBy, cX12_seenBy, 10, (some .int))
set_option maxRecDepth 100000 in
theorem mwX12_seenBy : pb_mw mX12_seenBy 2 := ⟨pb_i5 (List.mem_of_getElem? (i := 46) (rfl)) rfl, pb_i1 (List.mem_of_getElem? (i := 11) (by decide +kernel)) rfl, ⟨by decide, by decide⟩, by decide +kernel, by decide⟩
theorem pnX12_seenBy : plainName mX12_seenBy.1.cls = true := by decide +kernel
theorem iwX12_seenBy : Cond.instanceMethod mX12_seenBy.1 ∈ pb_tbl := pb_i5 (List.mem_of_getElem? (i := 45) (by decide +kernel)) rfl
theorem seX12_seenBy : Cond.selects RX12 mX12_seenBy.1 mX12_seenBy.1 ∈ pb_tbl := pb_i0 (List.mem_of_getElem? (i := 18) (by decide +kernel)) rfl
abbrev mX12_off : pb_M := (yX12_off, cX12_off, 2, (some .int))
set_option maxRecDepth 100000 in
theorem mwX12_off : pb_mw mX12_off 2 := ⟨pb_i5 (List.mem_of_getElem? (i := 66) (rfl)) rfl, pb_i1 (List.mem_of_getElem? (i := 11) (by decide +kernel)) rfl, ⟨by decide, by decide⟩, by decide +kernel, by decide⟩
theorem pnX12_off : plainName mX12_off.1.cls = true := by decide +kernel
theorem swX12_off : Cond.static mX12_off.1 ∈ pb_tbl := pb_i5 (List.mem_of_getElem? (i := 65) (by decide +kernel)) rfl
abbrev mX12_apartFrom : pb_M := (yX12_apartFrom, cX12_apartFrom, 5, (some .int))
set_option maxRecDepth 100000 in
theorem mwX12_apartFrom : pb_mw mX12_apartFrom 4 := ⟨pb_i5 (List.mem_of_getElem? (i := 101) (rfl)) rfl, pb_i1 (List.mem_of_getElem? (i := 11) (by decide +kernel)) rfl, ⟨by decide, by decide⟩, by decide +kernel, by decide⟩
theorem pnX12_apartFrom : plainName mX12_apartFrom.1.cls = true := by decide +kernel
theorem iwX12_apartFrom : Cond.instanceMethod mX12_apartFrom.1 ∈ pb_tbl := pb_i5 (List.mem_of_getElem? (i := 100) (by decide +kernel)) rfl
theorem seX12_apartFrom : Cond.selects RX12 mX12_apartFrom.1 mX12_apartFrom.1 ∈ pb_tbl := pb_i0 (List.mem_of_getElem? (i := 21) (by decide +kernel)) rfl
abbrev mX12_inPot : pb_M := (yX12_inPot, cX12_inPot, 4, (some .int))
set_option maxRecDepth 100000 in
theorem mwX12_inPot : pb_mw mX12_inPot 1 := ⟨pb_i5 (List.mem_of_getElem? (i := 4) (rfl)) rfl, pb_i1 (List.mem_of_getElem? (i := 11) (by decide +kernel)) rfl, ⟨by decide, by decide⟩, by decide +kernel, by decide⟩
theorem pnX12_inPot : plainName mX12_inPot.1.cls = true := by decide +kernel
theorem iwX12_inPot : Cond.instanceMethod mX12_inPot.1 ∈ pb_tbl := pb_i5 (List.mem_of_getElem? (i := 3) (by decide +kernel)) rfl
theorem seX12_inPot : Cond.selects RX12 mX12_inPot.1 mX12_inPot.1 ∈ pb_tbl := pb_i0 (List.mem_of_getElem? (i := 15) (by decide +kernel)) rfl
abbrev mX12_press : pb_M := (yX12_press, cX12_press, 4, (some .int))
set_option maxRecDepth 100000 in
theorem mwX12_press : pb_mw mX12_press 3 := ⟨pb_i4 (List.mem_of_getElem? (i := 237) (rfl)) rfl, pb_i1 (List.mem_of_getElem? (i := 11) (by decide +kernel)) rfl, ⟨by decide, by decide⟩, by decide +kernel, by decide⟩
theorem pnX12_press : plainName mX12_press.1.cls = true := by decide +kernel
theorem iwX12_press : Cond.instanceMethod mX12_press.1 ∈ pb_tbl := pb_i4 (List.mem_of_getElem? (i := 235) (by decide +kernel)) rfl
theorem seX12_press : Cond.selects RX12 mX12_press.1 mX12_press.1 ∈ pb_tbl := pb_i4 (List.mem_of_getElem? (i := 236) (by decide +kernel)) rfl
abbrev mX12_pour : pb_M := (yX12_pour, cX12_pour, 4, (some .int))
set_option maxRecDepth 100000 in
theorem mwX12_pour : pb_mw mX12_pour 2 := ⟨pb_i5 (List.mem_of_getElem? (i := 8) (rfl)) rfl, pb_i1 (List.mem_of_getElem? (i := 11) (by decide +kernel)) rfl, ⟨by decide, by decide⟩, by decide +kernel, by decide⟩
theorem pnX12_pour : plainName mX12_pour.1.cls = true := by decide +kernel
theorem iwX12_pour : Cond.instanceMethod mX12_pour.1 ∈ pb_tbl := pb_i5 (List.mem_of_getElem? (i := 6) (by decide +kernel)) rfl
theorem seX12_pour : Cond.selects RX12 mX12_pour.1 mX12_pour.1 ∈ pb_tbl := pb_i5 (List.mem_of_getElem? (i := 7) (by decide +kernel)) rfl
abbrev mX12_waste : pb_M := (yX12_waste, cX12_waste, 4, (some .int))
set_option maxRecDepth 100000 in
theorem mwX12_waste : pb_mw mX12_waste 1 := ⟨pb_i5 (List.mem_of_getElem? (i := 12) (rfl)) rfl, pb_i1 (List.mem_of_getElem? (i := 11) (by decide +kernel)) rfl, ⟨by decide, by decide⟩, by decide +kernel, by decide⟩
theorem pnX12_waste : plainName mX12_waste.1.cls = true := by decide +kernel
theorem iwX12_waste : Cond.instanceMethod mX12_waste.1 ∈ pb_tbl := pb_i5 (List.mem_of_getElem? (i := 10) (by decide +kernel)) rfl
theorem seX12_waste : Cond.selects RX12 mX12_waste.1 mX12_waste.1 ∈ pb_tbl := pb_i5 (List.mem_of_getElem? (i := 11) (by decide +kernel)) rfl
abbrev mX12_drops : pb_M := (yX12_drops, cX12_drops, 3, (some .int))
set_option maxRecDepth 100000 in
theorem mwX12_drops : pb_mw mX12_drops 2 := ⟨pb_i5 (List.mem_of_getElem? (i := 16) (rfl)) rfl, pb_i1 (List.mem_of_getElem? (i := 11) (by decide +kernel)) rfl, ⟨by decide, by decide⟩, by decide +kernel, by decide⟩
theorem pnX12_drops : plainName mX12_drops.1.cls = true := by decide +kernel
theorem iwX12_drops : Cond.instanceMethod mX12_drops.1 ∈ pb_tbl := pb_i5 (List.mem_of_getElem? (i := 14) (by decide +kernel)) rfl
theorem seX12_drops : Cond.selects RX12 mX12_drops.1 mX12_drops.1 ∈ pb_tbl := pb_i5 (List.mem_of_getElem? (i := 15) (by decide +kernel)) rfl
abbrev mX12_drinkOf : pb_M := (yX12_drinkOf, cX12_drinkOf, 6, (some .long))
set_option maxRecDepth 100000 in
theorem mwX12_drinkOf : pb_mw mX12_drinkOf 2 := ⟨pb_i5 (List.mem_of_getElem? (i := 24) (rfl)) rfl, pb_i1 (List.mem_of_getElem? (i := 11) (by decide +kernel)) rfl, ⟨by decide, by decide⟩, by decide +kernel, by decide⟩
theorem pnX12_drinkOf : plainName mX12_drinkOf.1.cls = true := by decide +kernel
theorem iwX12_drinkOf : Cond.instanceMethod mX12_drinkOf.1 ∈ pb_tbl := pb_i5 (List.mem_of_getElem? (i := 23) (by decide +kernel)) rfl
theorem seX12_drinkOf : Cond.selects RX12 mX12_drinkOf.1 mX12_drinkOf.1 ∈ pb_tbl := pb_i0 (List.mem_of_getElem? (i := 16) (by decide +kernel)) rfl
abbrev mX12_scatterOf : pb_M := (yX12_scatterOf, cX12_scatterOf, 6, (some .long))
set_option maxRecDepth 100000 in
theorem mwX12_scatterOf : pb_mw mX12_scatterOf 2 := ⟨pb_i5 (List.mem_of_getElem? (i := 28) (rfl)) rfl, pb_i1 (List.mem_of_getElem? (i := 11) (by decide +kernel)) rfl, ⟨by decide, by decide⟩, by decide +kernel, by decide⟩
theorem pnX12_scatterOf : plainName mX12_scatterOf.1.cls = true := by decide +kernel
theorem iwX12_scatterOf : Cond.instanceMethod mX12_scatterOf.1 ∈ pb_tbl := pb_i5 (List.mem_of_getElem? (i := 27) (by decide +kernel)) rfl
theorem seX12_scatterOf : Cond.selects RX12 mX12_scatterOf.1 mX12_scatterOf.1 ∈ pb_tbl := pb_i0 (List.mem_of_getElem? (i := 17) (by decide +kernel)) rfl
abbrev mX12_thick : pb_M := (yX12_thick, cX12_thick, 3, (some .int))
set_option maxRecDepth 100000 in
theorem mwX12_thick : pb_mw mX12_thick 2 := ⟨pb_i5 (List.mem_of_getElem? (i := 20) (rfl)) rfl, pb_i1 (List.mem_of_getElem? (i := 11) (by decide +kernel)) rfl, ⟨by decide, by decide⟩, by decide +kernel, by decide⟩
theorem pnX12_thick : plainName mX12_thick.1.cls = true := by decide +kernel
theorem iwX12_thick : Cond.instanceMethod mX12_thick.1 ∈ pb_tbl := pb_i5 (List.mem_of_getElem? (i := 18) (by decide +kernel)) rfl
theorem seX12_thick : Cond.selects RX12 mX12_thick.1 mX12_thick.1 ∈ pb_tbl := pb_i5 (List.mem_of_getElem? (i := 19) (by decide +kernel)) rfl
abbrev mX12_seen : pb_M := (yX12_seen, cX12_seen, 5, (some .int))
set_option maxRecDepth 100000 in
theorem mwX12_seen : pb_mw mX12_seen 3 := ⟨pb_i5 (List.mem_of_getElem? (i := 42) (rfl)) rfl, pb_i1 (List.mem_of_getElem? (i := 11) (by decide +kernel)) rfl, ⟨by decide, by decide⟩, by decide +kernel, by decide⟩
theorem pnX12_seen : plainName mX12_seen.1.cls = true := by decide +kernel
theorem iwX12_seen : Cond.instanceMethod mX12_seen.1 ∈ pb_tbl := pb_i5 (List.mem_of_getElem? (i := 40) (by decide +kernel)) rfl
theorem seX12_seen : Cond.selects RX12 mX12_seen.1 mX12_seen.1 ∈ pb_tbl := pb_i5 (List.mem_of_getElem? (i := 41) (by decide +kernel)) rfl
abbrev mX12_over : pb_M := (yX12_over, cX12_over, 5, (some .int))
set_option maxRecDepth 100000 in
theorem mwX12_over : pb_mw mX12_over 4 := ⟨pb_i5 (List.mem_of_getElem? (i := 50) (rfl)) rfl, pb_i1 (List.mem_of_getElem? (i := 11) (by decide +kernel)) rfl, ⟨by decide, by decide⟩, by decide +kernel, by decide⟩
theorem pnX12_over : plainName mX12_over.1.cls = true := by decide +kernel
theorem iwX12_over : Cond.instanceMethod mX12_over.1 ∈ pb_tbl := pb_i5 (List.mem_of_getElem? (i := 48) (by decide +kernel)) rfl
theorem seX12_over : Cond.selects RX12 mX12_over.1 mX12_over.1 ∈ pb_tbl := pb_i5 (List.mem_of_getElem? (i := 49) (by decide +kernel)) rfl
abbrev mX12_hiding : pb_M := (yX12_hiding, cX12_hiding, 6, (some .int))
set_option maxRecDepth 100000 in
theorem mwX12_hiding : pb_mw mX12_hiding 2 := ⟨pb_i5 (List.mem_of_getElem? (i := 63) (rfl)) rfl, pb_i1 (List.mem_of_getElem? (i := 11) (by decide +kernel)) rfl, ⟨by decide, by decide⟩, by decide +kernel, by decide⟩
theorem pnX12_hiding : plainName mX12_hiding.1.cls = true := by decide +kernel
theorem iwX12_hiding : Cond.instanceMethod mX12_hiding.1 ∈ pb_tbl := pb_i5 (List.mem_of_getElem? (i := 61) (by decide +kernel)) rfl
theorem seX12_hiding : Cond.selects RX12 mX12_hiding.1 mX12_hiding.1 ∈ pb_tbl := pb_i5 (List.mem_of_getElem? (i := 62) (by decide +kernel)) rfl
abbrev mX12_ground : pb_M := (yX12_ground, cX12_ground, 4, (some .int))
set_option maxRecDepth 100000 in
theorem mwX12_ground : pb_mw mX12_ground 2 := ⟨pb_i5 (List.mem_of_getElem? (i := 70) (rfl)) rfl, pb_i1 (List.mem_of_getElem? (i := 11) (by decide +kernel)) rfl, ⟨by decide, by decide⟩, by decide +kernel, by decide⟩
theorem pnX12_ground : plainName mX12_ground.1.cls = true := by decide +kernel
theorem iwX12_ground : Cond.instanceMethod mX12_ground.1 ∈ pb_tbl := pb_i5 (List.mem_of_getElem? (i := 68) (by decide +kernel)) rfl
theorem seX12_ground : Cond.selects RX12 mX12_ground.1 mX12_ground.1 ∈ pb_tbl := pb_i5 (List.mem_of_getElem? (i := 69) (by decide +kernel)) rfl
abbrev mX12_lay : pb_M := (yX12_lay, cX12_lay, 7, (some .int))
set_option maxRecDepth 100000 in
theorem mwX12_lay : pb_mw mX12_lay 3 := ⟨pb_i5 (List.mem_of_getElem? (i := 77) (rfl)) rfl, pb_i1 (List.mem_of_getElem? (i := 11) (by decide +kernel)) rfl, ⟨by decide, by decide⟩, by decide +kernel, by decide⟩
theorem pnX12_lay : plainName mX12_lay.1.cls = true := by decide +kernel
theorem iwX12_lay : Cond.instanceMethod mX12_lay.1 ∈ pb_tbl := pb_i5 (List.mem_of_getElem? (i := 75) (by decide +kernel)) rfl
theorem seX12_lay : Cond.selects RX12 mX12_lay.1 mX12_lay.1 ∈ pb_tbl := pb_i5 (List.mem_of_getElem? (i := 76) (by decide +kernel)) rfl
abbrev mX12_backOf : pb_M := (yX12_backOf, cX12_backOf, 13, (some .int))
set_option maxRecDepth 100000 in
theorem mwX12_backOf : pb_mw mX12_backOf 3 := ⟨pb_i5 (List.mem_of_getElem? (i := 85) (rfl)) rfl, pb_i1 (List.mem_of_getElem? (i := 11) (by decide +kernel)) rfl, ⟨by decide, by decide⟩, by decide +kernel, by decide⟩
theorem pnX12_backOf : plainName mX12_backOf.1.cls = true := by decide +kernel
theorem iwX12_backOf : Cond.instanceMethod mX12_backOf.1 ∈ pb_tbl := pb_i5 (List.mem_of_getElem? (i := 84) (by decide +kernel)) rfl
theorem seX12_backOf : Cond.selects RX12 mX12_backOf.1 mX12_backOf.1 ∈ pb_tbl := pb_i0 (List.mem_of_getElem? (i := 19) (by decide +kernel)) rfl
abbrev mX12_lightOf : pb_M := (yX12_lightOf, cX12_lightOf, 4, none)
set_option maxRecDepth 100000 in
theorem mwX12_lightOf : pb_mw mX12_lightOf 2 := ⟨pb_i5 (List.mem_of_getElem? (i := 93) (rfl)) rfl, pb_i1 (List.mem_of_getElem? (i := 11) (by decide +kernel)) rfl, ⟨by decide, by decide⟩, by decide +kernel, by decide⟩
theorem pnX12_lightOf : plainName mX12_lightOf.1.cls = true := by decide +kernel
theorem iwX12_lightOf : Cond.instanceMethod mX12_lightOf.1 ∈ pb_tbl := pb_i5 (List.mem_of_getElem? (i := 92) (by decide +kernel)) rfl
theorem seX12_lightOf : Cond.selects RX12 mX12_lightOf.1 mX12_lightOf.1 ∈ pb_tbl := pb_i0 (List.mem_of_getElem? (i := 20) (by decide +kernel)) rfl
abbrev mX12_back : pb_M := (yX12_back, cX12_back, 4, (some .int))
set_option maxRecDepth 100000 in
theorem mwX12_back : pb_mw mX12_back 3 := ⟨pb_i5 (List.mem_of_getElem? (i := 81) (rfl)) rfl, pb_i1 (List.mem_of_getElem? (i := 11) (by decide +kernel)) rfl, ⟨by decide, by decide⟩, by decide +kernel, by decide⟩
theorem pnX12_back : plainName mX12_back.1.cls = true := by decide +kernel
theorem iwX12_back : Cond.instanceMethod mX12_back.1 ∈ pb_tbl := pb_i5 (List.mem_of_getElem? (i := 79) (by decide +kernel)) rfl
theorem seX12_back : Cond.selects RX12 mX12_back.1 mX12_back.1 ∈ pb_tbl := pb_i5 (List.mem_of_getElem? (i := 80) (by decide +kernel)) rfl
abbrev mX12_look : pb_M := (yX12_look, cX12_look, 4, (some .int))
set_option maxRecDepth 100000 in
theorem mwX12_look : pb_mw mX12_look 3 := ⟨pb_i5 (List.mem_of_getElem? (i := 89) (rfl)) rfl, pb_i1 (List.mem_of_getElem? (i := 11) (by decide +kernel)) rfl, ⟨by decide, by decide⟩, by decide +kernel, by decide⟩
theorem pnX12_look : plainName mX12_look.1.cls = true := by decide +kernel
theorem iwX12_look : Cond.instanceMethod mX12_look.1 ∈ pb_tbl := pb_i5 (List.mem_of_getElem? (i := 87) (by decide +kernel)) rfl
theorem seX12_look : Cond.selects RX12 mX12_look.1 mX12_look.1 ∈ pb_tbl := pb_i5 (List.mem_of_getElem? (i := 88) (by decide +kernel)) rfl
abbrev mX12_missed : pb_M := (yX12_missed, cX12_missed, 5, (some .int))
set_option maxRecDepth 100000 in
theorem mwX12_missed : pb_mw mX12_missed 3 := ⟨pb_i5 (List.mem_of_getElem? (i := 97) (rfl)) rfl, pb_i1 (List.mem_of_getElem? (i := 11) (by decide +kernel)) rfl, ⟨by decide, by decide⟩, by decide +kernel, by decide⟩
theorem pnX12_missed : plainName mX12_missed.1.cls = true := by decide +kernel
theorem iwX12_missed : Cond.instanceMethod mX12_missed.1 ∈ pb_tbl := pb_i5 (List.mem_of_getElem? (i := 95) (by decide +kernel)) rfl
theorem seX12_missed : Cond.selects RX12 mX12_missed.1 mX12_missed.1 ∈ pb_tbl := pb_i5 (List.mem_of_getElem? (i := 96) (by decide +kernel)) rfl
abbrev mX12_tone : pb_M := (yX12_tone, cX12_tone, 4, (some .int))
set_option maxRecDepth 100000 in
theorem mwX12_tone : pb_mw mX12_tone 3 := ⟨pb_i5 (List.mem_of_getElem? (i := 105) (rfl)) rfl, pb_i1 (List.mem_of_getElem? (i := 11) (by decide +kernel)) rfl, ⟨by decide, by decide⟩, by decide +kernel, by decide⟩
theorem pnX12_tone : plainName mX12_tone.1.cls = true := by decide +kernel
theorem iwX12_tone : Cond.instanceMethod mX12_tone.1 ∈ pb_tbl := pb_i5 (List.mem_of_getElem? (i := 103) (by decide +kernel)) rfl
theorem seX12_tone : Cond.selects RX12 mX12_tone.1 mX12_tone.1 ∈ pb_tbl := pb_i5 (List.mem_of_getElem? (i := 104) (by decide +kernel)) rfl
abbrev mX12_apart : pb_M := (yX12_apart, cX12_apart, 3, (some .int))
set_option maxRecDepth 100000 in
theorem mwX12_apart : pb_mw mX12_apart 2 := ⟨pb_i5 (List.mem_of_getElem? (i := 109) (rfl)) rfl, pb_i1 (List.mem_of_getElem? (i := 11) (by decide +kernel)) rfl, ⟨by decide, by decide⟩, by decide +kernel, by decide⟩
theorem pnX12_apart : plainName mX12_apart.1.cls = true := by decide +kernel
theorem iwX12_apart : Cond.instanceMethod mX12_apart.1 ∈ pb_tbl := pb_i5 (List.mem_of_getElem? (i := 107) (by decide +kernel)) rfl
theorem seX12_apart : Cond.selects RX12 mX12_apart.1 mX12_apart.1 ∈ pb_tbl := pb_i5 (List.mem_of_getElem? (i := 108) (by decide +kernel)) rfl
abbrev mX12_lightOfTrial : pb_M := (yX12_lightOfTrial, cX12_lightOfTrial, 7, none)
set_option maxRecDepth 100000 in
theorem mwX12_lightOfTrial : pb_mw mX12_lightOfTrial 0 := ⟨pb_i5 (List.mem_of_getElem? (i := 129) (rfl)) rfl, pb_i1 (List.mem_of_getElem? (i := 11) (by decide +kernel)) rfl, ⟨by decide, by decide⟩, by decide +kernel, by decide⟩
theorem pnX12_lightOfTrial : plainName mX12_lightOfTrial.1.cls = true := by decide +kernel
theorem iwX12_lightOfTrial : Cond.instanceMethod mX12_lightOfTrial.1 ∈ pb_tbl := pb_i5 (List.mem_of_getElem? (i := 128) (by decide +kernel)) rfl
theorem seX12_lightOfTrial : Cond.selects RX12 mX12_lightOfTrial.1 mX12_lightOfTrial.1 ∈ pb_tbl := pb_i0 (List.mem_of_getElem? (i := 25) (by decide +kernel)) rfl
abbrev mX12_usedMany : pb_M := (yX12_usedMany, cX12_usedMany, 3, (some .int))
set_option maxRecDepth 100000 in
theorem mwX12_usedMany : pb_mw mX12_usedMany 0 := ⟨pb_i5 (List.mem_of_getElem? (i := 125) (rfl)) rfl, pb_i1 (List.mem_of_getElem? (i := 11) (by decide +kernel)) rfl, ⟨by decide, by decide⟩, by decide +kernel, by decide⟩
theorem pnX12_usedMany : plainName mX12_usedMany.1.cls = true := by decide +kernel
theorem iwX12_usedMany : Cond.instanceMethod mX12_usedMany.1 ∈ pb_tbl := pb_i5 (List.mem_of_getElem? (i := 124) (by decide +kernel)) rfl
theorem seX12_usedMany : Cond.selects RX12 mX12_usedMany.1 mX12_usedMany.1 ∈ pb_tbl := pb_i0 (List.mem_of_getElem? (i := 24) (by decide +kernel)) rfl
abbrev mX12_next : pb_M := (yX12_next, cX12_next, 6, (some .boolean))
set_option maxRecDepth 100000 in
theorem mwX12_next : pb_mw mX12_next 1 := ⟨pb_i5 (List.mem_of_getElem? (i := 137) (rfl)) rfl, pb_i1 (List.mem_of_getElem? (i := 11) (by decide +kernel)) rfl, ⟨by decide, by decide⟩, by decide +kernel, by decide⟩
theorem pnX12_next : plainName mX12_next.1.cls = true := by decide +kernel
theorem iwX12_next : Cond.instanceMethod mX12_next.1 ∈ pb_tbl := pb_i5 (List.mem_of_getElem? (i := 136) (by decide +kernel)) rfl
theorem seX12_next : Cond.selects RX12 mX12_next.1 mX12_next.1 ∈ pb_tbl := pb_i0 (List.mem_of_getElem? (i := 27) (by decide +kernel)) rfl
abbrev mX12_begin : pb_M := (yX12_begin, cX12_begin, 6, none)
set_option maxRecDepth 100000 in
theorem mwX12_begin : pb_mw mX12_begin 2 := ⟨pb_i5 (List.mem_of_getElem? (i := 121) (rfl)) rfl, pb_i1 (List.mem_of_getElem? (i := 11) (by decide +kernel)) rfl, ⟨by decide, by decide⟩, by decide +kernel, by decide⟩
theorem pnX12_begin : plainName mX12_begin.1.cls = true := by decide +kernel
theorem iwX12_begin : Cond.instanceMethod mX12_begin.1 ∈ pb_tbl := pb_i5 (List.mem_of_getElem? (i := 120) (by decide +kernel)) rfl
theorem seX12_begin : Cond.selects RX12 mX12_begin.1 mX12_begin.1 ∈ pb_tbl := pb_i0 (List.mem_of_getElem? (i := 23) (by decide +kernel)) rfl
abbrev mX12_isSet : pb_M := (yX12_isSet, cX12_isSet, 2, (some .boolean))
set_option maxRecDepth 100000 in
theorem mwX12_isSet : pb_mw mX12_isSet 1 := ⟨pb_i5 (List.mem_of_getElem? (i := 117) (rfl)) rfl, pb_i1 (List.mem_of_getElem? (i := 11) (by decide +kernel)) rfl, ⟨by decide, by decide⟩, by decide +kernel, by decide⟩
theorem pnX12_isSet : plainName mX12_isSet.1.cls = true := by decide +kernel
theorem iwX12_isSet : Cond.instanceMethod mX12_isSet.1 ∈ pb_tbl := pb_i5 (List.mem_of_getElem? (i := 116) (by decide +kernel)) rfl
theorem seX12_isSet : Cond.selects RX12 mX12_isSet.1 mX12_isSet.1 ∈ pb_tbl := pb_i0 (List.mem_of_getElem? (i := 22) (by decide +kernel)) rfl
abbrev mX12_costOfTrial : pb_M := (yX12_costOfTrial, cX12_costOfTrial, 3, (some .int))
set_option maxRecDepth 100000 in
theorem mwX12_costOfTrial : pb_mw mX12_costOfTrial 0 := ⟨pb_i5 (List.mem_of_getElem? (i := 133) (rfl)) rfl, pb_i1 (List.mem_of_getElem? (i := 11) (by decide +kernel)) rfl, ⟨by decide, by decide⟩, by decide +kernel, by decide⟩
theorem pnX12_costOfTrial : plainName mX12_costOfTrial.1.cls = true := by decide +kernel
theorem iwX12_costOfTrial : Cond.instanceMethod mX12_costOfTrial.1 ∈ pb_tbl := pb_i5 (List.mem_of_getElem? (i := 132) (by decide +kernel)) rfl
theorem seX12_costOfTrial : Cond.selects RX12 mX12_costOfTrial.1 mX12_costOfTrial.1 ∈ pb_tbl := pb_i0 (List.mem_of_getElem? (i := 26) (by decide +kernel)) rfl
abbrev mX12_match : pb_M := (yX12_match, cX12_match, 8, (some .int))
set_option maxRecDepth 100000 in
theorem mwX12_match : pb_mw mX12_match 3 := ⟨pb_i5 (List.mem_of_getElem? (i := 113) (rfl)) rfl, pb_i1 (List.mem_of_getElem? (i := 11) (by decide +kernel)) rfl, ⟨by decide, by decide⟩, by decide +kernel, by decide⟩
theorem pnX12_match : plainName mX12_match.1.cls = true := by decide +kernel
theorem iwX12_match : Cond.instanceMethod mX12_match.1 ∈ pb_tbl := pb_i5 (List.mem_of_getElem? (i := 111) (by decide +kernel)) rfl
theorem seX12_match : Cond.selects RX12 mX12_match.1 mX12_match.1 ∈ pb_tbl := pb_i5 (List.mem_of_getElem? (i := 112) (by decide +kernel)) rfl
abbrev mX12_matched : pb_M := (yX12_matched, cX12_matched, 2, (some .int))
set_option maxRecDepth 100000 in
theorem mwX12_matched : pb_mw mX12_matched 1 := ⟨pb_i5 (List.mem_of_getElem? (i := 141) (rfl)) rfl, pb_i1 (List.mem_of_getElem? (i := 11) (by decide +kernel)) rfl, ⟨by decide, by decide⟩, by decide +kernel, by decide⟩
theorem pnX12_matched : plainName mX12_matched.1.cls = true := by decide +kernel
theorem iwX12_matched : Cond.instanceMethod mX12_matched.1 ∈ pb_tbl := pb_i5 (List.mem_of_getElem? (i := 139) (by decide +kernel)) rfl
theorem seX12_matched : Cond.selects RX12 mX12_matched.1 mX12_matched.1 ∈ pb_tbl := pb_i5 (List.mem_of_getElem? (i := 140) (by decide +kernel)) rfl
abbrev mX12_price : pb_M := (yX12_price, cX12_price, 1, (some .int))
set_option maxRecDepth 100000 in
theorem mwX12_price : pb_mw mX12_price 0 := ⟨pb_i5 (List.mem_of_getElem? (i := 145) (rfl)) rfl, pb_i1 (List.mem_of_getElem? (i := 11) (by decide +kernel)) rfl, ⟨by decide, by decide⟩, by decide +kernel, by decide⟩
theorem pnX12_price : plainName mX12_price.1.cls = true := by decide +kernel
theorem iwX12_price : Cond.instanceMethod mX12_price.1 ∈ pb_tbl := pb_i5 (List.mem_of_getElem? (i := 143) (by decide +kernel)) rfl
theorem seX12_price : Cond.selects RX12 mX12_price.1 mX12_price.1 ∈ pb_tbl := pb_i5 (List.mem_of_getElem? (i := 144) (by decide +kernel)) rfl
abbrev mX12_lightOfGlaze : pb_M := (yX12_lightOfGlaze, cX12_lightOfGlaze, 6, none)
set_option maxRecDepth 100000 in
theorem mwX12_lightOfGlaze : pb_mw mX12_lightOfGlaze 2 := ⟨pb_i5 (List.mem_of_getElem? (i := 153) (rfl)) rfl, pb_i1 (List.mem_of_getElem? (i := 11) (by decide +kernel)) rfl, ⟨by decide, by decide⟩, by decide +kernel, by decide⟩
theorem pnX12_lightOfGlaze : plainName mX12_lightOfGlaze.1.cls = true := by decide +kernel
theorem iwX12_lightOfGlaze : Cond.instanceMethod mX12_lightOfGlaze.1 ∈ pb_tbl := pb_i5 (List.mem_of_getElem? (i := 152) (by decide +kernel)) rfl
theorem seX12_lightOfGlaze : Cond.selects RX12 mX12_lightOfGlaze.1 mX12_lightOfGlaze.1 ∈ pb_tbl := pb_i0 (List.mem_of_getElem? (i := 28) (by decide +kernel)) rfl
abbrev mX12_isGlaze : pb_M := (yX12_isGlaze, cX12_isGlaze, 5, (some .boolean))
set_option maxRecDepth 100000 in
theorem mwX12_isGlaze : pb_mw mX12_isGlaze 2 := ⟨pb_i5 (List.mem_of_getElem? (i := 159) (rfl)) rfl, pb_i1 (List.mem_of_getElem? (i := 11) (by decide +kernel)) rfl, ⟨by decide, by decide⟩, by decide +kernel, by decide⟩
theorem pnX12_isGlaze : plainName mX12_isGlaze.1.cls = true := by decide +kernel
theorem iwX12_isGlaze : Cond.instanceMethod mX12_isGlaze.1 ∈ pb_tbl := pb_i5 (List.mem_of_getElem? (i := 158) (by decide +kernel)) rfl
theorem seX12_isGlaze : Cond.selects RX12 mX12_isGlaze.1 mX12_isGlaze.1 ∈ pb_tbl := pb_i0 (List.mem_of_getElem? (i := 29) (by decide +kernel)) rfl
abbrev mX12_glaze : pb_M := (yX12_glaze, cX12_glaze, 9, (some .int))
set_option maxRecDepth 100000 in
theorem mwX12_glaze : pb_mw mX12_glaze 3 := ⟨pb_i5 (List.mem_of_getElem? (i := 149) (rfl)) rfl, pb_i1 (List.mem_of_getElem? (i := 11) (by decide +kernel)) rfl, ⟨by decide, by decide⟩, by decide +kernel, by decide⟩
theorem pnX12_glaze : plainName mX12_glaze.1.cls = true := by decide +kernel
theorem iwX12_glaze : Cond.instanceMethod mX12_glaze.1 ∈ pb_tbl := pb_i5 (List.mem_of_getElem? (i := 147) (by decide +kernel)) rfl
theorem seX12_glaze : Cond.selects RX12 mX12_glaze.1 mX12_glaze.1 ∈ pb_tbl := pb_i5 (List.mem_of_getElem? (i := 148) (by decide +kernel)) rfl
abbrev mX12_glazed : pb_M := (yX12_glazed, cX12_glazed, 2, (some .int))
set_option maxRecDepth 100000 in
theorem mwX12_glazed : pb_mw mX12_glazed 1 := ⟨pb_i5 (List.mem_of_getElem? (i := 163) (rfl)) rfl, pb_i1 (List.mem_of_getElem? (i := 11) (by decide +kernel)) rfl, ⟨by decide, by decide⟩, by decide +kernel, by decide⟩
theorem pnX12_glazed : plainName mX12_glazed.1.cls = true := by decide +kernel
theorem iwX12_glazed : Cond.instanceMethod mX12_glazed.1 ∈ pb_tbl := pb_i5 (List.mem_of_getElem? (i := 161) (by decide +kernel)) rfl
theorem seX12_glazed : Cond.selects RX12 mX12_glazed.1 mX12_glazed.1 ∈ pb_tbl := pb_i5 (List.mem_of_getElem? (i := 162) (by decide +kernel)) rfl
abbrev mX12_keep : pb_M := (yX12_keep, cX12_keep, 2, (some .int))
set_option maxRecDepth 100000 in
theorem mwX12_keep : pb_mw mX12_keep 0 := ⟨pb_i5 (List.mem_of_getElem? (i := 167) (rfl)) rfl, pb_i1 (List.mem_of_getElem? (i := 11) (by decide +kernel)) rfl, ⟨by decide, by decide⟩, by decide +kernel, by decide⟩
theorem pnX12_keep : plainName mX12_keep.1.cls = true := by decide +kernel
theorem iwX12_keep : Cond.instanceMethod mX12_keep.1 ∈ pb_tbl := pb_i5 (List.mem_of_getElem? (i := 165) (by decide +kernel)) rfl
theorem seX12_keep : Cond.selects RX12 mX12_keep.1 mX12_keep.1 ∈ pb_tbl := pb_i5 (List.mem_of_getElem? (i := 166) (by decide +kernel)) rfl
abbrev mX12_clear : pb_M := (yX12_clear, cX12_clear, 2, (some .int))
set_option maxRecDepth 100000 in
theorem mwX12_clear : pb_mw mX12_clear 0 := ⟨pb_i5 (List.mem_of_getElem? (i := 171) (rfl)) rfl, pb_i1 (List.mem_of_getElem? (i := 11) (by decide +kernel)) rfl, ⟨by decide, by decide⟩, by decide +kernel, by decide⟩
theorem pnX12_clear : plainName mX12_clear.1.cls = true := by decide +kernel
theorem iwX12_clear : Cond.instanceMethod mX12_clear.1 ∈ pb_tbl := pb_i5 (List.mem_of_getElem? (i := 169) (by decide +kernel)) rfl
theorem seX12_clear : Cond.selects RX12 mX12_clear.1 mX12_clear.1 ∈ pb_tbl := pb_i5 (List.mem_of_getElem? (i := 170) (by decide +kernel)) rfl
abbrev mX12_fewest : pb_M := (yX12_fewest, cX12_fewest, 11, (some .int))
set_option maxRecDepth 100000 in
theorem mwX12_fewest : pb_mw mX12_fewest 3 := ⟨pb_i5 (List.mem_of_getElem? (i := 175) (rfl)) rfl, pb_i1 (List.mem_of_getElem? (i := 11) (by decide +kernel)) rfl, ⟨by decide, by decide⟩, by decide +kernel, by decide⟩
theorem pnX12_fewest : plainName mX12_fewest.1.cls = true := by decide +kernel
theorem iwX12_fewest : Cond.instanceMethod mX12_fewest.1 ∈ pb_tbl := pb_i5 (List.mem_of_getElem? (i := 173) (by decide +kernel)) rfl
theorem seX12_fewest : Cond.selects RX12 mX12_fewest.1 mX12_fewest.1 ∈ pb_tbl := pb_i5 (List.mem_of_getElem? (i := 174) (by decide +kernel)) rfl
abbrev mX12_count : pb_M := (yX12_count, cX12_count, 4, (some .int))
set_option maxRecDepth 100000 in
theorem mwX12_count : pb_mw mX12_count 1 := ⟨pb_i5 (List.mem_of_getElem? (i := 179) (rfl)) rfl, pb_i1 (List.mem_of_getElem? (i := 11) (by decide +kernel)) rfl, ⟨by decide, by decide⟩, by decide +kernel, by decide⟩
theorem pnX12_count : plainName mX12_count.1.cls = true := by decide +kernel
theorem iwX12_count : Cond.instanceMethod mX12_count.1 ∈ pb_tbl := pb_i5 (List.mem_of_getElem? (i := 177) (by decide +kernel)) rfl
theorem seX12_count : Cond.selects RX12 mX12_count.1 mX12_count.1 ∈ pb_tbl := pb_i5 (List.mem_of_getElem? (i := 178) (by decide +kernel)) rfl
abbrev mJ6_bitCount_0f7a4 : pb_M := (yJ6_bitCount_0f7a4, cJ6_bitCount_0f7a4, 1, (some .int))
set_option maxRecDepth 100000 in
theorem mwJ6_bitCount_0f7a4 : pb_mw mJ6_bitCount_0f7a4 1 := ⟨pb_i4 (List.mem_of_getElem? (i := 52) (rfl)) rfl, pb_i1 (List.mem_of_getElem? (i := 17) (by decide +kernel)) rfl, ⟨by decide, by decide⟩, by decide +kernel, by decide⟩
theorem pnJ6_bitCount_0f7a4 : plainName mJ6_bitCount_0f7a4.1.cls = true := by decide +kernel
theorem swJ6_bitCount_0f7a4 : Cond.static mJ6_bitCount_0f7a4.1 ∈ pb_tbl := pb_i4 (List.mem_of_getElem? (i := 51) (by decide +kernel)) rfl
abbrev mJ9_abs_0f7a4 : pb_M := (yJ9_abs_0f7a4, cJ9_abs_0f7a4, 1, (some .int))
set_option maxRecDepth 100000 in
theorem mwJ9_abs_0f7a4 : pb_mw mJ9_abs_0f7a4 1 := ⟨pb_i3 (List.mem_of_getElem? (i := 116) (rfl)) rfl, pb_i1 (List.mem_of_getElem? (i := 14) (by decide +kernel)) rfl, ⟨by decide, by decide⟩, by decide +kernel, by decide⟩
theorem swJ9_abs_0f7a4 : Cond.static mJ9_abs_0f7a4.1 ∈ pb_tbl := pb_i3 (List.mem_of_getElem? (i := 115) (by decide +kernel)) rfl
abbrev mJ9_max_7cf53 : pb_M := (yJ9_max_7cf53, cJ9_max_7cf53, 2, (some .int))
set_option maxRecDepth 100000 in
theorem mwJ9_max_7cf53 : pb_mw mJ9_max_7cf53 2 := ⟨pb_i3 (List.mem_of_getElem? (i := 22) (rfl)) rfl, pb_i1 (List.mem_of_getElem? (i := 14) (by decide +kernel)) rfl, ⟨by decide, by decide⟩, by decide +kernel, by decide⟩
theorem swJ9_max_7cf53 : Cond.static mJ9_max_7cf53.1 ∈ pb_tbl := pb_i3 (List.mem_of_getElem? (i := 21) (by decide +kernel)) rfl
abbrev mJ7_fill_53178 : pb_M := (yJ7_fill_53178, cJ7_fill_53178, 4, none)
set_option maxRecDepth 100000 in
theorem mwJ7_fill_53178 : pb_mw mJ7_fill_53178 2 := ⟨pb_i1 (List.mem_of_getElem? (i := 55) (rfl)) rfl, pb_i1 (List.mem_of_getElem? (i := 4) (by decide +kernel)) rfl, ⟨by decide, by decide⟩, by decide +kernel, by decide⟩
theorem pnJ7_fill_53178 : plainName mJ7_fill_53178.1.cls = true := by decide +kernel
theorem swJ7_fill_53178 : Cond.static mJ7_fill_53178.1 ∈ pb_tbl := pb_i1 (List.mem_of_getElem? (i := 54) (by decide +kernel)) rfl
theorem mlL_9 : Cond.methodLink RL 9 yX11_init ∈ pb_tbl := pb_i1 (List.mem_of_getElem? (i := 20) (by decide +kernel)) rfl
theorem mlX11_18 : Cond.methodLink RX11 18 yX4_init ∈ pb_tbl := pb_i1 (List.mem_of_getElem? (i := 47) (by decide +kernel)) rfl
theorem mlX4_30 : Cond.methodLink RX4 30 yJ7_fill_53178 ∈ pb_tbl := pb_i1 (List.mem_of_getElem? (i := 53) (by decide +kernel)) rfl
theorem mlL_13 : Cond.methodLink RL 13 yX11_tube ∈ pb_tbl := pb_i2 (List.mem_of_getElem? (i := 41) (by decide +kernel)) rfl
theorem mlX11_77 : Cond.methodLink RX11 77 yX11_between ∈ pb_tbl := pb_i2 (List.mem_of_getElem? (i := 45) (by decide +kernel)) rfl
theorem mlX11_81 : Cond.methodLink RX11 81 yX8_isFull ∈ pb_tbl := pb_i2 (List.mem_of_getElem? (i := 48) (by decide +kernel)) rfl
theorem mlX11_87 : Cond.methodLink RX11 87 yX10_init ∈ pb_tbl := pb_i2 (List.mem_of_getElem? (i := 54) (by decide +kernel)) rfl
theorem mlX10_34 : Cond.methodLink RX10 34 yX10_paint ∈ pb_tbl := pb_i2 (List.mem_of_getElem? (i := 58) (by decide +kernel)) rfl
theorem mlX11_90 : Cond.methodLink RX11 90 yX8_add ∈ pb_tbl := pb_i2 (List.mem_of_getElem? (i := 93) (by decide +kernel)) rfl
theorem mlX8_21 : Cond.methodLink RX8 21 yX8_isFull ∈ pb_tbl := pb_i2 (List.mem_of_getElem? (i := 97) (by decide +kernel)) rfl
theorem mlL_18 : Cond.methodLink RL 18 yX11_band ∈ pb_tbl := pb_i2 (List.mem_of_getElem? (i := 98) (by decide +kernel)) rfl
theorem mlX11_94 : Cond.methodLink RX11 94 yX8_at ∈ pb_tbl := pb_i2 (List.mem_of_getElem? (i := 102) (by decide +kernel)) rfl
theorem mlX11_98 : Cond.methodLink RX11 98 yX11_isBand ∈ pb_tbl := pb_i2 (List.mem_of_getElem? (i := 107) (by decide +kernel)) rfl
theorem mlX11_102 : Cond.methodLink RX11 102 yX10_paint ∈ pb_tbl := pb_i2 (List.mem_of_getElem? (i := 110) (by decide +kernel)) rfl
theorem mlL_23 : Cond.methodLink RL 23 yX11_ofTube ∈ pb_tbl := pb_i2 (List.mem_of_getElem? (i := 111) (by decide +kernel)) rfl
theorem mlX11_114 : Cond.methodLink RX11 114 yX11_inPots ∈ pb_tbl := pb_i2 (List.mem_of_getElem? (i := 115) (by decide +kernel)) rfl
theorem mlX11_167 : Cond.methodLink RX11 167 yX6_of ∈ pb_tbl := pb_i2 (List.mem_of_getElem? (i := 119) (by decide +kernel)) rfl
theorem mlL_28 : Cond.methodLink RL 28 yX11_row ∈ pb_tbl := pb_i2 (List.mem_of_getElem? (i := 123) (by decide +kernel)) rfl
theorem mlX11_124 : Cond.methodLink RX11 124 yX10_drinkAfter ∈ pb_tbl := pb_i2 (List.mem_of_getElem? (i := 127) (by decide +kernel)) rfl
theorem mlX11_128 : Cond.methodLink RX11 128 yX10_scatterOf ∈ pb_tbl := pb_i2 (List.mem_of_getElem? (i := 131) (by decide +kernel)) rfl
theorem mlL_32 : Cond.methodLink RL 32 yX11_lamp ∈ pb_tbl := pb_i2 (List.mem_of_getElem? (i := 135) (by decide +kernel)) rfl
theorem mlX11_131 : Cond.methodLink RX11 131 yX11_isLamp ∈ pb_tbl := pb_i2 (List.mem_of_getElem? (i := 139) (by decide +kernel)) rfl
theorem mlX11_137 : Cond.methodLink RX11 137 yX11_replace ∈ pb_tbl := pb_i2 (List.mem_of_getElem? (i := 142) (by decide +kernel)) rfl
theorem mlL_36 : Cond.methodLink RL 36 yX11_eye ∈ pb_tbl := pb_i2 (List.mem_of_getElem? (i := 145) (by decide +kernel)) rfl
theorem mlX11_141 : Cond.methodLink RX11 141 yX11_isSight ∈ pb_tbl := pb_i2 (List.mem_of_getElem? (i := 149) (by decide +kernel)) rfl
theorem mlL_40 : Cond.methodLink RL 40 yX11_years ∈ pb_tbl := pb_i2 (List.mem_of_getElem? (i := 152) (by decide +kernel)) rfl
theorem mlL_45 : Cond.methodLink RL 45 yX11_press ∈ pb_tbl := pb_i2 (List.mem_of_getElem? (i := 156) (by decide +kernel)) rfl
theorem mlX11_147 : Cond.methodLink RX11 147 yX11_potAt ∈ pb_tbl := pb_i2 (List.mem_of_getElem? (i := 160) (by decide +kernel)) rfl
theorem mlX11_154 : Cond.methodLink RX11 154 yX6_add ∈ pb_tbl := pb_i2 (List.mem_of_getElem? (i := 164) (by decide +kernel)) rfl
theorem mlL_49 : Cond.methodLink RL 49 yX11_pour ∈ pb_tbl := pb_i2 (List.mem_of_getElem? (i := 168) (by decide +kernel)) rfl
theorem mlX11_157 : Cond.methodLink RX11 157 yX6_addAll ∈ pb_tbl := pb_i2 (List.mem_of_getElem? (i := 172) (by decide +kernel)) rfl
theorem mlX6_19 : Cond.methodLink RX6 19 yX6_add ∈ pb_tbl := pb_i2 (List.mem_of_getElem? (i := 176) (by decide +kernel)) rfl
theorem mlX11_161 : Cond.methodLink RX11 161 yX6_makeEmpty ∈ pb_tbl := pb_i2 (List.mem_of_getElem? (i := 177) (by decide +kernel)) rfl
theorem mlX6_23 : Cond.methodLink RX6 23 yJ7_fill_53178 ∈ pb_tbl := pb_i2 (List.mem_of_getElem? (i := 181) (by decide +kernel)) rfl
theorem mlL_53 : Cond.methodLink RL 53 yX11_waste ∈ pb_tbl := pb_i2 (List.mem_of_getElem? (i := 182) (by decide +kernel)) rfl
theorem mlX11_164 : Cond.methodLink RX11 164 yX8_countLost ∈ pb_tbl := pb_i2 (List.mem_of_getElem? (i := 186) (by decide +kernel)) rfl
theorem mlX8_32 : Cond.methodLink RX8 32 yX6_of ∈ pb_tbl := pb_i2 (List.mem_of_getElem? (i := 190) (by decide +kernel)) rfl
theorem mlL_57 : Cond.methodLink RL 57 yX11_drops ∈ pb_tbl := pb_i2 (List.mem_of_getElem? (i := 191) (by decide +kernel)) rfl
theorem mlL_61 : Cond.methodLink RL 61 yX11_thick ∈ pb_tbl := pb_i2 (List.mem_of_getElem? (i := 195) (by decide +kernel)) rfl
theorem mlX11_170 : Cond.methodLink RX11 170 yX6_sentThick ∈ pb_tbl := pb_i2 (List.mem_of_getElem? (i := 199) (by decide +kernel)) rfl
theorem mlX6_48 : Cond.methodLink RX6 48 yX6_drink ∈ pb_tbl := pb_i2 (List.mem_of_getElem? (i := 203) (by decide +kernel)) rfl
theorem mlX6_38 : Cond.methodLink RX6 38 yX10_drinkAfter ∈ pb_tbl := pb_i2 (List.mem_of_getElem? (i := 207) (by decide +kernel)) rfl
theorem mlX6_52 : Cond.methodLink RX6 52 yX6_scatter ∈ pb_tbl := pb_i2 (List.mem_of_getElem? (i := 208) (by decide +kernel)) rfl
theorem mlX6_44 : Cond.methodLink RX6 44 yX10_scatterOf ∈ pb_tbl := pb_i2 (List.mem_of_getElem? (i := 212) (by decide +kernel)) rfl
theorem mlX6_56 : Cond.methodLink RX6 56 yX7_thickSent ∈ pb_tbl := pb_i2 (List.mem_of_getElem? (i := 213) (by decide +kernel)) rfl
theorem mlL_65 : Cond.methodLink RL 65 yX11_seen ∈ pb_tbl := pb_i2 (List.mem_of_getElem? (i := 219) (by decide +kernel)) rfl
theorem mlX11_174 : Cond.methodLink RX11 174 yX4_shine ∈ pb_tbl := pb_i2 (List.mem_of_getElem? (i := 223) (by decide +kernel)) rfl
theorem mlX11_178 : Cond.methodLink RX11 178 yX4_bySight ∈ pb_tbl := pb_i2 (List.mem_of_getElem? (i := 227) (by decide +kernel)) rfl
theorem mlL_69 : Cond.methodLink RL 69 yX11_over ∈ pb_tbl := pb_i2 (List.mem_of_getElem? (i := 231) (by decide +kernel)) rfl
theorem mlX11_182 : Cond.methodLink RX11 182 yX11_isShare ∈ pb_tbl := pb_i2 (List.mem_of_getElem? (i := 235) (by decide +kernel)) rfl
theorem mlX11_185 : Cond.methodLink RX11 185 yX6_drink ∈ pb_tbl := pb_i2 (List.mem_of_getElem? (i := 238) (by decide +kernel)) rfl
theorem mlX11_189 : Cond.methodLink RX11 189 yX6_scatter ∈ pb_tbl := pb_i2 (List.mem_of_getElem? (i := 239) (by decide +kernel)) rfl
theorem mlX11_192 : Cond.methodLink RX11 192 yX7_thinTake ∈ pb_tbl := pb_i3 (List.mem_of_getElem? (i := 0) (by decide +kernel)) rfl
theorem mlX11_197 : Cond.methodLink RX11 197 yX7_thinSend ∈ pb_tbl := pb_i3 (List.mem_of_getElem? (i := 3) (by decide +kernel)) rfl
theorem mlX11_200 : Cond.methodLink RX11 200 yX7_layered ∈ pb_tbl := pb_i3 (List.mem_of_getElem? (i := 6) (by decide +kernel)) rfl
theorem mlX7_19 : Cond.methodLink RX7 19 yX7_thin ∈ pb_tbl := pb_i3 (List.mem_of_getElem? (i := 9) (by decide +kernel)) rfl
theorem mlL_73 : Cond.methodLink RL 73 yX11_hiding ∈ pb_tbl := pb_i3 (List.mem_of_getElem? (i := 13) (by decide +kernel)) rfl
theorem mlX11_204 : Cond.methodLink RX11 204 yX7_leastHiding ∈ pb_tbl := pb_i3 (List.mem_of_getElem? (i := 17) (by decide +kernel)) rfl
theorem mlX11_208 : Cond.methodLink RX11 208 yJ9_max_7cf53 ∈ pb_tbl := pb_i3 (List.mem_of_getElem? (i := 20) (by decide +kernel)) rfl
theorem mlL_77 : Cond.methodLink RL 77 yX11_ground ∈ pb_tbl := pb_i3 (List.mem_of_getElem? (i := 23) (by decide +kernel)) rfl
theorem mlX11_213 : Cond.methodLink RX11 213 yX11_areaAt ∈ pb_tbl := pb_i3 (List.mem_of_getElem? (i := 27) (by decide +kernel)) rfl
theorem mlL_81 : Cond.methodLink RL 81 yX11_lay ∈ pb_tbl := pb_i3 (List.mem_of_getElem? (i := 31) (by decide +kernel)) rfl
theorem mlX11_223 : Cond.methodLink RX11 223 yX0_isFull ∈ pb_tbl := pb_i3 (List.mem_of_getElem? (i := 35) (by decide +kernel)) rfl
theorem mlX11_226 : Cond.methodLink RX11 226 yX3_init ∈ pb_tbl := pb_i3 (List.mem_of_getElem? (i := 41) (by decide +kernel)) rfl
theorem mlX3_31 : Cond.methodLink RX3 31 yX6_addAll ∈ pb_tbl := pb_i3 (List.mem_of_getElem? (i := 47) (by decide +kernel)) rfl
theorem mlX3_42 : Cond.methodLink RX3 42 yJ7_fill_53178 ∈ pb_tbl := pb_i3 (List.mem_of_getElem? (i := 48) (by decide +kernel)) rfl
theorem mlX11_229 : Cond.methodLink RX11 229 yX0_add ∈ pb_tbl := pb_i3 (List.mem_of_getElem? (i := 71) (by decide +kernel)) rfl
theorem mlX0_24 : Cond.methodLink RX0 24 yX0_isFull ∈ pb_tbl := pb_i3 (List.mem_of_getElem? (i := 75) (by decide +kernel)) rfl
theorem mlX11_232 : Cond.methodLink RX11 232 yX8_countLaid ∈ pb_tbl := pb_i3 (List.mem_of_getElem? (i := 76) (by decide +kernel)) rfl
theorem mlL_85 : Cond.methodLink RL 85 yX11_back ∈ pb_tbl := pb_i3 (List.mem_of_getElem? (i := 80) (by decide +kernel)) rfl
theorem mlX11_235 : Cond.methodLink RX11 235 yX0_sentBack ∈ pb_tbl := pb_i3 (List.mem_of_getElem? (i := 84) (by decide +kernel)) rfl
theorem mlX0_28 : Cond.methodLink RX0 28 yX3_sentOver ∈ pb_tbl := pb_i3 (List.mem_of_getElem? (i := 88) (by decide +kernel)) rfl
theorem mlX3_48 : Cond.methodLink RX3 48 yX6_drink ∈ pb_tbl := pb_i3 (List.mem_of_getElem? (i := 92) (by decide +kernel)) rfl
theorem mlX3_52 : Cond.methodLink RX3 52 yX6_scatter ∈ pb_tbl := pb_i3 (List.mem_of_getElem? (i := 93) (by decide +kernel)) rfl
theorem mlX3_56 : Cond.methodLink RX3 56 yX7_thinTake ∈ pb_tbl := pb_i3 (List.mem_of_getElem? (i := 94) (by decide +kernel)) rfl
theorem mlX3_62 : Cond.methodLink RX3 62 yX7_thinSend ∈ pb_tbl := pb_i3 (List.mem_of_getElem? (i := 95) (by decide +kernel)) rfl
theorem mlX3_65 : Cond.methodLink RX3 65 yX7_layered ∈ pb_tbl := pb_i3 (List.mem_of_getElem? (i := 96) (by decide +kernel)) rfl
theorem mlL_89 : Cond.methodLink RL 89 yX11_look ∈ pb_tbl := pb_i3 (List.mem_of_getElem? (i := 97) (by decide +kernel)) rfl
theorem mlX11_238 : Cond.methodLink RX11 238 yX11_sendFrom ∈ pb_tbl := pb_i3 (List.mem_of_getElem? (i := 101) (by decide +kernel)) rfl
theorem mlL_93 : Cond.methodLink RL 93 yX11_missed ∈ pb_tbl := pb_i3 (List.mem_of_getElem? (i := 105) (by decide +kernel)) rfl
theorem mlX11_242 : Cond.methodLink RX11 242 yX4_farFrom ∈ pb_tbl := pb_i3 (List.mem_of_getElem? (i := 109) (by decide +kernel)) rfl
theorem mlX4_36 : Cond.methodLink RX4 36 yX4_bySight ∈ pb_tbl := pb_i3 (List.mem_of_getElem? (i := 113) (by decide +kernel)) rfl
theorem mlX4_40 : Cond.methodLink RX4 40 yJ9_abs_0f7a4 ∈ pb_tbl := pb_i3 (List.mem_of_getElem? (i := 114) (by decide +kernel)) rfl
theorem mlL_97 : Cond.methodLink RL 97 yX11_tone ∈ pb_tbl := pb_i3 (List.mem_of_getElem? (i := 117) (by decide +kernel)) rfl
theorem mlL_101 : Cond.methodLink RL 101 yX11_apart ∈ pb_tbl := pb_i3 (List.mem_of_getElem? (i := 121) (by decide +kernel)) rfl
theorem mlL_105 : Cond.methodLink RL 105 yX11_match ∈ pb_tbl := pb_i3 (List.mem_of_getElem? (i := 125) (by decide +kernel)) rfl
theorem mlX11_246 : Cond.methodLink RX11 246 yX8_hasSet ∈ pb_tbl := pb_i3 (List.mem_of_getElem? (i := 129) (by decide +kernel)) rfl
theorem mlX11_249 : Cond.methodLink RX11 249 yX5_nearest ∈ pb_tbl := pb_i3 (List.mem_of_getElem? (i := 133) (by decide +kernel)) rfl
theorem mlX9_48 : Cond.methodLink RX9 48 yX8_at ∈ pb_tbl := pb_i3 (List.mem_of_getElem? (i := 146) (by decide +kernel)) rfl
theorem mlX9_54 : Cond.methodLink RX9 54 yX9_addMember ∈ pb_tbl := pb_i3 (List.mem_of_getElem? (i := 147) (by decide +kernel)) rfl
theorem mlX9_67 : Cond.methodLink RX9 67 yX10_drinkAfter ∈ pb_tbl := pb_i3 (List.mem_of_getElem? (i := 151) (by decide +kernel)) rfl
theorem mlX9_71 : Cond.methodLink RX9 71 yX10_scatterOf ∈ pb_tbl := pb_i3 (List.mem_of_getElem? (i := 152) (by decide +kernel)) rfl
theorem mlX9_58 : Cond.methodLink RX9 58 yX9_spread ∈ pb_tbl := pb_i3 (List.mem_of_getElem? (i := 153) (by decide +kernel)) rfl
theorem mlX9_75 : Cond.methodLink RX9 75 yJ7_fill_53178 ∈ pb_tbl := pb_i3 (List.mem_of_getElem? (i := 157) (by decide +kernel)) rfl
theorem mlX9_94 : Cond.methodLink RX9 94 yX7_thickSent ∈ pb_tbl := pb_i3 (List.mem_of_getElem? (i := 176) (by decide +kernel)) rfl
theorem mlX9_99 : Cond.methodLink RX9 99 yX4_bySight ∈ pb_tbl := pb_i3 (List.mem_of_getElem? (i := 177) (by decide +kernel)) rfl
theorem mlX1_67 : Cond.methodLink RX1 67 yJ9_abs_0f7a4 ∈ pb_tbl := pb_i3 (List.mem_of_getElem? (i := 178) (by decide +kernel)) rfl
theorem mlX5_43 : Cond.methodLink RX5 43 yJ9_abs_0f7a4 ∈ pb_tbl := pb_i3 (List.mem_of_getElem? (i := 185) (by decide +kernel)) rfl
theorem mlX9_85 : Cond.methodLink RX9 85 yX9_sumUp ∈ pb_tbl := pb_i3 (List.mem_of_getElem? (i := 198) (by decide +kernel)) rfl
theorem mlL_109 : Cond.methodLink RL 109 yX11_matched ∈ pb_tbl := pb_i3 (List.mem_of_getElem? (i := 202) (by decide +kernel)) rfl
theorem mlX11_257 : Cond.methodLink RX11 257 yX5_dropsOf ∈ pb_tbl := pb_i3 (List.mem_of_getElem? (i := 206) (by decide +kernel)) rfl
theorem mlL_113 : Cond.methodLink RL 113 yX11_price ∈ pb_tbl := pb_i3 (List.mem_of_getElem? (i := 210) (by decide +kernel)) rfl
theorem mlL_118 : Cond.methodLink RL 118 yX11_glaze ∈ pb_tbl := pb_i3 (List.mem_of_getElem? (i := 214) (by decide +kernel)) rfl
theorem mlX11_263 : Cond.methodLink RX11 263 yX2_nearest ∈ pb_tbl := pb_i3 (List.mem_of_getElem? (i := 218) (by decide +kernel)) rfl
theorem mlX2_45 : Cond.methodLink RX2 45 yX8_at ∈ pb_tbl := pb_i3 (List.mem_of_getElem? (i := 223) (by decide +kernel)) rfl
theorem mlX2_51 : Cond.methodLink RX2 51 yX2_readThin ∈ pb_tbl := pb_i3 (List.mem_of_getElem? (i := 224) (by decide +kernel)) rfl
theorem mlX2_71 : Cond.methodLink RX2 71 yX10_drinkAfter ∈ pb_tbl := pb_i3 (List.mem_of_getElem? (i := 228) (by decide +kernel)) rfl
theorem mlX2_77 : Cond.methodLink RX2 77 yX10_scatterOf ∈ pb_tbl := pb_i3 (List.mem_of_getElem? (i := 229) (by decide +kernel)) rfl
theorem mlX2_81 : Cond.methodLink RX2 81 yX7_thinTake ∈ pb_tbl := pb_i3 (List.mem_of_getElem? (i := 230) (by decide +kernel)) rfl
theorem mlX2_86 : Cond.methodLink RX2 86 yX7_thinSend ∈ pb_tbl := pb_i3 (List.mem_of_getElem? (i := 231) (by decide +kernel)) rfl
theorem mlX2_55 : Cond.methodLink RX2 55 yJ7_fill_53178 ∈ pb_tbl := pb_i3 (List.mem_of_getElem? (i := 232) (by decide +kernel)) rfl
theorem mlX2_61 : Cond.methodLink RX2 61 yX4_farFrom ∈ pb_tbl := pb_i3 (List.mem_of_getElem? (i := 233) (by decide +kernel)) rfl
theorem mlX2_67 : Cond.methodLink RX2 67 yX2_layOn ∈ pb_tbl := pb_i3 (List.mem_of_getElem? (i := 234) (by decide +kernel)) rfl
theorem mlX2_89 : Cond.methodLink RX2 89 yX2_thicken ∈ pb_tbl := pb_i3 (List.mem_of_getElem? (i := 238) (by decide +kernel)) rfl
theorem mlX2_101 : Cond.methodLink RX2 101 yX7_layered ∈ pb_tbl := pb_i4 (List.mem_of_getElem? (i := 2) (by decide +kernel)) rfl
theorem mlX2_93 : Cond.methodLink RX2 93 yX2_weigh ∈ pb_tbl := pb_i4 (List.mem_of_getElem? (i := 3) (by decide +kernel)) rfl
theorem mlX2_105 : Cond.methodLink RX2 105 yX4_bySight ∈ pb_tbl := pb_i4 (List.mem_of_getElem? (i := 7) (by decide +kernel)) rfl
theorem mlX2_109 : Cond.methodLink RX2 109 yJ9_abs_0f7a4 ∈ pb_tbl := pb_i4 (List.mem_of_getElem? (i := 8) (by decide +kernel)) rfl
theorem mlL_122 : Cond.methodLink RL 122 yX11_glazed ∈ pb_tbl := pb_i4 (List.mem_of_getElem? (i := 9) (by decide +kernel)) rfl
theorem mlX11_267 : Cond.methodLink RX11 267 yX2_bestLayer ∈ pb_tbl := pb_i4 (List.mem_of_getElem? (i := 13) (by decide +kernel)) rfl
theorem mlL_126 : Cond.methodLink RL 126 yX11_keep ∈ pb_tbl := pb_i4 (List.mem_of_getElem? (i := 17) (by decide +kernel)) rfl
theorem mlL_130 : Cond.methodLink RL 130 yX11_clear ∈ pb_tbl := pb_i4 (List.mem_of_getElem? (i := 21) (by decide +kernel)) rfl
theorem mlL_134 : Cond.methodLink RL 134 yX11_fewest ∈ pb_tbl := pb_i4 (List.mem_of_getElem? (i := 25) (by decide +kernel)) rfl
theorem mlX11_271 : Cond.methodLink RX11 271 yX1_aimAt ∈ pb_tbl := pb_i4 (List.mem_of_getElem? (i := 29) (by decide +kernel)) rfl
theorem mlX11_275 : Cond.methodLink RX11 275 yX1_fewestOf ∈ pb_tbl := pb_i4 (List.mem_of_getElem? (i := 34) (by decide +kernel)) rfl
theorem mlX1_36 : Cond.methodLink RX1 36 yJ7_fill_53178 ∈ pb_tbl := pb_i4 (List.mem_of_getElem? (i := 38) (by decide +kernel)) rfl
theorem mlX1_51 : Cond.methodLink RX1 51 yX1_passOn ∈ pb_tbl := pb_i4 (List.mem_of_getElem? (i := 42) (by decide +kernel)) rfl
theorem mlX1_55 : Cond.methodLink RX1 55 yX1_leastOf ∈ pb_tbl := pb_i4 (List.mem_of_getElem? (i := 46) (by decide +kernel)) rfl
theorem mlX1_72 : Cond.methodLink RX1 72 yJ6_bitCount_0f7a4 ∈ pb_tbl := pb_i4 (List.mem_of_getElem? (i := 50) (by decide +kernel)) rfl
theorem mlL_138 : Cond.methodLink RL 138 yX11_count ∈ pb_tbl := pb_i4 (List.mem_of_getElem? (i := 56) (by decide +kernel)) rfl
theorem mlX11_279 : Cond.methodLink RX11 279 yX11_allInPots ∈ pb_tbl := pb_i4 (List.mem_of_getElem? (i := 60) (by decide +kernel)) rfl
theorem mlX11_283 : Cond.methodLink RX11 283 yX8_allLaid ∈ pb_tbl := pb_i4 (List.mem_of_getElem? (i := 64) (by decide +kernel)) rfl
theorem mlX11_286 : Cond.methodLink RX11 286 yX8_allLost ∈ pb_tbl := pb_i4 (List.mem_of_getElem? (i := 68) (by decide +kernel)) rfl
theorem mlX11_289 : Cond.methodLink RX11 289 yX8_allHeld ∈ pb_tbl := pb_i4 (List.mem_of_getElem? (i := 72) (by decide +kernel)) rfl
theorem mlX11_292 : Cond.methodLink RX11 292 yX11_allLayers ∈ pb_tbl := pb_i4 (List.mem_of_getElem? (i := 76) (by decide +kernel)) rfl
theorem mlL_12 : Cond.methodLink RL 12 yX12_init ∈ pb_tbl := pb_i4 (List.mem_of_getElem? (i := 82) (by decide +kernel)) rfl
theorem mlL_17 : Cond.methodLink RL 17 yX12_tube ∈ pb_tbl := pb_i4 (List.mem_of_getElem? (i := 182) (by decide +kernel)) rfl
theorem mlX12_95 : Cond.methodLink RX12 95 yX12_in ∈ pb_tbl := pb_i4 (List.mem_of_getElem? (i := 186) (by decide +kernel)) rfl
theorem mlL_22 : Cond.methodLink RL 22 yX12_band ∈ pb_tbl := pb_i4 (List.mem_of_getElem? (i := 189) (by decide +kernel)) rfl
theorem mlX12_99 : Cond.methodLink RX12 99 yX12_isTube ∈ pb_tbl := pb_i4 (List.mem_of_getElem? (i := 193) (by decide +kernel)) rfl
theorem mlX12_103 : Cond.methodLink RX12 103 yX12_isBand ∈ pb_tbl := pb_i4 (List.mem_of_getElem? (i := 197) (by decide +kernel)) rfl
theorem mlL_27 : Cond.methodLink RL 27 yX12_ofTube ∈ pb_tbl := pb_i4 (List.mem_of_getElem? (i := 200) (by decide +kernel)) rfl
theorem mlX12_106 : Cond.methodLink RX12 106 yX12_inPots ∈ pb_tbl := pb_i4 (List.mem_of_getElem? (i := 204) (by decide +kernel)) rfl
theorem mlL_31 : Cond.methodLink RL 31 yX12_row ∈ pb_tbl := pb_i4 (List.mem_of_getElem? (i := 208) (by decide +kernel)) rfl
theorem mlX12_110 : Cond.methodLink RX12 110 yX12_faded ∈ pb_tbl := pb_i4 (List.mem_of_getElem? (i := 212) (by decide +kernel)) rfl
theorem mlL_35 : Cond.methodLink RL 35 yX12_lamp ∈ pb_tbl := pb_i4 (List.mem_of_getElem? (i := 216) (by decide +kernel)) rfl
theorem mlX12_114 : Cond.methodLink RX12 114 yX12_isLamp ∈ pb_tbl := pb_i4 (List.mem_of_getElem? (i := 220) (by decide +kernel)) rfl
theorem mlL_39 : Cond.methodLink RL 39 yX12_eye ∈ pb_tbl := pb_i4 (List.mem_of_getElem? (i := 223) (by decide +kernel)) rfl
theorem mlX12_117 : Cond.methodLink RX12 117 yX12_isSight ∈ pb_tbl := pb_i4 (List.mem_of_getElem? (i := 227) (by decide +kernel)) rfl
theorem mlL_44 : Cond.methodLink RL 44 yX12_years ∈ pb_tbl := pb_i4 (List.mem_of_getElem? (i := 230) (by decide +kernel)) rfl
theorem mlL_48 : Cond.methodLink RL 48 yX12_press ∈ pb_tbl := pb_i4 (List.mem_of_getElem? (i := 234) (by decide +kernel)) rfl
theorem mlX12_152 : Cond.methodLink RX12 152 yX12_isPot ∈ pb_tbl := pb_i4 (List.mem_of_getElem? (i := 238) (by decide +kernel)) rfl
theorem mlX12_155 : Cond.methodLink RX12 155 yX12_inPot ∈ pb_tbl := pb_i5 (List.mem_of_getElem? (i := 1) (by decide +kernel)) rfl
theorem mlL_52 : Cond.methodLink RL 52 yX12_pour ∈ pb_tbl := pb_i5 (List.mem_of_getElem? (i := 5) (by decide +kernel)) rfl
theorem mlL_56 : Cond.methodLink RL 56 yX12_waste ∈ pb_tbl := pb_i5 (List.mem_of_getElem? (i := 9) (by decide +kernel)) rfl
theorem mlL_60 : Cond.methodLink RL 60 yX12_drops ∈ pb_tbl := pb_i5 (List.mem_of_getElem? (i := 13) (by decide +kernel)) rfl
theorem mlL_64 : Cond.methodLink RL 64 yX12_thick ∈ pb_tbl := pb_i5 (List.mem_of_getElem? (i := 17) (by decide +kernel)) rfl
theorem mlX12_158 : Cond.methodLink RX12 158 yX12_drinkOf ∈ pb_tbl := pb_i5 (List.mem_of_getElem? (i := 21) (by decide +kernel)) rfl
theorem mlX12_162 : Cond.methodLink RX12 162 yX12_scatterOf ∈ pb_tbl := pb_i5 (List.mem_of_getElem? (i := 25) (by decide +kernel)) rfl
theorem mlX12_165 : Cond.methodLink RX12 165 yX12_thickBy ∈ pb_tbl := pb_i5 (List.mem_of_getElem? (i := 29) (by decide +kernel)) rfl
theorem mlX12_131 : Cond.methodLink RX12 131 yX12_root ∈ pb_tbl := pb_i5 (List.mem_of_getElem? (i := 34) (by decide +kernel)) rfl
theorem mlL_68 : Cond.methodLink RL 68 yX12_seen ∈ pb_tbl := pb_i5 (List.mem_of_getElem? (i := 39) (by decide +kernel)) rfl
theorem mlX12_145 : Cond.methodLink RX12 145 yX12_seenBy ∈ pb_tbl := pb_i5 (List.mem_of_getElem? (i := 43) (by decide +kernel)) rfl
theorem mlL_72 : Cond.methodLink RL 72 yX12_over ∈ pb_tbl := pb_i5 (List.mem_of_getElem? (i := 47) (by decide +kernel)) rfl
theorem mlX12_169 : Cond.methodLink RX12 169 yX12_layerBy ∈ pb_tbl := pb_i5 (List.mem_of_getElem? (i := 51) (by decide +kernel)) rfl
theorem mlX12_141 : Cond.methodLink RX12 141 yX12_thinBy ∈ pb_tbl := pb_i5 (List.mem_of_getElem? (i := 54) (by decide +kernel)) rfl
theorem mlL_76 : Cond.methodLink RL 76 yX12_hiding ∈ pb_tbl := pb_i5 (List.mem_of_getElem? (i := 60) (by decide +kernel)) rfl
theorem mlX12_149 : Cond.methodLink RX12 149 yX12_off ∈ pb_tbl := pb_i5 (List.mem_of_getElem? (i := 64) (by decide +kernel)) rfl
theorem mlL_80 : Cond.methodLink RL 80 yX12_ground ∈ pb_tbl := pb_i5 (List.mem_of_getElem? (i := 67) (by decide +kernel)) rfl
theorem mlX12_173 : Cond.methodLink RX12 173 yX12_isArea ∈ pb_tbl := pb_i5 (List.mem_of_getElem? (i := 71) (by decide +kernel)) rfl
theorem mlL_84 : Cond.methodLink RL 84 yX12_lay ∈ pb_tbl := pb_i5 (List.mem_of_getElem? (i := 74) (by decide +kernel)) rfl
theorem mlL_88 : Cond.methodLink RL 88 yX12_back ∈ pb_tbl := pb_i5 (List.mem_of_getElem? (i := 78) (by decide +kernel)) rfl
theorem mlX12_176 : Cond.methodLink RX12 176 yX12_backOf ∈ pb_tbl := pb_i5 (List.mem_of_getElem? (i := 82) (by decide +kernel)) rfl
theorem mlL_92 : Cond.methodLink RL 92 yX12_look ∈ pb_tbl := pb_i5 (List.mem_of_getElem? (i := 86) (by decide +kernel)) rfl
theorem mlX12_179 : Cond.methodLink RX12 179 yX12_lightOf ∈ pb_tbl := pb_i5 (List.mem_of_getElem? (i := 90) (by decide +kernel)) rfl
theorem mlL_96 : Cond.methodLink RL 96 yX12_missed ∈ pb_tbl := pb_i5 (List.mem_of_getElem? (i := 94) (by decide +kernel)) rfl
theorem mlX12_183 : Cond.methodLink RX12 183 yX12_apartFrom ∈ pb_tbl := pb_i5 (List.mem_of_getElem? (i := 98) (by decide +kernel)) rfl
theorem mlL_100 : Cond.methodLink RL 100 yX12_tone ∈ pb_tbl := pb_i5 (List.mem_of_getElem? (i := 102) (by decide +kernel)) rfl
theorem mlL_104 : Cond.methodLink RL 104 yX12_apart ∈ pb_tbl := pb_i5 (List.mem_of_getElem? (i := 106) (by decide +kernel)) rfl
theorem mlL_108 : Cond.methodLink RL 108 yX12_match ∈ pb_tbl := pb_i5 (List.mem_of_getElem? (i := 110) (by decide +kernel)) rfl
theorem mlX12_187 : Cond.methodLink RX12 187 yX12_isSet ∈ pb_tbl := pb_i5 (List.mem_of_getElem? (i := 114) (by decide +kernel)) rfl
theorem mlX12_190 : Cond.methodLink RX12 190 yX12_begin ∈ pb_tbl := pb_i5 (List.mem_of_getElem? (i := 118) (by decide +kernel)) rfl
theorem mlX12_193 : Cond.methodLink RX12 193 yX12_usedMany ∈ pb_tbl := pb_i5 (List.mem_of_getElem? (i := 122) (by decide +kernel)) rfl
theorem mlX12_197 : Cond.methodLink RX12 197 yX12_lightOfTrial ∈ pb_tbl := pb_i5 (List.mem_of_getElem? (i := 126) (by decide +kernel)) rfl
theorem mlX12_200 : Cond.methodLink RX12 200 yX12_costOfTrial ∈ pb_tbl := pb_i5 (List.mem_of_getElem? (i := 130) (by decide +kernel)) rfl
theorem mlX12_206 : Cond.methodLink RX12 206 yX12_next ∈ pb_tbl := pb_i5 (List.mem_of_getElem? (i := 134) (by decide +kernel)) rfl
theorem mlL_112 : Cond.methodLink RL 112 yX12_matched ∈ pb_tbl := pb_i5 (List.mem_of_getElem? (i := 138) (by decide +kernel)) rfl
theorem mlL_117 : Cond.methodLink RL 117 yX12_price ∈ pb_tbl := pb_i5 (List.mem_of_getElem? (i := 142) (by decide +kernel)) rfl
theorem mlL_121 : Cond.methodLink RL 121 yX12_glaze ∈ pb_tbl := pb_i5 (List.mem_of_getElem? (i := 146) (by decide +kernel)) rfl
theorem mlX12_216 : Cond.methodLink RX12 216 yX12_lightOfGlaze ∈ pb_tbl := pb_i5 (List.mem_of_getElem? (i := 150) (by decide +kernel)) rfl
theorem mlX12_219 : Cond.methodLink RX12 219 yX12_isGlaze ∈ pb_tbl := pb_i5 (List.mem_of_getElem? (i := 156) (by decide +kernel)) rfl
theorem mlL_125 : Cond.methodLink RL 125 yX12_glazed ∈ pb_tbl := pb_i5 (List.mem_of_getElem? (i := 160) (by decide +kernel)) rfl
theorem mlL_129 : Cond.methodLink RL 129 yX12_keep ∈ pb_tbl := pb_i5 (List.mem_of_getElem? (i := 164) (by decide +kernel)) rfl
theorem mlL_133 : Cond.methodLink RL 133 yX12_clear ∈ pb_tbl := pb_i5 (List.mem_of_getElem? (i := 168) (by decide +kernel)) rfl
theorem mlL_137 : Cond.methodLink RL 137 yX12_fewest ∈ pb_tbl := pb_i5 (List.mem_of_getElem? (i := 172) (by decide +kernel)) rfl
theorem mlL_141 : Cond.methodLink RL 141 yX12_count ∈ pb_tbl := pb_i5 (List.mem_of_getElem? (i := 176) (by decide +kernel)) rfl
theorem mnX11_11 : Cond.methodLinkNest RX11 11 yX8_init "PaintBox" ∈ pb_nw := pb_j1 (List.mem_of_getElem? (i := 28) (by decide +kernel)) rfl
theorem mnX11_49 : Cond.methodLinkNest RX11 49 yX5_init "PaintBox" ∈ pb_nw := pb_j1 (List.mem_of_getElem? (i := 86) (by decide +kernel)) rfl
theorem mnX5_3 : Cond.methodLinkNest RX5 3 yX9_init "PaintBox" ∈ pb_nw := pb_j1 (List.mem_of_getElem? (i := 89) (by decide +kernel)) rfl
theorem mnX11_56 : Cond.methodLinkNest RX11 56 yX1_init "PaintBox" ∈ pb_nw := pb_j1 (List.mem_of_getElem? (i := 147) (by decide +kernel)) rfl
theorem mnX1_3 : Cond.methodLinkNest RX1 3 yX9_init "PaintBox" ∈ pb_nw := pb_j1 (List.mem_of_getElem? (i := 150) (by decide +kernel)) rfl
theorem mnX11_63 : Cond.methodLinkNest RX11 63 yX2_init "PaintBox" ∈ pb_nw := pb_j1 (List.mem_of_getElem? (i := 181) (by decide +kernel)) rfl
theorem mnX11_75 : Cond.methodLinkNest RX11 75 yX6_init "PaintBox" ∈ pb_nw := pb_j1 (List.mem_of_getElem? (i := 213) (by decide +kernel)) rfl
theorem mnX11_76 : Cond.methodLinkNest RX11 76 yX0_init "PaintBox" ∈ pb_nw := pb_j1 (List.mem_of_getElem? (i := 226) (by decide +kernel)) rfl
theorem mnX8_25 : Cond.methodLinkNest RX8 25 yX11_between "PaintBox" ∈ pb_nw := pb_j2 (List.mem_of_getElem? (i := 106) (by decide +kernel)) rfl
theorem mnX3_11 : Cond.methodLinkNest RX3 11 yX6_init "PaintBox" ∈ pb_nw := pb_j3 (List.mem_of_getElem? (i := 46) (by decide +kernel)) rfl
theorem flX8_11_X8 : pb_fl RX8 11 7 0 RX8 TX8 2 tyX8 := ⟨pb_cl7, by decide, pb_i1 (List.mem_of_getElem? (i := 34) (by decide +kernel)) rfl⟩
theorem flX8_17_X8 : pb_fl RX8 17 7 1 RX8 TX8 2 tyX8 := ⟨pb_cl7, by decide, pb_i1 (List.mem_of_getElem? (i := 36) (by decide +kernel)) rfl⟩
theorem flX1_42_X8 : pb_fl RX1 42 7 1 RX8 TX8 2 tyX8 := ⟨pb_cl7, by decide, pb_i1 (List.mem_of_getElem? (i := 37) (by decide +kernel)) rfl⟩
theorem flX6_29_X8 : pb_fl RX6 29 7 1 RX8 TX8 2 tyX8 := ⟨pb_cl7, by decide, pb_i1 (List.mem_of_getElem? (i := 38) (by decide +kernel)) rfl⟩
theorem flX11_270_X8 : pb_fl RX11 270 7 1 RX8 TX8 2 tyX8 := ⟨pb_cl7, by decide, pb_i1 (List.mem_of_getElem? (i := 39) (by decide +kernel)) rfl⟩
theorem flX4_11_X4 : pb_fl RX4 11 4 0 RX4 TX4 5 tyX4 := ⟨pb_cl4, by decide, pb_i1 (List.mem_of_getElem? (i := 56) (by decide +kernel)) rfl⟩
theorem flX11_134_X4 : pb_fl RX11 134 4 0 RX4 TX4 5 tyX4 := ⟨pb_cl4, by decide, pb_i1 (List.mem_of_getElem? (i := 57) (by decide +kernel)) rfl⟩
theorem flX4_16_X4 : pb_fl RX4 16 4 1 RX4 TX4 5 tyX4 := ⟨pb_cl4, by decide, pb_i1 (List.mem_of_getElem? (i := 58) (by decide +kernel)) rfl⟩
theorem flX11_144_X4 : pb_fl RX11 144 4 1 RX4 TX4 5 tyX4 := ⟨pb_cl4, by decide, pb_i1 (List.mem_of_getElem? (i := 59) (by decide +kernel)) rfl⟩
theorem flX4_19_X4 : pb_fl RX4 19 4 2 RX4 TX4 5 tyX4 := ⟨pb_cl4, by decide, pb_i1 (List.mem_of_getElem? (i := 60) (by decide +kernel)) rfl⟩
theorem flX9_89_X4 : pb_fl RX9 89 4 2 RX4 TX4 5 tyX4 := ⟨pb_cl4, by decide, pb_i1 (List.mem_of_getElem? (i := 61) (by decide +kernel)) rfl⟩
theorem flX4_22_X4 : pb_fl RX4 22 4 3 RX4 TX4 5 tyX4 := ⟨pb_cl4, by decide, pb_i1 (List.mem_of_getElem? (i := 62) (by decide +kernel)) rfl⟩
theorem flX4_26_X4 : pb_fl RX4 26 4 4 RX4 TX4 5 tyX4 := ⟨pb_cl4, by decide, pb_i1 (List.mem_of_getElem? (i := 63) (by decide +kernel)) rfl⟩
theorem flX2_97_X4 : pb_fl RX2 97 4 4 RX4 TX4 5 tyX4 := ⟨pb_cl4, by decide, pb_i1 (List.mem_of_getElem? (i := 64) (by decide +kernel)) rfl⟩
theorem flX11_295_X4 : pb_fl RX11 295 4 4 RX4 TX4 5 tyX4 := ⟨pb_cl4, by decide, pb_i1 (List.mem_of_getElem? (i := 65) (by decide +kernel)) rfl⟩
theorem flX5_9_X5 : pb_fl RX5 9 5 11 RX5 TX5 16 tyX5 := ⟨pb_cl5, by decide, pb_i1 (List.mem_of_getElem? (i := 94) (by decide +kernel)) rfl⟩
theorem flX11_253_X5 : pb_fl RX11 253 5 11 RX5 TX5 16 tyX5 := ⟨pb_cl5, by decide, pb_i1 (List.mem_of_getElem? (i := 95) (by decide +kernel)) rfl⟩
theorem flX5_15_X5 : pb_fl RX5 15 5 12 RX5 TX5 16 tyX5 := ⟨pb_cl5, by decide, pb_i1 (List.mem_of_getElem? (i := 96) (by decide +kernel)) rfl⟩
theorem flX11_260_X5 : pb_fl RX11 260 5 12 RX5 TX5 16 tyX5 := ⟨pb_cl5, by decide, pb_i1 (List.mem_of_getElem? (i := 97) (by decide +kernel)) rfl⟩
theorem flX5_19_X5 : pb_fl RX5 19 5 13 RX5 TX5 16 tyX5 := ⟨pb_cl5, by decide, pb_i1 (List.mem_of_getElem? (i := 98) (by decide +kernel)) rfl⟩
theorem flX5_22_X5 : pb_fl RX5 22 5 14 RX5 TX5 16 tyX5 := ⟨pb_cl5, by decide, pb_i1 (List.mem_of_getElem? (i := 99) (by decide +kernel)) rfl⟩
theorem flX5_26_X5 : pb_fl RX5 26 5 15 RX5 TX5 16 tyX5 := ⟨pb_cl5, by decide, pb_i1 (List.mem_of_getElem? (i := 100) (by decide +kernel)) rfl⟩
theorem flX9_9_X1 : pb_fl RX9 9 1 0 RX1 TX1 16 tyX1 := ⟨pb_cl1, by decide, pb_i1 (List.mem_of_getElem? (i := 101) (by decide +kernel)) rfl⟩
theorem flX9_9_X5 : pb_fl RX9 9 5 0 RX5 TX5 16 tyX5 := ⟨pb_cl5, by decide, pb_i1 (List.mem_of_getElem? (i := 101) (by decide +kernel)) rfl⟩
theorem flX9_15_X1 : pb_fl RX9 15 1 1 RX1 TX1 16 tyX1 := ⟨pb_cl1, by decide, pb_i1 (List.mem_of_getElem? (i := 102) (by decide +kernel)) rfl⟩
theorem flX9_15_X5 : pb_fl RX9 15 5 1 RX5 TX5 16 tyX5 := ⟨pb_cl5, by decide, pb_i1 (List.mem_of_getElem? (i := 102) (by decide +kernel)) rfl⟩
theorem flX9_20_X1 : pb_fl RX9 20 1 2 RX1 TX1 16 tyX1 := ⟨pb_cl1, by decide, pb_i1 (List.mem_of_getElem? (i := 103) (by decide +kernel)) rfl⟩
theorem flX9_20_X5 : pb_fl RX9 20 5 2 RX5 TX5 16 tyX5 := ⟨pb_cl5, by decide, pb_i1 (List.mem_of_getElem? (i := 103) (by decide +kernel)) rfl⟩
theorem flX9_23_X1 : pb_fl RX9 23 1 3 RX1 TX1 16 tyX1 := ⟨pb_cl1, by decide, pb_i1 (List.mem_of_getElem? (i := 104) (by decide +kernel)) rfl⟩
theorem flX9_23_X5 : pb_fl RX9 23 5 3 RX5 TX5 16 tyX5 := ⟨pb_cl5, by decide, pb_i1 (List.mem_of_getElem? (i := 104) (by decide +kernel)) rfl⟩
theorem flX9_26_X1 : pb_fl RX9 26 1 4 RX1 TX1 16 tyX1 := ⟨pb_cl1, by decide, pb_i1 (List.mem_of_getElem? (i := 105) (by decide +kernel)) rfl⟩
theorem flX9_26_X5 : pb_fl RX9 26 5 4 RX5 TX5 16 tyX5 := ⟨pb_cl5, by decide, pb_i1 (List.mem_of_getElem? (i := 105) (by decide +kernel)) rfl⟩
theorem flX9_30_X1 : pb_fl RX9 30 1 5 RX1 TX1 16 tyX1 := ⟨pb_cl1, by decide, pb_i1 (List.mem_of_getElem? (i := 106) (by decide +kernel)) rfl⟩
theorem flX9_30_X5 : pb_fl RX9 30 5 5 RX5 TX5 16 tyX5 := ⟨pb_cl5, by decide, pb_i1 (List.mem_of_getElem? (i := 106) (by decide +kernel)) rfl⟩
theorem flX9_33_X1 : pb_fl RX9 33 1 6 RX1 TX1 16 tyX1 := ⟨pb_cl1, by decide, pb_i1 (List.mem_of_getElem? (i := 107) (by decide +kernel)) rfl⟩
theorem flX9_33_X5 : pb_fl RX9 33 5 6 RX5 TX5 16 tyX5 := ⟨pb_cl5, by decide, pb_i1 (List.mem_of_getElem? (i := 107) (by decide +kernel)) rfl⟩
theorem flX9_36_X1 : pb_fl RX9 36 1 7 RX1 TX1 16 tyX1 := ⟨pb_cl1, by decide, pb_i1 (List.mem_of_getElem? (i := 108) (by decide +kernel)) rfl⟩
theorem flX9_36_X5 : pb_fl RX9 36 5 7 RX5 TX5 16 tyX5 := ⟨pb_cl5, by decide, pb_i1 (List.mem_of_getElem? (i := 108) (by decide +kernel)) rfl⟩
theorem flX9_39_X1 : pb_fl RX9 39 1 8 RX1 TX1 16 tyX1 := ⟨pb_cl1, by decide, pb_i1 (List.mem_of_getElem? (i := 109) (by decide +kernel)) rfl⟩
theorem flX9_39_X5 : pb_fl RX9 39 5 8 RX5 TX5 16 tyX5 := ⟨pb_cl5, by decide, pb_i1 (List.mem_of_getElem? (i := 109) (by decide +kernel)) rfl⟩
theorem flX9_42_X1 : pb_fl RX9 42 1 9 RX1 TX1 16 tyX1 := ⟨pb_cl1, by decide, pb_i1 (List.mem_of_getElem? (i := 110) (by decide +kernel)) rfl⟩
theorem flX9_42_X5 : pb_fl RX9 42 5 9 RX5 TX5 16 tyX5 := ⟨pb_cl5, by decide, pb_i1 (List.mem_of_getElem? (i := 110) (by decide +kernel)) rfl⟩
theorem flX9_45_X1 : pb_fl RX9 45 1 10 RX1 TX1 16 tyX1 := ⟨pb_cl1, by decide, pb_i1 (List.mem_of_getElem? (i := 111) (by decide +kernel)) rfl⟩
theorem flX9_45_X5 : pb_fl RX9 45 5 10 RX5 TX5 16 tyX5 := ⟨pb_cl5, by decide, pb_i1 (List.mem_of_getElem? (i := 111) (by decide +kernel)) rfl⟩
theorem flX1_9_X1 : pb_fl RX1 9 1 11 RX1 TX1 16 tyX1 := ⟨pb_cl1, by decide, pb_i1 (List.mem_of_getElem? (i := 152) (by decide +kernel)) rfl⟩
theorem flX1_17_X1 : pb_fl RX1 17 1 12 RX1 TX1 16 tyX1 := ⟨pb_cl1, by decide, pb_i1 (List.mem_of_getElem? (i := 153) (by decide +kernel)) rfl⟩
theorem flX1_20_X1 : pb_fl RX1 20 1 13 RX1 TX1 16 tyX1 := ⟨pb_cl1, by decide, pb_i1 (List.mem_of_getElem? (i := 154) (by decide +kernel)) rfl⟩
theorem flX1_24_X1 : pb_fl RX1 24 1 14 RX1 TX1 16 tyX1 := ⟨pb_cl1, by decide, pb_i1 (List.mem_of_getElem? (i := 155) (by decide +kernel)) rfl⟩
theorem flX1_27_X1 : pb_fl RX1 27 1 15 RX1 TX1 16 tyX1 := ⟨pb_cl1, by decide, pb_i1 (List.mem_of_getElem? (i := 156) (by decide +kernel)) rfl⟩
theorem flX2_9_X2 : pb_fl RX2 9 2 0 RX2 TX2 8 tyX2 := ⟨pb_cl2, by decide, pb_i1 (List.mem_of_getElem? (i := 186) (by decide +kernel)) rfl⟩
theorem flX11_264_X2 : pb_fl RX11 264 2 0 RX2 TX2 8 tyX2 := ⟨pb_cl2, by decide, pb_i1 (List.mem_of_getElem? (i := 187) (by decide +kernel)) rfl⟩
theorem flX2_15_X2 : pb_fl RX2 15 2 1 RX2 TX2 8 tyX2 := ⟨pb_cl2, by decide, pb_i1 (List.mem_of_getElem? (i := 188) (by decide +kernel)) rfl⟩
theorem flX2_18_X2 : pb_fl RX2 18 2 2 RX2 TX2 8 tyX2 := ⟨pb_cl2, by decide, pb_i1 (List.mem_of_getElem? (i := 189) (by decide +kernel)) rfl⟩
theorem flX2_22_X2 : pb_fl RX2 22 2 3 RX2 TX2 8 tyX2 := ⟨pb_cl2, by decide, pb_i1 (List.mem_of_getElem? (i := 190) (by decide +kernel)) rfl⟩
theorem flX2_27_X2 : pb_fl RX2 27 2 4 RX2 TX2 8 tyX2 := ⟨pb_cl2, by decide, pb_i1 (List.mem_of_getElem? (i := 191) (by decide +kernel)) rfl⟩
theorem flX2_30_X2 : pb_fl RX2 30 2 5 RX2 TX2 8 tyX2 := ⟨pb_cl2, by decide, pb_i1 (List.mem_of_getElem? (i := 192) (by decide +kernel)) rfl⟩
theorem flX2_33_X2 : pb_fl RX2 33 2 6 RX2 TX2 8 tyX2 := ⟨pb_cl2, by decide, pb_i1 (List.mem_of_getElem? (i := 193) (by decide +kernel)) rfl⟩
theorem flX2_36_X2 : pb_fl RX2 36 2 7 RX2 TX2 8 tyX2 := ⟨pb_cl2, by decide, pb_i1 (List.mem_of_getElem? (i := 194) (by decide +kernel)) rfl⟩
theorem flX6_9_X6 : pb_fl RX6 9 6 0 RX6 TX6 2 tyX6 := ⟨pb_cl6, by decide, pb_i1 (List.mem_of_getElem? (i := 217) (by decide +kernel)) rfl⟩
theorem flX6_15_X6 : pb_fl RX6 15 6 1 RX6 TX6 2 tyX6 := ⟨pb_cl6, by decide, pb_i1 (List.mem_of_getElem? (i := 218) (by decide +kernel)) rfl⟩
theorem flX11_151_X6 : pb_fl RX11 151 6 1 RX6 TX6 2 tyX6 := ⟨pb_cl6, by decide, pb_i1 (List.mem_of_getElem? (i := 219) (by decide +kernel)) rfl⟩
theorem flX0_11_X0 : pb_fl RX0 11 0 0 RX0 TX0 3 tyX0 := ⟨pb_cl0, by decide, pb_i1 (List.mem_of_getElem? (i := 232) (by decide +kernel)) rfl⟩
theorem flX0_17_X0 : pb_fl RX0 17 0 1 RX0 TX0 3 tyX0 := ⟨pb_cl0, by decide, pb_i1 (List.mem_of_getElem? (i := 233) (by decide +kernel)) rfl⟩
theorem flX11_217_X0 : pb_fl RX11 217 0 1 RX0 TX0 3 tyX0 := ⟨pb_cl0, by decide, pb_i1 (List.mem_of_getElem? (i := 234) (by decide +kernel)) rfl⟩
theorem flX0_21_X0 : pb_fl RX0 21 0 2 RX0 TX0 3 tyX0 := ⟨pb_cl0, by decide, pb_i1 (List.mem_of_getElem? (i := 235) (by decide +kernel)) rfl⟩
theorem flX11_220_X0 : pb_fl RX11 220 0 2 RX0 TX0 3 tyX0 := ⟨pb_cl0, by decide, pb_i1 (List.mem_of_getElem? (i := 236) (by decide +kernel)) rfl⟩
theorem flX11_12_X11 : pb_fl RX11 12 9 0 RX11 TX11 12 tyX11 := ⟨pb_cl9, by decide, pb_i2 (List.mem_of_getElem? (i := 4) (by decide +kernel)) rfl⟩
theorem flX11_19_X11 : pb_fl RX11 19 9 1 RX11 TX11 12 tyX11 := ⟨pb_cl9, by decide, pb_i2 (List.mem_of_getElem? (i := 5) (by decide +kernel)) rfl⟩
theorem flX11_25_X11 : pb_fl RX11 25 9 2 RX11 TX11 12 tyX11 := ⟨pb_cl9, by decide, pb_i2 (List.mem_of_getElem? (i := 6) (by decide +kernel)) rfl⟩
theorem flX11_31_X11 : pb_fl RX11 31 9 3 RX11 TX11 12 tyX11 := ⟨pb_cl9, by decide, pb_i2 (List.mem_of_getElem? (i := 7) (by decide +kernel)) rfl⟩
theorem flX11_35_X11 : pb_fl RX11 35 9 4 RX11 TX11 12 tyX11 := ⟨pb_cl9, by decide, pb_i2 (List.mem_of_getElem? (i := 8) (by decide +kernel)) rfl⟩
theorem flX11_41_X11 : pb_fl RX11 41 9 5 RX11 TX11 12 tyX11 := ⟨pb_cl9, by decide, pb_i2 (List.mem_of_getElem? (i := 9) (by decide +kernel)) rfl⟩
theorem flX11_44_X11 : pb_fl RX11 44 9 6 RX11 TX11 12 tyX11 := ⟨pb_cl9, by decide, pb_i2 (List.mem_of_getElem? (i := 10) (by decide +kernel)) rfl⟩
theorem flX11_50_X11 : pb_fl RX11 50 9 7 RX11 TX11 12 tyX11 := ⟨pb_cl9, by decide, pb_i2 (List.mem_of_getElem? (i := 11) (by decide +kernel)) rfl⟩
theorem flX11_57_X11 : pb_fl RX11 57 9 8 RX11 TX11 12 tyX11 := ⟨pb_cl9, by decide, pb_i2 (List.mem_of_getElem? (i := 12) (by decide +kernel)) rfl⟩
theorem flX11_64_X11 : pb_fl RX11 64 9 9 RX11 TX11 12 tyX11 := ⟨pb_cl9, by decide, pb_i2 (List.mem_of_getElem? (i := 13) (by decide +kernel)) rfl⟩
theorem flX11_68_X11 : pb_fl RX11 68 9 10 RX11 TX11 12 tyX11 := ⟨pb_cl9, by decide, pb_i2 (List.mem_of_getElem? (i := 14) (by decide +kernel)) rfl⟩
theorem flX11_72_X11 : pb_fl RX11 72 9 11 RX11 TX11 12 tyX11 := ⟨pb_cl9, by decide, pb_i2 (List.mem_of_getElem? (i := 15) (by decide +kernel)) rfl⟩
theorem flX10_25_X10 : pb_fl RX10 25 8 0 RX10 TX10 7 tyX10 := ⟨pb_cl8, by decide, pb_i2 (List.mem_of_getElem? (i := 62) (by decide +kernel)) rfl⟩
theorem flX9_62_X10 : pb_fl RX9 62 8 0 RX10 TX10 7 tyX10 := ⟨pb_cl8, by decide, pb_i2 (List.mem_of_getElem? (i := 63) (by decide +kernel)) rfl⟩
theorem flX11_105_X10 : pb_fl RX11 105 8 0 RX10 TX10 7 tyX10 := ⟨pb_cl8, by decide, pb_i2 (List.mem_of_getElem? (i := 64) (by decide +kernel)) rfl⟩
theorem flX10_28_X10 : pb_fl RX10 28 8 1 RX10 TX10 7 tyX10 := ⟨pb_cl8, by decide, pb_i2 (List.mem_of_getElem? (i := 65) (by decide +kernel)) rfl⟩
theorem flX11_108_X10 : pb_fl RX11 108 8 1 RX10 TX10 7 tyX10 := ⟨pb_cl8, by decide, pb_i2 (List.mem_of_getElem? (i := 66) (by decide +kernel)) rfl⟩
theorem flX10_31_X10 : pb_fl RX10 31 8 2 RX10 TX10 7 tyX10 := ⟨pb_cl8, by decide, pb_i2 (List.mem_of_getElem? (i := 67) (by decide +kernel)) rfl⟩
theorem flX11_111_X10 : pb_fl RX11 111 8 2 RX10 TX10 7 tyX10 := ⟨pb_cl8, by decide, pb_i2 (List.mem_of_getElem? (i := 68) (by decide +kernel)) rfl⟩
theorem flX8_41_X10 : pb_fl RX8 41 8 2 RX10 TX10 7 tyX10 := ⟨pb_cl8, by decide, pb_i2 (List.mem_of_getElem? (i := 69) (by decide +kernel)) rfl⟩
theorem flX10_9_X10 : pb_fl RX10 9 8 3 RX10 TX10 7 tyX10 := ⟨pb_cl8, by decide, pb_i2 (List.mem_of_getElem? (i := 70) (by decide +kernel)) rfl⟩
theorem flX11_118_X10 : pb_fl RX11 118 8 3 RX10 TX10 7 tyX10 := ⟨pb_cl8, by decide, pb_i2 (List.mem_of_getElem? (i := 71) (by decide +kernel)) rfl⟩
theorem flX8_38_X10 : pb_fl RX8 38 8 3 RX10 TX10 7 tyX10 := ⟨pb_cl8, by decide, pb_i2 (List.mem_of_getElem? (i := 72) (by decide +kernel)) rfl⟩
theorem flX10_15_X10 : pb_fl RX10 15 8 4 RX10 TX10 7 tyX10 := ⟨pb_cl8, by decide, pb_i2 (List.mem_of_getElem? (i := 73) (by decide +kernel)) rfl⟩
theorem flX11_121_X10 : pb_fl RX11 121 8 4 RX10 TX10 7 tyX10 := ⟨pb_cl8, by decide, pb_i2 (List.mem_of_getElem? (i := 74) (by decide +kernel)) rfl⟩
theorem flX8_29_X10 : pb_fl RX8 29 8 4 RX10 TX10 7 tyX10 := ⟨pb_cl8, by decide, pb_i2 (List.mem_of_getElem? (i := 75) (by decide +kernel)) rfl⟩
theorem flX10_18_X10 : pb_fl RX10 18 8 5 RX10 TX10 7 tyX10 := ⟨pb_cl8, by decide, pb_i2 (List.mem_of_getElem? (i := 76) (by decide +kernel)) rfl⟩
theorem flX10_22_X10 : pb_fl RX10 22 8 6 RX10 TX10 7 tyX10 := ⟨pb_cl8, by decide, pb_i2 (List.mem_of_getElem? (i := 77) (by decide +kernel)) rfl⟩
theorem flX3_12_X3 : pb_fl RX3 12 3 0 RX3 TX3 7 tyX3 := ⟨pb_cl3, by decide, pb_i3 (List.mem_of_getElem? (i := 49) (by decide +kernel)) rfl⟩
theorem flX3_35_X3 : pb_fl RX3 35 3 1 RX3 TX3 7 tyX3 := ⟨pb_cl3, by decide, pb_i3 (List.mem_of_getElem? (i := 50) (by decide +kernel)) rfl⟩
theorem flX3_39_X3 : pb_fl RX3 39 3 2 RX3 TX3 7 tyX3 := ⟨pb_cl3, by decide, pb_i3 (List.mem_of_getElem? (i := 51) (by decide +kernel)) rfl⟩
theorem flX3_18_X3 : pb_fl RX3 18 3 3 RX3 TX3 7 tyX3 := ⟨pb_cl3, by decide, pb_i3 (List.mem_of_getElem? (i := 52) (by decide +kernel)) rfl⟩
theorem flX3_22_X3 : pb_fl RX3 22 3 4 RX3 TX3 7 tyX3 := ⟨pb_cl3, by decide, pb_i3 (List.mem_of_getElem? (i := 53) (by decide +kernel)) rfl⟩
theorem flX3_25_X3 : pb_fl RX3 25 3 5 RX3 TX3 7 tyX3 := ⟨pb_cl3, by decide, pb_i3 (List.mem_of_getElem? (i := 54) (by decide +kernel)) rfl⟩
theorem flX3_28_X3 : pb_fl RX3 28 3 6 RX3 TX3 7 tyX3 := ⟨pb_cl3, by decide, pb_i3 (List.mem_of_getElem? (i := 55) (by decide +kernel)) rfl⟩
theorem flX12_120_X12 : pb_fl RX12 120 10 1 RX12 TX12 32 tyX12 := ⟨pb_cl10, by decide, pb_i4 (List.mem_of_getElem? (i := 86) (by decide +kernel)) rfl⟩
theorem flX12_92_X12 : pb_fl RX12 92 10 2 RX12 TX12 32 tyX12 := ⟨pb_cl10, by decide, pb_i4 (List.mem_of_getElem? (i := 87) (by decide +kernel)) rfl⟩
theorem flX12_13_X12 : pb_fl RX12 13 10 3 RX12 TX12 32 tyX12 := ⟨pb_cl10, by decide, pb_i4 (List.mem_of_getElem? (i := 88) (by decide +kernel)) rfl⟩
theorem flX12_17_X12 : pb_fl RX12 17 10 4 RX12 TX12 32 tyX12 := ⟨pb_cl10, by decide, pb_i4 (List.mem_of_getElem? (i := 89) (by decide +kernel)) rfl⟩
theorem flX12_20_X12 : pb_fl RX12 20 10 5 RX12 TX12 32 tyX12 := ⟨pb_cl10, by decide, pb_i4 (List.mem_of_getElem? (i := 90) (by decide +kernel)) rfl⟩
theorem flX12_23_X12 : pb_fl RX12 23 10 6 RX12 TX12 32 tyX12 := ⟨pb_cl10, by decide, pb_i4 (List.mem_of_getElem? (i := 91) (by decide +kernel)) rfl⟩
theorem flX12_26_X12 : pb_fl RX12 26 10 7 RX12 TX12 32 tyX12 := ⟨pb_cl10, by decide, pb_i4 (List.mem_of_getElem? (i := 92) (by decide +kernel)) rfl⟩
theorem flX12_29_X12 : pb_fl RX12 29 10 8 RX12 TX12 32 tyX12 := ⟨pb_cl10, by decide, pb_i4 (List.mem_of_getElem? (i := 93) (by decide +kernel)) rfl⟩
theorem flX12_32_X12 : pb_fl RX12 32 10 9 RX12 TX12 32 tyX12 := ⟨pb_cl10, by decide, pb_i4 (List.mem_of_getElem? (i := 94) (by decide +kernel)) rfl⟩
theorem flX12_35_X12 : pb_fl RX12 35 10 10 RX12 TX12 32 tyX12 := ⟨pb_cl10, by decide, pb_i4 (List.mem_of_getElem? (i := 95) (by decide +kernel)) rfl⟩
theorem flX12_38_X12 : pb_fl RX12 38 10 11 RX12 TX12 32 tyX12 := ⟨pb_cl10, by decide, pb_i4 (List.mem_of_getElem? (i := 96) (by decide +kernel)) rfl⟩
theorem flX12_41_X12 : pb_fl RX12 41 10 12 RX12 TX12 32 tyX12 := ⟨pb_cl10, by decide, pb_i4 (List.mem_of_getElem? (i := 97) (by decide +kernel)) rfl⟩
theorem flX12_44_X12 : pb_fl RX12 44 10 13 RX12 TX12 32 tyX12 := ⟨pb_cl10, by decide, pb_i4 (List.mem_of_getElem? (i := 98) (by decide +kernel)) rfl⟩
theorem flX12_47_X12 : pb_fl RX12 47 10 14 RX12 TX12 32 tyX12 := ⟨pb_cl10, by decide, pb_i4 (List.mem_of_getElem? (i := 99) (by decide +kernel)) rfl⟩
theorem flX12_50_X12 : pb_fl RX12 50 10 15 RX12 TX12 32 tyX12 := ⟨pb_cl10, by decide, pb_i4 (List.mem_of_getElem? (i := 100) (by decide +kernel)) rfl⟩
theorem flX12_53_X12 : pb_fl RX12 53 10 16 RX12 TX12 32 tyX12 := ⟨pb_cl10, by decide, pb_i4 (List.mem_of_getElem? (i := 101) (by decide +kernel)) rfl⟩
theorem flX12_56_X12 : pb_fl RX12 56 10 17 RX12 TX12 32 tyX12 := ⟨pb_cl10, by decide, pb_i4 (List.mem_of_getElem? (i := 102) (by decide +kernel)) rfl⟩
theorem flX12_59_X12 : pb_fl RX12 59 10 18 RX12 TX12 32 tyX12 := ⟨pb_cl10, by decide, pb_i4 (List.mem_of_getElem? (i := 103) (by decide +kernel)) rfl⟩
theorem flX12_62_X12 : pb_fl RX12 62 10 19 RX12 TX12 32 tyX12 := ⟨pb_cl10, by decide, pb_i4 (List.mem_of_getElem? (i := 104) (by decide +kernel)) rfl⟩
theorem flX12_65_X12 : pb_fl RX12 65 10 20 RX12 TX12 32 tyX12 := ⟨pb_cl10, by decide, pb_i4 (List.mem_of_getElem? (i := 105) (by decide +kernel)) rfl⟩
theorem flX12_68_X12 : pb_fl RX12 68 10 21 RX12 TX12 32 tyX12 := ⟨pb_cl10, by decide, pb_i4 (List.mem_of_getElem? (i := 106) (by decide +kernel)) rfl⟩
theorem flX12_71_X12 : pb_fl RX12 71 10 22 RX12 TX12 32 tyX12 := ⟨pb_cl10, by decide, pb_i4 (List.mem_of_getElem? (i := 107) (by decide +kernel)) rfl⟩
theorem flX12_209_X12 : pb_fl RX12 209 10 23 RX12 TX12 32 tyX12 := ⟨pb_cl10, by decide, pb_i4 (List.mem_of_getElem? (i := 108) (by decide +kernel)) rfl⟩
theorem flX12_74_X12 : pb_fl RX12 74 10 24 RX12 TX12 32 tyX12 := ⟨pb_cl10, by decide, pb_i4 (List.mem_of_getElem? (i := 109) (by decide +kernel)) rfl⟩
theorem flX12_203_X12 : pb_fl RX12 203 10 25 RX12 TX12 32 tyX12 := ⟨pb_cl10, by decide, pb_i4 (List.mem_of_getElem? (i := 110) (by decide +kernel)) rfl⟩
theorem flX12_77_X12 : pb_fl RX12 77 10 26 RX12 TX12 32 tyX12 := ⟨pb_cl10, by decide, pb_i4 (List.mem_of_getElem? (i := 111) (by decide +kernel)) rfl⟩
theorem flX12_80_X12 : pb_fl RX12 80 10 27 RX12 TX12 32 tyX12 := ⟨pb_cl10, by decide, pb_i4 (List.mem_of_getElem? (i := 112) (by decide +kernel)) rfl⟩
theorem flX12_83_X12 : pb_fl RX12 83 10 28 RX12 TX12 32 tyX12 := ⟨pb_cl10, by decide, pb_i4 (List.mem_of_getElem? (i := 113) (by decide +kernel)) rfl⟩
theorem flX12_223_X12 : pb_fl RX12 223 10 29 RX12 TX12 32 tyX12 := ⟨pb_cl10, by decide, pb_i4 (List.mem_of_getElem? (i := 114) (by decide +kernel)) rfl⟩
theorem flX12_86_X12 : pb_fl RX12 86 10 30 RX12 TX12 32 tyX12 := ⟨pb_cl10, by decide, pb_i4 (List.mem_of_getElem? (i := 115) (by decide +kernel)) rfl⟩
theorem flX12_89_X12 : pb_fl RX12 89 10 31 RX12 TX12 32 tyX12 := ⟨pb_cl10, by decide, pb_i4 (List.mem_of_getElem? (i := 116) (by decide +kernel)) rfl⟩
theorem klL_7 : Cond.classLink RL 7 RX11 ∈ pb_tbl := pb_i1 (List.mem_of_getElem? (i := 18) (by decide +kernel)) rfl
theorem klX11_9 : Cond.classLink RX11 9 RX8 ∈ pb_tbl := pb_i1 (List.mem_of_getElem? (i := 26) (by decide +kernel)) rfl
theorem klX8_9 : Cond.classLink RX8 9 RX10 ∈ pb_tbl := pb_i1 (List.mem_of_getElem? (i := 32) (by decide +kernel)) rfl
theorem klX11_16 : Cond.classLink RX11 16 RX4 ∈ pb_tbl := pb_i1 (List.mem_of_getElem? (i := 45) (by decide +kernel)) rfl
theorem klX4_9 : Cond.classLink RX4 9 "[[I" ∈ pb_tbl := pb_i1 (List.mem_of_getElem? (i := 51) (by decide +kernel)) rfl
theorem klX11_23 : Cond.classLink RX11 23 RX6 ∈ pb_tbl := pb_i1 (List.mem_of_getElem? (i := 79) (by decide +kernel)) rfl
theorem klX11_29 : Cond.classLink RX11 29 RX0 ∈ pb_tbl := pb_i1 (List.mem_of_getElem? (i := 81) (by decide +kernel)) rfl
theorem klX11_39 : Cond.classLink RX11 39 "[[I" ∈ pb_tbl := pb_i1 (List.mem_of_getElem? (i := 83) (by decide +kernel)) rfl
theorem klX11_47 : Cond.classLink RX11 47 RX5 ∈ pb_tbl := pb_i1 (List.mem_of_getElem? (i := 84) (by decide +kernel)) rfl
theorem klX9_18 : Cond.classLink RX9 18 "[[I" ∈ pb_tbl := pb_i1 (List.mem_of_getElem? (i := 93) (by decide +kernel)) rfl
theorem klX11_54 : Cond.classLink RX11 54 RX1 ∈ pb_tbl := pb_i1 (List.mem_of_getElem? (i := 145) (by decide +kernel)) rfl
theorem klX1_15 : Cond.classLink RX1 15 "[[I" ∈ pb_tbl := pb_i1 (List.mem_of_getElem? (i := 151) (by decide +kernel)) rfl
theorem klX11_61 : Cond.classLink RX11 61 RX2 ∈ pb_tbl := pb_i1 (List.mem_of_getElem? (i := 179) (by decide +kernel)) rfl
theorem klX2_25 : Cond.classLink RX2 25 "[[I" ∈ pb_tbl := pb_i1 (List.mem_of_getElem? (i := 185) (by decide +kernel)) rfl
theorem klX0_9 : Cond.classLink RX0 9 RX3 ∈ pb_tbl := pb_i1 (List.mem_of_getElem? (i := 230) (by decide +kernel)) rfl
theorem klX11_85 : Cond.classLink RX11 85 RX10 ∈ pb_tbl := pb_i2 (List.mem_of_getElem? (i := 52) (by decide +kernel)) rfl
theorem klX11_224 : Cond.classLink RX11 224 RX3 ∈ pb_tbl := pb_i3 (List.mem_of_getElem? (i := 39) (by decide +kernel)) rfl
theorem klX3_9 : Cond.classLink RX3 9 RX6 ∈ pb_tbl := pb_i3 (List.mem_of_getElem? (i := 45) (by decide +kernel)) rfl
theorem klL_10 : Cond.classLink RL 10 RX12 ∈ pb_tbl := pb_i4 (List.mem_of_getElem? (i := 80) (by decide +kernel)) rfl
theorem iaX0 : Cond.instantiable RX0 3 ∈ pb_tbl := pb_i1 (List.mem_of_getElem? (i := 225) (by decide +kernel)) rfl
theorem iiX0 : Cond.initialized RX0 ∈ pb_tbl := pb_i1 (List.mem_of_getElem? (i := 10) (by decide +kernel)) rfl
theorem iaX1 : Cond.instantiable RX1 16 ∈ pb_tbl := pb_i1 (List.mem_of_getElem? (i := 146) (by decide +kernel)) rfl
theorem iiX1 : Cond.initialized RX1 ∈ pb_tbl := pb_i1 (List.mem_of_getElem? (i := 7) (by decide +kernel)) rfl
theorem iaX2 : Cond.instantiable RX2 8 ∈ pb_tbl := pb_i1 (List.mem_of_getElem? (i := 180) (by decide +kernel)) rfl
theorem iiX2 : Cond.initialized RX2 ∈ pb_tbl := pb_i1 (List.mem_of_getElem? (i := 8) (by decide +kernel)) rfl
theorem iaX3 : Cond.instantiable RX3 7 ∈ pb_tbl := pb_i3 (List.mem_of_getElem? (i := 40) (by decide +kernel)) rfl
theorem iiX3 : Cond.initialized RX3 ∈ pb_tbl := pb_i1 (List.mem_of_getElem? (i := 15) (by decide +kernel)) rfl
theorem iaX4 : Cond.instantiable RX4 5 ∈ pb_tbl := pb_i1 (List.mem_of_getElem? (i := 46) (by decide +kernel)) rfl
theorem iiX4 : Cond.initialized RX4 ∈ pb_tbl := pb_i1 (List.mem_of_getElem? (i := 3) (by decide +kernel)) rfl
theorem iaX5 : Cond.instantiable RX5 16 ∈ pb_tbl := pb_i1 (List.mem_of_getElem? (i := 85) (by decide +kernel)) rfl
theorem iiX5 : Cond.initialized RX5 ∈ pb_tbl := pb_i1 (List.mem_of_getElem? (i := 6) (by decide +kernel)) rfl
theorem iaX6 : Cond.instantiable RX6 2 ∈ pb_tbl := pb_i1 (List.mem_of_getElem? (i := 212) (by decide +kernel)) rfl
theorem iiX6 : Cond.initialized RX6 ∈ pb_tbl := pb_i1 (List.mem_of_getElem? (i := 9) (by decide +kernel)) rfl
theorem iaX8 : Cond.instantiable RX8 2 ∈ pb_tbl := pb_i1 (List.mem_of_getElem? (i := 27) (by decide +kernel)) rfl
theorem iiX8 : Cond.initialized RX8 ∈ pb_tbl := pb_i1 (List.mem_of_getElem? (i := 2) (by decide +kernel)) rfl
theorem iaX10 : Cond.instantiable RX10 7 ∈ pb_tbl := pb_i2 (List.mem_of_getElem? (i := 53) (by decide +kernel)) rfl
theorem iiX10 : Cond.initialized RX10 ∈ pb_tbl := pb_i1 (List.mem_of_getElem? (i := 12) (by decide +kernel)) rfl
theorem iaX11 : Cond.instantiable RX11 12 ∈ pb_tbl := pb_i1 (List.mem_of_getElem? (i := 19) (by decide +kernel)) rfl
theorem iiX11 : Cond.initialized RX11 ∈ pb_tbl := pb_i1 (List.mem_of_getElem? (i := 1) (by decide +kernel)) rfl
theorem iaX12 : Cond.instantiable RX12 32 ∈ pb_tbl := pb_i4 (List.mem_of_getElem? (i := 81) (by decide +kernel)) rfl
theorem iiX12 : Cond.initialized RX12 ∈ pb_tbl := pb_i1 (List.mem_of_getElem? (i := 11) (by decide +kernel)) rfl
theorem kcX7_9 : Cond.constantLong RX7 9 (lN 10000) ∈ pb_tbl := pb_i2 (List.mem_of_getElem? (i := 216) (by decide +kernel)) rfl
theorem kcX7_11 : Cond.constantLong RX7 11 (lN 20000) ∈ pb_tbl := pb_i2 (List.mem_of_getElem? (i := 217) (by decide +kernel)) rfl
theorem kcX7_15 : Cond.constantLong RX7 15 (lN 2) ∈ pb_tbl := pb_i2 (List.mem_of_getElem? (i := 218) (by decide +kernel)) rfl
theorem kcX7_17 : Cond.constantLong RX7 17 (lN 100000000) ∈ pb_tbl := pb_i3 (List.mem_of_getElem? (i := 12) (by decide +kernel)) rfl
theorem kcJ6_265 : Cond.constant RJ6 265 (nI 1431655765) ∈ pb_tbl := pb_i4 (List.mem_of_getElem? (i := 53) (by decide +kernel)) rfl
theorem kcJ6_266 : Cond.constant RJ6 266 (nI 858993459) ∈ pb_tbl := pb_i4 (List.mem_of_getElem? (i := 54) (by decide +kernel)) rfl
theorem kcJ6_267 : Cond.constant RJ6 267 (nI 252645135) ∈ pb_tbl := pb_i4 (List.mem_of_getElem? (i := 55) (by decide +kernel)) rfl
theorem kcX12_127 : Cond.constantLong RX12 127 (lN 10000) ∈ pb_tbl := pb_i5 (List.mem_of_getElem? (i := 32) (by decide +kernel)) rfl
theorem kcX12_129 : Cond.constantLong RX12 129 (lN 20000) ∈ pb_tbl := pb_i5 (List.mem_of_getElem? (i := 33) (by decide +kernel)) rfl
theorem kcX12_123 : Cond.constantLong RX12 123 (lN 3000000000) ∈ pb_tbl := pb_i5 (List.mem_of_getElem? (i := 37) (by decide +kernel)) rfl
theorem kcX12_125 : Cond.constantLong RX12 125 (lN 2) ∈ pb_tbl := pb_i5 (List.mem_of_getElem? (i := 38) (by decide +kernel)) rfl
theorem kcX12_135 : Cond.constantLong RX12 135 (lN 2000) ∈ pb_tbl := pb_i5 (List.mem_of_getElem? (i := 57) (by decide +kernel)) rfl
theorem kcX12_137 : Cond.constantLong RX12 137 (lN 8) ∈ pb_tbl := pb_i5 (List.mem_of_getElem? (i := 58) (by decide +kernel)) rfl
theorem kcX12_139 : Cond.constantLong RX12 139 (lN 100000000) ∈ pb_tbl := pb_i5 (List.mem_of_getElem? (i := 59) (by decide +kernel)) rfl
theorem olX11 : Cond.methodLink RX11 3 objectInit ∈ pb_tbl := pb_i1 (List.mem_of_getElem? (i := 23) (by decide +kernel)) rfl
theorem olX8 : Cond.methodLink RX8 3 objectInit ∈ pb_tbl := pb_i1 (List.mem_of_getElem? (i := 31) (by decide +kernel)) rfl
theorem olX4 : Cond.methodLink RX4 3 objectInit ∈ pb_tbl := pb_i1 (List.mem_of_getElem? (i := 50) (by decide +kernel)) rfl
theorem olX9 : Cond.methodLink RX9 3 objectInit ∈ pb_tbl := pb_i1 (List.mem_of_getElem? (i := 92) (by decide +kernel)) rfl
theorem olX2 : Cond.methodLink RX2 3 objectInit ∈ pb_tbl := pb_i1 (List.mem_of_getElem? (i := 184) (by decide +kernel)) rfl
theorem olX6 : Cond.methodLink RX6 3 objectInit ∈ pb_tbl := pb_i1 (List.mem_of_getElem? (i := 216) (by decide +kernel)) rfl
theorem olX0 : Cond.methodLink RX0 3 objectInit ∈ pb_tbl := pb_i1 (List.mem_of_getElem? (i := 229) (by decide +kernel)) rfl
theorem olX10 : Cond.methodLink RX10 3 objectInit ∈ pb_tbl := pb_i2 (List.mem_of_getElem? (i := 57) (by decide +kernel)) rfl
theorem olX3 : Cond.methodLink RX3 3 objectInit ∈ pb_tbl := pb_i3 (List.mem_of_getElem? (i := 44) (by decide +kernel)) rfl
theorem alX5_29 : Cond.methodLink RX5 29 arraycopyName ∈ pb_tbl := pb_i3 (List.mem_of_getElem? (i := 137) (by decide +kernel)) rfl
theorem alX2_39 : Cond.methodLink RX2 39 arraycopyName ∈ pb_tbl := pb_i3 (List.mem_of_getElem? (i := 222) (by decide +kernel)) rfl
theorem alX1_30 : Cond.methodLink RX1 30 arraycopyName ∈ pb_tbl := pb_i4 (List.mem_of_getElem? (i := 33) (by decide +kernel)) rfl
theorem olX12 : Cond.methodLink RX12 7 objectInit ∈ pb_tbl := pb_i4 (List.mem_of_getElem? (i := 85) (by decide +kernel)) rfl
end
section
theorem nI_mul (a b : Nat) : nI a * nI b = nI (a * b) := (Int32.ofNat_mul a b).symm
theorem nI_sub {a b : Nat} (h : b ≤ a) : nI a - nI b = nI (a - b) := by
  have e : nI a = nI (a - b) + nI b := by rw [nI_add, Nat.sub_add_cancel h]
  rw [e, Int32.add_sub_cancel]
theorem nI_inj {a b : Nat} (ha : a < 2 ^ 31) (hb : b < 2 ^ 31) (h : nI a = nI b) : a = b := by
  have := congrArg Int32.toInt h
  rw [nI_toInt ha, nI_toInt hb] at this
  omega
theorem nI_div {a b : Nat} (ha : a < 2 ^ 31) (hb : b < 2 ^ 31) : nI a / nI b = nI (a / b) := by
  apply Int32.toInt_inj.mp
  have hq : a / b < 2 ^ 31 := Nat.lt_of_le_of_lt (Nat.div_le_self a b) ha
  rw [nI_toInt hq, Int32.toInt_div, nI_toInt ha, nI_toInt hb]
  rw [← Int.ofNat_tdiv]
  generalize a / b = q at hq ⊢
  rw [Int.bmod_eq_of_le] <;> omega
theorem lN_tI {n : Nat} (h : n < 2 ^ 63) : (lN n).toInt = (n : Int) := lg_ofNat_toInt h
theorem lN_div {a b : Nat} (ha : a < 2 ^ 63) (hb : b < 2 ^ 63) : lN a / lN b = lN (a / b) := by
  apply Int64.toInt_inj.mp
  have hq : a / b < 2 ^ 63 := Nat.lt_of_le_of_lt (Nat.div_le_self a b) ha
  rw [lN_tI hq, Int64.toInt_div, lN_tI ha, lN_tI hb]
  rw [← Int.ofNat_tdiv]
  generalize a / b = q at hq ⊢
  rw [Int.bmod_eq_of_le] <;> omega
theorem lN_ltI {a b : Nat} (ha : a < 2 ^ 63) (hb : b < 2 ^ 63) : lN a < lN b ↔ a < b := by
  rw [Int64.lt_iff_toInt_lt, lN_tI ha, lN_tI hb]; omega
theorem lN_inj {a b : Nat} (ha : a < 2 ^ 63) (hb : b < 2 ^ 63) (h : lN a = lN b) : a = b := by
  have := congrArg Int64.toInt h
  rw [lN_tI ha, lN_tI hb] at this
  omega
theorem lN_ne0 {b : Nat} (h0 : 0 < b) (hb : b < 2 ^ 63) : ¬ lN b = 0 := fun h => by
  have := lN_inj (a := b) (b := 0) hb (by decide) h
  omega
theorem nI_i2l {a : Nat} (ha : a < 2 ^ 31) : (nI a).toInt64 = lN a := by
  apply Int64.toInt_inj.mp
  rw [Int32.toInt_toInt64, nI_toInt ha, lN_tI (by omega)]
theorem lN_l2i (a : Nat) : (lN a).toInt32 = nI a := lN_i a
theorem nI_mod {a b : Nat} (h : nI a = nI b) : a % 2 ^ 32 = b % 2 ^ 32 := by
  have := congrArg (fun x : Int32 => x.toBitVec.toNat) h
  exact this
/-- how two longs lie -/
def pb_cmp (a b : Nat) : Int32 := if b < a then 1 else if a = b then 0 else -1
theorem pb_cmp_lg {a b : Nat} (ha : a < 2 ^ 63) (hb : b < 2 ^ 63) : lg_cmp (lN a) (lN b) = pb_cmp a b := by
  unfold lg_cmp pb_cmp
  by_cases h1 : b < a
  · rw [if_pos h1, if_pos ((lN_ltI hb ha).mpr h1)]
  · rw [if_neg h1, if_neg (fun q => h1 ((lN_ltI hb ha).mp q))]
    by_cases h2 : a = b
    · rw [if_pos h2, if_pos (by rw [h2])]
    · rw [if_neg h2, if_neg (fun q => h2 (lN_inj ha hb q))]
def pb_un (F : Nat → Nat) (i v : Nat) : Nat → Nat := fun j => if j = i then v else F j
theorem pb_un_nI (F : Nat → Nat) (i v : Nat) : pb_u (fun j => nI (F j)) i (nI v) = fun j => nI (pb_un F i v j) := by
  funext j
  unfold pb_u pb_un
  by_cases e : j = i
  · rw [if_pos e, if_pos e]
  · rw [if_neg e, if_neg e]
theorem pb_cmp_gt {a b : Nat} : 0 < pb_cmp a b ↔ b < a := by
  unfold pb_cmp
  split
  · rename_i h1; exact ⟨fun _ => h1, fun _ => by decide⟩
  · rename_i h1
    split
    · exact ⟨fun q => absurd q (by decide), fun q => absurd q h1⟩
    · exact ⟨fun q => absurd q (by decide), fun q => absurd q h1⟩
theorem pb_cmp_lt {a b : Nat} : pb_cmp a b < 0 ↔ a < b := by
  unfold pb_cmp
  split
  · rename_i h1; exact ⟨fun q => absurd q (by decide), fun q => by omega⟩
  · rename_i h1
    split
    · exact ⟨fun q => absurd q (by decide), fun q => by omega⟩
    · exact ⟨fun q => by omega, fun q => by decide⟩
theorem pb_cmp_eq {a b : Nat} : pb_cmp a b = 0 ↔ a = b := by
  unfold pb_cmp
  split
  · rename_i h1; exact ⟨fun q => absurd q (by decide), fun q => by omega⟩
  · rename_i h1
    split
    · rename_i h2; exact ⟨fun _ => h2, fun _ => rfl⟩
    · rename_i h2; exact ⟨fun q => absurd q (by decide), fun q => absurd q h2⟩
section PBN
variable {Z : pb_Z} {y : pb_M} {d k n : Nat} {post : Option Value → pb_H → Prop} {pc : Nat} {lv : List (Option Value)} {st : List Value} {h : pb_H}
theorem pb_top {v v2 : Value} (e : v = v2) (kk : pb_S Z y d k n post pc lv (v2 :: st) h) : pb_S Z y d k n post pc lv (v :: st) h := e ▸ kk
theorem pb_hp {h2 : pb_H} (e : h = h2) (kk : pb_S Z y d k n post pc lv st h2) : pb_S Z y d k n post pc lv st h := e ▸ kk
theorem pb_iaddN {a b : Nat} {pc2 : Nat} (hd : decode y.2.1 pc = .ok (.iadd, 1)) (hp : pc + 1 = pc2) (kk : pb_S Z y d k n post pc2 lv (.int (nI (a + b)) :: st) h) : pb_S Z y d k n post pc lv (.int (nI b) :: .int (nI a) :: st) h := by
  exact pb_iadd hd hp (by rw [nI_add]; exact kk)
theorem pb_imulN {a b : Nat} {pc2 : Nat} (hd : decode y.2.1 pc = .ok (.imul, 1)) (hp : pc + 1 = pc2) (kk : pb_S Z y d k n post pc2 lv (.int (nI (a * b)) :: st) h) : pb_S Z y d k n post pc lv (.int (nI b) :: .int (nI a) :: st) h := by
  exact pb_imul hd hp (by rw [nI_mul]; exact kk)
theorem pb_isubN {a b : Nat} {pc2 : Nat} (hd : decode y.2.1 pc = .ok (.isub, 1)) (hb : b ≤ a) (hp : pc + 1 = pc2) (kk : pb_S Z y d k n post pc2 lv (.int (nI (a - b)) :: st) h) : pb_S Z y d k n post pc lv (.int (nI b) :: .int (nI a) :: st) h := by
  exact pb_isub hd hp (by rw [nI_sub hb]; exact kk)
theorem pb_idivN {a b : Nat} {pc2 : Nat} (hd : decode y.2.1 pc = .ok (.idiv, 1)) (hb : 0 < b) (ha2 : a < 2 ^ 31) (hb2 : b < 2 ^ 31) (hp : pc + 1 = pc2) (kk : pb_S Z y d k n post pc2 lv (.int (nI (a / b)) :: st) h) : pb_S Z y d k n post pc lv (.int (nI b) :: .int (nI a) :: st) h := by
  exact pb_idiv hd (nI_ne0 hb hb2) hp (by rw [nI_div ha2 hb2]; exact kk)
theorem pb_iremN {a b : Nat} {pc2 : Nat} (hd : decode y.2.1 pc = .ok (.irem, 1)) (hb : 0 < b) (ha2 : a < 2 ^ 31) (hb2 : b < 2 ^ 31) (hp : pc + 1 = pc2) (kk : pb_S Z y d k n post pc2 lv (.int (nI (a % b)) :: st) h) : pb_S Z y d k n post pc lv (.int (nI b) :: .int (nI a) :: st) h := by
  exact pb_irem hd (nI_ne0 hb hb2) hp (by
    have e : a % b = a - a / b * b := by
      have := Nat.div_add_mod a b
      rw [Nat.mul_comm] at this
      omega
    rw [nI_div ha2 hb2, nI_mul, nI_sub (Nat.div_mul_le_self a b), ← e]; exact kk)
theorem pb_laddN {a b : Nat} {pc2 : Nat} (hd : decode y.2.1 pc = .ok (.ladd, 1)) (hp : pc + 1 = pc2) (kk : pb_S Z y d k n post pc2 lv (.long (lN (a + b)) :: st) h) : pb_S Z y d k n post pc lv (.long (lN b) :: .long (lN a) :: st) h := by
  exact pb_ladd hd hp (by rw [lN_add]; exact kk)
theorem pb_lmulN {a b : Nat} {pc2 : Nat} (hd : decode y.2.1 pc = .ok (.lmul, 1)) (hp : pc + 1 = pc2) (kk : pb_S Z y d k n post pc2 lv (.long (lN (a * b)) :: st) h) : pb_S Z y d k n post pc lv (.long (lN b) :: .long (lN a) :: st) h := by
  exact pb_lmul hd hp (by rw [lN_mul]; exact kk)
theorem pb_lsubN {a b : Nat} {pc2 : Nat} (hd : decode y.2.1 pc = .ok (.lsub, 1)) (hb : b ≤ a) (hp : pc + 1 = pc2) (kk : pb_S Z y d k n post pc2 lv (.long (lN (a - b)) :: st) h) : pb_S Z y d k n post pc lv (.long (lN b) :: .long (lN a) :: st) h := by
  exact pb_lsub hd hp (by rw [lN_sub hb]; exact kk)
theorem pb_ldivN {a b : Nat} {pc2 : Nat} (hd : decode y.2.1 pc = .ok (.ldiv, 1)) (hb : 0 < b) (ha2 : a < 2 ^ 63) (hb2 : b < 2 ^ 63) (hp : pc + 1 = pc2) (kk : pb_S Z y d k n post pc2 lv (.long (lN (a / b)) :: st) h) : pb_S Z y d k n post pc lv (.long (lN b) :: .long (lN a) :: st) h := by
  exact pb_ldiv hd (lN_ne0 hb hb2) hp (by rw [lN_div ha2 hb2]; exact kk)
theorem pb_i2lN {a : Nat} {pc2 : Nat} (hd : decode y.2.1 pc = .ok (.i2l, 1)) (ha2 : a < 2 ^ 31) (hp : pc + 1 = pc2) (kk : pb_S Z y d k n post pc2 lv (.long (lN a) :: st) h) : pb_S Z y d k n post pc lv (.int (nI a) :: st) h := by
  exact pb_i2l hd hp (by rw [nI_i2l ha2]; exact kk)
theorem pb_l2iN {a : Nat} {pc2 : Nat} (hd : decode y.2.1 pc = .ok (.l2i, 1)) (hp : pc + 1 = pc2) (kk : pb_S Z y d k n post pc2 lv (.int (nI a) :: st) h) : pb_S Z y d k n post pc lv (.long (lN a) :: st) h := by
  exact pb_l2i hd hp (by rw [lN_l2i]; exact kk)
theorem pb_lcmpN {a b : Nat} {pc2 : Nat} (hd : decode y.2.1 pc = .ok (.lcmp, 1)) (ha2 : a < 2 ^ 63) (hb2 : b < 2 ^ 63) (hp : pc + 1 = pc2) (kk : pb_S Z y d k n post pc2 lv (.int (pb_cmp a b) :: st) h) : pb_S Z y d k n post pc lv (.long (lN b) :: .long (lN a) :: st) h := by
  exact pb_lcmp hd hp (by rw [pb_cmp_lg ha2 hb2]; exact kk)
theorem pb_icmpN_eq {a b : Nat} {off : Int} {tgt pc2 : Nat} (hd : decode y.2.1 pc = .ok (.if_icmp .eq off, 3)) (ht : (pc : Int) + off = (tgt : Int)) (hp : pc + 3 = pc2) (ha2 : a < 2 ^ 31) (hb2 : b < 2 ^ 31) (kt : a = b → pb_S Z y d k n post tgt lv st h) (kf : ¬ a = b → pb_S Z y d k n post pc2 lv st h) : pb_S Z y d k n post pc lv (.int (nI b) :: .int (nI a) :: st) h :=
  pb_icmp_eq hd ht hp (fun q => kt (nI_inj ha2 hb2 q)) (fun q => kf (fun z => q (by rw [z])))
theorem pb_icmpN_ne {a b : Nat} {off : Int} {tgt pc2 : Nat} (hd : decode y.2.1 pc = .ok (.if_icmp .ne off, 3)) (ht : (pc : Int) + off = (tgt : Int)) (hp : pc + 3 = pc2) (ha2 : a < 2 ^ 31) (hb2 : b < 2 ^ 31) (kt : ¬ a = b → pb_S Z y d k n post tgt lv st h) (kf : a = b → pb_S Z y d k n post pc2 lv st h) : pb_S Z y d k n post pc lv (.int (nI b) :: .int (nI a) :: st) h :=
  pb_icmp_ne hd ht hp (fun q => kt (fun z => q (by rw [z]))) (fun q => kf (nI_inj ha2 hb2 q))
theorem pb_icmpN_lt {a b : Nat} {off : Int} {tgt pc2 : Nat} (hd : decode y.2.1 pc = .ok (.if_icmp .lt off, 3)) (ht : (pc : Int) + off = (tgt : Int)) (hp : pc + 3 = pc2) (ha2 : a < 2 ^ 31) (hb2 : b < 2 ^ 31) (kt : a < b → pb_S Z y d k n post tgt lv st h) (kf : b ≤ a → pb_S Z y d k n post pc2 lv st h) : pb_S Z y d k n post pc lv (.int (nI b) :: .int (nI a) :: st) h :=
  pb_icmp_lt hd ht hp (fun q => kt ((nI_ltI ha2 hb2).mp q)) (fun q => kf (Nat.not_lt.mp (fun z => q ((nI_ltI ha2 hb2).mpr z))))
theorem pb_icmpN_ge {a b : Nat} {off : Int} {tgt pc2 : Nat} (hd : decode y.2.1 pc = .ok (.if_icmp .ge off, 3)) (ht : (pc : Int) + off = (tgt : Int)) (hp : pc + 3 = pc2) (ha2 : a < 2 ^ 31) (hb2 : b < 2 ^ 31) (kt : b ≤ a → pb_S Z y d k n post tgt lv st h) (kf : a < b → pb_S Z y d k n post pc2 lv st h) : pb_S Z y d k n post pc lv (.int (nI b) :: .int (nI a) :: st) h :=
  pb_icmp_ge hd ht hp (fun q => kt ((nI_leI hb2 ha2).mp q)) (fun q => kf (Nat.not_le.mp (fun z => q ((nI_leI hb2 ha2).mpr z))))
theorem pb_icmpN_gt {a b : Nat} {off : Int} {tgt pc2 : Nat} (hd : decode y.2.1 pc = .ok (.if_icmp .gt off, 3)) (ht : (pc : Int) + off = (tgt : Int)) (hp : pc + 3 = pc2) (ha2 : a < 2 ^ 31) (hb2 : b < 2 ^ 31) (kt : b < a → pb_S Z y d k n post tgt lv st h) (kf : a ≤ b → pb_S Z y d k n post pc2 lv st h) : pb_S Z y d k n post pc lv (.int (nI b) :: .int (nI a) :: st) h :=
  pb_icmp_gt hd ht hp (fun q => kt ((nI_ltI hb2 ha2).mp q)) (fun q => kf (Nat.not_lt.mp (fun z => q ((nI_ltI hb2 ha2).mpr z))))
theorem pb_icmpN_le {a b : Nat} {off : Int} {tgt pc2 : Nat} (hd : decode y.2.1 pc = .ok (.if_icmp .le off, 3)) (ht : (pc : Int) + off = (tgt : Int)) (hp : pc + 3 = pc2) (ha2 : a < 2 ^ 31) (hb2 : b < 2 ^ 31) (kt : a ≤ b → pb_S Z y d k n post tgt lv st h) (kf : b < a → pb_S Z y d k n post pc2 lv st h) : pb_S Z y d k n post pc lv (.int (nI b) :: .int (nI a) :: st) h :=
  pb_icmp_le hd ht hp (fun q => kt ((nI_leI ha2 hb2).mp q)) (fun q => kf (Nat.not_le.mp (fun z => q ((nI_leI ha2 hb2).mpr z))))
theorem pb_ifN_eq {a : Nat} {off : Int} {tgt pc2 : Nat} (hd : decode y.2.1 pc = .ok (.ifCond .eq off, 3)) (ht : (pc : Int) + off = (tgt : Int)) (hp : pc + 3 = pc2) (ha2 : a < 2 ^ 31) (kt : a = 0 → pb_S Z y d k n post tgt lv st h) (kf : ¬ a = 0 → pb_S Z y d k n post pc2 lv st h) : pb_S Z y d k n post pc lv (.int (nI a) :: st) h :=
  pb_if_eq hd ht hp (fun q => kt (nI_inj ha2 (by decide) q)) (fun q => kf (fun z => q (by rw [z]; rfl)))
theorem pb_ifN_ne {a : Nat} {off : Int} {tgt pc2 : Nat} (hd : decode y.2.1 pc = .ok (.ifCond .ne off, 3)) (ht : (pc : Int) + off = (tgt : Int)) (hp : pc + 3 = pc2) (ha2 : a < 2 ^ 31) (kt : ¬ a = 0 → pb_S Z y d k n post tgt lv st h) (kf : a = 0 → pb_S Z y d k n post pc2 lv st h) : pb_S Z y d k n post pc lv (.int (nI a) :: st) h :=
  pb_if_ne hd ht hp (fun q => kt (fun z => q (by rw [z]; rfl))) (fun q => kf (nI_inj ha2 (by decide) q))
theorem pb_ifN_gt {a : Nat} {off : Int} {tgt pc2 : Nat} (hd : decode y.2.1 pc = .ok (.ifCond .gt off, 3)) (ht : (pc : Int) + off = (tgt : Int)) (hp : pc + 3 = pc2) (ha2 : a < 2 ^ 31) (kt : 0 < a → pb_S Z y d k n post tgt lv st h) (kf : a = 0 → pb_S Z y d k n post pc2 lv st h) : pb_S Z y d k n post pc lv (.int (nI a) :: st) h :=
  pb_if_gt hd ht hp (fun q => kt ((nI_ltI (a := 0) (by decide) ha2).mp q)) (fun q => kf (Nat.eq_zero_of_not_pos (fun z => q ((nI_ltI (a := 0) (by decide) ha2).mpr z))))
theorem pb_ifN_le {a : Nat} {off : Int} {tgt pc2 : Nat} (hd : decode y.2.1 pc = .ok (.ifCond .le off, 3)) (ht : (pc : Int) + off = (tgt : Int)) (hp : pc + 3 = pc2) (ha2 : a < 2 ^ 31) (kt : a = 0 → pb_S Z y d k n post tgt lv st h) (kf : 0 < a → pb_S Z y d k n post pc2 lv st h) : pb_S Z y d k n post pc lv (.int (nI a) :: st) h :=
  pb_if_le hd ht hp (fun q => kt (Nat.le_zero.mp ((nI_leI (b := 0) ha2 (by decide)).mp q))) (fun q => kf (Nat.pos_of_ne_zero (fun z => q (by rw [z]; exact Int32.le_refl _))))
theorem pb_lifN_gt {a b : Nat} {off : Int} {tgt pc2 : Nat} (hd : decode y.2.1 pc = .ok (.ifCond .gt off, 3)) (ht : (pc : Int) + off = (tgt : Int)) (hp : pc + 3 = pc2) (kt : b < a → pb_S Z y d k n post tgt lv st h) (kf : a ≤ b → pb_S Z y d k n post pc2 lv st h) : pb_S Z y d k n post pc lv (.int (pb_cmp a b) :: st) h :=
  pb_if_gt hd ht hp (fun q => kt (pb_cmp_gt.mp q)) (fun q => kf (Nat.not_lt.mp (fun z => q (pb_cmp_gt.mpr z))))
theorem pb_lifN_le {a b : Nat} {off : Int} {tgt pc2 : Nat} (hd : decode y.2.1 pc = .ok (.ifCond .le off, 3)) (ht : (pc : Int) + off = (tgt : Int)) (hp : pc + 3 = pc2) (kt : a ≤ b → pb_S Z y d k n post tgt lv st h) (kf : b < a → pb_S Z y d k n post pc2 lv st h) : pb_S Z y d k n post pc lv (.int (pb_cmp a b) :: st) h :=
  pb_if_le hd ht hp (fun q => kt (Nat.not_lt.mp (fun z => Int32.not_lt.mpr q (pb_cmp_gt.mpr z)))) (fun q => kf (pb_cmp_gt.mp (Int32.not_le.mp q)))
theorem pb_lifN_lt {a b : Nat} {off : Int} {tgt pc2 : Nat} (hd : decode y.2.1 pc = .ok (.ifCond .lt off, 3)) (ht : (pc : Int) + off = (tgt : Int)) (hp : pc + 3 = pc2) (kt : a < b → pb_S Z y d k n post tgt lv st h) (kf : b ≤ a → pb_S Z y d k n post pc2 lv st h) : pb_S Z y d k n post pc lv (.int (pb_cmp a b) :: st) h :=
  pb_if_lt hd ht hp (fun q => kt (pb_cmp_lt.mp q)) (fun q => kf (Nat.not_lt.mp (fun z => q (pb_cmp_lt.mpr z))))
theorem pb_lifN_ge {a b : Nat} {off : Int} {tgt pc2 : Nat} (hd : decode y.2.1 pc = .ok (.ifCond .ge off, 3)) (ht : (pc : Int) + off = (tgt : Int)) (hp : pc + 3 = pc2) (kt : b ≤ a → pb_S Z y d k n post tgt lv st h) (kf : a < b → pb_S Z y d k n post pc2 lv st h) : pb_S Z y d k n post pc lv (.int (pb_cmp a b) :: st) h :=
  pb_if_ge hd ht hp (fun q => kt (Nat.not_lt.mp (fun z => Int32.not_lt.mpr q (pb_cmp_lt.mpr z)))) (fun q => kf (pb_cmp_lt.mp (Int32.not_le.mp q)))
theorem pb_lifN_eq {a b : Nat} {off : Int} {tgt pc2 : Nat} (hd : decode y.2.1 pc = .ok (.ifCond .eq off, 3)) (ht : (pc : Int) + off = (tgt : Int)) (hp : pc + 3 = pc2) (kt : a = b → pb_S Z y d k n post tgt lv st h) (kf : ¬ a = b → pb_S Z y d k n post pc2 lv st h) : pb_S Z y d k n post pc lv (.int (pb_cmp a b) :: st) h :=
  pb_if_eq hd ht hp (fun q => kt (pb_cmp_eq.mp q)) (fun q => kf (fun z => q (pb_cmp_eq.mpr z)))
theorem pb_lifN_ne {a b : Nat} {off : Int} {tgt pc2 : Nat} (hd : decode y.2.1 pc = .ok (.ifCond .ne off, 3)) (ht : (pc : Int) + off = (tgt : Int)) (hp : pc + 3 = pc2) (kt : ¬ a = b → pb_S Z y d k n post tgt lv st h) (kf : a = b → pb_S Z y d k n post pc2 lv st h) : pb_S Z y d k n post pc lv (.int (pb_cmp a b) :: st) h :=
  pb_if_ne hd ht hp (fun q => kt (fun z => q (pb_cmp_eq.mpr z))) (fun q => kf (pb_cmp_eq.mp q))
theorem pb_ifT_eq {x : Int32} {off : Int} {tgt : Nat} (hd : decode y.2.1 pc = .ok (.ifCond .eq off, 3)) (ht : (pc : Int) + off = (tgt : Int)) (hx : x = 0) (kk : pb_S Z y d k n post tgt lv st h) : pb_S Z y d k n post pc lv (.int x :: st) h := pb_if_eq hd ht rfl (fun _ => kk) (fun q => absurd hx q)
theorem pb_ifF_eq {x : Int32} {off : Int} {pc2 : Nat} (hd : decode y.2.1 pc = .ok (.ifCond .eq off, 3)) (hx : ¬ x = 0) (hp : pc + 3 = pc2) {tgt : Nat} (ht : (pc : Int) + off = (tgt : Int)) (kk : pb_S Z y d k n post pc2 lv st h) : pb_S Z y d k n post pc lv (.int x :: st) h := pb_if_eq hd ht hp (fun q => absurd q hx) (fun _ => kk)
theorem pb_ifT_ne {x : Int32} {off : Int} {tgt : Nat} (hd : decode y.2.1 pc = .ok (.ifCond .ne off, 3)) (ht : (pc : Int) + off = (tgt : Int)) (hx : ¬ x = 0) (kk : pb_S Z y d k n post tgt lv st h) : pb_S Z y d k n post pc lv (.int x :: st) h := pb_if_ne hd ht rfl (fun _ => kk) (fun q => absurd q hx)
theorem pb_ifF_ne {x : Int32} {off : Int} {pc2 : Nat} (hd : decode y.2.1 pc = .ok (.ifCond .ne off, 3)) (hx : x = 0) (hp : pc + 3 = pc2) {tgt : Nat} (ht : (pc : Int) + off = (tgt : Int)) (kk : pb_S Z y d k n post pc2 lv st h) : pb_S Z y d k n post pc lv (.int x :: st) h := pb_if_ne hd ht hp (fun q => absurd hx q) (fun _ => kk)
theorem pb_ifT_lt {x : Int32} {off : Int} {tgt : Nat} (hd : decode y.2.1 pc = .ok (.ifCond .lt off, 3)) (ht : (pc : Int) + off = (tgt : Int)) (hx : x < 0) (kk : pb_S Z y d k n post tgt lv st h) : pb_S Z y d k n post pc lv (.int x :: st) h := pb_if_lt hd ht rfl (fun _ => kk) (fun q => absurd hx q)
theorem pb_ifF_lt {x : Int32} {off : Int} {pc2 : Nat} (hd : decode y.2.1 pc = .ok (.ifCond .lt off, 3)) (hx : ¬ x < 0) (hp : pc + 3 = pc2) {tgt : Nat} (ht : (pc : Int) + off = (tgt : Int)) (kk : pb_S Z y d k n post pc2 lv st h) : pb_S Z y d k n post pc lv (.int x :: st) h := pb_if_lt hd ht hp (fun q => absurd q hx) (fun _ => kk)
theorem pb_ifT_ge {x : Int32} {off : Int} {tgt : Nat} (hd : decode y.2.1 pc = .ok (.ifCond .ge off, 3)) (ht : (pc : Int) + off = (tgt : Int)) (hx : 0 ≤ x) (kk : pb_S Z y d k n post tgt lv st h) : pb_S Z y d k n post pc lv (.int x :: st) h := pb_if_ge hd ht rfl (fun _ => kk) (fun q => absurd hx q)
theorem pb_ifF_ge {x : Int32} {off : Int} {pc2 : Nat} (hd : decode y.2.1 pc = .ok (.ifCond .ge off, 3)) (hx : ¬ 0 ≤ x) (hp : pc + 3 = pc2) {tgt : Nat} (ht : (pc : Int) + off = (tgt : Int)) (kk : pb_S Z y d k n post pc2 lv st h) : pb_S Z y d k n post pc lv (.int x :: st) h := pb_if_ge hd ht hp (fun q => absurd q hx) (fun _ => kk)
theorem pb_ifT_gt {x : Int32} {off : Int} {tgt : Nat} (hd : decode y.2.1 pc = .ok (.ifCond .gt off, 3)) (ht : (pc : Int) + off = (tgt : Int)) (hx : 0 < x) (kk : pb_S Z y d k n post tgt lv st h) : pb_S Z y d k n post pc lv (.int x :: st) h := pb_if_gt hd ht rfl (fun _ => kk) (fun q => absurd hx q)
theorem pb_ifF_gt {x : Int32} {off : Int} {pc2 : Nat} (hd : decode y.2.1 pc = .ok (.ifCond .gt off, 3)) (hx : ¬ 0 < x) (hp : pc + 3 = pc2) {tgt : Nat} (ht : (pc : Int) + off = (tgt : Int)) (kk : pb_S Z y d k n post pc2 lv st h) : pb_S Z y d k n post pc lv (.int x :: st) h := pb_if_gt hd ht hp (fun q => absurd q hx) (fun _ => kk)
theorem pb_ifT_le {x : Int32} {off : Int} {tgt : Nat} (hd : decode y.2.1 pc = .ok (.ifCond .le off, 3)) (ht : (pc : Int) + off = (tgt : Int)) (hx : x ≤ 0) (kk : pb_S Z y d k n post tgt lv st h) : pb_S Z y d k n post pc lv (.int x :: st) h := pb_if_le hd ht rfl (fun _ => kk) (fun q => absurd hx q)
theorem pb_ifF_le {x : Int32} {off : Int} {pc2 : Nat} (hd : decode y.2.1 pc = .ok (.ifCond .le off, 3)) (hx : ¬ x ≤ 0) (hp : pc + 3 = pc2) {tgt : Nat} (ht : (pc : Int) + off = (tgt : Int)) (kk : pb_S Z y d k n post pc2 lv st h) : pb_S Z y d k n post pc lv (.int x :: st) h := pb_if_le hd ht hp (fun q => absurd q hx) (fun _ => kk)
theorem pb_iald {kd N a j : Nat} {F : Nat → Nat} {pc2 : Nat} (ha : h a = some (.inl (kd, N, fun j => nI (F j)))) (hkd : kd < 4 ∧ pb_pk kd = .int) (hd : decode y.2.1 pc = .ok (.iaload, 1)) (hj : j < N) (hN : N < 2 ^ 31) (hp : pc + 1 = pc2) (kk : pb_S Z y d k n post pc2 lv (.int (nI (F j)) :: st) h) : pb_S Z y d k n post pc lv (.int (nI j) :: .ref a :: st) h := pb_iaload hd hkd ha hj hN hp kk
theorem pb_iast {N a j v : Nat} {F : Nat → Nat} {pc2 : Nat} (ha : h a = some (.inl (0, N, fun j => nI (F j)))) (hd : decode y.2.1 pc = .ok (.iastore, 1)) (h2 : 2 ≤ a) (hj : j < N) (hN : N < 2 ^ 31) (hp : pc + 1 = pc2) (kk : pb_S Z y d k n post pc2 lv st (pb_set h a (.inl (0, N, fun i => nI (pb_un F j v i))))) : pb_S Z y d k n post pc lv (.int (nI v) :: .int (nI j) :: .ref a :: st) h := by
  refine pb_iastore hd ha h2 hj hN hp ?_
  rw [pb_un_nI]
  exact kk
theorem pb_iincP {a c0 i0 : Nat} {lv2 : List (Option Value)} {pc2 : Nat} (hd : decode y.2.1 pc = .ok (.iinc i0 (c0 : Int), 3)) (hl : lv[i0]? = some (some (.int (nI a)))) (hn : i0 < y.2.2.1) (hs : pb_s1 lv i0 (.int (nI (a + c0))) = lv2) (hp : pc + 3 = pc2) (kk : pb_S Z y d k n post pc2 lv2 st h) : pb_S Z y d k n post pc lv st h := by
  refine pb_iinc hd hl (v := nI (a + c0)) ?_ hn hs hp kk
  rw [← nI_add]
  rfl
theorem pb_iincM {a i0 : Nat} {lv2 : List (Option Value)} {pc2 : Nat} (hd : decode y.2.1 pc = .ok (.iinc i0 (-1), 3)) (hl : lv[i0]? = some (some (.int (nI a)))) (h1 : 1 ≤ a) (hn : i0 < y.2.2.1) (hs : pb_s1 lv i0 (.int (nI (a - 1))) = lv2) (hp : pc + 3 = pc2) (kk : pb_S Z y d k n post pc2 lv2 st h) : pb_S Z y d k n post pc lv st h := by
  refine pb_iinc hd hl (v := nI (a - 1)) ?_ hn hs hp kk
  rw [← nI_sub h1, Int32.sub_eq_add_neg]
  rfl
end PBN
section PBMath
variable {Z : pb_Z} {y : pb_M} {d k n : Nat} {post : Option Value → pb_H → Prop} {pc : Nat} {lv : List (Option Value)} {st : List Value} {h : pb_H}
theorem pb_mabs {idx pc2 : Nat} {own : String} {x : Int32} (hw : y.1.cls = own) (hl : Cond.methodLink own idx yJ9_abs_0f7a4 ∈ pb_tbl) (hd : decode y.2.1 pc = .ok (.invokestatic idx, 3)) (hdd : 1 ≤ d) (hr : (st.map fun v => v.category).sum ≤ 8) (hp : pc + 3 = pc2) (kk : pb_S Z y d k n post pc2 lv (.int (if 0 ≤ x then x else 0 - x) :: st) h) : pb_S Z y d k n post pc lv (.int x :: st) h := by
  subst hw hp
  intro p e s m args below meth c R mc ms ρ0 h0 hF hR cells slots ρ H locs ls hD
  have hts := hF.2.2.2.2.2.1
  refine va_mabs hF.1 hF.2.1 (by rw [hF.2.2.2.1]; exact hD.2.2.1.1.symm) hF.2.2.2.2.1 (hts _ hl) (hts _ swJ9_abs_0f7a4) (hts _ mwJ9_abs_0f7a4.2.1) (hts _ mwJ9_abs_0f7a4.1) (by have := hR.1; omega) ?_ (by rw [hR.2.2.1]; have := hD.1; omega) (by rw [hR.2.2.2]; have := hD.2.1; omega) hd (kk p e s m args below meth c R mc ms ρ0 h0 hF hR cells slots ρ H locs ls (hD.stk ⟨trivial, hD.oks.2⟩))
  show ((st.map (pb_up ρ)).map fun v => v.category).sum + 13 ≤ _
  rw [pb_cat]
  have := hR.2.1
  omega
theorem pb_mmax {idx pc2 : Nat} {own : String} {x x2 : Int32} (hw : y.1.cls = own) (hl : Cond.methodLink own idx yJ9_max_7cf53 ∈ pb_tbl) (hd : decode y.2.1 pc = .ok (.invokestatic idx, 3)) (hdd : 1 ≤ d) (hr : (st.map fun v => v.category).sum ≤ 8) (hp : pc + 3 = pc2) (kk : pb_S Z y d k n post pc2 lv (.int (if x < x2 then x2 else x) :: st) h) : pb_S Z y d k n post pc lv (.int x2 :: .int x :: st) h := by
  subst hw hp
  intro p e s m args below meth c R mc ms ρ0 h0 hF hR cells slots ρ H locs ls hD
  have hts := hF.2.2.2.2.2.1
  refine va_mmax hF.1 hF.2.1 (by rw [hF.2.2.2.1]; exact hD.2.2.1.1.symm) hF.2.2.2.2.1 (hts _ hl) (hts _ swJ9_max_7cf53) (hts _ mwJ9_max_7cf53.2.1) (hts _ mwJ9_max_7cf53.1) (by have := hR.1; omega) ?_ (by rw [hR.2.2.1]; have := hD.1; omega) (by rw [hR.2.2.2]; have := hD.2.1; omega) hd (kk p e s m args below meth c R mc ms ρ0 h0 hF hR cells slots ρ H locs ls (hD.stk ⟨trivial, hD.oks.2.2⟩))
  show ((st.map (pb_up ρ)).map fun v => v.category).sum + 13 ≤ _
  rw [pb_cat]
  have := hR.2.1
  omega
def pb_abs (a b : Nat) : Nat := (a - b) + (b - a)
/-- the difference of two numbers, without sign -/
theorem pb_mabsN {idx pc2 a b : Nat} {own : String} (hw : y.1.cls = own) (hl : Cond.methodLink own idx yJ9_abs_0f7a4 ∈ pb_tbl) (hd : decode y.2.1 pc = .ok (.invokestatic idx, 3)) (ha : a < 2 ^ 31) (hb : b < 2 ^ 31) (hdd : 1 ≤ d) (hr : (st.map fun v => v.category).sum ≤ 8) (hp : pc + 3 = pc2) (kk : pb_S Z y d k n post pc2 lv (.int (nI (pb_abs a b)) :: st) h) : pb_S Z y d k n post pc lv (.int (nI a - nI b) :: st) h := by
  refine pb_mabs hw hl hd hdd hr hp ?_
  have e : (if 0 ≤ nI a - nI b then nI a - nI b else 0 - (nI a - nI b)) = nI (pb_abs a b) := by
    unfold pb_abs
    by_cases h1 : b ≤ a
    · rw [nI_sub h1, if_pos (nI_pos' (by omega)), show b - a = 0 by omega]
      rfl
    · have e2 : 0 - (nI a - nI b) = nI (b - a) := by
        rw [← nI_sub (show a ≤ b by omega)]
        simp [Int32.sub_eq_add_neg, Int32.neg_add, Int32.add_comm]
      have e3 : ¬ 0 ≤ nI a - nI b := by
        intro q
        obtain ⟨j, hj, e5⟩ := nI_of (Int32.not_lt.mpr q)
        have e6 : nI (j + b) = nI a := by rw [← nI_add, ← e5, Int32.sub_add_cancel]
        have := nI_mod e6
        omega
      rw [if_neg e3, e2, show a - b = 0 by omega, Nat.zero_add]
  rw [e]
  exact kk
theorem pb_mmaxN {idx pc2 a b : Nat} {own : String} (hw : y.1.cls = own) (hl : Cond.methodLink own idx yJ9_max_7cf53 ∈ pb_tbl) (hd : decode y.2.1 pc = .ok (.invokestatic idx, 3)) (ha : a < 2 ^ 31) (hb : b < 2 ^ 31) (hdd : 1 ≤ d) (hr : (st.map fun v => v.category).sum ≤ 8) (hp : pc + 3 = pc2) (kk : pb_S Z y d k n post pc2 lv (.int (nI (max a b)) :: st) h) : pb_S Z y d k n post pc lv (.int (nI b) :: .int (nI a) :: st) h := by
  refine pb_mmax hw hl hd hdd hr hp ?_
  have e : (if nI a < nI b then nI b else nI a) = nI (max a b) := by
    by_cases h1 : a < b
    · rw [if_pos ((nI_ltI ha hb).mpr h1), Nat.max_eq_right (by omega)]
    · rw [if_neg (fun q => h1 ((nI_ltI ha hb).mp q)), Nat.max_eq_left (by omega)]
  rw [e]
  exact kk
end PBMath
end
