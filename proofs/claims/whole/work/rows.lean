section
-- ===== PART A: goes FIRST, ahead of the names: the tables' words, and 'selects' of the private methods out of them =====
/-- a private method of a class that the tables say can be made, by its rows of tables_1 -/
def lw_okq (q : MethodName × Nat) : Prop := (q.1.cls ≠ "java/lang/invoke/MethodHandle" ∧ q.1.cls ≠ "java/lang/invoke/VarHandle") ∧ Cond.instantiable q.1.cls q.2 ∈ tables_1 ∧ Cond.privateMethod q.1 ∈ tables_1 ∧ Cond.instanceMethod q.1 ∈ tables_1
theorem lw_p0 : lw_okq (⟨"RisingParts", "rowAt", "(I)LRisingParts$Row;"⟩, 4) := ⟨⟨by decide +kernel, by decide +kernel⟩, List.mem_of_getElem? (i := 8) (by decide +kernel), List.mem_of_getElem? (i := 91) (by decide +kernel), List.mem_of_getElem? (i := 92) (by decide +kernel)⟩
theorem lw_p1 : lw_okq (⟨"RisingParts", "remember", "()V"⟩, 4) := ⟨⟨by decide +kernel, by decide +kernel⟩, List.mem_of_getElem? (i := 8) (by decide +kernel), List.mem_of_getElem? (i := 97) (by decide +kernel), List.mem_of_getElem? (i := 98) (by decide +kernel)⟩
theorem lw_p2 : lw_okq (⟨"RisingParts$History", "startOf", "(I)I"⟩, 3) := ⟨⟨by decide +kernel, by decide +kernel⟩, List.mem_of_getElem? (i := 36) (by decide +kernel), List.mem_of_getElem? (i := 105) (by decide +kernel), List.mem_of_getElem? (i := 106) (by decide +kernel)⟩
theorem lw_p3 : lw_okq (⟨"RisingParts$Row", "put", "(II)V"⟩, 3) := ⟨⟨by decide +kernel, by decide +kernel⟩, List.mem_of_getElem? (i := 16) (by decide +kernel), List.mem_of_getElem? (i := 125) (by decide +kernel), List.mem_of_getElem? (i := 126) (by decide +kernel)⟩
theorem lw_p4 : lw_okq (⟨"RisingParts", "joinedSize", "(Z)I"⟩, 4) := ⟨⟨by decide +kernel, by decide +kernel⟩, List.mem_of_getElem? (i := 8) (by decide +kernel), List.mem_of_getElem? (i := 146) (by decide +kernel), List.mem_of_getElem? (i := 147) (by decide +kernel)⟩
theorem lw_p5 : lw_okq (⟨"RisingParts", "commonUnlike", "()I"⟩, 4) := ⟨⟨by decide +kernel, by decide +kernel⟩, List.mem_of_getElem? (i := 8) (by decide +kernel), List.mem_of_getElem? (i := 158) (by decide +kernel), List.mem_of_getElem? (i := 159) (by decide +kernel)⟩
theorem lw_p6 : lw_okq (⟨"RisingParts", "commonRepeated", "()I"⟩, 4) := ⟨⟨by decide +kernel, by decide +kernel⟩, List.mem_of_getElem? (i := 8) (by decide +kernel), List.mem_of_getElem? (i := 302) (by decide +kernel), List.mem_of_getElem? (i := 303) (by decide +kernel)⟩
theorem lw_p7 : lw_okq (⟨"RisingParts", "leastCommon", "()I"⟩, 4) := ⟨⟨by decide +kernel, by decide +kernel⟩, List.mem_of_getElem? (i := 8) (by decide +kernel), List.mem_of_getElem? (i := 310) (by decide +kernel), List.mem_of_getElem? (i := 311) (by decide +kernel)⟩
theorem lw_p8 : lw_okq (⟨"RisingParts", "leastDifference", "()I"⟩, 4) := ⟨⟨by decide +kernel, by decide +kernel⟩, List.mem_of_getElem? (i := 8) (by decide +kernel), List.mem_of_getElem? (i := 314) (by decide +kernel), List.mem_of_getElem? (i := 315) (by decide +kernel)⟩
theorem lw_p9 : lw_okq (⟨"RisingParts$Row", "gapsAhead", "(I)I"⟩, 3) := ⟨⟨by decide +kernel, by decide +kernel⟩, List.mem_of_getElem? (i := 16) (by decide +kernel), List.mem_of_getElem? (i := 346) (by decide +kernel), List.mem_of_getElem? (i := 347) (by decide +kernel)⟩
theorem lw_p10 : lw_okq (⟨"RisingParts$Text", "characterAt", "(I)I"⟩, 2) := ⟨⟨by decide +kernel, by decide +kernel⟩, List.mem_of_getElem? (i := 53) (by decide +kernel), List.mem_of_getElem? (i := 387) (by decide +kernel), List.mem_of_getElem? (i := 388) (by decide +kernel)⟩
theorem lw_p11 : lw_okq (⟨"RisingParts$Text", "endsNumber", "(I)Z"⟩, 2) := ⟨⟨by decide +kernel, by decide +kernel⟩, List.mem_of_getElem? (i := 53) (by decide +kernel), List.mem_of_getElem? (i := 395) (by decide +kernel), List.mem_of_getElem? (i := 396) (by decide +kernel)⟩
theorem lw_p12 : lw_okq (⟨"RisingPartsModel", "many", "(I)I"⟩, 16) := ⟨⟨by decide +kernel, by decide +kernel⟩, List.mem_of_getElem? (i := 408) (by decide +kernel), List.mem_of_getElem? (i := 473) (by decide +kernel), List.mem_of_getElem? (i := 474) (by decide +kernel)⟩
theorem lw_p13 : lw_okq (⟨"RisingPartsModel", "keeps", "()V"⟩, 16) := ⟨⟨by decide +kernel, by decide +kernel⟩, List.mem_of_getElem? (i := 408) (by decide +kernel), List.mem_of_getElem? (i := 478) (by decide +kernel), List.mem_of_getElem? (i := 479) (by decide +kernel)⟩
theorem lw_p14 : lw_okq (⟨"RisingPartsModel", "less", "(II)I"⟩, 16) := ⟨⟨by decide +kernel, by decide +kernel⟩, List.mem_of_getElem? (i := 408) (by decide +kernel), List.mem_of_getElem? (i := 482) (by decide +kernel), List.mem_of_getElem? (i := 483) (by decide +kernel)⟩
theorem lw_p15 : lw_okq (⟨"RisingPartsModel", "number", "(II)I"⟩, 16) := ⟨⟨by decide +kernel, by decide +kernel⟩, List.mem_of_getElem? (i := 408) (by decide +kernel), List.mem_of_getElem? (i := 486) (by decide +kernel), List.mem_of_getElem? (i := 487) (by decide +kernel)⟩
def lw_privs_1 : List (MethodName × Nat) := [(⟨"RisingParts", "rowAt", "(I)LRisingParts$Row;"⟩, 4), (⟨"RisingParts", "remember", "()V"⟩, 4), (⟨"RisingParts$History", "startOf", "(I)I"⟩, 3), (⟨"RisingParts$Row", "put", "(II)V"⟩, 3), (⟨"RisingParts", "joinedSize", "(Z)I"⟩, 4), (⟨"RisingParts", "commonUnlike", "()I"⟩, 4), (⟨"RisingParts", "commonRepeated", "()I"⟩, 4), (⟨"RisingParts", "leastCommon", "()I"⟩, 4), (⟨"RisingParts", "leastDifference", "()I"⟩, 4), (⟨"RisingParts$Row", "gapsAhead", "(I)I"⟩, 3), (⟨"RisingParts$Text", "characterAt", "(I)I"⟩, 2), (⟨"RisingParts$Text", "endsNumber", "(I)Z"⟩, 2), (⟨"RisingPartsModel", "many", "(I)I"⟩, 16), (⟨"RisingPartsModel", "keeps", "()V"⟩, 16), (⟨"RisingPartsModel", "less", "(II)I"⟩, 16), (⟨"RisingPartsModel", "number", "(II)I"⟩, 16)]
theorem lw_r1 : ∀ q ∈ lw_privs_1, lw_okq q := List.forall_mem_cons.mpr ⟨lw_p0, List.forall_mem_cons.mpr ⟨lw_p1, List.forall_mem_cons.mpr ⟨lw_p2, List.forall_mem_cons.mpr ⟨lw_p3, List.forall_mem_cons.mpr ⟨lw_p4, List.forall_mem_cons.mpr ⟨lw_p5, List.forall_mem_cons.mpr ⟨lw_p6, List.forall_mem_cons.mpr ⟨lw_p7, List.forall_mem_cons.mpr ⟨lw_p8, List.forall_mem_cons.mpr ⟨lw_p9, List.forall_mem_cons.mpr ⟨lw_p10, List.forall_mem_cons.mpr ⟨lw_p11, List.forall_mem_cons.mpr ⟨lw_p12, List.forall_mem_cons.mpr ⟨lw_p13, List.forall_mem_cons.mpr ⟨lw_p14, List.forall_mem_cons.mpr ⟨lw_p15, fun _ h => absurd h List.not_mem_nil⟩⟩⟩⟩⟩⟩⟩⟩⟩⟩⟩⟩⟩⟩⟩⟩
theorem lw_p16 : lw_okq (⟨"RisingPartsModel", "acted", "(I)I"⟩, 16) := ⟨⟨by decide +kernel, by decide +kernel⟩, List.mem_of_getElem? (i := 408) (by decide +kernel), List.mem_of_getElem? (i := 490) (by decide +kernel), List.mem_of_getElem? (i := 491) (by decide +kernel)⟩
theorem lw_p17 : lw_okq (⟨"RisingPartsModel", "lays", "(I)V"⟩, 16) := ⟨⟨by decide +kernel, by decide +kernel⟩, List.mem_of_getElem? (i := 408) (by decide +kernel), List.mem_of_getElem? (i := 518) (by decide +kernel), List.mem_of_getElem? (i := 519) (by decide +kernel)⟩
theorem lw_p18 : lw_okq (⟨"RisingPartsModel", "placeOf", "(II)I"⟩, 16) := ⟨⟨by decide +kernel, by decide +kernel⟩, List.mem_of_getElem? (i := 408) (by decide +kernel), List.mem_of_getElem? (i := 528) (by decide +kernel), List.mem_of_getElem? (i := 529) (by decide +kernel)⟩
theorem lw_p19 : lw_okq (⟨"RisingPartsModel", "width", "(I)I"⟩, 16) := ⟨⟨by decide +kernel, by decide +kernel⟩, List.mem_of_getElem? (i := 408) (by decide +kernel), List.mem_of_getElem? (i := 532) (by decide +kernel), List.mem_of_getElem? (i := 533) (by decide +kernel)⟩
theorem lw_p20 : lw_okq (⟨"RisingPartsModel", "size", "(I)I"⟩, 16) := ⟨⟨by decide +kernel, by decide +kernel⟩, List.mem_of_getElem? (i := 408) (by decide +kernel), List.mem_of_getElem? (i := 536) (by decide +kernel), List.mem_of_getElem? (i := 537) (by decide +kernel)⟩
theorem lw_p21 : lw_okq (⟨"RisingPartsModel", "unlike", "(I)I"⟩, 16) := ⟨⟨by decide +kernel, by decide +kernel⟩, List.mem_of_getElem? (i := 408) (by decide +kernel), List.mem_of_getElem? (i := 543) (by decide +kernel), List.mem_of_getElem? (i := 544) (by decide +kernel)⟩
theorem lw_p22 : lw_okq (⟨"RisingPartsModel", "greatestGap", "(I)I"⟩, 16) := ⟨⟨by decide +kernel, by decide +kernel⟩, List.mem_of_getElem? (i := 408) (by decide +kernel), List.mem_of_getElem? (i := 547) (by decide +kernel), List.mem_of_getElem? (i := 548) (by decide +kernel)⟩
theorem lw_p23 : lw_okq (⟨"RisingPartsModel", "lower", "(II)I"⟩, 16) := ⟨⟨by decide +kernel, by decide +kernel⟩, List.mem_of_getElem? (i := 408) (by decide +kernel), List.mem_of_getElem? (i := 560) (by decide +kernel), List.mem_of_getElem? (i := 561) (by decide +kernel)⟩
theorem lw_p24 : lw_okq (⟨"RisingPartsModel", "finds", "(II)V"⟩, 16) := ⟨⟨by decide +kernel, by decide +kernel⟩, List.mem_of_getElem? (i := 408) (by decide +kernel), List.mem_of_getElem? (i := 579) (by decide +kernel), List.mem_of_getElem? (i := 580) (by decide +kernel)⟩
theorem lw_p25 : lw_okq (⟨"RisingPartsModel", "has", "(II)Z"⟩, 16) := ⟨⟨by decide +kernel, by decide +kernel⟩, List.mem_of_getElem? (i := 408) (by decide +kernel), List.mem_of_getElem? (i := 591) (by decide +kernel), List.mem_of_getElem? (i := 592) (by decide +kernel)⟩
theorem lw_p26 : lw_okq (⟨"RisingPartsModel", "times", "(II)I"⟩, 16) := ⟨⟨by decide +kernel, by decide +kernel⟩, List.mem_of_getElem? (i := 408) (by decide +kernel), List.mem_of_getElem? (i := 595) (by decide +kernel), List.mem_of_getElem? (i := 596) (by decide +kernel)⟩
theorem lw_p27 : lw_okq (⟨"RisingPartsModel", "difference", "()I"⟩, 16) := ⟨⟨by decide +kernel, by decide +kernel⟩, List.mem_of_getElem? (i := 408) (by decide +kernel), List.mem_of_getElem? (i := 599) (by decide +kernel), List.mem_of_getElem? (i := 600) (by decide +kernel)⟩
theorem lw_p28 : lw_okq (⟨"RisingPartsModel", "faulty", "(I)I"⟩, 16) := ⟨⟨by decide +kernel, by decide +kernel⟩, List.mem_of_getElem? (i := 408) (by decide +kernel), List.mem_of_getElem? (i := 640) (by decide +kernel), List.mem_of_getElem? (i := 641) (by decide +kernel)⟩
theorem lw_p29 : lw_okq (⟨"RisingPartsModel", "sign", "(I)I"⟩, 16) := ⟨⟨by decide +kernel, by decide +kernel⟩, List.mem_of_getElem? (i := 408) (by decide +kernel), List.mem_of_getElem? (i := 644) (by decide +kernel), List.mem_of_getElem? (i := 645) (by decide +kernel)⟩
theorem lw_p30 : lw_okq (⟨"RisingPartsModel", "wrong", "(II)I"⟩, 16) := ⟨⟨by decide +kernel, by decide +kernel⟩, List.mem_of_getElem? (i := 408) (by decide +kernel), List.mem_of_getElem? (i := 648) (by decide +kernel), List.mem_of_getElem? (i := 649) (by decide +kernel)⟩
def lw_privs_2 : List (MethodName × Nat) := [(⟨"RisingPartsModel", "acted", "(I)I"⟩, 16), (⟨"RisingPartsModel", "lays", "(I)V"⟩, 16), (⟨"RisingPartsModel", "placeOf", "(II)I"⟩, 16), (⟨"RisingPartsModel", "width", "(I)I"⟩, 16), (⟨"RisingPartsModel", "size", "(I)I"⟩, 16), (⟨"RisingPartsModel", "unlike", "(I)I"⟩, 16), (⟨"RisingPartsModel", "greatestGap", "(I)I"⟩, 16), (⟨"RisingPartsModel", "lower", "(II)I"⟩, 16), (⟨"RisingPartsModel", "finds", "(II)V"⟩, 16), (⟨"RisingPartsModel", "has", "(II)Z"⟩, 16), (⟨"RisingPartsModel", "times", "(II)I"⟩, 16), (⟨"RisingPartsModel", "difference", "()I"⟩, 16), (⟨"RisingPartsModel", "faulty", "(I)I"⟩, 16), (⟨"RisingPartsModel", "sign", "(I)I"⟩, 16), (⟨"RisingPartsModel", "wrong", "(II)I"⟩, 16)]
theorem lw_r2 : ∀ q ∈ lw_privs_2, lw_okq q := List.forall_mem_cons.mpr ⟨lw_p16, List.forall_mem_cons.mpr ⟨lw_p17, List.forall_mem_cons.mpr ⟨lw_p18, List.forall_mem_cons.mpr ⟨lw_p19, List.forall_mem_cons.mpr ⟨lw_p20, List.forall_mem_cons.mpr ⟨lw_p21, List.forall_mem_cons.mpr ⟨lw_p22, List.forall_mem_cons.mpr ⟨lw_p23, List.forall_mem_cons.mpr ⟨lw_p24, List.forall_mem_cons.mpr ⟨lw_p25, List.forall_mem_cons.mpr ⟨lw_p26, List.forall_mem_cons.mpr ⟨lw_p27, List.forall_mem_cons.mpr ⟨lw_p28, List.forall_mem_cons.mpr ⟨lw_p29, List.forall_mem_cons.mpr ⟨lw_p30, fun _ h => absurd h List.not_mem_nil⟩⟩⟩⟩⟩⟩⟩⟩⟩⟩⟩⟩⟩⟩⟩
def lw_privs : List (MethodName × Nat) := lw_privs_1 ++ (lw_privs_2)
def lw_tbl : List Cond := k2_sels lw_privs ++ tables_1
theorem lw_privs_ok : ∀ q ∈ lw_privs, lw_okq q := by
  show ∀ q ∈ lw_privs_1 ++ (lw_privs_2), lw_okq q
  exact List.forall_mem_append.mpr ⟨lw_r1, lw_r2⟩
/-- the streams that the claim lets the run draw from -/
abbrev lw_cs : List Choice := [Jvm.Choice.named "NaN.bits"]
theorem lw_bits : nanBits ∈ lw_cs := by first | decide | exact List.mem_cons_self | simp [lw_cs, nanBits]
def RX0 : String := "RisingParts$History"
def TX0 : u_T := fun k => match k with
  | 0 => ("RisingParts$History", "cells", "[I", true)
  | 1 => ("RisingParts$History", "oldest", "I", false)
  | _ => ("RisingParts$History", "size", "I", false)
def tyX0 : Nat → FieldType := fun k => match k with
  | 0 => .array .int
  | 1 => .int
  | _ => .int
abbrev wsX00 : List Cond := u_ws RX0 TX0 3
theorem nmX0 : ∀ a, a < 3 → ∀ b, b < 3 → a ≠ b → (TX0 a).2.1 ≠ (TX0 b).2.1 := by decide +kernel
theorem tyX0_ok : ∀ k, k < 3 → parseFieldDescriptor (TX0 k).2.2.1 = some (tyX0 k) := by decide +kernel
abbrev cX0_init : ByteArray := prog_2_method_1_code
def yX0_init : MethodName := ⟨RX0, "<init>", "()V"⟩
abbrev cX0_keep : ByteArray := prog_2_method_2_code
def yX0_keep : MethodName := ⟨RX0, "keep", "(LRisingParts$Row;LRisingParts$Row;)V"⟩
abbrev cX0_restore : ByteArray := prog_2_method_3_code
def yX0_restore : MethodName := ⟨RX0, "restore", "(LRisingParts$Row;LRisingParts$Row;)V"⟩
abbrev cX0_startOf : ByteArray := prog_2_method_4_code
def yX0_startOf : MethodName := ⟨RX0, "startOf", "(I)I"⟩
def RX1 : String := "RisingParts$Row"
def TX1 : u_T := fun k => match k with
  | 0 => ("RisingParts$Row", "numbers", "[I", true)
  | 1 => ("RisingParts$Row", "size", "I", false)
  | _ => ("RisingParts$Row", "bound", "I", false)
def tyX1 : Nat → FieldType := fun k => match k with
  | 0 => .array .int
  | 1 => .int
  | _ => .int
abbrev wsX10 : List Cond := u_ws RX1 TX1 3
theorem nmX1 : ∀ a, a < 3 → ∀ b, b < 3 → a ≠ b → (TX1 a).2.1 ≠ (TX1 b).2.1 := by decide +kernel
theorem tyX1_ok : ∀ k, k < 3 → parseFieldDescriptor (TX1 k).2.2.1 = some (tyX1 k) := by decide +kernel
abbrev cX1_init : ByteArray := prog_3_method_1_code
def yX1_init : MethodName := ⟨RX1, "<init>", "()V"⟩
abbrev cX1_numberAt : ByteArray := prog_3_method_2_code
def yX1_numberAt : MethodName := ⟨RX1, "numberAt", "(I)I"⟩
abbrev cX1_put : ByteArray := prog_3_method_3_code
def yX1_put : MethodName := ⟨RX1, "put", "(II)V"⟩
abbrev cX1_insert : ByteArray := prog_3_method_4_code
def yX1_insert : MethodName := ⟨RX1, "insert", "(I)I"⟩
abbrev cX1_remove : ByteArray := prog_3_method_5_code
def yX1_remove : MethodName := ⟨RX1, "remove", "(I)I"⟩
abbrev cX1_dropRepeated : ByteArray := prog_3_method_6_code
def yX1_dropRepeated : MethodName := ⟨RX1, "dropRepeated", "()V"⟩
abbrev cX1_countLess : ByteArray := prog_3_method_7_code
def yX1_countLess : MethodName := ⟨RX1, "countLess", "(I)I"⟩
abbrev cX1_timesOf : ByteArray := prog_3_method_8_code
def yX1_timesOf : MethodName := ⟨RX1, "timesOf", "(I)I"⟩
abbrev cX1_holds : ByteArray := prog_3_method_9_code
def yX1_holds : MethodName := ⟨RX1, "holds", "(I)Z"⟩
abbrev cX1_isNew : ByteArray := prog_3_method_10_code
def yX1_isNew : MethodName := ⟨RX1, "isNew", "(I)Z"⟩
abbrev cX1_unlike : ByteArray := prog_3_method_11_code
def yX1_unlike : MethodName := ⟨RX1, "unlike", "()I"⟩
abbrev cX1_width : ByteArray := prog_3_method_12_code
def yX1_width : MethodName := ⟨RX1, "width", "()I"⟩
abbrev cX1_zeros : ByteArray := prog_3_method_13_code
def yX1_zeros : MethodName := ⟨RX1, "zeros", "()I"⟩
abbrev cX1_upperLength : ByteArray := prog_3_method_14_code
def yX1_upperLength : MethodName := ⟨RX1, "upperLength", "()I"⟩
abbrev cX1_bits : ByteArray := prog_3_method_15_code
def yX1_bits : MethodName := ⟨RX1, "bits", "()I"⟩
abbrev cX1_upperPart : ByteArray := prog_3_method_16_code
def yX1_upperPart : MethodName := ⟨RX1, "upperPart", "(I)I"⟩
abbrev cX1_lowerPart : ByteArray := prog_3_method_17_code
def yX1_lowerPart : MethodName := ⟨RX1, "lowerPart", "(I)I"⟩
abbrev cX1_placeOfOne : ByteArray := prog_3_method_18_code
def yX1_placeOfOne : MethodName := ⟨RX1, "placeOfOne", "(I)I"⟩
abbrev cX1_placeOfZero : ByteArray := prog_3_method_19_code
def yX1_placeOfZero : MethodName := ⟨RX1, "placeOfZero", "(I)I"⟩
abbrev cX1_hasOneAt : ByteArray := prog_3_method_20_code
def yX1_hasOneAt : MethodName := ⟨RX1, "hasOneAt", "(I)Z"⟩
abbrev cX1_workToNext : ByteArray := prog_3_method_21_code
def yX1_workToNext : MethodName := ⟨RX1, "workToNext", "(I)I"⟩
abbrev cX1_lowerWord : ByteArray := prog_3_method_22_code
def yX1_lowerWord : MethodName := ⟨RX1, "lowerWord", "(I)J"⟩
abbrev cX1_stepBehind : ByteArray := prog_3_method_23_code
def yX1_stepBehind : MethodName := ⟨RX1, "stepBehind", "(I)I"⟩
abbrev cX1_greatestStep : ByteArray := prog_3_method_24_code
def yX1_greatestStep : MethodName := ⟨RX1, "greatestStep", "()I"⟩
abbrev cX1_indexOfGap : ByteArray := prog_3_method_25_code
def yX1_indexOfGap : MethodName := ⟨RX1, "indexOfGap", "(I)I"⟩
abbrev cX1_gapsAhead : ByteArray := prog_3_method_26_code
def yX1_gapsAhead : MethodName := ⟨RX1, "gapsAhead", "(I)I"⟩
abbrev cX1_saveTo : ByteArray := prog_3_method_27_code
def yX1_saveTo : MethodName := ⟨RX1, "saveTo", "([II)V"⟩
abbrev cX1_loadFrom : ByteArray := prog_3_method_28_code
def yX1_loadFrom : MethodName := ⟨RX1, "loadFrom", "([II)V"⟩
def RX2 : String := "RisingParts$Text"
def TX2 : u_T := fun k => match k with
  | 0 => ("RisingParts$Text", "characters", "[I", true)
  | _ => ("RisingParts$Text", "length", "I", false)
def tyX2 : Nat → FieldType := fun k => match k with
  | 0 => .array .int
  | _ => .int
abbrev wsX20 : List Cond := u_ws RX2 TX2 2
theorem nmX2 : ∀ a, a < 2 → ∀ b, b < 2 → a ≠ b → (TX2 a).2.1 ≠ (TX2 b).2.1 := by decide +kernel
theorem tyX2_ok : ∀ k, k < 2 → parseFieldDescriptor (TX2 k).2.2.1 = some (tyX2 k) := by decide +kernel
abbrev cX2_init : ByteArray := prog_4_method_1_code
def yX2_init : MethodName := ⟨RX2, "<init>", "()V"⟩
abbrev cX2_append : ByteArray := prog_4_method_2_code
def yX2_append : MethodName := ⟨RX2, "append", "(I)V"⟩
abbrev cX2_characterAt : ByteArray := prog_4_method_3_code
def yX2_characterAt : MethodName := ⟨RX2, "characterAt", "(I)I"⟩
abbrev cX2_isDigit : ByteArray := prog_4_method_4_code
def yX2_isDigit : MethodName := ⟨RX2, "isDigit", "(I)Z"⟩
abbrev cX2_endsNumber : ByteArray := prog_4_method_5_code
def yX2_endsNumber : MethodName := ⟨RX2, "endsNumber", "(I)Z"⟩
abbrev cX2_firstFault : ByteArray := prog_4_method_6_code
def yX2_firstFault : MethodName := ⟨RX2, "firstFault", "(I)I"⟩
abbrev cX2_fill : ByteArray := prog_4_method_7_code
def yX2_fill : MethodName := ⟨RX2, "fill", "(LRisingParts$Row;)V"⟩
def RX3 : String := "RisingParts"
def TX3 : u_T := fun k => match k with
  | 0 => ("RisingParts", "first", "LRisingParts$Row;", false)
  | 1 => ("RisingParts", "second", "LRisingParts$Row;", false)
  | 2 => ("RisingParts", "history", "LRisingParts$History;", true)
  | _ => ("RisingParts", "text", "LRisingParts$Text;", true)
def tyX3 : Nat → FieldType := fun k => match k with
  | 0 => .object "RisingParts$Row"
  | 1 => .object "RisingParts$Row"
  | 2 => .object "RisingParts$History"
  | _ => .object "RisingParts$Text"
abbrev wsX30 : List Cond := u_ws RX3 TX3 4
theorem nmX3 : ∀ a, a < 4 → ∀ b, b < 4 → a ≠ b → (TX3 a).2.1 ≠ (TX3 b).2.1 := by decide +kernel
theorem tyX3_ok : ∀ k, k < 4 → parseFieldDescriptor (TX3 k).2.2.1 = some (tyX3 k) := by decide +kernel
abbrev cX3_init : ByteArray := prog_1_method_1_code
def yX3_init : MethodName := ⟨RX3, "<init>", "()V"⟩
abbrev cX3_add : ByteArray := prog_1_method_2_code
def yX3_add : MethodName := ⟨RX3, "add", "(II)I"⟩
abbrev cX3_drop : ByteArray := prog_1_method_3_code
def yX3_drop : MethodName := ⟨RX3, "drop", "(II)I"⟩
abbrev cX3_bound : ByteArray := prog_1_method_4_code
def yX3_bound : MethodName := ⟨RX3, "bound", "(II)I"⟩
abbrev cX3_join : ByteArray := prog_1_method_5_code
def yX3_join : MethodName := ⟨RX3, "join", "(I)I"⟩
abbrev cX3_exchange : ByteArray := prog_1_method_6_code
def yX3_exchange : MethodName := ⟨RX3, "exchange", "()I"⟩
abbrev cX3_clear : ByteArray := prog_1_method_7_code
def yX3_clear : MethodName := ⟨RX3, "clear", "(I)I"⟩
abbrev cX3_rowOf : ByteArray := prog_1_method_8_code
def yX3_rowOf : MethodName := ⟨RX3, "rowOf", "(II)I"⟩
abbrev cX3_upperBit : ByteArray := prog_1_method_9_code
def yX3_upperBit : MethodName := ⟨RX3, "upperBit", "(II)I"⟩
abbrev cX3_partOf : ByteArray := prog_1_method_10_code
def yX3_partOf : MethodName := ⟨RX3, "partOf", "(III)I"⟩
abbrev cX3_sample : ByteArray := prog_1_method_11_code
def yX3_sample : MethodName := ⟨RX3, "sample", "(III)I"⟩
abbrev cX3_lowerBits : ByteArray := prog_1_method_12_code
def yX3_lowerBits : MethodName := ⟨RX3, "lowerBits", "(II)J"⟩
abbrev cX3_next : ByteArray := prog_1_method_13_code
def yX3_next : MethodName := ⟨RX3, "next", "(III)I"⟩
abbrev cX3_below : ByteArray := prog_1_method_14_code
def yX3_below : MethodName := ⟨RX3, "below", "(II)I"⟩
abbrev cX3_common : ByteArray := prog_1_method_15_code
def yX3_common : MethodName := ⟨RX3, "common", "(I)I"⟩
abbrev cX3_perNumber : ByteArray := prog_1_method_16_code
def yX3_perNumber : MethodName := ⟨RX3, "perNumber", "(I)I"⟩
abbrev cX3_bestBound : ByteArray := prog_1_method_17_code
def yX3_bestBound : MethodName := ⟨RX3, "bestBound", "(II)I"⟩
abbrev cX3_gapOf : ByteArray := prog_1_method_18_code
def yX3_gapOf : MethodName := ⟨RX3, "gapOf", "(III)I"⟩
abbrev cX3_count : ByteArray := prog_1_method_19_code
def yX3_count : MethodName := ⟨RX3, "count", "(I)I"⟩
abbrev cX3_undo : ByteArray := prog_1_method_20_code
def yX3_undo : MethodName := ⟨RX3, "undo", "()I"⟩
abbrev cX3_type : ByteArray := prog_1_method_21_code
def yX3_type : MethodName := ⟨RX3, "type", "(I)I"⟩
abbrev cX3_clearText : ByteArray := prog_1_method_22_code
def yX3_clearText : MethodName := ⟨RX3, "clearText", "()I"⟩
abbrev cX3_fault : ByteArray := prog_1_method_23_code
def yX3_fault : MethodName := ⟨RX3, "fault", "(II)I"⟩
abbrev cX3_read : ByteArray := prog_1_method_24_code
def yX3_read : MethodName := ⟨RX3, "read", "(I)I"⟩
abbrev cX3_isWithin : ByteArray := prog_1_method_25_code
def yX3_isWithin : MethodName := ⟨RX3, "isWithin", "(III)Z"⟩
abbrev cX3_isRow : ByteArray := prog_1_method_26_code
def yX3_isRow : MethodName := ⟨RX3, "isRow", "(I)Z"⟩
abbrev cX3_rowAt : ByteArray := prog_1_method_27_code
def yX3_rowAt : MethodName := ⟨RX3, "rowAt", "(I)LRisingParts$Row;"⟩
abbrev cX3_remember : ByteArray := prog_1_method_28_code
def yX3_remember : MethodName := ⟨RX3, "remember", "()V"⟩
abbrev cX3_samplesOf : ByteArray := prog_1_method_29_code
def yX3_samplesOf : MethodName := ⟨RX3, "samplesOf", "(I)I"⟩
abbrev cX3_sampledAhead : ByteArray := prog_1_method_30_code
def yX3_sampledAhead : MethodName := ⟨RX3, "sampledAhead", "(I)I"⟩
abbrev cX3_widthFor : ByteArray := prog_1_method_31_code
def yX3_widthFor : MethodName := ⟨RX3, "widthFor", "(II)I"⟩
abbrev cX3_zerosFor : ByteArray := prog_1_method_32_code
def yX3_zerosFor : MethodName := ⟨RX3, "zerosFor", "(II)I"⟩
abbrev cX3_bitsFor : ByteArray := prog_1_method_33_code
def yX3_bitsFor : MethodName := ⟨RX3, "bitsFor", "(II)I"⟩
abbrev cX3_lowestBestBound : ByteArray := prog_1_method_34_code
def yX3_lowestBestBound : MethodName := ⟨RX3, "lowestBestBound", "(LRisingParts$Row;)I"⟩
abbrev cX3_bitsOfFloat : ByteArray := prog_1_method_35_code
def yX3_bitsOfFloat : MethodName := ⟨RX3, "bitsOfFloat", "(F)I"⟩
abbrev cX3_joinedSize : ByteArray := prog_1_method_36_code
def yX3_joinedSize : MethodName := ⟨RX3, "joinedSize", "(Z)I"⟩
abbrev cX3_commonUnlike : ByteArray := prog_1_method_37_code
def yX3_commonUnlike : MethodName := ⟨RX3, "commonUnlike", "()I"⟩
abbrev cX3_commonRepeated : ByteArray := prog_1_method_38_code
def yX3_commonRepeated : MethodName := ⟨RX3, "commonRepeated", "()I"⟩
abbrev cX3_leastCommon : ByteArray := prog_1_method_39_code
def yX3_leastCommon : MethodName := ⟨RX3, "leastCommon", "()I"⟩
abbrev cX3_leastDifference : ByteArray := prog_1_method_40_code
def yX3_leastDifference : MethodName := ⟨RX3, "leastDifference", "()I"⟩
def RX4 : String := "RisingPartsModel"
def TX4 : u_T := fun k => match k with
  | 0 => ("RisingPartsModel", "s", "[I", true)
  | 1 => ("RisingPartsModel", "was", "[I", true)
  | 2 => ("RisingPartsModel", "begun", "[I", true)
  | 3 => ("RisingPartsModel", "states", "I", false)
  | 4 => ("RisingPartsModel", "text", "[C", true)
  | 5 => ("RisingPartsModel", "typed", "I", false)
  | 6 => ("RisingPartsModel", "reason", "I", false)
  | 7 => ("RisingPartsModel", "listed", "[I", true)
  | 8 => ("RisingPartsModel", "many", "I", false)
  | 9 => ("RisingPartsModel", "upper", "[I", true)
  | 10 => ("RisingPartsModel", "bits", "I", false)
  | 11 => ("RisingPartsModel", "zero", "[I", true)
  | 12 => ("RisingPartsModel", "zeros", "I", false)
  | 13 => ("RisingPartsModel", "found", "I", false)
  | 14 => ("RisingPartsModel", "work", "I", false)
  | _ => ("RisingPartsModel", "joined", "[I", true)
def tyX4 : Nat → FieldType := fun k => match k with
  | 0 => .array .int
  | 1 => .array .int
  | 2 => .array .int
  | 3 => .int
  | 4 => .array .char
  | 5 => .int
  | 6 => .int
  | 7 => .array .int
  | 8 => .int
  | 9 => .array .int
  | 10 => .int
  | 11 => .array .int
  | 12 => .int
  | 13 => .int
  | 14 => .int
  | _ => .array .int
abbrev wsX40 : List Cond := u_ws RX4 TX4 16
theorem nmX4 : ∀ a, a < 16 → ∀ b, b < 16 → a ≠ b → (TX4 a).2.1 ≠ (TX4 b).2.1 := by decide +kernel
theorem tyX4_ok : ∀ k, k < 16 → parseFieldDescriptor (TX4 k).2.2.1 = some (tyX4 k) := by decide +kernel
abbrev cX4_init : ByteArray := prog_6_method_1_code
def yX4_init : MethodName := ⟨RX4, "<init>", "()V"⟩
abbrev cX4_in : ByteArray := prog_6_method_2_code
def yX4_in : MethodName := ⟨RX4, "in", "(III)Z"⟩
abbrev cX4_many : ByteArray := prog_6_method_3_code
def yX4_many : MethodName := ⟨RX4, "many", "(I)I"⟩
abbrev cX4_number : ByteArray := prog_6_method_4_code
def yX4_number : MethodName := ⟨RX4, "number", "(II)I"⟩
abbrev cX4_keeps : ByteArray := prog_6_method_5_code
def yX4_keeps : MethodName := ⟨RX4, "keeps", "()V"⟩
abbrev cX4_acted : ByteArray := prog_6_method_6_code
def yX4_acted : MethodName := ⟨RX4, "acted", "(I)I"⟩
abbrev cX4_less : ByteArray := prog_6_method_7_code
def yX4_less : MethodName := ⟨RX4, "less", "(II)I"⟩
abbrev cX4_add : ByteArray := prog_6_method_8_code
def yX4_add : MethodName := ⟨RX4, "add", "(II)I"⟩
abbrev cX4_drop : ByteArray := prog_6_method_9_code
def yX4_drop : MethodName := ⟨RX4, "drop", "(II)I"⟩
abbrev cX4_bound : ByteArray := prog_6_method_10_code
def yX4_bound : MethodName := ⟨RX4, "bound", "(II)I"⟩
abbrev cX4_join : ByteArray := prog_6_method_11_code
def yX4_join : MethodName := ⟨RX4, "join", "(I)I"⟩
abbrev cX4_exchange : ByteArray := prog_6_method_12_code
def yX4_exchange : MethodName := ⟨RX4, "exchange", "()I"⟩
abbrev cX4_clear : ByteArray := prog_6_method_13_code
def yX4_clear : MethodName := ⟨RX4, "clear", "(I)I"⟩
abbrev cX4_widthOf : ByteArray := prog_6_method_14_code
def yX4_widthOf : MethodName := ⟨RX4, "widthOf", "(II)I"⟩
abbrev cX4_width : ByteArray := prog_6_method_15_code
def yX4_width : MethodName := ⟨RX4, "width", "(I)I"⟩
abbrev cX4_upperBits : ByteArray := prog_6_method_16_code
def yX4_upperBits : MethodName := ⟨RX4, "upperBits", "(II)I"⟩
abbrev cX4_sizeOf : ByteArray := prog_6_method_17_code
def yX4_sizeOf : MethodName := ⟨RX4, "sizeOf", "(II)I"⟩
abbrev cX4_size : ByteArray := prog_6_method_18_code
def yX4_size : MethodName := ⟨RX4, "size", "(I)I"⟩
abbrev cX4_placeOf : ByteArray := prog_6_method_19_code
def yX4_placeOf : MethodName := ⟨RX4, "placeOf", "(II)I"⟩
abbrev cX4_lays : ByteArray := prog_6_method_20_code
def yX4_lays : MethodName := ⟨RX4, "lays", "(I)V"⟩
abbrev cX4_unlike : ByteArray := prog_6_method_21_code
def yX4_unlike : MethodName := ⟨RX4, "unlike", "(I)I"⟩
abbrev cX4_greatestGap : ByteArray := prog_6_method_22_code
def yX4_greatestGap : MethodName := ⟨RX4, "greatestGap", "(I)I"⟩
abbrev cX4_rowOf : ByteArray := prog_6_method_23_code
def yX4_rowOf : MethodName := ⟨RX4, "rowOf", "(II)I"⟩
abbrev cX4_upperBit : ByteArray := prog_6_method_24_code
def yX4_upperBit : MethodName := ⟨RX4, "upperBit", "(II)I"⟩
abbrev cX4_lower : ByteArray := prog_6_method_25_code
def yX4_lower : MethodName := ⟨RX4, "lower", "(II)I"⟩
abbrev cX4_partOf : ByteArray := prog_6_method_26_code
def yX4_partOf : MethodName := ⟨RX4, "partOf", "(III)I"⟩
abbrev cX4_sample : ByteArray := prog_6_method_27_code
def yX4_sample : MethodName := ⟨RX4, "sample", "(III)I"⟩
abbrev cX4_lowerBits : ByteArray := prog_6_method_28_code
def yX4_lowerBits : MethodName := ⟨RX4, "lowerBits", "(II)J"⟩
abbrev cX4_finds : ByteArray := prog_6_method_29_code
def yX4_finds : MethodName := ⟨RX4, "finds", "(II)V"⟩
abbrev cX4_next : ByteArray := prog_6_method_30_code
def yX4_next : MethodName := ⟨RX4, "next", "(III)I"⟩
abbrev cX4_below : ByteArray := prog_6_method_31_code
def yX4_below : MethodName := ⟨RX4, "below", "(II)I"⟩
abbrev cX4_has : ByteArray := prog_6_method_32_code
def yX4_has : MethodName := ⟨RX4, "has", "(II)Z"⟩
abbrev cX4_times : ByteArray := prog_6_method_33_code
def yX4_times : MethodName := ⟨RX4, "times", "(II)I"⟩
abbrev cX4_difference : ByteArray := prog_6_method_34_code
def yX4_difference : MethodName := ⟨RX4, "difference", "()I"⟩
abbrev cX4_common : ByteArray := prog_6_method_35_code
def yX4_common : MethodName := ⟨RX4, "common", "(I)I"⟩
abbrev cX4_quotient : ByteArray := prog_6_method_36_code
def yX4_quotient : MethodName := ⟨RX4, "quotient", "(II)I"⟩
abbrev cX4_perNumber : ByteArray := prog_6_method_37_code
def yX4_perNumber : MethodName := ⟨RX4, "perNumber", "(I)I"⟩
abbrev cX4_bestBound : ByteArray := prog_6_method_38_code
def yX4_bestBound : MethodName := ⟨RX4, "bestBound", "(II)I"⟩
abbrev cX4_gapOf : ByteArray := prog_6_method_39_code
def yX4_gapOf : MethodName := ⟨RX4, "gapOf", "(III)I"⟩
abbrev cX4_count : ByteArray := prog_6_method_40_code
def yX4_count : MethodName := ⟨RX4, "count", "(I)I"⟩
abbrev cX4_undo : ByteArray := prog_6_method_41_code
def yX4_undo : MethodName := ⟨RX4, "undo", "()I"⟩
abbrev cX4_type : ByteArray := prog_6_method_42_code
def yX4_type : MethodName := ⟨RX4, "type", "(I)I"⟩
abbrev cX4_clearText : ByteArray := prog_6_method_43_code
def yX4_clearText : MethodName := ⟨RX4, "clearText", "()I"⟩
abbrev cX4_sign : ByteArray := prog_6_method_44_code
def yX4_sign : MethodName := ⟨RX4, "sign", "(I)I"⟩
abbrev cX4_wrong : ByteArray := prog_6_method_45_code
def yX4_wrong : MethodName := ⟨RX4, "wrong", "(II)I"⟩
abbrev cX4_faulty : ByteArray := prog_6_method_46_code
def yX4_faulty : MethodName := ⟨RX4, "faulty", "(I)I"⟩
abbrev cX4_fault : ByteArray := prog_6_method_47_code
def yX4_fault : MethodName := ⟨RX4, "fault", "(II)I"⟩
abbrev cX4_read : ByteArray := prog_6_method_48_code
def yX4_read : MethodName := ⟨RX4, "read", "(I)I"⟩
def RJ9 : String := "java/lang/Math"
def TJ9 : u_T := fun k => match k with
  | _ => ("", "", "", false)
def tyJ9 : Nat → FieldType := fun k => match k with
  | _ => .int
abbrev cJ9_abs_0f7a4 : ByteArray := prog_7_method_59_code
def yJ9_abs_0f7a4 : MethodName := ⟨RJ9, "abs", "(I)I"⟩
abbrev cJ9_max_7cf53 : ByteArray := prog_7_method_65_code
def yJ9_max_7cf53 : MethodName := ⟨RJ9, "max", "(II)I"⟩
abbrev cJ9_min_7cf53 : ByteArray := prog_7_method_69_code
def yJ9_min_7cf53 : MethodName := ⟨RJ9, "min", "(II)I"⟩
def RL : String := "RisingPartsLaw"
abbrev cL_law : ByteArray := code
def yL_law : MethodName := ⟨RL, "law", "([I)Z"⟩
abbrev vwCl : List vw_C := [(RX0, TX0, 3), (RX1, TX1, 3), (RX2, TX2, 2), (RX3, TX3, 4), (RX4, TX4, 16)]
theorem inX0 : ∀ w ∈ wsX00, w ∈ lw_tbl := by decide +kernel
theorem inX1 : ∀ w ∈ wsX10, w ∈ lw_tbl := by decide +kernel
theorem inX2 : ∀ w ∈ wsX20, w ∈ lw_tbl := by decide +kernel
theorem inX3 : ∀ w ∈ wsX30, w ∈ lw_tbl := by decide +kernel
theorem inX4 : ∀ w ∈ wsX40, w ∈ lw_tbl := by decide +kernel
end
section
/-- the words that a call may hand on -/
def gT : List Cond := lw_tbl.filter goodWord
theorem gT_in {w : Cond} (h : w ∈ lw_tbl) (hg : goodWord w = true) : w ∈ gT := List.mem_filter.mpr ⟨h, hg⟩
theorem gT_good : GoodIn gT gT := fun w hw => ⟨hw, good_of_word (List.mem_filter.mp hw).2⟩
theorem gT_u {ws : List Cond} (h : ∀ w ∈ ws, w ∈ lw_tbl) (hg : ws.all goodWord = true) : ∀ w ∈ ws, w ∈ gT := fun w hw => gT_in (h w hw) (List.all_eq_true.mp hg w hw)
theorem gX0 : ∀ w ∈ wsX00, w ∈ gT := gT_u inX0 (by decide +kernel)
theorem gX1 : ∀ w ∈ wsX10, w ∈ gT := gT_u inX1 (by decide +kernel)
theorem gX2 : ∀ w ∈ wsX20, w ∈ gT := gT_u inX2 (by decide +kernel)
theorem gX3 : ∀ w ∈ wsX30, w ∈ gT := gT_u inX3 (by decide +kernel)
theorem gX4 : ∀ w ∈ wsX40, w ∈ gT := gT_u inX4 (by decide +kernel)
/-! THE FRAME: the worlds of this claim as functions of numbers, and one judgement WP over them -/
abbrev rV : Type := Nat × Int
abbrev rW : Type := Int → Int → Int
def vi (a : Int) : rV := (0, a)
def vr (a : Int) : rV := (1, a)
def vl (a : Int) : rV := (2, a)
def vf (a : Int) : rV := (3, a)
def vu : rV := (9, 0)
def fI (a : Int) : Int32 := Int32.ofInt a
def fL (a : Int) : Int64 := Int64.ofInt a
def fF (a : Int) : UInt32 := UInt32.ofNat a.toNat
def cv (ad : Int → Nat) (v : rV) : Value := match v.1 with
  | 0 => .int (fI v.2)
  | 1 => .ref (ad v.2)
  | 2 => .long (fL v.2)
  | _ => .float (fF v.2)
def wset (w : rW) (r k v : Int) : rW := fun r' k' => if r' = r ∧ k' = k then v else w r' k'
def fl (ad : Int → Nat) (w : rW) (r : Int) : Nat → List Value
  | 0 => [.ref (ad (w r 0)), .int (fI (w r 1)), .int (fI (w r 2))]
  | 1 => [.ref (ad (w r 0)), .int (fI (w r 1)), .int (fI (w r 2))]
  | 2 => [.ref (ad (w r 0)), .int (fI (w r 1))]
  | 3 => [.ref (ad (w r 0)), .ref (ad (w r 1)), .ref (ad (w r 2)), .ref (ad (w r 3))]
  | _ => [.ref (ad (w r 0)), .ref (ad (w r 1)), .ref (ad (w r 2)), .int (fI (w r 3)), .ref (ad (w r 4)), .int (fI (w r 5)), .int (fI (w r 6)), .ref (ad (w r 7)), .int (fI (w r 8)), .ref (ad (w r 9)), .int (fI (w r 10)), .ref (ad (w r 11)), .int (fI (w r 12)), .int (fI (w r 13)), .int (fI (w r 14)), .ref (ad (w r 15))]
def ar (c : ClassId) (n : Nat) (w : rW) (r : Int) : va_E := .inl (c, n, .inl (fun j : Nat => fI (w r j)))
def ob (ad : Int → Nat) (w : rW) (r : Int) (ci : Nat) : va_E := .inr (ci, fl ad w r ci)
def wl (ad : Int → Nat) (cI cC : ClassId) (w : rW) : va_W :=
  [(ad 0, ob ad w 0 3), (ad 1, ob ad w 1 1), (ad 2, ar cI 40 w 2), (ad 3, ob ad w 3 1), (ad 4, ar cI 40 w 4), (ad 5, ob ad w 5 0), (ad 6, ar cI 336 w 6), (ad 7, ob ad w 7 2), (ad 8, ar cI 60 w 8),
   (ad 9, ob ad w 9 4), (ad 10, ar cI 84 w 10), (ad 11, ar cI 336 w 11), (ad 12, ar cI 84 w 12), (ad 13, ar cC 60 w 13), (ad 14, ar cI 41 w 14), (ad 15, ar cI 4200 w 15), (ad 16, ar cI 4200 w 16), (ad 17, ar cI 80 w 17)]
/-- the class of an object, by its number -/
def oc (r : Int) : Nat := if r = 0 then 3 else if r = 1 then 1 else if r = 3 then 1 else if r = 5 then 0 else if r = 7 then 2 else if r = 9 then 4 else 99
/-- the length of an array of ints, by its number; 0: none -/
def al (r : Int) : Int := if r = 2 then 40 else if r = 4 then 40 else if r = 6 then 336 else if r = 8 then 60 else if r = 10 then 84 else if r = 11 then 336 else if r = 12 then 84 else if r = 14 then 41 else if r = 15 then 4200 else if r = 16 then 4200 else if r = 17 then 80 else 0
theorem oc_at {ad : Int → Nat} {cI cC : ClassId} {w : rW} {r : Int} {ci : Nat} (h : oc r = ci) (hc : ci ≤ 4) : ∃ q0 : Nat, (wl ad cI cC w)[q0]? = some (ad r, .inr (ci, fl ad w r ci)) := by
  subst h
  unfold oc at hc ⊢
  repeat' split
  all_goals first | (exfalso; simp_all; done) | subst_vars
  · exact ⟨0, rfl⟩
  · exact ⟨1, rfl⟩
  · exact ⟨3, rfl⟩
  · exact ⟨5, rfl⟩
  · exact ⟨7, rfl⟩
  · exact ⟨9, rfl⟩
theorem al_at {ad : Int → Nat} {cI cC : ClassId} {w : rW} {r i : Int} (h0 : 0 ≤ i) (h : i < al r) : ∃ q0 n : Nat, (n : Int) = al r ∧ n < 5000 ∧ (wl ad cI cC w)[q0]? = some (ad r, .inl (cI, n, .inl (fun j : Nat => fI (w r j)))) := by
  unfold al at h ⊢
  repeat' split
  all_goals first | (exfalso; simp_all; omega) | subst_vars
  · exact ⟨2, 40, rfl, by decide, rfl⟩
  · exact ⟨4, 40, rfl, by decide, rfl⟩
  · exact ⟨6, 336, rfl, by decide, rfl⟩
  · exact ⟨8, 60, rfl, by decide, rfl⟩
  · exact ⟨10, 84, rfl, by decide, rfl⟩
  · exact ⟨11, 336, rfl, by decide, rfl⟩
  · exact ⟨12, 84, rfl, by decide, rfl⟩
  · exact ⟨14, 41, rfl, by decide, rfl⟩
  · exact ⟨15, 4200, rfl, by decide, rfl⟩
  · exact ⟨16, 4200, rfl, by decide, rfl⟩
  · exact ⟨17, 80, rfl, by decide, rfl⟩
theorem fl_other {ad : Int → Nat} {w : rW} {r r' k v : Int} {ci : Nat} (h : r' ≠ r) : fl ad (wset w r k v) r' ci = fl ad w r' ci := by
  have e : ∀ j, wset w r k v r' j = w r' j := fun j => by unfold wset; rw [if_neg (fun q => h q.1)]
  unfold fl; split <;> simp only [e]
theorem ar_other {c : ClassId} {n : Nat} {w : rW} {r r' k v : Int} (h : r' ≠ r) : ar c n (wset w r k v) r' = ar c n w r' := by
  have e : ∀ j, wset w r k v r' j = w r' j := fun j => by unfold wset; rw [if_neg (fun q => h q.1)]
  unfold ar; simp only [e]
theorem ob_other {ad : Int → Nat} {w : rW} {r r' k v : Int} {ci : Nat} (h : r' ≠ r) : ob ad (wset w r k v) r' ci = ob ad w r' ci := by
  unfold ob; rw [fl_other h]
theorem ar_self {c : ClassId} {n : Nat} {w : rW} {r k v : Int} (h : 0 ≤ k) : (Sum.inl (c, n, Sum.inl (upd (fun j : Nat => fI (w r j)) k.toNat (fI v))) : va_E) = ar c n (wset w r k v) r := by
  unfold ar
  congr 4
  funext j
  unfold upd wset
  by_cases hj : j = k.toNat
  · have : (j : Int) = k := by omega
    rw [if_pos hj, if_pos ⟨rfl, this⟩]
  · have : ¬ (j : Int) = k := by omega
    rw [if_neg hj, if_neg (fun q => this q.2)]
theorem al_put {ad : Int → Nat} {cI cC : ClassId} {w : rW} {r i : Int} (h0 : 0 ≤ i) (h : i < al r) : ∃ q0 n : Nat, (n : Int) = al r ∧ n < 5000 ∧ (wl ad cI cC w)[q0]? = some (ad r, .inl (cI, n, .inl (fun j : Nat => fI (w r j)))) ∧ ∀ v : Int, (wl ad cI cC w).set q0 (ad r, .inl (cI, n, .inl (upd (fun j : Nat => fI (w r j)) i.toNat (fI v)))) = wl ad cI cC (wset w r i v) := by
  unfold al at h ⊢
  repeat' split
  all_goals first | (exfalso; simp_all; omega) | subst_vars
  · refine ⟨2, 40, rfl, by decide, rfl, fun v => ?_⟩
    rw [ar_self h0]
    simp [wl, ob_other, ar_other]
  · refine ⟨4, 40, rfl, by decide, rfl, fun v => ?_⟩
    rw [ar_self h0]
    simp [wl, ob_other, ar_other]
  · refine ⟨6, 336, rfl, by decide, rfl, fun v => ?_⟩
    rw [ar_self h0]
    simp [wl, ob_other, ar_other]
  · refine ⟨8, 60, rfl, by decide, rfl, fun v => ?_⟩
    rw [ar_self h0]
    simp [wl, ob_other, ar_other]
  · refine ⟨10, 84, rfl, by decide, rfl, fun v => ?_⟩
    rw [ar_self h0]
    simp [wl, ob_other, ar_other]
  · refine ⟨11, 336, rfl, by decide, rfl, fun v => ?_⟩
    rw [ar_self h0]
    simp [wl, ob_other, ar_other]
  · refine ⟨12, 84, rfl, by decide, rfl, fun v => ?_⟩
    rw [ar_self h0]
    simp [wl, ob_other, ar_other]
  · refine ⟨14, 41, rfl, by decide, rfl, fun v => ?_⟩
    rw [ar_self h0]
    simp [wl, ob_other, ar_other]
  · refine ⟨15, 4200, rfl, by decide, rfl, fun v => ?_⟩
    rw [ar_self h0]
    simp [wl, ob_other, ar_other]
  · refine ⟨16, 4200, rfl, by decide, rfl, fun v => ?_⟩
    rw [ar_self h0]
    simp [wl, ob_other, ar_other]
  · refine ⟨17, 80, rfl, by decide, rfl, fun v => ?_⟩
    rw [ar_self h0]
    simp [wl, ob_other, ar_other]
theorem ch_put {ad : Int → Nat} {cI cC : ClassId} {w : rW} {i v : Int} (h0 : 0 ≤ i) : (wl ad cI cC w).set 13 (ad 13, .inl (cC, 60, .inl (upd (fun j : Nat => fI (w 13 j)) i.toNat (fI v)))) = wl ad cI cC (wset w 13 i v) := by
  rw [ar_self h0]
  simp [wl, ob_other, ar_other]
theorem pt_1_1 {ad : Int → Nat} {cI cC : ClassId} {w : rW} {r : Int} (h : oc r = 1) : ∃ q0 : Nat, (wl ad cI cC w)[q0]? = some (ad r, .inr (1, fl ad w r 1)) ∧ ∀ v : Int, (wl ad cI cC w).set q0 (ad r, .inr (1, (fl ad w r 1).set 1 (cv ad (vi v)))) = wl ad cI cC (wset w r 1 v) := by
  unfold oc at h
  repeat' split at h
  all_goals first | (exfalso; simp_all; done) | subst_vars
  · refine ⟨1, rfl, fun v => ?_⟩
    simp [wl, ob_other, ar_other, ob, fl, wset, cv, vi]
  · refine ⟨3, rfl, fun v => ?_⟩
    simp [wl, ob_other, ar_other, ob, fl, wset, cv, vi]
theorem pt_1_2 {ad : Int → Nat} {cI cC : ClassId} {w : rW} {r : Int} (h : oc r = 1) : ∃ q0 : Nat, (wl ad cI cC w)[q0]? = some (ad r, .inr (1, fl ad w r 1)) ∧ ∀ v : Int, (wl ad cI cC w).set q0 (ad r, .inr (1, (fl ad w r 1).set 2 (cv ad (vi v)))) = wl ad cI cC (wset w r 2 v) := by
  unfold oc at h
  repeat' split at h
  all_goals first | (exfalso; simp_all; done) | subst_vars
  · refine ⟨1, rfl, fun v => ?_⟩
    simp [wl, ob_other, ar_other, ob, fl, wset, cv, vi]
  · refine ⟨3, rfl, fun v => ?_⟩
    simp [wl, ob_other, ar_other, ob, fl, wset, cv, vi]
theorem pt_0_1 {ad : Int → Nat} {cI cC : ClassId} {w : rW} {r : Int} (h : oc r = 0) : ∃ q0 : Nat, (wl ad cI cC w)[q0]? = some (ad r, .inr (0, fl ad w r 0)) ∧ ∀ v : Int, (wl ad cI cC w).set q0 (ad r, .inr (0, (fl ad w r 0).set 1 (cv ad (vi v)))) = wl ad cI cC (wset w r 1 v) := by
  unfold oc at h
  repeat' split at h
  all_goals first | (exfalso; simp_all; done) | subst_vars
  · refine ⟨5, rfl, fun v => ?_⟩
    simp [wl, ob_other, ar_other, ob, fl, wset, cv, vi]
theorem pt_0_2 {ad : Int → Nat} {cI cC : ClassId} {w : rW} {r : Int} (h : oc r = 0) : ∃ q0 : Nat, (wl ad cI cC w)[q0]? = some (ad r, .inr (0, fl ad w r 0)) ∧ ∀ v : Int, (wl ad cI cC w).set q0 (ad r, .inr (0, (fl ad w r 0).set 2 (cv ad (vi v)))) = wl ad cI cC (wset w r 2 v) := by
  unfold oc at h
  repeat' split at h
  all_goals first | (exfalso; simp_all; done) | subst_vars
  · refine ⟨5, rfl, fun v => ?_⟩
    simp [wl, ob_other, ar_other, ob, fl, wset, cv, vi]
theorem pt_2_1 {ad : Int → Nat} {cI cC : ClassId} {w : rW} {r : Int} (h : oc r = 2) : ∃ q0 : Nat, (wl ad cI cC w)[q0]? = some (ad r, .inr (2, fl ad w r 2)) ∧ ∀ v : Int, (wl ad cI cC w).set q0 (ad r, .inr (2, (fl ad w r 2).set 1 (cv ad (vi v)))) = wl ad cI cC (wset w r 1 v) := by
  unfold oc at h
  repeat' split at h
  all_goals first | (exfalso; simp_all; done) | subst_vars
  · refine ⟨7, rfl, fun v => ?_⟩
    simp [wl, ob_other, ar_other, ob, fl, wset, cv, vi]
theorem pt_3_0 {ad : Int → Nat} {cI cC : ClassId} {w : rW} {r : Int} (h : oc r = 3) : ∃ q0 : Nat, (wl ad cI cC w)[q0]? = some (ad r, .inr (3, fl ad w r 3)) ∧ ∀ v : Int, (wl ad cI cC w).set q0 (ad r, .inr (3, (fl ad w r 3).set 0 (cv ad (vr v)))) = wl ad cI cC (wset w r 0 v) := by
  unfold oc at h
  repeat' split at h
  all_goals first | (exfalso; simp_all; done) | subst_vars
  · refine ⟨0, rfl, fun v => ?_⟩
    simp [wl, ob_other, ar_other, ob, fl, wset, cv, vr]
theorem pt_3_1 {ad : Int → Nat} {cI cC : ClassId} {w : rW} {r : Int} (h : oc r = 3) : ∃ q0 : Nat, (wl ad cI cC w)[q0]? = some (ad r, .inr (3, fl ad w r 3)) ∧ ∀ v : Int, (wl ad cI cC w).set q0 (ad r, .inr (3, (fl ad w r 3).set 1 (cv ad (vr v)))) = wl ad cI cC (wset w r 1 v) := by
  unfold oc at h
  repeat' split at h
  all_goals first | (exfalso; simp_all; done) | subst_vars
  · refine ⟨0, rfl, fun v => ?_⟩
    simp [wl, ob_other, ar_other, ob, fl, wset, cv, vr]
theorem pt_4_3 {ad : Int → Nat} {cI cC : ClassId} {w : rW} {r : Int} (h : oc r = 4) : ∃ q0 : Nat, (wl ad cI cC w)[q0]? = some (ad r, .inr (4, fl ad w r 4)) ∧ ∀ v : Int, (wl ad cI cC w).set q0 (ad r, .inr (4, (fl ad w r 4).set 3 (cv ad (vi v)))) = wl ad cI cC (wset w r 3 v) := by
  unfold oc at h
  repeat' split at h
  all_goals first | (exfalso; simp_all; done) | subst_vars
  · refine ⟨9, rfl, fun v => ?_⟩
    simp [wl, ob_other, ar_other, ob, fl, wset, cv, vi]
theorem pt_4_5 {ad : Int → Nat} {cI cC : ClassId} {w : rW} {r : Int} (h : oc r = 4) : ∃ q0 : Nat, (wl ad cI cC w)[q0]? = some (ad r, .inr (4, fl ad w r 4)) ∧ ∀ v : Int, (wl ad cI cC w).set q0 (ad r, .inr (4, (fl ad w r 4).set 5 (cv ad (vi v)))) = wl ad cI cC (wset w r 5 v) := by
  unfold oc at h
  repeat' split at h
  all_goals first | (exfalso; simp_all; done) | subst_vars
  · refine ⟨9, rfl, fun v => ?_⟩
    simp [wl, ob_other, ar_other, ob, fl, wset, cv, vi]
theorem pt_4_6 {ad : Int → Nat} {cI cC : ClassId} {w : rW} {r : Int} (h : oc r = 4) : ∃ q0 : Nat, (wl ad cI cC w)[q0]? = some (ad r, .inr (4, fl ad w r 4)) ∧ ∀ v : Int, (wl ad cI cC w).set q0 (ad r, .inr (4, (fl ad w r 4).set 6 (cv ad (vi v)))) = wl ad cI cC (wset w r 6 v) := by
  unfold oc at h
  repeat' split at h
  all_goals first | (exfalso; simp_all; done) | subst_vars
  · refine ⟨9, rfl, fun v => ?_⟩
    simp [wl, ob_other, ar_other, ob, fl, wset, cv, vi]
theorem pt_4_8 {ad : Int → Nat} {cI cC : ClassId} {w : rW} {r : Int} (h : oc r = 4) : ∃ q0 : Nat, (wl ad cI cC w)[q0]? = some (ad r, .inr (4, fl ad w r 4)) ∧ ∀ v : Int, (wl ad cI cC w).set q0 (ad r, .inr (4, (fl ad w r 4).set 8 (cv ad (vi v)))) = wl ad cI cC (wset w r 8 v) := by
  unfold oc at h
  repeat' split at h
  all_goals first | (exfalso; simp_all; done) | subst_vars
  · refine ⟨9, rfl, fun v => ?_⟩
    simp [wl, ob_other, ar_other, ob, fl, wset, cv, vi]
theorem pt_4_10 {ad : Int → Nat} {cI cC : ClassId} {w : rW} {r : Int} (h : oc r = 4) : ∃ q0 : Nat, (wl ad cI cC w)[q0]? = some (ad r, .inr (4, fl ad w r 4)) ∧ ∀ v : Int, (wl ad cI cC w).set q0 (ad r, .inr (4, (fl ad w r 4).set 10 (cv ad (vi v)))) = wl ad cI cC (wset w r 10 v) := by
  unfold oc at h
  repeat' split at h
  all_goals first | (exfalso; simp_all; done) | subst_vars
  · refine ⟨9, rfl, fun v => ?_⟩
    simp [wl, ob_other, ar_other, ob, fl, wset, cv, vi]
theorem pt_4_12 {ad : Int → Nat} {cI cC : ClassId} {w : rW} {r : Int} (h : oc r = 4) : ∃ q0 : Nat, (wl ad cI cC w)[q0]? = some (ad r, .inr (4, fl ad w r 4)) ∧ ∀ v : Int, (wl ad cI cC w).set q0 (ad r, .inr (4, (fl ad w r 4).set 12 (cv ad (vi v)))) = wl ad cI cC (wset w r 12 v) := by
  unfold oc at h
  repeat' split at h
  all_goals first | (exfalso; simp_all; done) | subst_vars
  · refine ⟨9, rfl, fun v => ?_⟩
    simp [wl, ob_other, ar_other, ob, fl, wset, cv, vi]
theorem pt_4_13 {ad : Int → Nat} {cI cC : ClassId} {w : rW} {r : Int} (h : oc r = 4) : ∃ q0 : Nat, (wl ad cI cC w)[q0]? = some (ad r, .inr (4, fl ad w r 4)) ∧ ∀ v : Int, (wl ad cI cC w).set q0 (ad r, .inr (4, (fl ad w r 4).set 13 (cv ad (vi v)))) = wl ad cI cC (wset w r 13 v) := by
  unfold oc at h
  repeat' split at h
  all_goals first | (exfalso; simp_all; done) | subst_vars
  · refine ⟨9, rfl, fun v => ?_⟩
    simp [wl, ob_other, ar_other, ob, fl, wset, cv, vi]
theorem pt_4_14 {ad : Int → Nat} {cI cC : ClassId} {w : rW} {r : Int} (h : oc r = 4) : ∃ q0 : Nat, (wl ad cI cC w)[q0]? = some (ad r, .inr (4, fl ad w r 4)) ∧ ∀ v : Int, (wl ad cI cC w).set q0 (ad r, .inr (4, (fl ad w r 4).set 14 (cv ad (vi v)))) = wl ad cI cC (wset w r 14 v) := by
  unfold oc at h
  repeat' split at h
  all_goals first | (exfalso; simp_all; done) | subst_vars
  · refine ⟨9, rfl, fun v => ?_⟩
    simp [wl, ob_other, ar_other, ob, fl, wset, cv, vi]
/-- the locals -/
def lR (ad : Int → Nat) (nL : Nat) (L : List rV) (ls : Array Slot) : Prop := ls.size = nL ∧ lv_wf ls ∧ ∀ (k : Nat) (v : rV), L[k]? = some v → v.1 < 9 → ls[k]? = some (.val (cv ad v))
def prs (ad : Int → Nat) (L : List rV) : List (Nat × Value) := (L.zipIdx.filter (fun q => decide (q.1.1 < 9))).map (fun q => (q.2, cv ad q.1))
theorem mem_prs {ad : Int → Nat} {L : List rV} {q : Nat × Value} : q ∈ prs ad L ↔ ∃ (k : Nat) (v : rV), L[k]? = some v ∧ v.1 < 9 ∧ q = (k, cv ad v) := by
  unfold prs
  constructor
  · intro h
    obtain ⟨⟨v, k⟩, h1, h2⟩ := List.mem_map.mp h
    obtain ⟨h3, h4⟩ := List.mem_filter.mp h1
    rw [List.mem_zipIdx_iff_getElem?] at h3
    exact ⟨k, v, h3, by simpa using h4, h2.symm⟩
  · rintro ⟨k, v, h1, h2, rfl⟩
    refine List.mem_map.mpr ⟨(v, k), List.mem_filter.mpr ⟨?_, by simpa using h2⟩, rfl⟩
    rw [List.mem_zipIdx_iff_getElem?]
    exact h1
theorem lR.has {ad : Int → Nat} {nL : Nat} {L : List rV} {ls : Array Slot} (h : lR ad nL L ls) : lv_has ls nL (prs ad L) := by
  refine ⟨h.1, h.2.1, fun q hq => ?_⟩
  obtain ⟨k, v, h1, h2, rfl⟩ := mem_prs.mp hq
  exact h.2.2 k v h1 h2
theorem cv_cat {ad : Int → Nat} {v : rV} (h : (cv ad v).category = 2) : v.1 = 2 := by
  obtain ⟨t, a⟩ := v
  unfold cv at h
  split at h <;> simp_all [Value.category]
/-- no long stands right ahead of the place k -/
def nlb (L : List rV) (k : Nat) : Bool := match k with
  | 0 => true
  | j + 1 => match L[j]? with
    | some v => v.1 != 2
    | none => true
theorem nlb_at {L : List rV} {k j : Nat} {v : rV} (h : nlb L k = true) (hj : j + 1 = k) (hv : L[j]? = some v) : v.1 ≠ 2 := by
  subst hj
  simp [nlb, hv] at h
  exact h
theorem lR.st1 {ad : Int → Nat} {nL i : Nat} {L : List rV} {x : rV} {ls' : Array Slot} (hk : nlb L i = true) (h : lv_has ls' nL ((i, cv ad x) :: (prs ad L).filter (fun q => !(q.1 == i) && !(q.1 + 1 == i && q.2.category == 2)))) : lR ad nL (L.set i x) ls' := by
  refine ⟨h.1, h.2.1, fun k v hv hv9 => ?_⟩
  by_cases e : k = i
  · subst e
    have hl : k < L.length := by
      have := (List.getElem?_eq_some_iff.mp hv).1
      simpa using this
    rw [List.getElem?_set_self hl] at hv
    cases hv
    exact h.2.2 _ List.mem_cons_self
  · rw [List.getElem?_set_ne (Ne.symm e)] at hv
    refine h.2.2 (k, cv ad v) (List.mem_cons_of_mem _ (List.mem_filter.mpr ⟨mem_prs.mpr ⟨k, v, hv, hv9, rfl⟩, ?_⟩))
    simp only [Bool.and_eq_true, Bool.not_eq_true', beq_eq_false_iff_ne, ne_eq, Bool.and_eq_false_iff]
    refine ⟨e, ?_⟩
    by_cases e2 : k + 1 = i
    · exact Or.inr (fun q => nlb_at hk e2 hv (cv_cat q))
    · exact Or.inl e2
theorem lR.st2 {ad : Int → Nat} {nL i : Nat} {L : List rV} {x : rV} {ls' : Array Slot} (hk : nlb L i = true) (h : lv_has ls' nL ((i, cv ad x) :: (prs ad L).filter (fun q => !(q.1 == i) && (!(q.1 == i + 1) && !(q.1 + 1 == i && q.2.category == 2))))) : lR ad nL ((L.set i x).set (i + 1) vu) ls' := by
  refine ⟨h.1, h.2.1, fun k v hv hv9 => ?_⟩
  by_cases e1 : k = i + 1
  · subst e1
    by_cases hl : i + 1 < (L.set i x).length
    · rw [List.getElem?_set_self hl] at hv
      cases hv
      exact absurd hv9 (by decide)
    · have := (List.getElem?_eq_some_iff.mp hv).1
      simp at this hl
      omega
  rw [List.getElem?_set_ne (Ne.symm e1)] at hv
  by_cases e : k = i
  · subst e
    have hl : k < L.length := by
      have := (List.getElem?_eq_some_iff.mp hv).1
      simpa using this
    rw [List.getElem?_set_self hl] at hv
    cases hv
    exact h.2.2 _ List.mem_cons_self
  · rw [List.getElem?_set_ne (Ne.symm e)] at hv
    refine h.2.2 (k, cv ad v) (List.mem_cons_of_mem _ (List.mem_filter.mpr ⟨mem_prs.mpr ⟨k, v, hv, hv9, rfl⟩, ?_⟩))
    simp only [Bool.and_eq_true, Bool.not_eq_true', beq_eq_false_iff_ne, ne_eq, Bool.and_eq_false_iff]
    refine ⟨e, e1, ?_⟩
    by_cases e2 : k + 1 = i
    · exact Or.inr (fun q => nlb_at hk e2 hv (cv_cat q))
    · exact Or.inl e2
theorem lR.forget {ad : Int → Nat} {nL : Nat} {L L' : List rV} {ls : Array Slot} (h : lR ad nL L ls) (hf : ∀ (k : Nat) (v : rV), L'[k]? = some v → v.1 < 9 → L[k]? = some v) : lR ad nL L' ls :=
  ⟨h.1, h.2.1, fun k v hv h9 => h.2.2 k v (hf k v hv h9) h9⟩
/-- a method: its name, bytes, locals, what it returns, its room's frames and locals -/
abbrev MI : Type := MethodName × ByteArray × Nat × Option FieldType × Nat × Nat
abbrev mN (μ : MI) : MethodName := μ.1
abbrev mB (μ : MI) : ByteArray := μ.2.1
abbrev mL (μ : MI) : Nat := μ.2.2.1
abbrev mR (μ : MI) : Option FieldType := μ.2.2.2.1
abbrev mF (μ : MI) : Nat := μ.2.2.2.2.1
abbrev mO (μ : MI) : Nat := μ.2.2.2.2.2
/-- what a method may answer, and the instruction that answers it -/
def rEnd (μ : MI) (pc : Nat) (v : List rV) : Prop :=
  (mR μ = none ∧ v = [] ∧ decode (mB μ) pc = .ok (.return_, 1)) ∨ (mR μ = some .int ∧ (∃ a, v = [vi a]) ∧ decode (mB μ) pc = .ok (.ireturn, 1)) ∨ (mR μ = some .boolean ∧ (v = [vi 0] ∨ v = [vi 1]) ∧ decode (mB μ) pc = .ok (.ireturn, 1)) ∨
  (mR μ = some .long ∧ (∃ a, v = [vl a]) ∧ decode (mB μ) pc = .ok (.lreturn, 1)) ∨ ((∃ C, mR μ = some (.object C)) ∧ (∃ a, v = [vr a]) ∧ decode (mB μ) pc = .ok (.areturn, 1))
abbrev Tys (cI cC : ClassId) : List (ClassId × FieldType) := [(cI, .int), (cC, .char)]
def Cx (μ : MI) (p : Program) (R : Room) (s : State) (m : MethodId) (args : Array Value) (c : Code) (D : va_G) (cI cC : ClassId) (A : Nat → Prop) (H0 : Heap) : Prop :=
  p.tables.exec = Jvm.exec ∧ c.code = mB μ ∧ c.maxLocals = mL μ ∧ s.vm.findClass (mN μ).cls = some m.cls ∧ (∀ w ∈ gT, w.before args s = true) ∧ mF μ ≤ R.frames ∧ mO μ ≤ R.locals ∧ va_K D vwCl (Tys cI cC) s ∧ (∀ q : Nat, H0.size ≤ q → A q)
def WP (μ : MI) (pc : Nat) (L st : List rV) (w : rW) (Q : List rV → rW → Prop) : Prop :=
  ∀ (p : Program) (l : Launch) (e : Env) (R : Room) (s : State) (m : MethodId) (args : Array Value) (below : List Frame) (meth : Method) (c : Code) (D : va_G) (cI cC : ClassId) (A : Nat → Prop) (H0 : Heap) (ad : Int → Nat) (ls : Array Slot) (H : Heap) (locs : List Loc) (cells slots : Nat) (QQ : State → Prop),
    Cx μ p R s m args c D cI cC A H0 → cells ≤ R.cells → slots ≤ R.slots → va_P D vwCl (wl ad cI cC w) H → va_D A (wl ad cI cC w) → va_S A H0 H locs → lR ad (mL μ) L ls →
    (∀ (v : List rV) (w' : rW) (pc' : Nat) (H' : Heap) (locs' : List Loc) (ls' : Array Slot), Q v w' → rEnd μ pc' v → va_P D vwCl (wl ad cI cC w') H' → va_D A (wl ad cI cC w') → va_S A H0 H' locs' → W p l e R s m args below meth c H' locs' cells slots QQ (F0 m pc' ls' (v.map (cv ad)))) →
    W p l e R s m args below meth c H locs cells slots QQ (F0 m pc ls (st.map (cv ad)))
end
section
/-- a method's words: its own code, and all that the tables say -/
abbrev wsT (μ : MI) : List Cond := .code (mN μ) (mB μ) (mL μ) (mR μ) :: gT
theorem wsT_good {μ : MI} (h : Cond.code (mN μ) (mB μ) (mL μ) (mR μ) ∈ gT) : GoodIn gT (wsT μ) := fun w hw => by
  rcases List.mem_cons.mp hw with rfl | hw
  · exact gT_good _ h
  · exact gT_good _ hw
abbrev rmT (μ : MI) : Room := { frames := mF μ, cells := 0, slots := 0, locals := mO μ }
abbrev PcT (D : va_G) (cI cC : ClassId) (ad : Int → Nat) (w : rW) (av : List rV) (sz : Nat) : Array Value → State → Prop :=
  va_Pc (av.map (cv ad)) (fun U => U.heap.size = sz ∧ va_P D vwCl (wl ad cI cC w) U.heap ∧ va_K D vwCl (Tys cI cC) U ∧ va_D (fun _ => True) (wl ad cI cC w))
def QcT (D : va_G) (cI cC : ClassId) (ad : Int → Nat) (Q : List rV → rW → Prop) (A : Nat → Prop) : Array Value → State → Outcome → State → Prop := fun _ st o t =>
  (∃ (v : List rV) (w' : rW), o = .returned (v.head?.map (cv ad)) ∧ v.length ≤ 1 ∧ Q v w' ∧ va_P D vwCl (wl ad cI cC w') t.heap ∧ va_D A (wl ad cI cC w')) ∧ va_F A st t
theorem lR.entry {ad : Int → Nat} {nL : Nat} {av : List rV} {L : List rV} (hlen : (lg_sl (av.map (cv ad))).length ≤ nL) (hL : ∀ (k : Nat) (v : rV), L[k]? = some v → v.1 < 9 → (k, cv ad v) ∈ lv_args 0 (av.map (cv ad))) :
    lR ad nL L ((lg_sl (av.map (cv ad)) ++ List.replicate (nL - (lg_sl (av.map (cv ad))).length) Slot.unset).toArray) := by
  have h := lv_entry (av.map (cv ad)) hlen
  exact ⟨h.1, h.2.1, fun k v hv h9 => h.2.2 _ (hL k v hv h9)⟩
theorem PcT.blind {D : va_G} {cI cC : ClassId} {ad : Int → Nat} {w : rW} {av : List rV} {sz : Nat} : FrameBlind (PcT D cI cC ad w av sz) := by
  intro a U g mk q
  obtain ⟨q0, q1, qP, qK, qD⟩ := q
  exact ⟨q0, q1, qP, va_K.moved (u := U) (U := U.calling g mk a) (Vm.Alike.refl U.vm) qK, qD⟩
set_option maxHeartbeats 1000000 in
/-- a walk of a method's body is its contract -/
theorem met_of {μ : MI} {w : rW} {Q : List rV → rW → Prop} {av L : List rV} (hy : plainName (mN μ).cls = true) (hWP : WP μ 0 L [] w Q)
    (l : Launch) (D : va_G) (cI cC : ClassId) (ad : Int → Nat) (sz : Nat) (hlen : (lg_sl (av.map (cv ad))).length ≤ mL μ) (hL : ∀ (k : Nat) (v : rV), L[k]? = some v → v.1 < 9 → (k, cv ad v) ∈ lv_args 0 (av.map (cv ad))) :
    Met l (mN μ) (wsT μ) (rmT μ) (PcT D cI cC ad w av sz) (QcT D cI cC ad Q (va_A (wl ad cI cC w) sz)) 0 0 (va_A (wl ad cI cC w) sz) := by
  refine Met.ofW (cc := mB μ) (maxL := mL μ) (ret := mR μ) hy rfl ?_
  intro p e s m args below meth c s₁ B hml hv
  obtain ⟨rfl, hsz, hP, hK, hD0⟩ := hv
  have hx := B.exec
  have hb := B.bytes
  have hr := B.returns
  have hts := atoms_spec (ws := wsT μ) B.pre
  have hown : s.vm.findClass (mN μ).cls = some m.cls := findClass_of_methodNamed B.named
  have hlocks := B.notSynchronized
  subst hsz
  have hD := hD0.self (sz := s.heap.size)
  have hA : ∀ q : Nat, s.heap.size ≤ q → (va_A (wl ad cI cC w) s.heap.size) q := fun q h => Or.inr h
  generalize hAe : va_A (wl ad cI cC w) s.heap.size = A at hD hA ⊢
  have hS : va_S A s.heap s.heap [] := va_S.rf
  rw [lg_entry_eq]
  refine hWP p l e _ s m _ below meth c D cI cC A s.heap ad _ s.heap [] 0 0 _ ⟨hx, hb, hml, hown, fun w hw => hts w (List.mem_cons_of_mem _ hw), Nat.le_refl _, Nat.le_refl _, hK, hA⟩ (Nat.zero_le _) (Nat.zero_le _) hP hD hS (lR.entry hlen hL) ?_
  intro v w' pc' H' locs' ls' hq hend hP' hD' hS'
  rcases hend with ⟨h1, rfl, h3⟩ | ⟨h1, ⟨a, rfl⟩, h3⟩ | ⟨h1, h2, h3⟩ | ⟨h1, ⟨a, rfl⟩, h3⟩ | ⟨⟨C, h1⟩, ⟨a, rfl⟩, h3⟩
  · exact W.vret hx hb (hr.trans h1) (fun t ht hW => ⟨⟨_, w', rfl, by decide, hq, by rw [ht]; exact hP', hD'⟩, hS'.F ht⟩) hS'.2.2 h3
  · exact W.iret (v := fI a) hx hb (hr.trans h1) (fun t ht hW => ⟨⟨_, w', rfl, by simp, hq, by rw [ht]; exact hP', hD'⟩, hS'.F ht⟩) hS'.2.2 h3
  · rcases h2 with rfl | rfl
    · exact W.zret (v := fI 0) hx hb (hr.trans h1) (by decide) (fun t ht hW => ⟨⟨_, w', rfl, by simp, hq, by rw [ht]; exact hP', hD'⟩, hS'.F ht⟩) hS'.2.2 h3
    · exact W.zret (v := fI 1) hx hb (hr.trans h1) (by decide) (fun t ht hW => ⟨⟨_, w', rfl, by simp, hq, by rw [ht]; exact hP', hD'⟩, hS'.F ht⟩) hS'.2.2 h3
  · exact W.lret (v := fL a) hx hb (hr.trans h1) (fun t ht hW => ⟨⟨_, w', rfl, by simp, hq, by rw [ht]; exact hP', hD'⟩, hS'.F ht⟩) hS'.2.2 h3
  · exact W.aret (v := .ref (ad a)) hx hb (hr.trans h1) (Or.inl ⟨C, rfl⟩) (Or.inr ⟨_, rfl⟩) (fun t ht hW => ⟨⟨_, w', rfl, by simp, hq, by rw [ht]; exact hP', hD'⟩, hS'.F ht⟩) hS'.2.2 h3
section QCALL
variable {p : Program} {l : Launch} {e : Env} {R : Room} {s : State} {m : MethodId} {args : Array Value} {below : List Frame} {meth : Method} {c : Code} {H : Heap} {locs : List Loc} {cells slots : Nat} {QQ : State → Prop}
variable {D : va_G} {cI cC : ClassId} {A : Nat → Prop} {H0 : Heap} {ad : Int → Nat}
theorem call_W {w : rW} {Q : List rV → rW → Prop} {pc : Nat} {ls : Array Slot} {rest st0 : List Value} {a : Array Value} (hD : va_D A (wl ad cI cC w)) (hS : va_S A H0 H locs) (hA : ∀ q, H0.size ≤ q → A q)
    (hr : va_Run p l e R s m args below meth c H locs cells slots 0 0 (F0 m pc ls st0) rest (QcT D cI cC ad Q (va_A (wl ad cI cC w) H.size) a) (va_A (wl ad cI cC w) H.size))
    (kk : ∀ (v : List rV) (w' : rW) (H1 : Heap) (locs1 : List Loc), Q v w' → va_P D vwCl (wl ad cI cC w') H1 → va_D A (wl ad cI cC w') → va_S A H0 H1 locs1 → W p l e R s m args below meth c H1 locs1 cells slots QQ (F0 m (pc + 3) ls (v.map (cv ad) ++ rest))) :
    W p l e R s m args below meth c H locs cells slots QQ (F0 m pc ls st0) := by
  have hF : ∀ q, va_A (wl ad cI cC w) H.size q → A q := fun q h => by
    rcases h with ⟨k, e, h⟩ | h
    · exact hD.2 k _ h
    · exact hA q (Nat.le_trans hS.1 h)
  intro T hT X
  obtain ⟨v, st₀, t, T', L, h0, X', hL, e1, e2, ⟨⟨v', w', hv, hv1, hq, hP1, hD1⟩, hz, hk⟩, st⟩ := hr T hT X
  cases hv
  rw [h0] at hz hk
  have hst : (Option.map (cv ad) v'.head?).toList ++ rest = v'.map (cv ad) ++ rest := by
    match v', hv1 with
    | [], _ => rfl
    | [x], _ => rfl
  rw [hst] at st
  obtain ⟨t2, a1, b1⟩ := kk v' w' T'.heap (locs ++ L) hq (by rw [e1]; exact hP1) (hD1.weaken (fun _ _ _ h => hF _ h))
    ⟨Nat.le_trans hS.1 (by rw [e1]; exact hz), fun q h1 h2 => by rw [e1, hk q (Nat.lt_of_lt_of_le h1 hS.1) (fun z => h2 (hF q z))]; exact hS.2.1 q h1 h2, fun q hq => by
      rcases List.mem_append.mp hq with h | h
      · exact hS.2.2 q h
      · exact hF _ (hL q h)⟩ T' rfl X'
  exact ⟨t2, st t2 a1, b1⟩
end QCALL
end
