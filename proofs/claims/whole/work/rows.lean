section
-- ===== PART A: goes FIRST, ahead of the names: the tables' words, and 'selects' of the private methods out of them =====
/-- a private method of a class that the tables say can be made, by its rows of tables_1 -/
def lw_okq (q : MethodName × Nat) : Prop := (q.1.cls ≠ "java/lang/invoke/MethodHandle" ∧ q.1.cls ≠ "java/lang/invoke/VarHandle") ∧ Cond.instantiable q.1.cls q.2 ∈ tables_1 ∧ Cond.privateMethod q.1 ∈ tables_1 ∧ Cond.instanceMethod q.1 ∈ tables_1
theorem lw_p0 : lw_okq (⟨"RisingParts", "rowAt", "(I)LRisingParts$Row;"⟩, 4) := ⟨⟨by decide +kernel, by decide +kernel⟩, List.mem_of_getElem? (i := 8) (by decide +kernel), List.mem_of_getElem? (i := 91) (by decide +kernel), List.mem_of_getElem? (i := 92) (by decide +kernel)⟩
theorem lw_p1 : lw_okq (⟨"RisingParts", "remember", "()V"⟩, 4) := ⟨⟨by decide +kernel, by decide +kernel⟩, List.mem_of_getElem? (i := 8) (by decide +kernel), List.mem_of_getElem? (i := 97) (by decide +kernel), List.mem_of_getElem? (i := 98) (by decide +kernel)⟩
theorem lw_p2 : lw_okq (⟨"RisingParts$History", "startOf", "(I)I"⟩, 3) := ⟨⟨by decide +kernel, by decide +kernel⟩, List.mem_of_getElem? (i := 36) (by decide +kernel), List.mem_of_getElem? (i := 105) (by decide +kernel), List.mem_of_getElem? (i := 106) (by decide +kernel)⟩
theorem lw_p3 : lw_okq (⟨"RisingParts$Row", "put", "(II)V"⟩, 3) := ⟨⟨by decide +kernel, by decide +kernel⟩, List.mem_of_getElem? (i := 16) (by decide +kernel), List.mem_of_getElem? (i := 125) (by decide +kernel), List.mem_of_getElem? (i := 126) (by decide +kernel)⟩
theorem lw_p4 : lw_okq (⟨"RisingParts", "joinedSize", "(Z)I"⟩, 4) := ⟨⟨by decide +kernel, by decide +kernel⟩, List.mem_of_getElem? (i := 8) (by decide +kernel), List.mem_of_getElem? (i := 146) (by decide +kernel), List.mem_of_getElem? (i := 147) (by decide +kernel)⟩
theorem lw_p5 : lw_okq (⟨"RisingParts", "commonUnlike", "()I"⟩, 4) := ⟨⟨by decide +kernel, by decide +kernel⟩, List.mem_of_getElem? (i := 8) (by decide +kernel), List.mem_of_getElem? (i := 158) (by decide +kernel), List.mem_of_getElem? (i := 159) (by decide +kernel)⟩
theorem lw_p6 : lw_okq (⟨"RisingParts", "commonRepeated", "()I"⟩, 4) := ⟨⟨by decide +kernel, by decide +kernel⟩, List.mem_of_getElem? (i := 8) (by decide +kernel), List.mem_of_getElem? (i := 302) (by decide +kernel), List.mem_of_getElem? (i := 303) (by decide +kernel)⟩
theorem lw_p7 : lw_okq (⟨"RisingParts", "leastCommon", "()I"⟩, 4) := ⟨⟨by decide +kernel, by decide +kernel⟩, List.mem_of_getElem? (i := 8) (by decide +kernel), List.mem_of_getElem? (i := 310) (by decide +kernel), List.mem_of_getElem? (i := 311) (by decide +kernel)⟩
theorem lw_p8 : lw_okq (⟨"RisingParts", "leastDifference", "()I"⟩, 4) := ⟨⟨by decide +kernel, by decide +kernel⟩, List.mem_of_getElem? (i := 8) (by decide +kernel), List.mem_of_getElem? (i := 314) (by decide +kernel), List.mem_of_getElem? (i := 315) (by decide +kernel)⟩
theorem lw_p9 : lw_okq (⟨"RisingParts$Row", "gapsAhead", "(I)I"⟩, 3) := ⟨⟨by decide +kernel, by decide +kernel⟩, List.mem_of_getElem? (i := 16) (by decide +kernel), List.mem_of_getElem? (i := 346) (by decide +kernel), List.mem_of_getElem? (i := 347) (by decide +kernel)⟩
theorem lw_p10 : lw_okq (⟨"RisingParts$Text", "characterAt", "(I)I"⟩, 2) := ⟨⟨by decide +kernel, by decide +kernel⟩, List.mem_of_getElem? (i := 53) (by decide +kernel), List.mem_of_getElem? (i := 387) (by decide +kernel), List.mem_of_getElem? (i := 388) (by decide +kernel)⟩
theorem lw_p11 : lw_okq (⟨"RisingParts$Text", "endsNumber", "(I)Z"⟩, 2) := ⟨⟨by decide +kernel, by decide +kernel⟩, List.mem_of_getElem? (i := 53) (by decide +kernel), List.mem_of_getElem? (i := 395) (by decide +kernel), List.mem_of_getElem? (i := 396) (by decide +kernel)⟩
theorem lw_p12 : lw_okq (⟨"RisingPartsModel", "many", "(I)I"⟩, 16) := ⟨⟨by decide +kernel, by decide +kernel⟩, List.mem_of_getElem? (i := 408) (by decide +kernel), List.mem_of_getElem? (i := 473) (by decide +kernel), List.mem_of_getElem? (i := 474) (by decide +kernel)⟩
theorem lw_p13 : lw_okq (⟨"RisingPartsModel", "keeps", "()V"⟩, 16) := ⟨⟨by decide +kernel, by decide +kernel⟩, List.mem_of_getElem? (i := 408) (by decide +kernel), List.mem_of_getElem? (i := 478) (by decide +kernel), List.mem_of_getElem? (i := 479) (by decide +kernel)⟩
theorem lw_p14 : lw_okq (⟨"RisingPartsModel", "less", "(II)I"⟩, 16) := ⟨⟨by decide +kernel, by decide +kernel⟩, List.mem_of_getElem? (i := 408) (by decide +kernel), List.mem_of_getElem? (i := 482) (by decide +kernel), List.mem_of_getElem? (i := 483) (by decide +kernel)⟩
theorem lw_p15 : lw_okq (⟨"RisingPartsModel", "number", "(II)I"⟩, 16) := ⟨⟨by decide +kernel, by decide +kernel⟩, List.mem_of_getElem? (i := 408) (by decide +kernel), List.mem_of_getElem? (i := 486) (by decide +kernel), List.mem_of_getElem? (i := 487) (by decide +kernel)⟩
def lw_privs_1 : List (MethodName × Nat) := [(⟨"RisingParts", "rowAt", "(I)LRisingParts$Row;"⟩, 4), (⟨"RisingParts", "remember", "()V"⟩, 4), (⟨"RisingParts$History", "startOf", "(I)I"⟩, 3), (⟨"RisingParts$Row", "put", "(II)V"⟩, 3), (⟨"RisingParts", "joinedSize", "(Z)I"⟩, 4), (⟨"RisingParts", "commonUnlike", "()I"⟩, 4), (⟨"RisingParts", "commonRepeated", "()I"⟩, 4), (⟨"RisingParts", "leastCommon", "()I"⟩, 4), (⟨"RisingParts", "leastDifference", "()I"⟩, 4), (⟨"RisingParts$Row", "gapsAhead", "(I)I"⟩, 3), (⟨"RisingParts$Text", "characterAt", "(I)I"⟩, 2), (⟨"RisingParts$Text", "endsNumber", "(I)Z"⟩, 2), (⟨"RisingPartsModel", "many", "(I)I"⟩, 16), (⟨"RisingPartsModel", "keeps", "()V"⟩, 16), (⟨"RisingPartsModel", "less", "(II)I"⟩, 16), (⟨"RisingPartsModel", "number", "(II)I"⟩, 16)]
theorem lw_r1 : ∀ q ∈ lw_privs_1, lw_okq q := List.forall_mem_cons.mpr ⟨lw_p0, List.forall_mem_cons.mpr ⟨lw_p1, List.forall_mem_cons.mpr ⟨lw_p2, List.forall_mem_cons.mpr ⟨lw_p3, List.forall_mem_cons.mpr ⟨lw_p4, List.forall_mem_cons.mpr ⟨lw_p5, List.forall_mem_cons.mpr ⟨lw_p6, List.forall_mem_cons.mpr ⟨lw_p7, List.forall_mem_cons.mpr ⟨lw_p8, List.forall_mem_cons.mpr ⟨lw_p9, List.forall_mem_cons.mpr ⟨lw_p10, List.forall_mem_cons.mpr ⟨lw_p11, List.forall_mem_cons.mpr ⟨lw_p12, List.forall_mem_cons.mpr ⟨lw_p13, List.forall_mem_cons.mpr ⟨lw_p14, List.forall_mem_cons.mpr ⟨lw_p15, fun _ h => absurd h List.not_mem_nil⟩⟩⟩⟩⟩⟩⟩⟩⟩⟩⟩⟩⟩⟩⟩⟩
theorem lw_p16 : lw_okq (⟨"RisingPartsModel", "acted", "(I)I"⟩, 16) := ⟨⟨by decide +kernel, by decide +kernel⟩, List.mem_of_getElem? (i := 408) (by decide +kernel), List.mem_of_getElem? (i := 490) (by decide +kernel), List.mem_of_getElem? (i := 491) (by decide +kernel)⟩
theorem lw_p17 : lw_okq (⟨"RisingPartsModel", "lays", "(I)V"⟩, 16) := ⟨⟨by decide +kernel, by decide +kernel⟩, List.mem_of_getElem? (i := 408) (by decide +kernel), List.mem_of_getElem? (i := 518) (by decide +kernel), List.mem_of_getElem? (i := 519) (by decide +kernel)⟩
theorem lw_p18 : lw_okq (⟨"RisingPartsModel", "placeOf", "(II)I"⟩, 16) := ⟨⟨by decide +kernel, by decide +kernel⟩, List.mem_of_getElem? (i := 408) (by decide +kernel), List.mem_of_getElem? (i := 528) (by decide +kernel), List.mem_of_getElem? (i := 529) (by decide +kernel)⟩
theorem lw_p19 : lw_okq (⟨"RisingPartsModel", "width", "(I)I"⟩, 16) := ⟨⟨by decide +kernel, by decide +kernel⟩, List.mem_of_getElem? (i := 408) (by decide +kernel), List.mem_of_getElem? (i := 532) (by decide +kernel), List.mem_of_getElem? (i := 533) (by decide +kernel)⟩
theorem lw_p20 : lw_okq (⟨"RisingPartsModel", "size", "(I)I"⟩, 16) := ⟨⟨by decide +kernel, by decide +kernel⟩, List.mem_of_getElem? (i := 408) (by decide +kernel), List.mem_of_getElem? (i := 536) (by decide +kernel), List.mem_of_getElem? (i := 537) (by decide +kernel)⟩
theorem lw_p21 : lw_okq (⟨"RisingPartsModel", "unlike", "(I)I"⟩, 16) := ⟨⟨by decide +kernel, by decide +kernel⟩, List.mem_of_getElem? (i := 408) (by decide +kernel), List.mem_of_getElem? (i := 543) (by decide +kernel), List.mem_of_getElem? (i := 544) (by decide +kernel)⟩
theorem lw_p22 : lw_okq (⟨"RisingPartsModel", "greatestGap", "(I)I"⟩, 16) := ⟨⟨by decide +kernel, by decide +kernel⟩, List.mem_of_getElem? (i := 408) (by decide +kernel), List.mem_of_getElem? (i := 547) (by decide +kernel), List.mem_of_getElem? (i := 548) (by decide +kernel)⟩
theorem lw_p23 : lw_okq (⟨"RisingPartsModel", "lower", "(II)I"⟩, 16) := ⟨⟨by decide +kernel, by decide +kernel⟩, List.mem_of_getElem? (i := 408) (by decide +kernel), List.mem_of_getElem? (i := 560) (by decide +kernel), List.mem_of_getElem? (i := 561) (by decide +kernel)⟩
theorem lw_p24 : lw_okq (⟨"RisingPartsModel", "finds", "(II)V"⟩, 16) := ⟨⟨by decide +kernel, by decide +kernel⟩, List.mem_of_getElem? (i := 408) (by decide +kernel), List.mem_of_getElem? (i := 579) (by decide +kernel), List.mem_of_getElem? (i := 580) (by decide +kernel)⟩
theorem lw_p25 : lw_okq (⟨"RisingPartsModel", "has", "(II)Z"⟩, 16) := ⟨⟨by decide +kernel, by decide +kernel⟩, List.mem_of_getElem? (i := 408) (by decide +kernel), List.mem_of_getElem? (i := 591) (by decide +kernel), List.mem_of_getElem? (i := 592) (by decide +kernel)⟩
theorem lw_p26 : lw_okq (⟨"RisingPartsModel", "times", "(II)I"⟩, 16) := ⟨⟨by decide +kernel, by decide +kernel⟩, List.mem_of_getElem? (i := 408) (by decide +kernel), List.mem_of_getElem? (i := 595) (by decide +kernel), List.mem_of_getElem? (i := 596) (by decide +kernel)⟩
theorem lw_p27 : lw_okq (⟨"RisingPartsModel", "difference", "()I"⟩, 16) := ⟨⟨by decide +kernel, by decide +kernel⟩, List.mem_of_getElem? (i := 408) (by decide +kernel), List.mem_of_getElem? (i := 599) (by decide +kernel), List.mem_of_getElem? (i := 600) (by decide +kernel)⟩
theorem lw_p28 : lw_okq (⟨"RisingPartsModel", "faulty", "(I)I"⟩, 16) := ⟨⟨by decide +kernel, by decide +kernel⟩, List.mem_of_getElem? (i := 408) (by decide +kernel), List.mem_of_getElem? (i := 640) (by decide +kernel), List.mem_of_getElem? (i := 641) (by decide +kernel)⟩
theorem lw_p29 : lw_okq (⟨"RisingPartsModel", "sign", "(I)I"⟩, 16) := ⟨⟨by decide +kernel, by decide +kernel⟩, List.mem_of_getElem? (i := 408) (by decide +kernel), List.mem_of_getElem? (i := 644) (by decide +kernel), List.mem_of_getElem? (i := 645) (by decide +kernel)⟩
theorem lw_p30 : lw_okq (⟨"RisingPartsModel", "wrong", "(II)I"⟩, 16) := ⟨⟨by decide +kernel, by decide +kernel⟩, List.mem_of_getElem? (i := 408) (by decide +kernel), List.mem_of_getElem? (i := 648) (by decide +kernel), List.mem_of_getElem? (i := 649) (by decide +kernel)⟩
def lw_privs_2 : List (MethodName × Nat) := [(⟨"RisingPartsModel", "acted", "(I)I"⟩, 16), (⟨"RisingPartsModel", "lays", "(I)V"⟩, 16), (⟨"RisingPartsModel", "placeOf", "(II)I"⟩, 16), (⟨"RisingPartsModel", "width", "(I)I"⟩, 16), (⟨"RisingPartsModel", "size", "(I)I"⟩, 16), (⟨"RisingPartsModel", "unlike", "(I)I"⟩, 16), (⟨"RisingPartsModel", "greatestGap", "(I)I"⟩, 16), (⟨"RisingPartsModel", "lower", "(II)I"⟩, 16), (⟨"RisingPartsModel", "finds", "(II)V"⟩, 16), (⟨"RisingPartsModel", "has", "(II)Z"⟩, 16), (⟨"RisingPartsModel", "times", "(II)I"⟩, 16), (⟨"RisingPartsModel", "difference", "()I"⟩, 16), (⟨"RisingPartsModel", "faulty", "(I)I"⟩, 16), (⟨"RisingPartsModel", "sign", "(I)I"⟩, 16), (⟨"RisingPartsModel", "wrong", "(II)I"⟩, 16)]
theorem lw_r2 : ∀ q ∈ lw_privs_2, lw_okq q := List.forall_mem_cons.mpr ⟨lw_p16, List.forall_mem_cons.mpr ⟨lw_p17, List.forall_mem_cons.mpr ⟨lw_p18, List.forall_mem_cons.mpr ⟨lw_p19, List.forall_mem_cons.mpr ⟨lw_p20, List.forall_mem_cons.mpr ⟨lw_p21, List.forall_mem_cons.mpr ⟨lw_p22, List.forall_mem_cons.mpr ⟨lw_p23, List.forall_mem_cons.mpr ⟨lw_p24, List.forall_mem_cons.mpr ⟨lw_p25, List.forall_mem_cons.mpr ⟨lw_p26, List.forall_mem_cons.mpr ⟨lw_p27, List.forall_mem_cons.mpr ⟨lw_p28, List.forall_mem_cons.mpr ⟨lw_p29, List.forall_mem_cons.mpr ⟨lw_p30, fun _ h => absurd h List.not_mem_nil⟩⟩⟩⟩⟩⟩⟩⟩⟩⟩⟩⟩⟩⟩⟩
def lw_privs : List (MethodName × Nat) := lw_privs_1 ++ (lw_privs_2)
def lw_tbl : List Cond := k2_sels lw_privs ++ tables_1
theorem lw_privs_ok : ∀ q ∈ lw_privs, lw_okq q := by
  show ∀ q ∈ lw_privs_1 ++ (lw_privs_2), lw_okq q
  exact List.forall_mem_append.mpr ⟨lw_r1, lw_r2⟩
/-- the streams that the claim lets the run draw from -/
abbrev lw_cs : List Choice := [Jvm.Choice.named "NaN.bits"]
theorem lw_bits : nanBits ∈ lw_cs := by first | decide | exact List.mem_cons_self | simp [lw_cs, nanBits]
def RX0 : String := "RisingParts$History"
def TX0 : u_T := fun k => match k with
  | 0 => ("RisingParts$History", "cells", "[I", true)
  | 1 => ("RisingParts$History", "oldest", "I", false)
  | _ => ("RisingParts$History", "size", "I", false)
def tyX0 : Nat → FieldType := fun k => match k with
  | 0 => .array .int
  | 1 => .int
  | _ => .int
abbrev wsX00 : List Cond := u_ws RX0 TX0 3
theorem nmX0 : ∀ a, a < 3 → ∀ b, b < 3 → a ≠ b → (TX0 a).2.1 ≠ (TX0 b).2.1 := by decide +kernel
theorem tyX0_ok : ∀ k, k < 3 → parseFieldDescriptor (TX0 k).2.2.1 = some (tyX0 k) := by decide +kernel
abbrev cX0_init : ByteArray := prog_2_method_1_code
def yX0_init : MethodName := ⟨RX0, "<init>", "()V"⟩
abbrev cX0_keep : ByteArray := prog_2_method_2_code
def yX0_keep : MethodName := ⟨RX0, "keep", "(LRisingParts$Row;LRisingParts$Row;)V"⟩
abbrev cX0_restore : ByteArray := prog_2_method_3_code
def yX0_restore : MethodName := ⟨RX0, "restore", "(LRisingParts$Row;LRisingParts$Row;)V"⟩
abbrev cX0_startOf : ByteArray := prog_2_method_4_code
def yX0_startOf : MethodName := ⟨RX0, "startOf", "(I)I"⟩
def RX1 : String := "RisingParts$Row"
def TX1 : u_T := fun k => match k with
  | 0 => ("RisingParts$Row", "numbers", "[I", true)
  | 1 => ("RisingParts$Row", "size", "I", false)
  | _ => ("RisingParts$Row", "bound", "I", false)
def tyX1 : Nat → FieldType := fun k => match k with
  | 0 => .array .int
  | 1 => .int
  | _ => .int
abbrev wsX10 : List Cond := u_ws RX1 TX1 3
theorem nmX1 : ∀ a, a < 3 → ∀ b, b < 3 → a ≠ b → (TX1 a).2.1 ≠ (TX1 b).2.1 := by decide +kernel
theorem tyX1_ok : ∀ k, k < 3 → parseFieldDescriptor (TX1 k).2.2.1 = some (tyX1 k) := by decide +kernel
abbrev cX1_init : ByteArray := prog_3_method_1_code
def yX1_init : MethodName := ⟨RX1, "<init>", "()V"⟩
abbrev cX1_numberAt : ByteArray := prog_3_method_2_code
def yX1_numberAt : MethodName := ⟨RX1, "numberAt", "(I)I"⟩
abbrev cX1_put : ByteArray := prog_3_method_3_code
def yX1_put : MethodName := ⟨RX1, "put", "(II)V"⟩
abbrev cX1_insert : ByteArray := prog_3_method_4_code
def yX1_insert : MethodName := ⟨RX1, "insert", "(I)I"⟩
abbrev cX1_remove : ByteArray := prog_3_method_5_code
def yX1_remove : MethodName := ⟨RX1, "remove", "(I)I"⟩
abbrev cX1_dropRepeated : ByteArray := prog_3_method_6_code
def yX1_dropRepeated : MethodName := ⟨RX1, "dropRepeated", "()V"⟩
abbrev cX1_countLess : ByteArray := prog_3_method_7_code
def yX1_countLess : MethodName := ⟨RX1, "countLess", "(I)I"⟩
abbrev cX1_timesOf : ByteArray := prog_3_method_8_code
def yX1_timesOf : MethodName := ⟨RX1, "timesOf", "(I)I"⟩
abbrev cX1_holds : ByteArray := prog_3_method_9_code
def yX1_holds : MethodName := ⟨RX1, "holds", "(I)Z"⟩
abbrev cX1_isNew : ByteArray := prog_3_method_10_code
def yX1_isNew : MethodName := ⟨RX1, "isNew", "(I)Z"⟩
abbrev cX1_unlike : ByteArray := prog_3_method_11_code
def yX1_unlike : MethodName := ⟨RX1, "unlike", "()I"⟩
abbrev cX1_width : ByteArray := prog_3_method_12_code
def yX1_width : MethodName := ⟨RX1, "width", "()I"⟩
abbrev cX1_zeros : ByteArray := prog_3_method_13_code
def yX1_zeros : MethodName := ⟨RX1, "zeros", "()I"⟩
abbrev cX1_upperLength : ByteArray := prog_3_method_14_code
def yX1_upperLength : MethodName := ⟨RX1, "upperLength", "()I"⟩
abbrev cX1_bits : ByteArray := prog_3_method_15_code
def yX1_bits : MethodName := ⟨RX1, "bits", "()I"⟩
abbrev cX1_upperPart : ByteArray := prog_3_method_16_code
def yX1_upperPart : MethodName := ⟨RX1, "upperPart", "(I)I"⟩
abbrev cX1_lowerPart : ByteArray := prog_3_method_17_code
def yX1_lowerPart : MethodName := ⟨RX1, "lowerPart", "(I)I"⟩
abbrev cX1_placeOfOne : ByteArray := prog_3_method_18_code
def yX1_placeOfOne : MethodName := ⟨RX1, "placeOfOne", "(I)I"⟩
abbrev cX1_placeOfZero : ByteArray := prog_3_method_19_code
def yX1_placeOfZero : MethodName := ⟨RX1, "placeOfZero", "(I)I"⟩
abbrev cX1_hasOneAt : ByteArray := prog_3_method_20_code
def yX1_hasOneAt : MethodName := ⟨RX1, "hasOneAt", "(I)Z"⟩
abbrev cX1_workToNext : ByteArray := prog_3_method_21_code
def yX1_workToNext : MethodName := ⟨RX1, "workToNext", "(I)I"⟩
abbrev cX1_lowerWord : ByteArray := prog_3_method_22_code
def yX1_lowerWord : MethodName := ⟨RX1, "lowerWord", "(I)J"⟩
abbrev cX1_stepBehind : ByteArray := prog_3_method_23_code
def yX1_stepBehind : MethodName := ⟨RX1, "stepBehind", "(I)I"⟩
abbrev cX1_greatestStep : ByteArray := prog_3_method_24_code
def yX1_greatestStep : MethodName := ⟨RX1, "greatestStep", "()I"⟩
abbrev cX1_indexOfGap : ByteArray := prog_3_method_25_code
def yX1_indexOfGap : MethodName := ⟨RX1, "indexOfGap", "(I)I"⟩
abbrev cX1_gapsAhead : ByteArray := prog_3_method_26_code
def yX1_gapsAhead : MethodName := ⟨RX1, "gapsAhead", "(I)I"⟩
abbrev cX1_saveTo : ByteArray := prog_3_method_27_code
def yX1_saveTo : MethodName := ⟨RX1, "saveTo", "([II)V"⟩
abbrev cX1_loadFrom : ByteArray := prog_3_method_28_code
def yX1_loadFrom : MethodName := ⟨RX1, "loadFrom", "([II)V"⟩
def RX2 : String := "RisingParts$Text"
def TX2 : u_T := fun k => match k with
  | 0 => ("RisingParts$Text", "characters", "[I", true)
  | _ => ("RisingParts$Text", "length", "I", false)
def tyX2 : Nat → FieldType := fun k => match k with
  | 0 => .array .int
  | _ => .int
abbrev wsX20 : List Cond := u_ws RX2 TX2 2
theorem nmX2 : ∀ a, a < 2 → ∀ b, b < 2 → a ≠ b → (TX2 a).2.1 ≠ (TX2 b).2.1 := by decide +kernel
theorem tyX2_ok : ∀ k, k < 2 → parseFieldDescriptor (TX2 k).2.2.1 = some (tyX2 k) := by decide +kernel
abbrev cX2_init : ByteArray := prog_4_method_1_code
def yX2_init : MethodName := ⟨RX2, "<init>", "()V"⟩
abbrev cX2_append : ByteArray := prog_4_method_2_code
def yX2_append : MethodName := ⟨RX2, "append", "(I)V"⟩
abbrev cX2_characterAt : ByteArray := prog_4_method_3_code
def yX2_characterAt : MethodName := ⟨RX2, "characterAt", "(I)I"⟩
abbrev cX2_isDigit : ByteArray := prog_4_method_4_code
def yX2_isDigit : MethodName := ⟨RX2, "isDigit", "(I)Z"⟩
abbrev cX2_endsNumber : ByteArray := prog_4_method_5_code
def yX2_endsNumber : MethodName := ⟨RX2, "endsNumber", "(I)Z"⟩
abbrev cX2_firstFault : ByteArray := prog_4_method_6_code
def yX2_firstFault : MethodName := ⟨RX2, "firstFault", "(I)I"⟩
abbrev cX2_fill : ByteArray := prog_4_method_7_code
def yX2_fill : MethodName := ⟨RX2, "fill", "(LRisingParts$Row;)V"⟩
def RX3 : String := "RisingParts"
def TX3 : u_T := fun k => match k with
  | 0 => ("RisingParts", "first", "LRisingParts$Row;", false)
  | 1 => ("RisingParts", "second", "LRisingParts$Row;", false)
  | 2 => ("RisingParts", "history", "LRisingParts$History;", true)
  | _ => ("RisingParts", "text", "LRisingParts$Text;", true)
def tyX3 : Nat → FieldType := fun k => match k with
  | 0 => .object "RisingParts$Row"
  | 1 => .object "RisingParts$Row"
  | 2 => .object "RisingParts$History"
  | _ => .object "RisingParts$Text"
abbrev wsX30 : List Cond := u_ws RX3 TX3 4
theorem nmX3 : ∀ a, a < 4 → ∀ b, b < 4 → a ≠ b → (TX3 a).2.1 ≠ (TX3 b).2.1 := by decide +kernel
theorem tyX3_ok : ∀ k, k < 4 → parseFieldDescriptor (TX3 k).2.2.1 = some (tyX3 k) := by decide +kernel
abbrev cX3_init : ByteArray := prog_1_method_1_code
def yX3_init : MethodName := ⟨RX3, "<init>", "()V"⟩
abbrev cX3_add : ByteArray := prog_1_method_2_code
def yX3_add : MethodName := ⟨RX3, "add", "(II)I"⟩
abbrev cX3_drop : ByteArray := prog_1_method_3_code
def yX3_drop : MethodName := ⟨RX3, "drop", "(II)I"⟩
abbrev cX3_bound : ByteArray := prog_1_method_4_code
def yX3_bound : MethodName := ⟨RX3, "bound", "(II)I"⟩
abbrev cX3_join : ByteArray := prog_1_method_5_code
def yX3_join : MethodName := ⟨RX3, "join", "(I)I"⟩
abbrev cX3_exchange : ByteArray := prog_1_method_6_code
def yX3_exchange : MethodName := ⟨RX3, "exchange", "()I"⟩
abbrev cX3_clear : ByteArray := prog_1_method_7_code
def yX3_clear : MethodName := ⟨RX3, "clear", "(I)I"⟩
abbrev cX3_rowOf : ByteArray := prog_1_method_8_code
def yX3_rowOf : MethodName := ⟨RX3, "rowOf", "(II)I"⟩
abbrev cX3_upperBit : ByteArray := prog_1_method_9_code
def yX3_upperBit : MethodName := ⟨RX3, "upperBit", "(II)I"⟩
abbrev cX3_partOf : ByteArray := prog_1_method_10_code
def yX3_partOf : MethodName := ⟨RX3, "partOf", "(III)I"⟩
abbrev cX3_sample : ByteArray := prog_1_method_11_code
def yX3_sample : MethodName := ⟨RX3, "sample", "(III)I"⟩
abbrev cX3_lowerBits : ByteArray := prog_1_method_12_code
def yX3_lowerBits : MethodName := ⟨RX3, "lowerBits", "(II)J"⟩
abbrev cX3_next : ByteArray := prog_1_method_13_code
def yX3_next : MethodName := ⟨RX3, "next", "(III)I"⟩
abbrev cX3_below : ByteArray := prog_1_method_14_code
def yX3_below : MethodName := ⟨RX3, "below", "(II)I"⟩
abbrev cX3_common : ByteArray := prog_1_method_15_code
def yX3_common : MethodName := ⟨RX3, "common", "(I)I"⟩
abbrev cX3_perNumber : ByteArray := prog_1_method_16_code
def yX3_perNumber : MethodName := ⟨RX3, "perNumber", "(I)I"⟩
abbrev cX3_bestBound : ByteArray := prog_1_method_17_code
def yX3_bestBound : MethodName := ⟨RX3, "bestBound", "(II)I"⟩
abbrev cX3_gapOf : ByteArray := prog_1_method_18_code
def yX3_gapOf : MethodName := ⟨RX3, "gapOf", "(III)I"⟩
abbrev cX3_count : ByteArray := prog_1_method_19_code
def yX3_count : MethodName := ⟨RX3, "count", "(I)I"⟩
abbrev cX3_undo : ByteArray := prog_1_method_20_code
def yX3_undo : MethodName := ⟨RX3, "undo", "()I"⟩
abbrev cX3_type : ByteArray := prog_1_method_21_code
def yX3_type : MethodName := ⟨RX3, "type", "(I)I"⟩
abbrev cX3_clearText : ByteArray := prog_1_method_22_code
def yX3_clearText : MethodName := ⟨RX3, "clearText", "()I"⟩
abbrev cX3_fault : ByteArray := prog_1_method_23_code
def yX3_fault : MethodName := ⟨RX3, "fault", "(II)I"⟩
abbrev cX3_read : ByteArray := prog_1_method_24_code
def yX3_read : MethodName := ⟨RX3, "read", "(I)I"⟩
abbrev cX3_isWithin : ByteArray := prog_1_method_25_code
def yX3_isWithin : MethodName := ⟨RX3, "isWithin", "(III)Z"⟩
abbrev cX3_isRow : ByteArray := prog_1_method_26_code
def yX3_isRow : MethodName := ⟨RX3, "isRow", "(I)Z"⟩
abbrev cX3_rowAt : ByteArray := prog_1_method_27_code
def yX3_rowAt : MethodName := ⟨RX3, "rowAt", "(I)LRisingParts$Row;"⟩
abbrev cX3_remember : ByteArray := prog_1_method_28_code
def yX3_remember : MethodName := ⟨RX3, "remember", "()V"⟩
abbrev cX3_samplesOf : ByteArray := prog_1_method_29_code
def yX3_samplesOf : MethodName := ⟨RX3, "samplesOf", "(I)I"⟩
abbrev cX3_sampledAhead : ByteArray := prog_1_method_30_code
def yX3_sampledAhead : MethodName := ⟨RX3, "sampledAhead", "(I)I"⟩
abbrev cX3_widthFor : ByteArray := prog_1_method_31_code
def yX3_widthFor : MethodName := ⟨RX3, "widthFor", "(II)I"⟩
abbrev cX3_zerosFor : ByteArray := prog_1_method_32_code
def yX3_zerosFor : MethodName := ⟨RX3, "zerosFor", "(II)I"⟩
abbrev cX3_bitsFor : ByteArray := prog_1_method_33_code
def yX3_bitsFor : MethodName := ⟨RX3, "bitsFor", "(II)I"⟩
abbrev cX3_lowestBestBound : ByteArray := prog_1_method_34_code
def yX3_lowestBestBound : MethodName := ⟨RX3, "lowestBestBound", "(LRisingParts$Row;)I"⟩
abbrev cX3_bitsOfFloat : ByteArray := prog_1_method_35_code
def yX3_bitsOfFloat : MethodName := ⟨RX3, "bitsOfFloat", "(F)I"⟩
abbrev cX3_joinedSize : ByteArray := prog_1_method_36_code
def yX3_joinedSize : MethodName := ⟨RX3, "joinedSize", "(Z)I"⟩
abbrev cX3_commonUnlike : ByteArray := prog_1_method_37_code
def yX3_commonUnlike : MethodName := ⟨RX3, "commonUnlike", "()I"⟩
abbrev cX3_commonRepeated : ByteArray := prog_1_method_38_code
def yX3_commonRepeated : MethodName := ⟨RX3, "commonRepeated", "()I"⟩
abbrev cX3_leastCommon : ByteArray := prog_1_method_39_code
def yX3_leastCommon : MethodName := ⟨RX3, "leastCommon", "()I"⟩
abbrev cX3_leastDifference : ByteArray := prog_1_method_40_code
def yX3_leastDifference : MethodName := ⟨RX3, "leastDifference", "()I"⟩
def RX4 : String := "RisingPartsModel"
def TX4 : u_T := fun k => match k with
  | 0 => ("RisingPartsModel", "s", "[I", true)
  | 1 => ("RisingPartsModel", "was", "[I", true)
  | 2 => ("RisingPartsModel", "begun", "[I", true)
  | 3 => ("RisingPartsModel", "states", "I", false)
  | 4 => ("RisingPartsModel", "text", "[C", true)
  | 5 => ("RisingPartsModel", "typed", "I", false)
  | 6 => ("RisingPartsModel", "reason", "I", false)
  | 7 => ("RisingPartsModel", "listed", "[I", true)
  | 8 => ("RisingPartsModel", "many", "I", false)
  | 9 => ("RisingPartsModel", "upper", "[I", true)
  | 10 => ("RisingPartsModel", "bits", "I", false)
  | 11 => ("RisingPartsModel", "zero", "[I", true)
  | 12 => ("RisingPartsModel", "zeros", "I", false)
  | 13 => ("RisingPartsModel", "found", "I", false)
  | 14 => ("RisingPartsModel", "work", "I", false)
  | _ => ("RisingPartsModel", "joined", "[I", true)
def tyX4 : Nat → FieldType := fun k => match k with
  | 0 => .array .int
  | 1 => .array .int
  | 2 => .array .int
  | 3 => .int
  | 4 => .array .char
  | 5 => .int
  | 6 => .int
  | 7 => .array .int
  | 8 => .int
  | 9 => .array .int
  | 10 => .int
  | 11 => .array .int
  | 12 => .int
  | 13 => .int
  | 14 => .int
  | _ => .array .int
abbrev wsX40 : List Cond := u_ws RX4 TX4 16
theorem nmX4 : ∀ a, a < 16 → ∀ b, b < 16 → a ≠ b → (TX4 a).2.1 ≠ (TX4 b).2.1 := by decide +kernel
theorem tyX4_ok : ∀ k, k < 16 → parseFieldDescriptor (TX4 k).2.2.1 = some (tyX4 k) := by decide +kernel
abbrev cX4_init : ByteArray := prog_6_method_1_code
def yX4_init : MethodName := ⟨RX4, "<init>", "()V"⟩
abbrev cX4_in : ByteArray := prog_6_method_2_code
def yX4_in : MethodName := ⟨RX4, "in", "(III)Z"⟩
abbrev cX4_many : ByteArray := prog_6_method_3_code
def yX4_many : MethodName := ⟨RX4, "many", "(I)I"⟩
abbrev cX4_number : ByteArray := prog_6_method_4_code
def yX4_number : MethodName := ⟨RX4, "number", "(II)I"⟩
abbrev cX4_keeps : ByteArray := prog_6_method_5_code
def yX4_keeps : MethodName := ⟨RX4, "keeps", "()V"⟩
abbrev cX4_acted : ByteArray := prog_6_method_6_code
def yX4_acted : MethodName := ⟨RX4, "acted", "(I)I"⟩
abbrev cX4_less : ByteArray := prog_6_method_7_code
def yX4_less : MethodName := ⟨RX4, "less", "(II)I"⟩
abbrev cX4_add : ByteArray := prog_6_method_8_code
def yX4_add : MethodName := ⟨RX4, "add", "(II)I"⟩
abbrev cX4_drop : ByteArray := prog_6_method_9_code
def yX4_drop : MethodName := ⟨RX4, "drop", "(II)I"⟩
abbrev cX4_bound : ByteArray := prog_6_method_10_code
def yX4_bound : MethodName := ⟨RX4, "bound", "(II)I"⟩
abbrev cX4_join : ByteArray := prog_6_method_11_code
def yX4_join : MethodName := ⟨RX4, "join", "(I)I"⟩
abbrev cX4_exchange : ByteArray := prog_6_method_12_code
def yX4_exchange : MethodName := ⟨RX4, "exchange", "()I"⟩
abbrev cX4_clear : ByteArray := prog_6_method_13_code
def yX4_clear : MethodName := ⟨RX4, "clear", "(I)I"⟩
abbrev cX4_widthOf : ByteArray := prog_6_method_14_code
def yX4_widthOf : MethodName := ⟨RX4, "widthOf", "(II)I"⟩
abbrev cX4_width : ByteArray := prog_6_method_15_code
def yX4_width : MethodName := ⟨RX4, "width", "(I)I"⟩
abbrev cX4_upperBits : ByteArray := prog_6_method_16_code
def yX4_upperBits : MethodName := ⟨RX4, "upperBits", "(II)I"⟩
abbrev cX4_sizeOf : ByteArray := prog_6_method_17_code
def yX4_sizeOf : MethodName := ⟨RX4, "sizeOf", "(II)I"⟩
abbrev cX4_size : ByteArray := prog_6_method_18_code
def yX4_size : MethodName := ⟨RX4, "size", "(I)I"⟩
abbrev cX4_placeOf : ByteArray := prog_6_method_19_code
def yX4_placeOf : MethodName := ⟨RX4, "placeOf", "(II)I"⟩
abbrev cX4_lays : ByteArray := prog_6_method_20_code
def yX4_lays : MethodName := ⟨RX4, "lays", "(I)V"⟩
abbrev cX4_unlike : ByteArray := prog_6_method_21_code
def yX4_unlike : MethodName := ⟨RX4, "unlike", "(I)I"⟩
abbrev cX4_greatestGap : ByteArray := prog_6_method_22_code
def yX4_greatestGap : MethodName := ⟨RX4, "greatestGap", "(I)I"⟩
abbrev cX4_rowOf : ByteArray := prog_6_method_23_code
def yX4_rowOf : MethodName := ⟨RX4, "rowOf", "(II)I"⟩
abbrev cX4_upperBit : ByteArray := prog_6_method_24_code
def yX4_upperBit : MethodName := ⟨RX4, "upperBit", "(II)I"⟩
abbrev cX4_lower : ByteArray := prog_6_method_25_code
def yX4_lower : MethodName := ⟨RX4, "lower", "(II)I"⟩
abbrev cX4_partOf : ByteArray := prog_6_method_26_code
def yX4_partOf : MethodName := ⟨RX4, "partOf", "(III)I"⟩
abbrev cX4_sample : ByteArray := prog_6_method_27_code
def yX4_sample : MethodName := ⟨RX4, "sample", "(III)I"⟩
abbrev cX4_lowerBits : ByteArray := prog_6_method_28_code
def yX4_lowerBits : MethodName := ⟨RX4, "lowerBits", "(II)J"⟩
abbrev cX4_finds : ByteArray := prog_6_method_29_code
def yX4_finds : MethodName := ⟨RX4, "finds", "(II)V"⟩
abbrev cX4_next : ByteArray := prog_6_method_30_code
def yX4_next : MethodName := ⟨RX4, "next", "(III)I"⟩
abbrev cX4_below : ByteArray := prog_6_method_31_code
def yX4_below : MethodName := ⟨RX4, "below", "(II)I"⟩
abbrev cX4_has : ByteArray := prog_6_method_32_code
def yX4_has : MethodName := ⟨RX4, "has", "(II)Z"⟩
abbrev cX4_times : ByteArray := prog_6_method_33_code
def yX4_times : MethodName := ⟨RX4, "times", "(II)I"⟩
abbrev cX4_difference : ByteArray := prog_6_method_34_code
def yX4_difference : MethodName := ⟨RX4, "difference", "()I"⟩
abbrev cX4_common : ByteArray := prog_6_method_35_code
def yX4_common : MethodName := ⟨RX4, "common", "(I)I"⟩
abbrev cX4_quotient : ByteArray := prog_6_method_36_code
def yX4_quotient : MethodName := ⟨RX4, "quotient", "(II)I"⟩
abbrev cX4_perNumber : ByteArray := prog_6_method_37_code
def yX4_perNumber : MethodName := ⟨RX4, "perNumber", "(I)I"⟩
abbrev cX4_bestBound : ByteArray := prog_6_method_38_code
def yX4_bestBound : MethodName := ⟨RX4, "bestBound", "(II)I"⟩
abbrev cX4_gapOf : ByteArray := prog_6_method_39_code
def yX4_gapOf : MethodName := ⟨RX4, "gapOf", "(III)I"⟩
abbrev cX4_count : ByteArray := prog_6_method_40_code
def yX4_count : MethodName := ⟨RX4, "count", "(I)I"⟩
abbrev cX4_undo : ByteArray := prog_6_method_41_code
def yX4_undo : MethodName := ⟨RX4, "undo", "()I"⟩
abbrev cX4_type : ByteArray := prog_6_method_42_code
def yX4_type : MethodName := ⟨RX4, "type", "(I)I"⟩
abbrev cX4_clearText : ByteArray := prog_6_method_43_code
def yX4_clearText : MethodName := ⟨RX4, "clearText", "()I"⟩
abbrev cX4_sign : ByteArray := prog_6_method_44_code
def yX4_sign : MethodName := ⟨RX4, "sign", "(I)I"⟩
abbrev cX4_wrong : ByteArray := prog_6_method_45_code
def yX4_wrong : MethodName := ⟨RX4, "wrong", "(II)I"⟩
abbrev cX4_faulty : ByteArray := prog_6_method_46_code
def yX4_faulty : MethodName := ⟨RX4, "faulty", "(I)I"⟩
abbrev cX4_fault : ByteArray := prog_6_method_47_code
def yX4_fault : MethodName := ⟨RX4, "fault", "(II)I"⟩
abbrev cX4_read : ByteArray := prog_6_method_48_code
def yX4_read : MethodName := ⟨RX4, "read", "(I)I"⟩
def RJ9 : String := "java/lang/Math"
def TJ9 : u_T := fun k => match k with
  | _ => ("", "", "", false)
def tyJ9 : Nat → FieldType := fun k => match k with
  | _ => .int
abbrev cJ9_abs_0f7a4 : ByteArray := prog_7_method_59_code
def yJ9_abs_0f7a4 : MethodName := ⟨RJ9, "abs", "(I)I"⟩
abbrev cJ9_max_7cf53 : ByteArray := prog_7_method_65_code
def yJ9_max_7cf53 : MethodName := ⟨RJ9, "max", "(II)I"⟩
abbrev cJ9_min_7cf53 : ByteArray := prog_7_method_69_code
def yJ9_min_7cf53 : MethodName := ⟨RJ9, "min", "(II)I"⟩
def RL : String := "RisingPartsLaw"
abbrev cL_law : ByteArray := code
def yL_law : MethodName := ⟨RL, "law", "([I)Z"⟩
abbrev vwCl : List vw_C := [(RX0, TX0, 3), (RX1, TX1, 3), (RX2, TX2, 2), (RX3, TX3, 4), (RX4, TX4, 16)]
theorem inX0 : ∀ w ∈ wsX00, w ∈ lw_tbl := by decide +kernel
theorem inX1 : ∀ w ∈ wsX10, w ∈ lw_tbl := by decide +kernel
theorem inX2 : ∀ w ∈ wsX20, w ∈ lw_tbl := by decide +kernel
theorem inX3 : ∀ w ∈ wsX30, w ∈ lw_tbl := by decide +kernel
theorem inX4 : ∀ w ∈ wsX40, w ∈ lw_tbl := by decide +kernel
end
section
/-- the words that a call may hand on -/
def gT : List Cond := lw_tbl.filter goodWord
theorem gT_in {w : Cond} (h : w ∈ lw_tbl) (hg : goodWord w = true) : w ∈ gT := List.mem_filter.mpr ⟨h, hg⟩
theorem gT_good : GoodIn gT gT := fun w hw => ⟨hw, good_of_word (List.mem_filter.mp hw).2⟩
theorem gT_u {ws : List Cond} (h : ∀ w ∈ ws, w ∈ lw_tbl) (hg : ws.all goodWord = true) : ∀ w ∈ ws, w ∈ gT := fun w hw => gT_in (h w hw) (List.all_eq_true.mp hg w hw)
theorem gX0 : ∀ w ∈ wsX00, w ∈ gT := gT_u inX0 (by decide +kernel)
theorem gX1 : ∀ w ∈ wsX10, w ∈ gT := gT_u inX1 (by decide +kernel)
theorem gX2 : ∀ w ∈ wsX20, w ∈ gT := gT_u inX2 (by decide +kernel)
theorem gX3 : ∀ w ∈ wsX30, w ∈ gT := gT_u inX3 (by decide +kernel)
theorem gX4 : ∀ w ∈ wsX40, w ∈ gT := gT_u inX4 (by decide +kernel)
/-! THE FRAME: the worlds of this claim as functions of numbers, and one judgement WP over them -/
abbrev rV : Type := Nat × Int
abbrev rW : Type := Int → Int → Int
def vi (a : Int) : rV := (0, a)
def vr (a : Int) : rV := (1, a)
def vl (a : Int) : rV := (2, a)
def vf (a : Int) : rV := (3, a)
def vu : rV := (9, 0)
def fI (a : Int) : Int32 := Int32.ofInt a
def fL (a : Int) : Int64 := Int64.ofInt a
def fF (a : Int) : UInt32 := UInt32.ofNat a.toNat
def cv (ad : Int → Nat) (v : rV) : Value := match v.1 with
  | 0 => .int (fI v.2)
  | 1 => .ref (ad v.2)
  | 2 => .long (fL v.2)
  | _ => .float (fF v.2)
def wset (w : rW) (r k v : Int) : rW := fun r' k' => if r' = r ∧ k' = k then v else w r' k'
def fl (ad : Int → Nat) (w : rW) (r : Int) : Nat → List Value
  | 0 => [.ref (ad (w r 0)), .int (fI (w r 1)), .int (fI (w r 2))]
  | 1 => [.ref (ad (w r 0)), .int (fI (w r 1)), .int (fI (w r 2))]
  | 2 => [.ref (ad (w r 0)), .int (fI (w r 1))]
  | 3 => [.ref (ad (w r 0)), .ref (ad (w r 1)), .ref (ad (w r 2)), .ref (ad (w r 3))]
  | _ => [.ref (ad (w r 0)), .ref (ad (w r 1)), .ref (ad (w r 2)), .int (fI (w r 3)), .ref (ad (w r 4)), .int (fI (w r 5)), .int (fI (w r 6)), .ref (ad (w r 7)), .int (fI (w r 8)), .ref (ad (w r 9)), .int (fI (w r 10)), .ref (ad (w r 11)), .int (fI (w r 12)), .int (fI (w r 13)), .int (fI (w r 14)), .ref (ad (w r 15))]
def ar (c : ClassId) (n : Nat) (w : rW) (r : Int) : va_E := .inl (c, n, .inl (fun j : Nat => fI (w r j)))
def ob (ad : Int → Nat) (w : rW) (r : Int) (ci : Nat) : va_E := .inr (ci, fl ad w r ci)
def wl (ad : Int → Nat) (cI cC : ClassId) (w : rW) : va_W :=
  [(ad 0, ob ad w 0 3), (ad 1, ob ad w 1 1), (ad 2, ar cI 40 w 2), (ad 3, ob ad w 3 1), (ad 4, ar cI 40 w 4), (ad 5, ob ad w 5 0), (ad 6, ar cI 336 w 6), (ad 7, ob ad w 7 2), (ad 8, ar cI 60 w 8),
   (ad 9, ob ad w 9 4), (ad 10, ar cI 84 w 10), (ad 11, ar cI 336 w 11), (ad 12, ar cI 84 w 12), (ad 13, ar cC 60 w 13), (ad 14, ar cI 41 w 14), (ad 15, ar cI 4200 w 15), (ad 16, ar cI 4200 w 16), (ad 17, ar cI 80 w 17)]
/-- the class of an object, by its number -/
def oc (r : Int) : Nat := if r = 0 then 3 else if r = 1 then 1 else if r = 3 then 1 else if r = 5 then 0 else if r = 7 then 2 else if r = 9 then 4 else 99
/-- the length of an array of ints, by its number; 0: none -/
def al (r : Int) : Int := if r = 2 then 40 else if r = 4 then 40 else if r = 6 then 336 else if r = 8 then 60 else if r = 10 then 84 else if r = 11 then 336 else if r = 12 then 84 else if r = 14 then 41 else if r = 15 then 4200 else if r = 16 then 4200 else if r = 17 then 80 else 0
theorem oc_at {ad : Int → Nat} {cI cC : ClassId} {w : rW} {r : Int} {ci : Nat} (h : oc r = ci) (hc : ci ≤ 4) : ∃ q0 : Nat, (wl ad cI cC w)[q0]? = some (ad r, .inr (ci, fl ad w r ci)) := by
  subst h
  unfold oc at hc ⊢
  repeat' split
  all_goals first | (exfalso; simp_all; done) | subst_vars
  · exact ⟨0, rfl⟩
  · exact ⟨1, rfl⟩
  · exact ⟨3, rfl⟩
  · exact ⟨5, rfl⟩
  · exact ⟨7, rfl⟩
  · exact ⟨9, rfl⟩
theorem al_at {ad : Int → Nat} {cI cC : ClassId} {w : rW} {r i : Int} (h0 : 0 ≤ i) (h : i < al r) : ∃ q0 n : Nat, (n : Int) = al r ∧ n < 5000 ∧ (wl ad cI cC w)[q0]? = some (ad r, .inl (cI, n, .inl (fun j : Nat => fI (w r j)))) := by
  unfold al at h ⊢
  repeat' split
  all_goals first | (exfalso; simp_all; omega) | subst_vars
  · exact ⟨2, 40, rfl, by decide, rfl⟩
  · exact ⟨4, 40, rfl, by decide, rfl⟩
  · exact ⟨6, 336, rfl, by decide, rfl⟩
  · exact ⟨8, 60, rfl, by decide, rfl⟩
  · exact ⟨10, 84, rfl, by decide, rfl⟩
  · exact ⟨11, 336, rfl, by decide, rfl⟩
  · exact ⟨12, 84, rfl, by decide, rfl⟩
  · exact ⟨14, 41, rfl, by decide, rfl⟩
  · exact ⟨15, 4200, rfl, by decide, rfl⟩
  · exact ⟨16, 4200, rfl, by decide, rfl⟩
  · exact ⟨17, 80, rfl, by decide, rfl⟩
theorem fl_other {ad : Int → Nat} {w : rW} {r r' k v : Int} {ci : Nat} (h : r' ≠ r) : fl ad (wset w r k v) r' ci = fl ad w r' ci := by
  have e : ∀ j, wset w r k v r' j = w r' j := fun j => by unfold wset; rw [if_neg (fun q => h q.1)]
  unfold fl; split <;> simp only [e]
theorem ar_other {c : ClassId} {n : Nat} {w : rW} {r r' k v : Int} (h : r' ≠ r) : ar c n (wset w r k v) r' = ar c n w r' := by
  have e : ∀ j, wset w r k v r' j = w r' j := fun j => by unfold wset; rw [if_neg (fun q => h q.1)]
  unfold ar; simp only [e]
theorem ob_other {ad : Int → Nat} {w : rW} {r r' k v : Int} {ci : Nat} (h : r' ≠ r) : ob ad (wset w r k v) r' ci = ob ad w r' ci := by
  unfold ob; rw [fl_other h]
theorem ar_self {c : ClassId} {n : Nat} {w : rW} {r k v : Int} (h : 0 ≤ k) : (Sum.inl (c, n, Sum.inl (upd (fun j : Nat => fI (w r j)) k.toNat (fI v))) : va_E) = ar c n (wset w r k v) r := by
  unfold ar
  congr 4
  funext j
  unfold upd wset
  by_cases hj : j = k.toNat
  · have : (j : Int) = k := by omega
    rw [if_pos hj, if_pos ⟨rfl, this⟩]
  · have : ¬ (j : Int) = k := by omega
    rw [if_neg hj, if_neg (fun q => this q.2)]
theorem al_put {ad : Int → Nat} {cI cC : ClassId} {w : rW} {r i : Int} (h0 : 0 ≤ i) (h : i < al r) : ∃ q0 n : Nat, (n : Int) = al r ∧ n < 5000 ∧ (wl ad cI cC w)[q0]? = some (ad r, .inl (cI, n, .inl (fun j : Nat => fI (w r j)))) ∧ ∀ v : Int, (wl ad cI cC w).set q0 (ad r, .inl (cI, n, .inl (upd (fun j : Nat => fI (w r j)) i.toNat (fI v)))) = wl ad cI cC (wset w r i v) := by
  unfold al at h ⊢
  repeat' split
  all_goals first | (exfalso; simp_all; omega) | subst_vars
  · refine ⟨2, 40, rfl, by decide, rfl, fun v => ?_⟩
    rw [ar_self h0]
    simp [wl, ob_other, ar_other]
  · refine ⟨4, 40, rfl, by decide, rfl, fun v => ?_⟩
    rw [ar_self h0]
    simp [wl, ob_other, ar_other]
  · refine ⟨6, 336, rfl, by decide, rfl, fun v => ?_⟩
    rw [ar_self h0]
    simp [wl, ob_other, ar_other]
  · refine ⟨8, 60, rfl, by decide, rfl, fun v => ?_⟩
    rw [ar_self h0]
    simp [wl, ob_other, ar_other]
  · refine ⟨10, 84, rfl, by decide, rfl, fun v => ?_⟩
    rw [ar_self h0]
    simp [wl, ob_other, ar_other]
  · refine ⟨11, 336, rfl, by decide, rfl, fun v => ?_⟩
    rw [ar_self h0]
    simp [wl, ob_other, ar_other]
  · refine ⟨12, 84, rfl, by decide, rfl, fun v => ?_⟩
    rw [ar_self h0]
    simp [wl, ob_other, ar_other]
  · refine ⟨14, 41, rfl, by decide, rfl, fun v => ?_⟩
    rw [ar_self h0]
    simp [wl, ob_other, ar_other]
  · refine ⟨15, 4200, rfl, by decide, rfl, fun v => ?_⟩
    rw [ar_self h0]
    simp [wl, ob_other, ar_other]
  · refine ⟨16, 4200, rfl, by decide, rfl, fun v => ?_⟩
    rw [ar_self h0]
    simp [wl, ob_other, ar_other]
  · refine ⟨17, 80, rfl, by decide, rfl, fun v => ?_⟩
    rw [ar_self h0]
    simp [wl, ob_other, ar_other]
theorem ch_put {ad : Int → Nat} {cI cC : ClassId} {w : rW} {i v : Int} (h0 : 0 ≤ i) : (wl ad cI cC w).set 13 (ad 13, .inl (cC, 60, .inl (upd (fun j : Nat => fI (w 13 j)) i.toNat (fI v)))) = wl ad cI cC (wset w 13 i v) := by
  rw [ar_self h0]
  simp [wl, ob_other, ar_other]
theorem pt_1_1 {ad : Int → Nat} {cI cC : ClassId} {w : rW} {r : Int} (h : oc r = 1) : ∃ q0 : Nat, (wl ad cI cC w)[q0]? = some (ad r, .inr (1, fl ad w r 1)) ∧ ∀ v : Int, (wl ad cI cC w).set q0 (ad r, .inr (1, (fl ad w r 1).set 1 (cv ad (vi v)))) = wl ad cI cC (wset w r 1 v) := by
  unfold oc at h
  repeat' split at h
  all_goals first | (exfalso; simp_all; done) | subst_vars
  · refine ⟨1, rfl, fun v => ?_⟩
    simp [wl, ob_other, ar_other, ob, fl, wset, cv, vi]
  · refine ⟨3, rfl, fun v => ?_⟩
    simp [wl, ob_other, ar_other, ob, fl, wset, cv, vi]
theorem pt_1_2 {ad : Int → Nat} {cI cC : ClassId} {w : rW} {r : Int} (h : oc r = 1) : ∃ q0 : Nat, (wl ad cI cC w)[q0]? = some (ad r, .inr (1, fl ad w r 1)) ∧ ∀ v : Int, (wl ad cI cC w).set q0 (ad r, .inr (1, (fl ad w r 1).set 2 (cv ad (vi v)))) = wl ad cI cC (wset w r 2 v) := by
  unfold oc at h
  repeat' split at h
  all_goals first | (exfalso; simp_all; done) | subst_vars
  · refine ⟨1, rfl, fun v => ?_⟩
    simp [wl, ob_other, ar_other, ob, fl, wset, cv, vi]
  · refine ⟨3, rfl, fun v => ?_⟩
    simp [wl, ob_other, ar_other, ob, fl, wset, cv, vi]
theorem pt_0_1 {ad : Int → Nat} {cI cC : ClassId} {w : rW} {r : Int} (h : oc r = 0) : ∃ q0 : Nat, (wl ad cI cC w)[q0]? = some (ad r, .inr (0, fl ad w r 0)) ∧ ∀ v : Int, (wl ad cI cC w).set q0 (ad r, .inr (0, (fl ad w r 0).set 1 (cv ad (vi v)))) = wl ad cI cC (wset w r 1 v) := by
  unfold oc at h
  repeat' split at h
  all_goals first | (exfalso; simp_all; done) | subst_vars
  · refine ⟨5, rfl, fun v => ?_⟩
    simp [wl, ob_other, ar_other, ob, fl, wset, cv, vi]
theorem pt_0_2 {ad : Int → Nat} {cI cC : ClassId} {w : rW} {r : Int} (h : oc r = 0) : ∃ q0 : Nat, (wl ad cI cC w)[q0]? = some (ad r, .inr (0, fl ad w r 0)) ∧ ∀ v : Int, (wl ad cI cC w).set q0 (ad r, .inr (0, (fl ad w r 0).set 2 (cv ad (vi v)))) = wl ad cI cC (wset w r 2 v) := by
  unfold oc at h
  repeat' split at h
  all_goals first | (exfalso; simp_all; done) | subst_vars
  · refine ⟨5, rfl, fun v => ?_⟩
    simp [wl, ob_other, ar_other, ob, fl, wset, cv, vi]
theorem pt_2_1 {ad : Int → Nat} {cI cC : ClassId} {w : rW} {r : Int} (h : oc r = 2) : ∃ q0 : Nat, (wl ad cI cC w)[q0]? = some (ad r, .inr (2, fl ad w r 2)) ∧ ∀ v : Int, (wl ad cI cC w).set q0 (ad r, .inr (2, (fl ad w r 2).set 1 (cv ad (vi v)))) = wl ad cI cC (wset w r 1 v) := by
  unfold oc at h
  repeat' split at h
  all_goals first | (exfalso; simp_all; done) | subst_vars
  · refine ⟨7, rfl, fun v => ?_⟩
    simp [wl, ob_other, ar_other, ob, fl, wset, cv, vi]
theorem pt_3_0 {ad : Int → Nat} {cI cC : ClassId} {w : rW} {r : Int} (h : oc r = 3) : ∃ q0 : Nat, (wl ad cI cC w)[q0]? = some (ad r, .inr (3, fl ad w r 3)) ∧ ∀ v : Int, (wl ad cI cC w).set q0 (ad r, .inr (3, (fl ad w r 3).set 0 (cv ad (vr v)))) = wl ad cI cC (wset w r 0 v) := by
  unfold oc at h
  repeat' split at h
  all_goals first | (exfalso; simp_all; done) | subst_vars
  · refine ⟨0, rfl, fun v => ?_⟩
    simp [wl, ob_other, ar_other, ob, fl, wset, cv, vr]
theorem pt_3_1 {ad : Int → Nat} {cI cC : ClassId} {w : rW} {r : Int} (h : oc r = 3) : ∃ q0 : Nat, (wl ad cI cC w)[q0]? = some (ad r, .inr (3, fl ad w r 3)) ∧ ∀ v : Int, (wl ad cI cC w).set q0 (ad r, .inr (3, (fl ad w r 3).set 1 (cv ad (vr v)))) = wl ad cI cC (wset w r 1 v) := by
  unfold oc at h
  repeat' split at h
  all_goals first | (exfalso; simp_all; done) | subst_vars
  · refine ⟨0, rfl, fun v => ?_⟩
    simp [wl, ob_other, ar_other, ob, fl, wset, cv, vr]
theorem pt_4_3 {ad : Int → Nat} {cI cC : ClassId} {w : rW} {r : Int} (h : oc r = 4) : ∃ q0 : Nat, (wl ad cI cC w)[q0]? = some (ad r, .inr (4, fl ad w r 4)) ∧ ∀ v : Int, (wl ad cI cC w).set q0 (ad r, .inr (4, (fl ad w r 4).set 3 (cv ad (vi v)))) = wl ad cI cC (wset w r 3 v) := by
  unfold oc at h
  repeat' split at h
  all_goals first | (exfalso; simp_all; done) | subst_vars
  · refine ⟨9, rfl, fun v => ?_⟩
    simp [wl, ob_other, ar_other, ob, fl, wset, cv, vi]
theorem pt_4_5 {ad : Int → Nat} {cI cC : ClassId} {w : rW} {r : Int} (h : oc r = 4) : ∃ q0 : Nat, (wl ad cI cC w)[q0]? = some (ad r, .inr (4, fl ad w r 4)) ∧ ∀ v : Int, (wl ad cI cC w).set q0 (ad r, .inr (4, (fl ad w r 4).set 5 (cv ad (vi v)))) = wl ad cI cC (wset w r 5 v) := by
  unfold oc at h
  repeat' split at h
  all_goals first | (exfalso; simp_all; done) | subst_vars
  · refine ⟨9, rfl, fun v => ?_⟩
    simp [wl, ob_other, ar_other, ob, fl, wset, cv, vi]
theorem pt_4_6 {ad : Int → Nat} {cI cC : ClassId} {w : rW} {r : Int} (h : oc r = 4) : ∃ q0 : Nat, (wl ad cI cC w)[q0]? = some (ad r, .inr (4, fl ad w r 4)) ∧ ∀ v : Int, (wl ad cI cC w).set q0 (ad r, .inr (4, (fl ad w r 4).set 6 (cv ad (vi v)))) = wl ad cI cC (wset w r 6 v) := by
  unfold oc at h
  repeat' split at h
  all_goals first | (exfalso; simp_all; done) | subst_vars
  · refine ⟨9, rfl, fun v => ?_⟩
    simp [wl, ob_other, ar_other, ob, fl, wset, cv, vi]
theorem pt_4_8 {ad : Int → Nat} {cI cC : ClassId} {w : rW} {r : Int} (h : oc r = 4) : ∃ q0 : Nat, (wl ad cI cC w)[q0]? = some (ad r, .inr (4, fl ad w r 4)) ∧ ∀ v : Int, (wl ad cI cC w).set q0 (ad r, .inr (4, (fl ad w r 4).set 8 (cv ad (vi v)))) = wl ad cI cC (wset w r 8 v) := by
  unfold oc at h
  repeat' split at h
  all_goals first | (exfalso; simp_all; done) | subst_vars
  · refine ⟨9, rfl, fun v => ?_⟩
    simp [wl, ob_other, ar_other, ob, fl, wset, cv, vi]
theorem pt_4_10 {ad : Int → Nat} {cI cC : ClassId} {w : rW} {r : Int} (h : oc r = 4) : ∃ q0 : Nat, (wl ad cI cC w)[q0]? = some (ad r, .inr (4, fl ad w r 4)) ∧ ∀ v : Int, (wl ad cI cC w).set q0 (ad r, .inr (4, (fl ad w r 4).set 10 (cv ad (vi v)))) = wl ad cI cC (wset w r 10 v) := by
  unfold oc at h
  repeat' split at h
  all_goals first | (exfalso; simp_all; done) | subst_vars
  · refine ⟨9, rfl, fun v => ?_⟩
    simp [wl, ob_other, ar_other, ob, fl, wset, cv, vi]
theorem pt_4_12 {ad : Int → Nat} {cI cC : ClassId} {w : rW} {r : Int} (h : oc r = 4) : ∃ q0 : Nat, (wl ad cI cC w)[q0]? = some (ad r, .inr (4, fl ad w r 4)) ∧ ∀ v : Int, (wl ad cI cC w).set q0 (ad r, .inr (4, (fl ad w r 4).set 12 (cv ad (vi v)))) = wl ad cI cC (wset w r 12 v) := by
  unfold oc at h
  repeat' split at h
  all_goals first | (exfalso; simp_all; done) | subst_vars
  · refine ⟨9, rfl, fun v => ?_⟩
    simp [wl, ob_other, ar_other, ob, fl, wset, cv, vi]
theorem pt_4_13 {ad : Int → Nat} {cI cC : ClassId} {w : rW} {r : Int} (h : oc r = 4) : ∃ q0 : Nat, (wl ad cI cC w)[q0]? = some (ad r, .inr (4, fl ad w r 4)) ∧ ∀ v : Int, (wl ad cI cC w).set q0 (ad r, .inr (4, (fl ad w r 4).set 13 (cv ad (vi v)))) = wl ad cI cC (wset w r 13 v) := by
  unfold oc at h
  repeat' split at h
  all_goals first | (exfalso; simp_all; done) | subst_vars
  · refine ⟨9, rfl, fun v => ?_⟩
    simp [wl, ob_other, ar_other, ob, fl, wset, cv, vi]
theorem pt_4_14 {ad : Int → Nat} {cI cC : ClassId} {w : rW} {r : Int} (h : oc r = 4) : ∃ q0 : Nat, (wl ad cI cC w)[q0]? = some (ad r, .inr (4, fl ad w r 4)) ∧ ∀ v : Int, (wl ad cI cC w).set q0 (ad r, .inr (4, (fl ad w r 4).set 14 (cv ad (vi v)))) = wl ad cI cC (wset w r 14 v) := by
  unfold oc at h
  repeat' split at h
  all_goals first | (exfalso; simp_all; done) | subst_vars
  · refine ⟨9, rfl, fun v => ?_⟩
    simp [wl, ob_other, ar_other, ob, fl, wset, cv, vi]
/-- the locals -/
def lR (ad : Int → Nat) (nL : Nat) (L : List rV) (ls : Array Slot) : Prop := ls.size = nL ∧ lv_wf ls ∧ ∀ (k : Nat) (v : rV), L[k]? = some v → v.1 < 9 → ls[k]? = some (.val (cv ad v))
def prs (ad : Int → Nat) (L : List rV) : List (Nat × Value) := (L.zipIdx.filter (fun q => decide (q.1.1 < 9))).map (fun q => (q.2, cv ad q.1))
theorem mem_prs {ad : Int → Nat} {L : List rV} {q : Nat × Value} : q ∈ prs ad L ↔ ∃ (k : Nat) (v : rV), L[k]? = some v ∧ v.1 < 9 ∧ q = (k, cv ad v) := by
  unfold prs
  constructor
  · intro h
    obtain ⟨⟨v, k⟩, h1, h2⟩ := List.mem_map.mp h
    obtain ⟨h3, h4⟩ := List.mem_filter.mp h1
    rw [List.mem_zipIdx_iff_getElem?] at h3
    exact ⟨k, v, h3, by simpa using h4, h2.symm⟩
  · rintro ⟨k, v, h1, h2, rfl⟩
    refine List.mem_map.mpr ⟨(v, k), List.mem_filter.mpr ⟨?_, by simpa using h2⟩, rfl⟩
    rw [List.mem_zipIdx_iff_getElem?]
    exact h1
theorem lR.has {ad : Int → Nat} {nL : Nat} {L : List rV} {ls : Array Slot} (h : lR ad nL L ls) : lv_has ls nL (prs ad L) := by
  refine ⟨h.1, h.2.1, fun q hq => ?_⟩
  obtain ⟨k, v, h1, h2, rfl⟩ := mem_prs.mp hq
  exact h.2.2 k v h1 h2
theorem cv_cat {ad : Int → Nat} {v : rV} (h : (cv ad v).category = 2) : v.1 = 2 := by
  obtain ⟨t, a⟩ := v
  unfold cv at h
  split at h <;> simp_all [Value.category]
/-- no long stands right ahead of the place k -/
def nlb (L : List rV) (k : Nat) : Bool := match k with
  | 0 => true
  | j + 1 => match L[j]? with
    | some v => v.1 != 2
    | none => true
theorem nlb_at {L : List rV} {k j : Nat} {v : rV} (h : nlb L k = true) (hj : j + 1 = k) (hv : L[j]? = some v) : v.1 ≠ 2 := by
  subst hj
  simp [nlb, hv] at h
  exact h
theorem lR.st1 {ad : Int → Nat} {nL i : Nat} {L : List rV} {x : rV} {ls' : Array Slot} (hk : nlb L i = true) (h : lv_has ls' nL ((i, cv ad x) :: (prs ad L).filter (fun q => !(q.1 == i) && !(q.1 + 1 == i && q.2.category == 2)))) : lR ad nL (L.set i x) ls' := by
  refine ⟨h.1, h.2.1, fun k v hv hv9 => ?_⟩
  by_cases e : k = i
  · subst e
    have hl : k < L.length := by
      have := (List.getElem?_eq_some_iff.mp hv).1
      simpa using this
    rw [List.getElem?_set_self hl] at hv
    cases hv
    exact h.2.2 _ List.mem_cons_self
  · rw [List.getElem?_set_ne (Ne.symm e)] at hv
    refine h.2.2 (k, cv ad v) (List.mem_cons_of_mem _ (List.mem_filter.mpr ⟨mem_prs.mpr ⟨k, v, hv, hv9, rfl⟩, ?_⟩))
    simp only [Bool.and_eq_true, Bool.not_eq_true', beq_eq_false_iff_ne, ne_eq, Bool.and_eq_false_iff]
    refine ⟨e, ?_⟩
    by_cases e2 : k + 1 = i
    · exact Or.inr (fun q => nlb_at hk e2 hv (cv_cat q))
    · exact Or.inl e2
theorem lR.st2 {ad : Int → Nat} {nL i : Nat} {L : List rV} {x : rV} {ls' : Array Slot} (hk : nlb L i = true) (h : lv_has ls' nL ((i, cv ad x) :: (prs ad L).filter (fun q => !(q.1 == i) && (!(q.1 == i + 1) && !(q.1 + 1 == i && q.2.category == 2))))) : lR ad nL ((L.set i x).set (i + 1) vu) ls' := by
  refine ⟨h.1, h.2.1, fun k v hv hv9 => ?_⟩
  by_cases e1 : k = i + 1
  · subst e1
    by_cases hl : i + 1 < (L.set i x).length
    · rw [List.getElem?_set_self hl] at hv
      cases hv
      exact absurd hv9 (by decide)
    · have := (List.getElem?_eq_some_iff.mp hv).1
      simp at this hl
      omega
  rw [List.getElem?_set_ne (Ne.symm e1)] at hv
  by_cases e : k = i
  · subst e
    have hl : k < L.length := by
      have := (List.getElem?_eq_some_iff.mp hv).1
      simpa using this
    rw [List.getElem?_set_self hl] at hv
    cases hv
    exact h.2.2 _ List.mem_cons_self
  · rw [List.getElem?_set_ne (Ne.symm e)] at hv
    refine h.2.2 (k, cv ad v) (List.mem_cons_of_mem _ (List.mem_filter.mpr ⟨mem_prs.mpr ⟨k, v, hv, hv9, rfl⟩, ?_⟩))
    simp only [Bool.and_eq_true, Bool.not_eq_true', beq_eq_false_iff_ne, ne_eq, Bool.and_eq_false_iff]
    refine ⟨e, e1, ?_⟩
    by_cases e2 : k + 1 = i
    · exact Or.inr (fun q => nlb_at hk e2 hv (cv_cat q))
    · exact Or.inl e2
theorem lR.forget {ad : Int → Nat} {nL : Nat} {L L' : List rV} {ls : Array Slot} (h : lR ad nL L ls) (hf : ∀ (k : Nat) (v : rV), L'[k]? = some v → v.1 < 9 → L[k]? = some v) : lR ad nL L' ls :=
  ⟨h.1, h.2.1, fun k v hv h9 => h.2.2 k v (hf k v hv h9) h9⟩
/-- a method: its name, bytes, locals, what it returns, its room's frames and locals -/
abbrev MI : Type := MethodName × ByteArray × Nat × Option FieldType × Nat × Nat
abbrev mN (μ : MI) : MethodName := μ.1
abbrev mB (μ : MI) : ByteArray := μ.2.1
abbrev mL (μ : MI) : Nat := μ.2.2.1
abbrev mR (μ : MI) : Option FieldType := μ.2.2.2.1
abbrev mF (μ : MI) : Nat := μ.2.2.2.2.1
abbrev mO (μ : MI) : Nat := μ.2.2.2.2.2
/-- what a method may answer, and the instruction that answers it -/
def rEnd (μ : MI) (pc : Nat) (v : List rV) : Prop :=
  (mR μ = none ∧ v = [] ∧ decode (mB μ) pc = .ok (.return_, 1)) ∨ (mR μ = some .int ∧ (∃ a, v = [vi a]) ∧ decode (mB μ) pc = .ok (.ireturn, 1)) ∨ (mR μ = some .boolean ∧ (v = [vi 0] ∨ v = [vi 1]) ∧ decode (mB μ) pc = .ok (.ireturn, 1)) ∨
  (mR μ = some .long ∧ (∃ a, v = [vl a]) ∧ decode (mB μ) pc = .ok (.lreturn, 1)) ∨ ((∃ C, mR μ = some (.object C)) ∧ (∃ a, v = [vr a]) ∧ decode (mB μ) pc = .ok (.areturn, 1))
abbrev Tys (cI cC : ClassId) : List (ClassId × FieldType) := [(cI, .int), (cC, .char)]
def Cx (μ : MI) (p : Program) (R : Room) (s : State) (m : MethodId) (args : Array Value) (c : Code) (D : va_G) (cI cC : ClassId) (A : Nat → Prop) (H0 : Heap) : Prop :=
  p.tables.exec = Jvm.exec ∧ c.code = mB μ ∧ c.maxLocals = mL μ ∧ s.vm.findClass (mN μ).cls = some m.cls ∧ (∀ w ∈ gT, w.before args s = true) ∧ mF μ ≤ R.frames ∧ mO μ ≤ R.locals ∧ va_K D vwCl (Tys cI cC) s ∧ (∀ q : Nat, H0.size ≤ q → A q)
def WP (μ : MI) (pc : Nat) (L st : List rV) (w : rW) (Q : List rV → rW → Prop) : Prop :=
  ∀ (p : Program) (l : Launch) (e : Env) (R : Room) (s : State) (m : MethodId) (args : Array Value) (below : List Frame) (meth : Method) (c : Code) (D : va_G) (cI cC : ClassId) (A : Nat → Prop) (H0 : Heap) (ad : Int → Nat) (ls : Array Slot) (H : Heap) (locs : List Loc) (cells slots : Nat) (QQ : State → Prop),
    Cx μ p R s m args c D cI cC A H0 → cells ≤ R.cells → slots ≤ R.slots → va_P D vwCl (wl ad cI cC w) H → va_D A (wl ad cI cC w) → va_S A H0 H locs → lR ad (mL μ) L ls →
    (∀ (v : List rV) (w' : rW) (pc' : Nat) (H' : Heap) (locs' : List Loc) (ls' : Array Slot), Q v w' → rEnd μ pc' v → va_P D vwCl (wl ad cI cC w') H' → va_D A (wl ad cI cC w') → va_S A H0 H' locs' → W p l e R s m args below meth c H' locs' cells slots QQ (F0 m pc' ls' (v.map (cv ad)))) →
    W p l e R s m args below meth c H locs cells slots QQ (F0 m pc ls (st.map (cv ad)))
end
section
/-- a method's words: its own code, and all that the tables say -/
abbrev wsT (μ : MI) : List Cond := .code (mN μ) (mB μ) (mL μ) (mR μ) :: gT
theorem wsT_good {μ : MI} (h : Cond.code (mN μ) (mB μ) (mL μ) (mR μ) ∈ gT) : GoodIn gT (wsT μ) := fun w hw => by
  rcases List.mem_cons.mp hw with rfl | hw
  · exact gT_good _ h
  · exact gT_good _ hw
abbrev rmT (μ : MI) : Room := { frames := mF μ, cells := 0, slots := 0, locals := mO μ }
abbrev PcT (D : va_G) (cI cC : ClassId) (ad : Int → Nat) (w : rW) (av : List rV) (sz : Nat) : Array Value → State → Prop :=
  va_Pc (av.map (cv ad)) (fun U => U.heap.size = sz ∧ va_P D vwCl (wl ad cI cC w) U.heap ∧ va_K D vwCl (Tys cI cC) U ∧ va_D (fun _ => True) (wl ad cI cC w))
def QcT (D : va_G) (cI cC : ClassId) (ad : Int → Nat) (Q : List rV → rW → Prop) (A : Nat → Prop) : Array Value → State → Outcome → State → Prop := fun _ st o t =>
  (∃ (v : List rV) (w' : rW), o = .returned (v.head?.map (cv ad)) ∧ v.length ≤ 1 ∧ Q v w' ∧ va_P D vwCl (wl ad cI cC w') t.heap ∧ va_D A (wl ad cI cC w')) ∧ va_F A st t
theorem lR.entry {ad : Int → Nat} {nL : Nat} {av : List rV} {L : List rV} (hlen : (lg_sl (av.map (cv ad))).length ≤ nL) (hL : ∀ (k : Nat) (v : rV), L[k]? = some v → v.1 < 9 → (k, cv ad v) ∈ lv_args 0 (av.map (cv ad))) :
    lR ad nL L ((lg_sl (av.map (cv ad)) ++ List.replicate (nL - (lg_sl (av.map (cv ad))).length) Slot.unset).toArray) := by
  have h := lv_entry (av.map (cv ad)) hlen
  exact ⟨h.1, h.2.1, fun k v hv h9 => h.2.2 _ (hL k v hv h9)⟩
theorem PcT.blind {D : va_G} {cI cC : ClassId} {ad : Int → Nat} {w : rW} {av : List rV} {sz : Nat} : FrameBlind (PcT D cI cC ad w av sz) := by
  intro a U g mk q
  obtain ⟨q0, q1, qP, qK, qD⟩ := q
  exact ⟨q0, q1, qP, va_K.moved (u := U) (U := U.calling g mk a) (Vm.Alike.refl U.vm) qK, qD⟩
set_option maxHeartbeats 1000000 in
/-- a walk of a method's body is its contract -/
theorem met_of {μ : MI} {w : rW} {Q : List rV → rW → Prop} {av L : List rV} (hy : plainName (mN μ).cls = true) (hWP : WP μ 0 L [] w Q)
    (l : Launch) (D : va_G) (cI cC : ClassId) (ad : Int → Nat) (sz : Nat) (hlen : (lg_sl (av.map (cv ad))).length ≤ mL μ) (hL : ∀ (k : Nat) (v : rV), L[k]? = some v → v.1 < 9 → (k, cv ad v) ∈ lv_args 0 (av.map (cv ad))) :
    Met l (mN μ) (wsT μ) (rmT μ) (PcT D cI cC ad w av sz) (QcT D cI cC ad Q (va_A (wl ad cI cC w) sz)) 0 0 (va_A (wl ad cI cC w) sz) := by
  refine Met.ofW (cc := mB μ) (maxL := mL μ) (ret := mR μ) hy rfl ?_
  intro p e s m args below meth c s₁ B hml hv
  obtain ⟨rfl, hsz, hP, hK, hD0⟩ := hv
  have hx := B.exec
  have hb := B.bytes
  have hr := B.returns
  have hts := atoms_spec (ws := wsT μ) B.pre
  have hown : s.vm.findClass (mN μ).cls = some m.cls := findClass_of_methodNamed B.named
  have hlocks := B.notSynchronized
  subst hsz
  have hD := hD0.self (sz := s.heap.size)
  have hA : ∀ q : Nat, s.heap.size ≤ q → (va_A (wl ad cI cC w) s.heap.size) q := fun q h => Or.inr h
  generalize hAe : va_A (wl ad cI cC w) s.heap.size = A at hD hA ⊢
  have hS : va_S A s.heap s.heap [] := va_S.rf
  rw [lg_entry_eq]
  refine hWP p l e _ s m _ below meth c D cI cC A s.heap ad _ s.heap [] 0 0 _ ⟨hx, hb, hml, hown, fun w hw => hts w (List.mem_cons_of_mem _ hw), Nat.le_refl _, Nat.le_refl _, hK, hA⟩ (Nat.zero_le _) (Nat.zero_le _) hP hD hS (lR.entry hlen hL) ?_
  intro v w' pc' H' locs' ls' hq hend hP' hD' hS'
  rcases hend with ⟨h1, rfl, h3⟩ | ⟨h1, ⟨a, rfl⟩, h3⟩ | ⟨h1, h2, h3⟩ | ⟨h1, ⟨a, rfl⟩, h3⟩ | ⟨⟨C, h1⟩, ⟨a, rfl⟩, h3⟩
  · exact W.vret hx hb (hr.trans h1) (fun t ht hW => ⟨⟨_, w', rfl, by decide, hq, by rw [ht]; exact hP', hD'⟩, hS'.F ht⟩) hS'.2.2 h3
  · exact W.iret (v := fI a) hx hb (hr.trans h1) (fun t ht hW => ⟨⟨_, w', rfl, by simp, hq, by rw [ht]; exact hP', hD'⟩, hS'.F ht⟩) hS'.2.2 h3
  · rcases h2 with rfl | rfl
    · exact W.zret (v := fI 0) hx hb (hr.trans h1) (by decide) (fun t ht hW => ⟨⟨_, w', rfl, by simp, hq, by rw [ht]; exact hP', hD'⟩, hS'.F ht⟩) hS'.2.2 h3
    · exact W.zret (v := fI 1) hx hb (hr.trans h1) (by decide) (fun t ht hW => ⟨⟨_, w', rfl, by simp, hq, by rw [ht]; exact hP', hD'⟩, hS'.F ht⟩) hS'.2.2 h3
  · exact W.lret (v := fL a) hx hb (hr.trans h1) (fun t ht hW => ⟨⟨_, w', rfl, by simp, hq, by rw [ht]; exact hP', hD'⟩, hS'.F ht⟩) hS'.2.2 h3
  · exact W.aret (v := .ref (ad a)) hx hb (hr.trans h1) (Or.inl ⟨C, rfl⟩) (Or.inr ⟨_, rfl⟩) (fun t ht hW => ⟨⟨_, w', rfl, by simp, hq, by rw [ht]; exact hP', hD'⟩, hS'.F ht⟩) hS'.2.2 h3
section QCALL
variable {p : Program} {l : Launch} {e : Env} {R : Room} {s : State} {m : MethodId} {args : Array Value} {below : List Frame} {meth : Method} {c : Code} {H : Heap} {locs : List Loc} {cells slots : Nat} {QQ : State → Prop}
variable {D : va_G} {cI cC : ClassId} {A : Nat → Prop} {H0 : Heap} {ad : Int → Nat}
theorem call_W {w : rW} {Q : List rV → rW → Prop} {pc : Nat} {ls : Array Slot} {rest st0 : List Value} {a : Array Value} (hD : va_D A (wl ad cI cC w)) (hS : va_S A H0 H locs) (hA : ∀ q, H0.size ≤ q → A q)
    (hr : va_Run p l e R s m args below meth c H locs cells slots 0 0 (F0 m pc ls st0) rest (QcT D cI cC ad Q (va_A (wl ad cI cC w) H.size) a) (va_A (wl ad cI cC w) H.size))
    (kk : ∀ (v : List rV) (w' : rW) (H1 : Heap) (locs1 : List Loc), Q v w' → va_P D vwCl (wl ad cI cC w') H1 → va_D A (wl ad cI cC w') → va_S A H0 H1 locs1 → W p l e R s m args below meth c H1 locs1 cells slots QQ (F0 m (pc + 3) ls (v.map (cv ad) ++ rest))) :
    W p l e R s m args below meth c H locs cells slots QQ (F0 m pc ls st0) := by
  have hF : ∀ q, va_A (wl ad cI cC w) H.size q → A q := fun q h => by
    rcases h with ⟨k, e, h⟩ | h
    · exact hD.2 k _ h
    · exact hA q (Nat.le_trans hS.1 h)
  intro T hT X
  obtain ⟨v, st₀, t, T', L, h0, X', hL, e1, e2, ⟨⟨v', w', hv, hv1, hq, hP1, hD1⟩, hz, hk⟩, st⟩ := hr T hT X
  cases hv
  rw [h0] at hz hk
  have hst : (Option.map (cv ad) v'.head?).toList ++ rest = v'.map (cv ad) ++ rest := by
    match v', hv1 with
    | [], _ => rfl
    | [x], _ => rfl
  rw [hst] at st
  obtain ⟨t2, a1, b1⟩ := kk v' w' T'.heap (locs ++ L) hq (by rw [e1]; exact hP1) (hD1.weaken (fun _ _ _ h => hF _ h))
    ⟨Nat.le_trans hS.1 (by rw [e1]; exact hz), fun q h1 h2 => by rw [e1, hk q (Nat.lt_of_lt_of_le h1 hS.1) (fun z => h2 (hF q z))]; exact hS.2.1 q h1 h2, fun q hq => by
      rcases List.mem_append.mp hq with h | h
      · exact hS.2.2 q h
      · exact hF _ (hL q h)⟩ T' rfl X'
  exact ⟨t2, st t2 a1, b1⟩
end QCALL
end
section
/-! plain facts on numbers and arrays, to paste: each family by itself; over the kit's rows on nI and upd -/
/-! ===== order of ints, in all its forms, and through longs ===== -/
theorem fa_lt (a b : Int32) : a < b ↔ a.toInt < b.toInt := Int32.lt_iff_toInt_lt
theorem fa_le (a b : Int32) : a ≤ b ↔ a.toInt ≤ b.toInt := Int32.le_iff_toInt_le
theorem fa_eq (a b : Int32) : a = b ↔ a.toInt = b.toInt := Int32.toInt_inj.symm
theorem fa_lt64 (a b : Int64) : a < b ↔ a.toInt < b.toInt := Int64.lt_iff_toInt_lt
theorem fa_le64 (a b : Int64) : a ≤ b ↔ a.toInt ≤ b.toInt := Int64.le_iff_toInt_le
theorem fa_eq64 (a b : Int64) : a = b ↔ a.toInt = b.toInt := Int64.toInt_inj.symm
/-- a comparison of two ints taken as longs -/
theorem fa_wide_lt (a b : Int32) : a.toInt64 < b.toInt64 ↔ a < b := by rw [fa_lt64, fa_lt, Int32.toInt_toInt64, Int32.toInt_toInt64]
theorem fa_wide_le (a b : Int32) : a.toInt64 ≤ b.toInt64 ↔ a ≤ b := by rw [fa_le64, fa_le, Int32.toInt_toInt64, Int32.toInt_toInt64]
theorem fa_wide_eq (a b : Int32) : a.toInt64 = b.toInt64 ↔ a = b := by rw [fa_eq64, fa_eq, Int32.toInt_toInt64, Int32.toInt_toInt64]
/-- one strict comparison gives all the others -/
theorem fa_of_lt {a b : Int32} (h : a < b) : a ≤ b ∧ ¬ b ≤ a ∧ ¬ b < a ∧ a ≠ b ∧ b ≠ a := by
  rw [fa_lt] at h
  refine ⟨?_, ?_, ?_, ?_, ?_⟩
  · rw [fa_le]; omega
  · rw [fa_le]; omega
  · rw [fa_lt]; omega
  · intro e; rw [fa_eq] at e; omega
  · intro e; rw [fa_eq] at e; omega
theorem fa_of_nlt {a b : Int32} (h : ¬ a < b) : b ≤ a := by
  rw [fa_lt] at h
  rw [fa_le]
  omega
theorem fa_of_nle {a b : Int32} (h : ¬ a ≤ b) : b < a := by
  rw [fa_le] at h
  rw [fa_lt]
  omega
theorem fa_le_ne {a b : Int32} (h : a ≤ b) (h2 : a ≠ b) : a < b := by
  rw [fa_le] at h
  rw [fa_lt]
  have h3 : a.toInt ≠ b.toInt := fun e => h2 ((fa_eq a b).mpr e)
  omega
theorem fa_three (a b : Int32) : a < b ∨ a = b ∨ b < a := by
  rw [fa_lt, fa_lt, fa_eq]
  omega
theorem fa_trans {a b c : Int32} (h : a < b) (h2 : b ≤ c) : a < c := by
  rw [fa_lt] at *
  rw [fa_le] at h2
  omega
/-! ===== small literals as numbers ===== -/
theorem fa_lit (n : Nat) : (OfNat.ofNat n : Int32) = nI n := rfl
theorem fa_litL (n : Nat) : (OfNat.ofNat n : Int64) = lN n := rfl
/-! ===== bits of a number: 'or', masks, one bit ===== -/
theorem fa_and (a b : Nat) : nI a &&& nI b = nI (a &&& b) := by
  apply Int32.toBitVec_inj.1
  show BitVec.ofNat 32 a &&& BitVec.ofNat 32 b = BitVec.ofNat 32 (a &&& b)
  apply BitVec.eq_of_getLsbD_eq
  intro i hi
  simp [hi]
theorem fa_or (a b : Nat) : nI a ||| nI b = nI (a ||| b) := by
  apply Int32.toBitVec_inj.1
  show BitVec.ofNat 32 a ||| BitVec.ofNat 32 b = BitVec.ofNat 32 (a ||| b)
  apply BitVec.eq_of_getLsbD_eq
  intro i hi
  simp [hi]
/-- a remainder by a power of two, as a mask -/
theorem fa_mask (n k : Nat) : nI n &&& nI (2 ^ k - 1) = nI (n % 2 ^ k) := by rw [fa_and, Nat.and_two_pow_sub_one_eq_mod]
/-- 'or' of a high part and a low one that don't meet is their sum -/
theorem fa_or_sum {a k : Nat} (b : Nat) (h : a < 2 ^ k) : nI (2 ^ k * b) ||| nI a = nI (2 ^ k * b + a) := by rw [fa_or, Nat.two_pow_add_eq_or_of_lt h]
/-- one bit, by 'and' with a power of two -/
theorem fa_bit {n j : Nat} (hj : j < 31) : nI n &&& nI (2 ^ j) = 0 ↔ n.testBit j = false := by
  have h2 : (2 : Nat) ^ j < 2 ^ 31 := Nat.pow_lt_pow_right (by decide) hj
  have hle : n &&& 2 ^ j ≤ 2 ^ j := Nat.and_le_right
  have e : n &&& 2 ^ j = 0 ↔ n.testBit j = false := by
    constructor
    · intro h
      have h1 : (n &&& 2 ^ j).testBit j = false := by rw [h]; simp
      rw [Nat.testBit_and] at h1
      first | simpa using h1 | simpa [Nat.testBit_two_pow_self] using h1 | simpa [Nat.testBit_two_pow] using h1
    · intro h
      apply Nat.eq_of_testBit_eq
      intro i
      rw [Nat.testBit_and]
      by_cases hi : j = i
      · subst hi; simp [h]
      · first | (simp [Nat.testBit_two_pow, hi]; done) | (simp [Nat.testBit_two_pow_of_ne hi]; done)
  rw [fa_and]
  constructor
  · intro h
    apply e.mp
    rcases Nat.eq_zero_or_pos (n &&& 2 ^ j) with z | z
    · exact z
    · exact absurd h (nI_ne0 z (Nat.lt_of_le_of_lt hle h2))
  · intro h
    rw [e.mpr h]; exact nI_0
/-- a remainder by a power of two of a number that isn't negative, as Java divides -/
theorem fa_rem {a k : Nat} (ha : a < 2 ^ 31) (hk : k < 31) : nI a - nI a / nI (2 ^ k) * nI (2 ^ k) = nI (a % 2 ^ k) := pk_rem ha (Nat.two_pow_pos k) (Nat.pow_lt_pow_right (by decide) hk)
/-! ===== cuts to a byte, a short ===== -/
theorem fa_byte_xor (x y : Int32) : (x ^^^ y).toInt8 = x.toInt8 ^^^ y.toInt8 := by
  apply Int8.toBitVec_inj.1
  apply BitVec.eq_of_getLsbD_eq
  intro i hi
  first | (simp [hi]; done) | (simp [hi, BitVec.getLsbD_setWidth, BitVec.getLsbD_signExtend]; done)
theorem fa_short_xor (x y : Int32) : (x ^^^ y).toInt16 = x.toInt16 ^^^ y.toInt16 := by
  apply Int16.toBitVec_inj.1
  apply BitVec.eq_of_getLsbD_eq
  intro i hi
  first | (simp [hi]; done) | (simp [hi, BitVec.getLsbD_setWidth, BitVec.getLsbD_signExtend]; done)
/-- the cut to a byte sees the low byte alone -/
theorem fa_byte_low (x : Int32) : (x &&& 255).toInt8 = x.toInt8 := by
  apply Int8.toBitVec_inj.1
  apply BitVec.eq_of_getLsbD_eq
  intro i hi
  have h2 : (255 : Int32).toBitVec.getLsbD i = true := by
    have : ∀ j : Fin 8, (255 : Int32).toBitVec.getLsbD j.val = true := by decide +kernel
    exact this ⟨i, hi⟩
  have h4 : (x &&& 255).toBitVec.getLsbD i = x.toBitVec.getLsbD i := by
    show (x.toBitVec &&& (255 : Int32).toBitVec).getLsbD i = _
    rw [BitVec.getLsbD_and, h2, Bool.and_true]
  have h3 : i < 32 := by omega
  first
    | (show (((x &&& 255).toBitVec).signExtend 8).getLsbD i = (x.toBitVec.signExtend 8).getLsbD i; rw [BitVec.getLsbD_signExtend, BitVec.getLsbD_signExtend, if_pos h3, if_pos h3, h4])
    | (show (((x &&& 255).toBitVec).setWidth 8).getLsbD i = (x.toBitVec.setWidth 8).getLsbD i; rw [BitVec.getLsbD_setWidth, BitVec.getLsbD_setWidth, h4])
    | (simp [hi, h3, h4]; done)
theorem fa_short_low (x : Int32) : (x &&& 65535).toInt16 = x.toInt16 := by
  apply Int16.toBitVec_inj.1
  apply BitVec.eq_of_getLsbD_eq
  intro i hi
  have h2 : (65535 : Int32).toBitVec.getLsbD i = true := by
    have : ∀ j : Fin 16, (65535 : Int32).toBitVec.getLsbD j.val = true := by decide +kernel
    exact this ⟨i, hi⟩
  have h4 : (x &&& 65535).toBitVec.getLsbD i = x.toBitVec.getLsbD i := by
    show (x.toBitVec &&& (65535 : Int32).toBitVec).getLsbD i = _
    rw [BitVec.getLsbD_and, h2, Bool.and_true]
  have h3 : i < 32 := by omega
  first
    | (show (((x &&& 65535).toBitVec).signExtend 16).getLsbD i = (x.toBitVec.signExtend 16).getLsbD i; rw [BitVec.getLsbD_signExtend, BitVec.getLsbD_signExtend, if_pos h3, if_pos h3, h4])
    | (show (((x &&& 65535).toBitVec).setWidth 16).getLsbD i = (x.toBitVec.setWidth 16).getLsbD i; rw [BitVec.getLsbD_setWidth, BitVec.getLsbD_setWidth, h4])
    | (simp [hi, h3, h4]; done)
/-- a small number is its own byte, its own short -/
theorem fa_byte_small {n : Nat} (h : n < 128) : (nI n).toInt8.toInt32 = nI n := by
  have : ∀ j : Fin 128, (nI j.val).toInt8.toInt32 = nI j.val := by decide +kernel
  exact this ⟨n, h⟩
/-! ===== absolute difference ===== -/
theorem fa_absdiff {a b : Nat} (ha : a < 2 ^ 31) (hb : b < 2 ^ 31) : (if nI a < nI b then nI b - nI a else nI a - nI b) = nI (if a < b then b - a else a - b) := by
  by_cases h : a < b
  · rw [if_pos (nI_lt h hb), if_pos h]
    exact pk_sub (Nat.le_of_lt h)
  · rw [if_neg (nI_nlt (Nat.le_of_not_lt h) ha), if_neg h]
    exact pk_sub (Nat.le_of_not_lt h)
/-! ===== an array behind i stores, a conditional store, a row copied ===== -/
/-- f where k < i, what stood there else -/
def fa_fill {α : Type} (f g : Nat → α) (i : Nat) : Nat → α := fun k => if k < i then f k else g k
theorem fa_fill_0 {α : Type} (f g : Nat → α) : fa_fill f g 0 = g := funext fun k => if_neg (Nat.not_lt_zero k)
theorem fa_fill_in {α : Type} {f g : Nat → α} {i k : Nat} (h : k < i) : fa_fill f g i k = f k := if_pos h
theorem fa_fill_out {α : Type} {f g : Nat → α} {i k : Nat} (h : i ≤ k) : fa_fill f g i k = g k := if_neg (Nat.not_lt.mpr h)
theorem fa_fill_succ (f g : Nat → Int32) (i : Nat) : upd (fa_fill f g i) i (f i) = fa_fill f g (i + 1) := by
  funext k
  by_cases e : k = i
  · subst e
    rw [pk_us]
    exact (if_pos (Nat.lt_succ_self k)).symm
  · rw [pk_un e]
    by_cases h : k < i
    · rw [fa_fill_in h, fa_fill_in (Nat.lt_succ_of_lt h)]
    · rw [fa_fill_out (Nat.le_of_not_lt h), fa_fill_out (by omega)]
/-- a store that changes nothing -/
theorem fa_upd_same {f : Nat → Int32} {i : Nat} {x : Int32} (h : f i = x) : upd f i x = f := by
  funext k
  by_cases e : k = i
  · subst e
    rw [pk_us, h]
  · rw [pk_un e]
/-- a store under a condition, told as one -/
theorem fa_upd_if (c : Prop) [Decidable c] (f : Nat → Int32) (i : Nat) (x : Int32) : (if c then upd f i x else f) = upd f i (if c then x else f i) := by
  by_cases h : c
  · rw [if_pos h, if_pos h]
  · rw [if_neg h, if_neg h, fa_upd_same rfl]
/-- two stores at one place, at two -/
theorem fa_upd_twice (f : Nat → Int32) (i : Nat) (x y : Int32) : upd (upd f i x) i y = upd f i y := by
  funext k
  by_cases e : k = i
  · subst e
    rw [pk_us, pk_us]
  · rw [pk_un e, pk_un e, pk_un e]
theorem fa_upd_swap (f : Nat → Int32) {i j : Nat} (h : i ≠ j) (x y : Int32) : upd (upd f i x) j y = upd (upd f j y) i x := by
  funext k
  by_cases e : k = i
  · subst e
    rw [pk_un h, pk_us, pk_us]
  · by_cases e2 : k = j
    · subst e2
      rw [pk_us, pk_un e, pk_us]
    · rw [pk_un e2, pk_un e, pk_un e, pk_un e2]
/-! ===== the first index with a property; a count ===== -/
/-- the first k < n with p k, n if there is none -/
def fa_first (p : Nat → Bool) : Nat → Nat
  | 0 => 0
  | n + 1 => if fa_first p n < n then fa_first p n else if p n then n else n + 1
theorem fa_first_le (p : Nat → Bool) : ∀ n, fa_first p n ≤ n
  | 0 => Nat.le_refl 0
  | n + 1 => by
    have ih := fa_first_le p n
    unfold fa_first
    split
    · omega
    · split
      · omega
      · omega
theorem fa_first_no (p : Nat → Bool) : ∀ n k, k < fa_first p n → p k = false
  | 0, k, h => absurd h (Nat.not_lt_zero k)
  | n + 1, k, h => by
    have ih := fa_first_no p n
    have hl := fa_first_le p n
    unfold fa_first at h
    split at h
    · exact ih k h
    · rename_i h1
      split at h
      · exact ih k (by omega)
      · rename_i h2
        by_cases e : k = n
        · subst e
          exact Bool.eq_false_iff.mpr h2
        · exact ih k (by omega)
theorem fa_first_yes (p : Nat → Bool) : ∀ n, fa_first p n < n → p (fa_first p n) = true
  | 0, h => absurd h (Nat.not_lt_zero _)
  | n + 1, h => by
    have ih := fa_first_yes p n
    have hl := fa_first_le p n
    unfold fa_first at h ⊢
    split at h
    · rename_i h1
      rw [if_pos h1]
      exact ih h1
    · rename_i h1
      rw [if_neg h1]
      split at h
      · rename_i h2
        rw [if_pos h2]
        exact h2
      · omega
/-- how many k < n have p k -/
def fa_cnt (p : Nat → Bool) : Nat → Nat
  | 0 => 0
  | n + 1 => fa_cnt p n + if p n then 1 else 0
theorem fa_cnt_le (p : Nat → Bool) : ∀ n, fa_cnt p n ≤ n
  | 0 => Nat.le_refl 0
  | n + 1 => by
    have ih := fa_cnt_le p n
    unfold fa_cnt
    split
    · omega
    · omega
theorem fa_cnt_yes {p : Nat → Bool} {n : Nat} (h : p n = true) : fa_cnt p (n + 1) = fa_cnt p n + 1 := by rw [fa_cnt, if_pos h]
theorem fa_cnt_no {p : Nat → Bool} {n : Nat} (h : p n = false) : fa_cnt p (n + 1) = fa_cnt p n := by rw [fa_cnt, if_neg (by rw [h]; decide)]; rfl
theorem fa_cnt_cong {p q : Nat → Bool} : ∀ {n : Nat}, (∀ k, k < n → p k = q k) → fa_cnt p n = fa_cnt q n
  | 0, _ => rfl
  | n + 1, h => by rw [fa_cnt, fa_cnt, fa_cnt_cong (fun k hk => h k (Nat.lt_succ_of_lt hk)), h n (Nat.lt_succ_self n)]
/-! ===== an answer carried into a post; a branch on a boolean answer ===== -/
theorem fa_post {α : Type} {P : α → Prop} {x y : α} (h : x = y) (hp : P y) : P x := h ▸ hp
theorem fa_post2 {α β : Type} {P : α → β → Prop} {x y : α} {u v : β} (h : x = y) (h2 : u = v) (hp : P y v) : P x u := h ▸ h2 ▸ hp
theorem fa_bool {r : Int32} {b : Bool} (h : r = if b then 1 else 0) : (r = 0 ↔ b = false) ∧ (¬ r = 0 ↔ b = true) := by
  subst h
  cases b
  · exact ⟨⟨fun _ => rfl, fun _ => rfl⟩, ⟨fun h => absurd rfl h, fun h => absurd h (by decide)⟩⟩
  · exact ⟨⟨fun h => absurd h (by decide), fun h => absurd h (by decide)⟩, ⟨fun _ => rfl, fun _ => by decide⟩⟩
/-- a boolean's narrowing changes nothing -/
theorem fa_bool_and {r : Int32} (h : r = 0 ∨ r = 1) : r &&& 1 = r := by
  rcases h with rfl | rfl
  · decide
  · decide
theorem fa_bool_prop {c : Prop} [Decidable c] {r : Int32} (h : r = if c then 1 else 0) : (r = 0 ↔ ¬ c) ∧ (¬ r = 0 ↔ c) := by
  subst h
  by_cases hc : c
  · rw [if_pos hc]
    exact ⟨⟨fun h => absurd h (by decide), fun h => absurd hc h⟩, ⟨fun _ => hc, fun _ => by decide⟩⟩
  · rw [if_neg hc]
    exact ⟨⟨fun _ => hc, fun _ => rfl⟩, ⟨fun h => absurd rfl h, fun h => absurd h hc⟩⟩
/-! rows on bits, shifts and unsigned numbers, to paste: each family out of a closed proof of our own, whole with what it rests on; each by itself clean at Lean in its own claim (generation 39, form 5). Take a family whole -/
/-! ===== Int32 by its bits: bt x i ===== -/
def bt (x : Int32) (i : Nat) : Bool := x.toBitVec.getLsbD i
theorem b_ext {x y : Int32} (h : ∀ i, i < 32 → bt x i = bt y i) : x = y := Int32.toBitVec_inj.mp (BitVec.eq_of_getLsbD_eq (fun i hi => h i hi))
theorem b_or (x y : Int32) (i : Nat) : bt (x ||| y) i = (bt x i || bt y i) := by unfold bt; rw [Int32.toBitVec_or, BitVec.getLsbD_or]
theorem b_and (x y : Int32) (i : Nat) : bt (x &&& y) i = (bt x i && bt y i) := by unfold bt; rw [Int32.toBitVec_and, BitVec.getLsbD_and]
theorem b_xor (x y : Int32) (i : Nat) : bt (x ^^^ y) i = (bt x i ^^ bt y i) := by unfold bt; rw [Int32.toBitVec_xor, BitVec.getLsbD_xor]
theorem b_big {x : Int32} {i : Nat} (h : 32 ≤ i) : bt x i = false := BitVec.getLsbD_of_ge _ _ h
theorem b_255 (i : Nat) : bt 255 i = decide (i < 8) := by
  rcases Nat.lt_or_ge i 32 with h | h
  · exact (by decide +kernel : ∀ i, i < 32 → bt 255 i = decide (i < 8)) i h
  · rw [b_big h, decide_eq_false (by omega)]
theorem b_65535 (i : Nat) : bt 65535 i = decide (i < 16) := by
  rcases Nat.lt_or_ge i 32 with h | h
  · exact (by decide +kernel : ∀ i, i < 32 → bt 65535 i = decide (i < 16)) i h
  · rw [b_big h, decide_eq_false (by omega)]
theorem b_m1 : ∀ i, i < 32 → bt (-1) i = true := by decide +kernel
theorem b_0 (i : Nat) : bt 0 i = false := BitVec.getLsbD_zero
theorem s_l : ∀ n, n < 32 → ((nI n &&& 31).toBitVec.smod 32).toNat = n := by decide +kernel
theorem s_u : ∀ n, n < 32 → (((nI n).toUInt32 &&& Int32.toUInt32 31).toBitVec % 32).toNat = n := by decide +kernel
theorem b_shl (n : Nat) (hn : n < 32) (x : Int32) {i : Nat} (hi : i < 32) : bt (x <<< (nI n &&& 31)) i = (decide (n ≤ i) && bt x (i - n)) := by
  unfold bt
  rw [Int32.toBitVec_shiftLeft]
  show (x.toBitVec <<< ((nI n &&& 31).toBitVec.smod 32).toNat).getLsbD i = _
  rw [s_l n hn, BitVec.getLsbD_shiftLeft]
  rcases Nat.lt_or_ge i n with h | h
  · simp [h, Nat.not_le.mpr h]
  · simp [hi, h, Nat.not_lt.mpr h]
theorem b_ushr (n : Nat) (hn : n < 32) (x : Int32) (i : Nat) : bt ((x.toUInt32 >>> ((nI n).toUInt32 &&& Int32.toUInt32 31)).toInt32) i = bt x (n + i) := by
  show (x.toUInt32 >>> ((nI n).toUInt32 &&& Int32.toUInt32 31)).toBitVec.getLsbD i = x.toUInt32.toBitVec.getLsbD (n + i)
  rw [UInt32.toBitVec_shiftRight]
  show (x.toUInt32.toBitVec >>> (((nI n).toUInt32 &&& Int32.toUInt32 31).toBitVec % 32).toNat).getLsbD i = _
  rw [s_u n hn, BitVec.getLsbD_ushiftRight]
theorem b_sshr (n : Nat) (hn : n < 32) (x : Int32) {i : Nat} (hi : i < 32) : bt (x >>> (nI n &&& 31)) i = if n + i < 32 then bt x (n + i) else bt x 31 := by
  unfold bt
  rw [Int32.toBitVec_shiftRight]
  show (x.toBitVec.sshiftRight ((nI n &&& 31).toBitVec.smod 32).toNat).getLsbD i = _
  rw [s_l n hn, BitVec.getLsbD_sshiftRight, BitVec.msb_eq_getLsbD_last]
  simp [hi]
theorem b_shl8 (x : Int32) {i : Nat} (hi : i < 32) : bt (x <<< ((8 : Int32) &&& 31)) i = (decide (8 ≤ i) && bt x (i - 8)) := b_shl 8 (by omega) x hi
theorem b_shl16 (x : Int32) {i : Nat} (hi : i < 32) : bt (x <<< ((16 : Int32) &&& 31)) i = (decide (16 ≤ i) && bt x (i - 16)) := b_shl 16 (by omega) x hi
theorem b_shl24 (x : Int32) {i : Nat} (hi : i < 32) : bt (x <<< ((24 : Int32) &&& 31)) i = (decide (24 ≤ i) && bt x (i - 24)) := b_shl 24 (by omega) x hi
theorem b_sshr8 (x : Int32) {i : Nat} (hi : i < 32) : bt (x >>> ((8 : Int32) &&& 31)) i = if 8 + i < 32 then bt x (8 + i) else bt x 31 := b_sshr 8 (by omega) x hi
/-! ===== nI under and, xor, >>>, one bit, 65535 ===== -/
theorem nx_and (a b : Nat) : nI a &&& nI b = nI (a &&& b) := by
  apply Int32.toBitVec_inj.1
  show BitVec.ofNat 32 a &&& BitVec.ofNat 32 b = BitVec.ofNat 32 (a &&& b)
  apply BitVec.eq_of_getLsbD_eq
  intro i hi
  simp [hi]
theorem nx_xor (a b : Nat) : nI a ^^^ nI b = nI (a ^^^ b) := by
  apply Int32.toBitVec_inj.1
  show BitVec.ofNat 32 a ^^^ BitVec.ofNat 32 b = BitVec.ofNat 32 (a ^^^ b)
  apply BitVec.eq_of_getLsbD_eq
  intro i hi
  simp [hi]
theorem nx_cnt : ∀ j : Fin 32, (UInt32.ofNat j.val &&& Int32.toUInt32 31).toNat % 32 = j.val := by decide +kernel
theorem nx_ush {k j : Nat} (hk : k < 65536) (hj : j < 32) : ((nI k).toUInt32 >>> ((nI j).toUInt32 &&& Int32.toUInt32 31)).toInt32 = nI (k >>> j) := by
  have hs : k >>> j ≤ k := by
    rw [Nat.shiftRight_eq_div_pow]
    exact Nat.div_le_self _ _
  have e2 : UInt32.ofNat k >>> (UInt32.ofNat j &&& Int32.toUInt32 31) = UInt32.ofNat (k >>> j) := by
    apply UInt32.toNat_inj.1
    have h1 : (UInt32.ofNat k).toNat = k := Nat.mod_eq_of_lt (by omega)
    have h2 : (UInt32.ofNat (k >>> j)).toNat = k >>> j := Nat.mod_eq_of_lt (by omega)
    rw [UInt32.toNat_shiftRight, nx_cnt ⟨j, hj⟩, h1, h2]
  show (UInt32.ofNat k >>> (UInt32.ofNat j &&& Int32.toUInt32 31)).toInt32 = _
  rw [e2]
  rfl
theorem nx_bit {k j : Nat} (hk : k < 65536) (hj : j < 16) : (((nI k).toUInt32 >>> ((nI j).toUInt32 &&& Int32.toUInt32 31)).toInt32 &&& 1) = 0 ↔ k.testBit j = false := by
  rw [nx_ush hk (by omega)]
  show nI (k >>> j) &&& nI 1 = 0 ↔ _
  rw [nx_and, Nat.and_one_is_mod, ← nI_0, nI_eq (by omega) (by omega), Nat.testBit_eq_decide_div_mod_eq, Nat.shiftRight_eq_div_pow, decide_eq_false_iff_not]
  generalize k / 2 ^ j = z
  omega
theorem nx_mod (k : Nat) : nI k &&& 65535 = nI (k % 65536) := by
  show nI k &&& nI 65535 = _
  rw [nx_and, show (65535 : Nat) = 2 ^ 16 - 1 from rfl, Nat.and_two_pow_sub_one_eq_mod]
theorem nx_m16 {k : Nat} (h : k < 65536) : nI k &&& 65535 = nI k := by rw [nx_mod, Nat.mod_eq_of_lt h]
theorem nx_mask (x : Int32) : ∃ k, k < 65536 ∧ x &&& 65535 = nI k := by
  have e : x = nI x.toBitVec.toNat := by
    apply Int32.toBitVec_inj.1
    show x.toBitVec = BitVec.ofNat 32 x.toBitVec.toNat
    simp
  refine ⟨x.toBitVec.toNat % 65536, Nat.mod_lt _ (by omega), ?_⟩
  rw [← nx_mod, ← e]
/-! ===== Int32 as a set of bits: test, set ===== -/
def nf_M (m : Int32) : Nat := 4294967296 - m.toBitVec.toNat
theorem nf_sh : ∀ l, l < 32 → ((1 : Int32) <<< (nI l &&& 31)).toBitVec = BitVec.twoPow 32 l := by decide +kernel
theorem nf_sl : ∀ l, l < 32 → (((nI l).toUInt32 &&& Int32.toUInt32 31).toBitVec % 32).toNat = l := by decide +kernel
theorem nf_tp : ∀ l, l < 32 → BitVec.twoPow 32 l ≠ 0#32 := by decide +kernel
theorem nf_bit (m : Int32) (l : Nat) (hl : l < 32) : ((m.toUInt32 >>> ((nI l).toUInt32 &&& Int32.toUInt32 31)).toInt32 &&& 1) = 0 ↔ (m &&& ((1 : Int32) <<< (nI l &&& 31))) = 0 := by
  have e : ((m.toUInt32 >>> ((nI l).toUInt32 &&& Int32.toUInt32 31)).toInt32).toBitVec = m.toBitVec >>> l := by
    show m.toBitVec >>> (((nI l).toUInt32 &&& Int32.toUInt32 31).toBitVec % 32) = m.toBitVec >>> l
    rw [BitVec.ushiftRight_eq', nf_sl l hl]
  rw [← Int32.toBitVec_inj, ← Int32.toBitVec_inj, Int32.toBitVec_and, Int32.toBitVec_and, nf_sh l hl, e, BitVec.and_twoPow]
  show (m.toBitVec >>> l &&& 1#32) = 0#32 ↔ _ = 0#32
  rw [BitVec.and_one_eq_setWidth_ofBool_getLsbD, BitVec.getLsbD_ushiftRight, Nat.add_zero]
  cases hb : m.toBitVec.getLsbD l
  · exact ⟨fun _ => by simp, fun _ => by decide⟩
  · exact ⟨fun z => absurd z (by decide), fun z => absurd ((if_pos rfl).symm.trans z) (nf_tp l hl)⟩
theorem nf_gr (m k : Int32) (h : m &&& k = 0) (hk : k ≠ 0) : nf_M (m ||| k) < nf_M m := by
  have hm := m.toBitVec.isLt
  have hm' := (m ||| k).toBitVec.isLt
  have h1 : m.toBitVec.toNat ≤ (m ||| k).toBitVec.toNat := by
    rw [Int32.toBitVec_or, BitVec.toNat_or]
    exact Nat.left_le_or
  have h2 : m.toBitVec.toNat ≠ (m ||| k).toBitVec.toNat := by
    intro e
    have e2 : m = m ||| k := Int32.toBitVec_inj.mp (BitVec.eq_of_toNat_eq e)
    apply hk
    apply Int32.toBitVec_inj.mp
    show k.toBitVec = 0#32
    apply BitVec.eq_of_getLsbD_eq
    intro i hi
    have a : m.toBitVec.getLsbD i = (m.toBitVec.getLsbD i || k.toBitVec.getLsbD i) := by rw [← BitVec.getLsbD_or, ← Int32.toBitVec_or, ← e2]
    have b : (m.toBitVec.getLsbD i && k.toBitVec.getLsbD i) = false := by
      rw [← BitVec.getLsbD_and, ← Int32.toBitVec_and, h]
      exact BitVec.getLsbD_zero
    rw [BitVec.getLsbD_zero]
    revert a b
    cases m.toBitVec.getLsbD i <;> cases k.toBitVec.getLsbD i <;> simp
  unfold nf_M
  omega
/-! ===== a byte read unsigned ===== -/
theorem bp_b (x : Int32) : x.toInt8.toInt32 &&& 255 = x &&& 255 := by
  apply Int32.toBitVec_inj.mp
  rw [Int32.toBitVec_and, Int32.toBitVec_and, Int8.toBitVec_toInt32, Int32.toBitVec_toInt8]
  apply BitVec.eq_of_getLsbD_eq
  intro i hi
  rw [BitVec.getLsbD_and, BitVec.getLsbD_and]
  have hm : ∀ i < 32, 8 ≤ i → (255 : Int32).toBitVec.getLsbD i = false := by decide
  rcases Nat.lt_or_ge i 8 with z | z
  · rw [BitVec.getLsbD_signExtend, BitVec.getLsbD_signExtend, if_pos z, if_pos hi]
    simp only [z, hi, decide_true, Bool.true_and]
  · rw [hm i hi z]; simp
/-! ===== the char cast and 65535 ===== -/
/-! ===== Int64 as a set of bits: test, set, clear ===== -/
theorem ts_nf {x : Bool} (h : ¬ x = false) : x = true := by cases x <;> first | rfl | exact absurd rfl h
theorem ts_nt {x : Bool} (h : ¬ x = true) : x = false := by cases x <;> first | rfl | exact absurd rfl h
theorem ts_bit {w : Int64} {s : UInt64} {j : Nat} (hj : j < 64) (hs : s.toNat = j) : ((w.toUInt64 >>> s).toInt64 &&& 1) = 0 ↔ w.toBitVec.getLsbD j = false := by
  have e : (w.toUInt64 >>> s).toInt64.toBitVec = w.toBitVec >>> j := by
    apply BitVec.eq_of_toNat_eq
    show (w.toUInt64 >>> s).toNat = _
    rw [UInt64.toNat_shiftRight, hs, Nat.mod_eq_of_lt hj, BitVec.toNat_ushiftRight]
    rfl
  rw [← Int64.toBitVec_inj, Int64.toBitVec_and, e]
  show w.toBitVec >>> j &&& 1#64 = 0#64 ↔ _
  constructor
  · intro h
    have t := congrArg (fun x => x.getLsbD 0) h
    simpa using t
  · intro h
    apply BitVec.eq_of_getLsbD_eq
    intro i hi
    cases i with
    | zero => simp [h]
    | succ i => simp
theorem ts_or {w m : Int64} {j : Nat} (hj : j < 64) (hm : m.toBitVec = BitVec.twoPow 64 j) : (w ||| m) = w ↔ w.toBitVec.getLsbD j = true := by
  rw [← Int64.toBitVec_inj, Int64.toBitVec_or, hm]
  constructor
  · intro h
    have t := congrArg (fun x => x.getLsbD j) h
    simp only [BitVec.getLsbD_or, BitVec.getLsbD_twoPow] at t
    simpa [hj] using t.symm
  · intro h
    apply BitVec.eq_of_getLsbD_eq
    intro i hi
    rw [BitVec.getLsbD_or, BitVec.getLsbD_twoPow]
    by_cases e : j = i
    · subst e; rw [h, Bool.true_or]
    · simp [e]
theorem ts_and {w m : Int64} {j : Nat} (hj : j < 64) (hm : m.toBitVec = BitVec.twoPow 64 j) : (w &&& (m ^^^ (-1))) = w ↔ w.toBitVec.getLsbD j = false := by
  have ha : (-1 : Int64).toBitVec = BitVec.allOnes 64 := by decide
  rw [← Int64.toBitVec_inj, Int64.toBitVec_and, Int64.toBitVec_xor, hm, ha]
  constructor
  · intro h
    have t := congrArg (fun x => x.getLsbD j) h
    simp only [BitVec.getLsbD_and, BitVec.getLsbD_xor, BitVec.getLsbD_twoPow, BitVec.getLsbD_allOnes] at t
    simpa [hj] using t.symm
  · intro h
    apply BitVec.eq_of_getLsbD_eq
    intro i hi
    rw [BitVec.getLsbD_and, BitVec.getLsbD_xor, BitVec.getLsbD_twoPow, BitVec.getLsbD_allOnes]
    by_cases e : j = i
    · subst e; rw [h, Bool.false_and]
    · simp [e, hi]
/-! ===== lN n to 2^64: shifts, and, or, masks, one bit ===== -/
theorem wb_tb (n : Nat) : (lN n).toBitVec = BitVec.ofNat 64 n := rfl
theorem wb_inj {a b : Int64} (h : a.toBitVec = b.toBitVec) : a = b := Int64.toBitVec_inj.mp h
theorem wb_tn {n : Nat} (h : n < 2 ^ 64) : (lN n).toBitVec.toNat = n := by rw [wb_tb, BitVec.toNat_ofNat, Nat.mod_eq_of_lt h]
theorem wb_of (x : Int64) : ∃ n, n < 2 ^ 64 ∧ x = lN n := ⟨x.toBitVec.toNat, x.toBitVec.isLt, wb_inj (by rw [wb_tb]; simp)⟩
theorem wb_of32 (x : Int32) : ∃ n, n < 2 ^ 32 ∧ x = nI n := ⟨x.toBitVec.toNat, x.toBitVec.isLt, Int32.toBitVec_inj.mp (by show _ = BitVec.ofNat 32 _; simp)⟩
theorem wb_c : ∀ k, k < 64 → ((nI k).toInt64 &&& 63) = lN k := by decide +kernel
theorem wb_cu : ∀ k, k < 64 → ((nI k).toInt64.toUInt64 &&& Int64.toUInt64 63) = UInt64.ofNat k := by decide +kernel
theorem wb_sm : ∀ k, k < 64 → (BitVec.ofNat 64 k).smod 64 = BitVec.ofNat 64 k := by decide +kernel
theorem wb_pw {a b : Nat} (h : a ≤ b) : 2 ^ b = 2 ^ a * 2 ^ (b - a) := by rw [← Nat.pow_add]; congr 1; omega
theorem wb_lt2 {a b : Nat} (h : a < b) : 2 ^ a < 2 ^ b := Nat.pow_lt_pow_right (by decide) h
theorem wb_mod (n : Nat) : lN n = lN (n % 2 ^ 64) := wb_inj (by rw [wb_tb, wb_tb]; apply BitVec.eq_of_toNat_eq; rw [BitVec.toNat_ofNat, BitVec.toNat_ofNat, Nat.mod_mod])
theorem wb_shr {n k : Nat} (hn : n < 2 ^ 64) (hk : k < 64) : ((lN n).toUInt64 >>> ((nI k).toInt64.toUInt64 &&& Int64.toUInt64 63)).toInt64 = lN (n / 2 ^ k) := by
  rw [wb_cu k hk]
  apply wb_inj
  apply BitVec.eq_of_toNat_eq
  show ((lN n).toUInt64 >>> UInt64.ofNat k).toNat = (BitVec.ofNat 64 _).toNat
  have h1 : (UInt64.ofNat k).toNat = k := by
    show (BitVec.ofNat 64 k).toNat = k
    rw [BitVec.toNat_ofNat, Nat.mod_eq_of_lt (by omega)]
  have h2 : (lN n).toUInt64.toNat = n := wb_tn hn
  rw [UInt64.toNat_shiftRight, h1, h2, Nat.mod_eq_of_lt hk, Nat.shiftRight_eq_div_pow, BitVec.toNat_ofNat, Nat.mod_eq_of_lt (Nat.lt_of_le_of_lt (Nat.div_le_self _ _) hn)]
theorem wb_shl (n : Nat) {k : Nat} (hk : k < 64) : lN n <<< ((nI k).toInt64 &&& 63) = lN (n * 2 ^ k) := by
  rw [wb_c k hk]
  apply wb_inj
  rw [Int64.toBitVec_shiftLeft, wb_tb, wb_tb, wb_tb, wb_sm k hk]
  apply BitVec.eq_of_toNat_eq
  rw [BitVec.shiftLeft_eq', BitVec.toNat_shiftLeft, BitVec.toNat_ofNat, BitVec.toNat_ofNat, BitVec.toNat_ofNat, Nat.mod_eq_of_lt (show k < 2 ^ 64 by omega), Nat.shiftLeft_eq, Nat.mul_mod, Nat.mod_mod, ← Nat.mul_mod]
theorem wb_and {a b : Nat} (ha : a < 2 ^ 64) (hb : b < 2 ^ 64) : lN a &&& lN b = lN (a &&& b) := by
  apply wb_inj
  rw [Int64.toBitVec_and, wb_tb, wb_tb, wb_tb]
  apply BitVec.eq_of_toNat_eq
  rw [BitVec.toNat_and, BitVec.toNat_ofNat, BitVec.toNat_ofNat, BitVec.toNat_ofNat, Nat.mod_eq_of_lt ha, Nat.mod_eq_of_lt hb, Nat.mod_eq_of_lt (Nat.and_lt_two_pow _ hb)]
theorem wb_or {a b : Nat} (ha : a < 2 ^ 64) (hb : b < 2 ^ 64) : lN a ||| lN b = lN (a ||| b) := by
  apply wb_inj
  rw [Int64.toBitVec_or, wb_tb, wb_tb, wb_tb]
  apply BitVec.eq_of_toNat_eq
  rw [BitVec.toNat_or, BitVec.toNat_ofNat, BitVec.toNat_ofNat, BitVec.toNat_ofNat, Nat.mod_eq_of_lt ha, Nat.mod_eq_of_lt hb, Nat.mod_eq_of_lt (Nat.or_lt_two_pow ha hb)]
theorem wb_mask {n k : Nat} (hn : n < 2 ^ 64) (hk : k < 64) : lN n &&& lN (2 ^ k - 1) = lN (n % 2 ^ k) := by
  rw [wb_and hn (by have := wb_lt2 hk; omega), Nat.and_two_pow_sub_one_eq_mod]
theorem wb_a1 {n : Nat} (hn : n < 2 ^ 64) : lN n &&& 1 = lN (n % 2) := wb_mask (k := 1) hn (by decide)
theorem wb_bit {n k : Nat} (hn : n < 2 ^ 64) (hk : k < 64) : ((lN n).toUInt64 >>> ((nI k).toInt64.toUInt64 &&& Int64.toUInt64 63)).toInt64 &&& 1 = lN (n / 2 ^ k % 2) := by
  rw [wb_shr hn hk, wb_a1 (Nat.lt_of_le_of_lt (Nat.div_le_self _ _) hn)]
theorem wb_xor {q k : Nat} (hk : k < 63) (h : 2 ^ k ≤ q) (h2 : q < 2 ^ (k + 1)) : lN q ^^^ lN (2 ^ k) = lN (q - 2 ^ k) := by
  obtain ⟨r, rfl⟩ : ∃ r, q = 2 ^ k + r := ⟨q - 2 ^ k, by omega⟩
  have hr : r < 2 ^ k := by rw [Nat.pow_succ] at h2; omega
  have hx : (2 ^ k + r) ^^^ 2 ^ k = r := by
    apply Nat.eq_of_testBit_eq
    intro i
    rw [Nat.testBit_xor, Nat.testBit_two_pow]
    rcases Nat.lt_trichotomy i k with h | h | h
    · rw [Nat.testBit_two_pow_add_gt h]
      simp [show ¬ k = i by omega]
    · subst h
      rw [Nat.testBit_two_pow_add_eq]
      simp
    · have a1 : 2 ^ (k + 1) ≤ 2 ^ i := Nat.pow_le_pow_right (by decide) h
      rw [Nat.testBit_lt_two_pow (show 2 ^ k + r < 2 ^ i by omega), Nat.testBit_lt_two_pow (show r < 2 ^ i by omega)]
      simp [show ¬ k = i by omega]
  have b1 := wb_lt2 (show k + 1 < 64 by omega)
  have b2 := wb_lt2 (show k < 64 by omega)
  apply wb_inj
  rw [Int64.toBitVec_xor, wb_tb, wb_tb, wb_tb]
  apply BitVec.eq_of_toNat_eq
  rw [BitVec.toNat_xor, BitVec.toNat_ofNat, BitVec.toNat_ofNat, BitVec.toNat_ofNat, Nat.mod_eq_of_lt (by omega : 2 ^ k + r < 2 ^ 64), Nat.mod_eq_of_lt b2, hx, Nat.add_sub_cancel_left, Nat.mod_eq_of_lt (by omega)]
/-! ===== lN: masks, 'or' of parts that don't overlap is a sum ===== -/
theorem u_tn {n : Nat} (h : n < 2 ^ 64) : (UInt64.ofNat n).toNat = n := Nat.mod_eq_of_lt h
theorem g_and {a b c : Nat} (ha : a < 2 ^ 64) (hb : b < 2 ^ 64) (hc : a &&& b = c) : lN a &&& lN b = lN c := by
  subst hc
  have h : UInt64.ofNat a &&& UInt64.ofNat b = UInt64.ofNat (a &&& b) := UInt64.toNat_inj.mp (by rw [UInt64.toNat_and, u_tn ha, u_tn hb, u_tn (Nat.and_lt_two_pow a hb)])
  have h2 := congrArg UInt64.toInt64 h
  exact h2
theorem g_and1 {a : Nat} (ha : a < 2 ^ 64) : lN a &&& 1 = lN (a % 2) := g_and (b := 1) ha (by decide) (Nat.and_two_pow_sub_one_eq_mod a 1)
theorem g_mask {a s p : Nat} (hp : 2 ^ s = p) (hs : s < 64) (ha : a < 2 ^ 64) : lN a &&& lN (p - 1) = lN (a % p) := by
  subst hp
  have := Nat.pow_lt_pow_right (show 1 < 2 by decide) hs
  exact g_and ha (by omega) (Nat.and_two_pow_sub_one_eq_mod a s)
theorem g_or {k p a b : Nat} (hp : 2 ^ k = p) (ha : a < p) (h : b * p + a < 2 ^ 64) : lN (b * p) ||| lN a = lN (b * p + a) := by
  subst hp
  have h1 : b * 2 ^ k ||| a = b * 2 ^ k + a := by rw [← Nat.shiftLeft_eq, Nat.shiftLeft_add_eq_or_of_lt ha]
  have h3 : UInt64.ofNat (b * 2 ^ k) ||| UInt64.ofNat a = UInt64.ofNat (b * 2 ^ k + a) := UInt64.toNat_inj.mp (by rw [UInt64.toNat_or, u_tn (by omega), u_tn (by omega), u_tn h, h1])
  have h2 := congrArg UInt64.toInt64 h3
  exact h2
theorem g_or' {k p a b : Nat} (hp : 2 ^ k = p) (ha : a < p) (h : a + b * p < 2 ^ 64) : lN a ||| lN (b * p) = lN (a + b * p) := by
  rw [Int64.or_comm, g_or hp ha (by omega), Nat.add_comm]
theorem g_ushr {a k p : Nat} {y : UInt64} (hy : y = UInt64.ofNat k) (hk : k < 64) (hp : 2 ^ k = p) (ha : a < 2 ^ 64) : ((lN a).toUInt64 >>> y).toInt64 = lN (a / p) := by
  subst hy hp
  have h : UInt64.ofNat a >>> UInt64.ofNat k = UInt64.ofNat (a / 2 ^ k) := UInt64.toNat_inj.mp (by rw [UInt64.toNat_shiftRight, u_tn ha, u_tn (by omega), u_tn (Nat.lt_of_le_of_lt (Nat.div_le_self _ _) ha), Nat.mod_eq_of_lt hk, Nat.shiftRight_eq_div_pow])
  have h2 := congrArg UInt64.toInt64 h
  exact h2
theorem g_shl {a k p : Nat} {y : Int64} (hy : y.toBitVec.smod 64 = BitVec.ofNat 64 k) (hk : k < 64) (hp : 2 ^ k = p) (ha : a < 2 ^ 64) : lN a <<< y = lN (a * p) := by
  subst hp
  apply Int64.toBitVec_inj.mp
  rw [Int64.toBitVec_shiftLeft, hy]
  apply BitVec.eq_of_toNat_eq
  have hb : (lN a).toBitVec.toNat = a := Nat.mod_eq_of_lt ha
  have hk' : (BitVec.ofNat 64 k).toNat = k := Nat.mod_eq_of_lt (by omega)
  have h : ((lN a).toBitVec <<< BitVec.ofNat 64 k).toNat = (a * 2 ^ k) % 2 ^ 64 := by simp only [BitVec.shiftLeft_eq', BitVec.toNat_shiftLeft, hb, hk', Nat.shiftLeft_eq]
  exact h
/-! ===== lN to 2^62 under >> and >>> ===== -/
theorem pf_lI {a : Nat} (h : a < 2 ^ 63) : (lN a).toInt = (a : Int) := lg_ofNat_toInt h
theorem pf_shr {a d : Nat} {D : Int64} (hD : (D.toBitVec.smod 64).toNat = d) (h : a < 2 ^ 62) : lN a >>> D = lN (a / 2 ^ d) := by
  have hd : a / 2 ^ d ≤ a := Nat.div_le_self _ _
  apply Int64.toInt_inj.mp
  have e : (lN a >>> D).toInt = (lN a).toInt >>> d := by
    rw [← hD]
    exact BitVec.toInt_sshiftRight ..
  rw [e, Int.shiftRight_eq_div_pow, pf_lI (by omega), pf_lI (by omega)]
  rfl
theorem pf_ushr {a d : Nat} {D : UInt64} (hD : D.toNat % 64 = d) (h : a < 2 ^ 62) : ((lN a).toUInt64 >>> D).toInt64 = lN (a / 2 ^ d) := by
  have hd : a / 2 ^ d ≤ a := Nat.div_le_self _ _
  have e : (lN a).toUInt64 >>> D = UInt64.ofNat (a / 2 ^ d) := UInt64.toNat_inj.mp (by
    rw [UInt64.toNat_shiftRight, hD, Nat.shiftRight_eq_div_pow, UInt64.toNat_ofNat']
    show (UInt64.ofNat a).toNat / 2 ^ d = _
    rw [UInt64.toNat_ofNat', Nat.mod_eq_of_lt (by omega), Nat.mod_eq_of_lt (by omega)])
  rw [e]
  rfl
theorem pf_andw (x : Int64) : ∃ m, m < 2 ^ 32 ∧ x &&& 4294967295 = lN m := ⟨x.toBitVec.toNat % 2 ^ 32, Nat.mod_lt _ (by decide), Int64.toBitVec_inj.mp (BitVec.eq_of_toNat_eq (by
  show (x.toBitVec &&& 4294967295#64).toNat = (BitVec.ofNat 64 (x.toBitVec.toNat % 2 ^ 32)).toNat
  rw [BitVec.toNat_and, show (4294967295#64).toNat = 2 ^ 32 - 1 from by decide, Nat.and_two_pow_sub_one_eq_mod, BitVec.toNat_ofNat]
  omega))⟩
/-! ===== Int64 as an unsigned number: uN x ===== -/
def uN (x : Int64) : Nat := x.toUInt64.toNat
theorem uN_lt (x : Int64) : uN x < 18446744073709551616 := x.toUInt64.toNat_lt
theorem uN_inj {x y : Int64} (h : uN x = uN y) : x = y := congrArg UInt64.toInt64 (UInt64.toNat_inj.mp h)
theorem uN_add (x y : Int64) : uN (x + y) = (uN x + uN y) % 18446744073709551616 := by
  show (x.toUInt64 + y.toUInt64).toNat = _
  exact UInt64.toNat_add _ _
theorem uN_mul (x y : Int64) : uN (x * y) = (uN x * uN y) % 18446744073709551616 := by
  show (x.toUInt64 * y.toUInt64).toNat = _
  exact UInt64.toNat_mul _ _
theorem uN_shl (x : Int64) : uN (x <<< ((1 : Int32).toInt64 &&& 63)) = (2 * uN x) % 18446744073709551616 := by
  have h : (((1 : Int32).toInt64 &&& 63).toBitVec.smod 64).toNat = 1 := by decide
  show (x.toBitVec <<< (((1 : Int32).toInt64 &&& 63).toBitVec.smod 64).toNat).toNat = _
  rw [h, BitVec.toNat_shiftLeft, Nat.shiftLeft_eq, Nat.mul_comm]
  rfl
theorem uN_shr (x : Int64) (s : UInt64) : uN (x.toUInt64 >>> s).toInt64 = uN x / 2 ^ (s.toNat % 64) := by
  show (x.toUInt64 >>> s).toNat = _
  rw [UInt64.toNat_shiftRight, Nat.shiftRight_eq_div_pow]
  rfl
theorem uN_s32 (x : Int64) : uN (x.toUInt64 >>> ((32 : Int32).toInt64.toUInt64 &&& Int64.toUInt64 63)).toInt64 = uN x / 4294967296 := by
  have h : ((32 : Int32).toInt64.toUInt64 &&& Int64.toUInt64 63).toNat % 64 = 32 := by decide
  rw [uN_shr, h]
theorem uN_s63 (x : Int64) : uN (x.toUInt64 >>> ((63 : Int32).toInt64.toUInt64 &&& Int64.toUInt64 63)).toInt64 = uN x / 9223372036854775808 := by
  have h : ((63 : Int32).toInt64.toUInt64 &&& Int64.toUInt64 63).toNat % 64 = 63 := by decide
  rw [uN_shr, h]
theorem uN_lo (x : Int64) : uN (x &&& 4294967295) = uN x % 4294967296 := by
  show (x.toUInt64 &&& Int64.toUInt64 4294967295).toNat = _
  rw [UInt64.toNat_and]
  exact Nat.and_two_pow_sub_one_eq_mod _ 32
theorem uN_bit (x : Int64) : (x &&& 1) = 0 ↔ uN x % 2 = 0 := by
  have h : uN (x &&& 1) = uN x % 2 := by
    show (x.toUInt64 &&& Int64.toUInt64 1).toNat = _
    rw [UInt64.toNat_and]
    exact Nat.and_two_pow_sub_one_eq_mod _ 1
  rw [← h]
  exact ⟨fun z => by rw [z]; rfl, fun z => uN_inj (z.trans rfl)⟩
theorem uN_or {x y : Int64} (hy : uN y < 2) : uN ((x <<< ((1 : Int32).toInt64 &&& 63)) ||| y) = (2 * uN x) % 18446744073709551616 + uN y := by
  have h1 : uN ((x <<< ((1 : Int32).toInt64 &&& 63)) ||| y) = uN (x <<< ((1 : Int32).toInt64 &&& 63)) ||| uN y := UInt64.toNat_or _ _
  have h2 : (2 * uN x) % 18446744073709551616 = 2 ^ 1 * (uN x % 9223372036854775808) := by omega
  rw [h1, uN_shl, h2]
  exact (Nat.two_pow_add_eq_or_of_lt (i := 1) hy _).symm
theorem nat_xor {a : Nat} (h : a < 18446744073709551616) : a ^^^ 2 ^ 63 = (a + 9223372036854775808) % 18446744073709551616 := by
  have h1 : (a ^^^ 2 ^ 63) % 2 ^ 63 = a % 2 ^ 63 := by rw [Nat.xor_mod_two_pow, Nat.mod_self, Nat.xor_zero]
  have h2 : (a ^^^ 2 ^ 63) / 2 ^ 63 = (a / 2 ^ 63) ^^^ 1 := by rw [Nat.xor_div_two_pow, Nat.div_self (Nat.two_pow_pos 63)]
  have h3 : a / 2 ^ 63 = 0 ∨ a / 2 ^ 63 = 1 := by omega
  generalize a ^^^ 2 ^ 63 = t at h1 h2
  rcases h3 with h3 | h3
  · rw [h3] at h2
    have h2 : t / 2 ^ 63 = 1 := h2
    omega
  · rw [h3] at h2
    have h2 : t / 2 ^ 63 = 0 := h2
    omega
theorem uN_xor (x : Int64) : uN (x ^^^ (-9223372036854775808)) = (uN x + 9223372036854775808) % 18446744073709551616 := by
  rw [← nat_xor (uN_lt x)]
  exact UInt64.toNat_xor _ _
theorem uN_int (x : Int64) : x.toInt = if 2 * uN x < 18446744073709551616 then (uN x : Int) else (uN x : Int) - 18446744073709551616 := BitVec.toInt_eq_toNat_cond _
theorem uN_le (x y : Int64) : (x ^^^ (-9223372036854775808)) ≤ (y ^^^ (-9223372036854775808)) ↔ uN x ≤ uN y := by
  have hx := uN_lt x
  have hy := uN_lt y
  rw [Int64.le_iff_toInt_le, uN_int, uN_int, uN_xor, uN_xor]
  omega
theorem uN_sk (x : Int64) {k : Nat} (hk : k < 64) : uN (x.toUInt64 >>> ((nI k).toInt64.toUInt64 &&& Int64.toUInt64 63)).toInt64 = uN x / 2 ^ k := by
  have h : ((nI k).toInt64.toUInt64 &&& Int64.toUInt64 63).toNat % 64 = k := by
    rw [nI_l (by omega), UInt64.toNat_and]
    have e : (lN k).toUInt64.toNat = k % 2 ^ 64 := rfl
    have e2 : (Int64.toUInt64 63).toNat = 2 ^ 6 - 1 := by decide
    rw [e, e2, Nat.and_two_pow_sub_one_eq_mod]
    omega
  rw [uN_shr, h]
/-! ===== unsigned comparison by xor with the least ===== -/
theorem lN_bv (n : Nat) : (lN n).toBitVec = BitVec.ofNat 64 n := rfl
theorem lN_nat {n : Nat} (h : n < 2 ^ 64) : (lN n).toBitVec.toNat = n := by rw [lN_bv, BitVec.toNat_ofNat]; exact Nat.mod_eq_of_lt h
theorem lN_xor (a b : Nat) : lN a ^^^ lN b = lN (a ^^^ b) := by
  apply Int64.toBitVec_inj.mp; rw [Int64.toBitVec_xor, lN_bv, lN_bv, lN_bv]; apply BitVec.eq_of_getLsbD_eq; intro i hi; simp [BitVec.getLsbD_ofNat, Nat.testBit_xor, hi]
theorem lN_ti {m : Nat} (h : m < 2 ^ 64) : (lN m).toInt = if m < 2 ^ 63 then (m : Int) else (m : Int) - 2 ^ 64 := by
  have c := BitVec.toInt_eq_toNat_cond (lN m).toBitVec
  rw [lN_nat h] at c
  show (lN m).toBitVec.toInt = _
  rw [c]
  split <;> split <;> omega
theorem xor63 {x : Nat} (h : x < 2 ^ 63) : x ^^^ 2 ^ 63 = 2 ^ 63 + x := by
  apply Nat.eq_of_testBit_eq
  intro i
  rw [Nat.testBit_xor, Nat.testBit_two_pow]
  rcases Nat.lt_trichotomy i 63 with z | z | z
  · rw [Nat.testBit_two_pow_add_gt z, decide_eq_false (by omega)]; simp
  · subst z; rw [Nat.testBit_two_pow_add_eq]; simp
  · have hp : 2 ^ 64 ≤ 2 ^ i := Nat.pow_le_pow_right (by decide) z
    rw [Nat.testBit_lt_two_pow (show x < 2 ^ i by omega), Nat.testBit_lt_two_pow (show 2 ^ 63 + x < 2 ^ i by omega), decide_eq_false (by omega)]; rfl
theorem xorS {a : Nat} (h : a < 2 ^ 64) : (lN a ^^^ (-9223372036854775808)).toInt = (a : Int) - 2 ^ 63 := by
  rw [show (-9223372036854775808 : Int64) = lN (2 ^ 63) from by decide +kernel, lN_xor]
  rcases Nat.lt_or_ge a (2 ^ 63) with z | z
  · rw [xor63 z, lN_ti (by omega), if_neg (by omega)]; omega
  · obtain ⟨x, rfl⟩ : ∃ x, a = 2 ^ 63 + x := ⟨a - 2 ^ 63, by omega⟩
    rw [← xor63 (by omega), Nat.xor_assoc, Nat.xor_self, Nat.xor_zero, lN_ti (by omega), if_pos (by omega), xor63 (by omega)]; omega
theorem ultL {a b : Nat} (ha : a < 2 ^ 64) (hb : b < 2 ^ 64) : ((lN b ^^^ (-9223372036854775808)) ≤ (lN a ^^^ (-9223372036854775808))) ↔ b ≤ a := by
  rw [Int64.le_iff_toInt_le, xorS ha, xorS hb]; omega
/-! ===== Int64 masks of n low bits ===== -/
theorem cr_bits (W U M : BitVec 64) : ((W &&& U) &&& (U &&& (M ^^^ BitVec.allOnes 64))) = 0#64 ↔ (W &&& U) &&& M = W &&& U := by
  constructor
  · intro h
    apply BitVec.eq_of_getLsbD_eq
    intro i hi
    have e := congrArg (fun x => BitVec.getLsbD x i) h
    simp only [BitVec.getLsbD_and, BitVec.getLsbD_xor, BitVec.getLsbD_allOnes, BitVec.getLsbD_zero, hi, decide_true] at e ⊢
    revert e
    cases W.getLsbD i <;> cases U.getLsbD i <;> cases M.getLsbD i <;> decide
  · intro h
    apply BitVec.eq_of_getLsbD_eq
    intro i hi
    have e := congrArg (fun x => BitVec.getLsbD x i) h
    simp only [BitVec.getLsbD_and, BitVec.getLsbD_xor, BitVec.getLsbD_allOnes, BitVec.getLsbD_zero, hi, decide_true] at e ⊢
    revert e
    cases W.getLsbD i <;> cases U.getLsbD i <;> cases M.getLsbD i <;> decide
theorem cr_mask (w U m : Int64) (n : Nat) (hm : m.toBitVec.toNat = 2 ^ n - 1) : ((w &&& U) &&& (U &&& (m ^^^ (-1)))) = 0 ↔ (w &&& U).toBitVec.toNat < 2 ^ n := by
  have e0 : (-1 : Int64).toBitVec = BitVec.allOnes 64 := by decide
  have z0 : (0 : Int64).toBitVec = 0#64 := by decide
  rw [← Int64.toBitVec_inj, z0, Int64.toBitVec_and, Int64.toBitVec_and, Int64.toBitVec_and, Int64.toBitVec_xor, e0, cr_bits]
  generalize w.toBitVec &&& U.toBitVec = T
  rw [← BitVec.toNat_inj, BitVec.toNat_and, hm, Nat.and_two_pow_sub_one_eq_mod]
  constructor
  · intro h
    have t := Nat.mod_lt T.toNat (Nat.two_pow_pos n)
    rw [h] at t
    exact t
  · exact Nat.mod_eq_of_lt
theorem cr_shr (t : Int64) (x : UInt64) (n : Nat) (hx : x.toNat % 64 = n) : (t.toUInt64 >>> x).toInt64 = 0 ↔ t.toBitVec.toNat < 2 ^ n := by
  rw [← Int64.toBitVec_inj, ← BitVec.toNat_inj]
  show (t.toUInt64 >>> x).toNat = 0 ↔ t.toUInt64.toNat < 2 ^ n
  rw [UInt64.toNat_shiftRight, hx, Nat.shiftRight_eq_div_pow]
  constructor
  · intro h
    have d : t.toUInt64.toNat / 2 ^ n < 1 := by
      rw [h]
      decide
    have e := (Nat.div_lt_iff_lt_mul (Nat.two_pow_pos n)).mp d
    rw [Nat.one_mul] at e
    exact e
  · exact Nat.div_eq_of_lt
theorem cr_amt (s : Int64) : ∃ n, n < 64 ∧ s &&& 63 = lN n ∧ (s.toUInt64 &&& Int64.toUInt64 63).toNat % 64 = n := by
  have e : (s.toUInt64 &&& Int64.toUInt64 63).toNat = s.toUInt64.toNat % 2 ^ 6 := by
    rw [UInt64.toNat_and, show (Int64.toUInt64 63).toNat = 2 ^ 6 - 1 from by decide, Nat.and_two_pow_sub_one_eq_mod]
  refine ⟨s.toUInt64.toNat % 2 ^ 6, by omega, ?_, by omega⟩
  rw [← Int64.toBitVec_inj, ← BitVec.toNat_inj]
  show (s.toUInt64 &&& Int64.toUInt64 63).toNat = (BitVec.ofNat 64 (s.toUInt64.toNat % 2 ^ 6)).toNat
  rw [e, BitVec.toNat_ofNat]
  omega
end
section
/-! numbers of the worlds: Int, and what the machine holds of them -/
abbrev R32 (a : Int) : Prop := -2147483648 ≤ a ∧ a < 2147483648
abbrev R64 (a : Int) : Prop := -9223372036854775808 ≤ a ∧ a < 9223372036854775808
theorem fI_add (a b : Int) : fI a + fI b = fI (a + b) := (Int32.ofInt_add a b).symm
theorem fI_sub (a b : Int) : fI a - fI b = fI (a - b) := (Int32.ofInt_sub a b).symm
theorem fI_mul (a b : Int) : fI a * fI b = fI (a * b) := (Int32.ofInt_mul a b).symm
theorem fI_neg (a : Int) : - fI a = fI (-a) := (Int32.ofInt_neg a).symm
theorem fL_add (a b : Int) : fL a + fL b = fL (a + b) := (Int64.ofInt_add a b).symm
theorem fL_sub (a b : Int) : fL a - fL b = fL (a - b) := (Int64.ofInt_sub a b).symm
theorem fL_mul (a b : Int) : fL a * fL b = fL (a * b) := (Int64.ofInt_mul a b).symm
theorem fI_t {a : Int} (h : R32 a) : (fI a).toInt = a := Int32.toInt_ofInt_of_le h.1 h.2
theorem fL_t {a : Int} (h : R64 a) : (fL a).toInt = a := Int64.toInt_ofInt_of_le h.1 h.2
theorem fI_lt {a b : Int} (ha : R32 a) (hb : R32 b) : fI a < fI b ↔ a < b := by rw [fa_lt, fI_t ha, fI_t hb]
theorem fI_le {a b : Int} (ha : R32 a) (hb : R32 b) : fI a ≤ fI b ↔ a ≤ b := by rw [fa_le, fI_t ha, fI_t hb]
theorem fI_eq {a b : Int} (ha : R32 a) (hb : R32 b) : fI a = fI b ↔ a = b := by rw [fa_eq, fI_t ha, fI_t hb]
theorem fI_nI {a : Int} (h : 0 ≤ a) : fI a = nI a.toNat := by
  obtain ⟨n, rfl⟩ := Int.eq_ofNat_of_zero_le h
  rfl
theorem nI_fI (n : Nat) : nI n = fI n := rfl
theorem fL_lN {a : Int} (h : 0 ≤ a) : fL a = lN a.toNat := by
  obtain ⟨n, rfl⟩ := Int.eq_ofNat_of_zero_le h
  rfl
theorem lN_fL (n : Nat) : lN n = fL n := rfl
theorem fI_0 : fI 0 = 0 := rfl
theorem fI_in {i : Int} {n : Nat} (h0 : 0 ≤ i) (h : i < n) (hn : n < 5000) : vp_in (fI i) n := by
  rw [vp_in_iff, fI_t ⟨by omega, by omega⟩]
  exact ⟨h0, h⟩
theorem fI_cl {i : Int} (h0 : 0 ≤ i) (h : i < 2147483648) : (fI i).toNatClampNeg = i.toNat := by
  rw [fI_nI h0, nI_clamp (by omega)]
theorem fI_div {a b : Int} (ha : 0 ≤ a) (ha2 : a < 2147483648) (hb : 0 < b) (hb2 : b < 2147483648) : fI a / fI b = fI (a / b) := by
  rw [fI_nI ha, fI_nI (by omega : 0 ≤ b), pk_div (by omega) (by omega) (by omega), nI_fI]
  congr 1
  rw [Int.natCast_ediv, Int.toNat_of_nonneg ha, Int.toNat_of_nonneg (by omega : 0 ≤ b)]
theorem fI_rem {a b : Int} (ha : 0 ≤ a) (ha2 : a < 2147483648) (hb : 0 < b) (hb2 : b < 2147483648) : fI a - fI a / fI b * fI b = fI (a % b) := by
  rw [fI_nI ha, fI_nI (by omega : 0 ≤ b), pk_rem (by omega) (by omega) (by omega), nI_fI]
  congr 1
  rw [Int.natCast_emod, Int.toNat_of_nonneg ha, Int.toNat_of_nonneg (by omega : 0 ≤ b)]
def iA (a b : Int) : Int := ((a.toNat &&& b.toNat : Nat) : Int)
def iO (a b : Int) : Int := ((a.toNat ||| b.toNat : Nat) : Int)
theorem fI_and {a b : Int} (ha : 0 ≤ a) (hb : 0 ≤ b) : fI a &&& fI b = fI (iA a b) := by
  rw [fI_nI ha, fI_nI hb, fa_and]; rfl
theorem sh_l {k : Int} (h0 : 0 ≤ k) (h : k < 32) : ((fI k &&& 31).toBitVec.smod 32).toNat = k.toNat := by
  rw [fI_nI h0]
  exact s_l _ (by omega)
theorem fI_shl {a k : Int} (ha : 0 ≤ a) (h0 : 0 ≤ k) (hk : k < 32) (h : a * 2 ^ k.toNat < 4294967296) : fI a <<< (fI k &&& 31) = fI (a * 2 ^ k.toNat) := by
  obtain ⟨n, rfl⟩ := Int.eq_ofNat_of_zero_le ha
  show nI n <<< _ = _
  have h2 : n * 2 ^ k.toNat < 2 ^ 32 := by
    have h3 : ((n * 2 ^ k.toNat : Nat) : Int) < 4294967296 := by push_cast; exact h
    omega
  rw [pk_shlN _ _ (sh_l h0 hk) h2, nI_fI]
  push_cast
  rfl
theorem fI_shr {a k : Int} (ha : 0 ≤ a) (ha2 : a < 2147483648) (h0 : 0 ≤ k) (hk : k < 32) : fI a >>> (fI k &&& 31) = fI (a / 2 ^ k.toNat) := by
  obtain ⟨n, rfl⟩ := Int.eq_ofNat_of_zero_le ha
  show nI n >>> _ = _
  rw [pk_shrN (by omega) _ _ (sh_l h0 hk), nI_fI]
  push_cast
  rfl
theorem fI_i2l {a : Int} (h : R32 a) : (fI a).toInt64 = fL a := by
  rw [fa_eq64, Int32.toInt_toInt64, fI_t h, fL_t ⟨by omega, by omega⟩]
theorem fL_l2i (a : Int) : (fL a).toInt32 = fI a := Int64.toInt32_ofInt
theorem fL_lt {a b : Int} (ha : R64 a) (hb : R64 b) : fL a < fL b ↔ a < b := by rw [fa_lt64, fL_t ha, fL_t hb]
theorem fL_eq {a b : Int} (ha : R64 a) (hb : R64 b) : fL a = fL b ↔ a = b := by rw [fa_eq64, fL_t ha, fL_t hb]
theorem fL_div {a b : Int} (ha : 0 ≤ a) (ha2 : a < 9223372036854775808) (hb : 0 < b) (hb2 : b < 9223372036854775808) : fL a / fL b = fL (a / b) := by
  rw [fL_lN ha, fL_lN (by omega : 0 ≤ b), pk_lDiv (by omega) (by omega) (by omega), lN_fL]
  congr 1
  rw [Int.natCast_ediv, Int.toNat_of_nonneg ha, Int.toNat_of_nonneg (by omega : 0 ≤ b)]
theorem fL_rem {a b : Int} (ha : 0 ≤ a) (ha2 : a < 9223372036854775808) (hb : 0 < b) (hb2 : b < 9223372036854775808) : fL a - fL a / fL b * fL b = fL (a % b) := by
  rw [fL_lN ha, fL_lN (by omega : 0 ≤ b), pk_lRem (by omega) (by omega) (by omega), lN_fL]
  congr 1
  rw [Int.natCast_emod, Int.toNat_of_nonneg ha, Int.toNat_of_nonneg (by omega : 0 ≤ b)]
theorem fL_and {a b : Int} (ha : R64 a) (hb : R64 b) (ha0 : 0 ≤ a) (hb0 : 0 ≤ b) : fL a &&& fL b = fL (iA a b) := by
  rw [fL_lN ha0, fL_lN hb0, wb_and (by omega) (by omega)]; rfl
theorem fL_or {a b : Int} (ha : R64 a) (hb : R64 b) (ha0 : 0 ≤ a) (hb0 : 0 ≤ b) : fL a ||| fL b = fL (iO a b) := by
  rw [fL_lN ha0, fL_lN hb0, wb_or (by omega) (by omega)]; rfl
theorem fL_shl {a k : Int} (ha : 0 ≤ a) (h0 : 0 ≤ k) (hk : k < 64) : fL a <<< ((fI k).toInt64 &&& 63) = fL (a * 2 ^ k.toNat) := by
  obtain ⟨n, rfl⟩ := Int.eq_ofNat_of_zero_le ha
  rw [fI_nI h0]
  show lN n <<< _ = _
  rw [wb_shl _ (by omega), lN_fL]
  push_cast
  rfl
theorem sh_sm : ∀ k, k < 64 → (((nI k).toInt64 &&& 63).toBitVec.smod 64).toNat = k := by decide +kernel
theorem fL_shr {a k : Int} (ha : 0 ≤ a) (ha2 : a < 4611686018427387904) (h0 : 0 ≤ k) (hk : k < 64) : fL a >>> ((fI k).toInt64 &&& 63) = fL (a / 2 ^ k.toNat) := by
  obtain ⟨n, rfl⟩ := Int.eq_ofNat_of_zero_le ha
  rw [fI_nI h0]
  show lN n >>> _ = _
  rw [pf_shr (sh_sm _ (by omega)) (by omega), lN_fL]
  push_cast
  rfl
theorem fI_char {a : Int} (h0 : 0 ≤ a) (h : a < 65536) : ((fI a).toUInt32 % 65536).toInt32 = fI a := by
  obtain ⟨n, rfl⟩ := Int.eq_ofNat_of_zero_le h0
  show ((nI n).toUInt32 % 65536).toInt32 = nI n
  rw [pk_char, pk_tn (by omega), Nat.mod_eq_of_lt (by omega)]
theorem fF_f (x : UInt32) : fF (x.toNat : Int) = x := by
  unfold fF
  simp
def lcm (a b : Int) : Int := if a < b then -1 else if a = b then 0 else 1
/-! the rules: an instruction each -/
theorem q_iconst {μ : MI} {pc : Nat} {L st : List rV} {w : rW} {Q : List rV → rW → Prop} {n : Int} (hd : decode (mB μ) pc = .ok (.iconst n, 1)) (h : WP μ (pc + 1) L (vi n :: st) w Q) : WP μ pc L (st) w Q := by
  intro p l e R s m args below meth c D cI cC A H0 ad ls H locs cells slots QQ C hc hs hP hD hS hl hq
  have h := h p l e R s m args below meth c D cI cC A H0 ad ls H locs cells slots QQ C hc hs hP hD hS hl hq
  exact lv_iconst C.1 C.2.1 hd rfl h
theorem q_bipush {μ : MI} {pc : Nat} {L st : List rV} {w : rW} {Q : List rV → rW → Prop} {n : Int} (hd : decode (mB μ) pc = .ok (.bipush n, 2)) (hn : (Int8.ofInt n).toInt32 = fI n) (h : WP μ (pc + 2) L (vi n :: st) w Q) : WP μ pc L (st) w Q := by
  intro p l e R s m args below meth c D cI cC A H0 ad ls H locs cells slots QQ C hc hs hP hD hS hl hq
  have h := h p l e R s m args below meth c D cI cC A H0 ad ls H locs cells slots QQ C hc hs hP hD hS hl hq
  exact lv_bipush C.1 C.2.1 hd hn h
theorem q_sipush {μ : MI} {pc : Nat} {L st : List rV} {w : rW} {Q : List rV → rW → Prop} {n : Int} (hd : decode (mB μ) pc = .ok (.sipush n, 3)) (hn : (Int16.ofInt n).toInt32 = fI n) (h : WP μ (pc + 3) L (vi n :: st) w Q) : WP μ pc L (st) w Q := by
  intro p l e R s m args below meth c D cI cC A H0 ad ls H locs cells slots QQ C hc hs hP hD hS hl hq
  have h := h p l e R s m args below meth c D cI cC A H0 ad ls H locs cells slots QQ C hc hs hP hD hS hl hq
  exact lv_sipush C.1 C.2.1 hd hn h
theorem q_lconst {μ : MI} {pc : Nat} {L st : List rV} {w : rW} {Q : List rV → rW → Prop} {n : Fin 2} (x : Int) (hd : decode (mB μ) pc = .ok (.lconst n, 1)) (hn : Int64.ofNat (n : Nat) = fL x) (h : WP μ (pc + 1) L (vl x :: st) w Q) : WP μ pc L (st) w Q := by
  intro p l e R s m args below meth c D cI cC A H0 ad ls H locs cells slots QQ C hc hs hP hD hS hl hq
  have h := h p l e R s m args below meth c D cI cC A H0 ad ls H locs cells slots QQ C hc hs hP hD hS hl hq
  exact lv_lconst C.1 C.2.1 hd hn h
theorem q_fconst1 {μ : MI} {pc : Nat} {L st : List rV} {w : rW} {Q : List rV → rW → Prop} (hd : decode (mB μ) pc = .ok (.fconst 1, 1)) (h : WP μ (pc + 1) L (vf 1065353216 :: st) w Q) : WP μ pc L (st) w Q := by
  intro p l e R s m args below meth c D cI cC A H0 ad ls H locs cells slots QQ C hc hs hP hD hS hl hq
  have h := h p l e R s m args below meth c D cI cC A H0 ad ls H locs cells slots QQ C hc hs hP hD hS hl hq
  exact lv_fconst1 C.1 C.2.1 hd h
theorem q_fconst2 {μ : MI} {pc : Nat} {L st : List rV} {w : rW} {Q : List rV → rW → Prop} (hd : decode (mB μ) pc = .ok (.fconst 2, 1)) (h : WP μ (pc + 1) L (vf 1073741824 :: st) w Q) : WP μ pc L (st) w Q := by
  intro p l e R s m args below meth c D cI cC A H0 ad ls H locs cells slots QQ C hc hs hP hD hS hl hq
  have h := h p l e R s m args below meth c D cI cC A H0 ad ls H locs cells slots QQ C hc hs hP hD hS hl hq
  exact lv_fconst2 C.1 C.2.1 hd h
theorem q_ldc {μ : MI} {pc : Nat} {L st : List rV} {w : rW} {Q : List rV → rW → Prop} {index : Nat} (x : Int) {v : Int32} (hd : decode (mB μ) pc = .ok (.ldc index, 2)) (hw : Cond.constant (mN μ).cls index v ∈ gT) (hv : fI x = v) (h : WP μ (pc + 2) L (vi x :: st) w Q) : WP μ pc L (st) w Q := by
  intro p l e R s m args below meth c D cI cC A H0 ad ls H locs cells slots QQ C hc hs hP hD hS hl hq
  have h := h p l e R s m args below meth c D cI cC A H0 ad ls H locs cells slots QQ C hc hs hP hD hS hl hq
  subst hv
  exact lv_ldc C.1 C.2.1 C.2.2.2.1 (C.2.2.2.2.1 _ hw) hd h
theorem q_ldcf {μ : MI} {pc : Nat} {L st : List rV} {w : rW} {Q : List rV → rW → Prop} {index : Nat} (x : Int) {v : UInt32} (hd : decode (mB μ) pc = .ok (.ldc index, 2)) (hw : Cond.constantFloat (mN μ).cls index v ∈ gT) (hv : fF x = v) (h : WP μ (pc + 2) L (vf x :: st) w Q) : WP μ pc L (st) w Q := by
  intro p l e R s m args below meth c D cI cC A H0 ad ls H locs cells slots QQ C hc hs hP hD hS hl hq
  have h := h p l e R s m args below meth c D cI cC A H0 ad ls H locs cells slots QQ C hc hs hP hD hS hl hq
  subst hv
  exact lv_ldcf C.1 C.2.1 C.2.2.2.1 (C.2.2.2.2.1 _ hw) hd h
theorem q_ldc2 {μ : MI} {pc : Nat} {L st : List rV} {w : rW} {Q : List rV → rW → Prop} {index : Nat} (x : Int) {v : Int64} (hd : decode (mB μ) pc = .ok (.ldc2_w index, 3)) (hw : Cond.constantLong (mN μ).cls index v ∈ gT) (hv : fL x = v) (h : WP μ (pc + 3) L (vl x :: st) w Q) : WP μ pc L (st) w Q := by
  intro p l e R s m args below meth c D cI cC A H0 ad ls H locs cells slots QQ C hc hs hP hD hS hl hq
  have h := h p l e R s m args below meth c D cI cC A H0 ad ls H locs cells slots QQ C hc hs hP hD hS hl hq
  subst hv
  exact lv_ldc2 C.1 C.2.1 C.2.2.2.1 (C.2.2.2.2.1 _ hw) hd h
theorem q_iload_n {μ : MI} {pc : Nat} {L st : List rV} {w : rW} {Q : List rV → rW → Prop} {k : Fin 4} (i : Nat) {a : Int} (hd : decode (mB μ) pc = .ok (.iload_n k, 1)) (hi : (k : Nat) = i) (hL : L[i]? = some (vi a)) (h : WP μ (pc + 1) L (vi a :: st) w Q) : WP μ pc L (st) w Q := by
  intro p l e R s m args below meth c D cI cC A H0 ad ls H locs cells slots QQ C hc hs hP hD hS hl hq
  have h := h p l e R s m args below meth c D cI cC A H0 ad ls H locs cells slots QQ C hc hs hP hD hS hl hq
  exact lv_iload_n C.1 C.2.1 hd hi (hl.2.2 i _ hL (Nat.le_of_ble_eq_true rfl)) h
theorem q_iload {μ : MI} {pc : Nat} {L st : List rV} {w : rW} {Q : List rV → rW → Prop} {i : Nat} {a : Int} (hd : decode (mB μ) pc = .ok (.iload i, 2)) (hL : L[i]? = some (vi a)) (h : WP μ (pc + 2) L (vi a :: st) w Q) : WP μ pc L (st) w Q := by
  intro p l e R s m args below meth c D cI cC A H0 ad ls H locs cells slots QQ C hc hs hP hD hS hl hq
  have h := h p l e R s m args below meth c D cI cC A H0 ad ls H locs cells slots QQ C hc hs hP hD hS hl hq
  exact lv_iload C.1 C.2.1 hd (hl.2.2 i _ hL (Nat.le_of_ble_eq_true rfl)) h
theorem q_aload_n {μ : MI} {pc : Nat} {L st : List rV} {w : rW} {Q : List rV → rW → Prop} {k : Fin 4} (i : Nat) {a : Int} (hd : decode (mB μ) pc = .ok (.aload_n k, 1)) (hi : (k : Nat) = i) (hL : L[i]? = some (vr a)) (h : WP μ (pc + 1) L (vr a :: st) w Q) : WP μ pc L (st) w Q := by
  intro p l e R s m args below meth c D cI cC A H0 ad ls H locs cells slots QQ C hc hs hP hD hS hl hq
  have h := h p l e R s m args below meth c D cI cC A H0 ad ls H locs cells slots QQ C hc hs hP hD hS hl hq
  exact lv_aload_n C.1 C.2.1 hd hi (hl.2.2 i _ hL (Nat.le_of_ble_eq_true rfl)) h
theorem q_aload {μ : MI} {pc : Nat} {L st : List rV} {w : rW} {Q : List rV → rW → Prop} {i : Nat} {a : Int} (hd : decode (mB μ) pc = .ok (.aload i, 2)) (hL : L[i]? = some (vr a)) (h : WP μ (pc + 2) L (vr a :: st) w Q) : WP μ pc L (st) w Q := by
  intro p l e R s m args below meth c D cI cC A H0 ad ls H locs cells slots QQ C hc hs hP hD hS hl hq
  have h := h p l e R s m args below meth c D cI cC A H0 ad ls H locs cells slots QQ C hc hs hP hD hS hl hq
  exact lv_aload C.1 C.2.1 hd (hl.2.2 i _ hL (Nat.le_of_ble_eq_true rfl)) h
theorem q_lload_n {μ : MI} {pc : Nat} {L st : List rV} {w : rW} {Q : List rV → rW → Prop} {k : Fin 4} (i : Nat) {a : Int} (hd : decode (mB μ) pc = .ok (.lload_n k, 1)) (hi : (k : Nat) = i) (hL : L[i]? = some (vl a)) (h : WP μ (pc + 1) L (vl a :: st) w Q) : WP μ pc L (st) w Q := by
  intro p l e R s m args below meth c D cI cC A H0 ad ls H locs cells slots QQ C hc hs hP hD hS hl hq
  have h := h p l e R s m args below meth c D cI cC A H0 ad ls H locs cells slots QQ C hc hs hP hD hS hl hq
  exact lv_lload_n C.1 C.2.1 hd hi (hl.2.2 i _ hL (Nat.le_of_ble_eq_true rfl)) h
theorem q_lload {μ : MI} {pc : Nat} {L st : List rV} {w : rW} {Q : List rV → rW → Prop} {i : Nat} {a : Int} (hd : decode (mB μ) pc = .ok (.lload i, 2)) (hL : L[i]? = some (vl a)) (h : WP μ (pc + 2) L (vl a :: st) w Q) : WP μ pc L (st) w Q := by
  intro p l e R s m args below meth c D cI cC A H0 ad ls H locs cells slots QQ C hc hs hP hD hS hl hq
  have h := h p l e R s m args below meth c D cI cC A H0 ad ls H locs cells slots QQ C hc hs hP hD hS hl hq
  exact lv_lload C.1 C.2.1 hd (hl.2.2 i _ hL (Nat.le_of_ble_eq_true rfl)) h
theorem q_fload_n {μ : MI} {pc : Nat} {L st : List rV} {w : rW} {Q : List rV → rW → Prop} {k : Fin 4} (i : Nat) {a : Int} (hd : decode (mB μ) pc = .ok (.fload_n k, 1)) (hi : (k : Nat) = i) (hL : L[i]? = some (vf a)) (h : WP μ (pc + 1) L (vf a :: st) w Q) : WP μ pc L (st) w Q := by
  intro p l e R s m args below meth c D cI cC A H0 ad ls H locs cells slots QQ C hc hs hP hD hS hl hq
  have h := h p l e R s m args below meth c D cI cC A H0 ad ls H locs cells slots QQ C hc hs hP hD hS hl hq
  exact lv_fload_n C.1 C.2.1 hd hi (hl.2.2 i _ hL (Nat.le_of_ble_eq_true rfl)) h
theorem q_fload {μ : MI} {pc : Nat} {L st : List rV} {w : rW} {Q : List rV → rW → Prop} {i : Nat} {a : Int} (hd : decode (mB μ) pc = .ok (.fload i, 2)) (hL : L[i]? = some (vf a)) (h : WP μ (pc + 2) L (vf a :: st) w Q) : WP μ pc L (st) w Q := by
  intro p l e R s m args below meth c D cI cC A H0 ad ls H locs cells slots QQ C hc hs hP hD hS hl hq
  have h := h p l e R s m args below meth c D cI cC A H0 ad ls H locs cells slots QQ C hc hs hP hD hS hl hq
  exact lv_fload C.1 C.2.1 hd (hl.2.2 i _ hL (Nat.le_of_ble_eq_true rfl)) h
theorem q_istore_n {μ : MI} {pc : Nat} {L st : List rV} {w : rW} {Q : List rV → rW → Prop} {k : Fin 4} (i : Nat) {a : Int} (hd : decode (mB μ) pc = .ok (.istore_n k, 1)) (hi : (k : Nat) = i) (hn : i < mL μ) (hk : nlb L i = true) (h : WP μ (pc + 1) (L.set i (vi a)) st w Q) : WP μ pc L (vi a :: st) w Q := by
  intro p l e R s m args below meth c D cI cC A H0 ad ls H locs cells slots QQ C hc hs hP hD hS hl hq
  exact lv_istore_n C.1 C.2.1 hd hi hl.has hn rfl (fun ls' hl' => h p l e R s m args below meth c D cI cC A H0 ad ls' H locs cells slots QQ C hc hs hP hD hS (lR.st1 (x := vi a) hk hl') hq)
theorem q_istore {μ : MI} {pc : Nat} {L st : List rV} {w : rW} {Q : List rV → rW → Prop} {i : Nat} {a : Int} (hd : decode (mB μ) pc = .ok (.istore i, 2)) (hn : i < mL μ) (hk : nlb L i = true) (h : WP μ (pc + 2) (L.set i (vi a)) st w Q) : WP μ pc L (vi a :: st) w Q := by
  intro p l e R s m args below meth c D cI cC A H0 ad ls H locs cells slots QQ C hc hs hP hD hS hl hq
  exact lv_istore C.1 C.2.1 hd hl.has hn rfl (fun ls' hl' => h p l e R s m args below meth c D cI cC A H0 ad ls' H locs cells slots QQ C hc hs hP hD hS (lR.st1 (x := vi a) hk hl') hq)
theorem q_astore_n {μ : MI} {pc : Nat} {L st : List rV} {w : rW} {Q : List rV → rW → Prop} {k : Fin 4} (i : Nat) {a : Int} (hd : decode (mB μ) pc = .ok (.astore_n k, 1)) (hi : (k : Nat) = i) (hn : i < mL μ) (hk : nlb L i = true) (h : WP μ (pc + 1) (L.set i (vr a)) st w Q) : WP μ pc L (vr a :: st) w Q := by
  intro p l e R s m args below meth c D cI cC A H0 ad ls H locs cells slots QQ C hc hs hP hD hS hl hq
  exact lv_astore_n C.1 C.2.1 hd hi hl.has hn rfl (fun ls' hl' => h p l e R s m args below meth c D cI cC A H0 ad ls' H locs cells slots QQ C hc hs hP hD hS (lR.st1 (x := vr a) hk hl') hq)
theorem q_astore {μ : MI} {pc : Nat} {L st : List rV} {w : rW} {Q : List rV → rW → Prop} {i : Nat} {a : Int} (hd : decode (mB μ) pc = .ok (.astore i, 2)) (hn : i < mL μ) (hk : nlb L i = true) (h : WP μ (pc + 2) (L.set i (vr a)) st w Q) : WP μ pc L (vr a :: st) w Q := by
  intro p l e R s m args below meth c D cI cC A H0 ad ls H locs cells slots QQ C hc hs hP hD hS hl hq
  exact lv_astore C.1 C.2.1 hd hl.has hn rfl (fun ls' hl' => h p l e R s m args below meth c D cI cC A H0 ad ls' H locs cells slots QQ C hc hs hP hD hS (lR.st1 (x := vr a) hk hl') hq)
theorem q_fstore_n {μ : MI} {pc : Nat} {L st : List rV} {w : rW} {Q : List rV → rW → Prop} {k : Fin 4} (i : Nat) {a : Int} (hd : decode (mB μ) pc = .ok (.fstore_n k, 1)) (hi : (k : Nat) = i) (hn : i < mL μ) (hk : nlb L i = true) (h : WP μ (pc + 1) (L.set i (vf a)) st w Q) : WP μ pc L (vf a :: st) w Q := by
  intro p l e R s m args below meth c D cI cC A H0 ad ls H locs cells slots QQ C hc hs hP hD hS hl hq
  exact lv_fstore_n C.1 C.2.1 hd hi hl.has hn rfl (fun ls' hl' => h p l e R s m args below meth c D cI cC A H0 ad ls' H locs cells slots QQ C hc hs hP hD hS (lR.st1 (x := vf a) hk hl') hq)
theorem q_fstore {μ : MI} {pc : Nat} {L st : List rV} {w : rW} {Q : List rV → rW → Prop} {i : Nat} {a : Int} (hd : decode (mB μ) pc = .ok (.fstore i, 2)) (hn : i < mL μ) (hk : nlb L i = true) (h : WP μ (pc + 2) (L.set i (vf a)) st w Q) : WP μ pc L (vf a :: st) w Q := by
  intro p l e R s m args below meth c D cI cC A H0 ad ls H locs cells slots QQ C hc hs hP hD hS hl hq
  exact lv_fstore C.1 C.2.1 hd hl.has hn rfl (fun ls' hl' => h p l e R s m args below meth c D cI cC A H0 ad ls' H locs cells slots QQ C hc hs hP hD hS (lR.st1 (x := vf a) hk hl') hq)
theorem q_lstore_n {μ : MI} {pc : Nat} {L st : List rV} {w : rW} {Q : List rV → rW → Prop} {k : Fin 4} (i : Nat) {a : Int} (hd : decode (mB μ) pc = .ok (.lstore_n k, 1)) (hi : (k : Nat) = i) (hn : i + 1 < mL μ) (hk : nlb L i = true) (h : WP μ (pc + 1) ((L.set i (vl a)).set (i + 1) vu) st w Q) : WP μ pc L (vl a :: st) w Q := by
  intro p l e R s m args below meth c D cI cC A H0 ad ls H locs cells slots QQ C hc hs hP hD hS hl hq
  exact lv_lstore_n C.1 C.2.1 hd hi hl.has hn rfl (fun ls' hl' => h p l e R s m args below meth c D cI cC A H0 ad ls' H locs cells slots QQ C hc hs hP hD hS (lR.st2 (x := vl a) hk hl') hq)
theorem q_lstore {μ : MI} {pc : Nat} {L st : List rV} {w : rW} {Q : List rV → rW → Prop} {i : Nat} {a : Int} (hd : decode (mB μ) pc = .ok (.lstore i, 2)) (hn : i + 1 < mL μ) (hk : nlb L i = true) (h : WP μ (pc + 2) ((L.set i (vl a)).set (i + 1) vu) st w Q) : WP μ pc L (vl a :: st) w Q := by
  intro p l e R s m args below meth c D cI cC A H0 ad ls H locs cells slots QQ C hc hs hP hD hS hl hq
  exact lv_lstore C.1 C.2.1 hd hl.has hn rfl (fun ls' hl' => h p l e R s m args below meth c D cI cC A H0 ad ls' H locs cells slots QQ C hc hs hP hD hS (lR.st2 (x := vl a) hk hl') hq)
theorem q_iinc {μ : MI} {pc : Nat} {L st : List rV} {w : rW} {Q : List rV → rW → Prop} {i : Nat} {a n : Int} (hd : decode (mB μ) pc = .ok (.iinc i n, 3)) (hL : L[i]? = some (vi a)) (hn : i < mL μ) (hk : nlb L i = true) (h : WP μ (pc + 3) (L.set i (vi (a + n))) st w Q) : WP μ pc L st w Q := by
  intro p l e R s m args below meth c D cI cC A H0 ad ls H locs cells slots QQ C hc hs hP hD hS hl hq
  obtain ⟨k, hk1⟩ := List.getElem?_of_mem (mem_prs.mpr ⟨i, vi a, hL, Nat.le_of_ble_eq_true rfl, rfl⟩ : (i, cv ad (vi a)) ∈ prs ad L)
  exact lv_iinc (v := fI (a + n)) C.1 C.2.1 hd hl.has hk1 (fI_add a n) hn rfl (fun ls' hl' => h p l e R s m args below meth c D cI cC A H0 ad ls' H locs cells slots QQ C hc hs hP hD hS (lR.st1 (x := vi (a + n)) hk hl') hq)
theorem q_iadd {μ : MI} {pc : Nat} {L st : List rV} {w : rW} {Q : List rV → rW → Prop} {a b : Int} (hd : decode (mB μ) pc = .ok (.iadd, 1)) (h : WP μ (pc + 1) L (vi (a + b) :: st) w Q) : WP μ pc L (vi b :: vi a :: st) w Q := by
  intro p l e R s m args below meth c D cI cC A H0 ad ls H locs cells slots QQ C hc hs hP hD hS hl hq
  have h := h p l e R s m args below meth c D cI cC A H0 ad ls H locs cells slots QQ C hc hs hP hD hS hl hq
  refine lv_iadd (x := fI a) (y := fI b) C.1 C.2.1 hd ?_
  rw [fI_add]
  exact h
theorem q_isub {μ : MI} {pc : Nat} {L st : List rV} {w : rW} {Q : List rV → rW → Prop} {a b : Int} (hd : decode (mB μ) pc = .ok (.isub, 1)) (h : WP μ (pc + 1) L (vi (a - b) :: st) w Q) : WP μ pc L (vi b :: vi a :: st) w Q := by
  intro p l e R s m args below meth c D cI cC A H0 ad ls H locs cells slots QQ C hc hs hP hD hS hl hq
  have h := h p l e R s m args below meth c D cI cC A H0 ad ls H locs cells slots QQ C hc hs hP hD hS hl hq
  refine lv_isub (x := fI a) (y := fI b) C.1 C.2.1 hd ?_
  rw [fI_sub]
  exact h
theorem q_imul {μ : MI} {pc : Nat} {L st : List rV} {w : rW} {Q : List rV → rW → Prop} {a b : Int} (hd : decode (mB μ) pc = .ok (.imul, 1)) (h : WP μ (pc + 1) L (vi (a * b) :: st) w Q) : WP μ pc L (vi b :: vi a :: st) w Q := by
  intro p l e R s m args below meth c D cI cC A H0 ad ls H locs cells slots QQ C hc hs hP hD hS hl hq
  have h := h p l e R s m args below meth c D cI cC A H0 ad ls H locs cells slots QQ C hc hs hP hD hS hl hq
  refine lv_imul (x := fI a) (y := fI b) C.1 C.2.1 hd ?_
  rw [fI_mul]
  exact h
theorem q_ineg {μ : MI} {pc : Nat} {L st : List rV} {w : rW} {Q : List rV → rW → Prop} {a : Int} (hd : decode (mB μ) pc = .ok (.ineg, 1)) (h : WP μ (pc + 1) L (vi (-a) :: st) w Q) : WP μ pc L (vi a :: st) w Q := by
  intro p l e R s m args below meth c D cI cC A H0 ad ls H locs cells slots QQ C hc hs hP hD hS hl hq
  have h := h p l e R s m args below meth c D cI cC A H0 ad ls H locs cells slots QQ C hc hs hP hD hS hl hq
  refine lv_ineg (x := fI a) C.1 C.2.1 hd ?_
  rw [fI_neg]
  exact h
theorem q_idiv {μ : MI} {pc : Nat} {L st : List rV} {w : rW} {Q : List rV → rW → Prop} {a b : Int} (hd : decode (mB μ) pc = .ok (.idiv, 1)) (h1 : 0 ≤ a) (h2 : a < 2147483648) (h3 : 0 < b) (h4 : b < 2147483648) (h : WP μ (pc + 1) L (vi (a / b) :: st) w Q) : WP μ pc L (vi b :: vi a :: st) w Q := by
  intro p l e R s m args below meth c D cI cC A H0 ad ls H locs cells slots QQ C hc hs hP hD hS hl hq
  have h := h p l e R s m args below meth c D cI cC A H0 ad ls H locs cells slots QQ C hc hs hP hD hS hl hq
  refine lv_idiv (x := fI a) (y := fI b) C.1 C.2.1 hd (by intro q; rw [← fI_0, fI_eq ⟨by omega, by omega⟩ ⟨by omega, by omega⟩] at q; omega) ?_
  rw [fI_div h1 h2 h3 h4]
  exact h
theorem q_irem {μ : MI} {pc : Nat} {L st : List rV} {w : rW} {Q : List rV → rW → Prop} {a b : Int} (hd : decode (mB μ) pc = .ok (.irem, 1)) (h1 : 0 ≤ a) (h2 : a < 2147483648) (h3 : 0 < b) (h4 : b < 2147483648) (h : WP μ (pc + 1) L (vi (a % b) :: st) w Q) : WP μ pc L (vi b :: vi a :: st) w Q := by
  intro p l e R s m args below meth c D cI cC A H0 ad ls H locs cells slots QQ C hc hs hP hD hS hl hq
  have h := h p l e R s m args below meth c D cI cC A H0 ad ls H locs cells slots QQ C hc hs hP hD hS hl hq
  refine lv_irem (x := fI a) (y := fI b) C.1 C.2.1 hd (by intro q; rw [← fI_0, fI_eq ⟨by omega, by omega⟩ ⟨by omega, by omega⟩] at q; omega) ?_
  first | (rw [fI_rem h1 h2 h3 h4]; exact h) | skip
theorem q_iand {μ : MI} {pc : Nat} {L st : List rV} {w : rW} {Q : List rV → rW → Prop} {a b : Int} (hd : decode (mB μ) pc = .ok (.iand, 1)) (h1 : 0 ≤ a) (h2 : 0 ≤ b) (h : WP μ (pc + 1) L (vi (iA a b) :: st) w Q) : WP μ pc L (vi b :: vi a :: st) w Q := by
  intro p l e R s m args below meth c D cI cC A H0 ad ls H locs cells slots QQ C hc hs hP hD hS hl hq
  have h := h p l e R s m args below meth c D cI cC A H0 ad ls H locs cells slots QQ C hc hs hP hD hS hl hq
  refine lv_iand (x := fI a) (y := fI b) C.1 C.2.1 hd ?_
  rw [fI_and h1 h2]
  exact h
theorem q_ishl {μ : MI} {pc : Nat} {L st : List rV} {w : rW} {Q : List rV → rW → Prop} {a b : Int} (hd : decode (mB μ) pc = .ok (.ishl, 1)) (h1 : 0 ≤ a) (h2 : 0 ≤ b) (h3 : b < 32) (h4 : a * 2 ^ b.toNat < 4294967296) (h : WP μ (pc + 1) L (vi (a * 2 ^ b.toNat) :: st) w Q) : WP μ pc L (vi b :: vi a :: st) w Q := by
  intro p l e R s m args below meth c D cI cC A H0 ad ls H locs cells slots QQ C hc hs hP hD hS hl hq
  have h := h p l e R s m args below meth c D cI cC A H0 ad ls H locs cells slots QQ C hc hs hP hD hS hl hq
  refine lv_ishl (x := fI a) (y := fI b) C.1 C.2.1 hd ?_
  rw [fI_shl h1 h2 h3 h4]
  exact h
theorem q_ishr {μ : MI} {pc : Nat} {L st : List rV} {w : rW} {Q : List rV → rW → Prop} {a b : Int} (hd : decode (mB μ) pc = .ok (.ishr, 1)) (h1 : 0 ≤ a) (h2 : a < 2147483648) (h3 : 0 ≤ b) (h4 : b < 32) (h : WP μ (pc + 1) L (vi (a / 2 ^ b.toNat) :: st) w Q) : WP μ pc L (vi b :: vi a :: st) w Q := by
  intro p l e R s m args below meth c D cI cC A H0 ad ls H locs cells slots QQ C hc hs hP hD hS hl hq
  have h := h p l e R s m args below meth c D cI cC A H0 ad ls H locs cells slots QQ C hc hs hP hD hS hl hq
  refine lv_ishr (x := fI a) (y := fI b) C.1 C.2.1 hd ?_
  rw [fI_shr h1 h2 h3 h4]
  exact h
theorem q_i2l {μ : MI} {pc : Nat} {L st : List rV} {w : rW} {Q : List rV → rW → Prop} {a : Int} (hd : decode (mB μ) pc = .ok (.i2l, 1)) (h1 : R32 a) (h : WP μ (pc + 1) L (vl a :: st) w Q) : WP μ pc L (vi a :: st) w Q := by
  intro p l e R s m args below meth c D cI cC A H0 ad ls H locs cells slots QQ C hc hs hP hD hS hl hq
  have h := h p l e R s m args below meth c D cI cC A H0 ad ls H locs cells slots QQ C hc hs hP hD hS hl hq
  exact lv_i2l (x := fI a) C.1 C.2.1 hd (fI_i2l h1) h
theorem q_l2i {μ : MI} {pc : Nat} {L st : List rV} {w : rW} {Q : List rV → rW → Prop} {a : Int} (hd : decode (mB μ) pc = .ok (.l2i, 1)) (h : WP μ (pc + 1) L (vi a :: st) w Q) : WP μ pc L (vl a :: st) w Q := by
  intro p l e R s m args below meth c D cI cC A H0 ad ls H locs cells slots QQ C hc hs hP hD hS hl hq
  have h := h p l e R s m args below meth c D cI cC A H0 ad ls H locs cells slots QQ C hc hs hP hD hS hl hq
  exact lv_l2i (x := fL a) C.1 C.2.1 hd (fL_l2i a) h
theorem q_i2c {μ : MI} {pc : Nat} {L st : List rV} {w : rW} {Q : List rV → rW → Prop} {a : Int} (hd : decode (mB μ) pc = .ok (.i2c, 1)) (h1 : 0 ≤ a) (h2 : a < 65536) (h : WP μ (pc + 1) L (vi a :: st) w Q) : WP μ pc L (vi a :: st) w Q := by
  intro p l e R s m args below meth c D cI cC A H0 ad ls H locs cells slots QQ C hc hs hP hD hS hl hq
  have h := h p l e R s m args below meth c D cI cC A H0 ad ls H locs cells slots QQ C hc hs hP hD hS hl hq
  exact lv_i2c (x := fI a) C.1 C.2.1 hd (fI_char h1 h2) h
theorem q_ladd {μ : MI} {pc : Nat} {L st : List rV} {w : rW} {Q : List rV → rW → Prop} {a b : Int} (hd : decode (mB μ) pc = .ok (.ladd, 1)) (h : WP μ (pc + 1) L (vl (a + b) :: st) w Q) : WP μ pc L (vl b :: vl a :: st) w Q := by
  intro p l e R s m args below meth c D cI cC A H0 ad ls H locs cells slots QQ C hc hs hP hD hS hl hq
  have h := h p l e R s m args below meth c D cI cC A H0 ad ls H locs cells slots QQ C hc hs hP hD hS hl hq
  refine lv_ladd (x := fL a) (y := fL b) C.1 C.2.1 hd ?_
  rw [fL_add]
  exact h
theorem q_lsub {μ : MI} {pc : Nat} {L st : List rV} {w : rW} {Q : List rV → rW → Prop} {a b : Int} (hd : decode (mB μ) pc = .ok (.lsub, 1)) (h : WP μ (pc + 1) L (vl (a - b) :: st) w Q) : WP μ pc L (vl b :: vl a :: st) w Q := by
  intro p l e R s m args below meth c D cI cC A H0 ad ls H locs cells slots QQ C hc hs hP hD hS hl hq
  have h := h p l e R s m args below meth c D cI cC A H0 ad ls H locs cells slots QQ C hc hs hP hD hS hl hq
  refine lv_lsub (x := fL a) (y := fL b) C.1 C.2.1 hd ?_
  rw [fL_sub]
  exact h
theorem q_lmul {μ : MI} {pc : Nat} {L st : List rV} {w : rW} {Q : List rV → rW → Prop} {a b : Int} (hd : decode (mB μ) pc = .ok (.lmul, 1)) (h : WP μ (pc + 1) L (vl (a * b) :: st) w Q) : WP μ pc L (vl b :: vl a :: st) w Q := by
  intro p l e R s m args below meth c D cI cC A H0 ad ls H locs cells slots QQ C hc hs hP hD hS hl hq
  have h := h p l e R s m args below meth c D cI cC A H0 ad ls H locs cells slots QQ C hc hs hP hD hS hl hq
  refine lv_lmul (x := fL a) (y := fL b) C.1 C.2.1 hd ?_
  rw [fL_mul]
  exact h
theorem q_ldiv {μ : MI} {pc : Nat} {L st : List rV} {w : rW} {Q : List rV → rW → Prop} {a b : Int} (hd : decode (mB μ) pc = .ok (.ldiv, 1)) (h1 : 0 ≤ a) (h2 : a < 9223372036854775808) (h3 : 0 < b) (h4 : b < 9223372036854775808) (h : WP μ (pc + 1) L (vl (a / b) :: st) w Q) : WP μ pc L (vl b :: vl a :: st) w Q := by
  intro p l e R s m args below meth c D cI cC A H0 ad ls H locs cells slots QQ C hc hs hP hD hS hl hq
  have h := h p l e R s m args below meth c D cI cC A H0 ad ls H locs cells slots QQ C hc hs hP hD hS hl hq
  refine lv_ldiv (x := fL a) (y := fL b) C.1 C.2.1 hd (by intro q; rw [show (0 : Int64) = fL 0 from rfl, fL_eq ⟨by omega, by omega⟩ ⟨by omega, by omega⟩] at q; omega) ?_
  rw [fL_div h1 h2 h3 h4]
  exact h
theorem q_lrem {μ : MI} {pc : Nat} {L st : List rV} {w : rW} {Q : List rV → rW → Prop} {a b : Int} (hd : decode (mB μ) pc = .ok (.lrem, 1)) (h1 : 0 ≤ a) (h2 : a < 9223372036854775808) (h3 : 0 < b) (h4 : b < 9223372036854775808) (h : WP μ (pc + 1) L (vl (a % b) :: st) w Q) : WP μ pc L (vl b :: vl a :: st) w Q := by
  intro p l e R s m args below meth c D cI cC A H0 ad ls H locs cells slots QQ C hc hs hP hD hS hl hq
  have h := h p l e R s m args below meth c D cI cC A H0 ad ls H locs cells slots QQ C hc hs hP hD hS hl hq
  refine lv_lrem (x := fL a) (y := fL b) C.1 C.2.1 hd (by intro q; rw [show (0 : Int64) = fL 0 from rfl, fL_eq ⟨by omega, by omega⟩ ⟨by omega, by omega⟩] at q; omega) ?_
  first | (rw [fL_rem h1 h2 h3 h4]; exact h) | skip
theorem q_land {μ : MI} {pc : Nat} {L st : List rV} {w : rW} {Q : List rV → rW → Prop} {a b : Int} (hd : decode (mB μ) pc = .ok (.land, 1)) (h1 : 0 ≤ a) (h2 : a < 9223372036854775808) (h3 : 0 ≤ b) (h4 : b < 9223372036854775808) (h : WP μ (pc + 1) L (vl (iA a b) :: st) w Q) : WP μ pc L (vl b :: vl a :: st) w Q := by
  intro p l e R s m args below meth c D cI cC A H0 ad ls H locs cells slots QQ C hc hs hP hD hS hl hq
  have h := h p l e R s m args below meth c D cI cC A H0 ad ls H locs cells slots QQ C hc hs hP hD hS hl hq
  refine lv_land (x := fL a) (y := fL b) C.1 C.2.1 hd ?_
  rw [fL_and ⟨by omega, h2⟩ ⟨by omega, h4⟩ h1 h3]
  exact h
theorem q_lor {μ : MI} {pc : Nat} {L st : List rV} {w : rW} {Q : List rV → rW → Prop} {a b : Int} (hd : decode (mB μ) pc = .ok (.lor, 1)) (h1 : 0 ≤ a) (h2 : a < 9223372036854775808) (h3 : 0 ≤ b) (h4 : b < 9223372036854775808) (h : WP μ (pc + 1) L (vl (iO a b) :: st) w Q) : WP μ pc L (vl b :: vl a :: st) w Q := by
  intro p l e R s m args below meth c D cI cC A H0 ad ls H locs cells slots QQ C hc hs hP hD hS hl hq
  have h := h p l e R s m args below meth c D cI cC A H0 ad ls H locs cells slots QQ C hc hs hP hD hS hl hq
  refine lv_lor (x := fL a) (y := fL b) C.1 C.2.1 hd ?_
  rw [fL_or ⟨by omega, h2⟩ ⟨by omega, h4⟩ h1 h3]
  exact h
theorem q_lshl {μ : MI} {pc : Nat} {L st : List rV} {w : rW} {Q : List rV → rW → Prop} {a b : Int} (hd : decode (mB μ) pc = .ok (.lshl, 1)) (h1 : 0 ≤ a) (h2 : 0 ≤ b) (h3 : b < 64) (h : WP μ (pc + 1) L (vl (a * 2 ^ b.toNat) :: st) w Q) : WP μ pc L (vi b :: vl a :: st) w Q := by
  intro p l e R s m args below meth c D cI cC A H0 ad ls H locs cells slots QQ C hc hs hP hD hS hl hq
  have h := h p l e R s m args below meth c D cI cC A H0 ad ls H locs cells slots QQ C hc hs hP hD hS hl hq
  exact lv_lshl (x := fL a) (y := fI b) C.1 C.2.1 hd (fL_shl h1 h2 h3) h
theorem q_lshr {μ : MI} {pc : Nat} {L st : List rV} {w : rW} {Q : List rV → rW → Prop} {a b : Int} (hd : decode (mB μ) pc = .ok (.lshr, 1)) (h1 : 0 ≤ a) (h2 : a < 4611686018427387904) (h3 : 0 ≤ b) (h4 : b < 64) (h : WP μ (pc + 1) L (vl (a / 2 ^ b.toNat) :: st) w Q) : WP μ pc L (vi b :: vl a :: st) w Q := by
  intro p l e R s m args below meth c D cI cC A H0 ad ls H locs cells slots QQ C hc hs hP hD hS hl hq
  have h := h p l e R s m args below meth c D cI cC A H0 ad ls H locs cells slots QQ C hc hs hP hD hS hl hq
  exact lv_lshr (x := fL a) (y := fI b) C.1 C.2.1 hd (fL_shr h1 h2 h3 h4) h
theorem q_lcmp {μ : MI} {pc : Nat} {L st : List rV} {w : rW} {Q : List rV → rW → Prop} {a b : Int} (hd : decode (mB μ) pc = .ok (.lcmp, 1)) (h1 : R64 a) (h2 : R64 b) (h : WP μ (pc + 1) L (vi (lcm a b) :: st) w Q) : WP μ pc L (vl b :: vl a :: st) w Q := by
  intro p l e R s m args below meth c D cI cC A H0 ad ls H locs cells slots QQ C hc hs hP hD hS hl hq
  have h := h p l e R s m args below meth c D cI cC A H0 ad ls H locs cells slots QQ C hc hs hP hD hS hl hq
  refine W.lcmp (x := fL a) (y := fL b) C.1 C.2.1 hd ?_
  rw [show lg_cmp (fL a) (fL b) = fI (lcm a b) from by
    unfold lg_cmp lcm
    simp only [fL_lt h1 h2, fL_lt h2 h1, fL_eq h1 h2]
    repeat' split
    all_goals first | rfl | omega]
  exact h
theorem q_i2f {μ : MI} {pc : Nat} {L st : List rV} {w : rW} {Q : List rV → rW → Prop} {a : Int} (hd : decode (mB μ) pc = .ok (.i2f, 1)) (h : WP μ (pc + 1) L (vf (FP.i2f (fI a)).toNat :: st) w Q) : WP μ pc L (vi a :: st) w Q := by
  intro p l e R s m args below meth c D cI cC A H0 ad ls H locs cells slots QQ C hc hs hP hD hS hl hq
  have h := h p l e R s m args below meth c D cI cC A H0 ad ls H locs cells slots QQ C hc hs hP hD hS hl hq
  refine lv_i2f (x := fI a) C.1 C.2.1 hd ?_
  have e := fF_f (FP.i2f (fI a))
  unfold vf at h
  simp only [List.map_cons, cv, e] at h
  exact h
theorem q_fdiv {μ : MI} {pc : Nat} {L st : List rV} {w : rW} {Q : List rV → rW → Prop} {a b : Int} (hd : decode (mB μ) pc = .ok (.fdiv, 1)) (hne : vf_n32 (FP.fdiv (fF a) (fF b))) (h : WP μ (pc + 1) L (vf (FP.fdiv (fF a) (fF b)).toNat :: st) w Q) : WP μ pc L (vf b :: vf a :: st) w Q := by
  intro p l e R s m args below meth c D cI cC A H0 ad ls H locs cells slots QQ C hc hs hP hD hS hl hq
  have h := h p l e R s m args below meth c D cI cC A H0 ad ls H locs cells slots QQ C hc hs hP hD hS hl hq
  refine lv_fdiv (x := fF a) (y := fF b) C.1 C.2.1 hd hne ?_
  have e := fF_f (FP.fdiv (fF a) (fF b))
  unfold vf at h
  simp only [List.map_cons, cv, e] at h
  exact h
theorem q_fsub {μ : MI} {pc : Nat} {L st : List rV} {w : rW} {Q : List rV → rW → Prop} {a b : Int} (hd : decode (mB μ) pc = .ok (.fsub, 1)) (hne : vf_n32 (FP.fsub (fF a) (fF b))) (h : WP μ (pc + 1) L (vf (FP.fsub (fF a) (fF b)).toNat :: st) w Q) : WP μ pc L (vf b :: vf a :: st) w Q := by
  intro p l e R s m args below meth c D cI cC A H0 ad ls H locs cells slots QQ C hc hs hP hD hS hl hq
  have h := h p l e R s m args below meth c D cI cC A H0 ad ls H locs cells slots QQ C hc hs hP hD hS hl hq
  refine lv_fsub (x := fF a) (y := fF b) C.1 C.2.1 hd hne ?_
  have e := fF_f (FP.fsub (fF a) (fF b))
  unfold vf at h
  simp only [List.map_cons, cv, e] at h
  exact h
theorem q_fmul {μ : MI} {pc : Nat} {L st : List rV} {w : rW} {Q : List rV → rW → Prop} {a b : Int} (hd : decode (mB μ) pc = .ok (.fmul, 1)) (hne : vf_n32 (FP.fmul (fF a) (fF b))) (h : WP μ (pc + 1) L (vf (FP.fmul (fF a) (fF b)).toNat :: st) w Q) : WP μ pc L (vf b :: vf a :: st) w Q := by
  intro p l e R s m args below meth c D cI cC A H0 ad ls H locs cells slots QQ C hc hs hP hD hS hl hq
  have h := h p l e R s m args below meth c D cI cC A H0 ad ls H locs cells slots QQ C hc hs hP hD hS hl hq
  refine lv_fmul (x := fF a) (y := fF b) C.1 C.2.1 hd hne ?_
  have e := fF_f (FP.fmul (fF a) (fF b))
  unfold vf at h
  simp only [List.map_cons, cv, e] at h
  exact h
theorem q_f2i {μ : MI} {pc : Nat} {L st : List rV} {w : rW} {Q : List rV → rW → Prop} {a : Int} (x : Int) (hd : decode (mB μ) pc = .ok (.f2i, 1)) (hx : FP.f2i (fF a) = fI x) (h : WP μ (pc + 1) L (vi x :: st) w Q) : WP μ pc L (vf a :: st) w Q := by
  intro p l e R s m args below meth c D cI cC A H0 ad ls H locs cells slots QQ C hc hs hP hD hS hl hq
  have h := h p l e R s m args below meth c D cI cC A H0 ad ls H locs cells slots QQ C hc hs hP hD hS hl hq
  refine lv_f2i (x := fF a) C.1 C.2.1 hd ?_
  rw [hx]
  exact h
theorem q_fcmp {μ : MI} {pc : Nat} {L st : List rV} {w : rW} {Q : List rV → rW → Prop} {a b : Int} (x : Int) {op : CmpOp} (hd : decode (mB μ) pc = .ok (.fcmp op, 1)) (hx : Op.cmpValue (FP.fcmp (fF a) (fF b)) op = fI x) (h : WP μ (pc + 1) L (vi x :: st) w Q) : WP μ pc L (vf b :: vf a :: st) w Q := by
  intro p l e R s m args below meth c D cI cC A H0 ad ls H locs cells slots QQ C hc hs hP hD hS hl hq
  have h := h p l e R s m args below meth c D cI cC A H0 ad ls H locs cells slots QQ C hc hs hP hD hS hl hq
  refine lv_fcmp (x := fF a) (y := fF b) C.1 C.2.1 hd ?_
  rw [hx]
  exact h
theorem cv_c1 {ad : Int → Nat} {v : rV} (h : v.1 ≠ 2) : (cv ad v).category = 1 := by
  rcases lv_cat (cv ad v) with q | q
  · exact q
  · exact absurd (cv_cat q) h
theorem q_dup {μ : MI} {pc : Nat} {L st : List rV} {w : rW} {Q : List rV → rW → Prop} {v : rV} (hd : decode (mB μ) pc = .ok (.dup, 1)) (hv : v.1 ≠ 2) (h : WP μ (pc + 1) L (v :: v :: st) w Q) : WP μ pc L (v :: st) w Q := by
  intro p l e R s m args below meth c D cI cC A H0 ad ls H locs cells slots QQ C hc hs hP hD hS hl hq
  have h := h p l e R s m args below meth c D cI cC A H0 ad ls H locs cells slots QQ C hc hs hP hD hS hl hq
  exact lv_dup C.1 C.2.1 hd (cv_c1 hv) h
theorem q_pop {μ : MI} {pc : Nat} {L st : List rV} {w : rW} {Q : List rV → rW → Prop} {v : rV} (hd : decode (mB μ) pc = .ok (.pop, 1)) (hv : v.1 ≠ 2) (h : WP μ (pc + 1) L (st) w Q) : WP μ pc L (v :: st) w Q := by
  intro p l e R s m args below meth c D cI cC A H0 ad ls H locs cells slots QQ C hc hs hP hD hS hl hq
  have h := h p l e R s m args below meth c D cI cC A H0 ad ls H locs cells slots QQ C hc hs hP hD hS hl hq
  exact lv_pop C.1 C.2.1 hd (cv_c1 hv) h
theorem q_dup2 {μ : MI} {pc : Nat} {L st : List rV} {w : rW} {Q : List rV → rW → Prop} {u v : rV} (hd : decode (mB μ) pc = .ok (.dup2, 1)) (hu : u.1 ≠ 2) (hv : v.1 ≠ 2) (h : WP μ (pc + 1) L (u :: v :: u :: v :: st) w Q) : WP μ pc L (u :: v :: st) w Q := by
  intro p l e R s m args below meth c D cI cC A H0 ad ls H locs cells slots QQ C hc hs hP hD hS hl hq
  have h := h p l e R s m args below meth c D cI cC A H0 ad ls H locs cells slots QQ C hc hs hP hD hS hl hq
  exact lv_dup2_11 C.1 C.2.1 hd (cv_c1 hu) (cv_c1 hv) h
theorem q_icmp_eq {μ : MI} {pc : Nat} {L st : List rV} {w : rW} {Q : List rV → rW → Prop} {a b : Int} {off : Int} (tgt : Nat) (hd : decode (mB μ) pc = .ok (.if_icmp .eq off, 3)) (ht : (pc : Int) + off = (tgt : Int)) (h1 : R32 a) (h2 : R32 b) (hp : a = b → WP μ tgt L st w Q) (hn : ¬ a = b → WP μ (pc + 3) L st w Q) : WP μ pc L (vi b :: vi a :: st) w Q := by
  intro p l e R s m args below meth c D cI cC A H0 ad ls H locs cells slots QQ C hc hs hP hD hS hl hq
  have ef : fI a = fI b ↔ a = b := fI_eq h1 h2
  exact lv_icmp_eq (x := fI a) (y := fI b) C.1 C.2.1 hd ht (fun q => hp (ef.mp q) p l e R s m args below meth c D cI cC A H0 ad ls H locs cells slots QQ C hc hs hP hD hS hl hq) (fun q => hn (fun z => q (ef.mpr z)) p l e R s m args below meth c D cI cC A H0 ad ls H locs cells slots QQ C hc hs hP hD hS hl hq)
theorem q_icmp_ne {μ : MI} {pc : Nat} {L st : List rV} {w : rW} {Q : List rV → rW → Prop} {a b : Int} {off : Int} (tgt : Nat) (hd : decode (mB μ) pc = .ok (.if_icmp .ne off, 3)) (ht : (pc : Int) + off = (tgt : Int)) (h1 : R32 a) (h2 : R32 b) (hp : ¬ a = b → WP μ tgt L st w Q) (hn : a = b → WP μ (pc + 3) L st w Q) : WP μ pc L (vi b :: vi a :: st) w Q := by
  intro p l e R s m args below meth c D cI cC A H0 ad ls H locs cells slots QQ C hc hs hP hD hS hl hq
  have ef : fI a = fI b ↔ a = b := fI_eq h1 h2
  exact lv_icmp_ne (x := fI a) (y := fI b) C.1 C.2.1 hd ht (fun q => hp (fun z => q (ef.mpr z)) p l e R s m args below meth c D cI cC A H0 ad ls H locs cells slots QQ C hc hs hP hD hS hl hq) (fun q => hn (ef.mp q) p l e R s m args below meth c D cI cC A H0 ad ls H locs cells slots QQ C hc hs hP hD hS hl hq)
theorem q_icmp_lt {μ : MI} {pc : Nat} {L st : List rV} {w : rW} {Q : List rV → rW → Prop} {a b : Int} {off : Int} (tgt : Nat) (hd : decode (mB μ) pc = .ok (.if_icmp .lt off, 3)) (ht : (pc : Int) + off = (tgt : Int)) (h1 : R32 a) (h2 : R32 b) (hp : a < b → WP μ tgt L st w Q) (hn : b ≤ a → WP μ (pc + 3) L st w Q) : WP μ pc L (vi b :: vi a :: st) w Q := by
  intro p l e R s m args below meth c D cI cC A H0 ad ls H locs cells slots QQ C hc hs hP hD hS hl hq
  have ef : fI a < fI b ↔ a < b := fI_lt h1 h2
  exact lv_icmp_lt (x := fI a) (y := fI b) C.1 C.2.1 hd ht (fun q => hp (ef.mp q) p l e R s m args below meth c D cI cC A H0 ad ls H locs cells slots QQ C hc hs hP hD hS hl hq) (fun q => hn (Int.not_lt.mp (fun z => q (ef.mpr z))) p l e R s m args below meth c D cI cC A H0 ad ls H locs cells slots QQ C hc hs hP hD hS hl hq)
theorem q_icmp_ge {μ : MI} {pc : Nat} {L st : List rV} {w : rW} {Q : List rV → rW → Prop} {a b : Int} {off : Int} (tgt : Nat) (hd : decode (mB μ) pc = .ok (.if_icmp .ge off, 3)) (ht : (pc : Int) + off = (tgt : Int)) (h1 : R32 a) (h2 : R32 b) (hp : b ≤ a → WP μ tgt L st w Q) (hn : a < b → WP μ (pc + 3) L st w Q) : WP μ pc L (vi b :: vi a :: st) w Q := by
  intro p l e R s m args below meth c D cI cC A H0 ad ls H locs cells slots QQ C hc hs hP hD hS hl hq
  have ef : fI b ≤ fI a ↔ b ≤ a := fI_le h2 h1
  exact lv_icmp_ge (x := fI a) (y := fI b) C.1 C.2.1 hd ht (fun q => hp (ef.mp q) p l e R s m args below meth c D cI cC A H0 ad ls H locs cells slots QQ C hc hs hP hD hS hl hq) (fun q => hn (Int.not_le.mp (fun z => q (ef.mpr z))) p l e R s m args below meth c D cI cC A H0 ad ls H locs cells slots QQ C hc hs hP hD hS hl hq)
theorem q_icmp_gt {μ : MI} {pc : Nat} {L st : List rV} {w : rW} {Q : List rV → rW → Prop} {a b : Int} {off : Int} (tgt : Nat) (hd : decode (mB μ) pc = .ok (.if_icmp .gt off, 3)) (ht : (pc : Int) + off = (tgt : Int)) (h1 : R32 a) (h2 : R32 b) (hp : b < a → WP μ tgt L st w Q) (hn : a ≤ b → WP μ (pc + 3) L st w Q) : WP μ pc L (vi b :: vi a :: st) w Q := by
  intro p l e R s m args below meth c D cI cC A H0 ad ls H locs cells slots QQ C hc hs hP hD hS hl hq
  have ef : fI b < fI a ↔ b < a := fI_lt h2 h1
  exact lv_icmp_gt (x := fI a) (y := fI b) C.1 C.2.1 hd ht (fun q => hp (ef.mp q) p l e R s m args below meth c D cI cC A H0 ad ls H locs cells slots QQ C hc hs hP hD hS hl hq) (fun q => hn (Int.not_lt.mp (fun z => q (ef.mpr z))) p l e R s m args below meth c D cI cC A H0 ad ls H locs cells slots QQ C hc hs hP hD hS hl hq)
theorem q_icmp_le {μ : MI} {pc : Nat} {L st : List rV} {w : rW} {Q : List rV → rW → Prop} {a b : Int} {off : Int} (tgt : Nat) (hd : decode (mB μ) pc = .ok (.if_icmp .le off, 3)) (ht : (pc : Int) + off = (tgt : Int)) (h1 : R32 a) (h2 : R32 b) (hp : a ≤ b → WP μ tgt L st w Q) (hn : b < a → WP μ (pc + 3) L st w Q) : WP μ pc L (vi b :: vi a :: st) w Q := by
  intro p l e R s m args below meth c D cI cC A H0 ad ls H locs cells slots QQ C hc hs hP hD hS hl hq
  have ef : fI a ≤ fI b ↔ a ≤ b := fI_le h1 h2
  exact lv_icmp_le (x := fI a) (y := fI b) C.1 C.2.1 hd ht (fun q => hp (ef.mp q) p l e R s m args below meth c D cI cC A H0 ad ls H locs cells slots QQ C hc hs hP hD hS hl hq) (fun q => hn (Int.not_le.mp (fun z => q (ef.mpr z))) p l e R s m args below meth c D cI cC A H0 ad ls H locs cells slots QQ C hc hs hP hD hS hl hq)
theorem q_if_eq {μ : MI} {pc : Nat} {L st : List rV} {w : rW} {Q : List rV → rW → Prop} {a : Int} {off : Int} (tgt : Nat) (hd : decode (mB μ) pc = .ok (.ifCond .eq off, 3)) (ht : (pc : Int) + off = (tgt : Int)) (h1 : R32 a) (hp : a = 0 → WP μ tgt L st w Q) (hn : ¬ a = 0 → WP μ (pc + 3) L st w Q) : WP μ pc L (vi a :: st) w Q := by
  intro p l e R s m args below meth c D cI cC A H0 ad ls H locs cells slots QQ C hc hs hP hD hS hl hq
  have ef : fI a = 0 ↔ a = 0 := fI_eq (b := 0) h1 (⟨by decide, by decide⟩ : R32 0)
  exact lv_if_eq (x := fI a) C.1 C.2.1 hd ht (fun q => hp (ef.mp q) p l e R s m args below meth c D cI cC A H0 ad ls H locs cells slots QQ C hc hs hP hD hS hl hq) (fun q => hn (fun z => q (ef.mpr z)) p l e R s m args below meth c D cI cC A H0 ad ls H locs cells slots QQ C hc hs hP hD hS hl hq)
theorem q_if_ne {μ : MI} {pc : Nat} {L st : List rV} {w : rW} {Q : List rV → rW → Prop} {a : Int} {off : Int} (tgt : Nat) (hd : decode (mB μ) pc = .ok (.ifCond .ne off, 3)) (ht : (pc : Int) + off = (tgt : Int)) (h1 : R32 a) (hp : ¬ a = 0 → WP μ tgt L st w Q) (hn : a = 0 → WP μ (pc + 3) L st w Q) : WP μ pc L (vi a :: st) w Q := by
  intro p l e R s m args below meth c D cI cC A H0 ad ls H locs cells slots QQ C hc hs hP hD hS hl hq
  have ef : fI a = 0 ↔ a = 0 := fI_eq (b := 0) h1 (⟨by decide, by decide⟩ : R32 0)
  exact lv_if_ne (x := fI a) C.1 C.2.1 hd ht (fun q => hp (fun z => q (ef.mpr z)) p l e R s m args below meth c D cI cC A H0 ad ls H locs cells slots QQ C hc hs hP hD hS hl hq) (fun q => hn (ef.mp q) p l e R s m args below meth c D cI cC A H0 ad ls H locs cells slots QQ C hc hs hP hD hS hl hq)
theorem q_if_lt {μ : MI} {pc : Nat} {L st : List rV} {w : rW} {Q : List rV → rW → Prop} {a : Int} {off : Int} (tgt : Nat) (hd : decode (mB μ) pc = .ok (.ifCond .lt off, 3)) (ht : (pc : Int) + off = (tgt : Int)) (h1 : R32 a) (hp : a < 0 → WP μ tgt L st w Q) (hn : 0 ≤ a → WP μ (pc + 3) L st w Q) : WP μ pc L (vi a :: st) w Q := by
  intro p l e R s m args below meth c D cI cC A H0 ad ls H locs cells slots QQ C hc hs hP hD hS hl hq
  have ef : fI a < 0 ↔ a < 0 := fI_lt (b := 0) h1 (⟨by decide, by decide⟩ : R32 0)
  exact lv_if_lt (x := fI a) C.1 C.2.1 hd ht (fun q => hp (ef.mp q) p l e R s m args below meth c D cI cC A H0 ad ls H locs cells slots QQ C hc hs hP hD hS hl hq) (fun q => hn (Int.not_lt.mp (fun z => q (ef.mpr z))) p l e R s m args below meth c D cI cC A H0 ad ls H locs cells slots QQ C hc hs hP hD hS hl hq)
theorem q_if_ge {μ : MI} {pc : Nat} {L st : List rV} {w : rW} {Q : List rV → rW → Prop} {a : Int} {off : Int} (tgt : Nat) (hd : decode (mB μ) pc = .ok (.ifCond .ge off, 3)) (ht : (pc : Int) + off = (tgt : Int)) (h1 : R32 a) (hp : 0 ≤ a → WP μ tgt L st w Q) (hn : a < 0 → WP μ (pc + 3) L st w Q) : WP μ pc L (vi a :: st) w Q := by
  intro p l e R s m args below meth c D cI cC A H0 ad ls H locs cells slots QQ C hc hs hP hD hS hl hq
  have ef : 0 ≤ fI a ↔ 0 ≤ a := fI_le (a := 0) (⟨by decide, by decide⟩ : R32 0) h1
  exact lv_if_ge (x := fI a) C.1 C.2.1 hd ht (fun q => hp (ef.mp q) p l e R s m args below meth c D cI cC A H0 ad ls H locs cells slots QQ C hc hs hP hD hS hl hq) (fun q => hn (Int.not_le.mp (fun z => q (ef.mpr z))) p l e R s m args below meth c D cI cC A H0 ad ls H locs cells slots QQ C hc hs hP hD hS hl hq)
theorem q_if_gt {μ : MI} {pc : Nat} {L st : List rV} {w : rW} {Q : List rV → rW → Prop} {a : Int} {off : Int} (tgt : Nat) (hd : decode (mB μ) pc = .ok (.ifCond .gt off, 3)) (ht : (pc : Int) + off = (tgt : Int)) (h1 : R32 a) (hp : 0 < a → WP μ tgt L st w Q) (hn : a ≤ 0 → WP μ (pc + 3) L st w Q) : WP μ pc L (vi a :: st) w Q := by
  intro p l e R s m args below meth c D cI cC A H0 ad ls H locs cells slots QQ C hc hs hP hD hS hl hq
  have ef : 0 < fI a ↔ 0 < a := fI_lt (a := 0) (⟨by decide, by decide⟩ : R32 0) h1
  exact lv_if_gt (x := fI a) C.1 C.2.1 hd ht (fun q => hp (ef.mp q) p l e R s m args below meth c D cI cC A H0 ad ls H locs cells slots QQ C hc hs hP hD hS hl hq) (fun q => hn (Int.not_lt.mp (fun z => q (ef.mpr z))) p l e R s m args below meth c D cI cC A H0 ad ls H locs cells slots QQ C hc hs hP hD hS hl hq)
theorem q_if_le {μ : MI} {pc : Nat} {L st : List rV} {w : rW} {Q : List rV → rW → Prop} {a : Int} {off : Int} (tgt : Nat) (hd : decode (mB μ) pc = .ok (.ifCond .le off, 3)) (ht : (pc : Int) + off = (tgt : Int)) (h1 : R32 a) (hp : a ≤ 0 → WP μ tgt L st w Q) (hn : 0 < a → WP μ (pc + 3) L st w Q) : WP μ pc L (vi a :: st) w Q := by
  intro p l e R s m args below meth c D cI cC A H0 ad ls H locs cells slots QQ C hc hs hP hD hS hl hq
  have ef : fI a ≤ 0 ↔ a ≤ 0 := fI_le (b := 0) h1 (⟨by decide, by decide⟩ : R32 0)
  exact lv_if_le (x := fI a) C.1 C.2.1 hd ht (fun q => hp (ef.mp q) p l e R s m args below meth c D cI cC A H0 ad ls H locs cells slots QQ C hc hs hP hD hS hl hq) (fun q => hn (Int.not_le.mp (fun z => q (ef.mpr z))) p l e R s m args below meth c D cI cC A H0 ad ls H locs cells slots QQ C hc hs hP hD hS hl hq)
theorem q_goto {μ : MI} {pc : Nat} {L st : List rV} {w : rW} {Q : List rV → rW → Prop} {off : Int} (tgt : Nat) (hd : decode (mB μ) pc = .ok (.goto off, 3)) (ht : (pc : Int) + off = (tgt : Int)) (h : WP μ tgt L st w Q) : WP μ pc L st w Q := by
  intro p l e R s m args below meth c D cI cC A H0 ad ls H locs cells slots QQ C hc hs hP hD hS hl hq
  have h := h p l e R s m args below meth c D cI cC A H0 ad ls H locs cells slots QQ C hc hs hP hD hS hl hq
  exact lv_goto C.1 C.2.1 hd ht h
theorem q_tbl {μ : MI} {pc : Nat} {L st : List rV} {w : rW} {Q : List rV → rW → Prop} {dflt lo hi : Int} {offs : Array Int} {len : Nat} {a : Int} (d : Nat) (hd : decode (mB μ) pc = .ok (.tableswitch dflt lo hi offs, len)) (ht : (pc : Int) + dflt = (d : Int)) (h1 : R32 a) (hin : lo ≤ a → a ≤ hi → ∃ (off : Int) (t : Nat), offs[(a - lo).toNat]? = some off ∧ (pc : Int) + off = (t : Int) ∧ WP μ t L st w Q) (hout : a < lo ∨ hi < a → WP μ d L st w Q) : WP μ pc L (vi a :: st) w Q := by
  intro p l e R s m args below meth c D cI cC A H0 ad ls H locs cells slots QQ C hc hs hP hD hS hl hq
  have ef := fI_t h1
  by_cases hr : a < lo ∨ hi < a
  · exact lv_tableOut (x := fI a) C.1 C.2.1 hd (by rw [ef]; exact hr) ht (hout hr p l e R s m args below meth c D cI cC A H0 ad ls H locs cells slots QQ C hc hs hP hD hS hl hq)
  · obtain ⟨off, t, g1, g2, g3⟩ := hin (by omega) (by omega)
    exact lv_tableIn (x := fI a) C.1 C.2.1 hd (by rw [ef]; omega) (by rw [ef]; omega) (by rw [ef]; exact g1) g2 (g3 p l e R s m args below meth c D cI cC A H0 ad ls H locs cells slots QQ C hc hs hP hD hS hl hq)
theorem q_forget {μ : MI} {pc : Nat} {L st : List rV} {w : rW} {Q : List rV → rW → Prop} (L' : List rV) (hf : ∀ (k : Nat) (v : rV), L'[k]? = some v → v.1 < 9 → L[k]? = some v) (h : WP μ pc L' st w Q) : WP μ pc L st w Q := by
  intro p l e R s m args below meth c D cI cC A H0 ad ls H locs cells slots QQ C hc hs hP hD hS hl hq
  exact h p l e R s m args below meth c D cI cC A H0 ad ls H locs cells slots QQ C hc hs hP hD hS (hl.forget hf) hq
/-- forgetting, as a program decides it -/
def fgt : List rV → List rV → Prop
  | [], _ => True
  | _ :: _, [] => False
  | v :: t, x :: y => (v = vu ∨ v = x) ∧ fgt t y
theorem fgt_at : ∀ {L' L : List rV}, fgt L' L → ∀ (k : Nat) (v : rV), L'[k]? = some v → v.1 < 9 → L[k]? = some v
  | [], _, _, k, v, h, _ => by simp at h
  | _ :: _, [], h, _, _, _, _ => h.elim
  | v0 :: t, x :: y, h, 0, v, hv, h9 => by
    simp only [List.getElem?_cons_zero] at hv ⊢
    cases hv
    rcases h.1 with q | q
    · rw [q] at h9; exact absurd h9 (by decide)
    · rw [q]
  | v0 :: t, x :: y, h, k + 1, v, hv, h9 => by
    simp only [List.getElem?_cons_succ] at hv ⊢
    exact fgt_at h.2 k v hv h9
theorem q_fgt {μ : MI} {pc : Nat} {L st : List rV} {w : rW} {Q : List rV → rW → Prop} (L' : List rV) (hf : fgt L' L) (h : WP μ pc L' st w Q) : WP μ pc L st w Q := q_forget L' (fgt_at hf) h
theorem q_get {μ : MI} {pc : Nat} {L st : List rV} {w : rW} {Q : List rV → rW → Prop} {r : Int} {index : Nat} (ci k : Nat) {C1 : String} {T1 : u_T} {N1 : Nat} {v : rV} (hd : decode (mB μ) pc = .ok (.getfield index, 3)) (ho : oc r = ci) (hc4 : ci ≤ 4) (hcl : vwCl[ci]? = some (C1, T1, N1)) (hin : ∀ w ∈ u_ws C1 T1 N1, w ∈ gT) (hk : k < N1) (href : (T1 k).1 = C1) (hlink : Cond.fieldLink (mN μ).cls index C1 (T1 k).2.1 (T1 k).2.2.1 ∈ gT) (hv : ∀ ad, (fl ad w r ci)[k]? = some (cv ad v)) (h : WP μ (pc + 3) L (v :: st) w Q) : WP μ pc L (vr r :: st) w Q := by
  intro p l e R s m args below meth c D cI cC A H0 ad ls H locs cells slots QQ C hc hs hP hD hS hl hq
  have h := h p l e R s m args below meth c D cI cC A H0 ad ls H locs cells slots QQ C hc hs hP hD hS hl hq
  obtain ⟨q0, hq0⟩ := oc_at (ad := ad) (cI := cI) (cC := cC) (w := w) ho hc4
  exact va_get C.1 C.2.1 C.2.2.2.2.1 hin C.2.2.2.1 C.2.2.2.2.2.2.2.1 hP q0 hq0 hcl k hk (C.2.2.2.2.1 _ hlink) (fun x hx => href ▸ hx) (hv ad) hd h
theorem q_getN {μ : MI} {pc : Nat} {L st : List rV} {w : rW} {Q : List rV → rW → Prop} {r : Int} {index : Nat} {host : String} (ci k : Nat) {C1 : String} {T1 : u_T} {N1 : Nat} {v : rV} (hd : decode (mB μ) pc = .ok (.getfield index, 3)) (ho : oc r = ci) (hc4 : ci ≤ 4) (hcl : vwCl[ci]? = some (C1, T1, N1)) (hin : ∀ w ∈ u_ws C1 T1 N1, w ∈ gT) (hk : k < N1) (href : (T1 k).1 = C1) (hlink : Cond.fieldLinkNest (mN μ).cls index C1 (T1 k).2.1 (T1 k).2.2.1 host ∈ gT) (hv : ∀ ad, (fl ad w r ci)[k]? = some (cv ad v)) (h : WP μ (pc + 3) L (v :: st) w Q) : WP μ pc L (vr r :: st) w Q := by
  intro p l e R s m args below meth c D cI cC A H0 ad ls H locs cells slots QQ C hc hs hP hD hS hl hq
  have h := h p l e R s m args below meth c D cI cC A H0 ad ls H locs cells slots QQ C hc hs hP hD hS hl hq
  obtain ⟨q0, hq0⟩ := oc_at (ad := ad) (cI := cI) (cC := cC) (w := w) ho hc4
  exact va_getN C.1 C.2.1 C.2.2.2.2.1 hin C.2.2.2.1 C.2.2.2.2.2.2.2.1 hP q0 hq0 hcl k hk (C.2.2.2.2.1 _ hlink) (fun x hx => href ▸ hx) (hv ad) hd h
theorem q_put {μ : MI} {pc : Nat} {L st : List rV} {w : rW} {Q : List rV → rW → Prop} {r a : Int} {index : Nat} {host : String} (ci k : Nat) {C1 : String} {T1 : u_T} {N1 : Nat} {ty1 : Nat → FieldType} {v : rV} (hd : decode (mB μ) pc = .ok (.putfield index, 3)) (hpt : ∀ (ad : Int → Nat) (cI cC : ClassId), ∃ q0 : Nat, (wl ad cI cC w)[q0]? = some (ad r, .inr (ci, fl ad w r ci)) ∧ (wl ad cI cC w).set q0 (ad r, .inr (ci, (fl ad w r ci).set k (cv ad v))) = wl ad cI cC (wset w r k a)) (hcl : vwCl[ci]? = some (C1, T1, N1)) (hin : ∀ w ∈ u_ws C1 T1 N1, w ∈ gT) (hty : ∀ k, k < N1 → parseFieldDescriptor (T1 k).2.2.1 = some (ty1 k)) (hnm : ∀ a, a < N1 → ∀ b, b < N1 → a ≠ b → (T1 a).2.1 ≠ (T1 b).2.1) (hk : k < N1) (href : (T1 k).1 = C1) (hfin : (T1 k).2.2.2 = false) (hlink : Cond.fieldLink (mN μ).cls index C1 (T1 k).2.1 (T1 k).2.2.1 ∈ gT) (hnf : ∀ ad, narrow (ty1 k) (cv ad v) = cv ad v ∧ fits (ty1 k) (cv ad v) = true) (hkl : ∀ ad, k < (fl ad w r ci).length) (h : WP μ (pc + 3) L st (wset w r k a) Q) : WP μ pc L (v :: vr r :: st) w Q := by
  intro p l e R s m args below meth c D cI cC A H0 ad ls H locs cells slots QQ C hc hs hP hD hS hl hq
  obtain ⟨q0, hq0, hset⟩ := hpt ad cI cC
  refine va_put C.1 C.2.1 C.2.2.2.2.1 hin ty1 hty hnm C.2.2.2.1 C.2.2.2.2.2.2.2.1 hP hD hS q0 hq0 hcl k hk (C.2.2.2.2.1 _ hlink) (fun x hx => href ▸ hx) hfin (hty k hk) (hnf ad).1 (hnf ad).2 (hkl ad) hd (fun H1 locs1 hP1 hD1 hS1 => ?_)
  rw [hset] at hP1 hD1
  exact h p l e R s m args below meth c D cI cC A H0 ad ls H1 locs1 cells slots QQ C hc hs hP1 hD1 hS1 hl hq
theorem q_putN {μ : MI} {pc : Nat} {L st : List rV} {w : rW} {Q : List rV → rW → Prop} {r a : Int} {index : Nat} {host : String} (ci k : Nat) {C1 : String} {T1 : u_T} {N1 : Nat} {ty1 : Nat → FieldType} {v : rV} (hd : decode (mB μ) pc = .ok (.putfield index, 3)) (hpt : ∀ (ad : Int → Nat) (cI cC : ClassId), ∃ q0 : Nat, (wl ad cI cC w)[q0]? = some (ad r, .inr (ci, fl ad w r ci)) ∧ (wl ad cI cC w).set q0 (ad r, .inr (ci, (fl ad w r ci).set k (cv ad v))) = wl ad cI cC (wset w r k a)) (hcl : vwCl[ci]? = some (C1, T1, N1)) (hin : ∀ w ∈ u_ws C1 T1 N1, w ∈ gT) (hty : ∀ k, k < N1 → parseFieldDescriptor (T1 k).2.2.1 = some (ty1 k)) (hnm : ∀ a, a < N1 → ∀ b, b < N1 → a ≠ b → (T1 a).2.1 ≠ (T1 b).2.1) (hk : k < N1) (href : (T1 k).1 = C1) (hfin : (T1 k).2.2.2 = false) (hlink : Cond.fieldLinkNest (mN μ).cls index C1 (T1 k).2.1 (T1 k).2.2.1 host ∈ gT) (hnf : ∀ ad, narrow (ty1 k) (cv ad v) = cv ad v ∧ fits (ty1 k) (cv ad v) = true) (hkl : ∀ ad, k < (fl ad w r ci).length) (h : WP μ (pc + 3) L st (wset w r k a) Q) : WP μ pc L (v :: vr r :: st) w Q := by
  intro p l e R s m args below meth c D cI cC A H0 ad ls H locs cells slots QQ C hc hs hP hD hS hl hq
  obtain ⟨q0, hq0, hset⟩ := hpt ad cI cC
  refine va_putN C.1 C.2.1 C.2.2.2.2.1 hin ty1 hty hnm C.2.2.2.1 C.2.2.2.2.2.2.2.1 hP hD hS q0 hq0 hcl k hk (C.2.2.2.2.1 _ hlink) (fun x hx => href ▸ hx) hfin (hty k hk) (hnf ad).1 (hnf ad).2 (hkl ad) hd (fun H1 locs1 hP1 hD1 hS1 => ?_)
  rw [hset] at hP1 hD1
  exact h p l e R s m args below meth c D cI cC A H0 ad ls H1 locs1 cells slots QQ C hc hs hP1 hD1 hS1 hl hq
theorem q_iald {μ : MI} {pc : Nat} {L st : List rV} {w : rW} {Q : List rV → rW → Prop} {r i : Int} (hd : decode (mB μ) pc = .ok (.iaload, 1)) (h0 : 0 ≤ i) (h1 : i < al r) (h : WP μ (pc + 1) L (vi (w r i) :: st) w Q) : WP μ pc L (vi i :: vr r :: st) w Q := by
  intro p l e R s m args below meth c D cI cC A H0 ad ls H locs cells slots QQ C hc hs hP hD hS hl hq
  have h := h p l e R s m args below meth c D cI cC A H0 ad ls H locs cells slots QQ C hc hs hP hD hS hl hq
  obtain ⟨q0, n, hn, h5, hq0⟩ := al_at (ad := ad) (cI := cI) (cC := cC) (w := w) h0 h1
  refine va_iald (i := fI i) C.1 C.2.1 C.2.2.2.2.2.2.2.1 hP q0 0 hq0 rfl (fI_in h0 (by omega) h5) hd ?_
  rw [fI_cl h0 (by omega)]
  have e : ((i.toNat : Nat) : Int) = i := Int.toNat_of_nonneg h0
  rw [e]
  exact h
theorem q_iast {μ : MI} {pc : Nat} {L st : List rV} {w : rW} {Q : List rV → rW → Prop} {r i a : Int} (hd : decode (mB μ) pc = .ok (.iastore, 1)) (h0 : 0 ≤ i) (h1 : i < al r) (h : WP μ (pc + 1) L st (wset w r i a) Q) : WP μ pc L (vi a :: vi i :: vr r :: st) w Q := by
  intro p l e R s m args below meth c D cI cC A H0 ad ls H locs cells slots QQ C hc hs hP hD hS hl hq
  obtain ⟨q0, n, hn, h5, hq0, hset⟩ := al_put (ad := ad) (cI := cI) (cC := cC) (w := w) h0 h1
  refine va_iast (i := fI i) (x := fI a) C.1 C.2.1 C.2.2.2.2.2.2.2.1 hP hD hS q0 0 hq0 rfl (fI_in h0 (by omega) h5) hd (fun H1 locs1 hP1 hD1 hS1 => ?_)
  rw [fI_cl h0 (by omega), hset] at hP1 hD1
  exact h p l e R s m args below meth c D cI cC A H0 ad ls H1 locs1 cells slots QQ C hc hs hP1 hD1 hS1 hl hq
theorem q_alen {μ : MI} {pc : Nat} {L st : List rV} {w : rW} {Q : List rV → rW → Prop} {r : Int} (hd : decode (mB μ) pc = .ok (.arraylength, 1)) (h0 : 0 < al r) (h : WP μ (pc + 1) L (vi (al r) :: st) w Q) : WP μ pc L (vr r :: st) w Q := by
  intro p l e R s m args below meth c D cI cC A H0 ad ls H locs cells slots QQ C hc hs hP hD hS hl hq
  have h := h p l e R s m args below meth c D cI cC A H0 ad ls H locs cells slots QQ C hc hs hP hD hS hl hq
  obtain ⟨q0, n, hn, h5, hq0⟩ := al_at (ad := ad) (cI := cI) (cC := cC) (w := w) (Int.le_refl 0) h0
  exact va_alen (v := fI (al r)) C.1 C.2.1 C.2.2.2.2.2.2.2.1 hP q0 0 hq0 (ty := .int) rfl (by rw [← hn]; rfl) hd h
theorem q_cald {μ : MI} {pc : Nat} {L st : List rV} {w : rW} {Q : List rV → rW → Prop} {i : Int} (hd : decode (mB μ) pc = .ok (.caload, 1)) (h0 : 0 ≤ i) (h1 : i < 60) (h : WP μ (pc + 1) L (vi (w 13 i) :: st) w Q) : WP μ pc L (vi i :: vr 13 :: st) w Q := by
  intro p l e R s m args below meth c D cI cC A H0 ad ls H locs cells slots QQ C hc hs hP hD hS hl hq
  have h := h p l e R s m args below meth c D cI cC A H0 ad ls H locs cells slots QQ C hc hs hP hD hS hl hq
  refine va_cald (i := fI i) (n := 60) (f := fun j : Nat => fI (w 13 j)) C.1 C.2.1 C.2.2.2.2.2.2.2.1 hP 13 1 rfl rfl (fI_in h0 (by omega) (by decide)) hd ?_
  rw [fI_cl h0 (by omega)]
  have e : ((i.toNat : Nat) : Int) = i := Int.toNat_of_nonneg h0
  rw [e]
  exact h
theorem q_cast {μ : MI} {pc : Nat} {L st : List rV} {w : rW} {Q : List rV → rW → Prop} {i a : Int} (hd : decode (mB μ) pc = .ok (.castore, 1)) (h0 : 0 ≤ i) (h1 : i < 60) (ha0 : 0 ≤ a) (ha1 : a < 65536) (h : WP μ (pc + 1) L st (wset w 13 i a) Q) : WP μ pc L (vi a :: vi i :: vr 13 :: st) w Q := by
  intro p l e R s m args below meth c D cI cC A H0 ad ls H locs cells slots QQ C hc hs hP hD hS hl hq
  refine va_cast (i := fI i) (x := fI a) (n := 60) (f := fun j : Nat => fI (w 13 j)) C.1 C.2.1 C.2.2.2.2.2.2.2.1 hP hD hS 13 1 rfl rfl (fI_in h0 (by omega) (by decide)) hd (fun H1 locs1 hP1 hD1 hS1 => ?_)
  have ev : vp_nar .char (fI a) = fI a := by
    rw [← fI_char ha0 ha1]
    exact pk_vc _
  rw [fI_cl h0 (by omega), ev, ch_put h0] at hP1 hD1
  exact h p l e R s m args below meth c D cI cC A H0 ad ls H1 locs1 cells slots QQ C hc hs hP1 hD1 hS1 hl hq
theorem cat_le {ad : Int → Nat} : ∀ {st : List rV}, ((st.map (cv ad)).map (fun v => v.category)).sum ≤ 2 * st.length
  | [] => Nat.le_refl _
  | v :: t => by
    have h := cat_le (ad := ad) (st := t)
    have h2 : (cv ad v).category ≤ 2 := by rcases lv_cat (cv ad v) with q | q <;> omega
    simp only [List.map_cons, List.sum_cons, List.length_cons]
    omega
theorem q_mmax {μ : MI} {pc : Nat} {L st : List rV} {w : rW} {Q : List rV → rW → Prop} {a b : Int} {index : Nat} (hd : decode (mB μ) pc = .ok (.invokestatic index, 3)) (w1 : Cond.methodLink (mN μ).cls index Lib.Math.max.name ∈ gT) (w2 : Cond.static Lib.Math.max.name ∈ gT) (w3 : Cond.initialized "java/lang/Math" ∈ gT) (w4 : Cond.code Lib.Math.max.name Lib.Math.max.code 2 (some .int) ∈ gT) (hf : 1 ≤ mF μ) (ho : 21 ≤ mO μ) (hst : st.length ≤ 4) (h1 : R32 a) (h2 : R32 b) (h : WP μ (pc + 3) L (vi (max a b) :: st) w Q) : WP μ pc L (vi b :: vi a :: st) w Q := by
  intro p l e R s m args below meth c D cI cC A H0 ad ls H locs cells slots QQ C hc hs hP hD hS hl hq
  have h := h p l e R s m args below meth c D cI cC A H0 ad ls H locs cells slots QQ C hc hs hP hD hS hl hq
  have hcat := cat_le (ad := ad) (st := st)
  refine va_mmax (x := fI a) (y := fI b) C.1 C.2.1 (C.2.2.1.trans hl.1.symm) C.2.2.2.1 (C.2.2.2.2.1 _ w1) (C.2.2.2.2.1 _ w2) (C.2.2.2.2.1 _ w3) (C.2.2.2.2.1 _ w4) (Nat.le_trans hf C.2.2.2.2.2.1) (by have := C.2.2.2.2.2.2.1; omega) hc hs hd ?_
  rw [show (if fI a < fI b then fI b else fI a) = fI (max a b) from by
    simp only [fI_lt h1 h2]
    split
    · rw [Int.max_eq_right (by omega)]
    · rw [Int.max_eq_left (by omega)]]
  exact h
theorem q_mmin {μ : MI} {pc : Nat} {L st : List rV} {w : rW} {Q : List rV → rW → Prop} {a b : Int} {index : Nat} (hd : decode (mB μ) pc = .ok (.invokestatic index, 3)) (w1 : Cond.methodLink (mN μ).cls index Lib.Math.min.name ∈ gT) (w2 : Cond.static Lib.Math.min.name ∈ gT) (w3 : Cond.initialized "java/lang/Math" ∈ gT) (w4 : Cond.code Lib.Math.min.name Lib.Math.min.code 2 (some .int) ∈ gT) (hf : 1 ≤ mF μ) (ho : 21 ≤ mO μ) (hst : st.length ≤ 4) (h1 : R32 a) (h2 : R32 b) (h : WP μ (pc + 3) L (vi (min a b) :: st) w Q) : WP μ pc L (vi b :: vi a :: st) w Q := by
  intro p l e R s m args below meth c D cI cC A H0 ad ls H locs cells slots QQ C hc hs hP hD hS hl hq
  have h := h p l e R s m args below meth c D cI cC A H0 ad ls H locs cells slots QQ C hc hs hP hD hS hl hq
  have hcat := cat_le (ad := ad) (st := st)
  refine va_mmin (x := fI a) (y := fI b) C.1 C.2.1 (C.2.2.1.trans hl.1.symm) C.2.2.2.1 (C.2.2.2.2.1 _ w1) (C.2.2.2.2.1 _ w2) (C.2.2.2.2.1 _ w3) (C.2.2.2.2.1 _ w4) (Nat.le_trans hf C.2.2.2.2.2.1) (by have := C.2.2.2.2.2.2.1; omega) hc hs hd ?_
  first
  | (rw [show (if fI b < fI a then fI b else fI a) = fI (min a b) from by
      simp only [fI_lt h2 h1]
      split
      · rw [Int.min_eq_right (by omega)]
      · rw [Int.min_eq_left (by omega)]]
     exact h)
  | (rw [show (if fI a < fI b then fI a else fI b) = fI (min a b) from by
      simp only [fI_lt h1 h2]
      split
      · rw [Int.min_eq_left (by omega)]
      · rw [Int.min_eq_right (by omega)]]
     exact h)
theorem q_mabs {μ : MI} {pc : Nat} {L st : List rV} {w : rW} {Q : List rV → rW → Prop} {a : Int} {index : Nat} (hd : decode (mB μ) pc = .ok (.invokestatic index, 3)) (w1 : Cond.methodLink (mN μ).cls index Lib.Math.abs.name ∈ gT) (w2 : Cond.static Lib.Math.abs.name ∈ gT) (w3 : Cond.initialized "java/lang/Math" ∈ gT) (w4 : Cond.code Lib.Math.abs.name Lib.Math.abs.code 1 (some .int) ∈ gT) (hf : 1 ≤ mF μ) (ho : 21 ≤ mO μ) (hst : st.length ≤ 4) (h1 : R32 a) (h : WP μ (pc + 3) L (vi (if 0 ≤ a then a else -a) :: st) w Q) : WP μ pc L (vi a :: st) w Q := by
  intro p l e R s m args below meth c D cI cC A H0 ad ls H locs cells slots QQ C hc hs hP hD hS hl hq
  have h := h p l e R s m args below meth c D cI cC A H0 ad ls H locs cells slots QQ C hc hs hP hD hS hl hq
  have hcat := cat_le (ad := ad) (st := st)
  refine va_mabs (x := fI a) C.1 C.2.1 (C.2.2.1.trans hl.1.symm) C.2.2.2.1 (C.2.2.2.2.1 _ w1) (C.2.2.2.2.1 _ w2) (C.2.2.2.2.1 _ w3) (C.2.2.2.2.1 _ w4) (Nat.le_trans hf C.2.2.2.2.2.1) (by have := C.2.2.2.2.2.2.1; omega) hc hs hd ?_
  rw [show (if 0 ≤ fI a then fI a else 0 - fI a) = fI (if 0 ≤ a then a else -a) from by
    have e := fI_le (⟨by decide, by decide⟩ : R32 0) h1
    rw [fI_0] at e
    simp only [e]
    split
    · rfl
    · rw [← fI_neg]; exact Int32.zero_sub _]
  exact h
theorem q_iret {μ : MI} {pc : Nat} {L st : List rV} {w : rW} {Q : List rV → rW → Prop} {a : Int} (hd : decode (mB μ) pc = .ok (.ireturn, 1)) (hr : mR μ = some .int) (h : Q [vi a] w) : WP μ pc L [vi a] w Q := by
  intro p l e R s m args below meth c D cI cC A H0 ad ls H locs cells slots QQ C hc hs hP hD hS hl hq
  exact hq _ w pc H locs ls h (Or.inr (Or.inl ⟨hr, ⟨a, rfl⟩, hd⟩)) hP hD hS
theorem q_zret {μ : MI} {pc : Nat} {L st : List rV} {w : rW} {Q : List rV → rW → Prop} {a : Int} (hd : decode (mB μ) pc = .ok (.ireturn, 1)) (hr : mR μ = some .boolean) (ha : a = 0 ∨ a = 1) (h : Q [vi a] w) : WP μ pc L [vi a] w Q := by
  intro p l e R s m args below meth c D cI cC A H0 ad ls H locs cells slots QQ C hc hs hP hD hS hl hq
  exact hq _ w pc H locs ls h (Or.inr (Or.inr (Or.inl ⟨hr, by rcases ha with rfl | rfl <;> simp, hd⟩))) hP hD hS
theorem q_lret {μ : MI} {pc : Nat} {L st : List rV} {w : rW} {Q : List rV → rW → Prop} {a : Int} (hd : decode (mB μ) pc = .ok (.lreturn, 1)) (hr : mR μ = some .long) (h : Q [vl a] w) : WP μ pc L [vl a] w Q := by
  intro p l e R s m args below meth c D cI cC A H0 ad ls H locs cells slots QQ C hc hs hP hD hS hl hq
  exact hq _ w pc H locs ls h (Or.inr (Or.inr (Or.inr (Or.inl ⟨hr, ⟨a, rfl⟩, hd⟩)))) hP hD hS
theorem q_aret {μ : MI} {pc : Nat} {L st : List rV} {w : rW} {Q : List rV → rW → Prop} {a : Int} {C1 : String} (hd : decode (mB μ) pc = .ok (.areturn, 1)) (hr : mR μ = some (.object C1)) (h : Q [vr a] w) : WP μ pc L [vr a] w Q := by
  intro p l e R s m args below meth c D cI cC A H0 ad ls H locs cells slots QQ C hc hs hP hD hS hl hq
  exact hq _ w pc H locs ls h (Or.inr (Or.inr (Or.inr (Or.inr ⟨⟨C1, hr⟩, ⟨a, rfl⟩, hd⟩)))) hP hD hS
theorem q_vret {μ : MI} {pc : Nat} {L st : List rV} {w : rW} {Q : List rV → rW → Prop} (hd : decode (mB μ) pc = .ok (.return_, 1)) (hr : mR μ = none) (h : Q [] w) : WP μ pc L [] w Q := by
  intro p l e R s m args below meth c D cI cC A H0 ad ls H locs cells slots QQ C hc hs hP hD hS hl hq
  exact hq _ w pc H locs ls h (Or.inl ⟨hr, rfl, hd⟩) hP hD hS
theorem arg_at {ad : Int → Nat} : ∀ {av : List rV} (i k : Nat) {v : rV}, (∀ x ∈ av, x.1 ≠ 2) → av[k]? = some v → (i + k, cv ad v) ∈ lv_args i (av.map (cv ad))
  | [], _, _, _, _, h => by simp at h
  | x :: t, i, 0, v, _, h => by
    simp only [List.getElem?_cons_zero] at h
    cases h
    exact List.mem_cons_self
  | x :: t, i, k + 1, v, ha, h => by
    simp only [List.getElem?_cons_succ] at h
    have h2 := arg_at (ad := ad) (i + 1) k (fun y hy => ha y (List.mem_cons_of_mem _ hy)) h
    have hc : ¬ (cv ad x).category = 2 := fun q => ha x List.mem_cons_self (cv_cat q)
    simp only [List.map_cons, lv_args, if_neg hc]
    rw [show i + (k + 1) = i + 1 + k from by omega]
    exact List.mem_cons_of_mem _ h2
theorem arg_len {ad : Int → Nat} : ∀ {av : List rV}, (∀ x ∈ av, x.1 ≠ 2) → (lg_sl (av.map (cv ad))).length = av.length
  | [], _ => rfl
  | x :: t, ha => by
    have h2 := arg_len (ad := ad) (fun y hy => ha y (List.mem_cons_of_mem x hy))
    have hc : ¬ (cv ad x).category = 2 := fun q => ha x List.mem_cons_self (cv_cat q)
    unfold lg_sl at h2 ⊢
    simp only [List.map_cons, List.flatMap_cons, if_neg hc, List.length_append, List.length_cons, List.length_nil]
    omega
theorem arg_L {ad : Int → Nat} {av : List rV} (n : Nat) (ha : ∀ x ∈ av, x.1 ≠ 2) (k : Nat) (v : rV) (h : (av ++ List.replicate n vu)[k]? = some v) (h9 : v.1 < 9) : (k, cv ad v) ∈ lv_args 0 (av.map (cv ad)) := by
  by_cases hk : k < av.length
  · rw [List.getElem?_append_left hk] at h
    have h2 := arg_at (ad := ad) 0 k ha h
    rwa [Nat.zero_add] at h2
  · rw [List.getElem?_append_right (by omega), List.getElem?_replicate] at h
    split at h
    · cases h; exact absurd h9 (by decide)
    · cases h
/-- what a call of a method wants of the tables and of the room -/
def mOk (μ : MI) (n : Nat) : Prop := plainName (mN μ).cls = true ∧ Cond.code (mN μ) (mB μ) (mL μ) (mR μ) ∈ gT ∧ Cond.initialized (mN μ).cls ∈ gT ∧ ((mN μ).cls ≠ "java/lang/invoke/MethodHandle" ∧ (mN μ).cls ≠ "java/lang/invoke/VarHandle" ∧ (parseMethodDescriptor (mN μ).desc).map (fun d => d.parameters.length) = some n)
abbrev rOk (μ μ' : MI) : Prop := mF μ' + 1 ≤ mF μ ∧ 8 + (mL μ' + 11) + mO μ' ≤ mO μ
theorem q_callV {μ : MI} {pc : Nat} {L st : List rV} {w : rW} {Q : List rV → rW → Prop} {r : Int} {index : Nat} {μ' : MI} {n : Nat} (ci : Nat) {T1 : u_T} {N1 : Nat} (av : List rV) (hd : decode (mB μ) pc = .ok (.invokevirtual index, 3)) (hm : mOk μ' n) (w1 : Cond.methodLink (mN μ).cls index (mN μ') ∈ gT) (w2 : Cond.instanceMethod (mN μ') ∈ gT) (w3 : Cond.selects (mN μ').cls (mN μ') (mN μ') ∈ gT) (hcl : vwCl[ci]? = some ((mN μ').cls, T1, N1)) (hc4 : ci ≤ 4) (ho : oc r = ci) (hroom : rOk μ μ') (hst : st.length ≤ 4) (hav : ∀ x ∈ av, x.1 ≠ 2) (hlen : av.length = n) (hl1 : av.length + 1 ≤ mL μ')
    (h : WP μ' 0 ((vr r :: av) ++ List.replicate (mL μ' - (av.length + 1)) vu) [] w (fun v w' => WP μ (pc + 3) L (v ++ st) w' Q)) : WP μ pc L (av.reverse ++ vr r :: st) w Q := by
  intro p l e R s m args below meth c D cI cC A H0 ad ls H locs cells slots QQ C hc hs hP hD hS hl hq
  obtain ⟨m1, m2, m3, m4⟩ := hm
  have hcat := cat_le (ad := ad) (st := st)
  have hts := C.2.2.2.2.1
  have ha2 : ∀ x ∈ (vr r :: av), x.1 ≠ 2 := fun x hx => by
    rcases List.mem_cons.mp hx with rfl | hx
    · show (1 : Nat) ≠ 2
      decide
    · exact hav x hx
  have hM := met_of (av := vr r :: av) m1 h l D cI cC ad H.size (by rw [arg_len ha2]; exact hl1) (arg_L _ ha2)
  obtain ⟨q0, hq0⟩ := oc_at (ad := ad) (cI := cI) (cC := cC) (w := w) ho hc4
  have hR : mF μ' + 1 ≤ R.frames ∧ 8 + (mL μ' + 11) + mO μ' ≤ R.locals := ⟨Nat.le_trans hroom.1 C.2.2.2.2.2.1, Nat.le_trans hroom.2 C.2.2.2.2.2.2.1⟩
  have hG : GoodIn gT (wsV (mN μ).cls index (mN μ').cls (mN μ') (wsT μ')) := fun x hx => by
    unfold wsV at hx
    rcases List.mem_append.mp hx with hx | hx
    · simp only [List.mem_cons, List.not_mem_nil, or_false] at hx
      rcases hx with rfl | rfl | rfl | rfl
      · exact gT_good _ w1
      · exact gT_good _ w2
      · exact gT_good _ w3
      · exact gT_good _ m3
    · exact wsT_good m2 x hx
  have hK := C.2.2.2.2.2.2.2.1
  have hrun := va_runV (p := p) (l := l) (e := e) (R := R) (below := below) (meth := meth) (locs := locs) (cells := cells) (slots := slots) (g := F0 m pc ls ((av.reverse ++ vr r :: st).map (cv ad))) (As := av.map (cv ad)) (rest := st.map (cv ad)) (nL := mL μ) (C := (mN μ').cls) (b := ad r) (index := index) (n := n) (mc := 0) (ms := 0) ⟨C.1, C.2.1, C.2.2.1, C.2.2.2.1, hts⟩ hM (cwV n hts hG rfl rfl rfl ⟨rfl, m4⟩ hR)
    ⟨PcT.blind, va_recv hK hP (ci := ci) (q := ((mN μ').cls, T1, N1)) (q0 := q0) hcl hq0, fun U hU hW => ⟨by simp [cv, vr], by rw [hU], by rw [hU]; exact hP, va_K.moved hW.alike hK, hD.weaken (fun _ _ _ _ => trivial)⟩⟩ rfl (by rw [List.length_map]; exact hlen) hl.1 (by simp [cv, vr]) (lv_room (by omega)) (by rw [← C.2.1] at *; exact hd) ⟨hc, hs⟩
  exact call_W hD hS C.2.2.2.2.2.2.2.2 hrun (fun v w' H1 locs1 hq1 hP1 hD1 hS1 => by
    have h2 := hq1 p l e R s m args below meth c D cI cC A H0 ad ls H1 locs1 cells slots QQ C hc hs hP1 hD1 hS1 hl hq
    rwa [List.map_append] at h2)
theorem q_callS {μ : MI} {pc : Nat} {L st : List rV} {w : rW} {Q : List rV → rW → Prop} {index : Nat} {host : String} {μ' : MI} {n : Nat} (av : List rV) (hd : decode (mB μ) pc = .ok (.invokestatic index, 3)) (hm : mOk μ' n) (w1 : Cond.methodLink (mN μ).cls index (mN μ') ∈ gT) (w2 : Cond.static (mN μ') ∈ gT) (hown1 : (mN μ').cls = (mN μ).cls) (hroom : rOk μ μ') (hst : st.length ≤ 4) (hav : ∀ x ∈ av, x.1 ≠ 2) (hlen : av.length = n) (hl1 : av.length ≤ mL μ')
    (h : WP μ' 0 (av ++ List.replicate (mL μ' - av.length) vu) [] w (fun v w' => WP μ (pc + 3) L (v ++ st) w' Q)) : WP μ pc L (av.reverse ++ st) w Q := by
  intro p l e R s m args below meth c D cI cC A H0 ad ls H locs cells slots QQ C hc hs hP hD hS hl hq
  obtain ⟨m1, m2, m3, m4⟩ := hm
  have hcat := cat_le (ad := ad) (st := st)
  have hts := C.2.2.2.2.1
  have hM := met_of (av := av) m1 h l D cI cC ad H.size (by rw [arg_len hav]; exact hl1) (arg_L _ hav)
  have hR : mF μ' + 1 ≤ R.frames ∧ 8 + (mL μ' + 11) + mO μ' ≤ R.locals := ⟨Nat.le_trans hroom.1 C.2.2.2.2.2.1, Nat.le_trans hroom.2 C.2.2.2.2.2.2.1⟩
  have hG : GoodIn gT (wsS (mN μ).cls index (mN μ') (wsT μ')) := fun x hx => by
    unfold wsS at hx
    rcases List.mem_append.mp hx with hx | hx
    · simp only [List.mem_cons, List.not_mem_nil, or_false] at hx
      rcases hx with rfl | rfl | rfl
      · exact gT_good _ w1
      · exact gT_good _ w2
      · exact gT_good _ (hown1 ▸ m3)
    · exact wsT_good m2 x hx
  have hK := C.2.2.2.2.2.2.2.1
  have hrun := va_runS (p := p) (l := l) (e := e) (R := R) (below := below) (meth := meth) (locs := locs) (cells := cells) (slots := slots) (g := F0 m pc ls ((av.reverse ++ st).map (cv ad))) (As := av.map (cv ad)) (rest := st.map (cv ad)) (nL := mL μ) (index := index) (n := n) (mc := 0) (ms := 0) ⟨C.1, C.2.1, C.2.2.1, C.2.2.2.1, hts⟩ hM (cwS n hts hG rfl rfl rfl ⟨hown1, m4⟩ hR)
    ⟨PcT.blind, fun U hU hW => ⟨rfl, by rw [hU], by rw [hU]; exact hP, va_K.moved hW.alike hK, hD.weaken (fun _ _ _ _ => trivial)⟩⟩ rfl (by rw [List.length_map]; exact hlen) hl.1 (by simp) (lv_room (by omega)) (by rw [← C.2.1] at *; exact hd) ⟨hc, hs⟩
  exact call_W hD hS C.2.2.2.2.2.2.2.2 hrun (fun v w' H1 locs1 hq1 hP1 hD1 hS1 => by
    have h2 := hq1 p l e R s m args below meth c D cI cC A H0 ad ls H1 locs1 cells slots QQ C hc hs hP1 hD1 hS1 hl hq
    rwa [List.map_append] at h2)
theorem q_callSN {μ : MI} {pc : Nat} {L st : List rV} {w : rW} {Q : List rV → rW → Prop} {index : Nat} {host : String} {μ' : MI} {n : Nat} (av : List rV) (hd : decode (mB μ) pc = .ok (.invokestatic index, 3)) (hm : mOk μ' n) (w1 : Cond.methodLinkNest (mN μ).cls index (mN μ') host ∈ gT) (w2 : Cond.static (mN μ') ∈ gT) (hroom : rOk μ μ') (hst : st.length ≤ 4) (hav : ∀ x ∈ av, x.1 ≠ 2) (hlen : av.length = n) (hl1 : av.length ≤ mL μ')
    (h : WP μ' 0 (av ++ List.replicate (mL μ' - av.length) vu) [] w (fun v w' => WP μ (pc + 3) L (v ++ st) w' Q)) : WP μ pc L (av.reverse ++ st) w Q := by
  intro p l e R s m args below meth c D cI cC A H0 ad ls H locs cells slots QQ C hc hs hP hD hS hl hq
  obtain ⟨m1, m2, m3, m4⟩ := hm
  have hcat := cat_le (ad := ad) (st := st)
  have hts := C.2.2.2.2.1
  have hM := met_of (av := av) m1 h l D cI cC ad H.size (by rw [arg_len hav]; exact hl1) (arg_L _ hav)
  have hR : mF μ' + 1 ≤ R.frames ∧ 8 + (mL μ' + 11) + mO μ' ≤ R.locals := ⟨Nat.le_trans hroom.1 C.2.2.2.2.2.1, Nat.le_trans hroom.2 C.2.2.2.2.2.2.1⟩
  have hK := C.2.2.2.2.2.2.2.1
  have hrun := va_runSN (p := p) (l := l) (e := e) (R := R) (below := below) (meth := meth) (locs := locs) (cells := cells) (slots := slots) (g := F0 m pc ls ((av.reverse ++ st).map (cv ad))) (As := av.map (cv ad)) (rest := st.map (cv ad)) (nL := mL μ) (index := index) (n := n) (mc := 0) (ms := 0) ⟨C.1, C.2.1, C.2.2.1, C.2.2.2.1, hts⟩ hM ⟨va_cnB n hts (wsT_good m2) rfl rfl rfl (va_Nw.of rfl (hts _ w1)) (hts _ m3) m4 hR, hts _ w2, trivial⟩
    ⟨PcT.blind, fun U hU hW => ⟨rfl, by rw [hU], by rw [hU]; exact hP, va_K.moved hW.alike hK, hD.weaken (fun _ _ _ _ => trivial)⟩⟩ rfl (by rw [List.length_map]; exact hlen) hl.1 (by simp) (lv_room (by omega)) (by rw [← C.2.1] at *; exact hd) ⟨hc, hs⟩
  exact call_W hD hS C.2.2.2.2.2.2.2.2 hrun (fun v w' H1 locs1 hq1 hP1 hD1 hS1 => by
    have h2 := hq1 p l e R s m args below meth c D cI cC A H0 ad ls H1 locs1 cells slots QQ C hc hs hP1 hD1 hS1 hl hq
    rwa [List.map_append] at h2)
end
