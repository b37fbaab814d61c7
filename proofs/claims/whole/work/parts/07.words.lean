theorem avk {av : List rV} (h : av.all (fun x => x.1 != 2) = true) : ∀ x ∈ av, x.1 ≠ 2 := fun x hx q => by
  have h2 := List.all_eq_true.mp h x hx
  rw [q] at h2
  exact absurd h2 (by decide)
theorem q_caldR {μ : MI} {pc : Nat} {L st : List rV} {w : rW} {Q : List rV → rW → Prop} {r i : Int} (hd : decode (mB μ) pc = .ok (.caload, 1)) (hr : r = 13) (h0 : 0 ≤ i) (h1 : i < 60) (h : WP μ (pc + 1) L (vi (w 13 i) :: st) w Q) : WP μ pc L (vi i :: vr r :: st) w Q := by
  subst hr; exact q_cald hd h0 h1 h
theorem q_castR {μ : MI} {pc : Nat} {L st : List rV} {w : rW} {Q : List rV → rW → Prop} {r i a : Int} (hd : decode (mB μ) pc = .ok (.castore, 1)) (hr : r = 13) (h0 : 0 ≤ i) (h1 : i < 60) (ha0 : 0 ≤ a) (ha1 : a < 65536) (h : WP μ (pc + 1) L st (wset w 13 i a) Q) : WP μ pc L (vi a :: vi i :: vr r :: st) w Q := by
  subst hr; exact q_cast hd h0 h1 ha0 ha1 h
theorem k_0 : Cond.code yX0_keep cX0_keep 4 none ∈ gT := gT_in (List.mem_append_right _ (List.mem_of_getElem? (i := 103) (by decide +kernel))) rfl
theorem k_1 : Cond.initialized RX0 ∈ gT := gT_in (List.mem_append_right _ (List.mem_of_getElem? (i := 3) (by decide +kernel))) rfl
theorem k_2 : Cond.code yX0_restore cX0_restore 4 none ∈ gT := gT_in (List.mem_append_right _ (List.mem_of_getElem? (i := 361) (by decide +kernel))) rfl
theorem k_3 : Cond.code yX0_startOf cX0_startOf 2 (some .int) ∈ gT := gT_in (List.mem_append_right _ (List.mem_of_getElem? (i := 107) (by decide +kernel))) rfl
theorem k_4 : Cond.code yX1_numberAt cX1_numberAt 2 (some .int) ∈ gT := gT_in (List.mem_append_right _ (List.mem_of_getElem? (i := 115) (by decide +kernel))) rfl
theorem k_5 : Cond.initialized RX1 ∈ gT := gT_in (List.mem_append_right _ (List.mem_of_getElem? (i := 2) (by decide +kernel))) rfl
theorem k_6 : Cond.code yX1_put cX1_put 3 none ∈ gT := gT_in (List.mem_append_right _ (List.mem_of_getElem? (i := 127) (by decide +kernel))) rfl
theorem k_7 : Cond.code yX1_insert cX1_insert 4 (some .int) ∈ gT := gT_in (List.mem_append_right _ (List.mem_of_getElem? (i := 119) (by decide +kernel))) rfl
theorem k_8 : Cond.code yX1_remove cX1_remove 4 (some .int) ∈ gT := gT_in (List.mem_append_right _ (List.mem_of_getElem? (i := 135) (by decide +kernel))) rfl
theorem k_9 : Cond.code yX1_dropRepeated cX1_dropRepeated 4 none ∈ gT := gT_in (List.mem_append_right _ (List.mem_of_getElem? (i := 174) (by decide +kernel))) rfl
theorem k_10 : Cond.code yX1_countLess cX1_countLess 3 (some .int) ∈ gT := gT_in (List.mem_append_right _ (List.mem_of_getElem? (i := 123) (by decide +kernel))) rfl
theorem k_11 : Cond.code yX1_timesOf cX1_timesOf 2 (some .int) ∈ gT := gT_in (List.mem_append_right _ (List.mem_of_getElem? (i := 170) (by decide +kernel))) rfl
theorem k_12 : Cond.code yX1_holds cX1_holds 2 (some .boolean) ∈ gT := gT_in (List.mem_append_right _ (List.mem_of_getElem? (i := 166) (by decide +kernel))) rfl
theorem k_13 : Cond.code yX1_isNew cX1_isNew 2 (some .boolean) ∈ gT := gT_in (List.mem_append_right _ (List.mem_of_getElem? (i := 156) (by decide +kernel))) rfl
theorem k_14 : Cond.code yX1_unlike cX1_unlike 3 (some .int) ∈ gT := gT_in (List.mem_append_right _ (List.mem_of_getElem? (i := 152) (by decide +kernel))) rfl
theorem k_15 : Cond.code yX1_width cX1_width 1 (some .int) ∈ gT := gT_in (List.mem_append_right _ (List.mem_of_getElem? (i := 193) (by decide +kernel))) rfl
theorem k_16 : Cond.code yX1_zeros cX1_zeros 1 (some .int) ∈ gT := gT_in (List.mem_append_right _ (List.mem_of_getElem? (i := 204) (by decide +kernel))) rfl
theorem k_17 : Cond.code yX1_upperLength cX1_upperLength 1 (some .int) ∈ gT := gT_in (List.mem_append_right _ (List.mem_of_getElem? (i := 200) (by decide +kernel))) rfl
theorem k_18 : Cond.code yX1_bits cX1_bits 1 (some .int) ∈ gT := gT_in (List.mem_append_right _ (List.mem_of_getElem? (i := 212) (by decide +kernel))) rfl
theorem k_19 : Cond.code yX1_upperPart cX1_upperPart 2 (some .int) ∈ gT := gT_in (List.mem_append_right _ (List.mem_of_getElem? (i := 246) (by decide +kernel))) rfl
theorem k_20 : Cond.code yX1_lowerPart cX1_lowerPart 2 (some .int) ∈ gT := gT_in (List.mem_append_right _ (List.mem_of_getElem? (i := 256) (by decide +kernel))) rfl
theorem k_21 : Cond.code yX1_placeOfOne cX1_placeOfOne 2 (some .int) ∈ gT := gT_in (List.mem_append_right _ (List.mem_of_getElem? (i := 242) (by decide +kernel))) rfl
theorem k_22 : Cond.code yX1_placeOfZero cX1_placeOfZero 2 (some .int) ∈ gT := gT_in (List.mem_append_right _ (List.mem_of_getElem? (i := 268) (by decide +kernel))) rfl
theorem k_23 : Cond.code yX1_hasOneAt cX1_hasOneAt 3 (some .boolean) ∈ gT := gT_in (List.mem_append_right _ (List.mem_of_getElem? (i := 238) (by decide +kernel))) rfl
theorem k_24 : Cond.code yX1_workToNext cX1_workToNext 7 (some .int) ∈ gT := gT_in (List.mem_append_right _ (List.mem_of_getElem? (i := 289) (by decide +kernel))) rfl
theorem k_25 : Cond.code yX1_lowerWord cX1_lowerWord 9 (some .long) ∈ gT := gT_in (List.mem_append_right _ (List.mem_of_getElem? (i := 279) (by decide +kernel))) rfl
theorem k_26 : Cond.code yX1_stepBehind cX1_stepBehind 2 (some .int) ∈ gT := gT_in (List.mem_append_right _ (List.mem_of_getElem? (i := 228) (by decide +kernel))) rfl
theorem k_27 : Cond.code yX1_greatestStep cX1_greatestStep 3 (some .int) ∈ gT := gT_in (List.mem_append_right _ (List.mem_of_getElem? (i := 224) (by decide +kernel))) rfl
theorem k_28 : Cond.code yX1_indexOfGap cX1_indexOfGap 3 (some .int) ∈ gT := gT_in (List.mem_append_right _ (List.mem_of_getElem? (i := 344) (by decide +kernel))) rfl
theorem k_29 : Cond.code yX1_gapsAhead cX1_gapsAhead 5 (some .int) ∈ gT := gT_in (List.mem_append_right _ (List.mem_of_getElem? (i := 348) (by decide +kernel))) rfl
theorem k_30 : Cond.code yX1_saveTo cX1_saveTo 4 none ∈ gT := gT_in (List.mem_append_right _ (List.mem_of_getElem? (i := 111) (by decide +kernel))) rfl
theorem k_31 : Cond.code yX1_loadFrom cX1_loadFrom 4 none ∈ gT := gT_in (List.mem_append_right _ (List.mem_of_getElem? (i := 365) (by decide +kernel))) rfl
theorem k_32 : Cond.code yX2_append cX2_append 2 none ∈ gT := gT_in (List.mem_append_right _ (List.mem_of_getElem? (i := 373) (by decide +kernel))) rfl
theorem k_33 : Cond.initialized RX2 ∈ gT := gT_in (List.mem_append_right _ (List.mem_of_getElem? (i := 4) (by decide +kernel))) rfl
theorem k_34 : Cond.code yX2_characterAt cX2_characterAt 2 (some .int) ∈ gT := gT_in (List.mem_append_right _ (List.mem_of_getElem? (i := 389) (by decide +kernel))) rfl
theorem k_35 : Cond.code yX2_isDigit cX2_isDigit 1 (some .boolean) ∈ gT := gT_in (List.mem_append_right _ (List.mem_of_getElem? (i := 392) (by decide +kernel))) rfl
theorem k_36 : Cond.code yX2_endsNumber cX2_endsNumber 2 (some .boolean) ∈ gT := gT_in (List.mem_append_right _ (List.mem_of_getElem? (i := 397) (by decide +kernel))) rfl
theorem k_37 : Cond.code yX2_firstFault cX2_firstFault 9 (some .int) ∈ gT := gT_in (List.mem_append_right _ (List.mem_of_getElem? (i := 385) (by decide +kernel))) rfl
theorem k_38 : Cond.code yX2_fill cX2_fill 4 none ∈ gT := gT_in (List.mem_append_right _ (List.mem_of_getElem? (i := 405) (by decide +kernel))) rfl
theorem k_39 : Cond.code yX3_add cX3_add 4 (some .int) ∈ gT := gT_in (List.mem_append_right _ (List.mem_of_getElem? (i := 82) (by decide +kernel))) rfl
theorem k_40 : Cond.initialized RX3 ∈ gT := gT_in (List.mem_append_right _ (List.mem_of_getElem? (i := 1) (by decide +kernel))) rfl
theorem k_41 : Cond.code yX3_drop cX3_drop 4 (some .int) ∈ gT := gT_in (List.mem_append_right _ (List.mem_of_getElem? (i := 131) (by decide +kernel))) rfl
theorem k_42 : Cond.code yX3_bound cX3_bound 5 (some .int) ∈ gT := gT_in (List.mem_append_right _ (List.mem_of_getElem? (i := 139) (by decide +kernel))) rfl
theorem k_43 : Cond.code yX3_join cX3_join 5 (some .int) ∈ gT := gT_in (List.mem_append_right _ (List.mem_of_getElem? (i := 144) (by decide +kernel))) rfl
theorem k_44 : Cond.code yX3_exchange cX3_exchange 2 (some .int) ∈ gT := gT_in (List.mem_append_right _ (List.mem_of_getElem? (i := 181) (by decide +kernel))) rfl
theorem k_45 : Cond.code yX3_clear cX3_clear 4 (some .int) ∈ gT := gT_in (List.mem_append_right _ (List.mem_of_getElem? (i := 185) (by decide +kernel))) rfl
theorem k_46 : Cond.code yX3_rowOf cX3_rowOf 4 (some .int) ∈ gT := gT_in (List.mem_append_right _ (List.mem_of_getElem? (i := 189) (by decide +kernel))) rfl
theorem k_47 : Cond.code yX3_upperBit cX3_upperBit 4 (some .int) ∈ gT := gT_in (List.mem_append_right _ (List.mem_of_getElem? (i := 233) (by decide +kernel))) rfl
theorem k_48 : Cond.code yX3_partOf cX3_partOf 6 (some .int) ∈ gT := gT_in (List.mem_append_right _ (List.mem_of_getElem? (i := 251) (by decide +kernel))) rfl
theorem k_49 : Cond.code yX3_sample cX3_sample 6 (some .int) ∈ gT := gT_in (List.mem_append_right _ (List.mem_of_getElem? (i := 264) (by decide +kernel))) rfl
theorem k_50 : Cond.code yX3_lowerBits cX3_lowerBits 4 (some .long) ∈ gT := gT_in (List.mem_append_right _ (List.mem_of_getElem? (i := 272) (by decide +kernel))) rfl
theorem k_51 : Cond.code yX3_next cX3_next 6 (some .int) ∈ gT := gT_in (List.mem_append_right _ (List.mem_of_getElem? (i := 285) (by decide +kernel))) rfl
theorem k_52 : Cond.code yX3_below cX3_below 3 (some .int) ∈ gT := gT_in (List.mem_append_right _ (List.mem_of_getElem? (i := 296) (by decide +kernel))) rfl
theorem k_53 : Cond.code yX3_common cX3_common 2 (some .int) ∈ gT := gT_in (List.mem_append_right _ (List.mem_of_getElem? (i := 300) (by decide +kernel))) rfl
theorem k_54 : Cond.code yX3_perNumber cX3_perNumber 3 (some .int) ∈ gT := gT_in (List.mem_append_right _ (List.mem_of_getElem? (i := 323) (by decide +kernel))) rfl
theorem k_55 : Cond.code yX3_bestBound cX3_bestBound 5 (some .int) ∈ gT := gT_in (List.mem_append_right _ (List.mem_of_getElem? (i := 332) (by decide +kernel))) rfl
theorem k_56 : Cond.code yX3_gapOf cX3_gapOf 6 (some .int) ∈ gT := gT_in (List.mem_append_right _ (List.mem_of_getElem? (i := 340) (by decide +kernel))) rfl
theorem k_57 : Cond.code yX3_count cX3_count 2 (some .int) ∈ gT := gT_in (List.mem_append_right _ (List.mem_of_getElem? (i := 353) (by decide +kernel))) rfl
theorem k_58 : Cond.code yX3_undo cX3_undo 1 (some .int) ∈ gT := gT_in (List.mem_append_right _ (List.mem_of_getElem? (i := 357) (by decide +kernel))) rfl
theorem k_59 : Cond.code yX3_type cX3_type 2 (some .int) ∈ gT := gT_in (List.mem_append_right _ (List.mem_of_getElem? (i := 369) (by decide +kernel))) rfl
theorem k_60 : Cond.code yX3_clearText cX3_clearText 2 (some .int) ∈ gT := gT_in (List.mem_append_right _ (List.mem_of_getElem? (i := 377) (by decide +kernel))) rfl
theorem k_61 : Cond.code yX3_fault cX3_fault 4 (some .int) ∈ gT := gT_in (List.mem_append_right _ (List.mem_of_getElem? (i := 381) (by decide +kernel))) rfl
theorem k_62 : Cond.code yX3_read cX3_read 3 (some .int) ∈ gT := gT_in (List.mem_append_right _ (List.mem_of_getElem? (i := 401) (by decide +kernel))) rfl
theorem k_63 : Cond.code yX3_isWithin cX3_isWithin 3 (some .boolean) ∈ gT := gT_in (List.mem_append_right _ (List.mem_of_getElem? (i := 88) (by decide +kernel))) rfl
theorem k_64 : Cond.code yX3_isRow cX3_isRow 1 (some .boolean) ∈ gT := gT_in (List.mem_append_right _ (List.mem_of_getElem? (i := 85) (by decide +kernel))) rfl
theorem k_65 : Cond.code yX3_rowAt cX3_rowAt 2 (some (.object "RisingParts$Row")) ∈ gT := gT_in (List.mem_append_right _ (List.mem_of_getElem? (i := 93) (by decide +kernel))) rfl
theorem k_66 : Cond.code yX3_remember cX3_remember 1 none ∈ gT := gT_in (List.mem_append_right _ (List.mem_of_getElem? (i := 99) (by decide +kernel))) rfl
theorem k_67 : Cond.code yX3_samplesOf cX3_samplesOf 1 (some .int) ∈ gT := gT_in (List.mem_append_right _ (List.mem_of_getElem? (i := 219) (by decide +kernel))) rfl
theorem k_68 : Cond.code yX3_sampledAhead cX3_sampledAhead 1 (some .int) ∈ gT := gT_in (List.mem_append_right _ (List.mem_of_getElem? (i := 260) (by decide +kernel))) rfl
theorem k_69 : Cond.code yX3_widthFor cX3_widthFor 4 (some .int) ∈ gT := gT_in (List.mem_append_right _ (List.mem_of_getElem? (i := 196) (by decide +kernel))) rfl
theorem k_70 : Cond.code yX3_zerosFor cX3_zerosFor 3 (some .int) ∈ gT := gT_in (List.mem_append_right _ (List.mem_of_getElem? (i := 207) (by decide +kernel))) rfl
theorem k_71 : Cond.code yX3_bitsFor cX3_bitsFor 2 (some .int) ∈ gT := gT_in (List.mem_append_right _ (List.mem_of_getElem? (i := 215) (by decide +kernel))) rfl
theorem k_72 : Cond.code yX3_lowestBestBound cX3_lowestBestBound 1 (some .int) ∈ gT := gT_in (List.mem_append_right _ (List.mem_of_getElem? (i := 335) (by decide +kernel))) rfl
theorem k_73 : Cond.code yX3_bitsOfFloat cX3_bitsOfFloat 3 (some .int) ∈ gT := gT_in (List.mem_append_right _ (List.mem_of_getElem? (i := 326) (by decide +kernel))) rfl
theorem k_74 : Cond.code yX3_joinedSize cX3_joinedSize 2 (some .int) ∈ gT := gT_in (List.mem_append_right _ (List.mem_of_getElem? (i := 148) (by decide +kernel))) rfl
theorem k_75 : Cond.code yX3_commonUnlike cX3_commonUnlike 3 (some .int) ∈ gT := gT_in (List.mem_append_right _ (List.mem_of_getElem? (i := 160) (by decide +kernel))) rfl
theorem k_76 : Cond.code yX3_commonRepeated cX3_commonRepeated 4 (some .int) ∈ gT := gT_in (List.mem_append_right _ (List.mem_of_getElem? (i := 304) (by decide +kernel))) rfl
theorem k_77 : Cond.code yX3_leastCommon cX3_leastCommon 3 (some .int) ∈ gT := gT_in (List.mem_append_right _ (List.mem_of_getElem? (i := 312) (by decide +kernel))) rfl
theorem k_78 : Cond.code yX3_leastDifference cX3_leastDifference 4 (some .int) ∈ gT := gT_in (List.mem_append_right _ (List.mem_of_getElem? (i := 316) (by decide +kernel))) rfl
theorem k_79 : Cond.code yX4_in cX4_in 3 (some .boolean) ∈ gT := gT_in (List.mem_append_right _ (List.mem_of_getElem? (i := 469) (by decide +kernel))) rfl
theorem k_80 : Cond.initialized RX4 ∈ gT := gT_in (List.mem_append_right _ (List.mem_of_getElem? (i := 5) (by decide +kernel))) rfl
theorem k_81 : Cond.code yX4_many cX4_many 2 (some .int) ∈ gT := gT_in (List.mem_append_right _ (List.mem_of_getElem? (i := 475) (by decide +kernel))) rfl
theorem k_82 : Cond.code yX4_number cX4_number 3 (some .int) ∈ gT := gT_in (List.mem_append_right _ (List.mem_of_getElem? (i := 488) (by decide +kernel))) rfl
theorem k_83 : Cond.code yX4_keeps cX4_keeps 2 none ∈ gT := gT_in (List.mem_append_right _ (List.mem_of_getElem? (i := 480) (by decide +kernel))) rfl
theorem k_84 : Cond.code yX4_acted cX4_acted 3 (some .int) ∈ gT := gT_in (List.mem_append_right _ (List.mem_of_getElem? (i := 492) (by decide +kernel))) rfl
theorem k_85 : Cond.code yX4_less cX4_less 4 (some .int) ∈ gT := gT_in (List.mem_append_right _ (List.mem_of_getElem? (i := 484) (by decide +kernel))) rfl
theorem k_86 : Cond.code yX4_add cX4_add 5 (some .int) ∈ gT := gT_in (List.mem_append_right _ (List.mem_of_getElem? (i := 466) (by decide +kernel))) rfl
theorem k_87 : Cond.code yX4_drop cX4_drop 5 (some .int) ∈ gT := gT_in (List.mem_append_right _ (List.mem_of_getElem? (i := 496) (by decide +kernel))) rfl
theorem k_88 : Cond.code yX4_bound cX4_bound 4 (some .int) ∈ gT := gT_in (List.mem_append_right _ (List.mem_of_getElem? (i := 500) (by decide +kernel))) rfl
theorem k_89 : Cond.code yX4_join cX4_join 7 (some .int) ∈ gT := gT_in (List.mem_append_right _ (List.mem_of_getElem? (i := 504) (by decide +kernel))) rfl
theorem k_90 : Cond.code yX4_exchange cX4_exchange 2 (some .int) ∈ gT := gT_in (List.mem_append_right _ (List.mem_of_getElem? (i := 508) (by decide +kernel))) rfl
theorem k_91 : Cond.code yX4_clear cX4_clear 3 (some .int) ∈ gT := gT_in (List.mem_append_right _ (List.mem_of_getElem? (i := 512) (by decide +kernel))) rfl
theorem k_92 : Cond.code yX4_widthOf cX4_widthOf 3 (some .int) ∈ gT := gT_in (List.mem_append_right _ (List.mem_of_getElem? (i := 526) (by decide +kernel))) rfl
theorem k_93 : Cond.code yX4_width cX4_width 2 (some .int) ∈ gT := gT_in (List.mem_append_right _ (List.mem_of_getElem? (i := 534) (by decide +kernel))) rfl
theorem k_94 : Cond.code yX4_upperBits cX4_upperBits 3 (some .int) ∈ gT := gT_in (List.mem_append_right _ (List.mem_of_getElem? (i := 523) (by decide +kernel))) rfl
theorem k_95 : Cond.code yX4_sizeOf cX4_sizeOf 2 (some .int) ∈ gT := gT_in (List.mem_append_right _ (List.mem_of_getElem? (i := 541) (by decide +kernel))) rfl
theorem k_96 : Cond.code yX4_size cX4_size 2 (some .int) ∈ gT := gT_in (List.mem_append_right _ (List.mem_of_getElem? (i := 538) (by decide +kernel))) rfl
theorem k_97 : Cond.code yX4_placeOf cX4_placeOf 3 (some .int) ∈ gT := gT_in (List.mem_append_right _ (List.mem_of_getElem? (i := 530) (by decide +kernel))) rfl
theorem k_98 : Cond.code yX4_lays cX4_lays 3 none ∈ gT := gT_in (List.mem_append_right _ (List.mem_of_getElem? (i := 520) (by decide +kernel))) rfl
theorem k_99 : Cond.code yX4_unlike cX4_unlike 4 (some .int) ∈ gT := gT_in (List.mem_append_right _ (List.mem_of_getElem? (i := 545) (by decide +kernel))) rfl
theorem k_100 : Cond.code yX4_greatestGap cX4_greatestGap 5 (some .int) ∈ gT := gT_in (List.mem_append_right _ (List.mem_of_getElem? (i := 549) (by decide +kernel))) rfl
theorem k_101 : Cond.code yX4_rowOf cX4_rowOf 3 (some .int) ∈ gT := gT_in (List.mem_append_right _ (List.mem_of_getElem? (i := 516) (by decide +kernel))) rfl
theorem k_102 : Cond.code yX4_upperBit cX4_upperBit 3 (some .int) ∈ gT := gT_in (List.mem_append_right _ (List.mem_of_getElem? (i := 553) (by decide +kernel))) rfl
theorem k_103 : Cond.code yX4_lower cX4_lower 3 (some .int) ∈ gT := gT_in (List.mem_append_right _ (List.mem_of_getElem? (i := 562) (by decide +kernel))) rfl
theorem k_104 : Cond.code yX4_partOf cX4_partOf 4 (some .int) ∈ gT := gT_in (List.mem_append_right _ (List.mem_of_getElem? (i := 558) (by decide +kernel))) rfl
theorem k_105 : Cond.code yX4_sample cX4_sample 5 (some .int) ∈ gT := gT_in (List.mem_append_right _ (List.mem_of_getElem? (i := 566) (by decide +kernel))) rfl
theorem k_106 : Cond.code yX4_lowerBits cX4_lowerBits 9 (some .long) ∈ gT := gT_in (List.mem_append_right _ (List.mem_of_getElem? (i := 570) (by decide +kernel))) rfl
theorem k_107 : Cond.code yX4_finds cX4_finds 8 none ∈ gT := gT_in (List.mem_append_right _ (List.mem_of_getElem? (i := 581) (by decide +kernel))) rfl
theorem k_108 : Cond.code yX4_next cX4_next 4 (some .int) ∈ gT := gT_in (List.mem_append_right _ (List.mem_of_getElem? (i := 577) (by decide +kernel))) rfl
theorem k_109 : Cond.code yX4_below cX4_below 3 (some .int) ∈ gT := gT_in (List.mem_append_right _ (List.mem_of_getElem? (i := 585) (by decide +kernel))) rfl
theorem k_110 : Cond.code yX4_has cX4_has 4 (some .boolean) ∈ gT := gT_in (List.mem_append_right _ (List.mem_of_getElem? (i := 593) (by decide +kernel))) rfl
theorem k_111 : Cond.code yX4_times cX4_times 3 (some .int) ∈ gT := gT_in (List.mem_append_right _ (List.mem_of_getElem? (i := 597) (by decide +kernel))) rfl
theorem k_112 : Cond.code yX4_difference cX4_difference 5 (some .int) ∈ gT := gT_in (List.mem_append_right _ (List.mem_of_getElem? (i := 601) (by decide +kernel))) rfl
theorem k_113 : Cond.code yX4_common cX4_common 10 (some .int) ∈ gT := gT_in (List.mem_append_right _ (List.mem_of_getElem? (i := 589) (by decide +kernel))) rfl
theorem k_114 : Cond.code yX4_quotient cX4_quotient 11 (some .int) ∈ gT := gT_in (List.mem_append_right _ (List.mem_of_getElem? (i := 608) (by decide +kernel))) rfl
theorem k_115 : Cond.code yX4_perNumber cX4_perNumber 2 (some .int) ∈ gT := gT_in (List.mem_append_right _ (List.mem_of_getElem? (i := 605) (by decide +kernel))) rfl
theorem k_116 : Cond.code yX4_bestBound cX4_bestBound 6 (some .int) ∈ gT := gT_in (List.mem_append_right _ (List.mem_of_getElem? (i := 614) (by decide +kernel))) rfl
theorem k_117 : Cond.code yX4_gapOf cX4_gapOf 9 (some .int) ∈ gT := gT_in (List.mem_append_right _ (List.mem_of_getElem? (i := 618) (by decide +kernel))) rfl
theorem k_118 : Cond.code yX4_count cX4_count 2 (some .int) ∈ gT := gT_in (List.mem_append_right _ (List.mem_of_getElem? (i := 622) (by decide +kernel))) rfl
theorem k_119 : Cond.code yX4_undo cX4_undo 2 (some .int) ∈ gT := gT_in (List.mem_append_right _ (List.mem_of_getElem? (i := 626) (by decide +kernel))) rfl
theorem k_120 : Cond.code yX4_type cX4_type 2 (some .int) ∈ gT := gT_in (List.mem_append_right _ (List.mem_of_getElem? (i := 630) (by decide +kernel))) rfl
theorem k_121 : Cond.code yX4_clearText cX4_clearText 2 (some .int) ∈ gT := gT_in (List.mem_append_right _ (List.mem_of_getElem? (i := 634) (by decide +kernel))) rfl
theorem k_122 : Cond.code yX4_sign cX4_sign 2 (some .int) ∈ gT := gT_in (List.mem_append_right _ (List.mem_of_getElem? (i := 646) (by decide +kernel))) rfl
theorem k_123 : Cond.code yX4_wrong cX4_wrong 3 (some .int) ∈ gT := gT_in (List.mem_append_right _ (List.mem_of_getElem? (i := 650) (by decide +kernel))) rfl
theorem k_124 : Cond.code yX4_faulty cX4_faulty 7 (some .int) ∈ gT := gT_in (List.mem_append_right _ (List.mem_of_getElem? (i := 642) (by decide +kernel))) rfl
theorem k_125 : Cond.code yX4_fault cX4_fault 4 (some .int) ∈ gT := gT_in (List.mem_append_right _ (List.mem_of_getElem? (i := 638) (by decide +kernel))) rfl
theorem k_126 : Cond.code yX4_read cX4_read 3 (some .int) ∈ gT := gT_in (List.mem_append_right _ (List.mem_of_getElem? (i := 654) (by decide +kernel))) rfl
theorem k_127 : Cond.fieldLink RX0 19 "RisingParts$History" "size" "I" ∈ gT := gT_in (List.mem_append_right _ (List.mem_of_getElem? (i := 43) (by decide +kernel))) rfl
theorem k_128 : Cond.fieldLink RX0 15 "RisingParts$History" "oldest" "I" ∈ gT := gT_in (List.mem_append_right _ (List.mem_of_getElem? (i := 42) (by decide +kernel))) rfl
theorem k_129 : Cond.methodLink RX0 22 yX0_startOf ∈ gT := gT_in (List.mem_append_right _ (List.mem_of_getElem? (i := 104) (by decide +kernel))) rfl
theorem k_130 : Cond.instanceMethod yX0_startOf ∈ gT := gT_in (List.mem_append_right _ (List.mem_of_getElem? (i := 106) (by decide +kernel))) rfl
theorem k_131 : Cond.selects RX0 yX0_startOf yX0_startOf ∈ gT := gT_in (List.mem_append_left _ (List.mem_of_getElem? (i := 2) (by decide +kernel))) rfl
theorem k_132 : Cond.fieldLink RX0 9 "RisingParts$History" "cells" "[I" ∈ gT := gT_in (List.mem_append_right _ (List.mem_of_getElem? (i := 41) (by decide +kernel))) rfl
theorem k_133 : Cond.methodLink RX0 26 yX1_saveTo ∈ gT := gT_in (List.mem_append_right _ (List.mem_of_getElem? (i := 108) (by decide +kernel))) rfl
theorem k_134 : Cond.instanceMethod yX1_saveTo ∈ gT := gT_in (List.mem_append_right _ (List.mem_of_getElem? (i := 109) (by decide +kernel))) rfl
theorem k_135 : Cond.selects RX1 yX1_saveTo yX1_saveTo ∈ gT := gT_in (List.mem_append_right _ (List.mem_of_getElem? (i := 110) (by decide +kernel))) rfl
theorem k_136 : Cond.methodLink RX0 32 yX1_loadFrom ∈ gT := gT_in (List.mem_append_right _ (List.mem_of_getElem? (i := 362) (by decide +kernel))) rfl
theorem k_137 : Cond.instanceMethod yX1_loadFrom ∈ gT := gT_in (List.mem_append_right _ (List.mem_of_getElem? (i := 363) (by decide +kernel))) rfl
theorem k_138 : Cond.selects RX1 yX1_loadFrom yX1_loadFrom ∈ gT := gT_in (List.mem_append_right _ (List.mem_of_getElem? (i := 364) (by decide +kernel))) rfl
theorem k_139 : Cond.fieldLink RX1 15 "RisingParts$Row" "size" "I" ∈ gT := gT_in (List.mem_append_right _ (List.mem_of_getElem? (i := 22) (by decide +kernel))) rfl
theorem k_140 : Cond.fieldLink RX1 9 "RisingParts$Row" "numbers" "[I" ∈ gT := gT_in (List.mem_append_right _ (List.mem_of_getElem? (i := 21) (by decide +kernel))) rfl
theorem k_141 : Cond.methodLink RX1 22 yX1_countLess ∈ gT := gT_in (List.mem_append_right _ (List.mem_of_getElem? (i := 120) (by decide +kernel))) rfl
theorem k_142 : Cond.instanceMethod yX1_countLess ∈ gT := gT_in (List.mem_append_right _ (List.mem_of_getElem? (i := 121) (by decide +kernel))) rfl
theorem k_143 : Cond.selects RX1 yX1_countLess yX1_countLess ∈ gT := gT_in (List.mem_append_right _ (List.mem_of_getElem? (i := 122) (by decide +kernel))) rfl
theorem k_144 : Cond.methodLink RX1 26 yX1_numberAt ∈ gT := gT_in (List.mem_append_right _ (List.mem_of_getElem? (i := 112) (by decide +kernel))) rfl
theorem k_145 : Cond.instanceMethod yX1_numberAt ∈ gT := gT_in (List.mem_append_right _ (List.mem_of_getElem? (i := 113) (by decide +kernel))) rfl
theorem k_146 : Cond.selects RX1 yX1_numberAt yX1_numberAt ∈ gT := gT_in (List.mem_append_right _ (List.mem_of_getElem? (i := 114) (by decide +kernel))) rfl
theorem k_147 : Cond.methodLink RX1 29 yX1_put ∈ gT := gT_in (List.mem_append_right _ (List.mem_of_getElem? (i := 124) (by decide +kernel))) rfl
theorem k_148 : Cond.instanceMethod yX1_put ∈ gT := gT_in (List.mem_append_right _ (List.mem_of_getElem? (i := 126) (by decide +kernel))) rfl
theorem k_149 : Cond.selects RX1 yX1_put yX1_put ∈ gT := gT_in (List.mem_append_left _ (List.mem_of_getElem? (i := 3) (by decide +kernel))) rfl
theorem k_150 : Cond.methodLink RX1 33 yX1_timesOf ∈ gT := gT_in (List.mem_append_right _ (List.mem_of_getElem? (i := 167) (by decide +kernel))) rfl
theorem k_151 : Cond.instanceMethod yX1_timesOf ∈ gT := gT_in (List.mem_append_right _ (List.mem_of_getElem? (i := 168) (by decide +kernel))) rfl
theorem k_152 : Cond.selects RX1 yX1_timesOf yX1_timesOf ∈ gT := gT_in (List.mem_append_right _ (List.mem_of_getElem? (i := 169) (by decide +kernel))) rfl
theorem k_153 : Cond.methodLink RX1 36 yX1_isNew ∈ gT := gT_in (List.mem_append_right _ (List.mem_of_getElem? (i := 153) (by decide +kernel))) rfl
theorem k_154 : Cond.instanceMethod yX1_isNew ∈ gT := gT_in (List.mem_append_right _ (List.mem_of_getElem? (i := 154) (by decide +kernel))) rfl
theorem k_155 : Cond.selects RX1 yX1_isNew yX1_isNew ∈ gT := gT_in (List.mem_append_right _ (List.mem_of_getElem? (i := 155) (by decide +kernel))) rfl
theorem k_156 : Cond.fieldLink RX1 19 "RisingParts$Row" "bound" "I" ∈ gT := gT_in (List.mem_append_right _ (List.mem_of_getElem? (i := 25) (by decide +kernel))) rfl
theorem k_157 : (RX1, 40, yX3_widthFor, "RisingParts") ∈ gNM := List.mem_of_getElem? (i := 0) rfl
theorem k_158 : Cond.static yX3_widthFor ∈ gT := gT_in (List.mem_append_right _ (List.mem_of_getElem? (i := 195) (by decide +kernel))) rfl
theorem k_159 : (RX1, 44, yX3_zerosFor, "RisingParts") ∈ gNM := List.mem_of_getElem? (i := 1) rfl
theorem k_160 : Cond.static yX3_zerosFor ∈ gT := gT_in (List.mem_append_right _ (List.mem_of_getElem? (i := 206) (by decide +kernel))) rfl
theorem k_161 : Cond.methodLink RX1 47 yX1_zeros ∈ gT := gT_in (List.mem_append_right _ (List.mem_of_getElem? (i := 201) (by decide +kernel))) rfl
theorem k_162 : Cond.instanceMethod yX1_zeros ∈ gT := gT_in (List.mem_append_right _ (List.mem_of_getElem? (i := 202) (by decide +kernel))) rfl
theorem k_163 : Cond.selects RX1 yX1_zeros yX1_zeros ∈ gT := gT_in (List.mem_append_right _ (List.mem_of_getElem? (i := 203) (by decide +kernel))) rfl
theorem k_164 : (RX1, 51, yX3_bitsFor, "RisingParts") ∈ gNM := List.mem_of_getElem? (i := 2) rfl
theorem k_165 : Cond.static yX3_bitsFor ∈ gT := gT_in (List.mem_append_right _ (List.mem_of_getElem? (i := 214) (by decide +kernel))) rfl
theorem k_166 : Cond.methodLink RX1 54 yX1_width ∈ gT := gT_in (List.mem_append_right _ (List.mem_of_getElem? (i := 247) (by decide +kernel))) rfl
theorem k_167 : Cond.instanceMethod yX1_width ∈ gT := gT_in (List.mem_append_right _ (List.mem_of_getElem? (i := 191) (by decide +kernel))) rfl
theorem k_168 : Cond.selects RX1 yX1_width yX1_width ∈ gT := gT_in (List.mem_append_right _ (List.mem_of_getElem? (i := 192) (by decide +kernel))) rfl
theorem k_169 : Cond.methodLink RX1 57 yX1_upperPart ∈ gT := gT_in (List.mem_append_right _ (List.mem_of_getElem? (i := 243) (by decide +kernel))) rfl
theorem k_170 : Cond.instanceMethod yX1_upperPart ∈ gT := gT_in (List.mem_append_right _ (List.mem_of_getElem? (i := 244) (by decide +kernel))) rfl
theorem k_171 : Cond.selects RX1 yX1_upperPart yX1_upperPart ∈ gT := gT_in (List.mem_append_right _ (List.mem_of_getElem? (i := 245) (by decide +kernel))) rfl
theorem k_172 : Cond.methodLink RX1 60 yX1_placeOfOne ∈ gT := gT_in (List.mem_append_right _ (List.mem_of_getElem? (i := 239) (by decide +kernel))) rfl
theorem k_173 : Cond.instanceMethod yX1_placeOfOne ∈ gT := gT_in (List.mem_append_right _ (List.mem_of_getElem? (i := 240) (by decide +kernel))) rfl
theorem k_174 : Cond.selects RX1 yX1_placeOfOne yX1_placeOfOne ∈ gT := gT_in (List.mem_append_right _ (List.mem_of_getElem? (i := 241) (by decide +kernel))) rfl
theorem k_175 : Cond.methodLink RX1 63 yX1_placeOfZero ∈ gT := gT_in (List.mem_append_right _ (List.mem_of_getElem? (i := 290) (by decide +kernel))) rfl
theorem k_176 : Cond.instanceMethod yX1_placeOfZero ∈ gT := gT_in (List.mem_append_right _ (List.mem_of_getElem? (i := 266) (by decide +kernel))) rfl
theorem k_177 : Cond.selects RX1 yX1_placeOfZero yX1_placeOfZero ∈ gT := gT_in (List.mem_append_right _ (List.mem_of_getElem? (i := 267) (by decide +kernel))) rfl
theorem k_178 : (RX1, 66, yX3_sampledAhead, "RisingParts") ∈ gNM := List.mem_of_getElem? (i := 3) rfl
theorem k_179 : Cond.static yX3_sampledAhead ∈ gT := gT_in (List.mem_append_right _ (List.mem_of_getElem? (i := 259) (by decide +kernel))) rfl
theorem k_180 : Cond.methodLink RX1 69 yX1_upperLength ∈ gT := gT_in (List.mem_append_right _ (List.mem_of_getElem? (i := 292) (by decide +kernel))) rfl
theorem k_181 : Cond.instanceMethod yX1_upperLength ∈ gT := gT_in (List.mem_append_right _ (List.mem_of_getElem? (i := 198) (by decide +kernel))) rfl
theorem k_182 : Cond.selects RX1 yX1_upperLength yX1_upperLength ∈ gT := gT_in (List.mem_append_right _ (List.mem_of_getElem? (i := 199) (by decide +kernel))) rfl
theorem k_183 : Cond.methodLink RX1 72 yX1_lowerPart ∈ gT := gT_in (List.mem_append_right _ (List.mem_of_getElem? (i := 280) (by decide +kernel))) rfl
theorem k_184 : Cond.instanceMethod yX1_lowerPart ∈ gT := gT_in (List.mem_append_right _ (List.mem_of_getElem? (i := 254) (by decide +kernel))) rfl
theorem k_185 : Cond.selects RX1 yX1_lowerPart yX1_lowerPart ∈ gT := gT_in (List.mem_append_right _ (List.mem_of_getElem? (i := 255) (by decide +kernel))) rfl
theorem k_186 : Cond.constantLong RX1 75 (4294967295) ∈ gT := gT_in (List.mem_append_right _ (List.mem_of_getElem? (i := 281) (by decide +kernel))) rfl
theorem k_187 : Cond.methodLink RX1 77 yX1_stepBehind ∈ gT := gT_in (List.mem_append_right _ (List.mem_of_getElem? (i := 225) (by decide +kernel))) rfl
theorem k_188 : Cond.instanceMethod yX1_stepBehind ∈ gT := gT_in (List.mem_append_right _ (List.mem_of_getElem? (i := 226) (by decide +kernel))) rfl
theorem k_189 : Cond.selects RX1 yX1_stepBehind yX1_stepBehind ∈ gT := gT_in (List.mem_append_right _ (List.mem_of_getElem? (i := 227) (by decide +kernel))) rfl
theorem k_190 : Cond.methodLink RX1 80 Lib.Math.max.name ∈ gT := gT_in (List.mem_append_right _ (List.mem_of_getElem? (i := 229) (by decide +kernel))) rfl
theorem k_191 : Cond.static Lib.Math.max.name ∈ gT := gT_in (List.mem_append_right _ (List.mem_of_getElem? (i := 176) (by decide +kernel))) rfl
theorem k_192 : Cond.initialized "java/lang/Math" ∈ gT := gT_in (List.mem_append_right _ (List.mem_of_getElem? (i := 6) (by decide +kernel))) rfl
theorem k_193 : Cond.code Lib.Math.max.name Lib.Math.max.code 2 (some .int) ∈ gT := gT_in (List.mem_append_right _ (List.mem_of_getElem? (i := 177) (by decide +kernel))) rfl
theorem k_194 : Cond.methodLink RX1 85 yX1_gapsAhead ∈ gT := gT_in (List.mem_append_right _ (List.mem_of_getElem? (i := 345) (by decide +kernel))) rfl
theorem k_195 : Cond.instanceMethod yX1_gapsAhead ∈ gT := gT_in (List.mem_append_right _ (List.mem_of_getElem? (i := 347) (by decide +kernel))) rfl
theorem k_196 : Cond.selects RX1 yX1_gapsAhead yX1_gapsAhead ∈ gT := gT_in (List.mem_append_left _ (List.mem_of_getElem? (i := 9) (by decide +kernel))) rfl
theorem k_197 : Cond.fieldLink RX2 15 "RisingParts$Text" "length" "I" ∈ gT := gT_in (List.mem_append_right _ (List.mem_of_getElem? (i := 59) (by decide +kernel))) rfl
theorem k_198 : Cond.fieldLink RX2 9 "RisingParts$Text" "characters" "[I" ∈ gT := gT_in (List.mem_append_right _ (List.mem_of_getElem? (i := 58) (by decide +kernel))) rfl
theorem k_199 : (RX2, 19, yX3_isWithin, "RisingParts") ∈ gNM := List.mem_of_getElem? (i := 4) rfl
theorem k_200 : Cond.static yX3_isWithin ∈ gT := gT_in (List.mem_append_right _ (List.mem_of_getElem? (i := 87) (by decide +kernel))) rfl
theorem k_201 : Cond.methodLink RX2 23 yX2_characterAt ∈ gT := gT_in (List.mem_append_right _ (List.mem_of_getElem? (i := 386) (by decide +kernel))) rfl
theorem k_202 : Cond.instanceMethod yX2_characterAt ∈ gT := gT_in (List.mem_append_right _ (List.mem_of_getElem? (i := 388) (by decide +kernel))) rfl
theorem k_203 : Cond.selects RX2 yX2_characterAt yX2_characterAt ∈ gT := gT_in (List.mem_append_left _ (List.mem_of_getElem? (i := 10) (by decide +kernel))) rfl
theorem k_204 : Cond.methodLink RX2 27 yX2_isDigit ∈ gT := gT_in (List.mem_append_right _ (List.mem_of_getElem? (i := 390) (by decide +kernel))) rfl
theorem k_205 : Cond.static yX2_isDigit ∈ gT := gT_in (List.mem_append_right _ (List.mem_of_getElem? (i := 391) (by decide +kernel))) rfl
theorem k_206 : Cond.methodLink RX2 31 yX2_endsNumber ∈ gT := gT_in (List.mem_append_right _ (List.mem_of_getElem? (i := 394) (by decide +kernel))) rfl
theorem k_207 : Cond.instanceMethod yX2_endsNumber ∈ gT := gT_in (List.mem_append_right _ (List.mem_of_getElem? (i := 396) (by decide +kernel))) rfl
theorem k_208 : Cond.selects RX2 yX2_endsNumber yX2_endsNumber ∈ gT := gT_in (List.mem_append_left _ (List.mem_of_getElem? (i := 11) (by decide +kernel))) rfl
theorem k_209 : (RX2, 34, "RisingParts$Row", "size", "I", "RisingParts") ∈ gNF := List.mem_of_getElem? (i := 1) rfl
theorem k_210 : Cond.methodLink RX2 39 yX1_insert ∈ gT := gT_in (List.mem_append_right _ (List.mem_of_getElem? (i := 406) (by decide +kernel))) rfl
theorem k_211 : Cond.instanceMethod yX1_insert ∈ gT := gT_in (List.mem_append_right _ (List.mem_of_getElem? (i := 117) (by decide +kernel))) rfl
theorem k_212 : Cond.selects RX1 yX1_insert yX1_insert ∈ gT := gT_in (List.mem_append_right _ (List.mem_of_getElem? (i := 118) (by decide +kernel))) rfl
theorem k_213 : Cond.methodLink RX3 33 yX3_isRow ∈ gT := gT_in (List.mem_append_right _ (List.mem_of_getElem? (i := 83) (by decide +kernel))) rfl
theorem k_214 : Cond.static yX3_isRow ∈ gT := gT_in (List.mem_append_right _ (List.mem_of_getElem? (i := 84) (by decide +kernel))) rfl
theorem k_215 : Cond.methodLink RX3 37 yX3_isWithin ∈ gT := gT_in (List.mem_append_right _ (List.mem_of_getElem? (i := 86) (by decide +kernel))) rfl
theorem k_216 : Cond.constant RX3 41 (-1000001) ∈ gT := gT_in (List.mem_append_right _ (List.mem_of_getElem? (i := 89) (by decide +kernel))) rfl
theorem k_217 : Cond.methodLink RX3 42 yX3_rowAt ∈ gT := gT_in (List.mem_append_right _ (List.mem_of_getElem? (i := 90) (by decide +kernel))) rfl
theorem k_218 : Cond.instanceMethod yX3_rowAt ∈ gT := gT_in (List.mem_append_right _ (List.mem_of_getElem? (i := 92) (by decide +kernel))) rfl
theorem k_219 : Cond.selects RX3 yX3_rowAt yX3_rowAt ∈ gT := gT_in (List.mem_append_left _ (List.mem_of_getElem? (i := 0) (by decide +kernel))) rfl
theorem k_220 : (RX3, 46, "RisingParts$Row", "bound", "I", "RisingParts") ∈ gNF := List.mem_of_getElem? (i := 2) rfl
theorem k_221 : Cond.constant RX3 50 (-1000002) ∈ gT := gT_in (List.mem_append_right _ (List.mem_of_getElem? (i := 94) (by decide +kernel))) rfl
theorem k_222 : (RX3, 51, "RisingParts$Row", "size", "I", "RisingParts") ∈ gNF := List.mem_of_getElem? (i := 0) rfl
theorem k_223 : Cond.constant RX3 54 (-1000003) ∈ gT := gT_in (List.mem_append_right _ (List.mem_of_getElem? (i := 95) (by decide +kernel))) rfl
theorem k_224 : Cond.methodLink RX3 55 yX3_remember ∈ gT := gT_in (List.mem_append_right _ (List.mem_of_getElem? (i := 96) (by decide +kernel))) rfl
theorem k_225 : Cond.instanceMethod yX3_remember ∈ gT := gT_in (List.mem_append_right _ (List.mem_of_getElem? (i := 98) (by decide +kernel))) rfl
theorem k_226 : Cond.selects RX3 yX3_remember yX3_remember ∈ gT := gT_in (List.mem_append_left _ (List.mem_of_getElem? (i := 1) (by decide +kernel))) rfl
theorem k_227 : Cond.methodLink RX3 58 yX1_insert ∈ gT := gT_in (List.mem_append_right _ (List.mem_of_getElem? (i := 116) (by decide +kernel))) rfl
theorem k_228 : Cond.methodLink RX3 62 yX1_remove ∈ gT := gT_in (List.mem_append_right _ (List.mem_of_getElem? (i := 132) (by decide +kernel))) rfl
theorem k_229 : Cond.instanceMethod yX1_remove ∈ gT := gT_in (List.mem_append_right _ (List.mem_of_getElem? (i := 133) (by decide +kernel))) rfl
theorem k_230 : Cond.selects RX1 yX1_remove yX1_remove ∈ gT := gT_in (List.mem_append_right _ (List.mem_of_getElem? (i := 134) (by decide +kernel))) rfl
theorem k_231 : Cond.methodLink RX3 65 yX1_countLess ∈ gT := gT_in (List.mem_append_right _ (List.mem_of_getElem? (i := 140) (by decide +kernel))) rfl
theorem k_232 : Cond.methodLink RX3 68 yX3_joinedSize ∈ gT := gT_in (List.mem_append_right _ (List.mem_of_getElem? (i := 145) (by decide +kernel))) rfl
theorem k_233 : Cond.instanceMethod yX3_joinedSize ∈ gT := gT_in (List.mem_append_right _ (List.mem_of_getElem? (i := 147) (by decide +kernel))) rfl
theorem k_234 : Cond.selects RX3 yX3_joinedSize yX3_joinedSize ∈ gT := gT_in (List.mem_append_left _ (List.mem_of_getElem? (i := 4) (by decide +kernel))) rfl
theorem k_235 : Cond.fieldLink RX3 12 "RisingParts" "first" "LRisingParts$Row;" ∈ gT := gT_in (List.mem_append_right _ (List.mem_of_getElem? (i := 66) (by decide +kernel))) rfl
theorem k_236 : Cond.methodLink RX3 72 yX1_dropRepeated ∈ gT := gT_in (List.mem_append_right _ (List.mem_of_getElem? (i := 171) (by decide +kernel))) rfl
theorem k_237 : Cond.instanceMethod yX1_dropRepeated ∈ gT := gT_in (List.mem_append_right _ (List.mem_of_getElem? (i := 172) (by decide +kernel))) rfl
theorem k_238 : Cond.selects RX1 yX1_dropRepeated yX1_dropRepeated ∈ gT := gT_in (List.mem_append_right _ (List.mem_of_getElem? (i := 173) (by decide +kernel))) rfl
theorem k_239 : Cond.fieldLink RX3 16 "RisingParts" "second" "LRisingParts$Row;" ∈ gT := gT_in (List.mem_append_right _ (List.mem_of_getElem? (i := 67) (by decide +kernel))) rfl
theorem k_240 : Cond.methodLink RX3 75 yX1_numberAt ∈ gT := gT_in (List.mem_append_right _ (List.mem_of_getElem? (i := 162) (by decide +kernel))) rfl
theorem k_241 : Cond.methodLink RX3 78 yX1_holds ∈ gT := gT_in (List.mem_append_right _ (List.mem_of_getElem? (i := 163) (by decide +kernel))) rfl
theorem k_242 : Cond.instanceMethod yX1_holds ∈ gT := gT_in (List.mem_append_right _ (List.mem_of_getElem? (i := 164) (by decide +kernel))) rfl
theorem k_243 : Cond.selects RX1 yX1_holds yX1_holds ∈ gT := gT_in (List.mem_append_right _ (List.mem_of_getElem? (i := 165) (by decide +kernel))) rfl
theorem k_244 : Cond.methodLink RX3 81 Lib.Math.max.name ∈ gT := gT_in (List.mem_append_right _ (List.mem_of_getElem? (i := 175) (by decide +kernel))) rfl
theorem k_245 : Cond.methodLink RX3 87 yX1_width ∈ gT := gT_in (List.mem_append_right _ (List.mem_of_getElem? (i := 190) (by decide +kernel))) rfl
theorem k_246 : Cond.methodLink RX3 91 yX1_upperLength ∈ gT := gT_in (List.mem_append_right _ (List.mem_of_getElem? (i := 197) (by decide +kernel))) rfl
theorem k_247 : Cond.methodLink RX3 94 yX1_bits ∈ gT := gT_in (List.mem_append_right _ (List.mem_of_getElem? (i := 209) (by decide +kernel))) rfl
theorem k_248 : Cond.instanceMethod yX1_bits ∈ gT := gT_in (List.mem_append_right _ (List.mem_of_getElem? (i := 210) (by decide +kernel))) rfl
theorem k_249 : Cond.selects RX1 yX1_bits yX1_bits ∈ gT := gT_in (List.mem_append_right _ (List.mem_of_getElem? (i := 211) (by decide +kernel))) rfl
theorem k_250 : Cond.methodLink RX3 97 yX3_samplesOf ∈ gT := gT_in (List.mem_append_right _ (List.mem_of_getElem? (i := 217) (by decide +kernel))) rfl
theorem k_251 : Cond.static yX3_samplesOf ∈ gT := gT_in (List.mem_append_right _ (List.mem_of_getElem? (i := 218) (by decide +kernel))) rfl
theorem k_252 : Cond.methodLink RX3 100 yX1_zeros ∈ gT := gT_in (List.mem_append_right _ (List.mem_of_getElem? (i := 220) (by decide +kernel))) rfl
theorem k_253 : Cond.methodLink RX3 103 yX1_unlike ∈ gT := gT_in (List.mem_append_right _ (List.mem_of_getElem? (i := 149) (by decide +kernel))) rfl
theorem k_254 : Cond.instanceMethod yX1_unlike ∈ gT := gT_in (List.mem_append_right _ (List.mem_of_getElem? (i := 150) (by decide +kernel))) rfl
theorem k_255 : Cond.selects RX1 yX1_unlike yX1_unlike ∈ gT := gT_in (List.mem_append_right _ (List.mem_of_getElem? (i := 151) (by decide +kernel))) rfl
theorem k_256 : Cond.methodLink RX3 106 yX1_greatestStep ∈ gT := gT_in (List.mem_append_right _ (List.mem_of_getElem? (i := 221) (by decide +kernel))) rfl
theorem k_257 : Cond.instanceMethod yX1_greatestStep ∈ gT := gT_in (List.mem_append_right _ (List.mem_of_getElem? (i := 222) (by decide +kernel))) rfl
theorem k_258 : Cond.selects RX1 yX1_greatestStep yX1_greatestStep ∈ gT := gT_in (List.mem_append_right _ (List.mem_of_getElem? (i := 223) (by decide +kernel))) rfl
theorem k_259 : Cond.constant RX3 109 (-1000004) ∈ gT := gT_in (List.mem_append_right _ (List.mem_of_getElem? (i := 234) (by decide +kernel))) rfl
theorem k_260 : Cond.methodLink RX3 110 yX1_hasOneAt ∈ gT := gT_in (List.mem_append_right _ (List.mem_of_getElem? (i := 235) (by decide +kernel))) rfl
theorem k_261 : Cond.instanceMethod yX1_hasOneAt ∈ gT := gT_in (List.mem_append_right _ (List.mem_of_getElem? (i := 236) (by decide +kernel))) rfl
theorem k_262 : Cond.selects RX1 yX1_hasOneAt yX1_hasOneAt ∈ gT := gT_in (List.mem_append_right _ (List.mem_of_getElem? (i := 237) (by decide +kernel))) rfl
theorem k_263 : Cond.methodLink RX3 113 yX1_upperPart ∈ gT := gT_in (List.mem_append_right _ (List.mem_of_getElem? (i := 252) (by decide +kernel))) rfl
theorem k_264 : Cond.methodLink RX3 116 yX1_lowerPart ∈ gT := gT_in (List.mem_append_right _ (List.mem_of_getElem? (i := 253) (by decide +kernel))) rfl
theorem k_265 : Cond.methodLink RX3 119 yX1_placeOfOne ∈ gT := gT_in (List.mem_append_right _ (List.mem_of_getElem? (i := 257) (by decide +kernel))) rfl
theorem k_266 : Cond.methodLink RX3 122 yX3_sampledAhead ∈ gT := gT_in (List.mem_append_right _ (List.mem_of_getElem? (i := 258) (by decide +kernel))) rfl
theorem k_267 : Cond.methodLink RX3 125 yX1_placeOfZero ∈ gT := gT_in (List.mem_append_right _ (List.mem_of_getElem? (i := 265) (by decide +kernel))) rfl
theorem k_268 : Cond.constantLong RX3 128 (-1000001) ∈ gT := gT_in (List.mem_append_right _ (List.mem_of_getElem? (i := 273) (by decide +kernel))) rfl
theorem k_269 : Cond.constantLong RX3 130 (32) ∈ gT := gT_in (List.mem_append_right _ (List.mem_of_getElem? (i := 274) (by decide +kernel))) rfl
theorem k_270 : Cond.constantLong RX3 132 (-1000004) ∈ gT := gT_in (List.mem_append_right _ (List.mem_of_getElem? (i := 275) (by decide +kernel))) rfl
theorem k_271 : Cond.methodLink RX3 134 yX1_lowerWord ∈ gT := gT_in (List.mem_append_right _ (List.mem_of_getElem? (i := 276) (by decide +kernel))) rfl
theorem k_272 : Cond.instanceMethod yX1_lowerWord ∈ gT := gT_in (List.mem_append_right _ (List.mem_of_getElem? (i := 277) (by decide +kernel))) rfl
theorem k_273 : Cond.selects RX1 yX1_lowerWord yX1_lowerWord ∈ gT := gT_in (List.mem_append_right _ (List.mem_of_getElem? (i := 278) (by decide +kernel))) rfl
theorem k_274 : Cond.methodLink RX3 138 yX1_workToNext ∈ gT := gT_in (List.mem_append_right _ (List.mem_of_getElem? (i := 286) (by decide +kernel))) rfl
theorem k_275 : Cond.instanceMethod yX1_workToNext ∈ gT := gT_in (List.mem_append_right _ (List.mem_of_getElem? (i := 287) (by decide +kernel))) rfl
theorem k_276 : Cond.selects RX1 yX1_workToNext yX1_workToNext ∈ gT := gT_in (List.mem_append_right _ (List.mem_of_getElem? (i := 288) (by decide +kernel))) rfl
theorem k_277 : Cond.methodLink RX3 141 yX3_commonUnlike ∈ gT := gT_in (List.mem_append_right _ (List.mem_of_getElem? (i := 157) (by decide +kernel))) rfl
theorem k_278 : Cond.instanceMethod yX3_commonUnlike ∈ gT := gT_in (List.mem_append_right _ (List.mem_of_getElem? (i := 159) (by decide +kernel))) rfl
theorem k_279 : Cond.selects RX3 yX3_commonUnlike yX3_commonUnlike ∈ gT := gT_in (List.mem_append_left _ (List.mem_of_getElem? (i := 5) (by decide +kernel))) rfl
theorem k_280 : Cond.methodLink RX3 144 yX3_commonRepeated ∈ gT := gT_in (List.mem_append_right _ (List.mem_of_getElem? (i := 301) (by decide +kernel))) rfl
theorem k_281 : Cond.instanceMethod yX3_commonRepeated ∈ gT := gT_in (List.mem_append_right _ (List.mem_of_getElem? (i := 303) (by decide +kernel))) rfl
theorem k_282 : Cond.selects RX3 yX3_commonRepeated yX3_commonRepeated ∈ gT := gT_in (List.mem_append_left _ (List.mem_of_getElem? (i := 6) (by decide +kernel))) rfl
theorem k_283 : Cond.methodLink RX3 147 yX3_leastCommon ∈ gT := gT_in (List.mem_append_right _ (List.mem_of_getElem? (i := 309) (by decide +kernel))) rfl
theorem k_284 : Cond.instanceMethod yX3_leastCommon ∈ gT := gT_in (List.mem_append_right _ (List.mem_of_getElem? (i := 311) (by decide +kernel))) rfl
theorem k_285 : Cond.selects RX3 yX3_leastCommon yX3_leastCommon ∈ gT := gT_in (List.mem_append_left _ (List.mem_of_getElem? (i := 7) (by decide +kernel))) rfl
theorem k_286 : Cond.methodLink RX3 150 yX3_leastDifference ∈ gT := gT_in (List.mem_append_right _ (List.mem_of_getElem? (i := 313) (by decide +kernel))) rfl
theorem k_287 : Cond.instanceMethod yX3_leastDifference ∈ gT := gT_in (List.mem_append_right _ (List.mem_of_getElem? (i := 315) (by decide +kernel))) rfl
theorem k_288 : Cond.selects RX3 yX3_leastDifference yX3_leastDifference ∈ gT := gT_in (List.mem_append_left _ (List.mem_of_getElem? (i := 8) (by decide +kernel))) rfl
theorem k_289 : Cond.methodLink RX3 153 yX3_bitsOfFloat ∈ gT := gT_in (List.mem_append_right _ (List.mem_of_getElem? (i := 324) (by decide +kernel))) rfl
theorem k_290 : Cond.static yX3_bitsOfFloat ∈ gT := gT_in (List.mem_append_right _ (List.mem_of_getElem? (i := 325) (by decide +kernel))) rfl
theorem k_291 : Cond.methodLink RX3 157 yX3_lowestBestBound ∈ gT := gT_in (List.mem_append_right _ (List.mem_of_getElem? (i := 333) (by decide +kernel))) rfl
theorem k_292 : Cond.static yX3_lowestBestBound ∈ gT := gT_in (List.mem_append_right _ (List.mem_of_getElem? (i := 334) (by decide +kernel))) rfl
theorem k_293 : Cond.methodLink RX3 161 yX3_bitsFor ∈ gT := gT_in (List.mem_append_right _ (List.mem_of_getElem? (i := 336) (by decide +kernel))) rfl
theorem k_294 : Cond.methodLink RX3 164 yX1_indexOfGap ∈ gT := gT_in (List.mem_append_right _ (List.mem_of_getElem? (i := 341) (by decide +kernel))) rfl
theorem k_295 : Cond.instanceMethod yX1_indexOfGap ∈ gT := gT_in (List.mem_append_right _ (List.mem_of_getElem? (i := 342) (by decide +kernel))) rfl
theorem k_296 : Cond.selects RX1 yX1_indexOfGap yX1_indexOfGap ∈ gT := gT_in (List.mem_append_right _ (List.mem_of_getElem? (i := 343) (by decide +kernel))) rfl
theorem k_297 : Cond.methodLink RX3 167 yX1_stepBehind ∈ gT := gT_in (List.mem_append_right _ (List.mem_of_getElem? (i := 349) (by decide +kernel))) rfl
theorem k_298 : Cond.fieldLink RX3 22 "RisingParts" "history" "LRisingParts$History;" ∈ gT := gT_in (List.mem_append_right _ (List.mem_of_getElem? (i := 68) (by decide +kernel))) rfl
theorem k_299 : (RX3, 170, "RisingParts$History", "size", "I", "RisingParts") ∈ gNF := List.mem_of_getElem? (i := 3) rfl
theorem k_300 : Cond.fieldLink RX3 29 "RisingParts" "text" "LRisingParts$Text;" ∈ gT := gT_in (List.mem_append_right _ (List.mem_of_getElem? (i := 69) (by decide +kernel))) rfl
theorem k_301 : (RX3, 171, "RisingParts$Text", "length", "I", "RisingParts") ∈ gNF := List.mem_of_getElem? (i := 4) rfl
theorem k_302 : Cond.methodLink RX3 174 yX0_restore ∈ gT := gT_in (List.mem_append_right _ (List.mem_of_getElem? (i := 358) (by decide +kernel))) rfl
theorem k_303 : Cond.instanceMethod yX0_restore ∈ gT := gT_in (List.mem_append_right _ (List.mem_of_getElem? (i := 359) (by decide +kernel))) rfl
theorem k_304 : Cond.selects RX0 yX0_restore yX0_restore ∈ gT := gT_in (List.mem_append_right _ (List.mem_of_getElem? (i := 360) (by decide +kernel))) rfl
theorem k_305 : Cond.methodLink RX3 178 yX2_append ∈ gT := gT_in (List.mem_append_right _ (List.mem_of_getElem? (i := 370) (by decide +kernel))) rfl
theorem k_306 : Cond.instanceMethod yX2_append ∈ gT := gT_in (List.mem_append_right _ (List.mem_of_getElem? (i := 371) (by decide +kernel))) rfl
theorem k_307 : Cond.selects RX2 yX2_append yX2_append ∈ gT := gT_in (List.mem_append_right _ (List.mem_of_getElem? (i := 372) (by decide +kernel))) rfl
theorem k_308 : Cond.methodLink RX3 182 yX2_firstFault ∈ gT := gT_in (List.mem_append_right _ (List.mem_of_getElem? (i := 382) (by decide +kernel))) rfl
theorem k_309 : Cond.instanceMethod yX2_firstFault ∈ gT := gT_in (List.mem_append_right _ (List.mem_of_getElem? (i := 383) (by decide +kernel))) rfl
theorem k_310 : Cond.selects RX2 yX2_firstFault yX2_firstFault ∈ gT := gT_in (List.mem_append_right _ (List.mem_of_getElem? (i := 384) (by decide +kernel))) rfl
theorem k_311 : Cond.methodLink RX3 185 yX2_fill ∈ gT := gT_in (List.mem_append_right _ (List.mem_of_getElem? (i := 402) (by decide +kernel))) rfl
theorem k_312 : Cond.instanceMethod yX2_fill ∈ gT := gT_in (List.mem_append_right _ (List.mem_of_getElem? (i := 403) (by decide +kernel))) rfl
theorem k_313 : Cond.selects RX2 yX2_fill yX2_fill ∈ gT := gT_in (List.mem_append_right _ (List.mem_of_getElem? (i := 404) (by decide +kernel))) rfl
theorem k_314 : Cond.methodLink RX3 189 yX0_keep ∈ gT := gT_in (List.mem_append_right _ (List.mem_of_getElem? (i := 100) (by decide +kernel))) rfl
theorem k_315 : Cond.instanceMethod yX0_keep ∈ gT := gT_in (List.mem_append_right _ (List.mem_of_getElem? (i := 101) (by decide +kernel))) rfl
theorem k_316 : Cond.selects RX0 yX0_keep yX0_keep ∈ gT := gT_in (List.mem_append_right _ (List.mem_of_getElem? (i := 102) (by decide +kernel))) rfl
theorem k_317 : Cond.methodLink RX3 192 yX3_widthFor ∈ gT := gT_in (List.mem_append_right _ (List.mem_of_getElem? (i := 208) (by decide +kernel))) rfl
theorem k_318 : Cond.methodLink RX3 195 yX3_zerosFor ∈ gT := gT_in (List.mem_append_right _ (List.mem_of_getElem? (i := 216) (by decide +kernel))) rfl
theorem k_319 : Cond.constant RX3 198 (8388608) ∈ gT := gT_in (List.mem_append_right _ (List.mem_of_getElem? (i := 327) (by decide +kernel))) rfl
theorem k_320 : Cond.constantFloat RX3 199 (1258291200) ∈ gT := gT_in (List.mem_append_right _ (List.mem_of_getElem? (i := 328) (by decide +kernel))) rfl
theorem k_321 : Cond.methodLink RX3 200 yX1_isNew ∈ gT := gT_in (List.mem_append_right _ (List.mem_of_getElem? (i := 161) (by decide +kernel))) rfl
theorem k_322 : Cond.methodLink RX3 203 yX1_timesOf ∈ gT := gT_in (List.mem_append_right _ (List.mem_of_getElem? (i := 305) (by decide +kernel))) rfl
theorem k_323 : Cond.methodLink RX3 206 Lib.Math.min.name ∈ gT := gT_in (List.mem_append_right _ (List.mem_of_getElem? (i := 306) (by decide +kernel))) rfl
theorem k_324 : Cond.static Lib.Math.min.name ∈ gT := gT_in (List.mem_append_right _ (List.mem_of_getElem? (i := 307) (by decide +kernel))) rfl
theorem k_325 : Cond.code Lib.Math.min.name Lib.Math.min.code 2 (some .int) ∈ gT := gT_in (List.mem_append_right _ (List.mem_of_getElem? (i := 308) (by decide +kernel))) rfl
theorem k_326 : Cond.methodLink RX3 209 Lib.Math.abs.name ∈ gT := gT_in (List.mem_append_right _ (List.mem_of_getElem? (i := 317) (by decide +kernel))) rfl
theorem k_327 : Cond.static Lib.Math.abs.name ∈ gT := gT_in (List.mem_append_right _ (List.mem_of_getElem? (i := 318) (by decide +kernel))) rfl
theorem k_328 : Cond.code Lib.Math.abs.name Lib.Math.abs.code 1 (some .int) ∈ gT := gT_in (List.mem_append_right _ (List.mem_of_getElem? (i := 319) (by decide +kernel))) rfl
theorem k_329 : Cond.fieldLink RX4 7 "RisingPartsModel" "s" "[I" ∈ gT := gT_in (List.mem_append_right _ (List.mem_of_getElem? (i := 413) (by decide +kernel))) rfl
theorem k_330 : Cond.fieldLink RX4 16 "RisingPartsModel" "begun" "[I" ∈ gT := gT_in (List.mem_append_right _ (List.mem_of_getElem? (i := 415) (by decide +kernel))) rfl
theorem k_331 : Cond.constant RX4 35 (-1000001) ∈ gT := gT_in (List.mem_append_right _ (List.mem_of_getElem? (i := 470) (by decide +kernel))) rfl
theorem k_332 : Cond.fieldLink RX4 36 "RisingPartsModel" "states" "I" ∈ gT := gT_in (List.mem_append_right _ (List.mem_of_getElem? (i := 416) (by decide +kernel))) rfl
theorem k_333 : Cond.fieldLink RX4 13 "RisingPartsModel" "was" "[I" ∈ gT := gT_in (List.mem_append_right _ (List.mem_of_getElem? (i := 414) (by decide +kernel))) rfl
theorem k_334 : Cond.methodLink RX4 40 yX4_many ∈ gT := gT_in (List.mem_append_right _ (List.mem_of_getElem? (i := 472) (by decide +kernel))) rfl
theorem k_335 : Cond.instanceMethod yX4_many ∈ gT := gT_in (List.mem_append_right _ (List.mem_of_getElem? (i := 474) (by decide +kernel))) rfl
theorem k_336 : Cond.selects RX4 yX4_many yX4_many ∈ gT := gT_in (List.mem_append_left _ (List.mem_of_getElem? (i := 12) (by decide +kernel))) rfl
theorem k_337 : Cond.methodLink RX4 44 yX4_number ∈ gT := gT_in (List.mem_append_right _ (List.mem_of_getElem? (i := 485) (by decide +kernel))) rfl
theorem k_338 : Cond.instanceMethod yX4_number ∈ gT := gT_in (List.mem_append_right _ (List.mem_of_getElem? (i := 487) (by decide +kernel))) rfl
theorem k_339 : Cond.selects RX4 yX4_number yX4_number ∈ gT := gT_in (List.mem_append_left _ (List.mem_of_getElem? (i := 15) (by decide +kernel))) rfl
theorem k_340 : Cond.methodLink RX4 48 yX4_in ∈ gT := gT_in (List.mem_append_right _ (List.mem_of_getElem? (i := 467) (by decide +kernel))) rfl
theorem k_341 : Cond.static yX4_in ∈ gT := gT_in (List.mem_append_right _ (List.mem_of_getElem? (i := 468) (by decide +kernel))) rfl
theorem k_342 : Cond.constant RX4 52 (-1000002) ∈ gT := gT_in (List.mem_append_right _ (List.mem_of_getElem? (i := 471) (by decide +kernel))) rfl
theorem k_343 : Cond.constant RX4 53 (-1000003) ∈ gT := gT_in (List.mem_append_right _ (List.mem_of_getElem? (i := 476) (by decide +kernel))) rfl
theorem k_344 : Cond.methodLink RX4 54 yX4_keeps ∈ gT := gT_in (List.mem_append_right _ (List.mem_of_getElem? (i := 477) (by decide +kernel))) rfl
theorem k_345 : Cond.instanceMethod yX4_keeps ∈ gT := gT_in (List.mem_append_right _ (List.mem_of_getElem? (i := 479) (by decide +kernel))) rfl
theorem k_346 : Cond.selects RX4 yX4_keeps yX4_keeps ∈ gT := gT_in (List.mem_append_left _ (List.mem_of_getElem? (i := 13) (by decide +kernel))) rfl
theorem k_347 : Cond.methodLink RX4 57 yX4_less ∈ gT := gT_in (List.mem_append_right _ (List.mem_of_getElem? (i := 481) (by decide +kernel))) rfl
theorem k_348 : Cond.instanceMethod yX4_less ∈ gT := gT_in (List.mem_append_right _ (List.mem_of_getElem? (i := 483) (by decide +kernel))) rfl
theorem k_349 : Cond.selects RX4 yX4_less yX4_less ∈ gT := gT_in (List.mem_append_left _ (List.mem_of_getElem? (i := 14) (by decide +kernel))) rfl
theorem k_350 : Cond.methodLink RX4 60 yX4_acted ∈ gT := gT_in (List.mem_append_right _ (List.mem_of_getElem? (i := 489) (by decide +kernel))) rfl
theorem k_351 : Cond.instanceMethod yX4_acted ∈ gT := gT_in (List.mem_append_right _ (List.mem_of_getElem? (i := 491) (by decide +kernel))) rfl
theorem k_352 : Cond.selects RX4 yX4_acted yX4_acted ∈ gT := gT_in (List.mem_append_left _ (List.mem_of_getElem? (i := 16) (by decide +kernel))) rfl
theorem k_353 : Cond.fieldLink RX4 32 "RisingPartsModel" "joined" "[I" ∈ gT := gT_in (List.mem_append_right _ (List.mem_of_getElem? (i := 428) (by decide +kernel))) rfl
theorem k_354 : Cond.methodLink RX4 63 yX4_widthOf ∈ gT := gT_in (List.mem_append_right _ (List.mem_of_getElem? (i := 524) (by decide +kernel))) rfl
theorem k_355 : Cond.static yX4_widthOf ∈ gT := gT_in (List.mem_append_right _ (List.mem_of_getElem? (i := 525) (by decide +kernel))) rfl
theorem k_356 : Cond.methodLink RX4 66 yX4_upperBits ∈ gT := gT_in (List.mem_append_right _ (List.mem_of_getElem? (i := 521) (by decide +kernel))) rfl
theorem k_357 : Cond.static yX4_upperBits ∈ gT := gT_in (List.mem_append_right _ (List.mem_of_getElem? (i := 522) (by decide +kernel))) rfl
theorem k_358 : Cond.methodLink RX4 69 yX4_sizeOf ∈ gT := gT_in (List.mem_append_right _ (List.mem_of_getElem? (i := 539) (by decide +kernel))) rfl
theorem k_359 : Cond.static yX4_sizeOf ∈ gT := gT_in (List.mem_append_right _ (List.mem_of_getElem? (i := 540) (by decide +kernel))) rfl
theorem k_360 : Cond.methodLink RX4 72 yX4_width ∈ gT := gT_in (List.mem_append_right _ (List.mem_of_getElem? (i := 531) (by decide +kernel))) rfl
theorem k_361 : Cond.instanceMethod yX4_width ∈ gT := gT_in (List.mem_append_right _ (List.mem_of_getElem? (i := 533) (by decide +kernel))) rfl
theorem k_362 : Cond.selects RX4 yX4_width yX4_width ∈ gT := gT_in (List.mem_append_left _ (List.mem_of_getElem? (i := 19) (by decide +kernel))) rfl
theorem k_363 : Cond.fieldLink RX4 75 "RisingPartsModel" "bits" "I" ∈ gT := gT_in (List.mem_append_right _ (List.mem_of_getElem? (i := 423) (by decide +kernel))) rfl
theorem k_364 : Cond.fieldLink RX4 26 "RisingPartsModel" "upper" "[I" ∈ gT := gT_in (List.mem_append_right _ (List.mem_of_getElem? (i := 422) (by decide +kernel))) rfl
theorem k_365 : Cond.methodLink RX4 78 yX4_placeOf ∈ gT := gT_in (List.mem_append_right _ (List.mem_of_getElem? (i := 527) (by decide +kernel))) rfl
theorem k_366 : Cond.instanceMethod yX4_placeOf ∈ gT := gT_in (List.mem_append_right _ (List.mem_of_getElem? (i := 529) (by decide +kernel))) rfl
theorem k_367 : Cond.selects RX4 yX4_placeOf yX4_placeOf ∈ gT := gT_in (List.mem_append_left _ (List.mem_of_getElem? (i := 18) (by decide +kernel))) rfl
theorem k_368 : Cond.fieldLink RX4 81 "RisingPartsModel" "zeros" "I" ∈ gT := gT_in (List.mem_append_right _ (List.mem_of_getElem? (i := 425) (by decide +kernel))) rfl
theorem k_369 : Cond.fieldLink RX4 29 "RisingPartsModel" "zero" "[I" ∈ gT := gT_in (List.mem_append_right _ (List.mem_of_getElem? (i := 424) (by decide +kernel))) rfl
theorem k_370 : Cond.methodLink RX4 84 yX4_lays ∈ gT := gT_in (List.mem_append_right _ (List.mem_of_getElem? (i := 517) (by decide +kernel))) rfl
theorem k_371 : Cond.instanceMethod yX4_lays ∈ gT := gT_in (List.mem_append_right _ (List.mem_of_getElem? (i := 519) (by decide +kernel))) rfl
theorem k_372 : Cond.selects RX4 yX4_lays yX4_lays ∈ gT := gT_in (List.mem_append_left _ (List.mem_of_getElem? (i := 17) (by decide +kernel))) rfl
theorem k_373 : Cond.methodLink RX4 88 yX4_size ∈ gT := gT_in (List.mem_append_right _ (List.mem_of_getElem? (i := 535) (by decide +kernel))) rfl
theorem k_374 : Cond.instanceMethod yX4_size ∈ gT := gT_in (List.mem_append_right _ (List.mem_of_getElem? (i := 537) (by decide +kernel))) rfl
theorem k_375 : Cond.selects RX4 yX4_size yX4_size ∈ gT := gT_in (List.mem_append_left _ (List.mem_of_getElem? (i := 20) (by decide +kernel))) rfl
theorem k_376 : Cond.methodLink RX4 91 yX4_unlike ∈ gT := gT_in (List.mem_append_right _ (List.mem_of_getElem? (i := 542) (by decide +kernel))) rfl
theorem k_377 : Cond.instanceMethod yX4_unlike ∈ gT := gT_in (List.mem_append_right _ (List.mem_of_getElem? (i := 544) (by decide +kernel))) rfl
theorem k_378 : Cond.selects RX4 yX4_unlike yX4_unlike ∈ gT := gT_in (List.mem_append_left _ (List.mem_of_getElem? (i := 21) (by decide +kernel))) rfl
theorem k_379 : Cond.methodLink RX4 94 yX4_greatestGap ∈ gT := gT_in (List.mem_append_right _ (List.mem_of_getElem? (i := 546) (by decide +kernel))) rfl
theorem k_380 : Cond.instanceMethod yX4_greatestGap ∈ gT := gT_in (List.mem_append_right _ (List.mem_of_getElem? (i := 548) (by decide +kernel))) rfl
theorem k_381 : Cond.selects RX4 yX4_greatestGap yX4_greatestGap ∈ gT := gT_in (List.mem_append_left _ (List.mem_of_getElem? (i := 22) (by decide +kernel))) rfl
theorem k_382 : Cond.constant RX4 97 (-1000004) ∈ gT := gT_in (List.mem_append_right _ (List.mem_of_getElem? (i := 554) (by decide +kernel))) rfl
theorem k_383 : Cond.methodLink RX4 98 yX4_lower ∈ gT := gT_in (List.mem_append_right _ (List.mem_of_getElem? (i := 559) (by decide +kernel))) rfl
theorem k_384 : Cond.instanceMethod yX4_lower ∈ gT := gT_in (List.mem_append_right _ (List.mem_of_getElem? (i := 561) (by decide +kernel))) rfl
theorem k_385 : Cond.selects RX4 yX4_lower yX4_lower ∈ gT := gT_in (List.mem_append_left _ (List.mem_of_getElem? (i := 23) (by decide +kernel))) rfl
theorem k_386 : Cond.constantLong RX4 101 (-1000001) ∈ gT := gT_in (List.mem_append_right _ (List.mem_of_getElem? (i := 571) (by decide +kernel))) rfl
theorem k_387 : Cond.constantLong RX4 103 (-1000004) ∈ gT := gT_in (List.mem_append_right _ (List.mem_of_getElem? (i := 572) (by decide +kernel))) rfl
theorem k_388 : Cond.constantLong RX4 105 (2) ∈ gT := gT_in (List.mem_append_right _ (List.mem_of_getElem? (i := 573) (by decide +kernel))) rfl
theorem k_389 : Cond.fieldLink RX4 107 "RisingPartsModel" "work" "I" ∈ gT := gT_in (List.mem_append_right _ (List.mem_of_getElem? (i := 427) (by decide +kernel))) rfl
theorem k_390 : Cond.fieldLink RX4 110 "RisingPartsModel" "found" "I" ∈ gT := gT_in (List.mem_append_right _ (List.mem_of_getElem? (i := 426) (by decide +kernel))) rfl
theorem k_391 : Cond.methodLink RX4 113 yX4_finds ∈ gT := gT_in (List.mem_append_right _ (List.mem_of_getElem? (i := 578) (by decide +kernel))) rfl
theorem k_392 : Cond.instanceMethod yX4_finds ∈ gT := gT_in (List.mem_append_right _ (List.mem_of_getElem? (i := 580) (by decide +kernel))) rfl
theorem k_393 : Cond.selects RX4 yX4_finds yX4_finds ∈ gT := gT_in (List.mem_append_left _ (List.mem_of_getElem? (i := 24) (by decide +kernel))) rfl
theorem k_394 : Cond.methodLink RX4 117 yX4_has ∈ gT := gT_in (List.mem_append_right _ (List.mem_of_getElem? (i := 590) (by decide +kernel))) rfl
theorem k_395 : Cond.instanceMethod yX4_has ∈ gT := gT_in (List.mem_append_right _ (List.mem_of_getElem? (i := 592) (by decide +kernel))) rfl
theorem k_396 : Cond.selects RX4 yX4_has yX4_has ∈ gT := gT_in (List.mem_append_left _ (List.mem_of_getElem? (i := 25) (by decide +kernel))) rfl
theorem k_397 : Cond.methodLink RX4 121 yX4_times ∈ gT := gT_in (List.mem_append_right _ (List.mem_of_getElem? (i := 594) (by decide +kernel))) rfl
theorem k_398 : Cond.instanceMethod yX4_times ∈ gT := gT_in (List.mem_append_right _ (List.mem_of_getElem? (i := 596) (by decide +kernel))) rfl
theorem k_399 : Cond.selects RX4 yX4_times yX4_times ∈ gT := gT_in (List.mem_append_left _ (List.mem_of_getElem? (i := 26) (by decide +kernel))) rfl
theorem k_400 : Cond.methodLink RX4 124 yX4_difference ∈ gT := gT_in (List.mem_append_right _ (List.mem_of_getElem? (i := 598) (by decide +kernel))) rfl
theorem k_401 : Cond.instanceMethod yX4_difference ∈ gT := gT_in (List.mem_append_right _ (List.mem_of_getElem? (i := 600) (by decide +kernel))) rfl
theorem k_402 : Cond.selects RX4 yX4_difference yX4_difference ∈ gT := gT_in (List.mem_append_left _ (List.mem_of_getElem? (i := 27) (by decide +kernel))) rfl
theorem k_403 : Cond.constantLong RX4 128 (8388608) ∈ gT := gT_in (List.mem_append_right _ (List.mem_of_getElem? (i := 609) (by decide +kernel))) rfl
theorem k_404 : Cond.constantLong RX4 130 (16777216) ∈ gT := gT_in (List.mem_append_right _ (List.mem_of_getElem? (i := 610) (by decide +kernel))) rfl
theorem k_405 : Cond.methodLink RX4 132 yX4_quotient ∈ gT := gT_in (List.mem_append_right _ (List.mem_of_getElem? (i := 606) (by decide +kernel))) rfl
theorem k_406 : Cond.static yX4_quotient ∈ gT := gT_in (List.mem_append_right _ (List.mem_of_getElem? (i := 607) (by decide +kernel))) rfl
theorem k_407 : Cond.fieldLink RX4 135 "RisingPartsModel" "typed" "I" ∈ gT := gT_in (List.mem_append_right _ (List.mem_of_getElem? (i := 418) (by decide +kernel))) rfl
theorem k_408 : Cond.fieldLink RX4 19 "RisingPartsModel" "text" "[C" ∈ gT := gT_in (List.mem_append_right _ (List.mem_of_getElem? (i := 417) (by decide +kernel))) rfl
theorem k_409 : Cond.fieldLink RX4 138 "RisingPartsModel" "many" "I" ∈ gT := gT_in (List.mem_append_right _ (List.mem_of_getElem? (i := 421) (by decide +kernel))) rfl
theorem k_410 : Cond.fieldLink RX4 23 "RisingPartsModel" "listed" "[I" ∈ gT := gT_in (List.mem_append_right _ (List.mem_of_getElem? (i := 420) (by decide +kernel))) rfl
theorem k_411 : Cond.fieldLink RX4 140 "RisingPartsModel" "reason" "I" ∈ gT := gT_in (List.mem_append_right _ (List.mem_of_getElem? (i := 419) (by decide +kernel))) rfl
theorem k_412 : Cond.methodLink RX4 143 yX4_sign ∈ gT := gT_in (List.mem_append_right _ (List.mem_of_getElem? (i := 643) (by decide +kernel))) rfl
theorem k_413 : Cond.instanceMethod yX4_sign ∈ gT := gT_in (List.mem_append_right _ (List.mem_of_getElem? (i := 645) (by decide +kernel))) rfl
theorem k_414 : Cond.selects RX4 yX4_sign yX4_sign ∈ gT := gT_in (List.mem_append_left _ (List.mem_of_getElem? (i := 29) (by decide +kernel))) rfl
theorem k_415 : Cond.methodLink RX4 146 yX4_wrong ∈ gT := gT_in (List.mem_append_right _ (List.mem_of_getElem? (i := 647) (by decide +kernel))) rfl
theorem k_416 : Cond.instanceMethod yX4_wrong ∈ gT := gT_in (List.mem_append_right _ (List.mem_of_getElem? (i := 649) (by decide +kernel))) rfl
theorem k_417 : Cond.selects RX4 yX4_wrong yX4_wrong ∈ gT := gT_in (List.mem_append_left _ (List.mem_of_getElem? (i := 30) (by decide +kernel))) rfl
theorem k_418 : Cond.methodLink RX4 149 yX4_faulty ∈ gT := gT_in (List.mem_append_right _ (List.mem_of_getElem? (i := 639) (by decide +kernel))) rfl
theorem k_419 : Cond.instanceMethod yX4_faulty ∈ gT := gT_in (List.mem_append_right _ (List.mem_of_getElem? (i := 641) (by decide +kernel))) rfl
theorem k_420 : Cond.selects RX4 yX4_faulty yX4_faulty ∈ gT := gT_in (List.mem_append_left _ (List.mem_of_getElem? (i := 28) (by decide +kernel))) rfl
def M_X0_keep : MI := (yX0_keep, cX0_keep, 4, none, 2, 44)
theorem ok_X0_keep : mOk M_X0_keep 2 := ⟨by decide +kernel, k_0, k_1, by decide +kernel, by decide +kernel, by decide +kernel⟩
def M_X0_restore : MI := (yX0_restore, cX0_restore, 4, none, 2, 45)
theorem ok_X0_restore : mOk M_X0_restore 2 := ⟨by decide +kernel, k_2, k_1, by decide +kernel, by decide +kernel, by decide +kernel⟩
def M_X0_startOf : MI := (yX0_startOf, cX0_startOf, 2, some .int, 0, 0)
theorem ok_X0_startOf : mOk M_X0_startOf 1 := ⟨by decide +kernel, k_3, k_1, by decide +kernel, by decide +kernel, by decide +kernel⟩
def M_X1_numberAt : MI := (yX1_numberAt, cX1_numberAt, 2, some .int, 0, 0)
theorem ok_X1_numberAt : mOk M_X1_numberAt 1 := ⟨by decide +kernel, k_4, k_5, by decide +kernel, by decide +kernel, by decide +kernel⟩
def M_X1_put : MI := (yX1_put, cX1_put, 3, none, 0, 0)
theorem ok_X1_put : mOk M_X1_put 2 := ⟨by decide +kernel, k_6, k_5, by decide +kernel, by decide +kernel, by decide +kernel⟩
def M_X1_insert : MI := (yX1_insert, cX1_insert, 4, some .int, 2, 43)
theorem ok_X1_insert : mOk M_X1_insert 1 := ⟨by decide +kernel, k_7, k_5, by decide +kernel, by decide +kernel, by decide +kernel⟩
def M_X1_remove : MI := (yX1_remove, cX1_remove, 4, some .int, 1, 22)
theorem ok_X1_remove : mOk M_X1_remove 1 := ⟨by decide +kernel, k_8, k_5, by decide +kernel, by decide +kernel, by decide +kernel⟩
def M_X1_dropRepeated : MI := (yX1_dropRepeated, cX1_dropRepeated, 4, none, 1, 22)
theorem ok_X1_dropRepeated : mOk M_X1_dropRepeated 0 := ⟨by decide +kernel, k_9, k_5, by decide +kernel, by decide +kernel, by decide +kernel⟩
def M_X1_countLess : MI := (yX1_countLess, cX1_countLess, 3, some .int, 1, 21)
theorem ok_X1_countLess : mOk M_X1_countLess 1 := ⟨by decide +kernel, k_10, k_5, by decide +kernel, by decide +kernel, by decide +kernel⟩
def M_X1_timesOf : MI := (yX1_timesOf, cX1_timesOf, 2, some .int, 2, 43)
theorem ok_X1_timesOf : mOk M_X1_timesOf 1 := ⟨by decide +kernel, k_11, k_5, by decide +kernel, by decide +kernel, by decide +kernel⟩
def M_X1_holds : MI := (yX1_holds, cX1_holds, 2, some .boolean, 3, 64)
theorem ok_X1_holds : mOk M_X1_holds 1 := ⟨by decide +kernel, k_12, k_5, by decide +kernel, by decide +kernel, by decide +kernel⟩
def M_X1_isNew : MI := (yX1_isNew, cX1_isNew, 2, some .boolean, 1, 21)
theorem ok_X1_isNew : mOk M_X1_isNew 1 := ⟨by decide +kernel, k_13, k_5, by decide +kernel, by decide +kernel, by decide +kernel⟩
def M_X1_unlike : MI := (yX1_unlike, cX1_unlike, 3, some .int, 2, 42)
theorem ok_X1_unlike : mOk M_X1_unlike 0 := ⟨by decide +kernel, k_14, k_5, by decide +kernel, by decide +kernel, by decide +kernel⟩
def M_X1_width : MI := (yX1_width, cX1_width, 1, some .int, 1, 23)
theorem ok_X1_width : mOk M_X1_width 0 := ⟨by decide +kernel, k_15, k_5, by decide +kernel, by decide +kernel, by decide +kernel⟩
def M_X1_zeros : MI := (yX1_zeros, cX1_zeros, 1, some .int, 2, 45)
theorem ok_X1_zeros : mOk M_X1_zeros 0 := ⟨by decide +kernel, k_16, k_5, by decide +kernel, by decide +kernel, by decide +kernel⟩
def M_X1_upperLength : MI := (yX1_upperLength, cX1_upperLength, 1, some .int, 3, 65)
theorem ok_X1_upperLength : mOk M_X1_upperLength 0 := ⟨by decide +kernel, k_17, k_5, by decide +kernel, by decide +kernel, by decide +kernel⟩
def M_X1_bits : MI := (yX1_bits, cX1_bits, 1, some .int, 3, 66)
theorem ok_X1_bits : mOk M_X1_bits 0 := ⟨by decide +kernel, k_18, k_5, by decide +kernel, by decide +kernel, by decide +kernel⟩
def M_X1_upperPart : MI := (yX1_upperPart, cX1_upperPart, 2, some .int, 2, 43)
theorem ok_X1_upperPart : mOk M_X1_upperPart 1 := ⟨by decide +kernel, k_19, k_5, by decide +kernel, by decide +kernel, by decide +kernel⟩
def M_X1_lowerPart : MI := (yX1_lowerPart, cX1_lowerPart, 2, some .int, 2, 43)
theorem ok_X1_lowerPart : mOk M_X1_lowerPart 1 := ⟨by decide +kernel, k_20, k_5, by decide +kernel, by decide +kernel, by decide +kernel⟩
def M_X1_placeOfOne : MI := (yX1_placeOfOne, cX1_placeOfOne, 2, some .int, 3, 64)
theorem ok_X1_placeOfOne : mOk M_X1_placeOfOne 1 := ⟨by decide +kernel, k_21, k_5, by decide +kernel, by decide +kernel, by decide +kernel⟩
def M_X1_placeOfZero : MI := (yX1_placeOfZero, cX1_placeOfZero, 2, some .int, 2, 43)
theorem ok_X1_placeOfZero : mOk M_X1_placeOfZero 1 := ⟨by decide +kernel, k_22, k_5, by decide +kernel, by decide +kernel, by decide +kernel⟩
def M_X1_hasOneAt : MI := (yX1_hasOneAt, cX1_hasOneAt, 3, some .boolean, 4, 85)
theorem ok_X1_hasOneAt : mOk M_X1_hasOneAt 1 := ⟨by decide +kernel, k_23, k_5, by decide +kernel, by decide +kernel, by decide +kernel⟩
def M_X1_workToNext : MI := (yX1_workToNext, cX1_workToNext, 7, some .int, 4, 85)
theorem ok_X1_workToNext : mOk M_X1_workToNext 1 := ⟨by decide +kernel, k_24, k_5, by decide +kernel, by decide +kernel, by decide +kernel⟩
def M_X1_lowerWord : MI := (yX1_lowerWord, cX1_lowerWord, 9, some .long, 3, 64)
theorem ok_X1_lowerWord : mOk M_X1_lowerWord 1 := ⟨by decide +kernel, k_25, k_5, by decide +kernel, by decide +kernel, by decide +kernel⟩
def M_X1_stepBehind : MI := (yX1_stepBehind, cX1_stepBehind, 2, some .int, 1, 21)
theorem ok_X1_stepBehind : mOk M_X1_stepBehind 1 := ⟨by decide +kernel, k_26, k_5, by decide +kernel, by decide +kernel, by decide +kernel⟩
def M_X1_greatestStep : MI := (yX1_greatestStep, cX1_greatestStep, 3, some .int, 2, 42)
theorem ok_X1_greatestStep : mOk M_X1_greatestStep 0 := ⟨by decide +kernel, k_27, k_5, by decide +kernel, by decide +kernel, by decide +kernel⟩
def M_X1_indexOfGap : MI := (yX1_indexOfGap, cX1_indexOfGap, 3, some .int, 3, 66)
theorem ok_X1_indexOfGap : mOk M_X1_indexOfGap 1 := ⟨by decide +kernel, k_28, k_5, by decide +kernel, by decide +kernel, by decide +kernel⟩
def M_X1_gapsAhead : MI := (yX1_gapsAhead, cX1_gapsAhead, 5, some .int, 2, 42)
theorem ok_X1_gapsAhead : mOk M_X1_gapsAhead 1 := ⟨by decide +kernel, k_29, k_5, by decide +kernel, by decide +kernel, by decide +kernel⟩
def M_X1_saveTo : MI := (yX1_saveTo, cX1_saveTo, 4, none, 1, 21)
theorem ok_X1_saveTo : mOk M_X1_saveTo 2 := ⟨by decide +kernel, k_30, k_5, by decide +kernel, by decide +kernel, by decide +kernel⟩
def M_X1_loadFrom : MI := (yX1_loadFrom, cX1_loadFrom, 4, none, 1, 22)
theorem ok_X1_loadFrom : mOk M_X1_loadFrom 2 := ⟨by decide +kernel, k_31, k_5, by decide +kernel, by decide +kernel, by decide +kernel⟩
def M_X2_append : MI := (yX2_append, cX2_append, 2, none, 0, 0)
theorem ok_X2_append : mOk M_X2_append 1 := ⟨by decide +kernel, k_32, k_33, by decide +kernel, by decide +kernel, by decide +kernel⟩
def M_X2_characterAt : MI := (yX2_characterAt, cX2_characterAt, 2, some .int, 0, 0)
theorem ok_X2_characterAt : mOk M_X2_characterAt 1 := ⟨by decide +kernel, k_34, k_33, by decide +kernel, by decide +kernel, by decide +kernel⟩
def M_X2_isDigit : MI := (yX2_isDigit, cX2_isDigit, 1, some .boolean, 1, 22)
theorem ok_X2_isDigit : mOk M_X2_isDigit 1 := ⟨by decide +kernel, k_35, k_33, by decide +kernel, by decide +kernel, by decide +kernel⟩
def M_X2_endsNumber : MI := (yX2_endsNumber, cX2_endsNumber, 2, some .boolean, 1, 21)
theorem ok_X2_endsNumber : mOk M_X2_endsNumber 1 := ⟨by decide +kernel, k_36, k_33, by decide +kernel, by decide +kernel, by decide +kernel⟩
def M_X2_firstFault : MI := (yX2_firstFault, cX2_firstFault, 9, some .int, 2, 42)
theorem ok_X2_firstFault : mOk M_X2_firstFault 1 := ⟨by decide +kernel, k_37, k_33, by decide +kernel, by decide +kernel, by decide +kernel⟩
def M_X2_fill : MI := (yX2_fill, cX2_fill, 4, none, 3, 66)
theorem ok_X2_fill : mOk M_X2_fill 1 := ⟨by decide +kernel, k_38, k_33, by decide +kernel, by decide +kernel, by decide +kernel⟩
def M_X3_add : MI := (yX3_add, cX3_add, 4, some .int, 4, 87)
theorem ok_X3_add : mOk M_X3_add 2 := ⟨by decide +kernel, k_39, k_40, by decide +kernel, by decide +kernel, by decide +kernel⟩
def M_X3_drop : MI := (yX3_drop, cX3_drop, 4, some .int, 4, 87)
theorem ok_X3_drop : mOk M_X3_drop 2 := ⟨by decide +kernel, k_41, k_40, by decide +kernel, by decide +kernel, by decide +kernel⟩
def M_X3_bound : MI := (yX3_bound, cX3_bound, 5, some .int, 4, 87)
theorem ok_X3_bound : mOk M_X3_bound 2 := ⟨by decide +kernel, k_42, k_40, by decide +kernel, by decide +kernel, by decide +kernel⟩
def M_X3_join : MI := (yX3_join, cX3_join, 5, some .int, 6, 128)
theorem ok_X3_join : mOk M_X3_join 1 := ⟨by decide +kernel, k_43, k_40, by decide +kernel, by decide +kernel, by decide +kernel⟩
def M_X3_exchange : MI := (yX3_exchange, cX3_exchange, 2, some .int, 4, 87)
theorem ok_X3_exchange : mOk M_X3_exchange 0 := ⟨by decide +kernel, k_44, k_40, by decide +kernel, by decide +kernel, by decide +kernel⟩
def M_X3_clear : MI := (yX3_clear, cX3_clear, 4, some .int, 4, 87)
theorem ok_X3_clear : mOk M_X3_clear 1 := ⟨by decide +kernel, k_45, k_40, by decide +kernel, by decide +kernel, by decide +kernel⟩
def M_X3_rowOf : MI := (yX3_rowOf, cX3_rowOf, 4, some .int, 4, 86)
theorem ok_X3_rowOf : mOk M_X3_rowOf 2 := ⟨by decide +kernel, k_46, k_40, by decide +kernel, by decide +kernel, by decide +kernel⟩
def M_X3_upperBit : MI := (yX3_upperBit, cX3_upperBit, 4, some .int, 5, 107)
theorem ok_X3_upperBit : mOk M_X3_upperBit 2 := ⟨by decide +kernel, k_47, k_40, by decide +kernel, by decide +kernel, by decide +kernel⟩
def M_X3_partOf : MI := (yX3_partOf, cX3_partOf, 6, some .int, 4, 85)
theorem ok_X3_partOf : mOk M_X3_partOf 3 := ⟨by decide +kernel, k_48, k_40, by decide +kernel, by decide +kernel, by decide +kernel⟩
def M_X3_sample : MI := (yX3_sample, cX3_sample, 6, some .int, 4, 85)
theorem ok_X3_sample : mOk M_X3_sample 3 := ⟨by decide +kernel, k_49, k_40, by decide +kernel, by decide +kernel, by decide +kernel⟩
def M_X3_lowerBits : MI := (yX3_lowerBits, cX3_lowerBits, 4, some .long, 4, 92)
theorem ok_X3_lowerBits : mOk M_X3_lowerBits 2 := ⟨by decide +kernel, k_50, k_40, by decide +kernel, by decide +kernel, by decide +kernel⟩
def M_X3_next : MI := (yX3_next, cX3_next, 6, some .int, 5, 111)
theorem ok_X3_next : mOk M_X3_next 3 := ⟨by decide +kernel, k_51, k_40, by decide +kernel, by decide +kernel, by decide +kernel⟩
def M_X3_below : MI := (yX3_below, cX3_below, 3, some .int, 2, 43)
theorem ok_X3_below : mOk M_X3_below 2 := ⟨by decide +kernel, k_52, k_40, by decide +kernel, by decide +kernel, by decide +kernel⟩
def M_X3_common : MI := (yX3_common, cX3_common, 2, some .int, 5, 107)
theorem ok_X3_common : mOk M_X3_common 1 := ⟨by decide +kernel, k_53, k_40, by decide +kernel, by decide +kernel, by decide +kernel⟩
def M_X3_perNumber : MI := (yX3_perNumber, cX3_perNumber, 3, some .int, 4, 86)
theorem ok_X3_perNumber : mOk M_X3_perNumber 1 := ⟨by decide +kernel, k_54, k_40, by decide +kernel, by decide +kernel, by decide +kernel⟩
def M_X3_bestBound : MI := (yX3_bestBound, cX3_bestBound, 5, some .int, 3, 66)
theorem ok_X3_bestBound : mOk M_X3_bestBound 2 := ⟨by decide +kernel, k_55, k_40, by decide +kernel, by decide +kernel, by decide +kernel⟩
def M_X3_gapOf : MI := (yX3_gapOf, cX3_gapOf, 6, some .int, 4, 88)
theorem ok_X3_gapOf : mOk M_X3_gapOf 3 := ⟨by decide +kernel, k_56, k_40, by decide +kernel, by decide +kernel, by decide +kernel⟩
def M_X3_count : MI := (yX3_count, cX3_count, 2, some .int, 4, 86)
theorem ok_X3_count : mOk M_X3_count 1 := ⟨by decide +kernel, k_57, k_40, by decide +kernel, by decide +kernel, by decide +kernel⟩
def M_X3_undo : MI := (yX3_undo, cX3_undo, 1, some .int, 3, 68)
theorem ok_X3_undo : mOk M_X3_undo 0 := ⟨by decide +kernel, k_58, k_40, by decide +kernel, by decide +kernel, by decide +kernel⟩
def M_X3_type : MI := (yX3_type, cX3_type, 2, some .int, 1, 22)
theorem ok_X3_type : mOk M_X3_type 1 := ⟨by decide +kernel, k_59, k_40, by decide +kernel, by decide +kernel, by decide +kernel⟩
def M_X3_clearText : MI := (yX3_clearText, cX3_clearText, 2, some .int, 0, 0)
theorem ok_X3_clearText : mOk M_X3_clearText 0 := ⟨by decide +kernel, k_60, k_40, by decide +kernel, by decide +kernel, by decide +kernel⟩
def M_X3_fault : MI := (yX3_fault, cX3_fault, 4, some .int, 3, 70)
theorem ok_X3_fault : mOk M_X3_fault 2 := ⟨by decide +kernel, k_61, k_40, by decide +kernel, by decide +kernel, by decide +kernel⟩
def M_X3_read : MI := (yX3_read, cX3_read, 3, some .int, 4, 89)
theorem ok_X3_read : mOk M_X3_read 1 := ⟨by decide +kernel, k_62, k_40, by decide +kernel, by decide +kernel, by decide +kernel⟩
def M_X3_isWithin : MI := (yX3_isWithin, cX3_isWithin, 3, some .boolean, 0, 0)
theorem ok_X3_isWithin : mOk M_X3_isWithin 3 := ⟨by decide +kernel, k_63, k_40, by decide +kernel, by decide +kernel, by decide +kernel⟩
def M_X3_isRow : MI := (yX3_isRow, cX3_isRow, 1, some .boolean, 1, 22)
theorem ok_X3_isRow : mOk M_X3_isRow 1 := ⟨by decide +kernel, k_64, k_40, by decide +kernel, by decide +kernel, by decide +kernel⟩
def M_X3_rowAt : MI := (yX3_rowAt, cX3_rowAt, 2, some (.object "RisingParts$Row"), 0, 0)
theorem ok_X3_rowAt : mOk M_X3_rowAt 1 := ⟨by decide +kernel, k_65, k_40, by decide +kernel, by decide +kernel, by decide +kernel⟩
def M_X3_remember : MI := (yX3_remember, cX3_remember, 1, none, 3, 67)
theorem ok_X3_remember : mOk M_X3_remember 0 := ⟨by decide +kernel, k_66, k_40, by decide +kernel, by decide +kernel, by decide +kernel⟩
def M_X3_samplesOf : MI := (yX3_samplesOf, cX3_samplesOf, 1, some .int, 0, 0)
theorem ok_X3_samplesOf : mOk M_X3_samplesOf 1 := ⟨by decide +kernel, k_67, k_40, by decide +kernel, by decide +kernel, by decide +kernel⟩
def M_X3_sampledAhead : MI := (yX3_sampledAhead, cX3_sampledAhead, 1, some .int, 0, 0)
theorem ok_X3_sampledAhead : mOk M_X3_sampledAhead 1 := ⟨by decide +kernel, k_68, k_40, by decide +kernel, by decide +kernel, by decide +kernel⟩
def M_X3_widthFor : MI := (yX3_widthFor, cX3_widthFor, 4, some .int, 0, 0)
theorem ok_X3_widthFor : mOk M_X3_widthFor 2 := ⟨by decide +kernel, k_69, k_40, by decide +kernel, by decide +kernel, by decide +kernel⟩
def M_X3_zerosFor : MI := (yX3_zerosFor, cX3_zerosFor, 3, some .int, 1, 23)
theorem ok_X3_zerosFor : mOk M_X3_zerosFor 2 := ⟨by decide +kernel, k_70, k_40, by decide +kernel, by decide +kernel, by decide +kernel⟩
def M_X3_bitsFor : MI := (yX3_bitsFor, cX3_bitsFor, 2, some .int, 2, 45)
theorem ok_X3_bitsFor : mOk M_X3_bitsFor 2 := ⟨by decide +kernel, k_71, k_40, by decide +kernel, by decide +kernel, by decide +kernel⟩
def M_X3_lowestBestBound : MI := (yX3_lowestBestBound, cX3_lowestBestBound, 1, some .int, 1, 21)
theorem ok_X3_lowestBestBound : mOk M_X3_lowestBestBound 1 := ⟨by decide +kernel, k_72, k_40, by decide +kernel, by decide +kernel, by decide +kernel⟩
def M_X3_bitsOfFloat : MI := (yX3_bitsOfFloat, cX3_bitsOfFloat, 3, some .int, 0, 0)
theorem ok_X3_bitsOfFloat : mOk M_X3_bitsOfFloat 1 := ⟨by decide +kernel, k_73, k_40, by decide +kernel, by decide +kernel, by decide +kernel⟩
def M_X3_joinedSize : MI := (yX3_joinedSize, cX3_joinedSize, 2, some .int, 5, 107)
theorem ok_X3_joinedSize : mOk M_X3_joinedSize 1 := ⟨by decide +kernel, k_74, k_40, by decide +kernel, by decide +kernel, by decide +kernel⟩
def M_X3_commonUnlike : MI := (yX3_commonUnlike, cX3_commonUnlike, 3, some .int, 4, 85)
theorem ok_X3_commonUnlike : mOk M_X3_commonUnlike 0 := ⟨by decide +kernel, k_75, k_40, by decide +kernel, by decide +kernel, by decide +kernel⟩
def M_X3_commonRepeated : MI := (yX3_commonRepeated, cX3_commonRepeated, 4, some .int, 3, 64)
theorem ok_X3_commonRepeated : mOk M_X3_commonRepeated 0 := ⟨by decide +kernel, k_76, k_40, by decide +kernel, by decide +kernel, by decide +kernel⟩
def M_X3_leastCommon : MI := (yX3_leastCommon, cX3_leastCommon, 3, some .int, 4, 85)
theorem ok_X3_leastCommon : mOk M_X3_leastCommon 0 := ⟨by decide +kernel, k_77, k_40, by decide +kernel, by decide +kernel, by decide +kernel⟩
def M_X3_leastDifference : MI := (yX3_leastDifference, cX3_leastDifference, 4, some .int, 1, 21)
theorem ok_X3_leastDifference : mOk M_X3_leastDifference 0 := ⟨by decide +kernel, k_78, k_40, by decide +kernel, by decide +kernel, by decide +kernel⟩
def M_X4_in : MI := (yX4_in, cX4_in, 3, some .boolean, 0, 0)
theorem ok_X4_in : mOk M_X4_in 3 := ⟨by decide +kernel, k_79, k_80, by decide +kernel, by decide +kernel, by decide +kernel⟩
def M_X4_many : MI := (yX4_many, cX4_many, 2, some .int, 0, 0)
theorem ok_X4_many : mOk M_X4_many 1 := ⟨by decide +kernel, k_81, k_80, by decide +kernel, by decide +kernel, by decide +kernel⟩
def M_X4_number : MI := (yX4_number, cX4_number, 3, some .int, 0, 0)
theorem ok_X4_number : mOk M_X4_number 2 := ⟨by decide +kernel, k_82, k_80, by decide +kernel, by decide +kernel, by decide +kernel⟩
def M_X4_keeps : MI := (yX4_keeps, cX4_keeps, 2, none, 0, 0)
theorem ok_X4_keeps : mOk M_X4_keeps 0 := ⟨by decide +kernel, k_83, k_80, by decide +kernel, by decide +kernel, by decide +kernel⟩
def M_X4_acted : MI := (yX4_acted, cX4_acted, 3, some .int, 0, 0)
theorem ok_X4_acted : mOk M_X4_acted 1 := ⟨by decide +kernel, k_84, k_80, by decide +kernel, by decide +kernel, by decide +kernel⟩
def M_X4_less : MI := (yX4_less, cX4_less, 4, some .int, 1, 22)
theorem ok_X4_less : mOk M_X4_less 2 := ⟨by decide +kernel, k_85, k_80, by decide +kernel, by decide +kernel, by decide +kernel⟩
def M_X4_add : MI := (yX4_add, cX4_add, 5, some .int, 2, 45)
theorem ok_X4_add : mOk M_X4_add 2 := ⟨by decide +kernel, k_86, k_80, by decide +kernel, by decide +kernel, by decide +kernel⟩
def M_X4_drop : MI := (yX4_drop, cX4_drop, 5, some .int, 1, 22)
theorem ok_X4_drop : mOk M_X4_drop 2 := ⟨by decide +kernel, k_87, k_80, by decide +kernel, by decide +kernel, by decide +kernel⟩
def M_X4_bound : MI := (yX4_bound, cX4_bound, 4, some .int, 1, 22)
theorem ok_X4_bound : mOk M_X4_bound 2 := ⟨by decide +kernel, k_88, k_80, by decide +kernel, by decide +kernel, by decide +kernel⟩
def M_X4_join : MI := (yX4_join, cX4_join, 7, some .int, 1, 22)
theorem ok_X4_join : mOk M_X4_join 1 := ⟨by decide +kernel, k_89, k_80, by decide +kernel, by decide +kernel, by decide +kernel⟩
def M_X4_exchange : MI := (yX4_exchange, cX4_exchange, 2, some .int, 1, 22)
theorem ok_X4_exchange : mOk M_X4_exchange 0 := ⟨by decide +kernel, k_90, k_80, by decide +kernel, by decide +kernel, by decide +kernel⟩
def M_X4_clear : MI := (yX4_clear, cX4_clear, 3, some .int, 1, 22)
theorem ok_X4_clear : mOk M_X4_clear 1 := ⟨by decide +kernel, k_91, k_80, by decide +kernel, by decide +kernel, by decide +kernel⟩
def M_X4_widthOf : MI := (yX4_widthOf, cX4_widthOf, 3, some .int, 0, 0)
theorem ok_X4_widthOf : mOk M_X4_widthOf 2 := ⟨by decide +kernel, k_92, k_80, by decide +kernel, by decide +kernel, by decide +kernel⟩
def M_X4_width : MI := (yX4_width, cX4_width, 2, some .int, 1, 22)
theorem ok_X4_width : mOk M_X4_width 1 := ⟨by decide +kernel, k_93, k_80, by decide +kernel, by decide +kernel, by decide +kernel⟩
def M_X4_upperBits : MI := (yX4_upperBits, cX4_upperBits, 3, some .int, 1, 22)
theorem ok_X4_upperBits : mOk M_X4_upperBits 2 := ⟨by decide +kernel, k_94, k_80, by decide +kernel, by decide +kernel, by decide +kernel⟩
def M_X4_sizeOf : MI := (yX4_sizeOf, cX4_sizeOf, 2, some .int, 2, 44)
theorem ok_X4_sizeOf : mOk M_X4_sizeOf 2 := ⟨by decide +kernel, k_95, k_80, by decide +kernel, by decide +kernel, by decide +kernel⟩
def M_X4_size : MI := (yX4_size, cX4_size, 2, some .int, 3, 65)
theorem ok_X4_size : mOk M_X4_size 1 := ⟨by decide +kernel, k_96, k_80, by decide +kernel, by decide +kernel, by decide +kernel⟩
def M_X4_placeOf : MI := (yX4_placeOf, cX4_placeOf, 3, some .int, 2, 43)
theorem ok_X4_placeOf : mOk M_X4_placeOf 2 := ⟨by decide +kernel, k_97, k_80, by decide +kernel, by decide +kernel, by decide +kernel⟩
def M_X4_lays : MI := (yX4_lays, cX4_lays, 3, none, 3, 65)
theorem ok_X4_lays : mOk M_X4_lays 1 := ⟨by decide +kernel, k_98, k_80, by decide +kernel, by decide +kernel, by decide +kernel⟩
def M_X4_unlike : MI := (yX4_unlike, cX4_unlike, 4, some .int, 1, 22)
theorem ok_X4_unlike : mOk M_X4_unlike 1 := ⟨by decide +kernel, k_99, k_80, by decide +kernel, by decide +kernel, by decide +kernel⟩
def M_X4_greatestGap : MI := (yX4_greatestGap, cX4_greatestGap, 5, some .int, 1, 22)
theorem ok_X4_greatestGap : mOk M_X4_greatestGap 1 := ⟨by decide +kernel, k_100, k_80, by decide +kernel, by decide +kernel, by decide +kernel⟩
def M_X4_rowOf : MI := (yX4_rowOf, cX4_rowOf, 3, some .int, 4, 87)
theorem ok_X4_rowOf : mOk M_X4_rowOf 2 := ⟨by decide +kernel, k_101, k_80, by decide +kernel, by decide +kernel, by decide +kernel⟩
def M_X4_upperBit : MI := (yX4_upperBit, cX4_upperBit, 3, some .int, 4, 87)
theorem ok_X4_upperBit : mOk M_X4_upperBit 2 := ⟨by decide +kernel, k_102, k_80, by decide +kernel, by decide +kernel, by decide +kernel⟩
def M_X4_lower : MI := (yX4_lower, cX4_lower, 3, some .int, 2, 43)
theorem ok_X4_lower : mOk M_X4_lower 2 := ⟨by decide +kernel, k_103, k_80, by decide +kernel, by decide +kernel, by decide +kernel⟩
def M_X4_partOf : MI := (yX4_partOf, cX4_partOf, 4, some .int, 3, 65)
theorem ok_X4_partOf : mOk M_X4_partOf 3 := ⟨by decide +kernel, k_104, k_80, by decide +kernel, by decide +kernel, by decide +kernel⟩
def M_X4_sample : MI := (yX4_sample, cX4_sample, 5, some .int, 4, 87)
theorem ok_X4_sample : mOk M_X4_sample 3 := ⟨by decide +kernel, k_105, k_80, by decide +kernel, by decide +kernel, by decide +kernel⟩
def M_X4_lowerBits : MI := (yX4_lowerBits, cX4_lowerBits, 9, some .long, 3, 65)
theorem ok_X4_lowerBits : mOk M_X4_lowerBits 2 := ⟨by decide +kernel, k_106, k_80, by decide +kernel, by decide +kernel, by decide +kernel⟩
def M_X4_finds : MI := (yX4_finds, cX4_finds, 8, none, 4, 87)
theorem ok_X4_finds : mOk M_X4_finds 2 := ⟨by decide +kernel, k_107, k_80, by decide +kernel, by decide +kernel, by decide +kernel⟩
def M_X4_next : MI := (yX4_next, cX4_next, 4, some .int, 5, 114)
theorem ok_X4_next : mOk M_X4_next 3 := ⟨by decide +kernel, k_108, k_80, by decide +kernel, by decide +kernel, by decide +kernel⟩
def M_X4_below : MI := (yX4_below, cX4_below, 3, some .int, 2, 45)
theorem ok_X4_below : mOk M_X4_below 2 := ⟨by decide +kernel, k_109, k_80, by decide +kernel, by decide +kernel, by decide +kernel⟩
def M_X4_has : MI := (yX4_has, cX4_has, 4, some .boolean, 2, 45)
theorem ok_X4_has : mOk M_X4_has 2 := ⟨by decide +kernel, k_110, k_80, by decide +kernel, by decide +kernel, by decide +kernel⟩
def M_X4_times : MI := (yX4_times, cX4_times, 3, some .int, 2, 45)
theorem ok_X4_times : mOk M_X4_times 2 := ⟨by decide +kernel, k_111, k_80, by decide +kernel, by decide +kernel, by decide +kernel⟩
def M_X4_difference : MI := (yX4_difference, cX4_difference, 5, some .int, 1, 22)
theorem ok_X4_difference : mOk M_X4_difference 0 := ⟨by decide +kernel, k_112, k_80, by decide +kernel, by decide +kernel, by decide +kernel⟩
def M_X4_common : MI := (yX4_common, cX4_common, 10, some .int, 3, 68)
theorem ok_X4_common : mOk M_X4_common 1 := ⟨by decide +kernel, k_113, k_80, by decide +kernel, by decide +kernel, by decide +kernel⟩
def M_X4_quotient : MI := (yX4_quotient, cX4_quotient, 11, some .int, 0, 0)
theorem ok_X4_quotient : mOk M_X4_quotient 2 := ⟨by decide +kernel, k_114, k_80, by decide +kernel, by decide +kernel, by decide +kernel⟩
def M_X4_perNumber : MI := (yX4_perNumber, cX4_perNumber, 2, some .int, 4, 86)
theorem ok_X4_perNumber : mOk M_X4_perNumber 1 := ⟨by decide +kernel, k_115, k_80, by decide +kernel, by decide +kernel, by decide +kernel⟩
def M_X4_bestBound : MI := (yX4_bestBound, cX4_bestBound, 6, some .int, 3, 65)
theorem ok_X4_bestBound : mOk M_X4_bestBound 2 := ⟨by decide +kernel, k_116, k_80, by decide +kernel, by decide +kernel, by decide +kernel⟩
def M_X4_gapOf : MI := (yX4_gapOf, cX4_gapOf, 9, some .int, 1, 22)
theorem ok_X4_gapOf : mOk M_X4_gapOf 3 := ⟨by decide +kernel, k_117, k_80, by decide +kernel, by decide +kernel, by decide +kernel⟩
def M_X4_count : MI := (yX4_count, cX4_count, 2, some .int, 4, 86)
theorem ok_X4_count : mOk M_X4_count 1 := ⟨by decide +kernel, k_118, k_80, by decide +kernel, by decide +kernel, by decide +kernel⟩
def M_X4_undo : MI := (yX4_undo, cX4_undo, 2, some .int, 0, 0)
theorem ok_X4_undo : mOk M_X4_undo 0 := ⟨by decide +kernel, k_119, k_80, by decide +kernel, by decide +kernel, by decide +kernel⟩
def M_X4_type : MI := (yX4_type, cX4_type, 2, some .int, 1, 22)
theorem ok_X4_type : mOk M_X4_type 1 := ⟨by decide +kernel, k_120, k_80, by decide +kernel, by decide +kernel, by decide +kernel⟩
def M_X4_clearText : MI := (yX4_clearText, cX4_clearText, 2, some .int, 0, 0)
theorem ok_X4_clearText : mOk M_X4_clearText 0 := ⟨by decide +kernel, k_121, k_80, by decide +kernel, by decide +kernel, by decide +kernel⟩
def M_X4_sign : MI := (yX4_sign, cX4_sign, 2, some .int, 0, 0)
theorem ok_X4_sign : mOk M_X4_sign 1 := ⟨by decide +kernel, k_122, k_80, by decide +kernel, by decide +kernel, by decide +kernel⟩
def M_X4_wrong : MI := (yX4_wrong, cX4_wrong, 3, some .int, 0, 0)
theorem ok_X4_wrong : mOk M_X4_wrong 2 := ⟨by decide +kernel, k_123, k_80, by decide +kernel, by decide +kernel, by decide +kernel⟩
def M_X4_faulty : MI := (yX4_faulty, cX4_faulty, 7, some .int, 1, 22)
theorem ok_X4_faulty : mOk M_X4_faulty 1 := ⟨by decide +kernel, k_124, k_80, by decide +kernel, by decide +kernel, by decide +kernel⟩
def M_X4_fault : MI := (yX4_fault, cX4_fault, 4, some .int, 2, 48)
theorem ok_X4_fault : mOk M_X4_fault 2 := ⟨by decide +kernel, k_125, k_80, by decide +kernel, by decide +kernel, by decide +kernel⟩
def M_X4_read : MI := (yX4_read, cX4_read, 3, some .int, 2, 48)
theorem ok_X4_read : mOk M_X4_read 1 := ⟨by decide +kernel, k_126, k_80, by decide +kernel, by decide +kernel, by decide +kernel⟩
