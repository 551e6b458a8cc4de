/-! printed by wip/whole/emit.py out of the claim's own listing -/
theorem wm_0 : Cond.constant "java/lang/Integer" 265 (1431655765 : Int32) ∈ ml_TB := ml_inTB (List.mem_append_right _ (List.mem_of_getElem? (i := 551) (by decide +kernel))) rfl
theorem wm_1 : Cond.constant "java/lang/Integer" 266 (858993459 : Int32) ∈ ml_TB := ml_inTB (List.mem_append_right _ (List.mem_of_getElem? (i := 552) (by decide +kernel))) rfl
theorem wm_2 : Cond.constant "java/lang/Integer" 267 (252645135 : Int32) ∈ ml_TB := ml_inTB (List.mem_append_right _ (List.mem_of_getElem? (i := 553) (by decide +kernel))) rfl
theorem wm_3 : Cond.arrayClass .int ∈ ml_TB := ml_inTB (List.mem_append_right _ (List.mem_of_getElem? (i := 132) (by decide +kernel))) rfl
theorem wm_4 : Cond.methodLink "java/util/Arrays" 304 ⟨"java/lang/Math", "min", "(II)I"⟩ ∈ ml_TB := ml_inTB (List.mem_append_right _ (List.mem_of_getElem? (i := 658) (by decide +kernel))) rfl
theorem wm_5 : Cond.static ⟨"java/lang/Math", "min", "(II)I"⟩ ∈ ml_TB := ml_inTB (List.mem_append_right _ (List.mem_of_getElem? (i := 590) (by decide +kernel))) rfl
theorem wm_6 : Cond.initialized "java/lang/Math" ∈ ml_TB := ml_inTB (List.mem_append_right _ (List.mem_of_getElem? (i := 12) (by decide +kernel))) rfl
theorem wm_7 : Cond.code Lib.Math.min.name Lib.Math.min.code 2 (some .int) ∈ ml_TB := ml_inTB (List.mem_append_right _ (List.mem_of_getElem? (i := 591) (by decide +kernel))) rfl
theorem wm_8 : Cond.methodLink "java/util/Arrays" 150 ⟨"java/lang/System", "arraycopy", "(Ljava/lang/Object;ILjava/lang/Object;II)V"⟩ ∈ ml_TB := ml_inTB (List.mem_append_right _ (List.mem_of_getElem? (i := 659) (by decide +kernel))) rfl
theorem wm_9 : Cond.native ⟨"java/lang/System", "arraycopy", "(Ljava/lang/Object;ILjava/lang/Object;II)V"⟩ ∈ ml_TB := ml_inTB (List.mem_append_right _ (List.mem_of_getElem? (i := 292) (by decide +kernel))) rfl
theorem wm_10 : Cond.static ⟨"java/lang/System", "arraycopy", "(Ljava/lang/Object;ILjava/lang/Object;II)V"⟩ ∈ ml_TB := ml_inTB (List.mem_append_right _ (List.mem_of_getElem? (i := 291) (by decide +kernel))) rfl
theorem wm_11 : Cond.initialized "java/lang/System" ∈ ml_TB := ml_inTB (List.mem_append_right _ (List.mem_of_getElem? (i := 7) (by decide +kernel))) rfl
theorem wm_12 : Cond.methodLink "java/util/Arrays" 316 ⟨"[I", "clone", "()Ljava/lang/Object;"⟩ ∈ ml_TB := ml_inTB (List.mem_append_right _ (List.mem_of_getElem? (i := 651) (by decide +kernel))) rfl
theorem wm_13 : Cond.sameMethod "[I" "java/lang/Object" "clone" "()Ljava/lang/Object;" ∈ ml_TB := ml_inTB (List.mem_append_right _ (List.mem_of_getElem? (i := 652) (by decide +kernel))) rfl
theorem wm_14 : Cond.native ⟨"java/lang/Object", "clone", "()Ljava/lang/Object;"⟩ ∈ ml_TB := ml_inTB (List.mem_append_right _ (List.mem_of_getElem? (i := 653) (by decide +kernel))) rfl
theorem wm_15 : Cond.instanceMethod ⟨"java/lang/Object", "clone", "()Ljava/lang/Object;"⟩ ∈ ml_TB := ml_inTB (List.mem_append_right _ (List.mem_of_getElem? (i := 654) (by decide +kernel))) rfl
theorem wm_16 : Cond.selects "[I" ⟨"[I", "clone", "()Ljava/lang/Object;"⟩ ⟨"java/lang/Object", "clone", "()Ljava/lang/Object;"⟩ ∈ ml_TB := ml_inTB (List.mem_append_right _ (List.mem_of_getElem? (i := 655) (by decide +kernel))) rfl
theorem wm_17 : Cond.classLink "java/util/Arrays" 317 "[I" ∈ ml_TB := ml_inTB (List.mem_append_right _ (List.mem_of_getElem? (i := 657) (by decide +kernel))) rfl
theorem wm_18 : Cond.methodLink "LostRoom$Book" 3 ⟨"java/lang/Object", "<init>", "()V"⟩ ∈ ml_TB := ml_inTB (List.mem_append_right _ (List.mem_of_getElem? (i := 34) (by decide +kernel))) rfl
theorem wm_19 : Cond.instanceMethod ⟨"java/lang/Object", "<init>", "()V"⟩ ∈ ml_TB := ml_inTB (List.mem_append_right _ (List.mem_of_getElem? (i := 23) (by decide +kernel))) rfl
theorem wm_20 : Cond.code ⟨"java/lang/Object", "<init>", "()V"⟩ object_method_1_code 1 none ∈ ml_TB := ml_inTB (List.mem_append_right _ (List.mem_of_getElem? (i := 24) (by decide +kernel))) rfl
theorem wm_21 : Cond.classLink "LostRoom$Book" 9 "LostRoom$Lodger" ∈ ml_TB := ml_inTB (List.mem_append_right _ (List.mem_of_getElem? (i := 35) (by decide +kernel))) rfl
theorem wm_22 : Cond.fieldLink "LostRoom$Book" 11 "LostRoom$Book" "lodgers" "[LLostRoom$Lodger;" ∈ ml_TB := ml_inTB (List.mem_append_right _ (List.mem_of_getElem? (i := 39) (by decide +kernel))) rfl
theorem wm_23 : Cond.classLink "LostRoom$Book" 17 "LostRoom$Trunk" ∈ ml_TB := ml_inTB (List.mem_append_right _ (List.mem_of_getElem? (i := 37) (by decide +kernel))) rfl
theorem wm_24 : Cond.fieldLink "LostRoom$Book" 19 "LostRoom$Book" "trunks" "[LLostRoom$Trunk;" ∈ ml_TB := ml_inTB (List.mem_append_right _ (List.mem_of_getElem? (i := 42) (by decide +kernel))) rfl
theorem wm_25 : Cond.fieldLink "LostRoom$Book" 23 "LostRoom$Book" "fault" "I" ∈ ml_TB := ml_inTB (List.mem_append_right _ (List.mem_of_getElem? (i := 51) (by decide +kernel))) rfl
theorem wm_26 : Cond.fieldLink "LostRoom$Book" 27 "LostRoom$Book" "bytes" "[B" ∈ ml_TB := ml_inTB (List.mem_append_right _ (List.mem_of_getElem? (i := 54) (by decide +kernel))) rfl
theorem wm_27 : Cond.methodLink "LostRoom$Sharings" 3 ⟨"java/lang/Object", "<init>", "()V"⟩ ∈ ml_TB := ml_inTB (List.mem_append_right _ (List.mem_of_getElem? (i := 87) (by decide +kernel))) rfl
theorem wm_28 : Cond.fieldLink "LostRoom$Sharings" 9 "LostRoom$Sharings" "stale" "Z" ∈ ml_TB := ml_inTB (List.mem_append_right _ (List.mem_of_getElem? (i := 88) (by decide +kernel))) rfl
theorem wm_29 : Cond.fieldLink "LostRoom$Sharings" 15 "LostRoom$Sharings" "first" "[I" ∈ ml_TB := ml_inTB (List.mem_append_right _ (List.mem_of_getElem? (i := 92) (by decide +kernel))) rfl
theorem wm_30 : Cond.fieldLink "LostRoom$Sharings" 19 "LostRoom$Sharings" "all" "[I" ∈ ml_TB := ml_inTB (List.mem_append_right _ (List.mem_of_getElem? (i := 94) (by decide +kernel))) rfl
theorem wm_31 : Cond.fieldLink "LostRoom$Sharings" 22 "LostRoom$Sharings" "pairs" "[I" ∈ ml_TB := ml_inTB (List.mem_append_right _ (List.mem_of_getElem? (i := 96) (by decide +kernel))) rfl
theorem wm_32 : Cond.fieldLink "LostRoom$Sharings" 25 "LostRoom$Sharings" "strangers" "[I" ∈ ml_TB := ml_inTB (List.mem_append_right _ (List.mem_of_getElem? (i := 100) (by decide +kernel))) rfl
theorem wm_33 : Cond.arrayClass .boolean ∈ ml_TB := ml_inTB (List.mem_append_right _ (List.mem_of_getElem? (i := 133) (by decide +kernel))) rfl
theorem wm_34 : Cond.fieldLink "LostRoom$Sharings" 28 "LostRoom$Sharings" "covers" "[Z" ∈ ml_TB := ml_inTB (List.mem_append_right _ (List.mem_of_getElem? (i := 101) (by decide +kernel))) rfl
theorem wm_35 : Cond.fieldLink "LostRoom$Sharings" 32 "LostRoom$Sharings" "notEarlier" "[I" ∈ ml_TB := ml_inTB (List.mem_append_right _ (List.mem_of_getElem? (i := 102) (by decide +kernel))) rfl
theorem wm_36 : Cond.fieldLink "LostRoom$Sharings" 35 "LostRoom$Sharings" "notLater" "[I" ∈ ml_TB := ml_inTB (List.mem_append_right _ (List.mem_of_getElem? (i := 103) (by decide +kernel))) rfl
theorem wm_37 : Cond.fieldLink "LostRoom$Sharings" 38 "LostRoom$Sharings" "chosen" "[I" ∈ ml_TB := ml_inTB (List.mem_append_right _ (List.mem_of_getElem? (i := 104) (by decide +kernel))) rfl
theorem wm_38 : Cond.methodLink "LostRoom$Lays" 3 ⟨"java/lang/Object", "<init>", "()V"⟩ ∈ ml_TB := ml_inTB (List.mem_append_right _ (List.mem_of_getElem? (i := 139) (by decide +kernel))) rfl
theorem wm_39 : Cond.fieldLink "LostRoom$Lays" 9 "LostRoom$Lays" "stale" "Z" ∈ ml_TB := ml_inTB (List.mem_append_right _ (List.mem_of_getElem? (i := 140) (by decide +kernel))) rfl
theorem wm_40 : Cond.fieldLink "LostRoom$Lays" 15 "LostRoom$Lays" "first" "[I" ∈ ml_TB := ml_inTB (List.mem_append_right _ (List.mem_of_getElem? (i := 146) (by decide +kernel))) rfl
theorem wm_41 : Cond.fieldLink "LostRoom$Lays" 19 "LostRoom$Lays" "joined" "[I" ∈ ml_TB := ml_inTB (List.mem_append_right _ (List.mem_of_getElem? (i := 149) (by decide +kernel))) rfl
theorem wm_42 : Cond.fieldLink "LostRoom$Lays" 22 "LostRoom$Lays" "sheets" "[I" ∈ ml_TB := ml_inTB (List.mem_append_right _ (List.mem_of_getElem? (i := 150) (by decide +kernel))) rfl
theorem wm_43 : Cond.fieldLink "LostRoom$Lays" 25 "LostRoom$Lays" "ways" "[I" ∈ ml_TB := ml_inTB (List.mem_append_right _ (List.mem_of_getElem? (i := 151) (by decide +kernel))) rfl
theorem wm_44 : Cond.methodLink "LostRoom$Journeys" 3 ⟨"java/lang/Object", "<init>", "()V"⟩ ∈ ml_TB := ml_inTB (List.mem_append_right _ (List.mem_of_getElem? (i := 174) (by decide +kernel))) rfl
theorem wm_45 : Cond.classLink "LostRoom$Journeys" 9 "LostRoom$Thing" ∈ ml_TB := ml_inTB (List.mem_append_right _ (List.mem_of_getElem? (i := 175) (by decide +kernel))) rfl
theorem wm_46 : Cond.fieldLink "LostRoom$Journeys" 11 "LostRoom$Journeys" "tickets" "[LLostRoom$Thing;" ∈ ml_TB := ml_inTB (List.mem_append_right _ (List.mem_of_getElem? (i := 176) (by decide +kernel))) rfl
theorem wm_47 : Cond.fieldLink "LostRoom$Journeys" 17 "LostRoom$Journeys" "ahead" "[I" ∈ ml_TB := ml_inTB (List.mem_append_right _ (List.mem_of_getElem? (i := 178) (by decide +kernel))) rfl
theorem wm_48 : Cond.fieldLink "LostRoom$Journeys" 21 "LostRoom$Journeys" "lasts" "[I" ∈ ml_TB := ml_inTB (List.mem_append_right _ (List.mem_of_getElem? (i := 179) (by decide +kernel))) rfl
theorem wm_49 : Cond.fieldLink "LostRoom$Journeys" 24 "LostRoom$Journeys" "over" "[I" ∈ ml_TB := ml_inTB (List.mem_append_right _ (List.mem_of_getElem? (i := 180) (by decide +kernel))) rfl
theorem wm_50 : Cond.fieldLink "LostRoom$Journeys" 27 "LostRoom$Journeys" "people" "[I" ∈ ml_TB := ml_inTB (List.mem_append_right _ (List.mem_of_getElem? (i := 181) (by decide +kernel))) rfl
theorem wm_51 : Cond.methodLink "LostRoom" 1 ⟨"java/lang/Object", "<init>", "()V"⟩ ∈ ml_TB := ml_inTB (List.mem_append_right _ (List.mem_of_getElem? (i := 22) (by decide +kernel))) rfl
theorem wm_52 : Cond.classLink "LostRoom" 9 "[I" ∈ ml_TB := ml_inTB (List.mem_append_right _ (List.mem_of_getElem? (i := 25) (by decide +kernel))) rfl
theorem wm_53 : Cond.fieldLink "LostRoom" 11 "LostRoom" "rows" "[[I" ∈ ml_TB := ml_inTB (List.mem_append_right _ (List.mem_of_getElem? (i := 195) (by decide +kernel))) rfl
theorem wm_54 : Cond.classLink "LostRoom" 15 "[B" ∈ ml_TB := ml_inTB (List.mem_append_right _ (List.mem_of_getElem? (i := 27) (by decide +kernel))) rfl
theorem wm_55 : Cond.fieldLink "LostRoom" 17 "LostRoom" "texts" "[[B" ∈ ml_TB := ml_inTB (List.mem_append_right _ (List.mem_of_getElem? (i := 196) (by decide +kernel))) rfl
theorem wm_56 : Cond.classLink "LostRoom" 21 "LostRoom$Book" ∈ ml_TB := ml_inTB (List.mem_append_right _ (List.mem_of_getElem? (i := 29) (by decide +kernel))) rfl
theorem wm_57 : Cond.instantiable "LostRoom$Book" 8 ∈ ml_TB := ml_inTB (List.mem_append_right _ (List.mem_of_getElem? (i := 30) (by decide +kernel))) rfl
theorem wm_58 : Cond.initialized "LostRoom$Book" ∈ ml_TB := ml_inTB (List.mem_append_right _ (List.mem_of_getElem? (i := 2) (by decide +kernel))) rfl
theorem wm_59 : Cond.arrayClass .byte ∈ ml_TB := ml_inTB (List.mem_append_right _ (List.mem_of_getElem? (i := 73) (by decide +kernel))) rfl
theorem wm_60 : Cond.code yX1_init cX1_init 2 none ∈ ml_TB := ml_inTB (List.mem_append_right _ (List.mem_of_getElem? (i := 33) (by decide +kernel))) rfl
theorem wm_61 : Cond.instanceMethod ⟨"LostRoom$Book", "<init>", "([B)V"⟩ ∈ ml_TB := ml_inTB (List.mem_append_right _ (List.mem_of_getElem? (i := 32) (by decide +kernel))) rfl
theorem wm_62 : Cond.methodLink "LostRoom" 23 ⟨"LostRoom$Book", "<init>", "([B)V"⟩ ∈ ml_TB := ml_inTB (List.mem_append_right _ (List.mem_of_getElem? (i := 31) (by decide +kernel))) rfl
theorem wm_63 : Cond.fieldLink "LostRoom" 26 "LostRoom" "house" "LLostRoom$Book;" ∈ ml_TB := ml_inTB (List.mem_append_right _ (List.mem_of_getElem? (i := 197) (by decide +kernel))) rfl
theorem wm_64 : Cond.fieldLink "LostRoom" 30 "LostRoom" "wear" "I" ∈ ml_TB := ml_inTB (List.mem_append_right _ (List.mem_of_getElem? (i := 198) (by decide +kernel))) rfl
theorem wm_65 : Cond.classLink "LostRoom" 34 "LostRoom$Thing" ∈ ml_TB := ml_inTB (List.mem_append_right _ (List.mem_of_getElem? (i := 74) (by decide +kernel))) rfl
theorem wm_66 : Cond.fieldLink "LostRoom" 36 "LostRoom" "things" "[LLostRoom$Thing;" ∈ ml_TB := ml_inTB (List.mem_append_right _ (List.mem_of_getElem? (i := 199) (by decide +kernel))) rfl
theorem wm_67 : Cond.classLink "LostRoom" 40 "LostRoom$Line" ∈ ml_TB := ml_inTB (List.mem_append_right _ (List.mem_of_getElem? (i := 76) (by decide +kernel))) rfl
theorem wm_68 : Cond.fieldLink "LostRoom" 42 "LostRoom" "lines" "[LLostRoom$Line;" ∈ ml_TB := ml_inTB (List.mem_append_right _ (List.mem_of_getElem? (i := 201) (by decide +kernel))) rfl
theorem wm_69 : Cond.classLink "LostRoom" 46 "LostRoom$Bit" ∈ ml_TB := ml_inTB (List.mem_append_right _ (List.mem_of_getElem? (i := 78) (by decide +kernel))) rfl
theorem wm_70 : Cond.fieldLink "LostRoom" 48 "LostRoom" "bits" "[LLostRoom$Bit;" ∈ ml_TB := ml_inTB (List.mem_append_right _ (List.mem_of_getElem? (i := 203) (by decide +kernel))) rfl
theorem wm_71 : Cond.classLink "LostRoom" 52 "LostRoom$Claim" ∈ ml_TB := ml_inTB (List.mem_append_right _ (List.mem_of_getElem? (i := 80) (by decide +kernel))) rfl
theorem wm_72 : Cond.fieldLink "LostRoom" 54 "LostRoom" "claims" "[LLostRoom$Claim;" ∈ ml_TB := ml_inTB (List.mem_append_right _ (List.mem_of_getElem? (i := 205) (by decide +kernel))) rfl
theorem wm_73 : Cond.classLink "LostRoom" 58 "LostRoom$Sharings" ∈ ml_TB := ml_inTB (List.mem_append_right _ (List.mem_of_getElem? (i := 82) (by decide +kernel))) rfl
theorem wm_74 : Cond.instantiable "LostRoom$Sharings" 13 ∈ ml_TB := ml_inTB (List.mem_append_right _ (List.mem_of_getElem? (i := 83) (by decide +kernel))) rfl
theorem wm_75 : Cond.initialized "LostRoom$Sharings" ∈ ml_TB := ml_inTB (List.mem_append_right _ (List.mem_of_getElem? (i := 3) (by decide +kernel))) rfl
theorem wm_76 : Cond.code yX7_init cX7_init 1 none ∈ ml_TB := ml_inTB (List.mem_append_right _ (List.mem_of_getElem? (i := 86) (by decide +kernel))) rfl
theorem wm_77 : Cond.instanceMethod ⟨"LostRoom$Sharings", "<init>", "()V"⟩ ∈ ml_TB := ml_inTB (List.mem_append_right _ (List.mem_of_getElem? (i := 85) (by decide +kernel))) rfl
theorem wm_78 : Cond.fieldLink "LostRoom" 61 "LostRoom" "sharings" "LLostRoom$Sharings;" ∈ ml_TB := ml_inTB (List.mem_append_right _ (List.mem_of_getElem? (i := 207) (by decide +kernel))) rfl
theorem wm_79 : Cond.classLink "LostRoom" 65 "LostRoom$Lays" ∈ ml_TB := ml_inTB (List.mem_append_right _ (List.mem_of_getElem? (i := 134) (by decide +kernel))) rfl
theorem wm_80 : Cond.instantiable "LostRoom$Lays" 8 ∈ ml_TB := ml_inTB (List.mem_append_right _ (List.mem_of_getElem? (i := 135) (by decide +kernel))) rfl
theorem wm_81 : Cond.initialized "LostRoom$Lays" ∈ ml_TB := ml_inTB (List.mem_append_right _ (List.mem_of_getElem? (i := 4) (by decide +kernel))) rfl
theorem wm_82 : Cond.code yX4_init cX4_init 1 none ∈ ml_TB := ml_inTB (List.mem_append_right _ (List.mem_of_getElem? (i := 138) (by decide +kernel))) rfl
theorem wm_83 : Cond.instanceMethod ⟨"LostRoom$Lays", "<init>", "()V"⟩ ∈ ml_TB := ml_inTB (List.mem_append_right _ (List.mem_of_getElem? (i := 137) (by decide +kernel))) rfl
theorem wm_84 : Cond.fieldLink "LostRoom" 68 "LostRoom" "lays" "LLostRoom$Lays;" ∈ ml_TB := ml_inTB (List.mem_append_right _ (List.mem_of_getElem? (i := 208) (by decide +kernel))) rfl
theorem wm_85 : Cond.classLink "LostRoom" 72 "LostRoom$Journeys" ∈ ml_TB := ml_inTB (List.mem_append_right _ (List.mem_of_getElem? (i := 169) (by decide +kernel))) rfl
theorem wm_86 : Cond.instantiable "LostRoom$Journeys" 6 ∈ ml_TB := ml_inTB (List.mem_append_right _ (List.mem_of_getElem? (i := 170) (by decide +kernel))) rfl
theorem wm_87 : Cond.initialized "LostRoom$Journeys" ∈ ml_TB := ml_inTB (List.mem_append_right _ (List.mem_of_getElem? (i := 5) (by decide +kernel))) rfl
theorem wm_88 : Cond.code yX3_init cX3_init 1 none ∈ ml_TB := ml_inTB (List.mem_append_right _ (List.mem_of_getElem? (i := 173) (by decide +kernel))) rfl
theorem wm_89 : Cond.instanceMethod ⟨"LostRoom$Journeys", "<init>", "()V"⟩ ∈ ml_TB := ml_inTB (List.mem_append_right _ (List.mem_of_getElem? (i := 172) (by decide +kernel))) rfl
theorem wm_90 : Cond.fieldLink "LostRoom" 75 "LostRoom" "journeys" "LLostRoom$Journeys;" ∈ ml_TB := ml_inTB (List.mem_append_right _ (List.mem_of_getElem? (i := 209) (by decide +kernel))) rfl
theorem wm_91 : Cond.fieldLink "LostRoom" 79 "LostRoom" "findings" "[I" ∈ ml_TB := ml_inTB (List.mem_append_right _ (List.mem_of_getElem? (i := 213) (by decide +kernel))) rfl
theorem wm_92 : Cond.fieldLink "LostRoomModel" 22 "LostRoomModel" "textSizes" "[I" ∈ ml_TB := ml_inTB (List.mem_append_right _ (List.mem_of_getElem? (i := 948) (by decide +kernel))) rfl
theorem wm_93 : Cond.fieldLink "LostRoomModel" 13 "LostRoomModel" "sizes" "[I" ∈ ml_TB := ml_inTB (List.mem_append_right _ (List.mem_of_getElem? (i := 945) (by decide +kernel))) rfl
theorem wm_94 : Cond.methodLink "LostRoomModel" 1 ⟨"java/lang/Object", "<init>", "()V"⟩ ∈ ml_TB := ml_inTB (List.mem_append_right _ (List.mem_of_getElem? (i := 940) (by decide +kernel))) rfl
theorem wm_95 : Cond.fieldLink "LostRoomModel" 7 "LostRoomModel" "came" "[I" ∈ ml_TB := ml_inTB (List.mem_append_right _ (List.mem_of_getElem? (i := 942) (by decide +kernel))) rfl
theorem wm_96 : Cond.fieldLink "LostRoomModel" 16 "LostRoomModel" "rows" "[I" ∈ ml_TB := ml_inTB (List.mem_append_right _ (List.mem_of_getElem? (i := 946) (by decide +kernel))) rfl
theorem wm_97 : Cond.fieldLink "LostRoomModel" 19 "LostRoomModel" "copied" "[I" ∈ ml_TB := ml_inTB (List.mem_append_right _ (List.mem_of_getElem? (i := 947) (by decide +kernel))) rfl
theorem wm_98 : Cond.fieldLink "LostRoomModel" 25 "LostRoomModel" "bytes" "[B" ∈ ml_TB := ml_inTB (List.mem_append_right _ (List.mem_of_getElem? (i := 949) (by decide +kernel))) rfl
theorem wm_99 : Cond.fieldLink "LostRoomModel" 29 "LostRoomModel" "lodgers" "[I" ∈ ml_TB := ml_inTB (List.mem_append_right _ (List.mem_of_getElem? (i := 953) (by decide +kernel))) rfl
theorem wm_100 : Cond.fieldLink "LostRoomModel" 32 "LostRoomModel" "trunks" "[I" ∈ ml_TB := ml_inTB (List.mem_append_right _ (List.mem_of_getElem? (i := 954) (by decide +kernel))) rfl
theorem wm_101 : Cond.fieldLink "LostRoomModel" 35 "LostRoomModel" "piles" "[I" ∈ ml_TB := ml_inTB (List.mem_append_right _ (List.mem_of_getElem? (i := 955) (by decide +kernel))) rfl
theorem wm_102 : Cond.fieldLink "LostRoomModel" 38 "LostRoomModel" "readLodger" "[I" ∈ ml_TB := ml_inTB (List.mem_append_right _ (List.mem_of_getElem? (i := 961) (by decide +kernel))) rfl
theorem wm_103 : Cond.fieldLink "LostRoomModel" 41 "LostRoomModel" "readTrunk" "[I" ∈ ml_TB := ml_inTB (List.mem_append_right _ (List.mem_of_getElem? (i := 962) (by decide +kernel))) rfl
theorem wm_104 : Cond.fieldLink "LostRoomModel" 44 "LostRoomModel" "readPile" "[I" ∈ ml_TB := ml_inTB (List.mem_append_right _ (List.mem_of_getElem? (i := 963) (by decide +kernel))) rfl
theorem wm_105 : Cond.fieldLink "LostRoomModel" 47 "LostRoomModel" "things" "[I" ∈ ml_TB := ml_inTB (List.mem_append_right _ (List.mem_of_getElem? (i := 966) (by decide +kernel))) rfl
theorem wm_106 : Cond.fieldLink "LostRoomModel" 50 "LostRoomModel" "waysOn" "[I" ∈ ml_TB := ml_inTB (List.mem_append_right _ (List.mem_of_getElem? (i := 967) (by decide +kernel))) rfl
theorem wm_107 : Cond.fieldLink "LostRoomModel" 53 "LostRoomModel" "owner" "[I" ∈ ml_TB := ml_inTB (List.mem_append_right _ (List.mem_of_getElem? (i := 968) (by decide +kernel))) rfl
theorem wm_108 : Cond.fieldLink "LostRoomModel" 56 "LostRoomModel" "bestOwner" "[I" ∈ ml_TB := ml_inTB (List.mem_append_right _ (List.mem_of_getElem? (i := 970) (by decide +kernel))) rfl
theorem wm_109 : Cond.fieldLink "LostRoomModel" 59 "LostRoomModel" "often" "[I" ∈ ml_TB := ml_inTB (List.mem_append_right _ (List.mem_of_getElem? (i := 972) (by decide +kernel))) rfl
theorem wm_110 : Cond.fieldLink "LostRoomModel" 62 "LostRoomModel" "lines" "[I" ∈ ml_TB := ml_inTB (List.mem_append_right _ (List.mem_of_getElem? (i := 976) (by decide +kernel))) rfl
theorem wm_111 : Cond.fieldLink "LostRoomModel" 65 "LostRoomModel" "readingsOn" "[I" ∈ ml_TB := ml_inTB (List.mem_append_right _ (List.mem_of_getElem? (i := 977) (by decide +kernel))) rfl
theorem wm_112 : Cond.fieldLink "LostRoomModel" 68 "LostRoomModel" "pieces" "[I" ∈ ml_TB := ml_inTB (List.mem_append_right _ (List.mem_of_getElem? (i := 979) (by decide +kernel))) rfl
theorem wm_113 : Cond.fieldLink "LostRoomModel" 71 "LostRoomModel" "gaps" "[I" ∈ ml_TB := ml_inTB (List.mem_append_right _ (List.mem_of_getElem? (i := 980) (by decide +kernel))) rfl
theorem wm_114 : Cond.fieldLink "LostRoomModel" 74 "LostRoomModel" "gapWays" "[I" ∈ ml_TB := ml_inTB (List.mem_append_right _ (List.mem_of_getElem? (i := 981) (by decide +kernel))) rfl
theorem wm_115 : Cond.fieldLink "LostRoomModel" 77 "LostRoomModel" "tickets" "[I" ∈ ml_TB := ml_inTB (List.mem_append_right _ (List.mem_of_getElem? (i := 983) (by decide +kernel))) rfl
theorem wm_116 : Cond.fieldLink "LostRoomModel" 80 "LostRoomModel" "yearBy" "[I" ∈ ml_TB := ml_inTB (List.mem_append_right _ (List.mem_of_getElem? (i := 984) (by decide +kernel))) rfl
theorem wm_117 : Cond.fieldLink "LostRoomModel" 83 "LostRoomModel" "isOne" "[Z" ∈ ml_TB := ml_inTB (List.mem_append_right _ (List.mem_of_getElem? (i := 985) (by decide +kernel))) rfl
theorem wm_118 : Cond.fieldLink "LostRoomModel" 87 "LostRoomModel" "fewestOf" "[I" ∈ ml_TB := ml_inTB (List.mem_append_right _ (List.mem_of_getElem? (i := 986) (by decide +kernel))) rfl
theorem wm_119 : Cond.fieldLink "LostRoomModel" 90 "LostRoomModel" "claims" "[I" ∈ ml_TB := ml_inTB (List.mem_append_right _ (List.mem_of_getElem? (i := 988) (by decide +kernel))) rfl
theorem wm_120 : Cond.fieldLink "LostRoomModel" 93 "LostRoomModel" "worn" "I" ∈ ml_TB := ml_inTB (List.mem_append_right _ (List.mem_of_getElem? (i := 964) (by decide +kernel))) rfl
theorem wm_121 : Cond.code yX10_within cX10_within 3 (some .boolean) ∈ ml_TB := ml_inTB (List.mem_append_right _ (List.mem_of_getElem? (i := 262) (by decide +kernel))) rfl
theorem wm_122 : Cond.initialized "LostRoom" ∈ ml_TB := ml_inTB (List.mem_append_right _ (List.mem_of_getElem? (i := 1) (by decide +kernel))) rfl
theorem wm_123 : Cond.static ⟨"LostRoom", "within", "(III)Z"⟩ ∈ ml_TB := ml_inTB (List.mem_append_right _ (List.mem_of_getElem? (i := 261) (by decide +kernel))) rfl
theorem wm_124 : Cond.methodLink "LostRoom" 138 ⟨"LostRoom", "within", "(III)Z"⟩ ∈ ml_TB := ml_inTB (List.mem_append_right _ (List.mem_of_getElem? (i := 260) (by decide +kernel))) rfl
theorem wm_125 : Cond.fieldLink "LostRoom" 335 "LostRoom" "finding" "I" ∈ ml_TB := ml_inTB (List.mem_append_right _ (List.mem_of_getElem? (i := 212) (by decide +kernel))) rfl
theorem wm_126 : Cond.code yX10_isRow cX10_isRow 1 (some .boolean) ∈ ml_TB := ml_inTB (List.mem_append_right _ (List.mem_of_getElem? (i := 259) (by decide +kernel))) rfl
theorem wm_127 : Cond.static ⟨"LostRoom", "isRow", "(I)Z"⟩ ∈ ml_TB := ml_inTB (List.mem_append_right _ (List.mem_of_getElem? (i := 258) (by decide +kernel))) rfl
theorem wm_128 : Cond.methodLink "LostRoom" 82 ⟨"LostRoom", "isRow", "(I)Z"⟩ ∈ ml_TB := ml_inTB (List.mem_append_right _ (List.mem_of_getElem? (i := 257) (by decide +kernel))) rfl
theorem wm_129 : Cond.code yX10_found cX10_found 2 (some .int) ∈ ml_TB := ml_inTB (List.mem_append_right _ (List.mem_of_getElem? (i := 266) (by decide +kernel))) rfl
theorem wm_130 : Cond.instanceMethod ⟨"LostRoom", "found", "(I)I"⟩ ∈ ml_TB := ml_inTB (List.mem_append_right _ (List.mem_of_getElem? (i := 265) (by decide +kernel))) rfl
theorem wm_131 : Cond.selects "LostRoom" ⟨"LostRoom", "found", "(I)I"⟩ ⟨"LostRoom", "found", "(I)I"⟩ ∈ ml_TB := ml_inTB (List.mem_append_left _ (List.mem_of_getElem? (i := 0) (by decide +kernel))) rfl
theorem wm_132 : Cond.methodLink "LostRoom" 86 ⟨"LostRoom", "found", "(I)I"⟩ ∈ ml_TB := ml_inTB (List.mem_append_right _ (List.mem_of_getElem? (i := 263) (by decide +kernel))) rfl
theorem wm_133 : Cond.code yX11_in cX11_in 3 (some .boolean) ∈ ml_TB := ml_inTB (List.mem_append_right _ (List.mem_of_getElem? (i := 1099) (by decide +kernel))) rfl
theorem wm_134 : Cond.initialized "LostRoomModel" ∈ ml_TB := ml_inTB (List.mem_append_right _ (List.mem_of_getElem? (i := 6) (by decide +kernel))) rfl
theorem wm_135 : Cond.static ⟨"LostRoomModel", "in", "(III)Z"⟩ ∈ ml_TB := ml_inTB (List.mem_append_right _ (List.mem_of_getElem? (i := 1098) (by decide +kernel))) rfl
theorem wm_136 : Cond.methodLink "LostRoomModel" 100 ⟨"LostRoomModel", "in", "(III)Z"⟩ ∈ ml_TB := ml_inTB (List.mem_append_right _ (List.mem_of_getElem? (i := 1097) (by decide +kernel))) rfl
theorem wm_137 : Cond.fieldLink "LostRoomModel" 97 "LostRoomModel" "latest" "I" ∈ ml_TB := ml_inTB (List.mem_append_right _ (List.mem_of_getElem? (i := 941) (by decide +kernel))) rfl
theorem wm_138 : Cond.code yX11_isRow cX11_isRow 1 (some .boolean) ∈ ml_TB := ml_inTB (List.mem_append_right _ (List.mem_of_getElem? (i := 1114) (by decide +kernel))) rfl
theorem wm_139 : Cond.static ⟨"LostRoomModel", "isRow", "(I)Z"⟩ ∈ ml_TB := ml_inTB (List.mem_append_right _ (List.mem_of_getElem? (i := 1113) (by decide +kernel))) rfl
theorem wm_140 : Cond.methodLink "LostRoomModel" 111 ⟨"LostRoomModel", "isRow", "(I)Z"⟩ ∈ ml_TB := ml_inTB (List.mem_append_right _ (List.mem_of_getElem? (i := 1112) (by decide +kernel))) rfl
theorem wm_141 : Cond.code yX11_meets cX11_meets 2 (some .int) ∈ ml_TB := ml_inTB (List.mem_append_right _ (List.mem_of_getElem? (i := 1118) (by decide +kernel))) rfl
theorem wm_142 : Cond.instanceMethod ⟨"LostRoomModel", "meets", "(I)I"⟩ ∈ ml_TB := ml_inTB (List.mem_append_right _ (List.mem_of_getElem? (i := 1117) (by decide +kernel))) rfl
theorem wm_143 : Cond.selects "LostRoomModel" ⟨"LostRoomModel", "meets", "(I)I"⟩ ⟨"LostRoomModel", "meets", "(I)I"⟩ ∈ ml_TB := ml_inTB (List.mem_append_left _ (List.mem_of_getElem? (i := 50) (by decide +kernel))) rfl
theorem wm_144 : Cond.methodLink "LostRoomModel" 115 ⟨"LostRoomModel", "meets", "(I)I"⟩ ∈ ml_TB := ml_inTB (List.mem_append_right _ (List.mem_of_getElem? (i := 1115) (by decide +kernel))) rfl
theorem wm_145 : Cond.fieldLink "LostRoom" 203 "LostRoom" "asked" "I" ∈ ml_TB := ml_inTB (List.mem_append_right _ (List.mem_of_getElem? (i := 210) (by decide +kernel))) rfl
theorem wm_146 : Cond.code yX10_tell cX10_tell 2 (some .int) ∈ ml_TB := ml_inTB (List.mem_append_right _ (List.mem_of_getElem? (i := 274) (by decide +kernel))) rfl
theorem wm_147 : Cond.instanceMethod ⟨"LostRoom", "tell", "(I)I"⟩ ∈ ml_TB := ml_inTB (List.mem_append_right _ (List.mem_of_getElem? (i := 273) (by decide +kernel))) rfl
theorem wm_148 : Cond.selects "LostRoom" ⟨"LostRoom", "tell", "(I)I"⟩ ⟨"LostRoom", "tell", "(I)I"⟩ ∈ ml_TB := ml_inTB (List.mem_append_left _ (List.mem_of_getElem? (i := 1) (by decide +kernel))) rfl
theorem wm_149 : Cond.methodLink "LostRoom" 90 ⟨"LostRoom", "tell", "(I)I"⟩ ∈ ml_TB := ml_inTB (List.mem_append_right _ (List.mem_of_getElem? (i := 271) (by decide +kernel))) rfl
theorem wm_150 : Cond.fieldLink "LostRoomModel" 104 "LostRoomModel" "asked" "I" ∈ ml_TB := ml_inTB (List.mem_append_right _ (List.mem_of_getElem? (i := 943) (by decide +kernel))) rfl
theorem wm_151 : Cond.code yX11_rowAt cX11_rowAt 3 (some .int) ∈ ml_TB := ml_inTB (List.mem_append_right _ (List.mem_of_getElem? (i := 1126) (by decide +kernel))) rfl
theorem wm_152 : Cond.instanceMethod ⟨"LostRoomModel", "rowAt", "(II)I"⟩ ∈ ml_TB := ml_inTB (List.mem_append_right _ (List.mem_of_getElem? (i := 1125) (by decide +kernel))) rfl
theorem wm_153 : Cond.selects "LostRoomModel" ⟨"LostRoomModel", "rowAt", "(II)I"⟩ ⟨"LostRoomModel", "rowAt", "(II)I"⟩ ∈ ml_TB := ml_inTB (List.mem_append_left _ (List.mem_of_getElem? (i := 51) (by decide +kernel))) rfl
theorem wm_154 : Cond.methodLink "LostRoomModel" 119 ⟨"LostRoomModel", "rowAt", "(II)I"⟩ ∈ ml_TB := ml_inTB (List.mem_append_right _ (List.mem_of_getElem? (i := 1123) (by decide +kernel))) rfl
theorem wm_155 : Cond.code yX11_tells cX11_tells 3 (some .int) ∈ ml_TB := ml_inTB (List.mem_append_right _ (List.mem_of_getElem? (i := 1130) (by decide +kernel))) rfl
theorem wm_156 : Cond.instanceMethod ⟨"LostRoomModel", "tells", "(II)I"⟩ ∈ ml_TB := ml_inTB (List.mem_append_right _ (List.mem_of_getElem? (i := 1129) (by decide +kernel))) rfl
theorem wm_157 : Cond.selects "LostRoomModel" ⟨"LostRoomModel", "tells", "(II)I"⟩ ⟨"LostRoomModel", "tells", "(II)I"⟩ ∈ ml_TB := ml_inTB (List.mem_append_left _ (List.mem_of_getElem? (i := 52) (by decide +kernel))) rfl
theorem wm_158 : Cond.methodLink "LostRoomModel" 123 ⟨"LostRoomModel", "tells", "(II)I"⟩ ∈ ml_TB := ml_inTB (List.mem_append_right _ (List.mem_of_getElem? (i := 1127) (by decide +kernel))) rfl
theorem wm_159 : Cond.code yX10_hasRun cX10_hasRun 3 (some .boolean) ∈ ml_TB := ml_inTB (List.mem_append_right _ (List.mem_of_getElem? (i := 289) (by decide +kernel))) rfl
theorem wm_160 : Cond.static ⟨"LostRoom", "hasRun", "(III)Z"⟩ ∈ ml_TB := ml_inTB (List.mem_append_right _ (List.mem_of_getElem? (i := 288) (by decide +kernel))) rfl
theorem wm_161 : Cond.methodLink "LostRoom" 93 ⟨"LostRoom", "hasRun", "(III)Z"⟩ ∈ ml_TB := ml_inTB (List.mem_append_right _ (List.mem_of_getElem? (i := 287) (by decide +kernel))) rfl
theorem wm_162 : Cond.methodLink "LostRoom" 97 ⟨"java/lang/System", "arraycopy", "(Ljava/lang/Object;ILjava/lang/Object;II)V"⟩ ∈ ml_TB := ml_inTB (List.mem_append_right _ (List.mem_of_getElem? (i := 290) (by decide +kernel))) rfl
theorem wm_163 : Cond.code yX10_isText cX10_isText 1 (some .boolean) ∈ ml_TB := ml_inTB (List.mem_append_right _ (List.mem_of_getElem? (i := 303) (by decide +kernel))) rfl
theorem wm_164 : Cond.static ⟨"LostRoom", "isText", "(I)Z"⟩ ∈ ml_TB := ml_inTB (List.mem_append_right _ (List.mem_of_getElem? (i := 302) (by decide +kernel))) rfl
theorem wm_165 : Cond.methodLink "LostRoom" 103 ⟨"LostRoom", "isText", "(I)Z"⟩ ∈ ml_TB := ml_inTB (List.mem_append_right _ (List.mem_of_getElem? (i := 301) (by decide +kernel))) rfl
theorem wm_166 : Cond.code yJ7_fill_031fb cJ7_fill_031fb 4 none ∈ ml_TB := ml_inTB (List.mem_append_right _ (List.mem_of_getElem? (i := 306) (by decide +kernel))) rfl
theorem wm_167 : Cond.initialized "java/util/Arrays" ∈ ml_TB := ml_inTB (List.mem_append_right _ (List.mem_of_getElem? (i := 8) (by decide +kernel))) rfl
theorem wm_168 : Cond.static ⟨"java/util/Arrays", "fill", "([BB)V"⟩ ∈ ml_TB := ml_inTB (List.mem_append_right _ (List.mem_of_getElem? (i := 305) (by decide +kernel))) rfl
theorem wm_169 : Cond.methodLink "LostRoom" 106 ⟨"java/util/Arrays", "fill", "([BB)V"⟩ ∈ ml_TB := ml_inTB (List.mem_append_right _ (List.mem_of_getElem? (i := 304) (by decide +kernel))) rfl
theorem wm_170 : Cond.code yX11_isText cX11_isText 1 (some .boolean) ∈ ml_TB := ml_inTB (List.mem_append_right _ (List.mem_of_getElem? (i := 1153) (by decide +kernel))) rfl
theorem wm_171 : Cond.static ⟨"LostRoomModel", "isText", "(I)Z"⟩ ∈ ml_TB := ml_inTB (List.mem_append_right _ (List.mem_of_getElem? (i := 1152) (by decide +kernel))) rfl
theorem wm_172 : Cond.methodLink "LostRoomModel" 126 ⟨"LostRoomModel", "isText", "(I)Z"⟩ ∈ ml_TB := ml_inTB (List.mem_append_right _ (List.mem_of_getElem? (i := 1151) (by decide +kernel))) rfl
theorem wm_173 : Cond.fieldLink "LostRoom$Book" 31 "LostRoom$Book" "place" "I" ∈ ml_TB := ml_inTB (List.mem_append_right _ (List.mem_of_getElem? (i := 55) (by decide +kernel))) rfl
theorem wm_174 : Cond.code yX1_readFigure cX1_readFigure 4 (some .int) ∈ ml_TB := ml_inTB (List.mem_append_right _ (List.mem_of_getElem? (i := 334) (by decide +kernel))) rfl
theorem wm_175 : Cond.instanceMethod ⟨"LostRoom$Book", "readFigure", "(II)I"⟩ ∈ ml_TB := ml_inTB (List.mem_append_right _ (List.mem_of_getElem? (i := 333) (by decide +kernel))) rfl
theorem wm_176 : Cond.selects "LostRoom$Book" ⟨"LostRoom$Book", "readFigure", "(II)I"⟩ ⟨"LostRoom$Book", "readFigure", "(II)I"⟩ ∈ ml_TB := ml_inTB (List.mem_append_left _ (List.mem_of_getElem? (i := 5) (by decide +kernel))) rfl
theorem wm_177 : Cond.methodLink "LostRoom$Book" 64 ⟨"LostRoom$Book", "readFigure", "(II)I"⟩ ∈ ml_TB := ml_inTB (List.mem_append_right _ (List.mem_of_getElem? (i := 331) (by decide +kernel))) rfl
theorem wm_178 : Cond.methodLink "LostRoom$Lodger" 1 ⟨"java/lang/Object", "<init>", "()V"⟩ ∈ ml_TB := ml_inTB (List.mem_append_right _ (List.mem_of_getElem? (i := 344) (by decide +kernel))) rfl
theorem wm_179 : Cond.fieldLink "LostRoom$Lodger" 7 "LostRoom$Lodger" "from" "I" ∈ ml_TB := ml_inTB (List.mem_append_right _ (List.mem_of_getElem? (i := 345) (by decide +kernel))) rfl
theorem wm_180 : Cond.fieldLink "LostRoom$Lodger" 13 "LostRoom$Lodger" "till" "I" ∈ ml_TB := ml_inTB (List.mem_append_right _ (List.mem_of_getElem? (i := 348) (by decide +kernel))) rfl
theorem wm_181 : Cond.fieldLink "LostRoom$Lodger" 16 "LostRoom$Lodger" "size" "I" ∈ ml_TB := ml_inTB (List.mem_append_right _ (List.mem_of_getElem? (i := 352) (by decide +kernel))) rfl
theorem wm_182 : Cond.fieldLink "LostRoom$Lodger" 19 "LostRoom$Lodger" "town" "I" ∈ ml_TB := ml_inTB (List.mem_append_right _ (List.mem_of_getElem? (i := 355) (by decide +kernel))) rfl
theorem wm_183 : Cond.fieldLink "LostRoom$Lodger" 22 "LostRoom$Lodger" "hand" "I" ∈ ml_TB := ml_inTB (List.mem_append_right _ (List.mem_of_getElem? (i := 358) (by decide +kernel))) rfl
theorem wm_184 : Cond.code yX1_readSign cX1_readSign 2 none ∈ ml_TB := ml_inTB (List.mem_append_right _ (List.mem_of_getElem? (i := 339) (by decide +kernel))) rfl
theorem wm_185 : Cond.instanceMethod ⟨"LostRoom$Book", "readSign", "(C)V"⟩ ∈ ml_TB := ml_inTB (List.mem_append_right _ (List.mem_of_getElem? (i := 338) (by decide +kernel))) rfl
theorem wm_186 : Cond.selects "LostRoom$Book" ⟨"LostRoom$Book", "readSign", "(C)V"⟩ ⟨"LostRoom$Book", "readSign", "(C)V"⟩ ∈ ml_TB := ml_inTB (List.mem_append_left _ (List.mem_of_getElem? (i := 6) (by decide +kernel))) rfl
theorem wm_187 : Cond.methodLink "LostRoom$Book" 60 ⟨"LostRoom$Book", "readSign", "(C)V"⟩ ∈ ml_TB := ml_inTB (List.mem_append_right _ (List.mem_of_getElem? (i := 336) (by decide +kernel))) rfl
theorem wm_188 : Cond.fieldLink "LostRoom$Book" 38 "LostRoom$Book" "lodgerCount" "I" ∈ ml_TB := ml_inTB (List.mem_append_right _ (List.mem_of_getElem? (i := 46) (by decide +kernel))) rfl
theorem wm_189 : Cond.instantiable "LostRoom$Lodger" 5 ∈ ml_TB := ml_inTB (List.mem_append_right _ (List.mem_of_getElem? (i := 340) (by decide +kernel))) rfl
theorem wm_190 : Cond.initialized "LostRoom$Lodger" ∈ ml_TB := ml_inTB (List.mem_append_right _ (List.mem_of_getElem? (i := 9) (by decide +kernel))) rfl
theorem wm_191 : Cond.code yX6_init cX6_init 6 none ∈ ml_TB := ml_inTB (List.mem_append_right _ (List.mem_of_getElem? (i := 343) (by decide +kernel))) rfl
theorem wm_192 : Cond.instanceMethod ⟨"LostRoom$Lodger", "<init>", "(IIIII)V"⟩ ∈ ml_TB := ml_inTB (List.mem_append_right _ (List.mem_of_getElem? (i := 342) (by decide +kernel))) rfl
theorem wm_193 : Cond.methodLink "LostRoom$Book" 68 ⟨"LostRoom$Lodger", "<init>", "(IIIII)V"⟩ ∈ ml_TB := ml_inTB (List.mem_append_right _ (List.mem_of_getElem? (i := 341) (by decide +kernel))) rfl
theorem wm_194 : Cond.code yX1_readYear cX1_readYear 3 (some .int) ∈ ml_TB := ml_inTB (List.mem_append_right _ (List.mem_of_getElem? (i := 330) (by decide +kernel))) rfl
theorem wm_195 : Cond.instanceMethod ⟨"LostRoom$Book", "readYear", "()I"⟩ ∈ ml_TB := ml_inTB (List.mem_append_right _ (List.mem_of_getElem? (i := 329) (by decide +kernel))) rfl
theorem wm_196 : Cond.selects "LostRoom$Book" ⟨"LostRoom$Book", "readYear", "()I"⟩ ⟨"LostRoom$Book", "readYear", "()I"⟩ ∈ ml_TB := ml_inTB (List.mem_append_left _ (List.mem_of_getElem? (i := 4) (by decide +kernel))) rfl
theorem wm_197 : Cond.methodLink "LostRoom$Book" 56 ⟨"LostRoom$Book", "readYear", "()I"⟩ ∈ ml_TB := ml_inTB (List.mem_append_right _ (List.mem_of_getElem? (i := 327) (by decide +kernel))) rfl
theorem wm_198 : Cond.methodLink "LostRoom$Trunk" 1 ⟨"java/lang/Object", "<init>", "()V"⟩ ∈ ml_TB := ml_inTB (List.mem_append_right _ (List.mem_of_getElem? (i := 380) (by decide +kernel))) rfl
theorem wm_199 : Cond.fieldLink "LostRoom$Trunk" 7 "LostRoom$Trunk" "lock" "I" ∈ ml_TB := ml_inTB (List.mem_append_right _ (List.mem_of_getElem? (i := 381) (by decide +kernel))) rfl
theorem wm_200 : Cond.fieldLink "LostRoom$Trunk" 13 "LostRoom$Trunk" "height" "I" ∈ ml_TB := ml_inTB (List.mem_append_right _ (List.mem_of_getElem? (i := 383) (by decide +kernel))) rfl
theorem wm_201 : Cond.fieldLink "LostRoom$Book" 44 "LostRoom$Book" "trunkCount" "I" ∈ ml_TB := ml_inTB (List.mem_append_right _ (List.mem_of_getElem? (i := 49) (by decide +kernel))) rfl
theorem wm_202 : Cond.instantiable "LostRoom$Trunk" 4 ∈ ml_TB := ml_inTB (List.mem_append_right _ (List.mem_of_getElem? (i := 376) (by decide +kernel))) rfl
theorem wm_203 : Cond.initialized "LostRoom$Trunk" ∈ ml_TB := ml_inTB (List.mem_append_right _ (List.mem_of_getElem? (i := 10) (by decide +kernel))) rfl
theorem wm_204 : Cond.code yX9_init cX9_init 3 none ∈ ml_TB := ml_inTB (List.mem_append_right _ (List.mem_of_getElem? (i := 379) (by decide +kernel))) rfl
theorem wm_205 : Cond.instanceMethod ⟨"LostRoom$Trunk", "<init>", "(II)V"⟩ ∈ ml_TB := ml_inTB (List.mem_append_right _ (List.mem_of_getElem? (i := 378) (by decide +kernel))) rfl
theorem wm_206 : Cond.methodLink "LostRoom$Book" 71 ⟨"LostRoom$Trunk", "<init>", "(II)V"⟩ ∈ ml_TB := ml_inTB (List.mem_append_right _ (List.mem_of_getElem? (i := 377) (by decide +kernel))) rfl
theorem wm_207 : Cond.fieldLink "LostRoom$Book" 50 "LostRoom$Book" "standing" "I" ∈ ml_TB := ml_inTB (List.mem_append_right _ (List.mem_of_getElem? (i := 53) (by decide +kernel))) rfl
theorem wm_208 : Cond.fieldLink "LostRoom$Book" 74 "LostRoom$Trunk" "above" "I" ∈ ml_TB := ml_inTB (List.mem_append_right _ (List.mem_of_getElem? (i := 386) (by decide +kernel))) rfl
theorem wm_209 : Cond.fieldLink "LostRoom$Book" 77 "LostRoom$Trunk" "below" "I" ∈ ml_TB := ml_inTB (List.mem_append_right _ (List.mem_of_getElem? (i := 389) (by decide +kernel))) rfl
theorem wm_210 : Cond.code yX1_readStanding cX1_readStanding 4 none ∈ ml_TB := ml_inTB (List.mem_append_right _ (List.mem_of_getElem? (i := 403) (by decide +kernel))) rfl
theorem wm_211 : Cond.instanceMethod ⟨"LostRoom$Book", "readStanding", "()V"⟩ ∈ ml_TB := ml_inTB (List.mem_append_right _ (List.mem_of_getElem? (i := 402) (by decide +kernel))) rfl
theorem wm_212 : Cond.selects "LostRoom$Book" ⟨"LostRoom$Book", "readStanding", "()V"⟩ ⟨"LostRoom$Book", "readStanding", "()V"⟩ ∈ ml_TB := ml_inTB (List.mem_append_left _ (List.mem_of_getElem? (i := 8) (by decide +kernel))) rfl
theorem wm_213 : Cond.methodLink "LostRoom$Book" 53 ⟨"LostRoom$Book", "readStanding", "()V"⟩ ∈ ml_TB := ml_inTB (List.mem_append_right _ (List.mem_of_getElem? (i := 400) (by decide +kernel))) rfl
theorem wm_214 : Cond.code yX1_readTrunk cX1_readTrunk 3 none ∈ ml_TB := ml_inTB (List.mem_append_right _ (List.mem_of_getElem? (i := 375) (by decide +kernel))) rfl
theorem wm_215 : Cond.instanceMethod ⟨"LostRoom$Book", "readTrunk", "()V"⟩ ∈ ml_TB := ml_inTB (List.mem_append_right _ (List.mem_of_getElem? (i := 374) (by decide +kernel))) rfl
theorem wm_216 : Cond.selects "LostRoom$Book" ⟨"LostRoom$Book", "readTrunk", "()V"⟩ ⟨"LostRoom$Book", "readTrunk", "()V"⟩ ∈ ml_TB := ml_inTB (List.mem_append_left _ (List.mem_of_getElem? (i := 7) (by decide +kernel))) rfl
theorem wm_217 : Cond.methodLink "LostRoom$Book" 47 ⟨"LostRoom$Book", "readTrunk", "()V"⟩ ∈ ml_TB := ml_inTB (List.mem_append_right _ (List.mem_of_getElem? (i := 372) (by decide +kernel))) rfl
theorem wm_218 : Cond.code yX1_readLodger cX1_readLodger 6 none ∈ ml_TB := ml_inTB (List.mem_append_right _ (List.mem_of_getElem? (i := 326) (by decide +kernel))) rfl
theorem wm_219 : Cond.instanceMethod ⟨"LostRoom$Book", "readLodger", "()V"⟩ ∈ ml_TB := ml_inTB (List.mem_append_right _ (List.mem_of_getElem? (i := 325) (by decide +kernel))) rfl
theorem wm_220 : Cond.selects "LostRoom$Book" ⟨"LostRoom$Book", "readLodger", "()V"⟩ ⟨"LostRoom$Book", "readLodger", "()V"⟩ ∈ ml_TB := ml_inTB (List.mem_append_left _ (List.mem_of_getElem? (i := 3) (by decide +kernel))) rfl
theorem wm_221 : Cond.methodLink "LostRoom$Book" 41 ⟨"LostRoom$Book", "readLodger", "()V"⟩ ∈ ml_TB := ml_inTB (List.mem_append_right _ (List.mem_of_getElem? (i := 323) (by decide +kernel))) rfl
theorem wm_222 : Cond.code yX1_readItem cX1_readItem 2 none ∈ ml_TB := ml_inTB (List.mem_append_right _ (List.mem_of_getElem? (i := 322) (by decide +kernel))) rfl
theorem wm_223 : Cond.instanceMethod ⟨"LostRoom$Book", "readItem", "(I)V"⟩ ∈ ml_TB := ml_inTB (List.mem_append_right _ (List.mem_of_getElem? (i := 321) (by decide +kernel))) rfl
theorem wm_224 : Cond.selects "LostRoom$Book" ⟨"LostRoom$Book", "readItem", "(I)V"⟩ ⟨"LostRoom$Book", "readItem", "(I)V"⟩ ∈ ml_TB := ml_inTB (List.mem_append_left _ (List.mem_of_getElem? (i := 2) (by decide +kernel))) rfl
theorem wm_225 : Cond.methodLink "LostRoom$Book" 34 ⟨"LostRoom$Book", "readItem", "(I)V"⟩ ∈ ml_TB := ml_inTB (List.mem_append_right _ (List.mem_of_getElem? (i := 319) (by decide +kernel))) rfl
theorem wm_226 : Cond.code yX1_read cX1_read 2 none ∈ ml_TB := ml_inTB (List.mem_append_right _ (List.mem_of_getElem? (i := 318) (by decide +kernel))) rfl
theorem wm_227 : Cond.instanceMethod ⟨"LostRoom$Book", "read", "()V"⟩ ∈ ml_TB := ml_inTB (List.mem_append_right _ (List.mem_of_getElem? (i := 316) (by decide +kernel))) rfl
theorem wm_228 : Cond.selects "LostRoom$Book" ⟨"LostRoom$Book", "read", "()V"⟩ ⟨"LostRoom$Book", "read", "()V"⟩ ∈ ml_TB := ml_inTB (List.mem_append_right _ (List.mem_of_getElem? (i := 317) (by decide +kernel))) rfl
theorem wm_229 : Cond.methodLink "LostRoom" 112 ⟨"LostRoom$Book", "read", "()V"⟩ ∈ ml_TB := ml_inTB (List.mem_append_right _ (List.mem_of_getElem? (i := 315) (by decide +kernel))) rfl
theorem wm_230 : Cond.fieldLink "LostRoom" 115 "LostRoom$Book" "fault" "I" ∈ ml_TB := ml_inTB (List.mem_append_right _ (List.mem_of_getElem? (i := 52) (by decide +kernel))) rfl
theorem wm_231 : Cond.fieldLink "LostRoomModel" 135 "LostRoomModel" "readNumber" "I" ∈ ml_TB := ml_inTB (List.mem_append_right _ (List.mem_of_getElem? (i := 957) (by decide +kernel))) rfl
theorem wm_232 : Cond.fieldLink "LostRoomModel" 129 "LostRoomModel" "readAt" "I" ∈ ml_TB := ml_inTB (List.mem_append_right _ (List.mem_of_getElem? (i := 956) (by decide +kernel))) rfl
theorem wm_233 : Cond.code yX11_byteAt cX11_byteAt 3 (some .int) ∈ ml_TB := ml_inTB (List.mem_append_right _ (List.mem_of_getElem? (i := 1169) (by decide +kernel))) rfl
theorem wm_234 : Cond.instanceMethod ⟨"LostRoomModel", "byteAt", "(II)I"⟩ ∈ ml_TB := ml_inTB (List.mem_append_right _ (List.mem_of_getElem? (i := 1168) (by decide +kernel))) rfl
theorem wm_235 : Cond.selects "LostRoomModel" ⟨"LostRoomModel", "byteAt", "(II)I"⟩ ⟨"LostRoomModel", "byteAt", "(II)I"⟩ ∈ ml_TB := ml_inTB (List.mem_append_left _ (List.mem_of_getElem? (i := 54) (by decide +kernel))) rfl
theorem wm_236 : Cond.methodLink "LostRoomModel" 132 ⟨"LostRoomModel", "byteAt", "(II)I"⟩ ∈ ml_TB := ml_inTB (List.mem_append_right _ (List.mem_of_getElem? (i := 1166) (by decide +kernel))) rfl
theorem wm_237 : Cond.code yX11_sign cX11_sign 4 (some .boolean) ∈ ml_TB := ml_inTB (List.mem_append_right _ (List.mem_of_getElem? (i := 1185) (by decide +kernel))) rfl
theorem wm_238 : Cond.instanceMethod ⟨"LostRoomModel", "sign", "(II)Z"⟩ ∈ ml_TB := ml_inTB (List.mem_append_right _ (List.mem_of_getElem? (i := 1184) (by decide +kernel))) rfl
theorem wm_239 : Cond.selects "LostRoomModel" ⟨"LostRoomModel", "sign", "(II)Z"⟩ ⟨"LostRoomModel", "sign", "(II)Z"⟩ ∈ ml_TB := ml_inTB (List.mem_append_left _ (List.mem_of_getElem? (i := 58) (by decide +kernel))) rfl
theorem wm_240 : Cond.methodLink "LostRoomModel" 145 ⟨"LostRoomModel", "sign", "(II)Z"⟩ ∈ ml_TB := ml_inTB (List.mem_append_right _ (List.mem_of_getElem? (i := 1182) (by decide +kernel))) rfl
theorem wm_241 : Cond.code yX11_figure cX11_figure 5 (some .boolean) ∈ ml_TB := ml_inTB (List.mem_append_right _ (List.mem_of_getElem? (i := 1189) (by decide +kernel))) rfl
theorem wm_242 : Cond.instanceMethod ⟨"LostRoomModel", "figure", "(III)Z"⟩ ∈ ml_TB := ml_inTB (List.mem_append_right _ (List.mem_of_getElem? (i := 1188) (by decide +kernel))) rfl
theorem wm_243 : Cond.selects "LostRoomModel" ⟨"LostRoomModel", "figure", "(III)Z"⟩ ⟨"LostRoomModel", "figure", "(III)Z"⟩ ∈ ml_TB := ml_inTB (List.mem_append_left _ (List.mem_of_getElem? (i := 59) (by decide +kernel))) rfl
theorem wm_244 : Cond.methodLink "LostRoomModel" 148 ⟨"LostRoomModel", "figure", "(III)Z"⟩ ∈ ml_TB := ml_inTB (List.mem_append_right _ (List.mem_of_getElem? (i := 1186) (by decide +kernel))) rfl
theorem wm_245 : Cond.fieldLink "LostRoomModel" 138 "LostRoomModel" "readLodgers" "I" ∈ ml_TB := ml_inTB (List.mem_append_right _ (List.mem_of_getElem? (i := 958) (by decide +kernel))) rfl
theorem wm_246 : Cond.code yX11_year cX11_year 5 (some .boolean) ∈ ml_TB := ml_inTB (List.mem_append_right _ (List.mem_of_getElem? (i := 1181) (by decide +kernel))) rfl
theorem wm_247 : Cond.instanceMethod ⟨"LostRoomModel", "year", "(II)Z"⟩ ∈ ml_TB := ml_inTB (List.mem_append_right _ (List.mem_of_getElem? (i := 1180) (by decide +kernel))) rfl
theorem wm_248 : Cond.selects "LostRoomModel" ⟨"LostRoomModel", "year", "(II)Z"⟩ ⟨"LostRoomModel", "year", "(II)Z"⟩ ∈ ml_TB := ml_inTB (List.mem_append_left _ (List.mem_of_getElem? (i := 57) (by decide +kernel))) rfl
theorem wm_249 : Cond.methodLink "LostRoomModel" 141 ⟨"LostRoomModel", "year", "(II)Z"⟩ ∈ ml_TB := ml_inTB (List.mem_append_right _ (List.mem_of_getElem? (i := 1178) (by decide +kernel))) rfl
theorem wm_250 : Cond.fieldLink "LostRoomModel" 151 "LostRoomModel" "readTrunks" "I" ∈ ml_TB := ml_inTB (List.mem_append_right _ (List.mem_of_getElem? (i := 959) (by decide +kernel))) rfl
theorem wm_251 : Cond.fieldLink "LostRoomModel" 154 "LostRoomModel" "readPiles" "I" ∈ ml_TB := ml_inTB (List.mem_append_right _ (List.mem_of_getElem? (i := 960) (by decide +kernel))) rfl
theorem wm_252 : Cond.code yX11_readsTrunk cX11_readsTrunk 4 (some .boolean) ∈ ml_TB := ml_inTB (List.mem_append_right _ (List.mem_of_getElem? (i := 1193) (by decide +kernel))) rfl
theorem wm_253 : Cond.instanceMethod ⟨"LostRoomModel", "readsTrunk", "(I)Z"⟩ ∈ ml_TB := ml_inTB (List.mem_append_right _ (List.mem_of_getElem? (i := 1192) (by decide +kernel))) rfl
theorem wm_254 : Cond.selects "LostRoomModel" ⟨"LostRoomModel", "readsTrunk", "(I)Z"⟩ ⟨"LostRoomModel", "readsTrunk", "(I)Z"⟩ ∈ ml_TB := ml_inTB (List.mem_append_left _ (List.mem_of_getElem? (i := 60) (by decide +kernel))) rfl
theorem wm_255 : Cond.methodLink "LostRoomModel" 160 ⟨"LostRoomModel", "readsTrunk", "(I)Z"⟩ ∈ ml_TB := ml_inTB (List.mem_append_right _ (List.mem_of_getElem? (i := 1190) (by decide +kernel))) rfl
theorem wm_256 : Cond.code yX11_readsLodger cX11_readsLodger 4 (some .boolean) ∈ ml_TB := ml_inTB (List.mem_append_right _ (List.mem_of_getElem? (i := 1177) (by decide +kernel))) rfl
theorem wm_257 : Cond.instanceMethod ⟨"LostRoomModel", "readsLodger", "(I)Z"⟩ ∈ ml_TB := ml_inTB (List.mem_append_right _ (List.mem_of_getElem? (i := 1176) (by decide +kernel))) rfl
theorem wm_258 : Cond.selects "LostRoomModel" ⟨"LostRoomModel", "readsLodger", "(I)Z"⟩ ⟨"LostRoomModel", "readsLodger", "(I)Z"⟩ ∈ ml_TB := ml_inTB (List.mem_append_left _ (List.mem_of_getElem? (i := 56) (by decide +kernel))) rfl
theorem wm_259 : Cond.methodLink "LostRoomModel" 157 ⟨"LostRoomModel", "readsLodger", "(I)Z"⟩ ∈ ml_TB := ml_inTB (List.mem_append_right _ (List.mem_of_getElem? (i := 1174) (by decide +kernel))) rfl
theorem wm_260 : Cond.code yX11_readsPile cX11_readsPile 3 (some .boolean) ∈ ml_TB := ml_inTB (List.mem_append_right _ (List.mem_of_getElem? (i := 1197) (by decide +kernel))) rfl
theorem wm_261 : Cond.instanceMethod ⟨"LostRoomModel", "readsPile", "(I)Z"⟩ ∈ ml_TB := ml_inTB (List.mem_append_right _ (List.mem_of_getElem? (i := 1196) (by decide +kernel))) rfl
theorem wm_262 : Cond.selects "LostRoomModel" ⟨"LostRoomModel", "readsPile", "(I)Z"⟩ ⟨"LostRoomModel", "readsPile", "(I)Z"⟩ ∈ ml_TB := ml_inTB (List.mem_append_left _ (List.mem_of_getElem? (i := 61) (by decide +kernel))) rfl
theorem wm_263 : Cond.methodLink "LostRoomModel" 163 ⟨"LostRoomModel", "readsPile", "(I)Z"⟩ ∈ ml_TB := ml_inTB (List.mem_append_right _ (List.mem_of_getElem? (i := 1194) (by decide +kernel))) rfl
theorem wm_264 : Cond.code yX11_readsItem cX11_readsItem 2 (some .boolean) ∈ ml_TB := ml_inTB (List.mem_append_right _ (List.mem_of_getElem? (i := 1173) (by decide +kernel))) rfl
theorem wm_265 : Cond.instanceMethod ⟨"LostRoomModel", "readsItem", "(I)Z"⟩ ∈ ml_TB := ml_inTB (List.mem_append_right _ (List.mem_of_getElem? (i := 1172) (by decide +kernel))) rfl
theorem wm_266 : Cond.selects "LostRoomModel" ⟨"LostRoomModel", "readsItem", "(I)Z"⟩ ⟨"LostRoomModel", "readsItem", "(I)Z"⟩ ∈ ml_TB := ml_inTB (List.mem_append_left _ (List.mem_of_getElem? (i := 55) (by decide +kernel))) rfl
theorem wm_267 : Cond.methodLink "LostRoomModel" 166 ⟨"LostRoomModel", "readsItem", "(I)Z"⟩ ∈ ml_TB := ml_inTB (List.mem_append_right _ (List.mem_of_getElem? (i := 1170) (by decide +kernel))) rfl
theorem wm_268 : Cond.code yX11_faultOf cX11_faultOf 2 (some .int) ∈ ml_TB := ml_inTB (List.mem_append_right _ (List.mem_of_getElem? (i := 1165) (by decide +kernel))) rfl
theorem wm_269 : Cond.instanceMethod ⟨"LostRoomModel", "faultOf", "(I)I"⟩ ∈ ml_TB := ml_inTB (List.mem_append_right _ (List.mem_of_getElem? (i := 1164) (by decide +kernel))) rfl
theorem wm_270 : Cond.selects "LostRoomModel" ⟨"LostRoomModel", "faultOf", "(I)I"⟩ ⟨"LostRoomModel", "faultOf", "(I)I"⟩ ∈ ml_TB := ml_inTB (List.mem_append_left _ (List.mem_of_getElem? (i := 53) (by decide +kernel))) rfl
theorem wm_271 : Cond.methodLink "LostRoomModel" 169 ⟨"LostRoomModel", "faultOf", "(I)I"⟩ ∈ ml_TB := ml_inTB (List.mem_append_right _ (List.mem_of_getElem? (i := 1162) (by decide +kernel))) rfl
theorem wm_272 : Cond.fieldLink "LostRoom" 118 "LostRoom" "thingCount" "I" ∈ ml_TB := ml_inTB (List.mem_append_right _ (List.mem_of_getElem? (i := 200) (by decide +kernel))) rfl
theorem wm_273 : Cond.fieldLink "LostRoom" 121 "LostRoom" "lineCount" "I" ∈ ml_TB := ml_inTB (List.mem_append_right _ (List.mem_of_getElem? (i := 202) (by decide +kernel))) rfl
theorem wm_274 : Cond.fieldLink "LostRoom" 124 "LostRoom" "bitCount" "I" ∈ ml_TB := ml_inTB (List.mem_append_right _ (List.mem_of_getElem? (i := 204) (by decide +kernel))) rfl
theorem wm_275 : Cond.fieldLink "LostRoom" 127 "LostRoom" "claimCount" "I" ∈ ml_TB := ml_inTB (List.mem_append_right _ (List.mem_of_getElem? (i := 206) (by decide +kernel))) rfl
theorem wm_276 : Cond.fieldLink "LostRoom" 130 "LostRoom$Sharings" "stale" "Z" ∈ ml_TB := ml_inTB (List.mem_append_right _ (List.mem_of_getElem? (i := 89) (by decide +kernel))) rfl
theorem wm_277 : Cond.fieldLink "LostRoom" 134 "LostRoom$Lays" "stale" "Z" ∈ ml_TB := ml_inTB (List.mem_append_right _ (List.mem_of_getElem? (i := 141) (by decide +kernel))) rfl
theorem wm_278 : Cond.fieldLink "LostRoom" 135 "LostRoom$Book" "trunkCount" "I" ∈ ml_TB := ml_inTB (List.mem_append_right _ (List.mem_of_getElem? (i := 50) (by decide +kernel))) rfl
theorem wm_279 : Cond.fieldLink "LostRoomModel" 181 "LostRoomModel" "thingMany" "I" ∈ ml_TB := ml_inTB (List.mem_append_right _ (List.mem_of_getElem? (i := 965) (by decide +kernel))) rfl
theorem wm_280 : Cond.fieldLink "LostRoomModel" 184 "LostRoomModel" "lineMany" "I" ∈ ml_TB := ml_inTB (List.mem_append_right _ (List.mem_of_getElem? (i := 975) (by decide +kernel))) rfl
theorem wm_281 : Cond.fieldLink "LostRoomModel" 187 "LostRoomModel" "bitMany" "I" ∈ ml_TB := ml_inTB (List.mem_append_right _ (List.mem_of_getElem? (i := 978) (by decide +kernel))) rfl
theorem wm_282 : Cond.fieldLink "LostRoomModel" 190 "LostRoomModel" "claimMany" "I" ∈ ml_TB := ml_inTB (List.mem_append_right _ (List.mem_of_getElem? (i := 987) (by decide +kernel))) rfl
theorem wm_283 : Cond.fieldLink "LostRoomModel" 175 "LostRoomModel" "trunkMany" "I" ∈ ml_TB := ml_inTB (List.mem_append_right _ (List.mem_of_getElem? (i := 951) (by decide +kernel))) rfl
theorem wm_284 : Cond.fieldLink "LostRoomModel" 172 "LostRoomModel" "lodgerMany" "I" ∈ ml_TB := ml_inTB (List.mem_append_right _ (List.mem_of_getElem? (i := 950) (by decide +kernel))) rfl
theorem wm_285 : Cond.fieldLink "LostRoomModel" 178 "LostRoomModel" "pileMany" "I" ∈ ml_TB := ml_inTB (List.mem_append_right _ (List.mem_of_getElem? (i := 952) (by decide +kernel))) rfl
theorem wm_286 : Cond.fieldLink "LostRoom" 193 "LostRoom$Book" "lodgerCount" "I" ∈ ml_TB := ml_inTB (List.mem_append_right _ (List.mem_of_getElem? (i := 47) (by decide +kernel))) rfl
theorem wm_287 : Cond.fieldLink "LostRoom" 360 "LostRoom$Book" "lodgers" "[LLostRoom$Lodger;" ∈ ml_TB := ml_inTB (List.mem_append_right _ (List.mem_of_getElem? (i := 41) (by decide +kernel))) rfl
theorem wm_288 : Cond.fieldLink "LostRoom" 364 "LostRoom$Lodger" "from" "I" ∈ ml_TB := ml_inTB (List.mem_append_right _ (List.mem_of_getElem? (i := 347) (by decide +kernel))) rfl
theorem wm_289 : Cond.fieldLink "LostRoom" 369 "LostRoom$Lodger" "till" "I" ∈ ml_TB := ml_inTB (List.mem_append_right _ (List.mem_of_getElem? (i := 351) (by decide +kernel))) rfl
theorem wm_290 : Cond.fieldLink "LostRoom" 372 "LostRoom$Lodger" "size" "I" ∈ ml_TB := ml_inTB (List.mem_append_right _ (List.mem_of_getElem? (i := 354) (by decide +kernel))) rfl
theorem wm_291 : Cond.fieldLink "LostRoom" 375 "LostRoom$Lodger" "town" "I" ∈ ml_TB := ml_inTB (List.mem_append_right _ (List.mem_of_getElem? (i := 357) (by decide +kernel))) rfl
theorem wm_292 : Cond.fieldLink "LostRoom" 378 "LostRoom$Lodger" "hand" "I" ∈ ml_TB := ml_inTB (List.mem_append_right _ (List.mem_of_getElem? (i := 360) (by decide +kernel))) rfl
theorem wm_293 : Cond.code yX10_isLodger cX10_isLodger 2 (some .boolean) ∈ ml_TB := ml_inTB (List.mem_append_right _ (List.mem_of_getElem? (i := 419) (by decide +kernel))) rfl
theorem wm_294 : Cond.instanceMethod ⟨"LostRoom", "isLodger", "(I)Z"⟩ ∈ ml_TB := ml_inTB (List.mem_append_right _ (List.mem_of_getElem? (i := 418) (by decide +kernel))) rfl
theorem wm_295 : Cond.selects "LostRoom" ⟨"LostRoom", "isLodger", "(I)Z"⟩ ⟨"LostRoom", "isLodger", "(I)Z"⟩ ∈ ml_TB := ml_inTB (List.mem_append_left _ (List.mem_of_getElem? (i := 9) (by decide +kernel))) rfl
theorem wm_296 : Cond.methodLink "LostRoom" 141 ⟨"LostRoom", "isLodger", "(I)Z"⟩ ∈ ml_TB := ml_inTB (List.mem_append_right _ (List.mem_of_getElem? (i := 416) (by decide +kernel))) rfl
theorem wm_297 : Cond.code yX10_lodgerFact cX10_lodgerFact 4 (some .int) ∈ ml_TB := ml_inTB (List.mem_append_right _ (List.mem_of_getElem? (i := 423) (by decide +kernel))) rfl
theorem wm_298 : Cond.instanceMethod ⟨"LostRoom", "lodgerFact", "(II)I"⟩ ∈ ml_TB := ml_inTB (List.mem_append_right _ (List.mem_of_getElem? (i := 422) (by decide +kernel))) rfl
theorem wm_299 : Cond.selects "LostRoom" ⟨"LostRoom", "lodgerFact", "(II)I"⟩ ⟨"LostRoom", "lodgerFact", "(II)I"⟩ ∈ ml_TB := ml_inTB (List.mem_append_left _ (List.mem_of_getElem? (i := 10) (by decide +kernel))) rfl
theorem wm_300 : Cond.methodLink "LostRoom" 144 ⟨"LostRoom", "lodgerFact", "(II)I"⟩ ∈ ml_TB := ml_inTB (List.mem_append_right _ (List.mem_of_getElem? (i := 420) (by decide +kernel))) rfl
theorem wm_301 : Cond.code yX11_isLodger cX11_isLodger 2 (some .boolean) ∈ ml_TB := ml_inTB (List.mem_append_right _ (List.mem_of_getElem? (i := 1213) (by decide +kernel))) rfl
theorem wm_302 : Cond.instanceMethod ⟨"LostRoomModel", "isLodger", "(I)Z"⟩ ∈ ml_TB := ml_inTB (List.mem_append_right _ (List.mem_of_getElem? (i := 1212) (by decide +kernel))) rfl
theorem wm_303 : Cond.selects "LostRoomModel" ⟨"LostRoomModel", "isLodger", "(I)Z"⟩ ⟨"LostRoomModel", "isLodger", "(I)Z"⟩ ∈ ml_TB := ml_inTB (List.mem_append_left _ (List.mem_of_getElem? (i := 62) (by decide +kernel))) rfl
theorem wm_304 : Cond.methodLink "LostRoomModel" 193 ⟨"LostRoomModel", "isLodger", "(I)Z"⟩ ∈ ml_TB := ml_inTB (List.mem_append_right _ (List.mem_of_getElem? (i := 1210) (by decide +kernel))) rfl
theorem wm_305 : Cond.fieldLink "LostRoom" 175 "LostRoom$Thing" "trunk" "I" ∈ ml_TB := ml_inTB (List.mem_append_right _ (List.mem_of_getElem? (i := 475) (by decide +kernel))) rfl
theorem wm_306 : Cond.fieldLink "LostRoom" 219 "LostRoom$Book" "trunks" "[LLostRoom$Trunk;" ∈ ml_TB := ml_inTB (List.mem_append_right _ (List.mem_of_getElem? (i := 44) (by decide +kernel))) rfl
theorem wm_307 : Cond.fieldLink "LostRoom" 381 "LostRoom$Trunk" "lock" "I" ∈ ml_TB := ml_inTB (List.mem_append_right _ (List.mem_of_getElem? (i := 382) (by decide +kernel))) rfl
theorem wm_308 : Cond.fieldLink "LostRoom" 223 "LostRoom$Trunk" "height" "I" ∈ ml_TB := ml_inTB (List.mem_append_right _ (List.mem_of_getElem? (i := 384) (by decide +kernel))) rfl
theorem wm_309 : Cond.fieldLink "LostRoom" 384 "LostRoom$Trunk" "above" "I" ∈ ml_TB := ml_inTB (List.mem_append_right _ (List.mem_of_getElem? (i := 387) (by decide +kernel))) rfl
theorem wm_310 : Cond.code yX10_thingsIn cX10_thingsIn 4 (some .int) ∈ ml_TB := ml_inTB (List.mem_append_right _ (List.mem_of_getElem? (i := 439) (by decide +kernel))) rfl
theorem wm_311 : Cond.instanceMethod ⟨"LostRoom", "thingsIn", "(I)I"⟩ ∈ ml_TB := ml_inTB (List.mem_append_right _ (List.mem_of_getElem? (i := 438) (by decide +kernel))) rfl
theorem wm_312 : Cond.selects "LostRoom" ⟨"LostRoom", "thingsIn", "(I)I"⟩ ⟨"LostRoom", "thingsIn", "(I)I"⟩ ∈ ml_TB := ml_inTB (List.mem_append_left _ (List.mem_of_getElem? (i := 13) (by decide +kernel))) rfl
theorem wm_313 : Cond.methodLink "LostRoom" 387 ⟨"LostRoom", "thingsIn", "(I)I"⟩ ∈ ml_TB := ml_inTB (List.mem_append_right _ (List.mem_of_getElem? (i := 436) (by decide +kernel))) rfl
theorem wm_314 : Cond.code yX10_isTrunk cX10_isTrunk 2 (some .boolean) ∈ ml_TB := ml_inTB (List.mem_append_right _ (List.mem_of_getElem? (i := 431) (by decide +kernel))) rfl
theorem wm_315 : Cond.instanceMethod ⟨"LostRoom", "isTrunk", "(I)Z"⟩ ∈ ml_TB := ml_inTB (List.mem_append_right _ (List.mem_of_getElem? (i := 430) (by decide +kernel))) rfl
theorem wm_316 : Cond.selects "LostRoom" ⟨"LostRoom", "isTrunk", "(I)Z"⟩ ⟨"LostRoom", "isTrunk", "(I)Z"⟩ ∈ ml_TB := ml_inTB (List.mem_append_left _ (List.mem_of_getElem? (i := 11) (by decide +kernel))) rfl
theorem wm_317 : Cond.methodLink "LostRoom" 148 ⟨"LostRoom", "isTrunk", "(I)Z"⟩ ∈ ml_TB := ml_inTB (List.mem_append_right _ (List.mem_of_getElem? (i := 428) (by decide +kernel))) rfl
theorem wm_318 : Cond.code yX10_trunkFact cX10_trunkFact 4 (some .int) ∈ ml_TB := ml_inTB (List.mem_append_right _ (List.mem_of_getElem? (i := 435) (by decide +kernel))) rfl
theorem wm_319 : Cond.instanceMethod ⟨"LostRoom", "trunkFact", "(II)I"⟩ ∈ ml_TB := ml_inTB (List.mem_append_right _ (List.mem_of_getElem? (i := 434) (by decide +kernel))) rfl
theorem wm_320 : Cond.selects "LostRoom" ⟨"LostRoom", "trunkFact", "(II)I"⟩ ⟨"LostRoom", "trunkFact", "(II)I"⟩ ∈ ml_TB := ml_inTB (List.mem_append_left _ (List.mem_of_getElem? (i := 12) (by decide +kernel))) rfl
theorem wm_321 : Cond.methodLink "LostRoom" 151 ⟨"LostRoom", "trunkFact", "(II)I"⟩ ∈ ml_TB := ml_inTB (List.mem_append_right _ (List.mem_of_getElem? (i := 432) (by decide +kernel))) rfl
theorem wm_322 : Cond.code yX11_trunkOf cX11_trunkOf 2 (some .int) ∈ ml_TB := ml_inTB (List.mem_append_right _ (List.mem_of_getElem? (i := 1233) (by decide +kernel))) rfl
theorem wm_323 : Cond.instanceMethod ⟨"LostRoomModel", "trunkOf", "(I)I"⟩ ∈ ml_TB := ml_inTB (List.mem_append_right _ (List.mem_of_getElem? (i := 1232) (by decide +kernel))) rfl
theorem wm_324 : Cond.selects "LostRoomModel" ⟨"LostRoomModel", "trunkOf", "(I)I"⟩ ⟨"LostRoomModel", "trunkOf", "(I)I"⟩ ∈ ml_TB := ml_inTB (List.mem_append_left _ (List.mem_of_getElem? (i := 66) (by decide +kernel))) rfl
theorem wm_325 : Cond.methodLink "LostRoomModel" 205 ⟨"LostRoomModel", "trunkOf", "(I)I"⟩ ∈ ml_TB := ml_inTB (List.mem_append_right _ (List.mem_of_getElem? (i := 1230) (by decide +kernel))) rfl
theorem wm_326 : Cond.code yX11_lyingMany cX11_lyingMany 4 (some .int) ∈ ml_TB := ml_inTB (List.mem_append_right _ (List.mem_of_getElem? (i := 1229) (by decide +kernel))) rfl
theorem wm_327 : Cond.instanceMethod ⟨"LostRoomModel", "lyingMany", "(I)I"⟩ ∈ ml_TB := ml_inTB (List.mem_append_right _ (List.mem_of_getElem? (i := 1228) (by decide +kernel))) rfl
theorem wm_328 : Cond.selects "LostRoomModel" ⟨"LostRoomModel", "lyingMany", "(I)I"⟩ ⟨"LostRoomModel", "lyingMany", "(I)I"⟩ ∈ ml_TB := ml_inTB (List.mem_append_left _ (List.mem_of_getElem? (i := 65) (by decide +kernel))) rfl
theorem wm_329 : Cond.methodLink "LostRoomModel" 196 ⟨"LostRoomModel", "lyingMany", "(I)I"⟩ ∈ ml_TB := ml_inTB (List.mem_append_right _ (List.mem_of_getElem? (i := 1226) (by decide +kernel))) rfl
theorem wm_330 : Cond.code yX11_isTrunk cX11_isTrunk 2 (some .boolean) ∈ ml_TB := ml_inTB (List.mem_append_right _ (List.mem_of_getElem? (i := 1221) (by decide +kernel))) rfl
theorem wm_331 : Cond.instanceMethod ⟨"LostRoomModel", "isTrunk", "(I)Z"⟩ ∈ ml_TB := ml_inTB (List.mem_append_right _ (List.mem_of_getElem? (i := 1220) (by decide +kernel))) rfl
theorem wm_332 : Cond.selects "LostRoomModel" ⟨"LostRoomModel", "isTrunk", "(I)Z"⟩ ⟨"LostRoomModel", "isTrunk", "(I)Z"⟩ ∈ ml_TB := ml_inTB (List.mem_append_left _ (List.mem_of_getElem? (i := 63) (by decide +kernel))) rfl
theorem wm_333 : Cond.methodLink "LostRoomModel" 199 ⟨"LostRoomModel", "isTrunk", "(I)Z"⟩ ∈ ml_TB := ml_inTB (List.mem_append_right _ (List.mem_of_getElem? (i := 1218) (by decide +kernel))) rfl
theorem wm_334 : Cond.code yX11_trunkTells cX11_trunkTells 5 (some .int) ∈ ml_TB := ml_inTB (List.mem_append_right _ (List.mem_of_getElem? (i := 1225) (by decide +kernel))) rfl
theorem wm_335 : Cond.instanceMethod ⟨"LostRoomModel", "trunkTells", "(II)I"⟩ ∈ ml_TB := ml_inTB (List.mem_append_right _ (List.mem_of_getElem? (i := 1224) (by decide +kernel))) rfl
theorem wm_336 : Cond.selects "LostRoomModel" ⟨"LostRoomModel", "trunkTells", "(II)I"⟩ ⟨"LostRoomModel", "trunkTells", "(II)I"⟩ ∈ ml_TB := ml_inTB (List.mem_append_left _ (List.mem_of_getElem? (i := 64) (by decide +kernel))) rfl
theorem wm_337 : Cond.methodLink "LostRoomModel" 202 ⟨"LostRoomModel", "trunkTells", "(II)I"⟩ ∈ ml_TB := ml_inTB (List.mem_append_right _ (List.mem_of_getElem? (i := 1222) (by decide +kernel))) rfl
theorem wm_338 : Cond.code yX10_isKeyNumber cX10_isKeyNumber 2 (some .boolean) ∈ ml_TB := ml_inTB (List.mem_append_right _ (List.mem_of_getElem? (i := 452) (by decide +kernel))) rfl
theorem wm_339 : Cond.static ⟨"LostRoom", "isKeyNumber", "(I)Z"⟩ ∈ ml_TB := ml_inTB (List.mem_append_right _ (List.mem_of_getElem? (i := 451) (by decide +kernel))) rfl
theorem wm_340 : Cond.methodLink "LostRoom" 392 ⟨"LostRoom", "isKeyNumber", "(I)Z"⟩ ∈ ml_TB := ml_inTB (List.mem_append_right _ (List.mem_of_getElem? (i := 450) (by decide +kernel))) rfl
theorem wm_341 : Cond.methodLink "LostRoom$Thing" 3 ⟨"java/lang/Object", "<init>", "()V"⟩ ∈ ml_TB := ml_inTB (List.mem_append_right _ (List.mem_of_getElem? (i := 457) (by decide +kernel))) rfl
theorem wm_342 : Cond.fieldLink "LostRoom$Thing" 9 "LostRoom$Thing" "trunk" "I" ∈ ml_TB := ml_inTB (List.mem_append_right _ (List.mem_of_getElem? (i := 473) (by decide +kernel))) rfl
theorem wm_343 : Cond.fieldLink "LostRoom$Thing" 15 "LostRoom$Thing" "kind" "I" ∈ ml_TB := ml_inTB (List.mem_append_right _ (List.mem_of_getElem? (i := 458) (by decide +kernel))) rfl
theorem wm_344 : Cond.fieldLink "LostRoom$Thing" 18 "LostRoom$Thing" "from" "I" ∈ ml_TB := ml_inTB (List.mem_append_right _ (List.mem_of_getElem? (i := 461) (by decide +kernel))) rfl
theorem wm_345 : Cond.fieldLink "LostRoom$Thing" 21 "LostRoom$Thing" "till" "I" ∈ ml_TB := ml_inTB (List.mem_append_right _ (List.mem_of_getElem? (i := 464) (by decide +kernel))) rfl
theorem wm_346 : Cond.fieldLink "LostRoom$Thing" 24 "LostRoom$Thing" "number" "I" ∈ ml_TB := ml_inTB (List.mem_append_right _ (List.mem_of_getElem? (i := 467) (by decide +kernel))) rfl
theorem wm_347 : Cond.fieldLink "LostRoom$Thing" 27 "LostRoom$Thing" "receiver" "I" ∈ ml_TB := ml_inTB (List.mem_append_right _ (List.mem_of_getElem? (i := 470) (by decide +kernel))) rfl
theorem wm_348 : Cond.fieldLink "LostRoom$Thing" 50 "LostRoom$Lodger" "hand" "I" ∈ ml_TB := ml_inTB (List.mem_append_right _ (List.mem_of_getElem? (i := 359) (by decide +kernel))) rfl
theorem wm_349 : Cond.fieldLink "LostRoom$Thing" 47 "LostRoom$Lodger" "town" "I" ∈ ml_TB := ml_inTB (List.mem_append_right _ (List.mem_of_getElem? (i := 356) (by decide +kernel))) rfl
theorem wm_350 : Cond.fieldLink "LostRoom$Thing" 30 "LostRoom$Lodger" "from" "I" ∈ ml_TB := ml_inTB (List.mem_append_right _ (List.mem_of_getElem? (i := 346) (by decide +kernel))) rfl
theorem wm_351 : Cond.fieldLink "LostRoom$Thing" 33 "LostRoom$Lodger" "till" "I" ∈ ml_TB := ml_inTB (List.mem_append_right _ (List.mem_of_getElem? (i := 349) (by decide +kernel))) rfl
theorem wm_352 : Cond.fieldLink "LostRoom$Thing" 34 "LostRoom$Lodger" "size" "I" ∈ ml_TB := ml_inTB (List.mem_append_right _ (List.mem_of_getElem? (i := 353) (by decide +kernel))) rfl
theorem wm_353 : Cond.methodLink "LostRoom$Thing" 37 ⟨"java/lang/Math", "abs", "(I)I"⟩ ∈ ml_TB := ml_inTB (List.mem_append_right _ (List.mem_of_getElem? (i := 502) (by decide +kernel))) rfl
theorem wm_354 : Cond.static ⟨"java/lang/Math", "abs", "(I)I"⟩ ∈ ml_TB := ml_inTB (List.mem_append_right _ (List.mem_of_getElem? (i := 503) (by decide +kernel))) rfl
theorem wm_355 : Cond.code Lib.Math.abs.name Lib.Math.abs.code 1 (some .int) ∈ ml_TB := ml_inTB (List.mem_append_right _ (List.mem_of_getElem? (i := 504) (by decide +kernel))) rfl
theorem wm_356 : Cond.code yX8_suitsAsLetter cX8_suitsAsLetter 3 (some .boolean) ∈ ml_TB := ml_inTB (List.mem_append_right _ (List.mem_of_getElem? (i := 508) (by decide +kernel))) rfl
theorem wm_357 : Cond.initialized "LostRoom$Thing" ∈ ml_TB := ml_inTB (List.mem_append_right _ (List.mem_of_getElem? (i := 11) (by decide +kernel))) rfl
theorem wm_358 : Cond.instanceMethod ⟨"LostRoom$Thing", "suitsAsLetter", "(LLostRoom$Lodger;)Z"⟩ ∈ ml_TB := ml_inTB (List.mem_append_right _ (List.mem_of_getElem? (i := 507) (by decide +kernel))) rfl
theorem wm_359 : Cond.selects "LostRoom$Thing" ⟨"LostRoom$Thing", "suitsAsLetter", "(LLostRoom$Lodger;)Z"⟩ ⟨"LostRoom$Thing", "suitsAsLetter", "(LLostRoom$Lodger;)Z"⟩ ∈ ml_TB := ml_inTB (List.mem_append_left _ (List.mem_of_getElem? (i := 15) (by decide +kernel))) rfl
theorem wm_360 : Cond.methodLink "LostRoom$Thing" 43 ⟨"LostRoom$Thing", "suitsAsLetter", "(LLostRoom$Lodger;)Z"⟩ ∈ ml_TB := ml_inTB (List.mem_append_right _ (List.mem_of_getElem? (i := 505) (by decide +kernel))) rfl
theorem wm_361 : Cond.code yX8_suits cX8_suits 3 (some .boolean) ∈ ml_TB := ml_inTB (List.mem_append_right _ (List.mem_of_getElem? (i := 501) (by decide +kernel))) rfl
theorem wm_362 : Cond.instanceMethod ⟨"LostRoom$Thing", "suits", "(LLostRoom$Lodger;I)Z"⟩ ∈ ml_TB := ml_inTB (List.mem_append_right _ (List.mem_of_getElem? (i := 499) (by decide +kernel))) rfl
theorem wm_363 : Cond.selects "LostRoom$Thing" ⟨"LostRoom$Thing", "suits", "(LLostRoom$Lodger;I)Z"⟩ ⟨"LostRoom$Thing", "suits", "(LLostRoom$Lodger;I)Z"⟩ ∈ ml_TB := ml_inTB (List.mem_append_right _ (List.mem_of_getElem? (i := 500) (by decide +kernel))) rfl
theorem wm_364 : Cond.methodLink "LostRoom" 395 ⟨"LostRoom$Thing", "suits", "(LLostRoom$Lodger;I)Z"⟩ ∈ ml_TB := ml_inTB (List.mem_append_right _ (List.mem_of_getElem? (i := 498) (by decide +kernel))) rfl
theorem wm_365 : Cond.code yX8_init cX8_init 6 none ∈ ml_TB := ml_inTB (List.mem_append_right _ (List.mem_of_getElem? (i := 456) (by decide +kernel))) rfl
theorem wm_366 : Cond.instanceMethod ⟨"LostRoom$Thing", "<init>", "(IIIII)V"⟩ ∈ ml_TB := ml_inTB (List.mem_append_right _ (List.mem_of_getElem? (i := 455) (by decide +kernel))) rfl
theorem wm_367 : Cond.methodLink "LostRoom" 162 ⟨"LostRoom$Thing", "<init>", "(IIIII)V"⟩ ∈ ml_TB := ml_inTB (List.mem_append_right _ (List.mem_of_getElem? (i := 454) (by decide +kernel))) rfl
theorem wm_368 : Cond.code yX10_ownersOf cX10_ownersOf 4 (some .int) ∈ ml_TB := ml_inTB (List.mem_append_right _ (List.mem_of_getElem? (i := 497) (by decide +kernel))) rfl
theorem wm_369 : Cond.instanceMethod ⟨"LostRoom", "ownersOf", "(LLostRoom$Thing;)I"⟩ ∈ ml_TB := ml_inTB (List.mem_append_right _ (List.mem_of_getElem? (i := 496) (by decide +kernel))) rfl
theorem wm_370 : Cond.selects "LostRoom" ⟨"LostRoom", "ownersOf", "(LLostRoom$Thing;)I"⟩ ⟨"LostRoom", "ownersOf", "(LLostRoom$Thing;)I"⟩ ∈ ml_TB := ml_inTB (List.mem_append_left _ (List.mem_of_getElem? (i := 14) (by decide +kernel))) rfl
theorem wm_371 : Cond.methodLink "LostRoom" 165 ⟨"LostRoom", "ownersOf", "(LLostRoom$Thing;)I"⟩ ∈ ml_TB := ml_inTB (List.mem_append_right _ (List.mem_of_getElem? (i := 494) (by decide +kernel))) rfl
theorem wm_372 : Cond.fieldLink "LostRoom" 169 "LostRoom$Thing" "owners" "I" ∈ ml_TB := ml_inTB (List.mem_append_right _ (List.mem_of_getElem? (i := 472) (by decide +kernel))) rfl
theorem wm_373 : Cond.instantiable "LostRoom$Thing" 8 ∈ ml_TB := ml_inTB (List.mem_append_right _ (List.mem_of_getElem? (i := 453) (by decide +kernel))) rfl
theorem wm_374 : Cond.code yX10_areYears cX10_areYears 2 (some .boolean) ∈ ml_TB := ml_inTB (List.mem_append_right _ (List.mem_of_getElem? (i := 446) (by decide +kernel))) rfl
theorem wm_375 : Cond.static ⟨"LostRoom", "areYears", "(II)Z"⟩ ∈ ml_TB := ml_inTB (List.mem_append_right _ (List.mem_of_getElem? (i := 445) (by decide +kernel))) rfl
theorem wm_376 : Cond.methodLink "LostRoom" 154 ⟨"LostRoom", "areYears", "(II)Z"⟩ ∈ ml_TB := ml_inTB (List.mem_append_right _ (List.mem_of_getElem? (i := 444) (by decide +kernel))) rfl
theorem wm_377 : Cond.code yX10_numberOf cX10_numberOf 3 (some .int) ∈ ml_TB := ml_inTB (List.mem_append_right _ (List.mem_of_getElem? (i := 449) (by decide +kernel))) rfl
theorem wm_378 : Cond.static ⟨"LostRoom", "numberOf", "(III)I"⟩ ∈ ml_TB := ml_inTB (List.mem_append_right _ (List.mem_of_getElem? (i := 448) (by decide +kernel))) rfl
theorem wm_379 : Cond.methodLink "LostRoom" 158 ⟨"LostRoom", "numberOf", "(III)I"⟩ ∈ ml_TB := ml_inTB (List.mem_append_right _ (List.mem_of_getElem? (i := 447) (by decide +kernel))) rfl
theorem wm_380 : Cond.code yX11_isKey cX11_isKey 3 (some .boolean) ∈ ml_TB := ml_inTB (List.mem_append_right _ (List.mem_of_getElem? (i := 1247) (by decide +kernel))) rfl
theorem wm_381 : Cond.static ⟨"LostRoomModel", "isKey", "(I)Z"⟩ ∈ ml_TB := ml_inTB (List.mem_append_right _ (List.mem_of_getElem? (i := 1246) (by decide +kernel))) rfl
theorem wm_382 : Cond.methodLink "LostRoomModel" 208 ⟨"LostRoomModel", "isKey", "(I)Z"⟩ ∈ ml_TB := ml_inTB (List.mem_append_right _ (List.mem_of_getElem? (i := 1245) (by decide +kernel))) rfl
theorem wm_383 : Cond.code yX11_isYears cX11_isYears 2 (some .boolean) ∈ ml_TB := ml_inTB (List.mem_append_right _ (List.mem_of_getElem? (i := 1240) (by decide +kernel))) rfl
theorem wm_384 : Cond.static ⟨"LostRoomModel", "isYears", "(II)Z"⟩ ∈ ml_TB := ml_inTB (List.mem_append_right _ (List.mem_of_getElem? (i := 1239) (by decide +kernel))) rfl
theorem wm_385 : Cond.methodLink "LostRoomModel" 211 ⟨"LostRoomModel", "isYears", "(II)Z"⟩ ∈ ml_TB := ml_inTB (List.mem_append_right _ (List.mem_of_getElem? (i := 1238) (by decide +kernel))) rfl
theorem wm_386 : Cond.code yX11_isThingTold cX11_isThingTold 4 (some .boolean) ∈ ml_TB := ml_inTB (List.mem_append_right _ (List.mem_of_getElem? (i := 1244) (by decide +kernel))) rfl
theorem wm_387 : Cond.instanceMethod ⟨"LostRoomModel", "isThingTold", "(III)Z"⟩ ∈ ml_TB := ml_inTB (List.mem_append_right _ (List.mem_of_getElem? (i := 1243) (by decide +kernel))) rfl
theorem wm_388 : Cond.selects "LostRoomModel" ⟨"LostRoomModel", "isThingTold", "(III)Z"⟩ ⟨"LostRoomModel", "isThingTold", "(III)Z"⟩ ∈ ml_TB := ml_inTB (List.mem_append_left _ (List.mem_of_getElem? (i := 67) (by decide +kernel))) rfl
theorem wm_389 : Cond.methodLink "LostRoomModel" 214 ⟨"LostRoomModel", "isThingTold", "(III)Z"⟩ ∈ ml_TB := ml_inTB (List.mem_append_right _ (List.mem_of_getElem? (i := 1241) (by decide +kernel))) rfl
theorem wm_390 : Cond.fieldLink "LostRoom" 178 "LostRoom$Thing" "wet" "Z" ∈ ml_TB := ml_inTB (List.mem_append_right _ (List.mem_of_getElem? (i := 476) (by decide +kernel))) rfl
theorem wm_391 : Cond.code yX10_isThing cX10_isThing 2 (some .boolean) ∈ ml_TB := ml_inTB (List.mem_append_right _ (List.mem_of_getElem? (i := 516) (by decide +kernel))) rfl
theorem wm_392 : Cond.instanceMethod ⟨"LostRoom", "isThing", "(I)Z"⟩ ∈ ml_TB := ml_inTB (List.mem_append_right _ (List.mem_of_getElem? (i := 515) (by decide +kernel))) rfl
theorem wm_393 : Cond.selects "LostRoom" ⟨"LostRoom", "isThing", "(I)Z"⟩ ⟨"LostRoom", "isThing", "(I)Z"⟩ ∈ ml_TB := ml_inTB (List.mem_append_left _ (List.mem_of_getElem? (i := 16) (by decide +kernel))) rfl
theorem wm_394 : Cond.methodLink "LostRoom" 172 ⟨"LostRoom", "isThing", "(I)Z"⟩ ∈ ml_TB := ml_inTB (List.mem_append_right _ (List.mem_of_getElem? (i := 513) (by decide +kernel))) rfl
theorem wm_395 : Cond.code yX11_isThing cX11_isThing 2 (some .boolean) ∈ ml_TB := ml_inTB (List.mem_append_right _ (List.mem_of_getElem? (i := 1255) (by decide +kernel))) rfl
theorem wm_396 : Cond.instanceMethod ⟨"LostRoomModel", "isThing", "(I)Z"⟩ ∈ ml_TB := ml_inTB (List.mem_append_right _ (List.mem_of_getElem? (i := 1254) (by decide +kernel))) rfl
theorem wm_397 : Cond.selects "LostRoomModel" ⟨"LostRoomModel", "isThing", "(I)Z"⟩ ⟨"LostRoomModel", "isThing", "(I)Z"⟩ ∈ ml_TB := ml_inTB (List.mem_append_left _ (List.mem_of_getElem? (i := 68) (by decide +kernel))) rfl
theorem wm_398 : Cond.methodLink "LostRoomModel" 217 ⟨"LostRoomModel", "isThing", "(I)Z"⟩ ∈ ml_TB := ml_inTB (List.mem_append_right _ (List.mem_of_getElem? (i := 1252) (by decide +kernel))) rfl
theorem wm_399 : Cond.fieldLink "LostRoom" 210 "LostRoom$Thing" "kind" "I" ∈ ml_TB := ml_inTB (List.mem_append_right _ (List.mem_of_getElem? (i := 460) (by decide +kernel))) rfl
theorem wm_400 : Cond.fieldLink "LostRoom" 390 "LostRoom$Thing" "from" "I" ∈ ml_TB := ml_inTB (List.mem_append_right _ (List.mem_of_getElem? (i := 463) (by decide +kernel))) rfl
theorem wm_401 : Cond.fieldLink "LostRoom" 391 "LostRoom$Thing" "till" "I" ∈ ml_TB := ml_inTB (List.mem_append_right _ (List.mem_of_getElem? (i := 466) (by decide +kernel))) rfl
theorem wm_402 : Cond.code yX10_thingFact cX10_thingFact 4 (some .int) ∈ ml_TB := ml_inTB (List.mem_append_right _ (List.mem_of_getElem? (i := 524) (by decide +kernel))) rfl
theorem wm_403 : Cond.instanceMethod ⟨"LostRoom", "thingFact", "(II)I"⟩ ∈ ml_TB := ml_inTB (List.mem_append_right _ (List.mem_of_getElem? (i := 523) (by decide +kernel))) rfl
theorem wm_404 : Cond.selects "LostRoom" ⟨"LostRoom", "thingFact", "(II)I"⟩ ⟨"LostRoom", "thingFact", "(II)I"⟩ ∈ ml_TB := ml_inTB (List.mem_append_left _ (List.mem_of_getElem? (i := 17) (by decide +kernel))) rfl
theorem wm_405 : Cond.methodLink "LostRoom" 181 ⟨"LostRoom", "thingFact", "(II)I"⟩ ∈ ml_TB := ml_inTB (List.mem_append_right _ (List.mem_of_getElem? (i := 521) (by decide +kernel))) rfl
theorem wm_406 : Cond.code yX10_isKind cX10_isKind 1 (some .boolean) ∈ ml_TB := ml_inTB (List.mem_append_right _ (List.mem_of_getElem? (i := 531) (by decide +kernel))) rfl
theorem wm_407 : Cond.static ⟨"LostRoom", "isKind", "(I)Z"⟩ ∈ ml_TB := ml_inTB (List.mem_append_right _ (List.mem_of_getElem? (i := 530) (by decide +kernel))) rfl
theorem wm_408 : Cond.methodLink "LostRoom" 184 ⟨"LostRoom", "isKind", "(I)Z"⟩ ∈ ml_TB := ml_inTB (List.mem_append_right _ (List.mem_of_getElem? (i := 529) (by decide +kernel))) rfl
theorem wm_409 : Cond.code yX8_isOf cX8_isOf 2 (some .boolean) ∈ ml_TB := ml_inTB (List.mem_append_right _ (List.mem_of_getElem? (i := 535) (by decide +kernel))) rfl
theorem wm_410 : Cond.instanceMethod ⟨"LostRoom$Thing", "isOf", "(I)Z"⟩ ∈ ml_TB := ml_inTB (List.mem_append_right _ (List.mem_of_getElem? (i := 533) (by decide +kernel))) rfl
theorem wm_411 : Cond.selects "LostRoom$Thing" ⟨"LostRoom$Thing", "isOf", "(I)Z"⟩ ⟨"LostRoom$Thing", "isOf", "(I)Z"⟩ ∈ ml_TB := ml_inTB (List.mem_append_right _ (List.mem_of_getElem? (i := 534) (by decide +kernel))) rfl
theorem wm_412 : Cond.methodLink "LostRoom" 187 ⟨"LostRoom$Thing", "isOf", "(I)Z"⟩ ∈ ml_TB := ml_inTB (List.mem_append_right _ (List.mem_of_getElem? (i := 532) (by decide +kernel))) rfl
theorem wm_413 : Cond.code yX8_tells cX8_tells 2 (some .int) ∈ ml_TB := ml_inTB (List.mem_append_right _ (List.mem_of_getElem? (i := 539) (by decide +kernel))) rfl
theorem wm_414 : Cond.instanceMethod ⟨"LostRoom$Thing", "tells", "(I)I"⟩ ∈ ml_TB := ml_inTB (List.mem_append_right _ (List.mem_of_getElem? (i := 537) (by decide +kernel))) rfl
theorem wm_415 : Cond.selects "LostRoom$Thing" ⟨"LostRoom$Thing", "tells", "(I)I"⟩ ⟨"LostRoom$Thing", "tells", "(I)I"⟩ ∈ ml_TB := ml_inTB (List.mem_append_right _ (List.mem_of_getElem? (i := 538) (by decide +kernel))) rfl
theorem wm_416 : Cond.methodLink "LostRoom" 190 ⟨"LostRoom$Thing", "tells", "(I)I"⟩ ∈ ml_TB := ml_inTB (List.mem_append_right _ (List.mem_of_getElem? (i := 536) (by decide +kernel))) rfl
theorem wm_417 : Cond.code yX11_kind cX11_kind 2 (some .int) ∈ ml_TB := ml_inTB (List.mem_append_right _ (List.mem_of_getElem? (i := 1271) (by decide +kernel))) rfl
theorem wm_418 : Cond.instanceMethod ⟨"LostRoomModel", "kind", "(I)I"⟩ ∈ ml_TB := ml_inTB (List.mem_append_right _ (List.mem_of_getElem? (i := 1270) (by decide +kernel))) rfl
theorem wm_419 : Cond.selects "LostRoomModel" ⟨"LostRoomModel", "kind", "(I)I"⟩ ⟨"LostRoomModel", "kind", "(I)I"⟩ ∈ ml_TB := ml_inTB (List.mem_append_left _ (List.mem_of_getElem? (i := 70) (by decide +kernel))) rfl
theorem wm_420 : Cond.methodLink "LostRoomModel" 220 ⟨"LostRoomModel", "kind", "(I)I"⟩ ∈ ml_TB := ml_inTB (List.mem_append_right _ (List.mem_of_getElem? (i := 1268) (by decide +kernel))) rfl
theorem wm_421 : Cond.code yX11_x cX11_x 2 (some .int) ∈ ml_TB := ml_inTB (List.mem_append_right _ (List.mem_of_getElem? (i := 1283) (by decide +kernel))) rfl
theorem wm_422 : Cond.instanceMethod ⟨"LostRoomModel", "x", "(I)I"⟩ ∈ ml_TB := ml_inTB (List.mem_append_right _ (List.mem_of_getElem? (i := 1282) (by decide +kernel))) rfl
theorem wm_423 : Cond.selects "LostRoomModel" ⟨"LostRoomModel", "x", "(I)I"⟩ ⟨"LostRoomModel", "x", "(I)I"⟩ ∈ ml_TB := ml_inTB (List.mem_append_left _ (List.mem_of_getElem? (i := 73) (by decide +kernel))) rfl
theorem wm_424 : Cond.methodLink "LostRoomModel" 226 ⟨"LostRoomModel", "x", "(I)I"⟩ ∈ ml_TB := ml_inTB (List.mem_append_right _ (List.mem_of_getElem? (i := 1280) (by decide +kernel))) rfl
theorem wm_425 : Cond.code yX11_y cX11_y 2 (some .int) ∈ ml_TB := ml_inTB (List.mem_append_right _ (List.mem_of_getElem? (i := 1279) (by decide +kernel))) rfl
theorem wm_426 : Cond.instanceMethod ⟨"LostRoomModel", "y", "(I)I"⟩ ∈ ml_TB := ml_inTB (List.mem_append_right _ (List.mem_of_getElem? (i := 1278) (by decide +kernel))) rfl
theorem wm_427 : Cond.selects "LostRoomModel" ⟨"LostRoomModel", "y", "(I)I"⟩ ⟨"LostRoomModel", "y", "(I)I"⟩ ∈ ml_TB := ml_inTB (List.mem_append_left _ (List.mem_of_getElem? (i := 72) (by decide +kernel))) rfl
theorem wm_428 : Cond.methodLink "LostRoomModel" 223 ⟨"LostRoomModel", "y", "(I)I"⟩ ∈ ml_TB := ml_inTB (List.mem_append_right _ (List.mem_of_getElem? (i := 1276) (by decide +kernel))) rfl
theorem wm_429 : Cond.code yX11_isOf cX11_isOf 3 (some .boolean) ∈ ml_TB := ml_inTB (List.mem_append_right _ (List.mem_of_getElem? (i := 1267) (by decide +kernel))) rfl
theorem wm_430 : Cond.instanceMethod ⟨"LostRoomModel", "isOf", "(II)Z"⟩ ∈ ml_TB := ml_inTB (List.mem_append_right _ (List.mem_of_getElem? (i := 1266) (by decide +kernel))) rfl
theorem wm_431 : Cond.selects "LostRoomModel" ⟨"LostRoomModel", "isOf", "(II)Z"⟩ ⟨"LostRoomModel", "isOf", "(II)Z"⟩ ∈ ml_TB := ml_inTB (List.mem_append_left _ (List.mem_of_getElem? (i := 69) (by decide +kernel))) rfl
theorem wm_432 : Cond.methodLink "LostRoomModel" 229 ⟨"LostRoomModel", "isOf", "(II)Z"⟩ ∈ ml_TB := ml_inTB (List.mem_append_right _ (List.mem_of_getElem? (i := 1264) (by decide +kernel))) rfl
theorem wm_433 : Cond.code yX11_markOf cX11_markOf 3 (some .int) ∈ ml_TB := ml_inTB (List.mem_append_right _ (List.mem_of_getElem? (i := 1275) (by decide +kernel))) rfl
theorem wm_434 : Cond.instanceMethod ⟨"LostRoomModel", "markOf", "(II)I"⟩ ∈ ml_TB := ml_inTB (List.mem_append_right _ (List.mem_of_getElem? (i := 1274) (by decide +kernel))) rfl
theorem wm_435 : Cond.selects "LostRoomModel" ⟨"LostRoomModel", "markOf", "(II)I"⟩ ⟨"LostRoomModel", "markOf", "(II)I"⟩ ∈ ml_TB := ml_inTB (List.mem_append_left _ (List.mem_of_getElem? (i := 71) (by decide +kernel))) rfl
theorem wm_436 : Cond.methodLink "LostRoomModel" 232 ⟨"LostRoomModel", "markOf", "(II)I"⟩ ∈ ml_TB := ml_inTB (List.mem_append_right _ (List.mem_of_getElem? (i := 1272) (by decide +kernel))) rfl
theorem wm_437 : Cond.code yX11_meetYears cX11_meetYears 5 (some .boolean) ∈ ml_TB := ml_inTB (List.mem_append_right _ (List.mem_of_getElem? (i := 1299) (by decide +kernel))) rfl
theorem wm_438 : Cond.instanceMethod ⟨"LostRoomModel", "meetYears", "(IIII)Z"⟩ ∈ ml_TB := ml_inTB (List.mem_append_right _ (List.mem_of_getElem? (i := 1298) (by decide +kernel))) rfl
theorem wm_439 : Cond.selects "LostRoomModel" ⟨"LostRoomModel", "meetYears", "(IIII)Z"⟩ ⟨"LostRoomModel", "meetYears", "(IIII)Z"⟩ ∈ ml_TB := ml_inTB (List.mem_append_left _ (List.mem_of_getElem? (i := 76) (by decide +kernel))) rfl
theorem wm_440 : Cond.methodLink "LostRoomModel" 235 ⟨"LostRoomModel", "meetYears", "(IIII)Z"⟩ ∈ ml_TB := ml_inTB (List.mem_append_right _ (List.mem_of_getElem? (i := 1296) (by decide +kernel))) rfl
theorem wm_441 : Cond.code yX11_off cX11_off 2 (some .int) ∈ ml_TB := ml_inTB (List.mem_append_right _ (List.mem_of_getElem? (i := 1302) (by decide +kernel))) rfl
theorem wm_442 : Cond.static ⟨"LostRoomModel", "off", "(II)I"⟩ ∈ ml_TB := ml_inTB (List.mem_append_right _ (List.mem_of_getElem? (i := 1301) (by decide +kernel))) rfl
theorem wm_443 : Cond.methodLink "LostRoomModel" 239 ⟨"LostRoomModel", "off", "(II)I"⟩ ∈ ml_TB := ml_inTB (List.mem_append_right _ (List.mem_of_getElem? (i := 1300) (by decide +kernel))) rfl
theorem wm_444 : Cond.code yX11_mayHave cX11_mayHave 7 (some .boolean) ∈ ml_TB := ml_inTB (List.mem_append_right _ (List.mem_of_getElem? (i := 1295) (by decide +kernel))) rfl
theorem wm_445 : Cond.instanceMethod ⟨"LostRoomModel", "mayHave", "(II)Z"⟩ ∈ ml_TB := ml_inTB (List.mem_append_right _ (List.mem_of_getElem? (i := 1294) (by decide +kernel))) rfl
theorem wm_446 : Cond.selects "LostRoomModel" ⟨"LostRoomModel", "mayHave", "(II)Z"⟩ ⟨"LostRoomModel", "mayHave", "(II)Z"⟩ ∈ ml_TB := ml_inTB (List.mem_append_left _ (List.mem_of_getElem? (i := 75) (by decide +kernel))) rfl
theorem wm_447 : Cond.methodLink "LostRoomModel" 242 ⟨"LostRoomModel", "mayHave", "(II)Z"⟩ ∈ ml_TB := ml_inTB (List.mem_append_right _ (List.mem_of_getElem? (i := 1292) (by decide +kernel))) rfl
theorem wm_448 : Cond.code yX11_mayOf cX11_mayOf 4 (some .int) ∈ ml_TB := ml_inTB (List.mem_append_right _ (List.mem_of_getElem? (i := 1291) (by decide +kernel))) rfl
theorem wm_449 : Cond.instanceMethod ⟨"LostRoomModel", "mayOf", "(I)I"⟩ ∈ ml_TB := ml_inTB (List.mem_append_right _ (List.mem_of_getElem? (i := 1290) (by decide +kernel))) rfl
theorem wm_450 : Cond.selects "LostRoomModel" ⟨"LostRoomModel", "mayOf", "(I)I"⟩ ⟨"LostRoomModel", "mayOf", "(I)I"⟩ ∈ ml_TB := ml_inTB (List.mem_append_left _ (List.mem_of_getElem? (i := 74) (by decide +kernel))) rfl
theorem wm_451 : Cond.methodLink "LostRoomModel" 245 ⟨"LostRoomModel", "mayOf", "(I)I"⟩ ∈ ml_TB := ml_inTB (List.mem_append_right _ (List.mem_of_getElem? (i := 1288) (by decide +kernel))) rfl
theorem wm_452 : Cond.code yX10_ownAll cX10_ownAll 3 (some .boolean) ∈ ml_TB := ml_inTB (List.mem_append_right _ (List.mem_of_getElem? (i := 557) (by decide +kernel))) rfl
theorem wm_453 : Cond.instanceMethod ⟨"LostRoom", "ownAll", "(I)Z"⟩ ∈ ml_TB := ml_inTB (List.mem_append_right _ (List.mem_of_getElem? (i := 556) (by decide +kernel))) rfl
theorem wm_454 : Cond.selects "LostRoom" ⟨"LostRoom", "ownAll", "(I)Z"⟩ ⟨"LostRoom", "ownAll", "(I)Z"⟩ ∈ ml_TB := ml_inTB (List.mem_append_left _ (List.mem_of_getElem? (i := 18) (by decide +kernel))) rfl
theorem wm_455 : Cond.methodLink "LostRoom" 200 ⟨"LostRoom", "ownAll", "(I)Z"⟩ ∈ ml_TB := ml_inTB (List.mem_append_right _ (List.mem_of_getElem? (i := 554) (by decide +kernel))) rfl
theorem wm_456 : Cond.code yJ6_bitCount_0f7a4 cJ6_bitCount_0f7a4 1 (some .int) ∈ ml_TB := ml_inTB (List.mem_append_right _ (List.mem_of_getElem? (i := 550) (by decide +kernel))) rfl
theorem wm_457 : Cond.initialized "java/lang/Integer" ∈ ml_TB := ml_inTB (List.mem_append_right _ (List.mem_of_getElem? (i := 13) (by decide +kernel))) rfl
theorem wm_458 : Cond.static ⟨"java/lang/Integer", "bitCount", "(I)I"⟩ ∈ ml_TB := ml_inTB (List.mem_append_right _ (List.mem_of_getElem? (i := 549) (by decide +kernel))) rfl
theorem wm_459 : Cond.methodLink "LostRoom" 196 ⟨"java/lang/Integer", "bitCount", "(I)I"⟩ ∈ ml_TB := ml_inTB (List.mem_append_right _ (List.mem_of_getElem? (i := 548) (by decide +kernel))) rfl
theorem wm_460 : Cond.code yX11_bits cX11_bits 3 (some .int) ∈ ml_TB := ml_inTB (List.mem_append_right _ (List.mem_of_getElem? (i := 1313) (by decide +kernel))) rfl
theorem wm_461 : Cond.static ⟨"LostRoomModel", "bits", "(I)I"⟩ ∈ ml_TB := ml_inTB (List.mem_append_right _ (List.mem_of_getElem? (i := 1312) (by decide +kernel))) rfl
theorem wm_462 : Cond.methodLink "LostRoomModel" 251 ⟨"LostRoomModel", "bits", "(I)I"⟩ ∈ ml_TB := ml_inTB (List.mem_append_right _ (List.mem_of_getElem? (i := 1311) (by decide +kernel))) rfl
theorem wm_463 : Cond.code yX11_coversAll cX11_coversAll 4 (some .boolean) ∈ ml_TB := ml_inTB (List.mem_append_right _ (List.mem_of_getElem? (i := 1310) (by decide +kernel))) rfl
theorem wm_464 : Cond.instanceMethod ⟨"LostRoomModel", "coversAll", "(I)Z"⟩ ∈ ml_TB := ml_inTB (List.mem_append_right _ (List.mem_of_getElem? (i := 1309) (by decide +kernel))) rfl
theorem wm_465 : Cond.selects "LostRoomModel" ⟨"LostRoomModel", "coversAll", "(I)Z"⟩ ⟨"LostRoomModel", "coversAll", "(I)Z"⟩ ∈ ml_TB := ml_inTB (List.mem_append_left _ (List.mem_of_getElem? (i := 77) (by decide +kernel))) rfl
theorem wm_466 : Cond.methodLink "LostRoomModel" 248 ⟨"LostRoomModel", "coversAll", "(I)Z"⟩ ∈ ml_TB := ml_inTB (List.mem_append_right _ (List.mem_of_getElem? (i := 1307) (by decide +kernel))) rfl
theorem wm_467 : Cond.fieldLink "LostRoom" 206 "LostRoom" "many" "J" ∈ ml_TB := ml_inTB (List.mem_append_right _ (List.mem_of_getElem? (i := 211) (by decide +kernel))) rfl
theorem wm_468 : Cond.fieldLink "LostRoomModel" 107 "LostRoomModel" "many" "J" ∈ ml_TB := ml_inTB (List.mem_append_right _ (List.mem_of_getElem? (i := 944) (by decide +kernel))) rfl
theorem wm_469 : Cond.methodLink "LostRoom" 405 ⟨"java/lang/Math", "abs", "(I)I"⟩ ∈ ml_TB := ml_inTB (List.mem_append_right _ (List.mem_of_getElem? (i := 574) (by decide +kernel))) rfl
theorem wm_470 : Cond.fieldLink "LostRoom" 399 "LostRoom$Thing" "number" "I" ∈ ml_TB := ml_inTB (List.mem_append_right _ (List.mem_of_getElem? (i := 469) (by decide +kernel))) rfl
theorem wm_471 : Cond.code yX10_turns cX10_turns 6 (some .boolean) ∈ ml_TB := ml_inTB (List.mem_append_right _ (List.mem_of_getElem? (i := 573) (by decide +kernel))) rfl
theorem wm_472 : Cond.instanceMethod ⟨"LostRoom", "turns", "(II)Z"⟩ ∈ ml_TB := ml_inTB (List.mem_append_right _ (List.mem_of_getElem? (i := 572) (by decide +kernel))) rfl
theorem wm_473 : Cond.selects "LostRoom" ⟨"LostRoom", "turns", "(II)Z"⟩ ⟨"LostRoom", "turns", "(II)Z"⟩ ∈ ml_TB := ml_inTB (List.mem_append_left _ (List.mem_of_getElem? (i := 20) (by decide +kernel))) rfl
theorem wm_474 : Cond.methodLink "LostRoom" 402 ⟨"LostRoom", "turns", "(II)Z"⟩ ∈ ml_TB := ml_inTB (List.mem_append_right _ (List.mem_of_getElem? (i := 570) (by decide +kernel))) rfl
theorem wm_475 : Cond.code yX10_opened cX10_opened 4 (some .int) ∈ ml_TB := ml_inTB (List.mem_append_right _ (List.mem_of_getElem? (i := 569) (by decide +kernel))) rfl
theorem wm_476 : Cond.instanceMethod ⟨"LostRoom", "opened", "(LLostRoom$Thing;)I"⟩ ∈ ml_TB := ml_inTB (List.mem_append_right _ (List.mem_of_getElem? (i := 568) (by decide +kernel))) rfl
theorem wm_477 : Cond.selects "LostRoom" ⟨"LostRoom", "opened", "(LLostRoom$Thing;)I"⟩ ⟨"LostRoom", "opened", "(LLostRoom$Thing;)I"⟩ ∈ ml_TB := ml_inTB (List.mem_append_left _ (List.mem_of_getElem? (i := 19) (by decide +kernel))) rfl
theorem wm_478 : Cond.methodLink "LostRoom" 213 ⟨"LostRoom", "opened", "(LLostRoom$Thing;)I"⟩ ∈ ml_TB := ml_inTB (List.mem_append_right _ (List.mem_of_getElem? (i := 566) (by decide +kernel))) rfl
theorem wm_479 : Cond.code yX11_doesOpen cX11_doesOpen 9 (some .boolean) ∈ ml_TB := ml_inTB (List.mem_append_right _ (List.mem_of_getElem? (i := 1329) (by decide +kernel))) rfl
theorem wm_480 : Cond.instanceMethod ⟨"LostRoomModel", "doesOpen", "(II)Z"⟩ ∈ ml_TB := ml_inTB (List.mem_append_right _ (List.mem_of_getElem? (i := 1328) (by decide +kernel))) rfl
theorem wm_481 : Cond.selects "LostRoomModel" ⟨"LostRoomModel", "doesOpen", "(II)Z"⟩ ⟨"LostRoomModel", "doesOpen", "(II)Z"⟩ ∈ ml_TB := ml_inTB (List.mem_append_left _ (List.mem_of_getElem? (i := 79) (by decide +kernel))) rfl
theorem wm_482 : Cond.methodLink "LostRoomModel" 254 ⟨"LostRoomModel", "doesOpen", "(II)Z"⟩ ∈ ml_TB := ml_inTB (List.mem_append_right _ (List.mem_of_getElem? (i := 1326) (by decide +kernel))) rfl
theorem wm_483 : Cond.code yX11_opensOf cX11_opensOf 4 (some .int) ∈ ml_TB := ml_inTB (List.mem_append_right _ (List.mem_of_getElem? (i := 1325) (by decide +kernel))) rfl
theorem wm_484 : Cond.instanceMethod ⟨"LostRoomModel", "opensOf", "(I)I"⟩ ∈ ml_TB := ml_inTB (List.mem_append_right _ (List.mem_of_getElem? (i := 1324) (by decide +kernel))) rfl
theorem wm_485 : Cond.selects "LostRoomModel" ⟨"LostRoomModel", "opensOf", "(I)I"⟩ ⟨"LostRoomModel", "opensOf", "(I)I"⟩ ∈ ml_TB := ml_inTB (List.mem_append_left _ (List.mem_of_getElem? (i := 78) (by decide +kernel))) rfl
theorem wm_486 : Cond.methodLink "LostRoomModel" 257 ⟨"LostRoomModel", "opensOf", "(I)I"⟩ ∈ ml_TB := ml_inTB (List.mem_append_right _ (List.mem_of_getElem? (i := 1322) (by decide +kernel))) rfl
theorem wm_487 : Cond.code yX10_has cX10_has 2 (some .boolean) ∈ ml_TB := ml_inTB (List.mem_append_right _ (List.mem_of_getElem? (i := 581) (by decide +kernel))) rfl
theorem wm_488 : Cond.static ⟨"LostRoom", "has", "(II)Z"⟩ ∈ ml_TB := ml_inTB (List.mem_append_right _ (List.mem_of_getElem? (i := 580) (by decide +kernel))) rfl
theorem wm_489 : Cond.methodLink "LostRoom" 216 ⟨"LostRoom", "has", "(II)Z"⟩ ∈ ml_TB := ml_inTB (List.mem_append_right _ (List.mem_of_getElem? (i := 579) (by decide +kernel))) rfl
theorem wm_490 : Cond.code yX11_has cX11_has 2 (some .boolean) ∈ ml_TB := ml_inTB (List.mem_append_right _ (List.mem_of_getElem? (i := 1336) (by decide +kernel))) rfl
theorem wm_491 : Cond.static ⟨"LostRoomModel", "has", "(II)Z"⟩ ∈ ml_TB := ml_inTB (List.mem_append_right _ (List.mem_of_getElem? (i := 1335) (by decide +kernel))) rfl
theorem wm_492 : Cond.methodLink "LostRoomModel" 260 ⟨"LostRoomModel", "has", "(II)Z"⟩ ∈ ml_TB := ml_inTB (List.mem_append_right _ (List.mem_of_getElem? (i := 1334) (by decide +kernel))) rfl
theorem wm_493 : Cond.methodLink "LostRoom" 233 ⟨"java/lang/Math", "min", "(II)I"⟩ ∈ ml_TB := ml_inTB (List.mem_append_right _ (List.mem_of_getElem? (i := 589) (by decide +kernel))) rfl
theorem wm_494 : Cond.methodLink "LostRoom" 228 ⟨"java/lang/Math", "max", "(II)I"⟩ ∈ ml_TB := ml_inTB (List.mem_append_right _ (List.mem_of_getElem? (i := 586) (by decide +kernel))) rfl
theorem wm_495 : Cond.static ⟨"java/lang/Math", "max", "(II)I"⟩ ∈ ml_TB := ml_inTB (List.mem_append_right _ (List.mem_of_getElem? (i := 587) (by decide +kernel))) rfl
theorem wm_496 : Cond.code Lib.Math.max.name Lib.Math.max.code 2 (some .int) ∈ ml_TB := ml_inTB (List.mem_append_right _ (List.mem_of_getElem? (i := 588) (by decide +kernel))) rfl
theorem wm_497 : Cond.code yX11_isWet cX11_isWet 2 (some .boolean) ∈ ml_TB := ml_inTB (List.mem_append_right _ (List.mem_of_getElem? (i := 1348) (by decide +kernel))) rfl
theorem wm_498 : Cond.instanceMethod ⟨"LostRoomModel", "isWet", "(I)Z"⟩ ∈ ml_TB := ml_inTB (List.mem_append_right _ (List.mem_of_getElem? (i := 1347) (by decide +kernel))) rfl
theorem wm_499 : Cond.selects "LostRoomModel" ⟨"LostRoomModel", "isWet", "(I)Z"⟩ ⟨"LostRoomModel", "isWet", "(I)Z"⟩ ∈ ml_TB := ml_inTB (List.mem_append_left _ (List.mem_of_getElem? (i := 81) (by decide +kernel))) rfl
theorem wm_500 : Cond.methodLink "LostRoomModel" 263 ⟨"LostRoomModel", "isWet", "(I)Z"⟩ ∈ ml_TB := ml_inTB (List.mem_append_right _ (List.mem_of_getElem? (i := 1345) (by decide +kernel))) rfl
theorem wm_501 : Cond.code yX11_fitsWater cX11_fitsWater 5 (some .boolean) ∈ ml_TB := ml_inTB (List.mem_append_right _ (List.mem_of_getElem? (i := 1344) (by decide +kernel))) rfl
theorem wm_502 : Cond.instanceMethod ⟨"LostRoomModel", "fitsWater", "(I)Z"⟩ ∈ ml_TB := ml_inTB (List.mem_append_right _ (List.mem_of_getElem? (i := 1343) (by decide +kernel))) rfl
theorem wm_503 : Cond.selects "LostRoomModel" ⟨"LostRoomModel", "fitsWater", "(I)Z"⟩ ⟨"LostRoomModel", "fitsWater", "(I)Z"⟩ ∈ ml_TB := ml_inTB (List.mem_append_left _ (List.mem_of_getElem? (i := 80) (by decide +kernel))) rfl
theorem wm_504 : Cond.methodLink "LostRoomModel" 266 ⟨"LostRoomModel", "fitsWater", "(I)Z"⟩ ∈ ml_TB := ml_inTB (List.mem_append_right _ (List.mem_of_getElem? (i := 1341) (by decide +kernel))) rfl
theorem wm_505 : Cond.fieldLink "LostRoom" 408 "LostRoom$Trunk" "below" "I" ∈ ml_TB := ml_inTB (List.mem_append_right _ (List.mem_of_getElem? (i := 390) (by decide +kernel))) rfl
theorem wm_506 : Cond.code yX10_canFollow cX10_canFollow 3 (some .boolean) ∈ ml_TB := ml_inTB (List.mem_append_right _ (List.mem_of_getElem? (i := 603) (by decide +kernel))) rfl
theorem wm_507 : Cond.instanceMethod ⟨"LostRoom", "canFollow", "(II)Z"⟩ ∈ ml_TB := ml_inTB (List.mem_append_right _ (List.mem_of_getElem? (i := 602) (by decide +kernel))) rfl
theorem wm_508 : Cond.selects "LostRoom" ⟨"LostRoom", "canFollow", "(II)Z"⟩ ⟨"LostRoom", "canFollow", "(II)Z"⟩ ∈ ml_TB := ml_inTB (List.mem_append_left _ (List.mem_of_getElem? (i := 22) (by decide +kernel))) rfl
theorem wm_509 : Cond.methodLink "LostRoom" 411 ⟨"LostRoom", "canFollow", "(II)Z"⟩ ∈ ml_TB := ml_inTB (List.mem_append_right _ (List.mem_of_getElem? (i := 600) (by decide +kernel))) rfl
theorem wm_510 : Cond.code yX10_ordersOfAll cX10_ordersOfAll 5 (some .int) ∈ ml_TB := ml_inTB (List.mem_append_right _ (List.mem_of_getElem? (i := 607) (by decide +kernel))) rfl
theorem wm_511 : Cond.instanceMethod ⟨"LostRoom", "ordersOfAll", "()I"⟩ ∈ ml_TB := ml_inTB (List.mem_append_right _ (List.mem_of_getElem? (i := 606) (by decide +kernel))) rfl
theorem wm_512 : Cond.selects "LostRoom" ⟨"LostRoom", "ordersOfAll", "()I"⟩ ⟨"LostRoom", "ordersOfAll", "()I"⟩ ∈ ml_TB := ml_inTB (List.mem_append_left _ (List.mem_of_getElem? (i := 23) (by decide +kernel))) rfl
theorem wm_513 : Cond.methodLink "LostRoom" 239 ⟨"LostRoom", "ordersOfAll", "()I"⟩ ∈ ml_TB := ml_inTB (List.mem_append_right _ (List.mem_of_getElem? (i := 604) (by decide +kernel))) rfl
theorem wm_514 : Cond.code yX10_firstToFollow cX10_firstToFollow 3 (some .int) ∈ ml_TB := ml_inTB (List.mem_append_right _ (List.mem_of_getElem? (i := 599) (by decide +kernel))) rfl
theorem wm_515 : Cond.instanceMethod ⟨"LostRoom", "firstToFollow", "(I)I"⟩ ∈ ml_TB := ml_inTB (List.mem_append_right _ (List.mem_of_getElem? (i := 598) (by decide +kernel))) rfl
theorem wm_516 : Cond.selects "LostRoom" ⟨"LostRoom", "firstToFollow", "(I)I"⟩ ⟨"LostRoom", "firstToFollow", "(I)I"⟩ ∈ ml_TB := ml_inTB (List.mem_append_left _ (List.mem_of_getElem? (i := 21) (by decide +kernel))) rfl
theorem wm_517 : Cond.methodLink "LostRoom" 236 ⟨"LostRoom", "firstToFollow", "(I)I"⟩ ∈ ml_TB := ml_inTB (List.mem_append_right _ (List.mem_of_getElem? (i := 596) (by decide +kernel))) rfl
theorem wm_518 : Cond.code yX11_canCome cX11_canCome 5 (some .boolean) ∈ ml_TB := ml_inTB (List.mem_append_right _ (List.mem_of_getElem? (i := 1356) (by decide +kernel))) rfl
theorem wm_519 : Cond.instanceMethod ⟨"LostRoomModel", "canCome", "(II)Z"⟩ ∈ ml_TB := ml_inTB (List.mem_append_right _ (List.mem_of_getElem? (i := 1355) (by decide +kernel))) rfl
theorem wm_520 : Cond.selects "LostRoomModel" ⟨"LostRoomModel", "canCome", "(II)Z"⟩ ⟨"LostRoomModel", "canCome", "(II)Z"⟩ ∈ ml_TB := ml_inTB (List.mem_append_left _ (List.mem_of_getElem? (i := 82) (by decide +kernel))) rfl
theorem wm_521 : Cond.methodLink "LostRoomModel" 269 ⟨"LostRoomModel", "canCome", "(II)Z"⟩ ∈ ml_TB := ml_inTB (List.mem_append_right _ (List.mem_of_getElem? (i := 1353) (by decide +kernel))) rfl
theorem wm_522 : Cond.code yX11_clear cX11_clear 4 none ∈ ml_TB := ml_inTB (List.mem_append_right _ (List.mem_of_getElem? (i := 1360) (by decide +kernel))) rfl
theorem wm_523 : Cond.instanceMethod ⟨"LostRoomModel", "clear", "(II)V"⟩ ∈ ml_TB := ml_inTB (List.mem_append_right _ (List.mem_of_getElem? (i := 1359) (by decide +kernel))) rfl
theorem wm_524 : Cond.selects "LostRoomModel" ⟨"LostRoomModel", "clear", "(II)V"⟩ ⟨"LostRoomModel", "clear", "(II)V"⟩ ∈ ml_TB := ml_inTB (List.mem_append_left _ (List.mem_of_getElem? (i := 83) (by decide +kernel))) rfl
theorem wm_525 : Cond.methodLink "LostRoomModel" 272 ⟨"LostRoomModel", "clear", "(II)V"⟩ ∈ ml_TB := ml_inTB (List.mem_append_right _ (List.mem_of_getElem? (i := 1357) (by decide +kernel))) rfl
theorem wm_526 : Cond.fieldLink "LostRoom$Sharings" 115 "LostRoom$Lodger" "till" "I" ∈ ml_TB := ml_inTB (List.mem_append_right _ (List.mem_of_getElem? (i := 350) (by decide +kernel))) rfl
theorem wm_527 : Cond.fieldLink "LostRoom$Sharings" 56 "LostRoom$Sharings" "lodgerCount" "I" ∈ ml_TB := ml_inTB (List.mem_append_right _ (List.mem_of_getElem? (i := 99) (by decide +kernel))) rfl
theorem wm_528 : Cond.fieldLink "LostRoom$Sharings" 125 "LostRoom$Thing" "owners" "I" ∈ ml_TB := ml_inTB (List.mem_append_right _ (List.mem_of_getElem? (i := 471) (by decide +kernel))) rfl
theorem wm_529 : Cond.fieldLink "LostRoom$Sharings" 120 "LostRoom$Thing" "trunk" "I" ∈ ml_TB := ml_inTB (List.mem_append_right _ (List.mem_of_getElem? (i := 474) (by decide +kernel))) rfl
theorem wm_530 : Cond.code yJ7_fill_53178 cJ7_fill_53178 4 none ∈ ml_TB := ml_inTB (List.mem_append_right _ (List.mem_of_getElem? (i := 630) (by decide +kernel))) rfl
theorem wm_531 : Cond.static ⟨"java/util/Arrays", "fill", "([II)V"⟩ ∈ ml_TB := ml_inTB (List.mem_append_right _ (List.mem_of_getElem? (i := 629) (by decide +kernel))) rfl
theorem wm_532 : Cond.methodLink "LostRoom$Sharings" 75 ⟨"java/util/Arrays", "fill", "([II)V"⟩ ∈ ml_TB := ml_inTB (List.mem_append_right _ (List.mem_of_getElem? (i := 628) (by decide +kernel))) rfl
theorem wm_533 : Cond.fieldLink "LostRoom$Sharings" 72 "LostRoom$Sharings" "least" "I" ∈ ml_TB := ml_inTB (List.mem_append_right _ (List.mem_of_getElem? (i := 90) (by decide +kernel))) rfl
theorem wm_534 : Cond.methodLink "LostRoom$Sharings" 109 ⟨"java/lang/System", "arraycopy", "(Ljava/lang/Object;ILjava/lang/Object;II)V"⟩ ∈ ml_TB := ml_inTB (List.mem_append_right _ (List.mem_of_getElem? (i := 643) (by decide +kernel))) rfl
theorem wm_535 : Cond.fieldLink "LostRoom$Sharings" 52 "LostRoom$Sharings" "trunkCount" "I" ∈ ml_TB := ml_inTB (List.mem_append_right _ (List.mem_of_getElem? (i := 98) (by decide +kernel))) rfl
theorem wm_536 : Cond.fieldLink "LostRoom$Sharings" 106 "LostRoom$Trunk" "above" "I" ∈ ml_TB := ml_inTB (List.mem_append_right _ (List.mem_of_getElem? (i := 385) (by decide +kernel))) rfl
theorem wm_537 : Cond.fieldLink "LostRoom$Sharings" 101 "LostRoom$Trunk" "below" "I" ∈ ml_TB := ml_inTB (List.mem_append_right _ (List.mem_of_getElem? (i := 388) (by decide +kernel))) rfl
theorem wm_538 : Cond.fieldLink "LostRoom$Sharings" 47 "LostRoom$Sharings" "trunks" "[LLostRoom$Trunk;" ∈ ml_TB := ml_inTB (List.mem_append_right _ (List.mem_of_getElem? (i := 97) (by decide +kernel))) rfl
theorem wm_539 : Cond.code yX7_give cX7_give 6 none ∈ ml_TB := ml_inTB (List.mem_append_right _ (List.mem_of_getElem? (i := 638) (by decide +kernel))) rfl
theorem wm_540 : Cond.static ⟨"LostRoom$Sharings", "give", "(LLostRoom$Sharings;III)V"⟩ ∈ ml_TB := ml_inTB (List.mem_append_right _ (List.mem_of_getElem? (i := 637) (by decide +kernel))) rfl
theorem wm_541 : Cond.methodLink "LostRoom$Sharings" 81 ⟨"LostRoom$Sharings", "give", "(LLostRoom$Sharings;III)V"⟩ ∈ ml_TB := ml_inTB (List.mem_append_right _ (List.mem_of_getElem? (i := 636) (by decide +kernel))) rfl
theorem wm_542 : Cond.code yX7_open cX7_open 6 (some .int) ∈ ml_TB := ml_inTB (List.mem_append_right _ (List.mem_of_getElem? (i := 647) (by decide +kernel))) rfl
theorem wm_543 : Cond.instanceMethod ⟨"LostRoom$Sharings", "open", "(II)I"⟩ ∈ ml_TB := ml_inTB (List.mem_append_right _ (List.mem_of_getElem? (i := 646) (by decide +kernel))) rfl
theorem wm_544 : Cond.selects "LostRoom$Sharings" ⟨"LostRoom$Sharings", "open", "(II)I"⟩ ⟨"LostRoom$Sharings", "open", "(II)I"⟩ ∈ ml_TB := ml_inTB (List.mem_append_left _ (List.mem_of_getElem? (i := 29) (by decide +kernel))) rfl
theorem wm_545 : Cond.methodLink "LostRoom$Sharings" 89 ⟨"LostRoom$Sharings", "open", "(II)I"⟩ ∈ ml_TB := ml_inTB (List.mem_append_right _ (List.mem_of_getElem? (i := 644) (by decide +kernel))) rfl
theorem wm_546 : Cond.code yX7_note cX7_note 3 none ∈ ml_TB := ml_inTB (List.mem_append_right _ (List.mem_of_getElem? (i := 642) (by decide +kernel))) rfl
theorem wm_547 : Cond.instanceMethod ⟨"LostRoom$Sharings", "note", "(I)V"⟩ ∈ ml_TB := ml_inTB (List.mem_append_right _ (List.mem_of_getElem? (i := 641) (by decide +kernel))) rfl
theorem wm_548 : Cond.selects "LostRoom$Sharings" ⟨"LostRoom$Sharings", "note", "(I)V"⟩ ⟨"LostRoom$Sharings", "note", "(I)V"⟩ ∈ ml_TB := ml_inTB (List.mem_append_left _ (List.mem_of_getElem? (i := 28) (by decide +kernel))) rfl
theorem wm_549 : Cond.methodLink "LostRoom$Sharings" 97 ⟨"LostRoom$Sharings", "note", "(I)V"⟩ ∈ ml_TB := ml_inTB (List.mem_append_right _ (List.mem_of_getElem? (i := 639) (by decide +kernel))) rfl
theorem wm_550 : Cond.fieldLink "LostRoom$Sharings" 41 "LostRoom$Book" "trunks" "[LLostRoom$Trunk;" ∈ ml_TB := ml_inTB (List.mem_append_right _ (List.mem_of_getElem? (i := 43) (by decide +kernel))) rfl
theorem wm_551 : Cond.fieldLink "LostRoom$Sharings" 48 "LostRoom$Book" "trunkCount" "I" ∈ ml_TB := ml_inTB (List.mem_append_right _ (List.mem_of_getElem? (i := 48) (by decide +kernel))) rfl
theorem wm_552 : Cond.fieldLink "LostRoom$Sharings" 53 "LostRoom$Book" "lodgerCount" "I" ∈ ml_TB := ml_inTB (List.mem_append_right _ (List.mem_of_getElem? (i := 45) (by decide +kernel))) rfl
theorem wm_553 : Cond.fieldLink "LostRoom$Sharings" 57 "LostRoom$Book" "lodgers" "[LLostRoom$Lodger;" ∈ ml_TB := ml_inTB (List.mem_append_right _ (List.mem_of_getElem? (i := 40) (by decide +kernel))) rfl
theorem wm_554 : Cond.code yX7_compareYears cX7_compareYears 4 none ∈ ml_TB := ml_inTB (List.mem_append_right _ (List.mem_of_getElem? (i := 623) (by decide +kernel))) rfl
theorem wm_555 : Cond.instanceMethod ⟨"LostRoom$Sharings", "compareYears", "([LLostRoom$Lodger;)V"⟩ ∈ ml_TB := ml_inTB (List.mem_append_right _ (List.mem_of_getElem? (i := 622) (by decide +kernel))) rfl
theorem wm_556 : Cond.selects "LostRoom$Sharings" ⟨"LostRoom$Sharings", "compareYears", "([LLostRoom$Lodger;)V"⟩ ⟨"LostRoom$Sharings", "compareYears", "([LLostRoom$Lodger;)V"⟩ ∈ ml_TB := ml_inTB (List.mem_append_left _ (List.mem_of_getElem? (i := 25) (by decide +kernel))) rfl
theorem wm_557 : Cond.methodLink "LostRoom$Sharings" 61 ⟨"LostRoom$Sharings", "compareYears", "([LLostRoom$Lodger;)V"⟩ ∈ ml_TB := ml_inTB (List.mem_append_right _ (List.mem_of_getElem? (i := 620) (by decide +kernel))) rfl
theorem wm_558 : Cond.code yX7_countStrangers cX7_countStrangers 6 none ∈ ml_TB := ml_inTB (List.mem_append_right _ (List.mem_of_getElem? (i := 627) (by decide +kernel))) rfl
theorem wm_559 : Cond.instanceMethod ⟨"LostRoom$Sharings", "countStrangers", "([LLostRoom$Thing;I)V"⟩ ∈ ml_TB := ml_inTB (List.mem_append_right _ (List.mem_of_getElem? (i := 626) (by decide +kernel))) rfl
theorem wm_560 : Cond.selects "LostRoom$Sharings" ⟨"LostRoom$Sharings", "countStrangers", "([LLostRoom$Thing;I)V"⟩ ⟨"LostRoom$Sharings", "countStrangers", "([LLostRoom$Thing;I)V"⟩ ∈ ml_TB := ml_inTB (List.mem_append_left _ (List.mem_of_getElem? (i := 26) (by decide +kernel))) rfl
theorem wm_561 : Cond.methodLink "LostRoom$Sharings" 65 ⟨"LostRoom$Sharings", "countStrangers", "([LLostRoom$Thing;I)V"⟩ ∈ ml_TB := ml_inTB (List.mem_append_right _ (List.mem_of_getElem? (i := 624) (by decide +kernel))) rfl
theorem wm_562 : Cond.code yX7_findCovers cX7_findCovers 6 none ∈ ml_TB := ml_inTB (List.mem_append_right _ (List.mem_of_getElem? (i := 635) (by decide +kernel))) rfl
theorem wm_563 : Cond.instanceMethod ⟨"LostRoom$Sharings", "findCovers", "([LLostRoom$Thing;I)V"⟩ ∈ ml_TB := ml_inTB (List.mem_append_right _ (List.mem_of_getElem? (i := 634) (by decide +kernel))) rfl
theorem wm_564 : Cond.selects "LostRoom$Sharings" ⟨"LostRoom$Sharings", "findCovers", "([LLostRoom$Thing;I)V"⟩ ⟨"LostRoom$Sharings", "findCovers", "([LLostRoom$Thing;I)V"⟩ ∈ ml_TB := ml_inTB (List.mem_append_left _ (List.mem_of_getElem? (i := 27) (by decide +kernel))) rfl
theorem wm_565 : Cond.methodLink "LostRoom$Sharings" 69 ⟨"LostRoom$Sharings", "findCovers", "([LLostRoom$Thing;I)V"⟩ ∈ ml_TB := ml_inTB (List.mem_append_right _ (List.mem_of_getElem? (i := 632) (by decide +kernel))) rfl
theorem wm_566 : Cond.code yX7_gather cX7_gather 6 none ∈ ml_TB := ml_inTB (List.mem_append_right _ (List.mem_of_getElem? (i := 619) (by decide +kernel))) rfl
theorem wm_567 : Cond.instanceMethod ⟨"LostRoom$Sharings", "gather", "(LLostRoom$Book;[LLostRoom$Thing;I)V"⟩ ∈ ml_TB := ml_inTB (List.mem_append_right _ (List.mem_of_getElem? (i := 617) (by decide +kernel))) rfl
theorem wm_568 : Cond.selects "LostRoom$Sharings" ⟨"LostRoom$Sharings", "gather", "(LLostRoom$Book;[LLostRoom$Thing;I)V"⟩ ⟨"LostRoom$Sharings", "gather", "(LLostRoom$Book;[LLostRoom$Thing;I)V"⟩ ∈ ml_TB := ml_inTB (List.mem_append_right _ (List.mem_of_getElem? (i := 618) (by decide +kernel))) rfl
theorem wm_569 : Cond.methodLink "LostRoom" 414 ⟨"LostRoom$Sharings", "gather", "(LLostRoom$Book;[LLostRoom$Thing;I)V"⟩ ∈ ml_TB := ml_inTB (List.mem_append_right _ (List.mem_of_getElem? (i := 616) (by decide +kernel))) rfl
theorem wm_570 : Cond.code yX10_refreshSharings cX10_refreshSharings 1 none ∈ ml_TB := ml_inTB (List.mem_append_right _ (List.mem_of_getElem? (i := 615) (by decide +kernel))) rfl
theorem wm_571 : Cond.instanceMethod ⟨"LostRoom", "refreshSharings", "()V"⟩ ∈ ml_TB := ml_inTB (List.mem_append_right _ (List.mem_of_getElem? (i := 614) (by decide +kernel))) rfl
theorem wm_572 : Cond.selects "LostRoom" ⟨"LostRoom", "refreshSharings", "()V"⟩ ⟨"LostRoom", "refreshSharings", "()V"⟩ ∈ ml_TB := ml_inTB (List.mem_append_left _ (List.mem_of_getElem? (i := 24) (by decide +kernel))) rfl
theorem wm_573 : Cond.methodLink "LostRoom" 243 ⟨"LostRoom", "refreshSharings", "()V"⟩ ∈ ml_TB := ml_inTB (List.mem_append_right _ (List.mem_of_getElem? (i := 612) (by decide +kernel))) rfl
theorem wm_574 : Cond.fieldLink "LostRoom" 246 "LostRoom$Sharings" "least" "I" ∈ ml_TB := ml_inTB (List.mem_append_right _ (List.mem_of_getElem? (i := 91) (by decide +kernel))) rfl
theorem wm_575 : Cond.fieldLink "LostRoom" 249 "LostRoom$Sharings" "first" "[I" ∈ ml_TB := ml_inTB (List.mem_append_right _ (List.mem_of_getElem? (i := 93) (by decide +kernel))) rfl
theorem wm_576 : Cond.code yJ7_copyOf_59c91 cJ7_copyOf_59c91 3 (some (.array .int)) ∈ ml_TB := ml_inTB (List.mem_append_right _ (List.mem_of_getElem? (i := 650) (by decide +kernel))) rfl
theorem wm_577 : Cond.static ⟨"java/util/Arrays", "copyOf", "([II)[I"⟩ ∈ ml_TB := ml_inTB (List.mem_append_right _ (List.mem_of_getElem? (i := 649) (by decide +kernel))) rfl
theorem wm_578 : Cond.methodLink "LostRoom" 252 ⟨"java/util/Arrays", "copyOf", "([II)[I"⟩ ∈ ml_TB := ml_inTB (List.mem_append_right _ (List.mem_of_getElem? (i := 648) (by decide +kernel))) rfl
theorem wm_579 : Cond.fieldLink "LostRoomModel" 276 "LostRoomModel" "isBegun" "Z" ∈ ml_TB := ml_inTB (List.mem_append_right _ (List.mem_of_getElem? (i := 969) (by decide +kernel))) rfl
theorem wm_580 : Cond.code yX11_isTaken cX11_isTaken 5 (some .boolean) ∈ ml_TB := ml_inTB (List.mem_append_right _ (List.mem_of_getElem? (i := 1380) (by decide +kernel))) rfl
theorem wm_581 : Cond.instanceMethod ⟨"LostRoomModel", "isTaken", "(II)Z"⟩ ∈ ml_TB := ml_inTB (List.mem_append_right _ (List.mem_of_getElem? (i := 1379) (by decide +kernel))) rfl
theorem wm_582 : Cond.selects "LostRoomModel" ⟨"LostRoomModel", "isTaken", "(II)Z"⟩ ⟨"LostRoomModel", "isTaken", "(II)Z"⟩ ∈ ml_TB := ml_inTB (List.mem_append_left _ (List.mem_of_getElem? (i := 87) (by decide +kernel))) rfl
theorem wm_583 : Cond.methodLink "LostRoomModel" 280 ⟨"LostRoomModel", "isTaken", "(II)Z"⟩ ∈ ml_TB := ml_inTB (List.mem_append_right _ (List.mem_of_getElem? (i := 1377) (by decide +kernel))) rfl
theorem wm_584 : Cond.code yX11_isMoved cX11_isMoved 2 (some .boolean) ∈ ml_TB := ml_inTB (List.mem_append_right _ (List.mem_of_getElem? (i := 1392) (by decide +kernel))) rfl
theorem wm_585 : Cond.instanceMethod ⟨"LostRoomModel", "isMoved", "(I)Z"⟩ ∈ ml_TB := ml_inTB (List.mem_append_right _ (List.mem_of_getElem? (i := 1391) (by decide +kernel))) rfl
theorem wm_586 : Cond.selects "LostRoomModel" ⟨"LostRoomModel", "isMoved", "(I)Z"⟩ ⟨"LostRoomModel", "isMoved", "(I)Z"⟩ ∈ ml_TB := ml_inTB (List.mem_append_left _ (List.mem_of_getElem? (i := 90) (by decide +kernel))) rfl
theorem wm_587 : Cond.methodLink "LostRoomModel" 283 ⟨"LostRoomModel", "isMoved", "(I)Z"⟩ ∈ ml_TB := ml_inTB (List.mem_append_right _ (List.mem_of_getElem? (i := 1389) (by decide +kernel))) rfl
theorem wm_588 : Cond.code yX11_nextRow cX11_nextRow 3 (some .boolean) ∈ ml_TB := ml_inTB (List.mem_append_right _ (List.mem_of_getElem? (i := 1376) (by decide +kernel))) rfl
theorem wm_589 : Cond.instanceMethod ⟨"LostRoomModel", "nextRow", "()Z"⟩ ∈ ml_TB := ml_inTB (List.mem_append_right _ (List.mem_of_getElem? (i := 1375) (by decide +kernel))) rfl
theorem wm_590 : Cond.selects "LostRoomModel" ⟨"LostRoomModel", "nextRow", "()Z"⟩ ⟨"LostRoomModel", "nextRow", "()Z"⟩ ∈ ml_TB := ml_inTB (List.mem_append_left _ (List.mem_of_getElem? (i := 86) (by decide +kernel))) rfl
theorem wm_591 : Cond.methodLink "LostRoomModel" 286 ⟨"LostRoomModel", "nextRow", "()Z"⟩ ∈ ml_TB := ml_inTB (List.mem_append_right _ (List.mem_of_getElem? (i := 1373) (by decide +kernel))) rfl
theorem wm_592 : Cond.code yX11_isSharing cX11_isSharing 4 (some .boolean) ∈ ml_TB := ml_inTB (List.mem_append_right _ (List.mem_of_getElem? (i := 1384) (by decide +kernel))) rfl
theorem wm_593 : Cond.instanceMethod ⟨"LostRoomModel", "isSharing", "()Z"⟩ ∈ ml_TB := ml_inTB (List.mem_append_right _ (List.mem_of_getElem? (i := 1383) (by decide +kernel))) rfl
theorem wm_594 : Cond.selects "LostRoomModel" ⟨"LostRoomModel", "isSharing", "()Z"⟩ ⟨"LostRoomModel", "isSharing", "()Z"⟩ ∈ ml_TB := ml_inTB (List.mem_append_left _ (List.mem_of_getElem? (i := 88) (by decide +kernel))) rfl
theorem wm_595 : Cond.methodLink "LostRoomModel" 290 ⟨"LostRoomModel", "isSharing", "()Z"⟩ ∈ ml_TB := ml_inTB (List.mem_append_right _ (List.mem_of_getElem? (i := 1381) (by decide +kernel))) rfl
theorem wm_596 : Cond.code yX11_movedMany cX11_movedMany 3 (some .int) ∈ ml_TB := ml_inTB (List.mem_append_right _ (List.mem_of_getElem? (i := 1388) (by decide +kernel))) rfl
theorem wm_597 : Cond.instanceMethod ⟨"LostRoomModel", "movedMany", "()I"⟩ ∈ ml_TB := ml_inTB (List.mem_append_right _ (List.mem_of_getElem? (i := 1387) (by decide +kernel))) rfl
theorem wm_598 : Cond.selects "LostRoomModel" ⟨"LostRoomModel", "movedMany", "()I"⟩ ⟨"LostRoomModel", "movedMany", "()I"⟩ ∈ ml_TB := ml_inTB (List.mem_append_left _ (List.mem_of_getElem? (i := 89) (by decide +kernel))) rfl
theorem wm_599 : Cond.methodLink "LostRoomModel" 293 ⟨"LostRoomModel", "movedMany", "()I"⟩ ∈ ml_TB := ml_inTB (List.mem_append_right _ (List.mem_of_getElem? (i := 1385) (by decide +kernel))) rfl
theorem wm_600 : Cond.code yX11_nextSharing cX11_nextSharing 3 (some .boolean) ∈ ml_TB := ml_inTB (List.mem_append_right _ (List.mem_of_getElem? (i := 1372) (by decide +kernel))) rfl
theorem wm_601 : Cond.instanceMethod ⟨"LostRoomModel", "nextSharing", "(I)Z"⟩ ∈ ml_TB := ml_inTB (List.mem_append_right _ (List.mem_of_getElem? (i := 1371) (by decide +kernel))) rfl
theorem wm_602 : Cond.selects "LostRoomModel" ⟨"LostRoomModel", "nextSharing", "(I)Z"⟩ ⟨"LostRoomModel", "nextSharing", "(I)Z"⟩ ∈ ml_TB := ml_inTB (List.mem_append_left _ (List.mem_of_getElem? (i := 85) (by decide +kernel))) rfl
theorem wm_603 : Cond.methodLink "LostRoomModel" 300 ⟨"LostRoomModel", "nextSharing", "(I)Z"⟩ ∈ ml_TB := ml_inTB (List.mem_append_right _ (List.mem_of_getElem? (i := 1369) (by decide +kernel))) rfl
theorem wm_604 : Cond.code yX11_beginSharings cX11_beginSharings 2 none ∈ ml_TB := ml_inTB (List.mem_append_right _ (List.mem_of_getElem? (i := 1368) (by decide +kernel))) rfl
theorem wm_605 : Cond.instanceMethod ⟨"LostRoomModel", "beginSharings", "()V"⟩ ∈ ml_TB := ml_inTB (List.mem_append_right _ (List.mem_of_getElem? (i := 1367) (by decide +kernel))) rfl
theorem wm_606 : Cond.selects "LostRoomModel" ⟨"LostRoomModel", "beginSharings", "()V"⟩ ⟨"LostRoomModel", "beginSharings", "()V"⟩ ∈ ml_TB := ml_inTB (List.mem_append_left _ (List.mem_of_getElem? (i := 84) (by decide +kernel))) rfl
theorem wm_607 : Cond.methodLink "LostRoomModel" 297 ⟨"LostRoomModel", "beginSharings", "()V"⟩ ∈ ml_TB := ml_inTB (List.mem_append_right _ (List.mem_of_getElem? (i := 1365) (by decide +kernel))) rfl
theorem wm_608 : Cond.fieldLink "LostRoom" 256 "LostRoom$Sharings" "all" "[I" ∈ ml_TB := ml_inTB (List.mem_append_right _ (List.mem_of_getElem? (i := 95) (by decide +kernel))) rfl
theorem wm_609 : Cond.fieldLink "LostRoomModel" 306 "LostRoomModel" "inEach" "I" ∈ ml_TB := ml_inTB (List.mem_append_right _ (List.mem_of_getElem? (i := 973) (by decide +kernel))) rfl
theorem wm_610 : Cond.fieldLink "LostRoomModel" 309 "LostRoomModel" "inSome" "I" ∈ ml_TB := ml_inTB (List.mem_append_right _ (List.mem_of_getElem? (i := 974) (by decide +kernel))) rfl
theorem wm_611 : Cond.fieldLink "LostRoomModel" 303 "LostRoomModel" "sharingMany" "I" ∈ ml_TB := ml_inTB (List.mem_append_right _ (List.mem_of_getElem? (i := 971) (by decide +kernel))) rfl
theorem wm_612 : Cond.code yX11_isMost cX11_isMost 1 (some .boolean) ∈ ml_TB := ml_inTB (List.mem_append_right _ (List.mem_of_getElem? (i := 1399) (by decide +kernel))) rfl
theorem wm_613 : Cond.static ⟨"LostRoomModel", "isMost", "(I)Z"⟩ ∈ ml_TB := ml_inTB (List.mem_append_right _ (List.mem_of_getElem? (i := 1398) (by decide +kernel))) rfl
theorem wm_614 : Cond.methodLink "LostRoomModel" 312 ⟨"LostRoomModel", "isMost", "(I)Z"⟩ ∈ ml_TB := ml_inTB (List.mem_append_right _ (List.mem_of_getElem? (i := 1397) (by decide +kernel))) rfl
theorem wm_615 : Cond.code yX11_layOften cX11_layOften 4 none ∈ ml_TB := ml_inTB (List.mem_append_right _ (List.mem_of_getElem? (i := 1403) (by decide +kernel))) rfl
theorem wm_616 : Cond.instanceMethod ⟨"LostRoomModel", "layOften", "(I)V"⟩ ∈ ml_TB := ml_inTB (List.mem_append_right _ (List.mem_of_getElem? (i := 1402) (by decide +kernel))) rfl
theorem wm_617 : Cond.selects "LostRoomModel" ⟨"LostRoomModel", "layOften", "(I)V"⟩ ⟨"LostRoomModel", "layOften", "(I)V"⟩ ∈ ml_TB := ml_inTB (List.mem_append_left _ (List.mem_of_getElem? (i := 91) (by decide +kernel))) rfl
theorem wm_618 : Cond.methodLink "LostRoomModel" 315 ⟨"LostRoomModel", "layOften", "(I)V"⟩ ∈ ml_TB := ml_inTB (List.mem_append_right _ (List.mem_of_getElem? (i := 1400) (by decide +kernel))) rfl
theorem wm_619 : Cond.code yX7_withPair cX7_withPair 4 (some .int) ∈ ml_TB := ml_inTB (List.mem_append_right _ (List.mem_of_getElem? (i := 671) (by decide +kernel))) rfl
theorem wm_620 : Cond.instanceMethod ⟨"LostRoom$Sharings", "withPair", "(III)I"⟩ ∈ ml_TB := ml_inTB (List.mem_append_right _ (List.mem_of_getElem? (i := 669) (by decide +kernel))) rfl
theorem wm_621 : Cond.selects "LostRoom$Sharings" ⟨"LostRoom$Sharings", "withPair", "(III)I"⟩ ⟨"LostRoom$Sharings", "withPair", "(III)I"⟩ ∈ ml_TB := ml_inTB (List.mem_append_right _ (List.mem_of_getElem? (i := 670) (by decide +kernel))) rfl
theorem wm_622 : Cond.methodLink "LostRoom" 259 ⟨"LostRoom$Sharings", "withPair", "(III)I"⟩ ∈ ml_TB := ml_inTB (List.mem_append_right _ (List.mem_of_getElem? (i := 668) (by decide +kernel))) rfl
theorem wm_623 : Cond.code yX10_firstTrunkFor cX10_firstTrunkFor 4 (some .int) ∈ ml_TB := ml_inTB (List.mem_append_right _ (List.mem_of_getElem? (i := 692) (by decide +kernel))) rfl
theorem wm_624 : Cond.instanceMethod ⟨"LostRoom", "firstTrunkFor", "(LLostRoom$Thing;[I)I"⟩ ∈ ml_TB := ml_inTB (List.mem_append_right _ (List.mem_of_getElem? (i := 691) (by decide +kernel))) rfl
theorem wm_625 : Cond.selects "LostRoom" ⟨"LostRoom", "firstTrunkFor", "(LLostRoom$Thing;[I)I"⟩ ⟨"LostRoom", "firstTrunkFor", "(LLostRoom$Thing;[I)I"⟩ ∈ ml_TB := ml_inTB (List.mem_append_left _ (List.mem_of_getElem? (i := 30) (by decide +kernel))) rfl
theorem wm_626 : Cond.methodLink "LostRoom" 266 ⟨"LostRoom", "firstTrunkFor", "(LLostRoom$Thing;[I)I"⟩ ∈ ml_TB := ml_inTB (List.mem_append_right _ (List.mem_of_getElem? (i := 689) (by decide +kernel))) rfl
theorem wm_627 : Cond.code yX7_isSharing cX7_isSharing 5 (some .boolean) ∈ ml_TB := ml_inTB (List.mem_append_right _ (List.mem_of_getElem? (i := 687) (by decide +kernel))) rfl
theorem wm_628 : Cond.instanceMethod ⟨"LostRoom$Sharings", "isSharing", "([I)Z"⟩ ∈ ml_TB := ml_inTB (List.mem_append_right _ (List.mem_of_getElem? (i := 685) (by decide +kernel))) rfl
theorem wm_629 : Cond.selects "LostRoom$Sharings" ⟨"LostRoom$Sharings", "isSharing", "([I)Z"⟩ ⟨"LostRoom$Sharings", "isSharing", "([I)Z"⟩ ∈ ml_TB := ml_inTB (List.mem_append_right _ (List.mem_of_getElem? (i := 686) (by decide +kernel))) rfl
theorem wm_630 : Cond.methodLink "LostRoom" 262 ⟨"LostRoom$Sharings", "isSharing", "([I)Z"⟩ ∈ ml_TB := ml_inTB (List.mem_append_right _ (List.mem_of_getElem? (i := 684) (by decide +kernel))) rfl
theorem wm_631 : Cond.methodLink "LostRoom$Line" 1 ⟨"java/lang/Object", "<init>", "()V"⟩ ∈ ml_TB := ml_inTB (List.mem_append_right _ (List.mem_of_getElem? (i := 701) (by decide +kernel))) rfl
theorem wm_632 : Cond.fieldLink "LostRoom$Line" 7 "LostRoom$Line" "size" "I" ∈ ml_TB := ml_inTB (List.mem_append_right _ (List.mem_of_getElem? (i := 702) (by decide +kernel))) rfl
theorem wm_633 : Cond.fieldLink "LostRoom$Line" 13 "LostRoom$Line" "from" "I" ∈ ml_TB := ml_inTB (List.mem_append_right _ (List.mem_of_getElem? (i := 704) (by decide +kernel))) rfl
theorem wm_634 : Cond.fieldLink "LostRoom$Line" 16 "LostRoom$Line" "till" "I" ∈ ml_TB := ml_inTB (List.mem_append_right _ (List.mem_of_getElem? (i := 706) (by decide +kernel))) rfl
theorem wm_635 : Cond.instantiable "LostRoom$Line" 3 ∈ ml_TB := ml_inTB (List.mem_append_right _ (List.mem_of_getElem? (i := 697) (by decide +kernel))) rfl
theorem wm_636 : Cond.initialized "LostRoom$Line" ∈ ml_TB := ml_inTB (List.mem_append_right _ (List.mem_of_getElem? (i := 14) (by decide +kernel))) rfl
theorem wm_637 : Cond.code yX5_init cX5_init 4 none ∈ ml_TB := ml_inTB (List.mem_append_right _ (List.mem_of_getElem? (i := 700) (by decide +kernel))) rfl
theorem wm_638 : Cond.instanceMethod ⟨"LostRoom$Line", "<init>", "(III)V"⟩ ∈ ml_TB := ml_inTB (List.mem_append_right _ (List.mem_of_getElem? (i := 699) (by decide +kernel))) rfl
theorem wm_639 : Cond.methodLink "LostRoom" 270 ⟨"LostRoom$Line", "<init>", "(III)V"⟩ ∈ ml_TB := ml_inTB (List.mem_append_right _ (List.mem_of_getElem? (i := 698) (by decide +kernel))) rfl
theorem wm_640 : Cond.fieldLink "LostRoom" 426 "LostRoom$Line" "size" "I" ∈ ml_TB := ml_inTB (List.mem_append_right _ (List.mem_of_getElem? (i := 703) (by decide +kernel))) rfl
theorem wm_641 : Cond.fieldLink "LostRoom" 424 "LostRoom$Line" "from" "I" ∈ ml_TB := ml_inTB (List.mem_append_right _ (List.mem_of_getElem? (i := 705) (by decide +kernel))) rfl
theorem wm_642 : Cond.fieldLink "LostRoom" 425 "LostRoom$Line" "till" "I" ∈ ml_TB := ml_inTB (List.mem_append_right _ (List.mem_of_getElem? (i := 707) (by decide +kernel))) rfl
theorem wm_643 : Cond.code yX10_fitsTrunk cX10_fitsTrunk 6 (some .boolean) ∈ ml_TB := ml_inTB (List.mem_append_right _ (List.mem_of_getElem? (i := 726) (by decide +kernel))) rfl
theorem wm_644 : Cond.instanceMethod ⟨"LostRoom", "fitsTrunk", "(LLostRoom$Line;I)Z"⟩ ∈ ml_TB := ml_inTB (List.mem_append_right _ (List.mem_of_getElem? (i := 725) (by decide +kernel))) rfl
theorem wm_645 : Cond.selects "LostRoom" ⟨"LostRoom", "fitsTrunk", "(LLostRoom$Line;I)Z"⟩ ⟨"LostRoom", "fitsTrunk", "(LLostRoom$Line;I)Z"⟩ ∈ ml_TB := ml_inTB (List.mem_append_left _ (List.mem_of_getElem? (i := 32) (by decide +kernel))) rfl
theorem wm_646 : Cond.methodLink "LostRoom" 420 ⟨"LostRoom", "fitsTrunk", "(LLostRoom$Line;I)Z"⟩ ∈ ml_TB := ml_inTB (List.mem_append_right _ (List.mem_of_getElem? (i := 723) (by decide +kernel))) rfl
theorem wm_647 : Cond.methodLink "LostRoom" 427 ⟨"java/util/Arrays", "fill", "([II)V"⟩ ∈ ml_TB := ml_inTB (List.mem_append_right _ (List.mem_of_getElem? (i := 731) (by decide +kernel))) rfl
theorem wm_648 : Cond.code yX10_trunksForLines cX10_trunksForLines 4 (some (.array .int)) ∈ ml_TB := ml_inTB (List.mem_append_right _ (List.mem_of_getElem? (i := 722) (by decide +kernel))) rfl
theorem wm_649 : Cond.instanceMethod ⟨"LostRoom", "trunksForLines", "()[I"⟩ ∈ ml_TB := ml_inTB (List.mem_append_right _ (List.mem_of_getElem? (i := 721) (by decide +kernel))) rfl
theorem wm_650 : Cond.selects "LostRoom" ⟨"LostRoom", "trunksForLines", "()[I"⟩ ⟨"LostRoom", "trunksForLines", "()[I"⟩ ∈ ml_TB := ml_inTB (List.mem_append_left _ (List.mem_of_getElem? (i := 31) (by decide +kernel))) rfl
theorem wm_651 : Cond.methodLink "LostRoom" 273 ⟨"LostRoom", "trunksForLines", "()[I"⟩ ∈ ml_TB := ml_inTB (List.mem_append_right _ (List.mem_of_getElem? (i := 719) (by decide +kernel))) rfl
theorem wm_652 : Cond.code yX10_readingsBy cX10_readingsBy 7 (some .int) ∈ ml_TB := ml_inTB (List.mem_append_right _ (List.mem_of_getElem? (i := 730) (by decide +kernel))) rfl
theorem wm_653 : Cond.instanceMethod ⟨"LostRoom", "readingsBy", "([I[I)I"⟩ ∈ ml_TB := ml_inTB (List.mem_append_right _ (List.mem_of_getElem? (i := 729) (by decide +kernel))) rfl
theorem wm_654 : Cond.selects "LostRoom" ⟨"LostRoom", "readingsBy", "([I[I)I"⟩ ⟨"LostRoom", "readingsBy", "([I[I)I"⟩ ∈ ml_TB := ml_inTB (List.mem_append_left _ (List.mem_of_getElem? (i := 33) (by decide +kernel))) rfl
theorem wm_655 : Cond.methodLink "LostRoom" 277 ⟨"LostRoom", "readingsBy", "([I[I)I"⟩ ∈ ml_TB := ml_inTB (List.mem_append_right _ (List.mem_of_getElem? (i := 727) (by decide +kernel))) rfl
theorem wm_656 : Cond.code yX11_lineFits cX11_lineFits 5 (some .boolean) ∈ ml_TB := ml_inTB (List.mem_append_right _ (List.mem_of_getElem? (i := 1435) (by decide +kernel))) rfl
theorem wm_657 : Cond.instanceMethod ⟨"LostRoomModel", "lineFits", "(II)Z"⟩ ∈ ml_TB := ml_inTB (List.mem_append_right _ (List.mem_of_getElem? (i := 1434) (by decide +kernel))) rfl
theorem wm_658 : Cond.selects "LostRoomModel" ⟨"LostRoomModel", "lineFits", "(II)Z"⟩ ⟨"LostRoomModel", "lineFits", "(II)Z"⟩ ∈ ml_TB := ml_inTB (List.mem_append_left _ (List.mem_of_getElem? (i := 93) (by decide +kernel))) rfl
theorem wm_659 : Cond.methodLink "LostRoomModel" 319 ⟨"LostRoomModel", "lineFits", "(II)Z"⟩ ∈ ml_TB := ml_inTB (List.mem_append_right _ (List.mem_of_getElem? (i := 1432) (by decide +kernel))) rfl
theorem wm_660 : Cond.code yX11_readingsBy cX11_readingsBy 9 (some .int) ∈ ml_TB := ml_inTB (List.mem_append_right _ (List.mem_of_getElem? (i := 1431) (by decide +kernel))) rfl
theorem wm_661 : Cond.instanceMethod ⟨"LostRoomModel", "readingsBy", "(II)I"⟩ ∈ ml_TB := ml_inTB (List.mem_append_right _ (List.mem_of_getElem? (i := 1430) (by decide +kernel))) rfl
theorem wm_662 : Cond.selects "LostRoomModel" ⟨"LostRoomModel", "readingsBy", "(II)I"⟩ ⟨"LostRoomModel", "readingsBy", "(II)I"⟩ ∈ ml_TB := ml_inTB (List.mem_append_left _ (List.mem_of_getElem? (i := 92) (by decide +kernel))) rfl
theorem wm_663 : Cond.methodLink "LostRoomModel" 322 ⟨"LostRoomModel", "readingsBy", "(II)I"⟩ ∈ ml_TB := ml_inTB (List.mem_append_right _ (List.mem_of_getElem? (i := 1428) (by decide +kernel))) rfl
theorem wm_664 : Cond.methodLink "LostRoom$Bit" 1 ⟨"java/lang/Object", "<init>", "()V"⟩ ∈ ml_TB := ml_inTB (List.mem_append_right _ (List.mem_of_getElem? (i := 744) (by decide +kernel))) rfl
theorem wm_665 : Cond.fieldLink "LostRoom$Bit" 7 "LostRoom$Bit" "hand" "I" ∈ ml_TB := ml_inTB (List.mem_append_right _ (List.mem_of_getElem? (i := 745) (by decide +kernel))) rfl
theorem wm_666 : Cond.fieldLink "LostRoom$Bit" 13 "LostRoom$Bit" "fold" "I" ∈ ml_TB := ml_inTB (List.mem_append_right _ (List.mem_of_getElem? (i := 747) (by decide +kernel))) rfl
theorem wm_667 : Cond.fieldLink "LostRoom$Bit" 16 "LostRoom$Bit" "left" "I" ∈ ml_TB := ml_inTB (List.mem_append_right _ (List.mem_of_getElem? (i := 749) (by decide +kernel))) rfl
theorem wm_668 : Cond.fieldLink "LostRoom$Bit" 19 "LostRoom$Bit" "right" "I" ∈ ml_TB := ml_inTB (List.mem_append_right _ (List.mem_of_getElem? (i := 751) (by decide +kernel))) rfl
theorem wm_669 : Cond.instantiable "LostRoom$Bit" 4 ∈ ml_TB := ml_inTB (List.mem_append_right _ (List.mem_of_getElem? (i := 740) (by decide +kernel))) rfl
theorem wm_670 : Cond.initialized "LostRoom$Bit" ∈ ml_TB := ml_inTB (List.mem_append_right _ (List.mem_of_getElem? (i := 15) (by decide +kernel))) rfl
theorem wm_671 : Cond.code yX0_init cX0_init 5 none ∈ ml_TB := ml_inTB (List.mem_append_right _ (List.mem_of_getElem? (i := 743) (by decide +kernel))) rfl
theorem wm_672 : Cond.instanceMethod ⟨"LostRoom$Bit", "<init>", "(IIII)V"⟩ ∈ ml_TB := ml_inTB (List.mem_append_right _ (List.mem_of_getElem? (i := 742) (by decide +kernel))) rfl
theorem wm_673 : Cond.methodLink "LostRoom" 281 ⟨"LostRoom$Bit", "<init>", "(IIII)V"⟩ ∈ ml_TB := ml_inTB (List.mem_append_right _ (List.mem_of_getElem? (i := 741) (by decide +kernel))) rfl
theorem wm_674 : Cond.code yX0_meets cX0_meets 2 (some .boolean) ∈ ml_TB := ml_inTB (List.mem_append_right _ (List.mem_of_getElem? (i := 769) (by decide +kernel))) rfl
theorem wm_675 : Cond.instanceMethod ⟨"LostRoom$Bit", "meets", "(LLostRoom$Bit;)Z"⟩ ∈ ml_TB := ml_inTB (List.mem_append_right _ (List.mem_of_getElem? (i := 767) (by decide +kernel))) rfl
theorem wm_676 : Cond.selects "LostRoom$Bit" ⟨"LostRoom$Bit", "meets", "(LLostRoom$Bit;)Z"⟩ ⟨"LostRoom$Bit", "meets", "(LLostRoom$Bit;)Z"⟩ ∈ ml_TB := ml_inTB (List.mem_append_right _ (List.mem_of_getElem? (i := 768) (by decide +kernel))) rfl
theorem wm_677 : Cond.methodLink "LostRoom" 284 ⟨"LostRoom$Bit", "meets", "(LLostRoom$Bit;)Z"⟩ ∈ ml_TB := ml_inTB (List.mem_append_right _ (List.mem_of_getElem? (i := 766) (by decide +kernel))) rfl
theorem wm_678 : Cond.code yX11_doesJoin cX11_doesJoin 3 (some .boolean) ∈ ml_TB := ml_inTB (List.mem_append_right _ (List.mem_of_getElem? (i := 1451) (by decide +kernel))) rfl
theorem wm_679 : Cond.instanceMethod ⟨"LostRoomModel", "doesJoin", "(II)Z"⟩ ∈ ml_TB := ml_inTB (List.mem_append_right _ (List.mem_of_getElem? (i := 1450) (by decide +kernel))) rfl
theorem wm_680 : Cond.selects "LostRoomModel" ⟨"LostRoomModel", "doesJoin", "(II)Z"⟩ ⟨"LostRoomModel", "doesJoin", "(II)Z"⟩ ∈ ml_TB := ml_inTB (List.mem_append_left _ (List.mem_of_getElem? (i := 94) (by decide +kernel))) rfl
theorem wm_681 : Cond.methodLink "LostRoomModel" 325 ⟨"LostRoomModel", "doesJoin", "(II)Z"⟩ ∈ ml_TB := ml_inTB (List.mem_append_right _ (List.mem_of_getElem? (i := 1448) (by decide +kernel))) rfl
theorem wm_682 : Cond.fieldLink "LostRoom$Lays" 28 "LostRoom$Lays" "size" "I" ∈ ml_TB := ml_inTB (List.mem_append_right _ (List.mem_of_getElem? (i := 148) (by decide +kernel))) rfl
theorem wm_683 : Cond.code yX4_slot cX4_slot 2 (some .int) ∈ ml_TB := ml_inTB (List.mem_append_right _ (List.mem_of_getElem? (i := 786) (by decide +kernel))) rfl
theorem wm_684 : Cond.static ⟨"LostRoom$Lays", "slot", "(II)I"⟩ ∈ ml_TB := ml_inTB (List.mem_append_right _ (List.mem_of_getElem? (i := 785) (by decide +kernel))) rfl
theorem wm_685 : Cond.methodLink "LostRoom$Lays" 42 ⟨"LostRoom$Lays", "slot", "(II)I"⟩ ∈ ml_TB := ml_inTB (List.mem_append_right _ (List.mem_of_getElem? (i := 784) (by decide +kernel))) rfl
theorem wm_686 : Cond.code yX4_nextOf cX4_nextOf 6 (some .int) ∈ ml_TB := ml_inTB (List.mem_append_right _ (List.mem_of_getElem? (i := 798) (by decide +kernel))) rfl
theorem wm_687 : Cond.instanceMethod ⟨"LostRoom$Lays", "nextOf", "(III)I"⟩ ∈ ml_TB := ml_inTB (List.mem_append_right _ (List.mem_of_getElem? (i := 797) (by decide +kernel))) rfl
theorem wm_688 : Cond.selects "LostRoom$Lays" ⟨"LostRoom$Lays", "nextOf", "(III)I"⟩ ⟨"LostRoom$Lays", "nextOf", "(III)I"⟩ ∈ ml_TB := ml_inTB (List.mem_append_left _ (List.mem_of_getElem? (i := 37) (by decide +kernel))) rfl
theorem wm_689 : Cond.methodLink "LostRoom$Lays" 59 ⟨"LostRoom$Lays", "nextOf", "(III)I"⟩ ∈ ml_TB := ml_inTB (List.mem_append_right _ (List.mem_of_getElem? (i := 795) (by decide +kernel))) rfl
theorem wm_690 : Cond.methodLink "LostRoom$Lays" 32 ⟨"LostRoom$Bit", "meets", "(LLostRoom$Bit;)Z"⟩ ∈ ml_TB := ml_inTB (List.mem_append_right _ (List.mem_of_getElem? (i := 782) (by decide +kernel))) rfl
theorem wm_691 : Cond.code yX4_follow cX4_follow 7 none ∈ ml_TB := ml_inTB (List.mem_append_right _ (List.mem_of_getElem? (i := 790) (by decide +kernel))) rfl
theorem wm_692 : Cond.instanceMethod ⟨"LostRoom$Lays", "follow", "(III)V"⟩ ∈ ml_TB := ml_inTB (List.mem_append_right _ (List.mem_of_getElem? (i := 789) (by decide +kernel))) rfl
theorem wm_693 : Cond.selects "LostRoom$Lays" ⟨"LostRoom$Lays", "follow", "(III)V"⟩ ⟨"LostRoom$Lays", "follow", "(III)V"⟩ ∈ ml_TB := ml_inTB (List.mem_append_left _ (List.mem_of_getElem? (i := 35) (by decide +kernel))) rfl
theorem wm_694 : Cond.methodLink "LostRoom$Lays" 46 ⟨"LostRoom$Lays", "follow", "(III)V"⟩ ∈ ml_TB := ml_inTB (List.mem_append_right _ (List.mem_of_getElem? (i := 787) (by decide +kernel))) rfl
theorem wm_695 : Cond.fieldLink "LostRoom$Lays" 50 "LostRoom$Lays" "fewest" "I" ∈ ml_TB := ml_inTB (List.mem_append_right _ (List.mem_of_getElem? (i := 142) (by decide +kernel))) rfl
theorem wm_696 : Cond.fieldLink "LostRoom$Lays" 53 "LostRoom$Lays" "all" "I" ∈ ml_TB := ml_inTB (List.mem_append_right _ (List.mem_of_getElem? (i := 144) (by decide +kernel))) rfl
theorem wm_697 : Cond.code yX4_findFirst cX4_findFirst 6 none ∈ ml_TB := ml_inTB (List.mem_append_right _ (List.mem_of_getElem? (i := 794) (by decide +kernel))) rfl
theorem wm_698 : Cond.instanceMethod ⟨"LostRoom$Lays", "findFirst", "()V"⟩ ∈ ml_TB := ml_inTB (List.mem_append_right _ (List.mem_of_getElem? (i := 793) (by decide +kernel))) rfl
theorem wm_699 : Cond.selects "LostRoom$Lays" ⟨"LostRoom$Lays", "findFirst", "()V"⟩ ⟨"LostRoom$Lays", "findFirst", "()V"⟩ ∈ ml_TB := ml_inTB (List.mem_append_left _ (List.mem_of_getElem? (i := 36) (by decide +kernel))) rfl
theorem wm_700 : Cond.methodLink "LostRoom$Lays" 56 ⟨"LostRoom$Lays", "findFirst", "()V"⟩ ∈ ml_TB := ml_inTB (List.mem_append_right _ (List.mem_of_getElem? (i := 791) (by decide +kernel))) rfl
theorem wm_701 : Cond.code yX4_gather cX4_gather 5 none ∈ ml_TB := ml_inTB (List.mem_append_right _ (List.mem_of_getElem? (i := 781) (by decide +kernel))) rfl
theorem wm_702 : Cond.instanceMethod ⟨"LostRoom$Lays", "gather", "([LLostRoom$Bit;I)V"⟩ ∈ ml_TB := ml_inTB (List.mem_append_right _ (List.mem_of_getElem? (i := 779) (by decide +kernel))) rfl
theorem wm_703 : Cond.selects "LostRoom$Lays" ⟨"LostRoom$Lays", "gather", "([LLostRoom$Bit;I)V"⟩ ⟨"LostRoom$Lays", "gather", "([LLostRoom$Bit;I)V"⟩ ∈ ml_TB := ml_inTB (List.mem_append_right _ (List.mem_of_getElem? (i := 780) (by decide +kernel))) rfl
theorem wm_704 : Cond.methodLink "LostRoom" 417 ⟨"LostRoom$Lays", "gather", "([LLostRoom$Bit;I)V"⟩ ∈ ml_TB := ml_inTB (List.mem_append_right _ (List.mem_of_getElem? (i := 778) (by decide +kernel))) rfl
theorem wm_705 : Cond.code yX10_refreshLays cX10_refreshLays 1 none ∈ ml_TB := ml_inTB (List.mem_append_right _ (List.mem_of_getElem? (i := 777) (by decide +kernel))) rfl
theorem wm_706 : Cond.instanceMethod ⟨"LostRoom", "refreshLays", "()V"⟩ ∈ ml_TB := ml_inTB (List.mem_append_right _ (List.mem_of_getElem? (i := 776) (by decide +kernel))) rfl
theorem wm_707 : Cond.selects "LostRoom" ⟨"LostRoom", "refreshLays", "()V"⟩ ⟨"LostRoom", "refreshLays", "()V"⟩ ∈ ml_TB := ml_inTB (List.mem_append_left _ (List.mem_of_getElem? (i := 34) (by decide +kernel))) rfl
theorem wm_708 : Cond.methodLink "LostRoom" 288 ⟨"LostRoom", "refreshLays", "()V"⟩ ∈ ml_TB := ml_inTB (List.mem_append_right _ (List.mem_of_getElem? (i := 774) (by decide +kernel))) rfl
theorem wm_709 : Cond.fieldLink "LostRoom" 291 "LostRoom$Lays" "first" "[I" ∈ ml_TB := ml_inTB (List.mem_append_right _ (List.mem_of_getElem? (i := 147) (by decide +kernel))) rfl
theorem wm_710 : Cond.fieldLink "LostRoom" 292 "LostRoom$Lays" "fewest" "I" ∈ ml_TB := ml_inTB (List.mem_append_right _ (List.mem_of_getElem? (i := 143) (by decide +kernel))) rfl
theorem wm_711 : Cond.code yX11_addGap cX11_addGap 5 none ∈ ml_TB := ml_inTB (List.mem_append_right _ (List.mem_of_getElem? (i := 1463) (by decide +kernel))) rfl
theorem wm_712 : Cond.instanceMethod ⟨"LostRoomModel", "addGap", "(III)V"⟩ ∈ ml_TB := ml_inTB (List.mem_append_right _ (List.mem_of_getElem? (i := 1462) (by decide +kernel))) rfl
theorem wm_713 : Cond.selects "LostRoomModel" ⟨"LostRoomModel", "addGap", "(III)V"⟩ ⟨"LostRoomModel", "addGap", "(III)V"⟩ ∈ ml_TB := ml_inTB (List.mem_append_left _ (List.mem_of_getElem? (i := 96) (by decide +kernel))) rfl
theorem wm_714 : Cond.methodLink "LostRoomModel" 328 ⟨"LostRoomModel", "addGap", "(III)V"⟩ ∈ ml_TB := ml_inTB (List.mem_append_right _ (List.mem_of_getElem? (i := 1460) (by decide +kernel))) rfl
theorem wm_715 : Cond.code yX11_comesNext cX11_comesNext 6 (some .boolean) ∈ ml_TB := ml_inTB (List.mem_append_right _ (List.mem_of_getElem? (i := 1471) (by decide +kernel))) rfl
theorem wm_716 : Cond.instanceMethod ⟨"LostRoomModel", "comesNext", "(IIII)Z"⟩ ∈ ml_TB := ml_inTB (List.mem_append_right _ (List.mem_of_getElem? (i := 1470) (by decide +kernel))) rfl
theorem wm_717 : Cond.selects "LostRoomModel" ⟨"LostRoomModel", "comesNext", "(IIII)Z"⟩ ⟨"LostRoomModel", "comesNext", "(IIII)Z"⟩ ∈ ml_TB := ml_inTB (List.mem_append_left _ (List.mem_of_getElem? (i := 98) (by decide +kernel))) rfl
theorem wm_718 : Cond.methodLink "LostRoomModel" 338 ⟨"LostRoomModel", "comesNext", "(IIII)Z"⟩ ∈ ml_TB := ml_inTB (List.mem_append_right _ (List.mem_of_getElem? (i := 1468) (by decide +kernel))) rfl
theorem wm_719 : Cond.code yX11_layGaps cX11_layGaps 6 none ∈ ml_TB := ml_inTB (List.mem_append_right _ (List.mem_of_getElem? (i := 1459) (by decide +kernel))) rfl
theorem wm_720 : Cond.instanceMethod ⟨"LostRoomModel", "layGaps", "()V"⟩ ∈ ml_TB := ml_inTB (List.mem_append_right _ (List.mem_of_getElem? (i := 1458) (by decide +kernel))) rfl
theorem wm_721 : Cond.selects "LostRoomModel" ⟨"LostRoomModel", "layGaps", "()V"⟩ ⟨"LostRoomModel", "layGaps", "()V"⟩ ∈ ml_TB := ml_inTB (List.mem_append_left _ (List.mem_of_getElem? (i := 95) (by decide +kernel))) rfl
theorem wm_722 : Cond.methodLink "LostRoomModel" 332 ⟨"LostRoomModel", "layGaps", "()V"⟩ ∈ ml_TB := ml_inTB (List.mem_append_right _ (List.mem_of_getElem? (i := 1456) (by decide +kernel))) rfl
theorem wm_723 : Cond.code yX11_leastGaps cX11_leastGaps 4 (some .int) ∈ ml_TB := ml_inTB (List.mem_append_right _ (List.mem_of_getElem? (i := 1467) (by decide +kernel))) rfl
theorem wm_724 : Cond.instanceMethod ⟨"LostRoomModel", "leastGaps", "()I"⟩ ∈ ml_TB := ml_inTB (List.mem_append_right _ (List.mem_of_getElem? (i := 1466) (by decide +kernel))) rfl
theorem wm_725 : Cond.selects "LostRoomModel" ⟨"LostRoomModel", "leastGaps", "()I"⟩ ⟨"LostRoomModel", "leastGaps", "()I"⟩ ∈ ml_TB := ml_inTB (List.mem_append_left _ (List.mem_of_getElem? (i := 97) (by decide +kernel))) rfl
theorem wm_726 : Cond.methodLink "LostRoomModel" 335 ⟨"LostRoomModel", "leastGaps", "()I"⟩ ∈ ml_TB := ml_inTB (List.mem_append_right _ (List.mem_of_getElem? (i := 1464) (by decide +kernel))) rfl
theorem wm_727 : Cond.fieldLink "LostRoom" 295 "LostRoom$Lays" "all" "I" ∈ ml_TB := ml_inTB (List.mem_append_right _ (List.mem_of_getElem? (i := 145) (by decide +kernel))) rfl
theorem wm_728 : Cond.methodLink "LostRoom$Journeys" 38 ⟨"java/lang/Math", "min", "(II)I"⟩ ∈ ml_TB := ml_inTB (List.mem_append_right _ (List.mem_of_getElem? (i := 812) (by decide +kernel))) rfl
theorem wm_729 : Cond.fieldLink "LostRoom$Journeys" 44 "LostRoom$Journeys" "size" "I" ∈ ml_TB := ml_inTB (List.mem_append_right _ (List.mem_of_getElem? (i := 177) (by decide +kernel))) rfl
theorem wm_730 : Cond.fieldLink "LostRoom$Journeys" 34 "LostRoom$Thing" "kind" "I" ∈ ml_TB := ml_inTB (List.mem_append_right _ (List.mem_of_getElem? (i := 459) (by decide +kernel))) rfl
theorem wm_731 : Cond.fieldLink "LostRoom$Journeys" 62 "LostRoom$Thing" "number" "I" ∈ ml_TB := ml_inTB (List.mem_append_right _ (List.mem_of_getElem? (i := 468) (by decide +kernel))) rfl
theorem wm_732 : Cond.fieldLink "LostRoom$Journeys" 65 "LostRoom$Thing" "till" "I" ∈ ml_TB := ml_inTB (List.mem_append_right _ (List.mem_of_getElem? (i := 465) (by decide +kernel))) rfl
theorem wm_733 : Cond.fieldLink "LostRoom$Journeys" 53 "LostRoom$Thing" "from" "I" ∈ ml_TB := ml_inTB (List.mem_append_right _ (List.mem_of_getElem? (i := 462) (by decide +kernel))) rfl
theorem wm_734 : Cond.methodLink "LostRoom$Journeys" 56 ⟨"java/lang/Math", "max", "(II)I"⟩ ∈ ml_TB := ml_inTB (List.mem_append_right _ (List.mem_of_getElem? (i := 825) (by decide +kernel))) rfl
theorem wm_735 : Cond.code yX3_canEnd cX3_canEnd 3 (some .boolean) ∈ ml_TB := ml_inTB (List.mem_append_right _ (List.mem_of_getElem? (i := 829) (by decide +kernel))) rfl
theorem wm_736 : Cond.instanceMethod ⟨"LostRoom$Journeys", "canEnd", "(II)Z"⟩ ∈ ml_TB := ml_inTB (List.mem_append_right _ (List.mem_of_getElem? (i := 828) (by decide +kernel))) rfl
theorem wm_737 : Cond.selects "LostRoom$Journeys" ⟨"LostRoom$Journeys", "canEnd", "(II)Z"⟩ ⟨"LostRoom$Journeys", "canEnd", "(II)Z"⟩ ∈ ml_TB := ml_inTB (List.mem_append_left _ (List.mem_of_getElem? (i := 40) (by decide +kernel))) rfl
theorem wm_738 : Cond.methodLink "LostRoom$Journeys" 59 ⟨"LostRoom$Journeys", "canEnd", "(II)Z"⟩ ∈ ml_TB := ml_inTB (List.mem_append_right _ (List.mem_of_getElem? (i := 826) (by decide +kernel))) rfl
theorem wm_739 : Cond.code yX3_findAhead cX3_findAhead 3 none ∈ ml_TB := ml_inTB (List.mem_append_right _ (List.mem_of_getElem? (i := 824) (by decide +kernel))) rfl
theorem wm_740 : Cond.instanceMethod ⟨"LostRoom$Journeys", "findAhead", "()V"⟩ ∈ ml_TB := ml_inTB (List.mem_append_right _ (List.mem_of_getElem? (i := 823) (by decide +kernel))) rfl
theorem wm_741 : Cond.selects "LostRoom$Journeys" ⟨"LostRoom$Journeys", "findAhead", "()V"⟩ ⟨"LostRoom$Journeys", "findAhead", "()V"⟩ ∈ ml_TB := ml_inTB (List.mem_append_left _ (List.mem_of_getElem? (i := 39) (by decide +kernel))) rfl
theorem wm_742 : Cond.methodLink "LostRoom$Journeys" 50 ⟨"LostRoom$Journeys", "findAhead", "()V"⟩ ∈ ml_TB := ml_inTB (List.mem_append_right _ (List.mem_of_getElem? (i := 821) (by decide +kernel))) rfl
theorem wm_743 : Cond.code yX3_findLasts cX3_findLasts 3 none ∈ ml_TB := ml_inTB (List.mem_append_right _ (List.mem_of_getElem? (i := 820) (by decide +kernel))) rfl
theorem wm_744 : Cond.instanceMethod ⟨"LostRoom$Journeys", "findLasts", "()V"⟩ ∈ ml_TB := ml_inTB (List.mem_append_right _ (List.mem_of_getElem? (i := 819) (by decide +kernel))) rfl
theorem wm_745 : Cond.selects "LostRoom$Journeys" ⟨"LostRoom$Journeys", "findLasts", "()V"⟩ ⟨"LostRoom$Journeys", "findLasts", "()V"⟩ ∈ ml_TB := ml_inTB (List.mem_append_left _ (List.mem_of_getElem? (i := 38) (by decide +kernel))) rfl
theorem wm_746 : Cond.methodLink "LostRoom$Journeys" 47 ⟨"LostRoom$Journeys", "findLasts", "()V"⟩ ∈ ml_TB := ml_inTB (List.mem_append_right _ (List.mem_of_getElem? (i := 817) (by decide +kernel))) rfl
theorem wm_747 : Cond.code yX3_gather cX3_gather 6 (some .int) ∈ ml_TB := ml_inTB (List.mem_append_right _ (List.mem_of_getElem? (i := 810) (by decide +kernel))) rfl
theorem wm_748 : Cond.instanceMethod ⟨"LostRoom$Journeys", "gather", "([LLostRoom$Thing;II)I"⟩ ∈ ml_TB := ml_inTB (List.mem_append_right _ (List.mem_of_getElem? (i := 808) (by decide +kernel))) rfl
theorem wm_749 : Cond.selects "LostRoom$Journeys" ⟨"LostRoom$Journeys", "gather", "([LLostRoom$Thing;II)I"⟩ ⟨"LostRoom$Journeys", "gather", "([LLostRoom$Thing;II)I"⟩ ∈ ml_TB := ml_inTB (List.mem_append_right _ (List.mem_of_getElem? (i := 809) (by decide +kernel))) rfl
theorem wm_750 : Cond.methodLink "LostRoom" 297 ⟨"LostRoom$Journeys", "gather", "([LLostRoom$Thing;II)I"⟩ ∈ ml_TB := ml_inTB (List.mem_append_right _ (List.mem_of_getElem? (i := 807) (by decide +kernel))) rfl
theorem wm_751 : Cond.code yX3_fewestPeople cX3_fewestPeople 3 (some .int) ∈ ml_TB := ml_inTB (List.mem_append_right _ (List.mem_of_getElem? (i := 816) (by decide +kernel))) rfl
theorem wm_752 : Cond.instanceMethod ⟨"LostRoom$Journeys", "fewestPeople", "()I"⟩ ∈ ml_TB := ml_inTB (List.mem_append_right _ (List.mem_of_getElem? (i := 814) (by decide +kernel))) rfl
theorem wm_753 : Cond.selects "LostRoom$Journeys" ⟨"LostRoom$Journeys", "fewestPeople", "()I"⟩ ⟨"LostRoom$Journeys", "fewestPeople", "()I"⟩ ∈ ml_TB := ml_inTB (List.mem_append_right _ (List.mem_of_getElem? (i := 815) (by decide +kernel))) rfl
theorem wm_754 : Cond.methodLink "LostRoom" 301 ⟨"LostRoom$Journeys", "fewestPeople", "()I"⟩ ∈ ml_TB := ml_inTB (List.mem_append_right _ (List.mem_of_getElem? (i := 813) (by decide +kernel))) rfl
theorem wm_755 : Cond.fieldLink "LostRoomModel" 341 "LostRoomModel" "ticketMany" "I" ∈ ml_TB := ml_inTB (List.mem_append_right _ (List.mem_of_getElem? (i := 982) (by decide +kernel))) rfl
theorem wm_756 : Cond.code yX11_earliest cX11_earliest 10 (some .int) ∈ ml_TB := ml_inTB (List.mem_append_right _ (List.mem_of_getElem? (i := 1491) (by decide +kernel))) rfl
theorem wm_757 : Cond.instanceMethod ⟨"LostRoomModel", "earliest", "(II)I"⟩ ∈ ml_TB := ml_inTB (List.mem_append_right _ (List.mem_of_getElem? (i := 1490) (by decide +kernel))) rfl
theorem wm_758 : Cond.selects "LostRoomModel" ⟨"LostRoomModel", "earliest", "(II)I"⟩ ⟨"LostRoomModel", "earliest", "(II)I"⟩ ∈ ml_TB := ml_inTB (List.mem_append_left _ (List.mem_of_getElem? (i := 101) (by decide +kernel))) rfl
theorem wm_759 : Cond.methodLink "LostRoomModel" 344 ⟨"LostRoomModel", "earliest", "(II)I"⟩ ∈ ml_TB := ml_inTB (List.mem_append_right _ (List.mem_of_getElem? (i := 1488) (by decide +kernel))) rfl
theorem wm_760 : Cond.code yX11_layTickets cX11_layTickets 3 (some .int) ∈ ml_TB := ml_inTB (List.mem_append_right _ (List.mem_of_getElem? (i := 1483) (by decide +kernel))) rfl
theorem wm_761 : Cond.instanceMethod ⟨"LostRoomModel", "layTickets", "(I)I"⟩ ∈ ml_TB := ml_inTB (List.mem_append_right _ (List.mem_of_getElem? (i := 1482) (by decide +kernel))) rfl
theorem wm_762 : Cond.selects "LostRoomModel" ⟨"LostRoomModel", "layTickets", "(I)I"⟩ ⟨"LostRoomModel", "layTickets", "(I)I"⟩ ∈ ml_TB := ml_inTB (List.mem_append_left _ (List.mem_of_getElem? (i := 99) (by decide +kernel))) rfl
theorem wm_763 : Cond.methodLink "LostRoomModel" 347 ⟨"LostRoomModel", "layTickets", "(I)I"⟩ ∈ ml_TB := ml_inTB (List.mem_append_right _ (List.mem_of_getElem? (i := 1480) (by decide +kernel))) rfl
theorem wm_764 : Cond.code yX11_layJourneys cX11_layJourneys 4 none ∈ ml_TB := ml_inTB (List.mem_append_right _ (List.mem_of_getElem? (i := 1487) (by decide +kernel))) rfl
theorem wm_765 : Cond.instanceMethod ⟨"LostRoomModel", "layJourneys", "()V"⟩ ∈ ml_TB := ml_inTB (List.mem_append_right _ (List.mem_of_getElem? (i := 1486) (by decide +kernel))) rfl
theorem wm_766 : Cond.selects "LostRoomModel" ⟨"LostRoomModel", "layJourneys", "()V"⟩ ⟨"LostRoomModel", "layJourneys", "()V"⟩ ∈ ml_TB := ml_inTB (List.mem_append_left _ (List.mem_of_getElem? (i := 100) (by decide +kernel))) rfl
theorem wm_767 : Cond.methodLink "LostRoomModel" 350 ⟨"LostRoomModel", "layJourneys", "()V"⟩ ∈ ml_TB := ml_inTB (List.mem_append_right _ (List.mem_of_getElem? (i := 1484) (by decide +kernel))) rfl
theorem wm_768 : Cond.code yX3_isOne cX3_isOne 1 (some .boolean) ∈ ml_TB := ml_inTB (List.mem_append_right _ (List.mem_of_getElem? (i := 837) (by decide +kernel))) rfl
theorem wm_769 : Cond.instanceMethod ⟨"LostRoom$Journeys", "isOne", "()Z"⟩ ∈ ml_TB := ml_inTB (List.mem_append_right _ (List.mem_of_getElem? (i := 835) (by decide +kernel))) rfl
theorem wm_770 : Cond.selects "LostRoom$Journeys" ⟨"LostRoom$Journeys", "isOne", "()Z"⟩ ⟨"LostRoom$Journeys", "isOne", "()Z"⟩ ∈ ml_TB := ml_inTB (List.mem_append_right _ (List.mem_of_getElem? (i := 836) (by decide +kernel))) rfl
theorem wm_771 : Cond.methodLink "LostRoom" 304 ⟨"LostRoom$Journeys", "isOne", "()Z"⟩ ∈ ml_TB := ml_inTB (List.mem_append_right _ (List.mem_of_getElem? (i := 834) (by decide +kernel))) rfl
theorem wm_772 : Cond.methodLink "LostRoom$Claim" 1 ⟨"java/lang/Object", "<init>", "()V"⟩ ∈ ml_TB := ml_inTB (List.mem_append_right _ (List.mem_of_getElem? (i := 847) (by decide +kernel))) rfl
theorem wm_773 : Cond.fieldLink "LostRoom$Claim" 7 "LostRoom$Claim" "heir" "I" ∈ ml_TB := ml_inTB (List.mem_append_right _ (List.mem_of_getElem? (i := 848) (by decide +kernel))) rfl
theorem wm_774 : Cond.fieldLink "LostRoom$Claim" 13 "LostRoom$Claim" "trunk" "I" ∈ ml_TB := ml_inTB (List.mem_append_right _ (List.mem_of_getElem? (i := 850) (by decide +kernel))) rfl
theorem wm_775 : Cond.fieldLink "LostRoom$Claim" 16 "LostRoom$Claim" "marks" "[I" ∈ ml_TB := ml_inTB (List.mem_append_right _ (List.mem_of_getElem? (i := 852) (by decide +kernel))) rfl
theorem wm_776 : Cond.instantiable "LostRoom$Claim" 3 ∈ ml_TB := ml_inTB (List.mem_append_right _ (List.mem_of_getElem? (i := 842) (by decide +kernel))) rfl
theorem wm_777 : Cond.initialized "LostRoom$Claim" ∈ ml_TB := ml_inTB (List.mem_append_right _ (List.mem_of_getElem? (i := 16) (by decide +kernel))) rfl
theorem wm_778 : Cond.methodLink "LostRoom" 308 ⟨"[I", "clone", "()Ljava/lang/Object;"⟩ ∈ ml_TB := ml_inTB (List.mem_append_right _ (List.mem_of_getElem? (i := 843) (by decide +kernel))) rfl
theorem wm_779 : Cond.code yX2_init cX2_init 4 none ∈ ml_TB := ml_inTB (List.mem_append_right _ (List.mem_of_getElem? (i := 846) (by decide +kernel))) rfl
theorem wm_780 : Cond.instanceMethod ⟨"LostRoom$Claim", "<init>", "(II[I)V"⟩ ∈ ml_TB := ml_inTB (List.mem_append_right _ (List.mem_of_getElem? (i := 845) (by decide +kernel))) rfl
theorem wm_781 : Cond.methodLink "LostRoom" 312 ⟨"LostRoom$Claim", "<init>", "(II[I)V"⟩ ∈ ml_TB := ml_inTB (List.mem_append_right _ (List.mem_of_getElem? (i := 844) (by decide +kernel))) rfl
theorem wm_782 : Cond.fieldLink "LostRoom" 315 "LostRoom$Claim" "marks" "[I" ∈ ml_TB := ml_inTB (List.mem_append_right _ (List.mem_of_getElem? (i := 853) (by decide +kernel))) rfl
theorem wm_783 : Cond.fieldLink "LostRoom" 322 "LostRoom$Claim" "trunk" "I" ∈ ml_TB := ml_inTB (List.mem_append_right _ (List.mem_of_getElem? (i := 851) (by decide +kernel))) rfl
theorem wm_784 : Cond.code yX10_isTrue cX10_isTrue 6 (some .boolean) ∈ ml_TB := ml_inTB (List.mem_append_right _ (List.mem_of_getElem? (i := 872) (by decide +kernel))) rfl
theorem wm_785 : Cond.instanceMethod ⟨"LostRoom", "isTrue", "(III)Z"⟩ ∈ ml_TB := ml_inTB (List.mem_append_right _ (List.mem_of_getElem? (i := 871) (by decide +kernel))) rfl
theorem wm_786 : Cond.selects "LostRoom" ⟨"LostRoom", "isTrue", "(III)Z"⟩ ⟨"LostRoom", "isTrue", "(III)Z"⟩ ∈ ml_TB := ml_inTB (List.mem_append_left _ (List.mem_of_getElem? (i := 42) (by decide +kernel))) rfl
theorem wm_787 : Cond.methodLink "LostRoom" 430 ⟨"LostRoom", "isTrue", "(III)Z"⟩ ∈ ml_TB := ml_inTB (List.mem_append_right _ (List.mem_of_getElem? (i := 869) (by decide +kernel))) rfl
theorem wm_788 : Cond.code yX10_trueMarks cX10_trueMarks 4 (some .int) ∈ ml_TB := ml_inTB (List.mem_append_right _ (List.mem_of_getElem? (i := 868) (by decide +kernel))) rfl
theorem wm_789 : Cond.instanceMethod ⟨"LostRoom", "trueMarks", "(LLostRoom$Claim;)I"⟩ ∈ ml_TB := ml_inTB (List.mem_append_right _ (List.mem_of_getElem? (i := 867) (by decide +kernel))) rfl
theorem wm_790 : Cond.selects "LostRoom" ⟨"LostRoom", "trueMarks", "(LLostRoom$Claim;)I"⟩ ⟨"LostRoom", "trueMarks", "(LLostRoom$Claim;)I"⟩ ∈ ml_TB := ml_inTB (List.mem_append_left _ (List.mem_of_getElem? (i := 41) (by decide +kernel))) rfl
theorem wm_791 : Cond.methodLink "LostRoom" 318 ⟨"LostRoom", "trueMarks", "(LLostRoom$Claim;)I"⟩ ∈ ml_TB := ml_inTB (List.mem_append_right _ (List.mem_of_getElem? (i := 865) (by decide +kernel))) rfl
theorem wm_792 : Cond.code yX11_trueMany cX11_trueMany 7 (some .int) ∈ ml_TB := ml_inTB (List.mem_append_right _ (List.mem_of_getElem? (i := 1507) (by decide +kernel))) rfl
theorem wm_793 : Cond.instanceMethod ⟨"LostRoomModel", "trueMany", "(I)I"⟩ ∈ ml_TB := ml_inTB (List.mem_append_right _ (List.mem_of_getElem? (i := 1506) (by decide +kernel))) rfl
theorem wm_794 : Cond.selects "LostRoomModel" ⟨"LostRoomModel", "trueMany", "(I)I"⟩ ⟨"LostRoomModel", "trueMany", "(I)I"⟩ ∈ ml_TB := ml_inTB (List.mem_append_left _ (List.mem_of_getElem? (i := 102) (by decide +kernel))) rfl
theorem wm_795 : Cond.methodLink "LostRoomModel" 353 ⟨"LostRoomModel", "trueMany", "(I)I"⟩ ∈ ml_TB := ml_inTB (List.mem_append_right _ (List.mem_of_getElem? (i := 1504) (by decide +kernel))) rfl
theorem wm_796 : Cond.fieldLink "LostRoom" 323 "LostRoom$Claim" "heir" "I" ∈ ml_TB := ml_inTB (List.mem_append_right _ (List.mem_of_getElem? (i := 849) (by decide +kernel))) rfl
theorem wm_797 : Cond.code yX10_letters cX10_letters 3 (some .int) ∈ ml_TB := ml_inTB (List.mem_append_right _ (List.mem_of_getElem? (i := 892) (by decide +kernel))) rfl
theorem wm_798 : Cond.instanceMethod ⟨"LostRoom", "letters", "()I"⟩ ∈ ml_TB := ml_inTB (List.mem_append_right _ (List.mem_of_getElem? (i := 891) (by decide +kernel))) rfl
theorem wm_799 : Cond.selects "LostRoom" ⟨"LostRoom", "letters", "()I"⟩ ⟨"LostRoom", "letters", "()I"⟩ ∈ ml_TB := ml_inTB (List.mem_append_left _ (List.mem_of_getElem? (i := 43) (by decide +kernel))) rfl
theorem wm_800 : Cond.methodLink "LostRoom" 326 ⟨"LostRoom", "letters", "()I"⟩ ∈ ml_TB := ml_inTB (List.mem_append_right _ (List.mem_of_getElem? (i := 889) (by decide +kernel))) rfl
theorem wm_801 : Cond.code yX10_rowsThere cX10_rowsThere 3 (some .int) ∈ ml_TB := ml_inTB (List.mem_append_right _ (List.mem_of_getElem? (i := 896) (by decide +kernel))) rfl
theorem wm_802 : Cond.instanceMethod ⟨"LostRoom", "rowsThere", "()I"⟩ ∈ ml_TB := ml_inTB (List.mem_append_right _ (List.mem_of_getElem? (i := 895) (by decide +kernel))) rfl
theorem wm_803 : Cond.selects "LostRoom" ⟨"LostRoom", "rowsThere", "()I"⟩ ⟨"LostRoom", "rowsThere", "()I"⟩ ∈ ml_TB := ml_inTB (List.mem_append_left _ (List.mem_of_getElem? (i := 44) (by decide +kernel))) rfl
theorem wm_804 : Cond.methodLink "LostRoom" 329 ⟨"LostRoom", "rowsThere", "()I"⟩ ∈ ml_TB := ml_inTB (List.mem_append_right _ (List.mem_of_getElem? (i := 893) (by decide +kernel))) rfl
theorem wm_805 : Cond.code yX10_textsThere cX10_textsThere 3 (some .int) ∈ ml_TB := ml_inTB (List.mem_append_right _ (List.mem_of_getElem? (i := 900) (by decide +kernel))) rfl
theorem wm_806 : Cond.instanceMethod ⟨"LostRoom", "textsThere", "()I"⟩ ∈ ml_TB := ml_inTB (List.mem_append_right _ (List.mem_of_getElem? (i := 899) (by decide +kernel))) rfl
theorem wm_807 : Cond.selects "LostRoom" ⟨"LostRoom", "textsThere", "()I"⟩ ⟨"LostRoom", "textsThere", "()I"⟩ ∈ ml_TB := ml_inTB (List.mem_append_left _ (List.mem_of_getElem? (i := 45) (by decide +kernel))) rfl
theorem wm_808 : Cond.methodLink "LostRoom" 332 ⟨"LostRoom", "textsThere", "()I"⟩ ∈ ml_TB := ml_inTB (List.mem_append_right _ (List.mem_of_getElem? (i := 897) (by decide +kernel))) rfl
theorem wm_809 : Cond.code yX11_counted cX11_counted 4 (some .int) ∈ ml_TB := ml_inTB (List.mem_append_right _ (List.mem_of_getElem? (i := 1519) (by decide +kernel))) rfl
theorem wm_810 : Cond.instanceMethod ⟨"LostRoomModel", "counted", "(I)I"⟩ ∈ ml_TB := ml_inTB (List.mem_append_right _ (List.mem_of_getElem? (i := 1518) (by decide +kernel))) rfl
theorem wm_811 : Cond.selects "LostRoomModel" ⟨"LostRoomModel", "counted", "(I)I"⟩ ⟨"LostRoomModel", "counted", "(I)I"⟩ ∈ ml_TB := ml_inTB (List.mem_append_left _ (List.mem_of_getElem? (i := 103) (by decide +kernel))) rfl
theorem wm_812 : Cond.methodLink "LostRoomModel" 356 ⟨"LostRoomModel", "counted", "(I)I"⟩ ∈ ml_TB := ml_inTB (List.mem_append_right _ (List.mem_of_getElem? (i := 1516) (by decide +kernel))) rfl
theorem wm_813 : Cond.constantLong "LostRoom" 443 (31 : Int64) ∈ ml_TB := ml_inTB (List.mem_append_right _ (List.mem_of_getElem? (i := 918) (by decide +kernel))) rfl
theorem wm_814 : Cond.code yX10_mix cX10_mix 3 (some .long) ∈ ml_TB := ml_inTB (List.mem_append_right _ (List.mem_of_getElem? (i := 917) (by decide +kernel))) rfl
theorem wm_815 : Cond.static ⟨"LostRoom", "mix", "(JI)J"⟩ ∈ ml_TB := ml_inTB (List.mem_append_right _ (List.mem_of_getElem? (i := 916) (by decide +kernel))) rfl
theorem wm_816 : Cond.methodLink "LostRoom" 343 ⟨"LostRoom", "mix", "(JI)J"⟩ ∈ ml_TB := ml_inTB (List.mem_append_right _ (List.mem_of_getElem? (i := 915) (by decide +kernel))) rfl
theorem wm_817 : Cond.fieldLink "LostRoom" 433 "LostRoom$Bit" "hand" "I" ∈ ml_TB := ml_inTB (List.mem_append_right _ (List.mem_of_getElem? (i := 746) (by decide +kernel))) rfl
theorem wm_818 : Cond.fieldLink "LostRoom" 434 "LostRoom$Bit" "fold" "I" ∈ ml_TB := ml_inTB (List.mem_append_right _ (List.mem_of_getElem? (i := 748) (by decide +kernel))) rfl
theorem wm_819 : Cond.fieldLink "LostRoom" 437 "LostRoom$Bit" "left" "I" ∈ ml_TB := ml_inTB (List.mem_append_right _ (List.mem_of_getElem? (i := 750) (by decide +kernel))) rfl
theorem wm_820 : Cond.fieldLink "LostRoom" 440 "LostRoom$Bit" "right" "I" ∈ ml_TB := ml_inTB (List.mem_append_right _ (List.mem_of_getElem? (i := 752) (by decide +kernel))) rfl
theorem wm_821 : Cond.code yX10_mixHouse cX10_mixHouse 7 (some .long) ∈ ml_TB := ml_inTB (List.mem_append_right _ (List.mem_of_getElem? (i := 922) (by decide +kernel))) rfl
theorem wm_822 : Cond.instanceMethod ⟨"LostRoom", "mixHouse", "(J)J"⟩ ∈ ml_TB := ml_inTB (List.mem_append_right _ (List.mem_of_getElem? (i := 921) (by decide +kernel))) rfl
theorem wm_823 : Cond.selects "LostRoom" ⟨"LostRoom", "mixHouse", "(J)J"⟩ ⟨"LostRoom", "mixHouse", "(J)J"⟩ ∈ ml_TB := ml_inTB (List.mem_append_left _ (List.mem_of_getElem? (i := 46) (by decide +kernel))) rfl
theorem wm_824 : Cond.methodLink "LostRoom" 347 ⟨"LostRoom", "mixHouse", "(J)J"⟩ ∈ ml_TB := ml_inTB (List.mem_append_right _ (List.mem_of_getElem? (i := 919) (by decide +kernel))) rfl
theorem wm_825 : Cond.code yX10_mixThings cX10_mixThings 7 (some .long) ∈ ml_TB := ml_inTB (List.mem_append_right _ (List.mem_of_getElem? (i := 926) (by decide +kernel))) rfl
theorem wm_826 : Cond.instanceMethod ⟨"LostRoom", "mixThings", "(J)J"⟩ ∈ ml_TB := ml_inTB (List.mem_append_right _ (List.mem_of_getElem? (i := 925) (by decide +kernel))) rfl
theorem wm_827 : Cond.selects "LostRoom" ⟨"LostRoom", "mixThings", "(J)J"⟩ ⟨"LostRoom", "mixThings", "(J)J"⟩ ∈ ml_TB := ml_inTB (List.mem_append_left _ (List.mem_of_getElem? (i := 47) (by decide +kernel))) rfl
theorem wm_828 : Cond.methodLink "LostRoom" 351 ⟨"LostRoom", "mixThings", "(J)J"⟩ ∈ ml_TB := ml_inTB (List.mem_append_right _ (List.mem_of_getElem? (i := 923) (by decide +kernel))) rfl
theorem wm_829 : Cond.code yX10_mixPapers cX10_mixPapers 11 (some .long) ∈ ml_TB := ml_inTB (List.mem_append_right _ (List.mem_of_getElem? (i := 930) (by decide +kernel))) rfl
theorem wm_830 : Cond.instanceMethod ⟨"LostRoom", "mixPapers", "(J)J"⟩ ∈ ml_TB := ml_inTB (List.mem_append_right _ (List.mem_of_getElem? (i := 929) (by decide +kernel))) rfl
theorem wm_831 : Cond.selects "LostRoom" ⟨"LostRoom", "mixPapers", "(J)J"⟩ ⟨"LostRoom", "mixPapers", "(J)J"⟩ ∈ ml_TB := ml_inTB (List.mem_append_left _ (List.mem_of_getElem? (i := 48) (by decide +kernel))) rfl
theorem wm_832 : Cond.methodLink "LostRoom" 354 ⟨"LostRoom", "mixPapers", "(J)J"⟩ ∈ ml_TB := ml_inTB (List.mem_append_right _ (List.mem_of_getElem? (i := 927) (by decide +kernel))) rfl
theorem wm_833 : Cond.code yX10_mixRows cX10_mixRows 11 (some .long) ∈ ml_TB := ml_inTB (List.mem_append_right _ (List.mem_of_getElem? (i := 934) (by decide +kernel))) rfl
theorem wm_834 : Cond.instanceMethod ⟨"LostRoom", "mixRows", "(J)J"⟩ ∈ ml_TB := ml_inTB (List.mem_append_right _ (List.mem_of_getElem? (i := 933) (by decide +kernel))) rfl
theorem wm_835 : Cond.selects "LostRoom" ⟨"LostRoom", "mixRows", "(J)J"⟩ ⟨"LostRoom", "mixRows", "(J)J"⟩ ∈ ml_TB := ml_inTB (List.mem_append_left _ (List.mem_of_getElem? (i := 49) (by decide +kernel))) rfl
theorem wm_836 : Cond.methodLink "LostRoom" 357 ⟨"LostRoom", "mixRows", "(J)J"⟩ ∈ ml_TB := ml_inTB (List.mem_append_right _ (List.mem_of_getElem? (i := 931) (by decide +kernel))) rfl
theorem wm_837 : Cond.code yX10_count cX10_count 2 (some .int) ∈ ml_TB := ml_inTB (List.mem_append_right _ (List.mem_of_getElem? (i := 888) (by decide +kernel))) rfl
theorem wm_838 : Cond.instanceMethod ⟨"LostRoom", "count", "(I)I"⟩ ∈ ml_TB := ml_inTB (List.mem_append_right _ (List.mem_of_getElem? (i := 886) (by decide +kernel))) rfl
theorem wm_839 : Cond.selects "LostRoom" ⟨"LostRoom", "count", "(I)I"⟩ ⟨"LostRoom", "count", "(I)I"⟩ ∈ ml_TB := ml_inTB (List.mem_append_right _ (List.mem_of_getElem? (i := 887) (by decide +kernel))) rfl
theorem wm_840 : Cond.methodLink "LostRoom" 340 ⟨"LostRoom", "count", "(I)I"⟩ ∈ ml_TB := ml_inTB (List.mem_append_right _ (List.mem_of_getElem? (i := 914) (by decide +kernel))) rfl
theorem wm_841 : Cond.constantLong "LostRoom" 338 (17 : Int64) ∈ ml_TB := ml_inTB (List.mem_append_right _ (List.mem_of_getElem? (i := 913) (by decide +kernel))) rfl
theorem wm_842 : Cond.constantLong "LostRoomModel" 359 (31 : Int64) ∈ ml_TB := ml_inTB (List.mem_append_right _ (List.mem_of_getElem? (i := 1529) (by decide +kernel))) rfl
theorem wm_843 : Cond.fieldLink "LostRoomModel" 361 "LostRoomModel" "h" "J" ∈ ml_TB := ml_inTB (List.mem_append_right _ (List.mem_of_getElem? (i := 989) (by decide +kernel))) rfl
theorem wm_844 : Cond.code yX11_mix cX11_mix 3 none ∈ ml_TB := ml_inTB (List.mem_append_right _ (List.mem_of_getElem? (i := 1528) (by decide +kernel))) rfl
theorem wm_845 : Cond.instanceMethod ⟨"LostRoomModel", "mix", "(J)V"⟩ ∈ ml_TB := ml_inTB (List.mem_append_right _ (List.mem_of_getElem? (i := 1527) (by decide +kernel))) rfl
theorem wm_846 : Cond.selects "LostRoomModel" ⟨"LostRoomModel", "mix", "(J)V"⟩ ⟨"LostRoomModel", "mix", "(J)V"⟩ ∈ ml_TB := ml_inTB (List.mem_append_left _ (List.mem_of_getElem? (i := 104) (by decide +kernel))) rfl
theorem wm_847 : Cond.methodLink "LostRoomModel" 364 ⟨"LostRoomModel", "mix", "(J)V"⟩ ∈ ml_TB := ml_inTB (List.mem_append_right _ (List.mem_of_getElem? (i := 1525) (by decide +kernel))) rfl
theorem wm_848 : Cond.code yX11_mixRoom cX11_mixRoom 3 none ∈ ml_TB := ml_inTB (List.mem_append_right _ (List.mem_of_getElem? (i := 1533) (by decide +kernel))) rfl
theorem wm_849 : Cond.instanceMethod ⟨"LostRoomModel", "mixRoom", "()V"⟩ ∈ ml_TB := ml_inTB (List.mem_append_right _ (List.mem_of_getElem? (i := 1532) (by decide +kernel))) rfl
theorem wm_850 : Cond.selects "LostRoomModel" ⟨"LostRoomModel", "mixRoom", "()V"⟩ ⟨"LostRoomModel", "mixRoom", "()V"⟩ ∈ ml_TB := ml_inTB (List.mem_append_left _ (List.mem_of_getElem? (i := 105) (by decide +kernel))) rfl
theorem wm_851 : Cond.methodLink "LostRoomModel" 370 ⟨"LostRoomModel", "mixRoom", "()V"⟩ ∈ ml_TB := ml_inTB (List.mem_append_right _ (List.mem_of_getElem? (i := 1530) (by decide +kernel))) rfl
theorem wm_852 : Cond.constantLong "LostRoomModel" 368 (17 : Int64) ∈ ml_TB := ml_inTB (List.mem_append_right _ (List.mem_of_getElem? (i := 1524) (by decide +kernel))) rfl
theorem wm_853 : Cond.code yX11_lies cX11_lies 4 (some .int) ∈ ml_TB := ml_inTB (List.mem_append_right _ (List.mem_of_getElem? (i := 1251) (by decide +kernel))) rfl
theorem wm_854 : Cond.instanceMethod ⟨"LostRoomModel", "lies", "(IIZ)I"⟩ ∈ ml_TB := ml_inTB (List.mem_append_right _ (List.mem_of_getElem? (i := 1249) (by decide +kernel))) rfl
theorem wm_855 : Cond.selects "LostRoomModel" ⟨"LostRoomModel", "lies", "(IIZ)I"⟩ ⟨"LostRoomModel", "lies", "(IIZ)I"⟩ ∈ ml_TB := ml_inTB (List.mem_append_right _ (List.mem_of_getElem? (i := 1250) (by decide +kernel))) rfl
theorem wm_856 : Cond.methodLink "LostRoomLaw" 77 ⟨"LostRoomModel", "lies", "(IIZ)I"⟩ ∈ ml_TB := ml_inTB (List.mem_append_right _ (List.mem_of_getElem? (i := 1248) (by decide +kernel))) rfl
theorem wm_857 : Cond.code yX10_lies cX10_lies 4 (some .int) ∈ ml_TB := ml_inTB (List.mem_append_right _ (List.mem_of_getElem? (i := 512) (by decide +kernel))) rfl
theorem wm_858 : Cond.instanceMethod ⟨"LostRoom", "lies", "(IIZ)I"⟩ ∈ ml_TB := ml_inTB (List.mem_append_right _ (List.mem_of_getElem? (i := 510) (by decide +kernel))) rfl
theorem wm_859 : Cond.selects "LostRoom" ⟨"LostRoom", "lies", "(IIZ)I"⟩ ⟨"LostRoom", "lies", "(IIZ)I"⟩ ∈ ml_TB := ml_inTB (List.mem_append_right _ (List.mem_of_getElem? (i := 511) (by decide +kernel))) rfl
theorem wm_860 : Cond.methodLink "LostRoomLaw" 73 ⟨"LostRoom", "lies", "(IIZ)I"⟩ ∈ ml_TB := ml_inTB (List.mem_append_right _ (List.mem_of_getElem? (i := 509) (by decide +kernel))) rfl
theorem wm_861 : Cond.code yX10_row cX10_row 3 (some .int) ∈ ml_TB := ml_inTB (List.mem_append_right _ (List.mem_of_getElem? (i := 256) (by decide +kernel))) rfl
theorem wm_862 : Cond.instanceMethod ⟨"LostRoom", "row", "(II)I"⟩ ∈ ml_TB := ml_inTB (List.mem_append_right _ (List.mem_of_getElem? (i := 254) (by decide +kernel))) rfl
theorem wm_863 : Cond.selects "LostRoom" ⟨"LostRoom", "row", "(II)I"⟩ ⟨"LostRoom", "row", "(II)I"⟩ ∈ ml_TB := ml_inTB (List.mem_append_right _ (List.mem_of_getElem? (i := 255) (by decide +kernel))) rfl
theorem wm_864 : Cond.methodLink "LostRoomLaw" 13 ⟨"LostRoom", "row", "(II)I"⟩ ∈ ml_TB := ml_inTB (List.mem_append_right _ (List.mem_of_getElem? (i := 253) (by decide +kernel))) rfl
theorem wm_865 : Cond.code yX11_row cX11_row 4 (some .int) ∈ ml_TB := ml_inTB (List.mem_append_right _ (List.mem_of_getElem? (i := 1111) (by decide +kernel))) rfl
theorem wm_866 : Cond.instanceMethod ⟨"LostRoomModel", "row", "(II)I"⟩ ∈ ml_TB := ml_inTB (List.mem_append_right _ (List.mem_of_getElem? (i := 1109) (by decide +kernel))) rfl
theorem wm_867 : Cond.selects "LostRoomModel" ⟨"LostRoomModel", "row", "(II)I"⟩ ⟨"LostRoomModel", "row", "(II)I"⟩ ∈ ml_TB := ml_inTB (List.mem_append_right _ (List.mem_of_getElem? (i := 1110) (by decide +kernel))) rfl
theorem wm_868 : Cond.methodLink "LostRoomLaw" 17 ⟨"LostRoomModel", "row", "(II)I"⟩ ∈ ml_TB := ml_inTB (List.mem_append_right _ (List.mem_of_getElem? (i := 1108) (by decide +kernel))) rfl
theorem wm_869 : Cond.code yX10_lay cX10_lay 6 (some .int) ∈ ml_TB := ml_inTB (List.mem_append_right _ (List.mem_of_getElem? (i := 270) (by decide +kernel))) rfl
theorem wm_870 : Cond.instanceMethod ⟨"LostRoom", "lay", "(III)I"⟩ ∈ ml_TB := ml_inTB (List.mem_append_right _ (List.mem_of_getElem? (i := 268) (by decide +kernel))) rfl
theorem wm_871 : Cond.selects "LostRoom" ⟨"LostRoom", "lay", "(III)I"⟩ ⟨"LostRoom", "lay", "(III)I"⟩ ∈ ml_TB := ml_inTB (List.mem_append_right _ (List.mem_of_getElem? (i := 269) (by decide +kernel))) rfl
theorem wm_872 : Cond.methodLink "LostRoomLaw" 18 ⟨"LostRoom", "lay", "(III)I"⟩ ∈ ml_TB := ml_inTB (List.mem_append_right _ (List.mem_of_getElem? (i := 267) (by decide +kernel))) rfl
theorem wm_873 : Cond.code yX11_lay cX11_lay 5 (some .int) ∈ ml_TB := ml_inTB (List.mem_append_right _ (List.mem_of_getElem? (i := 1122) (by decide +kernel))) rfl
theorem wm_874 : Cond.instanceMethod ⟨"LostRoomModel", "lay", "(III)I"⟩ ∈ ml_TB := ml_inTB (List.mem_append_right _ (List.mem_of_getElem? (i := 1120) (by decide +kernel))) rfl
theorem wm_875 : Cond.selects "LostRoomModel" ⟨"LostRoomModel", "lay", "(III)I"⟩ ⟨"LostRoomModel", "lay", "(III)I"⟩ ∈ ml_TB := ml_inTB (List.mem_append_right _ (List.mem_of_getElem? (i := 1121) (by decide +kernel))) rfl
theorem wm_876 : Cond.methodLink "LostRoomLaw" 22 ⟨"LostRoomModel", "lay", "(III)I"⟩ ∈ ml_TB := ml_inTB (List.mem_append_right _ (List.mem_of_getElem? (i := 1119) (by decide +kernel))) rfl
theorem wm_877 : Cond.code yX10_at cX10_at 4 (some .int) ∈ ml_TB := ml_inTB (List.mem_append_right _ (List.mem_of_getElem? (i := 278) (by decide +kernel))) rfl
theorem wm_878 : Cond.instanceMethod ⟨"LostRoom", "at", "(II)I"⟩ ∈ ml_TB := ml_inTB (List.mem_append_right _ (List.mem_of_getElem? (i := 276) (by decide +kernel))) rfl
theorem wm_879 : Cond.selects "LostRoom" ⟨"LostRoom", "at", "(II)I"⟩ ⟨"LostRoom", "at", "(II)I"⟩ ∈ ml_TB := ml_inTB (List.mem_append_right _ (List.mem_of_getElem? (i := 277) (by decide +kernel))) rfl
theorem wm_880 : Cond.methodLink "LostRoomLaw" 23 ⟨"LostRoom", "at", "(II)I"⟩ ∈ ml_TB := ml_inTB (List.mem_append_right _ (List.mem_of_getElem? (i := 275) (by decide +kernel))) rfl
theorem wm_881 : Cond.code yX11_at cX11_at 3 (some .int) ∈ ml_TB := ml_inTB (List.mem_append_right _ (List.mem_of_getElem? (i := 1134) (by decide +kernel))) rfl
theorem wm_882 : Cond.instanceMethod ⟨"LostRoomModel", "at", "(II)I"⟩ ∈ ml_TB := ml_inTB (List.mem_append_right _ (List.mem_of_getElem? (i := 1132) (by decide +kernel))) rfl
theorem wm_883 : Cond.selects "LostRoomModel" ⟨"LostRoomModel", "at", "(II)I"⟩ ⟨"LostRoomModel", "at", "(II)I"⟩ ∈ ml_TB := ml_inTB (List.mem_append_right _ (List.mem_of_getElem? (i := 1133) (by decide +kernel))) rfl
theorem wm_884 : Cond.methodLink "LostRoomLaw" 26 ⟨"LostRoomModel", "at", "(II)I"⟩ ∈ ml_TB := ml_inTB (List.mem_append_right _ (List.mem_of_getElem? (i := 1131) (by decide +kernel))) rfl
theorem wm_885 : Cond.code yX10_tear cX10_tear 2 (some .int) ∈ ml_TB := ml_inTB (List.mem_append_right _ (List.mem_of_getElem? (i := 282) (by decide +kernel))) rfl
theorem wm_886 : Cond.instanceMethod ⟨"LostRoom", "tear", "(I)I"⟩ ∈ ml_TB := ml_inTB (List.mem_append_right _ (List.mem_of_getElem? (i := 280) (by decide +kernel))) rfl
theorem wm_887 : Cond.selects "LostRoom" ⟨"LostRoom", "tear", "(I)I"⟩ ⟨"LostRoom", "tear", "(I)I"⟩ ∈ ml_TB := ml_inTB (List.mem_append_right _ (List.mem_of_getElem? (i := 281) (by decide +kernel))) rfl
theorem wm_888 : Cond.methodLink "LostRoomLaw" 27 ⟨"LostRoom", "tear", "(I)I"⟩ ∈ ml_TB := ml_inTB (List.mem_append_right _ (List.mem_of_getElem? (i := 279) (by decide +kernel))) rfl
theorem wm_889 : Cond.code yX11_tear cX11_tear 2 (some .int) ∈ ml_TB := ml_inTB (List.mem_append_right _ (List.mem_of_getElem? (i := 1138) (by decide +kernel))) rfl
theorem wm_890 : Cond.instanceMethod ⟨"LostRoomModel", "tear", "(I)I"⟩ ∈ ml_TB := ml_inTB (List.mem_append_right _ (List.mem_of_getElem? (i := 1136) (by decide +kernel))) rfl
theorem wm_891 : Cond.selects "LostRoomModel" ⟨"LostRoomModel", "tear", "(I)I"⟩ ⟨"LostRoomModel", "tear", "(I)I"⟩ ∈ ml_TB := ml_inTB (List.mem_append_right _ (List.mem_of_getElem? (i := 1137) (by decide +kernel))) rfl
theorem wm_892 : Cond.methodLink "LostRoomLaw" 31 ⟨"LostRoomModel", "tear", "(I)I"⟩ ∈ ml_TB := ml_inTB (List.mem_append_right _ (List.mem_of_getElem? (i := 1135) (by decide +kernel))) rfl
theorem wm_893 : Cond.code yX10_copy cX10_copy 8 (some .int) ∈ ml_TB := ml_inTB (List.mem_append_right _ (List.mem_of_getElem? (i := 286) (by decide +kernel))) rfl
theorem wm_894 : Cond.instanceMethod ⟨"LostRoom", "copy", "(IIIII)I"⟩ ∈ ml_TB := ml_inTB (List.mem_append_right _ (List.mem_of_getElem? (i := 284) (by decide +kernel))) rfl
theorem wm_895 : Cond.selects "LostRoom" ⟨"LostRoom", "copy", "(IIIII)I"⟩ ⟨"LostRoom", "copy", "(IIIII)I"⟩ ∈ ml_TB := ml_inTB (List.mem_append_right _ (List.mem_of_getElem? (i := 285) (by decide +kernel))) rfl
theorem wm_896 : Cond.methodLink "LostRoomLaw" 32 ⟨"LostRoom", "copy", "(IIIII)I"⟩ ∈ ml_TB := ml_inTB (List.mem_append_right _ (List.mem_of_getElem? (i := 283) (by decide +kernel))) rfl
theorem wm_897 : Cond.code yX11_copy cX11_copy 7 (some .int) ∈ ml_TB := ml_inTB (List.mem_append_right _ (List.mem_of_getElem? (i := 1142) (by decide +kernel))) rfl
theorem wm_898 : Cond.instanceMethod ⟨"LostRoomModel", "copy", "(IIIII)I"⟩ ∈ ml_TB := ml_inTB (List.mem_append_right _ (List.mem_of_getElem? (i := 1140) (by decide +kernel))) rfl
theorem wm_899 : Cond.selects "LostRoomModel" ⟨"LostRoomModel", "copy", "(IIIII)I"⟩ ⟨"LostRoomModel", "copy", "(IIIII)I"⟩ ∈ ml_TB := ml_inTB (List.mem_append_right _ (List.mem_of_getElem? (i := 1141) (by decide +kernel))) rfl
theorem wm_900 : Cond.methodLink "LostRoomLaw" 36 ⟨"LostRoomModel", "copy", "(IIIII)I"⟩ ∈ ml_TB := ml_inTB (List.mem_append_right _ (List.mem_of_getElem? (i := 1139) (by decide +kernel))) rfl
theorem wm_901 : Cond.code yX10_mean cX10_mean 9 (some .int) ∈ ml_TB := ml_inTB (List.mem_append_right _ (List.mem_of_getElem? (i := 296) (by decide +kernel))) rfl
theorem wm_902 : Cond.instanceMethod ⟨"LostRoom", "mean", "(I)I"⟩ ∈ ml_TB := ml_inTB (List.mem_append_right _ (List.mem_of_getElem? (i := 294) (by decide +kernel))) rfl
theorem wm_903 : Cond.selects "LostRoom" ⟨"LostRoom", "mean", "(I)I"⟩ ⟨"LostRoom", "mean", "(I)I"⟩ ∈ ml_TB := ml_inTB (List.mem_append_right _ (List.mem_of_getElem? (i := 295) (by decide +kernel))) rfl
theorem wm_904 : Cond.methodLink "LostRoomLaw" 37 ⟨"LostRoom", "mean", "(I)I"⟩ ∈ ml_TB := ml_inTB (List.mem_append_right _ (List.mem_of_getElem? (i := 293) (by decide +kernel))) rfl
theorem wm_905 : Cond.code yX11_mean cX11_mean 5 (some .int) ∈ ml_TB := ml_inTB (List.mem_append_right _ (List.mem_of_getElem? (i := 1146) (by decide +kernel))) rfl
theorem wm_906 : Cond.instanceMethod ⟨"LostRoomModel", "mean", "(I)I"⟩ ∈ ml_TB := ml_inTB (List.mem_append_right _ (List.mem_of_getElem? (i := 1144) (by decide +kernel))) rfl
theorem wm_907 : Cond.selects "LostRoomModel" ⟨"LostRoomModel", "mean", "(I)I"⟩ ⟨"LostRoomModel", "mean", "(I)I"⟩ ∈ ml_TB := ml_inTB (List.mem_append_right _ (List.mem_of_getElem? (i := 1145) (by decide +kernel))) rfl
theorem wm_908 : Cond.methodLink "LostRoomLaw" 40 ⟨"LostRoomModel", "mean", "(I)I"⟩ ∈ ml_TB := ml_inTB (List.mem_append_right _ (List.mem_of_getElem? (i := 1143) (by decide +kernel))) rfl
theorem wm_909 : Cond.code yX10_text cX10_text 4 (some .int) ∈ ml_TB := ml_inTB (List.mem_append_right _ (List.mem_of_getElem? (i := 300) (by decide +kernel))) rfl
theorem wm_910 : Cond.instanceMethod ⟨"LostRoom", "text", "(II)I"⟩ ∈ ml_TB := ml_inTB (List.mem_append_right _ (List.mem_of_getElem? (i := 298) (by decide +kernel))) rfl
theorem wm_911 : Cond.selects "LostRoom" ⟨"LostRoom", "text", "(II)I"⟩ ⟨"LostRoom", "text", "(II)I"⟩ ∈ ml_TB := ml_inTB (List.mem_append_right _ (List.mem_of_getElem? (i := 299) (by decide +kernel))) rfl
theorem wm_912 : Cond.methodLink "LostRoomLaw" 41 ⟨"LostRoom", "text", "(II)I"⟩ ∈ ml_TB := ml_inTB (List.mem_append_right _ (List.mem_of_getElem? (i := 297) (by decide +kernel))) rfl
theorem wm_913 : Cond.code yX11_text cX11_text 4 (some .int) ∈ ml_TB := ml_inTB (List.mem_append_right _ (List.mem_of_getElem? (i := 1150) (by decide +kernel))) rfl
theorem wm_914 : Cond.instanceMethod ⟨"LostRoomModel", "text", "(II)I"⟩ ∈ ml_TB := ml_inTB (List.mem_append_right _ (List.mem_of_getElem? (i := 1148) (by decide +kernel))) rfl
theorem wm_915 : Cond.selects "LostRoomModel" ⟨"LostRoomModel", "text", "(II)I"⟩ ⟨"LostRoomModel", "text", "(II)I"⟩ ∈ ml_TB := ml_inTB (List.mem_append_right _ (List.mem_of_getElem? (i := 1149) (by decide +kernel))) rfl
theorem wm_916 : Cond.methodLink "LostRoomLaw" 44 ⟨"LostRoomModel", "text", "(II)I"⟩ ∈ ml_TB := ml_inTB (List.mem_append_right _ (List.mem_of_getElem? (i := 1147) (by decide +kernel))) rfl
theorem wm_917 : Cond.code yX10_put cX10_put 6 (some .int) ∈ ml_TB := ml_inTB (List.mem_append_right _ (List.mem_of_getElem? (i := 310) (by decide +kernel))) rfl
theorem wm_918 : Cond.instanceMethod ⟨"LostRoom", "put", "(III)I"⟩ ∈ ml_TB := ml_inTB (List.mem_append_right _ (List.mem_of_getElem? (i := 308) (by decide +kernel))) rfl
theorem wm_919 : Cond.selects "LostRoom" ⟨"LostRoom", "put", "(III)I"⟩ ⟨"LostRoom", "put", "(III)I"⟩ ∈ ml_TB := ml_inTB (List.mem_append_right _ (List.mem_of_getElem? (i := 309) (by decide +kernel))) rfl
theorem wm_920 : Cond.methodLink "LostRoomLaw" 45 ⟨"LostRoom", "put", "(III)I"⟩ ∈ ml_TB := ml_inTB (List.mem_append_right _ (List.mem_of_getElem? (i := 307) (by decide +kernel))) rfl
theorem wm_921 : Cond.code yX11_put cX11_put 5 (some .int) ∈ ml_TB := ml_inTB (List.mem_append_right _ (List.mem_of_getElem? (i := 1157) (by decide +kernel))) rfl
theorem wm_922 : Cond.instanceMethod ⟨"LostRoomModel", "put", "(III)I"⟩ ∈ ml_TB := ml_inTB (List.mem_append_right _ (List.mem_of_getElem? (i := 1155) (by decide +kernel))) rfl
theorem wm_923 : Cond.selects "LostRoomModel" ⟨"LostRoomModel", "put", "(III)I"⟩ ⟨"LostRoomModel", "put", "(III)I"⟩ ∈ ml_TB := ml_inTB (List.mem_append_right _ (List.mem_of_getElem? (i := 1156) (by decide +kernel))) rfl
theorem wm_924 : Cond.methodLink "LostRoomLaw" 48 ⟨"LostRoomModel", "put", "(III)I"⟩ ∈ ml_TB := ml_inTB (List.mem_append_right _ (List.mem_of_getElem? (i := 1154) (by decide +kernel))) rfl
theorem wm_925 : Cond.code yX10_fault cX10_fault 4 (some .int) ∈ ml_TB := ml_inTB (List.mem_append_right _ (List.mem_of_getElem? (i := 314) (by decide +kernel))) rfl
theorem wm_926 : Cond.instanceMethod ⟨"LostRoom", "fault", "(I)I"⟩ ∈ ml_TB := ml_inTB (List.mem_append_right _ (List.mem_of_getElem? (i := 312) (by decide +kernel))) rfl
theorem wm_927 : Cond.selects "LostRoom" ⟨"LostRoom", "fault", "(I)I"⟩ ⟨"LostRoom", "fault", "(I)I"⟩ ∈ ml_TB := ml_inTB (List.mem_append_right _ (List.mem_of_getElem? (i := 313) (by decide +kernel))) rfl
theorem wm_928 : Cond.methodLink "LostRoomLaw" 49 ⟨"LostRoom", "fault", "(I)I"⟩ ∈ ml_TB := ml_inTB (List.mem_append_right _ (List.mem_of_getElem? (i := 311) (by decide +kernel))) rfl
theorem wm_929 : Cond.code yX11_fault cX11_fault 2 (some .int) ∈ ml_TB := ml_inTB (List.mem_append_right _ (List.mem_of_getElem? (i := 1161) (by decide +kernel))) rfl
theorem wm_930 : Cond.instanceMethod ⟨"LostRoomModel", "fault", "(I)I"⟩ ∈ ml_TB := ml_inTB (List.mem_append_right _ (List.mem_of_getElem? (i := 1159) (by decide +kernel))) rfl
theorem wm_931 : Cond.selects "LostRoomModel" ⟨"LostRoomModel", "fault", "(I)I"⟩ ⟨"LostRoomModel", "fault", "(I)I"⟩ ∈ ml_TB := ml_inTB (List.mem_append_right _ (List.mem_of_getElem? (i := 1160) (by decide +kernel))) rfl
theorem wm_932 : Cond.methodLink "LostRoomLaw" 52 ⟨"LostRoomModel", "fault", "(I)I"⟩ ∈ ml_TB := ml_inTB (List.mem_append_right _ (List.mem_of_getElem? (i := 1158) (by decide +kernel))) rfl
theorem wm_933 : Cond.code yX10_book cX10_book 4 (some .int) ∈ ml_TB := ml_inTB (List.mem_append_right _ (List.mem_of_getElem? (i := 407) (by decide +kernel))) rfl
theorem wm_934 : Cond.instanceMethod ⟨"LostRoom", "book", "(I)I"⟩ ∈ ml_TB := ml_inTB (List.mem_append_right _ (List.mem_of_getElem? (i := 405) (by decide +kernel))) rfl
theorem wm_935 : Cond.selects "LostRoom" ⟨"LostRoom", "book", "(I)I"⟩ ⟨"LostRoom", "book", "(I)I"⟩ ∈ ml_TB := ml_inTB (List.mem_append_right _ (List.mem_of_getElem? (i := 406) (by decide +kernel))) rfl
theorem wm_936 : Cond.methodLink "LostRoomLaw" 53 ⟨"LostRoom", "book", "(I)I"⟩ ∈ ml_TB := ml_inTB (List.mem_append_right _ (List.mem_of_getElem? (i := 404) (by decide +kernel))) rfl
theorem wm_937 : Cond.code yX11_book cX11_book 3 (some .int) ∈ ml_TB := ml_inTB (List.mem_append_right _ (List.mem_of_getElem? (i := 1201) (by decide +kernel))) rfl
theorem wm_938 : Cond.instanceMethod ⟨"LostRoomModel", "book", "(I)I"⟩ ∈ ml_TB := ml_inTB (List.mem_append_right _ (List.mem_of_getElem? (i := 1199) (by decide +kernel))) rfl
theorem wm_939 : Cond.selects "LostRoomModel" ⟨"LostRoomModel", "book", "(I)I"⟩ ⟨"LostRoomModel", "book", "(I)I"⟩ ∈ ml_TB := ml_inTB (List.mem_append_right _ (List.mem_of_getElem? (i := 1200) (by decide +kernel))) rfl
theorem wm_940 : Cond.methodLink "LostRoomLaw" 56 ⟨"LostRoomModel", "book", "(I)I"⟩ ∈ ml_TB := ml_inTB (List.mem_append_right _ (List.mem_of_getElem? (i := 1198) (by decide +kernel))) rfl
theorem wm_941 : Cond.code yX10_wear cX10_wear 3 (some .int) ∈ ml_TB := ml_inTB (List.mem_append_right _ (List.mem_of_getElem? (i := 411) (by decide +kernel))) rfl
theorem wm_942 : Cond.instanceMethod ⟨"LostRoom", "wear", "(I)I"⟩ ∈ ml_TB := ml_inTB (List.mem_append_right _ (List.mem_of_getElem? (i := 409) (by decide +kernel))) rfl
theorem wm_943 : Cond.selects "LostRoom" ⟨"LostRoom", "wear", "(I)I"⟩ ⟨"LostRoom", "wear", "(I)I"⟩ ∈ ml_TB := ml_inTB (List.mem_append_right _ (List.mem_of_getElem? (i := 410) (by decide +kernel))) rfl
theorem wm_944 : Cond.methodLink "LostRoomLaw" 57 ⟨"LostRoom", "wear", "(I)I"⟩ ∈ ml_TB := ml_inTB (List.mem_append_right _ (List.mem_of_getElem? (i := 408) (by decide +kernel))) rfl
theorem wm_945 : Cond.code yX11_wear cX11_wear 3 (some .int) ∈ ml_TB := ml_inTB (List.mem_append_right _ (List.mem_of_getElem? (i := 1205) (by decide +kernel))) rfl
theorem wm_946 : Cond.instanceMethod ⟨"LostRoomModel", "wear", "(I)I"⟩ ∈ ml_TB := ml_inTB (List.mem_append_right _ (List.mem_of_getElem? (i := 1203) (by decide +kernel))) rfl
theorem wm_947 : Cond.selects "LostRoomModel" ⟨"LostRoomModel", "wear", "(I)I"⟩ ⟨"LostRoomModel", "wear", "(I)I"⟩ ∈ ml_TB := ml_inTB (List.mem_append_right _ (List.mem_of_getElem? (i := 1204) (by decide +kernel))) rfl
theorem wm_948 : Cond.methodLink "LostRoomLaw" 60 ⟨"LostRoomModel", "wear", "(I)I"⟩ ∈ ml_TB := ml_inTB (List.mem_append_right _ (List.mem_of_getElem? (i := 1202) (by decide +kernel))) rfl
theorem wm_949 : Cond.code yX10_lodger cX10_lodger 3 (some .int) ∈ ml_TB := ml_inTB (List.mem_append_right _ (List.mem_of_getElem? (i := 415) (by decide +kernel))) rfl
theorem wm_950 : Cond.instanceMethod ⟨"LostRoom", "lodger", "(II)I"⟩ ∈ ml_TB := ml_inTB (List.mem_append_right _ (List.mem_of_getElem? (i := 413) (by decide +kernel))) rfl
theorem wm_951 : Cond.selects "LostRoom" ⟨"LostRoom", "lodger", "(II)I"⟩ ⟨"LostRoom", "lodger", "(II)I"⟩ ∈ ml_TB := ml_inTB (List.mem_append_right _ (List.mem_of_getElem? (i := 414) (by decide +kernel))) rfl
theorem wm_952 : Cond.methodLink "LostRoomLaw" 61 ⟨"LostRoom", "lodger", "(II)I"⟩ ∈ ml_TB := ml_inTB (List.mem_append_right _ (List.mem_of_getElem? (i := 412) (by decide +kernel))) rfl
theorem wm_953 : Cond.code yX11_lodger cX11_lodger 3 (some .int) ∈ ml_TB := ml_inTB (List.mem_append_right _ (List.mem_of_getElem? (i := 1209) (by decide +kernel))) rfl
theorem wm_954 : Cond.instanceMethod ⟨"LostRoomModel", "lodger", "(II)I"⟩ ∈ ml_TB := ml_inTB (List.mem_append_right _ (List.mem_of_getElem? (i := 1207) (by decide +kernel))) rfl
theorem wm_955 : Cond.selects "LostRoomModel" ⟨"LostRoomModel", "lodger", "(II)I"⟩ ⟨"LostRoomModel", "lodger", "(II)I"⟩ ∈ ml_TB := ml_inTB (List.mem_append_right _ (List.mem_of_getElem? (i := 1208) (by decide +kernel))) rfl
theorem wm_956 : Cond.methodLink "LostRoomLaw" 64 ⟨"LostRoomModel", "lodger", "(II)I"⟩ ∈ ml_TB := ml_inTB (List.mem_append_right _ (List.mem_of_getElem? (i := 1206) (by decide +kernel))) rfl
theorem wm_957 : Cond.code yX10_trunk cX10_trunk 3 (some .int) ∈ ml_TB := ml_inTB (List.mem_append_right _ (List.mem_of_getElem? (i := 427) (by decide +kernel))) rfl
theorem wm_958 : Cond.instanceMethod ⟨"LostRoom", "trunk", "(II)I"⟩ ∈ ml_TB := ml_inTB (List.mem_append_right _ (List.mem_of_getElem? (i := 425) (by decide +kernel))) rfl
theorem wm_959 : Cond.selects "LostRoom" ⟨"LostRoom", "trunk", "(II)I"⟩ ⟨"LostRoom", "trunk", "(II)I"⟩ ∈ ml_TB := ml_inTB (List.mem_append_right _ (List.mem_of_getElem? (i := 426) (by decide +kernel))) rfl
theorem wm_960 : Cond.methodLink "LostRoomLaw" 65 ⟨"LostRoom", "trunk", "(II)I"⟩ ∈ ml_TB := ml_inTB (List.mem_append_right _ (List.mem_of_getElem? (i := 424) (by decide +kernel))) rfl
theorem wm_961 : Cond.code yX11_trunk cX11_trunk 3 (some .int) ∈ ml_TB := ml_inTB (List.mem_append_right _ (List.mem_of_getElem? (i := 1217) (by decide +kernel))) rfl
theorem wm_962 : Cond.instanceMethod ⟨"LostRoomModel", "trunk", "(II)I"⟩ ∈ ml_TB := ml_inTB (List.mem_append_right _ (List.mem_of_getElem? (i := 1215) (by decide +kernel))) rfl
theorem wm_963 : Cond.selects "LostRoomModel" ⟨"LostRoomModel", "trunk", "(II)I"⟩ ⟨"LostRoomModel", "trunk", "(II)I"⟩ ∈ ml_TB := ml_inTB (List.mem_append_right _ (List.mem_of_getElem? (i := 1216) (by decide +kernel))) rfl
theorem wm_964 : Cond.methodLink "LostRoomLaw" 68 ⟨"LostRoomModel", "trunk", "(II)I"⟩ ∈ ml_TB := ml_inTB (List.mem_append_right _ (List.mem_of_getElem? (i := 1214) (by decide +kernel))) rfl
theorem wm_965 : Cond.code yX10_thing cX10_thing 8 (some .int) ∈ ml_TB := ml_inTB (List.mem_append_right _ (List.mem_of_getElem? (i := 443) (by decide +kernel))) rfl
theorem wm_966 : Cond.instanceMethod ⟨"LostRoom", "thing", "(IIIII)I"⟩ ∈ ml_TB := ml_inTB (List.mem_append_right _ (List.mem_of_getElem? (i := 441) (by decide +kernel))) rfl
theorem wm_967 : Cond.selects "LostRoom" ⟨"LostRoom", "thing", "(IIIII)I"⟩ ⟨"LostRoom", "thing", "(IIIII)I"⟩ ∈ ml_TB := ml_inTB (List.mem_append_right _ (List.mem_of_getElem? (i := 442) (by decide +kernel))) rfl
theorem wm_968 : Cond.methodLink "LostRoomLaw" 69 ⟨"LostRoom", "thing", "(IIIII)I"⟩ ∈ ml_TB := ml_inTB (List.mem_append_right _ (List.mem_of_getElem? (i := 440) (by decide +kernel))) rfl
theorem wm_969 : Cond.code yX11_thing cX11_thing 7 (some .int) ∈ ml_TB := ml_inTB (List.mem_append_right _ (List.mem_of_getElem? (i := 1237) (by decide +kernel))) rfl
theorem wm_970 : Cond.instanceMethod ⟨"LostRoomModel", "thing", "(IIIII)I"⟩ ∈ ml_TB := ml_inTB (List.mem_append_right _ (List.mem_of_getElem? (i := 1235) (by decide +kernel))) rfl
theorem wm_971 : Cond.selects "LostRoomModel" ⟨"LostRoomModel", "thing", "(IIIII)I"⟩ ⟨"LostRoomModel", "thing", "(IIIII)I"⟩ ∈ ml_TB := ml_inTB (List.mem_append_right _ (List.mem_of_getElem? (i := 1236) (by decide +kernel))) rfl
theorem wm_972 : Cond.methodLink "LostRoomLaw" 72 ⟨"LostRoomModel", "thing", "(IIIII)I"⟩ ∈ ml_TB := ml_inTB (List.mem_append_right _ (List.mem_of_getElem? (i := 1234) (by decide +kernel))) rfl
theorem wm_973 : Cond.code yX10_told cX10_told 3 (some .int) ∈ ml_TB := ml_inTB (List.mem_append_right _ (List.mem_of_getElem? (i := 520) (by decide +kernel))) rfl
theorem wm_974 : Cond.instanceMethod ⟨"LostRoom", "told", "(II)I"⟩ ∈ ml_TB := ml_inTB (List.mem_append_right _ (List.mem_of_getElem? (i := 518) (by decide +kernel))) rfl
theorem wm_975 : Cond.selects "LostRoom" ⟨"LostRoom", "told", "(II)I"⟩ ⟨"LostRoom", "told", "(II)I"⟩ ∈ ml_TB := ml_inTB (List.mem_append_right _ (List.mem_of_getElem? (i := 519) (by decide +kernel))) rfl
theorem wm_976 : Cond.methodLink "LostRoomLaw" 78 ⟨"LostRoom", "told", "(II)I"⟩ ∈ ml_TB := ml_inTB (List.mem_append_right _ (List.mem_of_getElem? (i := 517) (by decide +kernel))) rfl
theorem wm_977 : Cond.code yX11_told cX11_told 3 (some .int) ∈ ml_TB := ml_inTB (List.mem_append_right _ (List.mem_of_getElem? (i := 1259) (by decide +kernel))) rfl
theorem wm_978 : Cond.instanceMethod ⟨"LostRoomModel", "told", "(II)I"⟩ ∈ ml_TB := ml_inTB (List.mem_append_right _ (List.mem_of_getElem? (i := 1257) (by decide +kernel))) rfl
theorem wm_979 : Cond.selects "LostRoomModel" ⟨"LostRoomModel", "told", "(II)I"⟩ ⟨"LostRoomModel", "told", "(II)I"⟩ ∈ ml_TB := ml_inTB (List.mem_append_right _ (List.mem_of_getElem? (i := 1258) (by decide +kernel))) rfl
theorem wm_980 : Cond.methodLink "LostRoomLaw" 81 ⟨"LostRoomModel", "told", "(II)I"⟩ ∈ ml_TB := ml_inTB (List.mem_append_right _ (List.mem_of_getElem? (i := 1256) (by decide +kernel))) rfl
theorem wm_981 : Cond.code yX10_mark cX10_mark 4 (some .int) ∈ ml_TB := ml_inTB (List.mem_append_right _ (List.mem_of_getElem? (i := 528) (by decide +kernel))) rfl
theorem wm_982 : Cond.instanceMethod ⟨"LostRoom", "mark", "(II)I"⟩ ∈ ml_TB := ml_inTB (List.mem_append_right _ (List.mem_of_getElem? (i := 526) (by decide +kernel))) rfl
theorem wm_983 : Cond.selects "LostRoom" ⟨"LostRoom", "mark", "(II)I"⟩ ⟨"LostRoom", "mark", "(II)I"⟩ ∈ ml_TB := ml_inTB (List.mem_append_right _ (List.mem_of_getElem? (i := 527) (by decide +kernel))) rfl
theorem wm_984 : Cond.methodLink "LostRoomLaw" 82 ⟨"LostRoom", "mark", "(II)I"⟩ ∈ ml_TB := ml_inTB (List.mem_append_right _ (List.mem_of_getElem? (i := 525) (by decide +kernel))) rfl
theorem wm_985 : Cond.code yX11_mark cX11_mark 3 (some .int) ∈ ml_TB := ml_inTB (List.mem_append_right _ (List.mem_of_getElem? (i := 1263) (by decide +kernel))) rfl
theorem wm_986 : Cond.instanceMethod ⟨"LostRoomModel", "mark", "(II)I"⟩ ∈ ml_TB := ml_inTB (List.mem_append_right _ (List.mem_of_getElem? (i := 1261) (by decide +kernel))) rfl
theorem wm_987 : Cond.selects "LostRoomModel" ⟨"LostRoomModel", "mark", "(II)I"⟩ ⟨"LostRoomModel", "mark", "(II)I"⟩ ∈ ml_TB := ml_inTB (List.mem_append_right _ (List.mem_of_getElem? (i := 1262) (by decide +kernel))) rfl
theorem wm_988 : Cond.methodLink "LostRoomLaw" 85 ⟨"LostRoomModel", "mark", "(II)I"⟩ ∈ ml_TB := ml_inTB (List.mem_append_right _ (List.mem_of_getElem? (i := 1260) (by decide +kernel))) rfl
theorem wm_989 : Cond.code yX10_may cX10_may 2 (some .int) ∈ ml_TB := ml_inTB (List.mem_append_right _ (List.mem_of_getElem? (i := 543) (by decide +kernel))) rfl
theorem wm_990 : Cond.instanceMethod ⟨"LostRoom", "may", "(I)I"⟩ ∈ ml_TB := ml_inTB (List.mem_append_right _ (List.mem_of_getElem? (i := 541) (by decide +kernel))) rfl
theorem wm_991 : Cond.selects "LostRoom" ⟨"LostRoom", "may", "(I)I"⟩ ⟨"LostRoom", "may", "(I)I"⟩ ∈ ml_TB := ml_inTB (List.mem_append_right _ (List.mem_of_getElem? (i := 542) (by decide +kernel))) rfl
theorem wm_992 : Cond.methodLink "LostRoomLaw" 86 ⟨"LostRoom", "may", "(I)I"⟩ ∈ ml_TB := ml_inTB (List.mem_append_right _ (List.mem_of_getElem? (i := 540) (by decide +kernel))) rfl
theorem wm_993 : Cond.code yX11_may cX11_may 2 (some .int) ∈ ml_TB := ml_inTB (List.mem_append_right _ (List.mem_of_getElem? (i := 1287) (by decide +kernel))) rfl
theorem wm_994 : Cond.instanceMethod ⟨"LostRoomModel", "may", "(I)I"⟩ ∈ ml_TB := ml_inTB (List.mem_append_right _ (List.mem_of_getElem? (i := 1285) (by decide +kernel))) rfl
theorem wm_995 : Cond.selects "LostRoomModel" ⟨"LostRoomModel", "may", "(I)I"⟩ ⟨"LostRoomModel", "may", "(I)I"⟩ ∈ ml_TB := ml_inTB (List.mem_append_right _ (List.mem_of_getElem? (i := 1286) (by decide +kernel))) rfl
theorem wm_996 : Cond.methodLink "LostRoomLaw" 89 ⟨"LostRoomModel", "may", "(I)I"⟩ ∈ ml_TB := ml_inTB (List.mem_append_right _ (List.mem_of_getElem? (i := 1284) (by decide +kernel))) rfl
theorem wm_997 : Cond.code yX10_fewest cX10_fewest 4 (some .int) ∈ ml_TB := ml_inTB (List.mem_append_right _ (List.mem_of_getElem? (i := 547) (by decide +kernel))) rfl
theorem wm_998 : Cond.instanceMethod ⟨"LostRoom", "fewest", "()I"⟩ ∈ ml_TB := ml_inTB (List.mem_append_right _ (List.mem_of_getElem? (i := 545) (by decide +kernel))) rfl
theorem wm_999 : Cond.selects "LostRoom" ⟨"LostRoom", "fewest", "()I"⟩ ⟨"LostRoom", "fewest", "()I"⟩ ∈ ml_TB := ml_inTB (List.mem_append_right _ (List.mem_of_getElem? (i := 546) (by decide +kernel))) rfl
theorem wm_1000 : Cond.methodLink "LostRoomLaw" 90 ⟨"LostRoom", "fewest", "()I"⟩ ∈ ml_TB := ml_inTB (List.mem_append_right _ (List.mem_of_getElem? (i := 544) (by decide +kernel))) rfl
theorem wm_1001 : Cond.code yX11_fewest cX11_fewest 4 (some .int) ∈ ml_TB := ml_inTB (List.mem_append_right _ (List.mem_of_getElem? (i := 1306) (by decide +kernel))) rfl
theorem wm_1002 : Cond.instanceMethod ⟨"LostRoomModel", "fewest", "()I"⟩ ∈ ml_TB := ml_inTB (List.mem_append_right _ (List.mem_of_getElem? (i := 1304) (by decide +kernel))) rfl
theorem wm_1003 : Cond.selects "LostRoomModel" ⟨"LostRoomModel", "fewest", "()I"⟩ ⟨"LostRoomModel", "fewest", "()I"⟩ ∈ ml_TB := ml_inTB (List.mem_append_right _ (List.mem_of_getElem? (i := 1305) (by decide +kernel))) rfl
theorem wm_1004 : Cond.methodLink "LostRoomLaw" 94 ⟨"LostRoomModel", "fewest", "()I"⟩ ∈ ml_TB := ml_inTB (List.mem_append_right _ (List.mem_of_getElem? (i := 1303) (by decide +kernel))) rfl
theorem wm_1005 : Cond.code yX10_fits cX10_fits 4 (some .int) ∈ ml_TB := ml_inTB (List.mem_append_right _ (List.mem_of_getElem? (i := 561) (by decide +kernel))) rfl
theorem wm_1006 : Cond.instanceMethod ⟨"LostRoom", "fits", "()I"⟩ ∈ ml_TB := ml_inTB (List.mem_append_right _ (List.mem_of_getElem? (i := 559) (by decide +kernel))) rfl
theorem wm_1007 : Cond.selects "LostRoom" ⟨"LostRoom", "fits", "()I"⟩ ⟨"LostRoom", "fits", "()I"⟩ ∈ ml_TB := ml_inTB (List.mem_append_right _ (List.mem_of_getElem? (i := 560) (by decide +kernel))) rfl
theorem wm_1008 : Cond.methodLink "LostRoomLaw" 95 ⟨"LostRoom", "fits", "()I"⟩ ∈ ml_TB := ml_inTB (List.mem_append_right _ (List.mem_of_getElem? (i := 558) (by decide +kernel))) rfl
theorem wm_1009 : Cond.code yX11_fits cX11_fits 2 (some .int) ∈ ml_TB := ml_inTB (List.mem_append_right _ (List.mem_of_getElem? (i := 1317) (by decide +kernel))) rfl
theorem wm_1010 : Cond.instanceMethod ⟨"LostRoomModel", "fits", "()I"⟩ ∈ ml_TB := ml_inTB (List.mem_append_right _ (List.mem_of_getElem? (i := 1315) (by decide +kernel))) rfl
theorem wm_1011 : Cond.selects "LostRoomModel" ⟨"LostRoomModel", "fits", "()I"⟩ ⟨"LostRoomModel", "fits", "()I"⟩ ∈ ml_TB := ml_inTB (List.mem_append_right _ (List.mem_of_getElem? (i := 1316) (by decide +kernel))) rfl
theorem wm_1012 : Cond.methodLink "LostRoomLaw" 98 ⟨"LostRoomModel", "fits", "()I"⟩ ∈ ml_TB := ml_inTB (List.mem_append_right _ (List.mem_of_getElem? (i := 1314) (by decide +kernel))) rfl
theorem wm_1013 : Cond.code yX10_opens cX10_opens 2 (some .int) ∈ ml_TB := ml_inTB (List.mem_append_right _ (List.mem_of_getElem? (i := 565) (by decide +kernel))) rfl
theorem wm_1014 : Cond.instanceMethod ⟨"LostRoom", "opens", "(I)I"⟩ ∈ ml_TB := ml_inTB (List.mem_append_right _ (List.mem_of_getElem? (i := 563) (by decide +kernel))) rfl
theorem wm_1015 : Cond.selects "LostRoom" ⟨"LostRoom", "opens", "(I)I"⟩ ⟨"LostRoom", "opens", "(I)I"⟩ ∈ ml_TB := ml_inTB (List.mem_append_right _ (List.mem_of_getElem? (i := 564) (by decide +kernel))) rfl
theorem wm_1016 : Cond.methodLink "LostRoomLaw" 99 ⟨"LostRoom", "opens", "(I)I"⟩ ∈ ml_TB := ml_inTB (List.mem_append_right _ (List.mem_of_getElem? (i := 562) (by decide +kernel))) rfl
theorem wm_1017 : Cond.code yX11_opens cX11_opens 2 (some .int) ∈ ml_TB := ml_inTB (List.mem_append_right _ (List.mem_of_getElem? (i := 1321) (by decide +kernel))) rfl
theorem wm_1018 : Cond.instanceMethod ⟨"LostRoomModel", "opens", "(I)I"⟩ ∈ ml_TB := ml_inTB (List.mem_append_right _ (List.mem_of_getElem? (i := 1319) (by decide +kernel))) rfl
theorem wm_1019 : Cond.selects "LostRoomModel" ⟨"LostRoomModel", "opens", "(I)I"⟩ ⟨"LostRoomModel", "opens", "(I)I"⟩ ∈ ml_TB := ml_inTB (List.mem_append_right _ (List.mem_of_getElem? (i := 1320) (by decide +kernel))) rfl
theorem wm_1020 : Cond.methodLink "LostRoomLaw" 102 ⟨"LostRoomModel", "opens", "(I)I"⟩ ∈ ml_TB := ml_inTB (List.mem_append_right _ (List.mem_of_getElem? (i := 1318) (by decide +kernel))) rfl
theorem wm_1021 : Cond.code yX10_strange cX10_strange 6 (some .int) ∈ ml_TB := ml_inTB (List.mem_append_right _ (List.mem_of_getElem? (i := 578) (by decide +kernel))) rfl
theorem wm_1022 : Cond.instanceMethod ⟨"LostRoom", "strange", "()I"⟩ ∈ ml_TB := ml_inTB (List.mem_append_right _ (List.mem_of_getElem? (i := 576) (by decide +kernel))) rfl
theorem wm_1023 : Cond.selects "LostRoom" ⟨"LostRoom", "strange", "()I"⟩ ⟨"LostRoom", "strange", "()I"⟩ ∈ ml_TB := ml_inTB (List.mem_append_right _ (List.mem_of_getElem? (i := 577) (by decide +kernel))) rfl
theorem wm_1024 : Cond.methodLink "LostRoomLaw" 103 ⟨"LostRoom", "strange", "()I"⟩ ∈ ml_TB := ml_inTB (List.mem_append_right _ (List.mem_of_getElem? (i := 575) (by decide +kernel))) rfl
theorem wm_1025 : Cond.code yX11_strange cX11_strange 5 (some .int) ∈ ml_TB := ml_inTB (List.mem_append_right _ (List.mem_of_getElem? (i := 1333) (by decide +kernel))) rfl
theorem wm_1026 : Cond.instanceMethod ⟨"LostRoomModel", "strange", "()I"⟩ ∈ ml_TB := ml_inTB (List.mem_append_right _ (List.mem_of_getElem? (i := 1331) (by decide +kernel))) rfl
theorem wm_1027 : Cond.selects "LostRoomModel" ⟨"LostRoomModel", "strange", "()I"⟩ ⟨"LostRoomModel", "strange", "()I"⟩ ∈ ml_TB := ml_inTB (List.mem_append_right _ (List.mem_of_getElem? (i := 1332) (by decide +kernel))) rfl
theorem wm_1028 : Cond.methodLink "LostRoomLaw" 106 ⟨"LostRoomModel", "strange", "()I"⟩ ∈ ml_TB := ml_inTB (List.mem_append_right _ (List.mem_of_getElem? (i := 1330) (by decide +kernel))) rfl
theorem wm_1029 : Cond.code yX10_water cX10_water 6 (some .int) ∈ ml_TB := ml_inTB (List.mem_append_right _ (List.mem_of_getElem? (i := 585) (by decide +kernel))) rfl
theorem wm_1030 : Cond.instanceMethod ⟨"LostRoom", "water", "()I"⟩ ∈ ml_TB := ml_inTB (List.mem_append_right _ (List.mem_of_getElem? (i := 583) (by decide +kernel))) rfl
theorem wm_1031 : Cond.selects "LostRoom" ⟨"LostRoom", "water", "()I"⟩ ⟨"LostRoom", "water", "()I"⟩ ∈ ml_TB := ml_inTB (List.mem_append_right _ (List.mem_of_getElem? (i := 584) (by decide +kernel))) rfl
theorem wm_1032 : Cond.methodLink "LostRoomLaw" 107 ⟨"LostRoom", "water", "()I"⟩ ∈ ml_TB := ml_inTB (List.mem_append_right _ (List.mem_of_getElem? (i := 582) (by decide +kernel))) rfl
theorem wm_1033 : Cond.code yX11_water cX11_water 4 (some .int) ∈ ml_TB := ml_inTB (List.mem_append_right _ (List.mem_of_getElem? (i := 1340) (by decide +kernel))) rfl
theorem wm_1034 : Cond.instanceMethod ⟨"LostRoomModel", "water", "()I"⟩ ∈ ml_TB := ml_inTB (List.mem_append_right _ (List.mem_of_getElem? (i := 1338) (by decide +kernel))) rfl
theorem wm_1035 : Cond.selects "LostRoomModel" ⟨"LostRoomModel", "water", "()I"⟩ ⟨"LostRoomModel", "water", "()I"⟩ ∈ ml_TB := ml_inTB (List.mem_append_right _ (List.mem_of_getElem? (i := 1339) (by decide +kernel))) rfl
theorem wm_1036 : Cond.methodLink "LostRoomLaw" 110 ⟨"LostRoomModel", "water", "()I"⟩ ∈ ml_TB := ml_inTB (List.mem_append_right _ (List.mem_of_getElem? (i := 1337) (by decide +kernel))) rfl
theorem wm_1037 : Cond.code yX10_piling cX10_piling 6 (some .int) ∈ ml_TB := ml_inTB (List.mem_append_right _ (List.mem_of_getElem? (i := 595) (by decide +kernel))) rfl
theorem wm_1038 : Cond.instanceMethod ⟨"LostRoom", "piling", "(I)I"⟩ ∈ ml_TB := ml_inTB (List.mem_append_right _ (List.mem_of_getElem? (i := 593) (by decide +kernel))) rfl
theorem wm_1039 : Cond.selects "LostRoom" ⟨"LostRoom", "piling", "(I)I"⟩ ⟨"LostRoom", "piling", "(I)I"⟩ ∈ ml_TB := ml_inTB (List.mem_append_right _ (List.mem_of_getElem? (i := 594) (by decide +kernel))) rfl
theorem wm_1040 : Cond.methodLink "LostRoomLaw" 111 ⟨"LostRoom", "piling", "(I)I"⟩ ∈ ml_TB := ml_inTB (List.mem_append_right _ (List.mem_of_getElem? (i := 592) (by decide +kernel))) rfl
theorem wm_1041 : Cond.code yX11_piling cX11_piling 6 (some .int) ∈ ml_TB := ml_inTB (List.mem_append_right _ (List.mem_of_getElem? (i := 1352) (by decide +kernel))) rfl
theorem wm_1042 : Cond.instanceMethod ⟨"LostRoomModel", "piling", "(I)I"⟩ ∈ ml_TB := ml_inTB (List.mem_append_right _ (List.mem_of_getElem? (i := 1350) (by decide +kernel))) rfl
theorem wm_1043 : Cond.selects "LostRoomModel" ⟨"LostRoomModel", "piling", "(I)I"⟩ ⟨"LostRoomModel", "piling", "(I)I"⟩ ∈ ml_TB := ml_inTB (List.mem_append_right _ (List.mem_of_getElem? (i := 1351) (by decide +kernel))) rfl
theorem wm_1044 : Cond.methodLink "LostRoomLaw" 114 ⟨"LostRoomModel", "piling", "(I)I"⟩ ∈ ml_TB := ml_inTB (List.mem_append_right _ (List.mem_of_getElem? (i := 1349) (by decide +kernel))) rfl
theorem wm_1045 : Cond.code yX10_share cX10_share 2 (some .int) ∈ ml_TB := ml_inTB (List.mem_append_right _ (List.mem_of_getElem? (i := 611) (by decide +kernel))) rfl
theorem wm_1046 : Cond.instanceMethod ⟨"LostRoom", "share", "(I)I"⟩ ∈ ml_TB := ml_inTB (List.mem_append_right _ (List.mem_of_getElem? (i := 609) (by decide +kernel))) rfl
theorem wm_1047 : Cond.selects "LostRoom" ⟨"LostRoom", "share", "(I)I"⟩ ⟨"LostRoom", "share", "(I)I"⟩ ∈ ml_TB := ml_inTB (List.mem_append_right _ (List.mem_of_getElem? (i := 610) (by decide +kernel))) rfl
theorem wm_1048 : Cond.methodLink "LostRoomLaw" 115 ⟨"LostRoom", "share", "(I)I"⟩ ∈ ml_TB := ml_inTB (List.mem_append_right _ (List.mem_of_getElem? (i := 608) (by decide +kernel))) rfl
theorem wm_1049 : Cond.code yX11_share cX11_share 4 (some .int) ∈ ml_TB := ml_inTB (List.mem_append_right _ (List.mem_of_getElem? (i := 1364) (by decide +kernel))) rfl
theorem wm_1050 : Cond.instanceMethod ⟨"LostRoomModel", "share", "(I)I"⟩ ∈ ml_TB := ml_inTB (List.mem_append_right _ (List.mem_of_getElem? (i := 1362) (by decide +kernel))) rfl
theorem wm_1051 : Cond.selects "LostRoomModel" ⟨"LostRoomModel", "share", "(I)I"⟩ ⟨"LostRoomModel", "share", "(I)I"⟩ ∈ ml_TB := ml_inTB (List.mem_append_right _ (List.mem_of_getElem? (i := 1363) (by decide +kernel))) rfl
theorem wm_1052 : Cond.methodLink "LostRoomLaw" 118 ⟨"LostRoomModel", "share", "(I)I"⟩ ∈ ml_TB := ml_inTB (List.mem_append_right _ (List.mem_of_getElem? (i := 1361) (by decide +kernel))) rfl
theorem wm_1053 : Cond.code yX10_ways cX10_ways 2 (some .int) ∈ ml_TB := ml_inTB (List.mem_append_right _ (List.mem_of_getElem? (i := 663) (by decide +kernel))) rfl
theorem wm_1054 : Cond.instanceMethod ⟨"LostRoom", "ways", "(I)I"⟩ ∈ ml_TB := ml_inTB (List.mem_append_right _ (List.mem_of_getElem? (i := 661) (by decide +kernel))) rfl
theorem wm_1055 : Cond.selects "LostRoom" ⟨"LostRoom", "ways", "(I)I"⟩ ⟨"LostRoom", "ways", "(I)I"⟩ ∈ ml_TB := ml_inTB (List.mem_append_right _ (List.mem_of_getElem? (i := 662) (by decide +kernel))) rfl
theorem wm_1056 : Cond.methodLink "LostRoomLaw" 119 ⟨"LostRoom", "ways", "(I)I"⟩ ∈ ml_TB := ml_inTB (List.mem_append_right _ (List.mem_of_getElem? (i := 660) (by decide +kernel))) rfl
theorem wm_1057 : Cond.code yX11_ways cX11_ways 2 (some .int) ∈ ml_TB := ml_inTB (List.mem_append_right _ (List.mem_of_getElem? (i := 1396) (by decide +kernel))) rfl
theorem wm_1058 : Cond.instanceMethod ⟨"LostRoomModel", "ways", "(I)I"⟩ ∈ ml_TB := ml_inTB (List.mem_append_right _ (List.mem_of_getElem? (i := 1394) (by decide +kernel))) rfl
theorem wm_1059 : Cond.selects "LostRoomModel" ⟨"LostRoomModel", "ways", "(I)I"⟩ ⟨"LostRoomModel", "ways", "(I)I"⟩ ∈ ml_TB := ml_inTB (List.mem_append_right _ (List.mem_of_getElem? (i := 1395) (by decide +kernel))) rfl
theorem wm_1060 : Cond.methodLink "LostRoomLaw" 122 ⟨"LostRoomModel", "ways", "(I)I"⟩ ∈ ml_TB := ml_inTB (List.mem_append_right _ (List.mem_of_getElem? (i := 1393) (by decide +kernel))) rfl
theorem wm_1061 : Cond.code yX10_whose cX10_whose 5 (some .int) ∈ ml_TB := ml_inTB (List.mem_append_right _ (List.mem_of_getElem? (i := 667) (by decide +kernel))) rfl
theorem wm_1062 : Cond.instanceMethod ⟨"LostRoom", "whose", "(II)I"⟩ ∈ ml_TB := ml_inTB (List.mem_append_right _ (List.mem_of_getElem? (i := 665) (by decide +kernel))) rfl
theorem wm_1063 : Cond.selects "LostRoom" ⟨"LostRoom", "whose", "(II)I"⟩ ⟨"LostRoom", "whose", "(II)I"⟩ ∈ ml_TB := ml_inTB (List.mem_append_right _ (List.mem_of_getElem? (i := 666) (by decide +kernel))) rfl
theorem wm_1064 : Cond.methodLink "LostRoomLaw" 123 ⟨"LostRoom", "whose", "(II)I"⟩ ∈ ml_TB := ml_inTB (List.mem_append_right _ (List.mem_of_getElem? (i := 664) (by decide +kernel))) rfl
theorem wm_1065 : Cond.code yX11_whose cX11_whose 5 (some .int) ∈ ml_TB := ml_inTB (List.mem_append_right _ (List.mem_of_getElem? (i := 1407) (by decide +kernel))) rfl
theorem wm_1066 : Cond.instanceMethod ⟨"LostRoomModel", "whose", "(II)I"⟩ ∈ ml_TB := ml_inTB (List.mem_append_right _ (List.mem_of_getElem? (i := 1405) (by decide +kernel))) rfl
theorem wm_1067 : Cond.selects "LostRoomModel" ⟨"LostRoomModel", "whose", "(II)I"⟩ ⟨"LostRoomModel", "whose", "(II)I"⟩ ∈ ml_TB := ml_inTB (List.mem_append_right _ (List.mem_of_getElem? (i := 1406) (by decide +kernel))) rfl
theorem wm_1068 : Cond.methodLink "LostRoomLaw" 126 ⟨"LostRoomModel", "whose", "(II)I"⟩ ∈ ml_TB := ml_inTB (List.mem_append_right _ (List.mem_of_getElem? (i := 1404) (by decide +kernel))) rfl
theorem wm_1069 : Cond.code yX10_sure cX10_sure 8 (some .int) ∈ ml_TB := ml_inTB (List.mem_append_right _ (List.mem_of_getElem? (i := 675) (by decide +kernel))) rfl
theorem wm_1070 : Cond.instanceMethod ⟨"LostRoom", "sure", "(I)I"⟩ ∈ ml_TB := ml_inTB (List.mem_append_right _ (List.mem_of_getElem? (i := 673) (by decide +kernel))) rfl
theorem wm_1071 : Cond.selects "LostRoom" ⟨"LostRoom", "sure", "(I)I"⟩ ⟨"LostRoom", "sure", "(I)I"⟩ ∈ ml_TB := ml_inTB (List.mem_append_right _ (List.mem_of_getElem? (i := 674) (by decide +kernel))) rfl
theorem wm_1072 : Cond.methodLink "LostRoomLaw" 127 ⟨"LostRoom", "sure", "(I)I"⟩ ∈ ml_TB := ml_inTB (List.mem_append_right _ (List.mem_of_getElem? (i := 672) (by decide +kernel))) rfl
theorem wm_1073 : Cond.code yX11_sure cX11_sure 2 (some .int) ∈ ml_TB := ml_inTB (List.mem_append_right _ (List.mem_of_getElem? (i := 1411) (by decide +kernel))) rfl
theorem wm_1074 : Cond.instanceMethod ⟨"LostRoomModel", "sure", "(I)I"⟩ ∈ ml_TB := ml_inTB (List.mem_append_right _ (List.mem_of_getElem? (i := 1409) (by decide +kernel))) rfl
theorem wm_1075 : Cond.selects "LostRoomModel" ⟨"LostRoomModel", "sure", "(I)I"⟩ ⟨"LostRoomModel", "sure", "(I)I"⟩ ∈ ml_TB := ml_inTB (List.mem_append_right _ (List.mem_of_getElem? (i := 1410) (by decide +kernel))) rfl
theorem wm_1076 : Cond.methodLink "LostRoomLaw" 130 ⟨"LostRoomModel", "sure", "(I)I"⟩ ∈ ml_TB := ml_inTB (List.mem_append_right _ (List.mem_of_getElem? (i := 1408) (by decide +kernel))) rfl
theorem wm_1077 : Cond.code yX10_next cX10_next 7 (some .int) ∈ ml_TB := ml_inTB (List.mem_append_right _ (List.mem_of_getElem? (i := 679) (by decide +kernel))) rfl
theorem wm_1078 : Cond.instanceMethod ⟨"LostRoom", "next", "(I)I"⟩ ∈ ml_TB := ml_inTB (List.mem_append_right _ (List.mem_of_getElem? (i := 677) (by decide +kernel))) rfl
theorem wm_1079 : Cond.selects "LostRoom" ⟨"LostRoom", "next", "(I)I"⟩ ⟨"LostRoom", "next", "(I)I"⟩ ∈ ml_TB := ml_inTB (List.mem_append_right _ (List.mem_of_getElem? (i := 678) (by decide +kernel))) rfl
theorem wm_1080 : Cond.methodLink "LostRoomLaw" 131 ⟨"LostRoom", "next", "(I)I"⟩ ∈ ml_TB := ml_inTB (List.mem_append_right _ (List.mem_of_getElem? (i := 676) (by decide +kernel))) rfl
theorem wm_1081 : Cond.code yX11_next cX11_next 7 (some .int) ∈ ml_TB := ml_inTB (List.mem_append_right _ (List.mem_of_getElem? (i := 1415) (by decide +kernel))) rfl
theorem wm_1082 : Cond.instanceMethod ⟨"LostRoomModel", "next", "(I)I"⟩ ∈ ml_TB := ml_inTB (List.mem_append_right _ (List.mem_of_getElem? (i := 1413) (by decide +kernel))) rfl
theorem wm_1083 : Cond.selects "LostRoomModel" ⟨"LostRoomModel", "next", "(I)I"⟩ ⟨"LostRoomModel", "next", "(I)I"⟩ ∈ ml_TB := ml_inTB (List.mem_append_right _ (List.mem_of_getElem? (i := 1414) (by decide +kernel))) rfl
theorem wm_1084 : Cond.methodLink "LostRoomLaw" 134 ⟨"LostRoomModel", "next", "(I)I"⟩ ∈ ml_TB := ml_inTB (List.mem_append_right _ (List.mem_of_getElem? (i := 1412) (by decide +kernel))) rfl
theorem wm_1085 : Cond.code yX10_moves cX10_moves 8 (some .int) ∈ ml_TB := ml_inTB (List.mem_append_right _ (List.mem_of_getElem? (i := 683) (by decide +kernel))) rfl
theorem wm_1086 : Cond.instanceMethod ⟨"LostRoom", "moves", "(II)I"⟩ ∈ ml_TB := ml_inTB (List.mem_append_right _ (List.mem_of_getElem? (i := 681) (by decide +kernel))) rfl
theorem wm_1087 : Cond.selects "LostRoom" ⟨"LostRoom", "moves", "(II)I"⟩ ⟨"LostRoom", "moves", "(II)I"⟩ ∈ ml_TB := ml_inTB (List.mem_append_right _ (List.mem_of_getElem? (i := 682) (by decide +kernel))) rfl
theorem wm_1088 : Cond.methodLink "LostRoomLaw" 135 ⟨"LostRoom", "moves", "(II)I"⟩ ∈ ml_TB := ml_inTB (List.mem_append_right _ (List.mem_of_getElem? (i := 680) (by decide +kernel))) rfl
theorem wm_1089 : Cond.code yX11_moves cX11_moves 7 (some .int) ∈ ml_TB := ml_inTB (List.mem_append_right _ (List.mem_of_getElem? (i := 1419) (by decide +kernel))) rfl
theorem wm_1090 : Cond.instanceMethod ⟨"LostRoomModel", "moves", "(II)I"⟩ ∈ ml_TB := ml_inTB (List.mem_append_right _ (List.mem_of_getElem? (i := 1417) (by decide +kernel))) rfl
theorem wm_1091 : Cond.selects "LostRoomModel" ⟨"LostRoomModel", "moves", "(II)I"⟩ ⟨"LostRoomModel", "moves", "(II)I"⟩ ∈ ml_TB := ml_inTB (List.mem_append_right _ (List.mem_of_getElem? (i := 1418) (by decide +kernel))) rfl
theorem wm_1092 : Cond.methodLink "LostRoomLaw" 138 ⟨"LostRoomModel", "moves", "(II)I"⟩ ∈ ml_TB := ml_inTB (List.mem_append_right _ (List.mem_of_getElem? (i := 1416) (by decide +kernel))) rfl
theorem wm_1093 : Cond.code yX10_line cX10_line 4 (some .int) ∈ ml_TB := ml_inTB (List.mem_append_right _ (List.mem_of_getElem? (i := 696) (by decide +kernel))) rfl
theorem wm_1094 : Cond.instanceMethod ⟨"LostRoom", "line", "(III)I"⟩ ∈ ml_TB := ml_inTB (List.mem_append_right _ (List.mem_of_getElem? (i := 694) (by decide +kernel))) rfl
theorem wm_1095 : Cond.selects "LostRoom" ⟨"LostRoom", "line", "(III)I"⟩ ⟨"LostRoom", "line", "(III)I"⟩ ∈ ml_TB := ml_inTB (List.mem_append_right _ (List.mem_of_getElem? (i := 695) (by decide +kernel))) rfl
theorem wm_1096 : Cond.methodLink "LostRoomLaw" 139 ⟨"LostRoom", "line", "(III)I"⟩ ∈ ml_TB := ml_inTB (List.mem_append_right _ (List.mem_of_getElem? (i := 693) (by decide +kernel))) rfl
theorem wm_1097 : Cond.code yX11_line cX11_line 4 (some .int) ∈ ml_TB := ml_inTB (List.mem_append_right _ (List.mem_of_getElem? (i := 1423) (by decide +kernel))) rfl
theorem wm_1098 : Cond.instanceMethod ⟨"LostRoomModel", "line", "(III)I"⟩ ∈ ml_TB := ml_inTB (List.mem_append_right _ (List.mem_of_getElem? (i := 1421) (by decide +kernel))) rfl
theorem wm_1099 : Cond.selects "LostRoomModel" ⟨"LostRoomModel", "line", "(III)I"⟩ ⟨"LostRoomModel", "line", "(III)I"⟩ ∈ ml_TB := ml_inTB (List.mem_append_right _ (List.mem_of_getElem? (i := 1422) (by decide +kernel))) rfl
theorem wm_1100 : Cond.methodLink "LostRoomLaw" 142 ⟨"LostRoomModel", "line", "(III)I"⟩ ∈ ml_TB := ml_inTB (List.mem_append_right _ (List.mem_of_getElem? (i := 1420) (by decide +kernel))) rfl
theorem wm_1101 : Cond.code yX10_readings cX10_readings 1 (some .int) ∈ ml_TB := ml_inTB (List.mem_append_right _ (List.mem_of_getElem? (i := 718) (by decide +kernel))) rfl
theorem wm_1102 : Cond.instanceMethod ⟨"LostRoom", "readings", "()I"⟩ ∈ ml_TB := ml_inTB (List.mem_append_right _ (List.mem_of_getElem? (i := 716) (by decide +kernel))) rfl
theorem wm_1103 : Cond.selects "LostRoom" ⟨"LostRoom", "readings", "()I"⟩ ⟨"LostRoom", "readings", "()I"⟩ ∈ ml_TB := ml_inTB (List.mem_append_right _ (List.mem_of_getElem? (i := 717) (by decide +kernel))) rfl
theorem wm_1104 : Cond.methodLink "LostRoomLaw" 143 ⟨"LostRoom", "readings", "()I"⟩ ∈ ml_TB := ml_inTB (List.mem_append_right _ (List.mem_of_getElem? (i := 715) (by decide +kernel))) rfl
theorem wm_1105 : Cond.code yX11_readings cX11_readings 1 (some .int) ∈ ml_TB := ml_inTB (List.mem_append_right _ (List.mem_of_getElem? (i := 1427) (by decide +kernel))) rfl
theorem wm_1106 : Cond.instanceMethod ⟨"LostRoomModel", "readings", "()I"⟩ ∈ ml_TB := ml_inTB (List.mem_append_right _ (List.mem_of_getElem? (i := 1425) (by decide +kernel))) rfl
theorem wm_1107 : Cond.selects "LostRoomModel" ⟨"LostRoomModel", "readings", "()I"⟩ ⟨"LostRoomModel", "readings", "()I"⟩ ∈ ml_TB := ml_inTB (List.mem_append_right _ (List.mem_of_getElem? (i := 1426) (by decide +kernel))) rfl
theorem wm_1108 : Cond.methodLink "LostRoomLaw" 146 ⟨"LostRoomModel", "readings", "()I"⟩ ∈ ml_TB := ml_inTB (List.mem_append_right _ (List.mem_of_getElem? (i := 1424) (by decide +kernel))) rfl
theorem wm_1109 : Cond.code yX10_lineOf cX10_lineOf 7 (some .int) ∈ ml_TB := ml_inTB (List.mem_append_right _ (List.mem_of_getElem? (i := 735) (by decide +kernel))) rfl
theorem wm_1110 : Cond.instanceMethod ⟨"LostRoom", "lineOf", "(I)I"⟩ ∈ ml_TB := ml_inTB (List.mem_append_right _ (List.mem_of_getElem? (i := 733) (by decide +kernel))) rfl
theorem wm_1111 : Cond.selects "LostRoom" ⟨"LostRoom", "lineOf", "(I)I"⟩ ⟨"LostRoom", "lineOf", "(I)I"⟩ ∈ ml_TB := ml_inTB (List.mem_append_right _ (List.mem_of_getElem? (i := 734) (by decide +kernel))) rfl
theorem wm_1112 : Cond.methodLink "LostRoomLaw" 147 ⟨"LostRoom", "lineOf", "(I)I"⟩ ∈ ml_TB := ml_inTB (List.mem_append_right _ (List.mem_of_getElem? (i := 732) (by decide +kernel))) rfl
theorem wm_1113 : Cond.code yX11_lineOf cX11_lineOf 4 (some .int) ∈ ml_TB := ml_inTB (List.mem_append_right _ (List.mem_of_getElem? (i := 1439) (by decide +kernel))) rfl
theorem wm_1114 : Cond.instanceMethod ⟨"LostRoomModel", "lineOf", "(I)I"⟩ ∈ ml_TB := ml_inTB (List.mem_append_right _ (List.mem_of_getElem? (i := 1437) (by decide +kernel))) rfl
theorem wm_1115 : Cond.selects "LostRoomModel" ⟨"LostRoomModel", "lineOf", "(I)I"⟩ ⟨"LostRoomModel", "lineOf", "(I)I"⟩ ∈ ml_TB := ml_inTB (List.mem_append_right _ (List.mem_of_getElem? (i := 1438) (by decide +kernel))) rfl
theorem wm_1116 : Cond.methodLink "LostRoomLaw" 150 ⟨"LostRoomModel", "lineOf", "(I)I"⟩ ∈ ml_TB := ml_inTB (List.mem_append_right _ (List.mem_of_getElem? (i := 1436) (by decide +kernel))) rfl
theorem wm_1117 : Cond.code yX10_bit cX10_bit 5 (some .int) ∈ ml_TB := ml_inTB (List.mem_append_right _ (List.mem_of_getElem? (i := 739) (by decide +kernel))) rfl
theorem wm_1118 : Cond.instanceMethod ⟨"LostRoom", "bit", "(IIII)I"⟩ ∈ ml_TB := ml_inTB (List.mem_append_right _ (List.mem_of_getElem? (i := 737) (by decide +kernel))) rfl
theorem wm_1119 : Cond.selects "LostRoom" ⟨"LostRoom", "bit", "(IIII)I"⟩ ⟨"LostRoom", "bit", "(IIII)I"⟩ ∈ ml_TB := ml_inTB (List.mem_append_right _ (List.mem_of_getElem? (i := 738) (by decide +kernel))) rfl
theorem wm_1120 : Cond.methodLink "LostRoomLaw" 151 ⟨"LostRoom", "bit", "(IIII)I"⟩ ∈ ml_TB := ml_inTB (List.mem_append_right _ (List.mem_of_getElem? (i := 736) (by decide +kernel))) rfl
theorem wm_1121 : Cond.code yX11_bit cX11_bit 5 (some .int) ∈ ml_TB := ml_inTB (List.mem_append_right _ (List.mem_of_getElem? (i := 1443) (by decide +kernel))) rfl
theorem wm_1122 : Cond.instanceMethod ⟨"LostRoomModel", "bit", "(IIII)I"⟩ ∈ ml_TB := ml_inTB (List.mem_append_right _ (List.mem_of_getElem? (i := 1441) (by decide +kernel))) rfl
theorem wm_1123 : Cond.selects "LostRoomModel" ⟨"LostRoomModel", "bit", "(IIII)I"⟩ ⟨"LostRoomModel", "bit", "(IIII)I"⟩ ∈ ml_TB := ml_inTB (List.mem_append_right _ (List.mem_of_getElem? (i := 1442) (by decide +kernel))) rfl
theorem wm_1124 : Cond.methodLink "LostRoomLaw" 155 ⟨"LostRoomModel", "bit", "(IIII)I"⟩ ∈ ml_TB := ml_inTB (List.mem_append_right _ (List.mem_of_getElem? (i := 1440) (by decide +kernel))) rfl
theorem wm_1125 : Cond.code yX10_joins cX10_joins 3 (some .int) ∈ ml_TB := ml_inTB (List.mem_append_right _ (List.mem_of_getElem? (i := 765) (by decide +kernel))) rfl
theorem wm_1126 : Cond.instanceMethod ⟨"LostRoom", "joins", "(II)I"⟩ ∈ ml_TB := ml_inTB (List.mem_append_right _ (List.mem_of_getElem? (i := 763) (by decide +kernel))) rfl
theorem wm_1127 : Cond.selects "LostRoom" ⟨"LostRoom", "joins", "(II)I"⟩ ⟨"LostRoom", "joins", "(II)I"⟩ ∈ ml_TB := ml_inTB (List.mem_append_right _ (List.mem_of_getElem? (i := 764) (by decide +kernel))) rfl
theorem wm_1128 : Cond.methodLink "LostRoomLaw" 156 ⟨"LostRoom", "joins", "(II)I"⟩ ∈ ml_TB := ml_inTB (List.mem_append_right _ (List.mem_of_getElem? (i := 762) (by decide +kernel))) rfl
theorem wm_1129 : Cond.code yX11_joins cX11_joins 3 (some .int) ∈ ml_TB := ml_inTB (List.mem_append_right _ (List.mem_of_getElem? (i := 1447) (by decide +kernel))) rfl
theorem wm_1130 : Cond.instanceMethod ⟨"LostRoomModel", "joins", "(II)I"⟩ ∈ ml_TB := ml_inTB (List.mem_append_right _ (List.mem_of_getElem? (i := 1445) (by decide +kernel))) rfl
theorem wm_1131 : Cond.selects "LostRoomModel" ⟨"LostRoomModel", "joins", "(II)I"⟩ ⟨"LostRoomModel", "joins", "(II)I"⟩ ∈ ml_TB := ml_inTB (List.mem_append_right _ (List.mem_of_getElem? (i := 1446) (by decide +kernel))) rfl
theorem wm_1132 : Cond.methodLink "LostRoomLaw" 159 ⟨"LostRoomModel", "joins", "(II)I"⟩ ∈ ml_TB := ml_inTB (List.mem_append_right _ (List.mem_of_getElem? (i := 1444) (by decide +kernel))) rfl
theorem wm_1133 : Cond.code yX10_sheets cX10_sheets 2 (some .int) ∈ ml_TB := ml_inTB (List.mem_append_right _ (List.mem_of_getElem? (i := 773) (by decide +kernel))) rfl
theorem wm_1134 : Cond.instanceMethod ⟨"LostRoom", "sheets", "(I)I"⟩ ∈ ml_TB := ml_inTB (List.mem_append_right _ (List.mem_of_getElem? (i := 771) (by decide +kernel))) rfl
theorem wm_1135 : Cond.selects "LostRoom" ⟨"LostRoom", "sheets", "(I)I"⟩ ⟨"LostRoom", "sheets", "(I)I"⟩ ∈ ml_TB := ml_inTB (List.mem_append_right _ (List.mem_of_getElem? (i := 772) (by decide +kernel))) rfl
theorem wm_1136 : Cond.methodLink "LostRoomLaw" 160 ⟨"LostRoom", "sheets", "(I)I"⟩ ∈ ml_TB := ml_inTB (List.mem_append_right _ (List.mem_of_getElem? (i := 770) (by decide +kernel))) rfl
theorem wm_1137 : Cond.code yX11_sheets cX11_sheets 8 (some .int) ∈ ml_TB := ml_inTB (List.mem_append_right _ (List.mem_of_getElem? (i := 1455) (by decide +kernel))) rfl
theorem wm_1138 : Cond.instanceMethod ⟨"LostRoomModel", "sheets", "(I)I"⟩ ∈ ml_TB := ml_inTB (List.mem_append_right _ (List.mem_of_getElem? (i := 1453) (by decide +kernel))) rfl
theorem wm_1139 : Cond.selects "LostRoomModel" ⟨"LostRoomModel", "sheets", "(I)I"⟩ ⟨"LostRoomModel", "sheets", "(I)I"⟩ ∈ ml_TB := ml_inTB (List.mem_append_right _ (List.mem_of_getElem? (i := 1454) (by decide +kernel))) rfl
theorem wm_1140 : Cond.methodLink "LostRoomLaw" 163 ⟨"LostRoomModel", "sheets", "(I)I"⟩ ∈ ml_TB := ml_inTB (List.mem_append_right _ (List.mem_of_getElem? (i := 1452) (by decide +kernel))) rfl
theorem wm_1141 : Cond.code yX10_laid cX10_laid 1 (some .int) ∈ ml_TB := ml_inTB (List.mem_append_right _ (List.mem_of_getElem? (i := 802) (by decide +kernel))) rfl
theorem wm_1142 : Cond.instanceMethod ⟨"LostRoom", "laid", "()I"⟩ ∈ ml_TB := ml_inTB (List.mem_append_right _ (List.mem_of_getElem? (i := 800) (by decide +kernel))) rfl
theorem wm_1143 : Cond.selects "LostRoom" ⟨"LostRoom", "laid", "()I"⟩ ⟨"LostRoom", "laid", "()I"⟩ ∈ ml_TB := ml_inTB (List.mem_append_right _ (List.mem_of_getElem? (i := 801) (by decide +kernel))) rfl
theorem wm_1144 : Cond.methodLink "LostRoomLaw" 164 ⟨"LostRoom", "laid", "()I"⟩ ∈ ml_TB := ml_inTB (List.mem_append_right _ (List.mem_of_getElem? (i := 799) (by decide +kernel))) rfl
theorem wm_1145 : Cond.code yX11_laid cX11_laid 5 (some .int) ∈ ml_TB := ml_inTB (List.mem_append_right _ (List.mem_of_getElem? (i := 1475) (by decide +kernel))) rfl
theorem wm_1146 : Cond.instanceMethod ⟨"LostRoomModel", "laid", "()I"⟩ ∈ ml_TB := ml_inTB (List.mem_append_right _ (List.mem_of_getElem? (i := 1473) (by decide +kernel))) rfl
theorem wm_1147 : Cond.selects "LostRoomModel" ⟨"LostRoomModel", "laid", "()I"⟩ ⟨"LostRoomModel", "laid", "()I"⟩ ∈ ml_TB := ml_inTB (List.mem_append_right _ (List.mem_of_getElem? (i := 1474) (by decide +kernel))) rfl
theorem wm_1148 : Cond.methodLink "LostRoomLaw" 167 ⟨"LostRoomModel", "laid", "()I"⟩ ∈ ml_TB := ml_inTB (List.mem_append_right _ (List.mem_of_getElem? (i := 1472) (by decide +kernel))) rfl
theorem wm_1149 : Cond.code yX10_travellers cX10_travellers 2 (some .int) ∈ ml_TB := ml_inTB (List.mem_append_right _ (List.mem_of_getElem? (i := 806) (by decide +kernel))) rfl
theorem wm_1150 : Cond.instanceMethod ⟨"LostRoom", "travellers", "()I"⟩ ∈ ml_TB := ml_inTB (List.mem_append_right _ (List.mem_of_getElem? (i := 804) (by decide +kernel))) rfl
theorem wm_1151 : Cond.selects "LostRoom" ⟨"LostRoom", "travellers", "()I"⟩ ⟨"LostRoom", "travellers", "()I"⟩ ∈ ml_TB := ml_inTB (List.mem_append_right _ (List.mem_of_getElem? (i := 805) (by decide +kernel))) rfl
theorem wm_1152 : Cond.methodLink "LostRoomLaw" 168 ⟨"LostRoom", "travellers", "()I"⟩ ∈ ml_TB := ml_inTB (List.mem_append_right _ (List.mem_of_getElem? (i := 803) (by decide +kernel))) rfl
theorem wm_1153 : Cond.code yX11_travellers cX11_travellers 4 (some .int) ∈ ml_TB := ml_inTB (List.mem_append_right _ (List.mem_of_getElem? (i := 1479) (by decide +kernel))) rfl
theorem wm_1154 : Cond.instanceMethod ⟨"LostRoomModel", "travellers", "()I"⟩ ∈ ml_TB := ml_inTB (List.mem_append_right _ (List.mem_of_getElem? (i := 1477) (by decide +kernel))) rfl
theorem wm_1155 : Cond.selects "LostRoomModel" ⟨"LostRoomModel", "travellers", "()I"⟩ ⟨"LostRoomModel", "travellers", "()I"⟩ ∈ ml_TB := ml_inTB (List.mem_append_right _ (List.mem_of_getElem? (i := 1478) (by decide +kernel))) rfl
theorem wm_1156 : Cond.methodLink "LostRoomLaw" 171 ⟨"LostRoomModel", "travellers", "()I"⟩ ∈ ml_TB := ml_inTB (List.mem_append_right _ (List.mem_of_getElem? (i := 1476) (by decide +kernel))) rfl
theorem wm_1157 : Cond.code yX10_journey cX10_journey 3 (some .int) ∈ ml_TB := ml_inTB (List.mem_append_right _ (List.mem_of_getElem? (i := 833) (by decide +kernel))) rfl
theorem wm_1158 : Cond.instanceMethod ⟨"LostRoom", "journey", "(I)I"⟩ ∈ ml_TB := ml_inTB (List.mem_append_right _ (List.mem_of_getElem? (i := 831) (by decide +kernel))) rfl
theorem wm_1159 : Cond.selects "LostRoom" ⟨"LostRoom", "journey", "(I)I"⟩ ⟨"LostRoom", "journey", "(I)I"⟩ ∈ ml_TB := ml_inTB (List.mem_append_right _ (List.mem_of_getElem? (i := 832) (by decide +kernel))) rfl
theorem wm_1160 : Cond.methodLink "LostRoomLaw" 172 ⟨"LostRoom", "journey", "(I)I"⟩ ∈ ml_TB := ml_inTB (List.mem_append_right _ (List.mem_of_getElem? (i := 830) (by decide +kernel))) rfl
theorem wm_1161 : Cond.code yX11_journey cX11_journey 2 (some .int) ∈ ml_TB := ml_inTB (List.mem_append_right _ (List.mem_of_getElem? (i := 1495) (by decide +kernel))) rfl
theorem wm_1162 : Cond.instanceMethod ⟨"LostRoomModel", "journey", "(I)I"⟩ ∈ ml_TB := ml_inTB (List.mem_append_right _ (List.mem_of_getElem? (i := 1493) (by decide +kernel))) rfl
theorem wm_1163 : Cond.selects "LostRoomModel" ⟨"LostRoomModel", "journey", "(I)I"⟩ ⟨"LostRoomModel", "journey", "(I)I"⟩ ∈ ml_TB := ml_inTB (List.mem_append_right _ (List.mem_of_getElem? (i := 1494) (by decide +kernel))) rfl
theorem wm_1164 : Cond.methodLink "LostRoomLaw" 175 ⟨"LostRoomModel", "journey", "(I)I"⟩ ∈ ml_TB := ml_inTB (List.mem_append_right _ (List.mem_of_getElem? (i := 1492) (by decide +kernel))) rfl
theorem wm_1165 : Cond.code yX10_claim cX10_claim 6 (some .int) ∈ ml_TB := ml_inTB (List.mem_append_right _ (List.mem_of_getElem? (i := 841) (by decide +kernel))) rfl
theorem wm_1166 : Cond.instanceMethod ⟨"LostRoom", "claim", "(III)I"⟩ ∈ ml_TB := ml_inTB (List.mem_append_right _ (List.mem_of_getElem? (i := 839) (by decide +kernel))) rfl
theorem wm_1167 : Cond.selects "LostRoom" ⟨"LostRoom", "claim", "(III)I"⟩ ⟨"LostRoom", "claim", "(III)I"⟩ ∈ ml_TB := ml_inTB (List.mem_append_right _ (List.mem_of_getElem? (i := 840) (by decide +kernel))) rfl
theorem wm_1168 : Cond.methodLink "LostRoomLaw" 176 ⟨"LostRoom", "claim", "(III)I"⟩ ∈ ml_TB := ml_inTB (List.mem_append_right _ (List.mem_of_getElem? (i := 838) (by decide +kernel))) rfl
theorem wm_1169 : Cond.code yX11_claim cX11_claim 7 (some .int) ∈ ml_TB := ml_inTB (List.mem_append_right _ (List.mem_of_getElem? (i := 1499) (by decide +kernel))) rfl
theorem wm_1170 : Cond.instanceMethod ⟨"LostRoomModel", "claim", "(III)I"⟩ ∈ ml_TB := ml_inTB (List.mem_append_right _ (List.mem_of_getElem? (i := 1497) (by decide +kernel))) rfl
theorem wm_1171 : Cond.selects "LostRoomModel" ⟨"LostRoomModel", "claim", "(III)I"⟩ ⟨"LostRoomModel", "claim", "(III)I"⟩ ∈ ml_TB := ml_inTB (List.mem_append_right _ (List.mem_of_getElem? (i := 1498) (by decide +kernel))) rfl
theorem wm_1172 : Cond.methodLink "LostRoomLaw" 179 ⟨"LostRoomModel", "claim", "(III)I"⟩ ∈ ml_TB := ml_inTB (List.mem_append_right _ (List.mem_of_getElem? (i := 1496) (by decide +kernel))) rfl
theorem wm_1173 : Cond.code yX10_judge cX10_judge 2 (some .int) ∈ ml_TB := ml_inTB (List.mem_append_right _ (List.mem_of_getElem? (i := 864) (by decide +kernel))) rfl
theorem wm_1174 : Cond.instanceMethod ⟨"LostRoom", "judge", "(I)I"⟩ ∈ ml_TB := ml_inTB (List.mem_append_right _ (List.mem_of_getElem? (i := 862) (by decide +kernel))) rfl
theorem wm_1175 : Cond.selects "LostRoom" ⟨"LostRoom", "judge", "(I)I"⟩ ⟨"LostRoom", "judge", "(I)I"⟩ ∈ ml_TB := ml_inTB (List.mem_append_right _ (List.mem_of_getElem? (i := 863) (by decide +kernel))) rfl
theorem wm_1176 : Cond.methodLink "LostRoomLaw" 180 ⟨"LostRoom", "judge", "(I)I"⟩ ∈ ml_TB := ml_inTB (List.mem_append_right _ (List.mem_of_getElem? (i := 861) (by decide +kernel))) rfl
theorem wm_1177 : Cond.code yX11_judge cX11_judge 2 (some .int) ∈ ml_TB := ml_inTB (List.mem_append_right _ (List.mem_of_getElem? (i := 1503) (by decide +kernel))) rfl
theorem wm_1178 : Cond.instanceMethod ⟨"LostRoomModel", "judge", "(I)I"⟩ ∈ ml_TB := ml_inTB (List.mem_append_right _ (List.mem_of_getElem? (i := 1501) (by decide +kernel))) rfl
theorem wm_1179 : Cond.selects "LostRoomModel" ⟨"LostRoomModel", "judge", "(I)I"⟩ ⟨"LostRoomModel", "judge", "(I)I"⟩ ∈ ml_TB := ml_inTB (List.mem_append_right _ (List.mem_of_getElem? (i := 1502) (by decide +kernel))) rfl
theorem wm_1180 : Cond.methodLink "LostRoomLaw" 183 ⟨"LostRoomModel", "judge", "(I)I"⟩ ∈ ml_TB := ml_inTB (List.mem_append_right _ (List.mem_of_getElem? (i := 1500) (by decide +kernel))) rfl
theorem wm_1181 : Cond.code yX10_heir cX10_heir 8 (some .int) ∈ ml_TB := ml_inTB (List.mem_append_right _ (List.mem_of_getElem? (i := 876) (by decide +kernel))) rfl
theorem wm_1182 : Cond.instanceMethod ⟨"LostRoom", "heir", "(II)I"⟩ ∈ ml_TB := ml_inTB (List.mem_append_right _ (List.mem_of_getElem? (i := 874) (by decide +kernel))) rfl
theorem wm_1183 : Cond.selects "LostRoom" ⟨"LostRoom", "heir", "(II)I"⟩ ⟨"LostRoom", "heir", "(II)I"⟩ ∈ ml_TB := ml_inTB (List.mem_append_right _ (List.mem_of_getElem? (i := 875) (by decide +kernel))) rfl
theorem wm_1184 : Cond.methodLink "LostRoomLaw" 184 ⟨"LostRoom", "heir", "(II)I"⟩ ∈ ml_TB := ml_inTB (List.mem_append_right _ (List.mem_of_getElem? (i := 873) (by decide +kernel))) rfl
theorem wm_1185 : Cond.code yX11_heir cX11_heir 8 (some .int) ∈ ml_TB := ml_inTB (List.mem_append_right _ (List.mem_of_getElem? (i := 1511) (by decide +kernel))) rfl
theorem wm_1186 : Cond.instanceMethod ⟨"LostRoomModel", "heir", "(II)I"⟩ ∈ ml_TB := ml_inTB (List.mem_append_right _ (List.mem_of_getElem? (i := 1509) (by decide +kernel))) rfl
theorem wm_1187 : Cond.selects "LostRoomModel" ⟨"LostRoomModel", "heir", "(II)I"⟩ ⟨"LostRoomModel", "heir", "(II)I"⟩ ∈ ml_TB := ml_inTB (List.mem_append_right _ (List.mem_of_getElem? (i := 1510) (by decide +kernel))) rfl
theorem wm_1188 : Cond.methodLink "LostRoomLaw" 187 ⟨"LostRoomModel", "heir", "(II)I"⟩ ∈ ml_TB := ml_inTB (List.mem_append_right _ (List.mem_of_getElem? (i := 1508) (by decide +kernel))) rfl
theorem wm_1189 : Cond.code yX10_asked cX10_asked 1 (some .int) ∈ ml_TB := ml_inTB (List.mem_append_right _ (List.mem_of_getElem? (i := 880) (by decide +kernel))) rfl
theorem wm_1190 : Cond.instanceMethod ⟨"LostRoom", "asked", "()I"⟩ ∈ ml_TB := ml_inTB (List.mem_append_right _ (List.mem_of_getElem? (i := 878) (by decide +kernel))) rfl
theorem wm_1191 : Cond.selects "LostRoom" ⟨"LostRoom", "asked", "()I"⟩ ⟨"LostRoom", "asked", "()I"⟩ ∈ ml_TB := ml_inTB (List.mem_append_right _ (List.mem_of_getElem? (i := 879) (by decide +kernel))) rfl
theorem wm_1192 : Cond.methodLink "LostRoomLaw" 188 ⟨"LostRoom", "asked", "()I"⟩ ∈ ml_TB := ml_inTB (List.mem_append_right _ (List.mem_of_getElem? (i := 877) (by decide +kernel))) rfl
theorem wm_1193 : Cond.code yX11_asked cX11_asked 1 (some .int) ∈ ml_TB := ml_inTB (List.mem_append_right _ (List.mem_of_getElem? (i := 1103) (by decide +kernel))) rfl
theorem wm_1194 : Cond.instanceMethod ⟨"LostRoomModel", "asked", "()I"⟩ ∈ ml_TB := ml_inTB (List.mem_append_right _ (List.mem_of_getElem? (i := 1101) (by decide +kernel))) rfl
theorem wm_1195 : Cond.selects "LostRoomModel" ⟨"LostRoomModel", "asked", "()I"⟩ ⟨"LostRoomModel", "asked", "()I"⟩ ∈ ml_TB := ml_inTB (List.mem_append_right _ (List.mem_of_getElem? (i := 1102) (by decide +kernel))) rfl
theorem wm_1196 : Cond.methodLink "LostRoomLaw" 191 ⟨"LostRoomModel", "asked", "()I"⟩ ∈ ml_TB := ml_inTB (List.mem_append_right _ (List.mem_of_getElem? (i := 1100) (by decide +kernel))) rfl
theorem wm_1197 : Cond.code yX10_many cX10_many 1 (some .long) ∈ ml_TB := ml_inTB (List.mem_append_right _ (List.mem_of_getElem? (i := 884) (by decide +kernel))) rfl
theorem wm_1198 : Cond.instanceMethod ⟨"LostRoom", "many", "()J"⟩ ∈ ml_TB := ml_inTB (List.mem_append_right _ (List.mem_of_getElem? (i := 882) (by decide +kernel))) rfl
theorem wm_1199 : Cond.selects "LostRoom" ⟨"LostRoom", "many", "()J"⟩ ⟨"LostRoom", "many", "()J"⟩ ∈ ml_TB := ml_inTB (List.mem_append_right _ (List.mem_of_getElem? (i := 883) (by decide +kernel))) rfl
theorem wm_1200 : Cond.methodLink "LostRoomLaw" 192 ⟨"LostRoom", "many", "()J"⟩ ∈ ml_TB := ml_inTB (List.mem_append_right _ (List.mem_of_getElem? (i := 881) (by decide +kernel))) rfl
theorem wm_1201 : Cond.code yX11_many cX11_many 1 (some .long) ∈ ml_TB := ml_inTB (List.mem_append_right _ (List.mem_of_getElem? (i := 1107) (by decide +kernel))) rfl
theorem wm_1202 : Cond.instanceMethod ⟨"LostRoomModel", "many", "()J"⟩ ∈ ml_TB := ml_inTB (List.mem_append_right _ (List.mem_of_getElem? (i := 1105) (by decide +kernel))) rfl
theorem wm_1203 : Cond.selects "LostRoomModel" ⟨"LostRoomModel", "many", "()J"⟩ ⟨"LostRoomModel", "many", "()J"⟩ ∈ ml_TB := ml_inTB (List.mem_append_right _ (List.mem_of_getElem? (i := 1106) (by decide +kernel))) rfl
theorem wm_1204 : Cond.methodLink "LostRoomLaw" 196 ⟨"LostRoomModel", "many", "()J"⟩ ∈ ml_TB := ml_inTB (List.mem_append_right _ (List.mem_of_getElem? (i := 1104) (by decide +kernel))) rfl
theorem wm_1205 : Cond.methodLink "LostRoomLaw" 197 ⟨"LostRoom", "count", "(I)I"⟩ ∈ ml_TB := ml_inTB (List.mem_append_right _ (List.mem_of_getElem? (i := 885) (by decide +kernel))) rfl
theorem wm_1206 : Cond.code yX11_count cX11_count 2 (some .int) ∈ ml_TB := ml_inTB (List.mem_append_right _ (List.mem_of_getElem? (i := 1515) (by decide +kernel))) rfl
theorem wm_1207 : Cond.instanceMethod ⟨"LostRoomModel", "count", "(I)I"⟩ ∈ ml_TB := ml_inTB (List.mem_append_right _ (List.mem_of_getElem? (i := 1513) (by decide +kernel))) rfl
theorem wm_1208 : Cond.selects "LostRoomModel" ⟨"LostRoomModel", "count", "(I)I"⟩ ⟨"LostRoomModel", "count", "(I)I"⟩ ∈ ml_TB := ml_inTB (List.mem_append_right _ (List.mem_of_getElem? (i := 1514) (by decide +kernel))) rfl
theorem wm_1209 : Cond.methodLink "LostRoomLaw" 200 ⟨"LostRoomModel", "count", "(I)I"⟩ ∈ ml_TB := ml_inTB (List.mem_append_right _ (List.mem_of_getElem? (i := 1512) (by decide +kernel))) rfl
theorem wm_1210 : Cond.code yX10_finding cX10_finding 1 (some .int) ∈ ml_TB := ml_inTB (List.mem_append_right _ (List.mem_of_getElem? (i := 904) (by decide +kernel))) rfl
theorem wm_1211 : Cond.instanceMethod ⟨"LostRoom", "finding", "()I"⟩ ∈ ml_TB := ml_inTB (List.mem_append_right _ (List.mem_of_getElem? (i := 902) (by decide +kernel))) rfl
theorem wm_1212 : Cond.selects "LostRoom" ⟨"LostRoom", "finding", "()I"⟩ ⟨"LostRoom", "finding", "()I"⟩ ∈ ml_TB := ml_inTB (List.mem_append_right _ (List.mem_of_getElem? (i := 903) (by decide +kernel))) rfl
theorem wm_1213 : Cond.methodLink "LostRoomLaw" 201 ⟨"LostRoom", "finding", "()I"⟩ ∈ ml_TB := ml_inTB (List.mem_append_right _ (List.mem_of_getElem? (i := 901) (by decide +kernel))) rfl
theorem wm_1214 : Cond.code yX11_finding cX11_finding 1 (some .int) ∈ ml_TB := ml_inTB (List.mem_append_right _ (List.mem_of_getElem? (i := 1092) (by decide +kernel))) rfl
theorem wm_1215 : Cond.instanceMethod ⟨"LostRoomModel", "finding", "()I"⟩ ∈ ml_TB := ml_inTB (List.mem_append_right _ (List.mem_of_getElem? (i := 1090) (by decide +kernel))) rfl
theorem wm_1216 : Cond.selects "LostRoomModel" ⟨"LostRoomModel", "finding", "()I"⟩ ⟨"LostRoomModel", "finding", "()I"⟩ ∈ ml_TB := ml_inTB (List.mem_append_right _ (List.mem_of_getElem? (i := 1091) (by decide +kernel))) rfl
theorem wm_1217 : Cond.methodLink "LostRoomLaw" 204 ⟨"LostRoomModel", "finding", "()I"⟩ ∈ ml_TB := ml_inTB (List.mem_append_right _ (List.mem_of_getElem? (i := 1089) (by decide +kernel))) rfl
theorem wm_1218 : Cond.code yX10_findings cX10_findings 2 (some .int) ∈ ml_TB := ml_inTB (List.mem_append_right _ (List.mem_of_getElem? (i := 908) (by decide +kernel))) rfl
theorem wm_1219 : Cond.instanceMethod ⟨"LostRoom", "findings", "(I)I"⟩ ∈ ml_TB := ml_inTB (List.mem_append_right _ (List.mem_of_getElem? (i := 906) (by decide +kernel))) rfl
theorem wm_1220 : Cond.selects "LostRoom" ⟨"LostRoom", "findings", "(I)I"⟩ ⟨"LostRoom", "findings", "(I)I"⟩ ∈ ml_TB := ml_inTB (List.mem_append_right _ (List.mem_of_getElem? (i := 907) (by decide +kernel))) rfl
theorem wm_1221 : Cond.methodLink "LostRoomLaw" 205 ⟨"LostRoom", "findings", "(I)I"⟩ ∈ ml_TB := ml_inTB (List.mem_append_right _ (List.mem_of_getElem? (i := 905) (by decide +kernel))) rfl
theorem wm_1222 : Cond.code yX11_findings cX11_findings 2 (some .int) ∈ ml_TB := ml_inTB (List.mem_append_right _ (List.mem_of_getElem? (i := 1096) (by decide +kernel))) rfl
theorem wm_1223 : Cond.instanceMethod ⟨"LostRoomModel", "findings", "(I)I"⟩ ∈ ml_TB := ml_inTB (List.mem_append_right _ (List.mem_of_getElem? (i := 1094) (by decide +kernel))) rfl
theorem wm_1224 : Cond.selects "LostRoomModel" ⟨"LostRoomModel", "findings", "(I)I"⟩ ⟨"LostRoomModel", "findings", "(I)I"⟩ ∈ ml_TB := ml_inTB (List.mem_append_right _ (List.mem_of_getElem? (i := 1095) (by decide +kernel))) rfl
theorem wm_1225 : Cond.methodLink "LostRoomLaw" 208 ⟨"LostRoomModel", "findings", "(I)I"⟩ ∈ ml_TB := ml_inTB (List.mem_append_right _ (List.mem_of_getElem? (i := 1093) (by decide +kernel))) rfl
theorem wm_1226 : Cond.code yX10_digest cX10_digest 4 (some .long) ∈ ml_TB := ml_inTB (List.mem_append_right _ (List.mem_of_getElem? (i := 912) (by decide +kernel))) rfl
theorem wm_1227 : Cond.instanceMethod ⟨"LostRoom", "digest", "()J"⟩ ∈ ml_TB := ml_inTB (List.mem_append_right _ (List.mem_of_getElem? (i := 910) (by decide +kernel))) rfl
theorem wm_1228 : Cond.selects "LostRoom" ⟨"LostRoom", "digest", "()J"⟩ ⟨"LostRoom", "digest", "()J"⟩ ∈ ml_TB := ml_inTB (List.mem_append_right _ (List.mem_of_getElem? (i := 911) (by decide +kernel))) rfl
theorem wm_1229 : Cond.methodLink "LostRoomLaw" 209 ⟨"LostRoom", "digest", "()J"⟩ ∈ ml_TB := ml_inTB (List.mem_append_right _ (List.mem_of_getElem? (i := 909) (by decide +kernel))) rfl
theorem wm_1230 : Cond.code yX11_digest cX11_digest 3 (some .long) ∈ ml_TB := ml_inTB (List.mem_append_right _ (List.mem_of_getElem? (i := 1523) (by decide +kernel))) rfl
theorem wm_1231 : Cond.instanceMethod ⟨"LostRoomModel", "digest", "()J"⟩ ∈ ml_TB := ml_inTB (List.mem_append_right _ (List.mem_of_getElem? (i := 1521) (by decide +kernel))) rfl
theorem wm_1232 : Cond.selects "LostRoomModel" ⟨"LostRoomModel", "digest", "()J"⟩ ⟨"LostRoomModel", "digest", "()J"⟩ ∈ ml_TB := ml_inTB (List.mem_append_right _ (List.mem_of_getElem? (i := 1522) (by decide +kernel))) rfl
theorem wm_1233 : Cond.methodLink "LostRoomLaw" 212 ⟨"LostRoomModel", "digest", "()J"⟩ ∈ ml_TB := ml_inTB (List.mem_append_right _ (List.mem_of_getElem? (i := 1520) (by decide +kernel))) rfl
theorem wm_1234 : Cond.classLink "LostRoomLaw" 7 "LostRoom" ∈ ml_TB := ml_inTB (List.mem_append_right _ (List.mem_of_getElem? (i := 17) (by decide +kernel))) rfl
theorem wm_1235 : Cond.instantiable "LostRoom" 19 ∈ ml_TB := ml_inTB (List.mem_append_right _ (List.mem_of_getElem? (i := 18) (by decide +kernel))) rfl
theorem wm_1236 : Cond.code yX10_init cX10_init 1 none ∈ ml_TB := ml_inTB (List.mem_append_right _ (List.mem_of_getElem? (i := 21) (by decide +kernel))) rfl
theorem wm_1237 : Cond.instanceMethod ⟨"LostRoom", "<init>", "()V"⟩ ∈ ml_TB := ml_inTB (List.mem_append_right _ (List.mem_of_getElem? (i := 20) (by decide +kernel))) rfl
theorem wm_1238 : Cond.methodLink "LostRoomLaw" 9 ⟨"LostRoom", "<init>", "()V"⟩ ∈ ml_TB := ml_inTB (List.mem_append_right _ (List.mem_of_getElem? (i := 19) (by decide +kernel))) rfl
theorem wm_1239 : Cond.classLink "LostRoomLaw" 10 "LostRoomModel" ∈ ml_TB := ml_inTB (List.mem_append_right _ (List.mem_of_getElem? (i := 935) (by decide +kernel))) rfl
theorem wm_1240 : Cond.instantiable "LostRoomModel" 49 ∈ ml_TB := ml_inTB (List.mem_append_right _ (List.mem_of_getElem? (i := 936) (by decide +kernel))) rfl
theorem wm_1241 : Cond.code yX11_init cX11_init 2 none ∈ ml_TB := ml_inTB (List.mem_append_right _ (List.mem_of_getElem? (i := 939) (by decide +kernel))) rfl
theorem wm_1242 : Cond.instanceMethod ⟨"LostRoomModel", "<init>", "()V"⟩ ∈ ml_TB := ml_inTB (List.mem_append_right _ (List.mem_of_getElem? (i := 938) (by decide +kernel))) rfl
theorem wm_1243 : Cond.methodLink "LostRoomLaw" 12 ⟨"LostRoomModel", "<init>", "()V"⟩ ∈ ml_TB := ml_inTB (List.mem_append_right _ (List.mem_of_getElem? (i := 937) (by decide +kernel))) rfl
