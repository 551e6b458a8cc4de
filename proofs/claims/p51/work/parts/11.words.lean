/-! printed by wip/p51/emit.py out of the claim's own listing -/
theorem wm_0 : Cond.constant "java/lang/Integer" 265 (1431655765 : Int32) ∈ ml_TB := ml_inTB (List.mem_append_right _ (List.mem_of_getElem? (i := 388) (by decide +kernel))) rfl
theorem wm_1 : Cond.constant "java/lang/Integer" 266 (858993459 : Int32) ∈ ml_TB := ml_inTB (List.mem_append_right _ (List.mem_of_getElem? (i := 389) (by decide +kernel))) rfl
theorem wm_2 : Cond.constant "java/lang/Integer" 267 (252645135 : Int32) ∈ ml_TB := ml_inTB (List.mem_append_right _ (List.mem_of_getElem? (i := 390) (by decide +kernel))) rfl
theorem wm_3 : Cond.arrayClass .int ∈ ml_TB := ml_inTB (List.mem_append_right _ (List.mem_of_getElem? (i := 129) (by decide +kernel))) rfl
theorem wm_4 : Cond.methodLink "java/util/Arrays" 304 ⟨"java/lang/Math", "min", "(II)I"⟩ ∈ ml_TB := ml_inTB (List.mem_append_right _ (List.mem_of_getElem? (i := 497) (by decide +kernel))) rfl
theorem wm_5 : Cond.static ⟨"java/lang/Math", "min", "(II)I"⟩ ∈ ml_TB := ml_inTB (List.mem_append_right _ (List.mem_of_getElem? (i := 427) (by decide +kernel))) rfl
theorem wm_6 : Cond.initialized "java/lang/Math" ∈ ml_TB := ml_inTB (List.mem_append_right _ (List.mem_of_getElem? (i := 10) (by decide +kernel))) rfl
theorem wm_7 : Cond.code Lib.Math.min.name Lib.Math.min.code 2 (some .int) ∈ ml_TB := ml_inTB (List.mem_append_right _ (List.mem_of_getElem? (i := 428) (by decide +kernel))) rfl
theorem wm_8 : Cond.methodLink "java/util/Arrays" 150 ⟨"java/lang/System", "arraycopy", "(Ljava/lang/Object;ILjava/lang/Object;II)V"⟩ ∈ ml_TB := ml_inTB (List.mem_append_right _ (List.mem_of_getElem? (i := 498) (by decide +kernel))) rfl
theorem wm_9 : Cond.native ⟨"java/lang/System", "arraycopy", "(Ljava/lang/Object;ILjava/lang/Object;II)V"⟩ ∈ ml_TB := ml_inTB (List.mem_append_right _ (List.mem_of_getElem? (i := 482) (by decide +kernel))) rfl
theorem wm_10 : Cond.static ⟨"java/lang/System", "arraycopy", "(Ljava/lang/Object;ILjava/lang/Object;II)V"⟩ ∈ ml_TB := ml_inTB (List.mem_append_right _ (List.mem_of_getElem? (i := 481) (by decide +kernel))) rfl
theorem wm_11 : Cond.initialized "java/lang/System" ∈ ml_TB := ml_inTB (List.mem_append_right _ (List.mem_of_getElem? (i := 11) (by decide +kernel))) rfl
theorem wm_12 : Cond.methodLink "java/util/Arrays" 316 ⟨"[I", "clone", "()Ljava/lang/Object;"⟩ ∈ ml_TB := ml_inTB (List.mem_append_right _ (List.mem_of_getElem? (i := 490) (by decide +kernel))) rfl
theorem wm_13 : Cond.sameMethod "[I" "java/lang/Object" "clone" "()Ljava/lang/Object;" ∈ ml_TB := ml_inTB (List.mem_append_right _ (List.mem_of_getElem? (i := 491) (by decide +kernel))) rfl
theorem wm_14 : Cond.native ⟨"java/lang/Object", "clone", "()Ljava/lang/Object;"⟩ ∈ ml_TB := ml_inTB (List.mem_append_right _ (List.mem_of_getElem? (i := 492) (by decide +kernel))) rfl
theorem wm_15 : Cond.instanceMethod ⟨"java/lang/Object", "clone", "()Ljava/lang/Object;"⟩ ∈ ml_TB := ml_inTB (List.mem_append_right _ (List.mem_of_getElem? (i := 493) (by decide +kernel))) rfl
theorem wm_16 : Cond.selects "[I" ⟨"[I", "clone", "()Ljava/lang/Object;"⟩ ⟨"java/lang/Object", "clone", "()Ljava/lang/Object;"⟩ ∈ ml_TB := ml_inTB (List.mem_append_right _ (List.mem_of_getElem? (i := 494) (by decide +kernel))) rfl
theorem wm_17 : Cond.classLink "java/util/Arrays" 317 "[I" ∈ ml_TB := ml_inTB (List.mem_append_right _ (List.mem_of_getElem? (i := 496) (by decide +kernel))) rfl
theorem wm_18 : Cond.code yX10_within cX10_within 3 (some .boolean) ∈ ml_TB := ml_inTB (List.mem_append_right _ (List.mem_of_getElem? (i := 259) (by decide +kernel))) rfl
theorem wm_19 : Cond.initialized "LostRoom" ∈ ml_TB := ml_inTB (List.mem_append_right _ (List.mem_of_getElem? (i := 1) (by decide +kernel))) rfl
theorem wm_20 : Cond.static ⟨"LostRoom", "within", "(III)Z"⟩ ∈ ml_TB := ml_inTB (List.mem_append_right _ (List.mem_of_getElem? (i := 258) (by decide +kernel))) rfl
theorem wm_21 : Cond.methodLink "LostRoom" 138 ⟨"LostRoom", "within", "(III)Z"⟩ ∈ ml_TB := ml_inTB (List.mem_append_right _ (List.mem_of_getElem? (i := 257) (by decide +kernel))) rfl
theorem wm_22 : Cond.fieldLink "LostRoom" 335 "LostRoom" "finding" "I" ∈ ml_TB := ml_inTB (List.mem_append_right _ (List.mem_of_getElem? (i := 209) (by decide +kernel))) rfl
theorem wm_23 : Cond.fieldLink "LostRoom" 79 "LostRoom" "findings" "[I" ∈ ml_TB := ml_inTB (List.mem_append_right _ (List.mem_of_getElem? (i := 210) (by decide +kernel))) rfl
theorem wm_24 : Cond.code yX10_isText cX10_isText 1 (some .boolean) ∈ ml_TB := ml_inTB (List.mem_append_right _ (List.mem_of_getElem? (i := 583) (by decide +kernel))) rfl
theorem wm_25 : Cond.static ⟨"LostRoom", "isText", "(I)Z"⟩ ∈ ml_TB := ml_inTB (List.mem_append_right _ (List.mem_of_getElem? (i := 582) (by decide +kernel))) rfl
theorem wm_26 : Cond.methodLink "LostRoom" 103 ⟨"LostRoom", "isText", "(I)Z"⟩ ∈ ml_TB := ml_inTB (List.mem_append_right _ (List.mem_of_getElem? (i := 581) (by decide +kernel))) rfl
theorem wm_27 : Cond.arrayClass .byte ∈ ml_TB := ml_inTB (List.mem_append_right _ (List.mem_of_getElem? (i := 70) (by decide +kernel))) rfl
theorem wm_28 : Cond.code yJ7_fill_031fb cJ7_fill_031fb 4 none ∈ ml_TB := ml_inTB (List.mem_append_right _ (List.mem_of_getElem? (i := 586) (by decide +kernel))) rfl
theorem wm_29 : Cond.initialized "java/util/Arrays" ∈ ml_TB := ml_inTB (List.mem_append_right _ (List.mem_of_getElem? (i := 6) (by decide +kernel))) rfl
theorem wm_30 : Cond.static ⟨"java/util/Arrays", "fill", "([BB)V"⟩ ∈ ml_TB := ml_inTB (List.mem_append_right _ (List.mem_of_getElem? (i := 585) (by decide +kernel))) rfl
theorem wm_31 : Cond.methodLink "LostRoom" 106 ⟨"java/util/Arrays", "fill", "([BB)V"⟩ ∈ ml_TB := ml_inTB (List.mem_append_right _ (List.mem_of_getElem? (i := 584) (by decide +kernel))) rfl
theorem wm_32 : Cond.fieldLink "LostRoom" 17 "LostRoom" "texts" "[[B" ∈ ml_TB := ml_inTB (List.mem_append_right _ (List.mem_of_getElem? (i := 193) (by decide +kernel))) rfl
theorem wm_33 : Cond.code yX10_found cX10_found 2 (some .int) ∈ ml_TB := ml_inTB (List.mem_append_right _ (List.mem_of_getElem? (i := 263) (by decide +kernel))) rfl
theorem wm_34 : Cond.instanceMethod ⟨"LostRoom", "found", "(I)I"⟩ ∈ ml_TB := ml_inTB (List.mem_append_right _ (List.mem_of_getElem? (i := 262) (by decide +kernel))) rfl
theorem wm_35 : Cond.selects "LostRoom" ⟨"LostRoom", "found", "(I)I"⟩ ⟨"LostRoom", "found", "(I)I"⟩ ∈ ml_TB := ml_inTB (List.mem_append_left _ (List.mem_of_getElem? (i := 0) (by decide +kernel))) rfl
theorem wm_36 : Cond.methodLink "LostRoom" 86 ⟨"LostRoom", "found", "(I)I"⟩ ∈ ml_TB := ml_inTB (List.mem_append_right _ (List.mem_of_getElem? (i := 260) (by decide +kernel))) rfl
theorem wm_37 : Cond.code yX10_put cX10_put 6 (some .int) ∈ ml_TB := ml_inTB (List.mem_append_right _ (List.mem_of_getElem? (i := 593) (by decide +kernel))) rfl
theorem wm_38 : Cond.instanceMethod ⟨"LostRoom", "put", "(III)I"⟩ ∈ ml_TB := ml_inTB (List.mem_append_right _ (List.mem_of_getElem? (i := 591) (by decide +kernel))) rfl
theorem wm_39 : Cond.selects "LostRoom" ⟨"LostRoom", "put", "(III)I"⟩ ⟨"LostRoom", "put", "(III)I"⟩ ∈ ml_TB := ml_inTB (List.mem_append_right _ (List.mem_of_getElem? (i := 592) (by decide +kernel))) rfl
theorem wm_40 : Cond.methodLink "LostRoomLaw" 8 ⟨"LostRoom", "put", "(III)I"⟩ ∈ ml_TB := ml_inTB (List.mem_append_right _ (List.mem_of_getElem? (i := 590) (by decide +kernel))) rfl
theorem wm_41 : Cond.code yL_put cL_put 3 (some .int) ∈ ml_TB := ml_inTB (List.mem_append_right _ (List.mem_of_getElem? (i := 589) (by decide +kernel))) rfl
theorem wm_42 : Cond.initialized "LostRoomLaw" ∈ ml_TB := ml_inTB (List.mem_append_right _ (List.mem_of_getElem? (i := 0) (by decide +kernel))) rfl
theorem wm_43 : Cond.static ⟨"LostRoomLaw", "put", "(LLostRoom;II)I"⟩ ∈ ml_TB := ml_inTB (List.mem_append_right _ (List.mem_of_getElem? (i := 588) (by decide +kernel))) rfl
theorem wm_44 : Cond.methodLink "LostRoomLaw" 14 ⟨"LostRoomLaw", "put", "(LLostRoom;II)I"⟩ ∈ ml_TB := ml_inTB (List.mem_append_right _ (List.mem_of_getElem? (i := 587) (by decide +kernel))) rfl
theorem wm_45 : Cond.methodLink "LostRoom$Book" 3 ⟨"java/lang/Object", "<init>", "()V"⟩ ∈ ml_TB := ml_inTB (List.mem_append_right _ (List.mem_of_getElem? (i := 31) (by decide +kernel))) rfl
theorem wm_46 : Cond.instanceMethod ⟨"java/lang/Object", "<init>", "()V"⟩ ∈ ml_TB := ml_inTB (List.mem_append_right _ (List.mem_of_getElem? (i := 20) (by decide +kernel))) rfl
theorem wm_47 : Cond.code ⟨"java/lang/Object", "<init>", "()V"⟩ object_method_1_code 1 none ∈ ml_TB := ml_inTB (List.mem_append_right _ (List.mem_of_getElem? (i := 21) (by decide +kernel))) rfl
theorem wm_48 : Cond.classLink "LostRoom$Book" 9 "LostRoom$Lodger" ∈ ml_TB := ml_inTB (List.mem_append_right _ (List.mem_of_getElem? (i := 32) (by decide +kernel))) rfl
theorem wm_49 : Cond.fieldLink "LostRoom$Book" 11 "LostRoom$Book" "lodgers" "[LLostRoom$Lodger;" ∈ ml_TB := ml_inTB (List.mem_append_right _ (List.mem_of_getElem? (i := 36) (by decide +kernel))) rfl
theorem wm_50 : Cond.classLink "LostRoom$Book" 17 "LostRoom$Trunk" ∈ ml_TB := ml_inTB (List.mem_append_right _ (List.mem_of_getElem? (i := 34) (by decide +kernel))) rfl
theorem wm_51 : Cond.fieldLink "LostRoom$Book" 19 "LostRoom$Book" "trunks" "[LLostRoom$Trunk;" ∈ ml_TB := ml_inTB (List.mem_append_right _ (List.mem_of_getElem? (i := 39) (by decide +kernel))) rfl
theorem wm_52 : Cond.fieldLink "LostRoom$Book" 23 "LostRoom$Book" "fault" "I" ∈ ml_TB := ml_inTB (List.mem_append_right _ (List.mem_of_getElem? (i := 48) (by decide +kernel))) rfl
theorem wm_53 : Cond.fieldLink "LostRoom$Book" 27 "LostRoom$Book" "bytes" "[B" ∈ ml_TB := ml_inTB (List.mem_append_right _ (List.mem_of_getElem? (i := 51) (by decide +kernel))) rfl
theorem wm_54 : Cond.fieldLink "LostRoom$Book" 31 "LostRoom$Book" "place" "I" ∈ ml_TB := ml_inTB (List.mem_append_right _ (List.mem_of_getElem? (i := 52) (by decide +kernel))) rfl
theorem wm_55 : Cond.code yX1_readFigure cX1_readFigure 4 (some .int) ∈ ml_TB := ml_inTB (List.mem_append_right _ (List.mem_of_getElem? (i := 620) (by decide +kernel))) rfl
theorem wm_56 : Cond.initialized "LostRoom$Book" ∈ ml_TB := ml_inTB (List.mem_append_right _ (List.mem_of_getElem? (i := 2) (by decide +kernel))) rfl
theorem wm_57 : Cond.instanceMethod ⟨"LostRoom$Book", "readFigure", "(II)I"⟩ ∈ ml_TB := ml_inTB (List.mem_append_right _ (List.mem_of_getElem? (i := 619) (by decide +kernel))) rfl
theorem wm_58 : Cond.selects "LostRoom$Book" ⟨"LostRoom$Book", "readFigure", "(II)I"⟩ ⟨"LostRoom$Book", "readFigure", "(II)I"⟩ ∈ ml_TB := ml_inTB (List.mem_append_left _ (List.mem_of_getElem? (i := 29) (by decide +kernel))) rfl
theorem wm_59 : Cond.methodLink "LostRoom$Book" 64 ⟨"LostRoom$Book", "readFigure", "(II)I"⟩ ∈ ml_TB := ml_inTB (List.mem_append_right _ (List.mem_of_getElem? (i := 617) (by decide +kernel))) rfl
theorem wm_60 : Cond.methodLink "LostRoom$Lodger" 1 ⟨"java/lang/Object", "<init>", "()V"⟩ ∈ ml_TB := ml_inTB (List.mem_append_right _ (List.mem_of_getElem? (i := 630) (by decide +kernel))) rfl
theorem wm_61 : Cond.fieldLink "LostRoom$Lodger" 7 "LostRoom$Lodger" "from" "I" ∈ ml_TB := ml_inTB (List.mem_append_right _ (List.mem_of_getElem? (i := 631) (by decide +kernel))) rfl
theorem wm_62 : Cond.fieldLink "LostRoom$Lodger" 13 "LostRoom$Lodger" "till" "I" ∈ ml_TB := ml_inTB (List.mem_append_right _ (List.mem_of_getElem? (i := 633) (by decide +kernel))) rfl
theorem wm_63 : Cond.fieldLink "LostRoom$Lodger" 16 "LostRoom$Lodger" "size" "I" ∈ ml_TB := ml_inTB (List.mem_append_right _ (List.mem_of_getElem? (i := 636) (by decide +kernel))) rfl
theorem wm_64 : Cond.fieldLink "LostRoom$Lodger" 19 "LostRoom$Lodger" "town" "I" ∈ ml_TB := ml_inTB (List.mem_append_right _ (List.mem_of_getElem? (i := 638) (by decide +kernel))) rfl
theorem wm_65 : Cond.fieldLink "LostRoom$Lodger" 22 "LostRoom$Lodger" "hand" "I" ∈ ml_TB := ml_inTB (List.mem_append_right _ (List.mem_of_getElem? (i := 640) (by decide +kernel))) rfl
theorem wm_66 : Cond.code yX1_readSign cX1_readSign 2 none ∈ ml_TB := ml_inTB (List.mem_append_right _ (List.mem_of_getElem? (i := 625) (by decide +kernel))) rfl
theorem wm_67 : Cond.instanceMethod ⟨"LostRoom$Book", "readSign", "(C)V"⟩ ∈ ml_TB := ml_inTB (List.mem_append_right _ (List.mem_of_getElem? (i := 624) (by decide +kernel))) rfl
theorem wm_68 : Cond.selects "LostRoom$Book" ⟨"LostRoom$Book", "readSign", "(C)V"⟩ ⟨"LostRoom$Book", "readSign", "(C)V"⟩ ∈ ml_TB := ml_inTB (List.mem_append_left _ (List.mem_of_getElem? (i := 30) (by decide +kernel))) rfl
theorem wm_69 : Cond.methodLink "LostRoom$Book" 60 ⟨"LostRoom$Book", "readSign", "(C)V"⟩ ∈ ml_TB := ml_inTB (List.mem_append_right _ (List.mem_of_getElem? (i := 622) (by decide +kernel))) rfl
theorem wm_70 : Cond.fieldLink "LostRoom$Book" 38 "LostRoom$Book" "lodgerCount" "I" ∈ ml_TB := ml_inTB (List.mem_append_right _ (List.mem_of_getElem? (i := 43) (by decide +kernel))) rfl
theorem wm_71 : Cond.instantiable "LostRoom$Lodger" 5 ∈ ml_TB := ml_inTB (List.mem_append_right _ (List.mem_of_getElem? (i := 626) (by decide +kernel))) rfl
theorem wm_72 : Cond.initialized "LostRoom$Lodger" ∈ ml_TB := ml_inTB (List.mem_append_right _ (List.mem_of_getElem? (i := 7) (by decide +kernel))) rfl
theorem wm_73 : Cond.code yX6_init cX6_init 6 none ∈ ml_TB := ml_inTB (List.mem_append_right _ (List.mem_of_getElem? (i := 629) (by decide +kernel))) rfl
theorem wm_74 : Cond.instanceMethod ⟨"LostRoom$Lodger", "<init>", "(IIIII)V"⟩ ∈ ml_TB := ml_inTB (List.mem_append_right _ (List.mem_of_getElem? (i := 628) (by decide +kernel))) rfl
theorem wm_75 : Cond.methodLink "LostRoom$Book" 68 ⟨"LostRoom$Lodger", "<init>", "(IIIII)V"⟩ ∈ ml_TB := ml_inTB (List.mem_append_right _ (List.mem_of_getElem? (i := 627) (by decide +kernel))) rfl
theorem wm_76 : Cond.code yX1_readYear cX1_readYear 3 (some .int) ∈ ml_TB := ml_inTB (List.mem_append_right _ (List.mem_of_getElem? (i := 616) (by decide +kernel))) rfl
theorem wm_77 : Cond.instanceMethod ⟨"LostRoom$Book", "readYear", "()I"⟩ ∈ ml_TB := ml_inTB (List.mem_append_right _ (List.mem_of_getElem? (i := 615) (by decide +kernel))) rfl
theorem wm_78 : Cond.selects "LostRoom$Book" ⟨"LostRoom$Book", "readYear", "()I"⟩ ⟨"LostRoom$Book", "readYear", "()I"⟩ ∈ ml_TB := ml_inTB (List.mem_append_left _ (List.mem_of_getElem? (i := 28) (by decide +kernel))) rfl
theorem wm_79 : Cond.methodLink "LostRoom$Book" 56 ⟨"LostRoom$Book", "readYear", "()I"⟩ ∈ ml_TB := ml_inTB (List.mem_append_right _ (List.mem_of_getElem? (i := 613) (by decide +kernel))) rfl
theorem wm_80 : Cond.methodLink "LostRoom$Trunk" 1 ⟨"java/lang/Object", "<init>", "()V"⟩ ∈ ml_TB := ml_inTB (List.mem_append_right _ (List.mem_of_getElem? (i := 661) (by decide +kernel))) rfl
theorem wm_81 : Cond.fieldLink "LostRoom$Trunk" 7 "LostRoom$Trunk" "lock" "I" ∈ ml_TB := ml_inTB (List.mem_append_right _ (List.mem_of_getElem? (i := 662) (by decide +kernel))) rfl
theorem wm_82 : Cond.fieldLink "LostRoom$Trunk" 13 "LostRoom$Trunk" "height" "I" ∈ ml_TB := ml_inTB (List.mem_append_right _ (List.mem_of_getElem? (i := 664) (by decide +kernel))) rfl
theorem wm_83 : Cond.fieldLink "LostRoom$Book" 44 "LostRoom$Book" "trunkCount" "I" ∈ ml_TB := ml_inTB (List.mem_append_right _ (List.mem_of_getElem? (i := 46) (by decide +kernel))) rfl
theorem wm_84 : Cond.instantiable "LostRoom$Trunk" 4 ∈ ml_TB := ml_inTB (List.mem_append_right _ (List.mem_of_getElem? (i := 657) (by decide +kernel))) rfl
theorem wm_85 : Cond.initialized "LostRoom$Trunk" ∈ ml_TB := ml_inTB (List.mem_append_right _ (List.mem_of_getElem? (i := 8) (by decide +kernel))) rfl
theorem wm_86 : Cond.code yX9_init cX9_init 3 none ∈ ml_TB := ml_inTB (List.mem_append_right _ (List.mem_of_getElem? (i := 660) (by decide +kernel))) rfl
theorem wm_87 : Cond.instanceMethod ⟨"LostRoom$Trunk", "<init>", "(II)V"⟩ ∈ ml_TB := ml_inTB (List.mem_append_right _ (List.mem_of_getElem? (i := 659) (by decide +kernel))) rfl
theorem wm_88 : Cond.methodLink "LostRoom$Book" 71 ⟨"LostRoom$Trunk", "<init>", "(II)V"⟩ ∈ ml_TB := ml_inTB (List.mem_append_right _ (List.mem_of_getElem? (i := 658) (by decide +kernel))) rfl
theorem wm_89 : Cond.fieldLink "LostRoom$Book" 50 "LostRoom$Book" "standing" "I" ∈ ml_TB := ml_inTB (List.mem_append_right _ (List.mem_of_getElem? (i := 50) (by decide +kernel))) rfl
theorem wm_90 : Cond.fieldLink "LostRoom$Book" 74 "LostRoom$Trunk" "above" "I" ∈ ml_TB := ml_inTB (List.mem_append_right _ (List.mem_of_getElem? (i := 667) (by decide +kernel))) rfl
theorem wm_91 : Cond.fieldLink "LostRoom$Book" 77 "LostRoom$Trunk" "below" "I" ∈ ml_TB := ml_inTB (List.mem_append_right _ (List.mem_of_getElem? (i := 670) (by decide +kernel))) rfl
theorem wm_92 : Cond.code yX1_readStanding cX1_readStanding 4 none ∈ ml_TB := ml_inTB (List.mem_append_right _ (List.mem_of_getElem? (i := 684) (by decide +kernel))) rfl
theorem wm_93 : Cond.instanceMethod ⟨"LostRoom$Book", "readStanding", "()V"⟩ ∈ ml_TB := ml_inTB (List.mem_append_right _ (List.mem_of_getElem? (i := 683) (by decide +kernel))) rfl
theorem wm_94 : Cond.selects "LostRoom$Book" ⟨"LostRoom$Book", "readStanding", "()V"⟩ ⟨"LostRoom$Book", "readStanding", "()V"⟩ ∈ ml_TB := ml_inTB (List.mem_append_left _ (List.mem_of_getElem? (i := 32) (by decide +kernel))) rfl
theorem wm_95 : Cond.methodLink "LostRoom$Book" 53 ⟨"LostRoom$Book", "readStanding", "()V"⟩ ∈ ml_TB := ml_inTB (List.mem_append_right _ (List.mem_of_getElem? (i := 681) (by decide +kernel))) rfl
theorem wm_96 : Cond.code yX1_readTrunk cX1_readTrunk 3 none ∈ ml_TB := ml_inTB (List.mem_append_right _ (List.mem_of_getElem? (i := 656) (by decide +kernel))) rfl
theorem wm_97 : Cond.instanceMethod ⟨"LostRoom$Book", "readTrunk", "()V"⟩ ∈ ml_TB := ml_inTB (List.mem_append_right _ (List.mem_of_getElem? (i := 655) (by decide +kernel))) rfl
theorem wm_98 : Cond.selects "LostRoom$Book" ⟨"LostRoom$Book", "readTrunk", "()V"⟩ ⟨"LostRoom$Book", "readTrunk", "()V"⟩ ∈ ml_TB := ml_inTB (List.mem_append_left _ (List.mem_of_getElem? (i := 31) (by decide +kernel))) rfl
theorem wm_99 : Cond.methodLink "LostRoom$Book" 47 ⟨"LostRoom$Book", "readTrunk", "()V"⟩ ∈ ml_TB := ml_inTB (List.mem_append_right _ (List.mem_of_getElem? (i := 653) (by decide +kernel))) rfl
theorem wm_100 : Cond.code yX1_readLodger cX1_readLodger 6 none ∈ ml_TB := ml_inTB (List.mem_append_right _ (List.mem_of_getElem? (i := 612) (by decide +kernel))) rfl
theorem wm_101 : Cond.instanceMethod ⟨"LostRoom$Book", "readLodger", "()V"⟩ ∈ ml_TB := ml_inTB (List.mem_append_right _ (List.mem_of_getElem? (i := 611) (by decide +kernel))) rfl
theorem wm_102 : Cond.selects "LostRoom$Book" ⟨"LostRoom$Book", "readLodger", "()V"⟩ ⟨"LostRoom$Book", "readLodger", "()V"⟩ ∈ ml_TB := ml_inTB (List.mem_append_left _ (List.mem_of_getElem? (i := 27) (by decide +kernel))) rfl
theorem wm_103 : Cond.methodLink "LostRoom$Book" 41 ⟨"LostRoom$Book", "readLodger", "()V"⟩ ∈ ml_TB := ml_inTB (List.mem_append_right _ (List.mem_of_getElem? (i := 609) (by decide +kernel))) rfl
theorem wm_104 : Cond.code yX1_readItem cX1_readItem 2 none ∈ ml_TB := ml_inTB (List.mem_append_right _ (List.mem_of_getElem? (i := 608) (by decide +kernel))) rfl
theorem wm_105 : Cond.instanceMethod ⟨"LostRoom$Book", "readItem", "(I)V"⟩ ∈ ml_TB := ml_inTB (List.mem_append_right _ (List.mem_of_getElem? (i := 607) (by decide +kernel))) rfl
theorem wm_106 : Cond.selects "LostRoom$Book" ⟨"LostRoom$Book", "readItem", "(I)V"⟩ ⟨"LostRoom$Book", "readItem", "(I)V"⟩ ∈ ml_TB := ml_inTB (List.mem_append_left _ (List.mem_of_getElem? (i := 26) (by decide +kernel))) rfl
theorem wm_107 : Cond.methodLink "LostRoom$Book" 34 ⟨"LostRoom$Book", "readItem", "(I)V"⟩ ∈ ml_TB := ml_inTB (List.mem_append_right _ (List.mem_of_getElem? (i := 605) (by decide +kernel))) rfl
theorem wm_108 : Cond.classLink "LostRoom" 21 "LostRoom$Book" ∈ ml_TB := ml_inTB (List.mem_append_right _ (List.mem_of_getElem? (i := 26) (by decide +kernel))) rfl
theorem wm_109 : Cond.instantiable "LostRoom$Book" 8 ∈ ml_TB := ml_inTB (List.mem_append_right _ (List.mem_of_getElem? (i := 27) (by decide +kernel))) rfl
theorem wm_110 : Cond.code yX1_init cX1_init 2 none ∈ ml_TB := ml_inTB (List.mem_append_right _ (List.mem_of_getElem? (i := 30) (by decide +kernel))) rfl
theorem wm_111 : Cond.instanceMethod ⟨"LostRoom$Book", "<init>", "([B)V"⟩ ∈ ml_TB := ml_inTB (List.mem_append_right _ (List.mem_of_getElem? (i := 29) (by decide +kernel))) rfl
theorem wm_112 : Cond.methodLink "LostRoom" 23 ⟨"LostRoom$Book", "<init>", "([B)V"⟩ ∈ ml_TB := ml_inTB (List.mem_append_right _ (List.mem_of_getElem? (i := 28) (by decide +kernel))) rfl
theorem wm_113 : Cond.code yX1_read cX1_read 2 none ∈ ml_TB := ml_inTB (List.mem_append_right _ (List.mem_of_getElem? (i := 604) (by decide +kernel))) rfl
theorem wm_114 : Cond.instanceMethod ⟨"LostRoom$Book", "read", "()V"⟩ ∈ ml_TB := ml_inTB (List.mem_append_right _ (List.mem_of_getElem? (i := 602) (by decide +kernel))) rfl
theorem wm_115 : Cond.selects "LostRoom$Book" ⟨"LostRoom$Book", "read", "()V"⟩ ⟨"LostRoom$Book", "read", "()V"⟩ ∈ ml_TB := ml_inTB (List.mem_append_right _ (List.mem_of_getElem? (i := 603) (by decide +kernel))) rfl
theorem wm_116 : Cond.methodLink "LostRoom" 112 ⟨"LostRoom$Book", "read", "()V"⟩ ∈ ml_TB := ml_inTB (List.mem_append_right _ (List.mem_of_getElem? (i := 601) (by decide +kernel))) rfl
theorem wm_117 : Cond.fieldLink "LostRoom" 115 "LostRoom$Book" "fault" "I" ∈ ml_TB := ml_inTB (List.mem_append_right _ (List.mem_of_getElem? (i := 49) (by decide +kernel))) rfl
theorem wm_118 : Cond.fieldLink "LostRoom" 26 "LostRoom" "house" "LLostRoom$Book;" ∈ ml_TB := ml_inTB (List.mem_append_right _ (List.mem_of_getElem? (i := 194) (by decide +kernel))) rfl
theorem wm_119 : Cond.fieldLink "LostRoom" 118 "LostRoom" "thingCount" "I" ∈ ml_TB := ml_inTB (List.mem_append_right _ (List.mem_of_getElem? (i := 197) (by decide +kernel))) rfl
theorem wm_120 : Cond.fieldLink "LostRoom" 121 "LostRoom" "lineCount" "I" ∈ ml_TB := ml_inTB (List.mem_append_right _ (List.mem_of_getElem? (i := 199) (by decide +kernel))) rfl
theorem wm_121 : Cond.fieldLink "LostRoom" 124 "LostRoom" "bitCount" "I" ∈ ml_TB := ml_inTB (List.mem_append_right _ (List.mem_of_getElem? (i := 201) (by decide +kernel))) rfl
theorem wm_122 : Cond.fieldLink "LostRoom" 127 "LostRoom" "claimCount" "I" ∈ ml_TB := ml_inTB (List.mem_append_right _ (List.mem_of_getElem? (i := 203) (by decide +kernel))) rfl
theorem wm_123 : Cond.fieldLink "LostRoom" 61 "LostRoom" "sharings" "LLostRoom$Sharings;" ∈ ml_TB := ml_inTB (List.mem_append_right _ (List.mem_of_getElem? (i := 204) (by decide +kernel))) rfl
theorem wm_124 : Cond.fieldLink "LostRoom" 130 "LostRoom$Sharings" "stale" "Z" ∈ ml_TB := ml_inTB (List.mem_append_right _ (List.mem_of_getElem? (i := 86) (by decide +kernel))) rfl
theorem wm_125 : Cond.fieldLink "LostRoom" 68 "LostRoom" "lays" "LLostRoom$Lays;" ∈ ml_TB := ml_inTB (List.mem_append_right _ (List.mem_of_getElem? (i := 205) (by decide +kernel))) rfl
theorem wm_126 : Cond.fieldLink "LostRoom" 134 "LostRoom$Lays" "stale" "Z" ∈ ml_TB := ml_inTB (List.mem_append_right _ (List.mem_of_getElem? (i := 138) (by decide +kernel))) rfl
theorem wm_127 : Cond.fieldLink "LostRoom" 135 "LostRoom$Book" "trunkCount" "I" ∈ ml_TB := ml_inTB (List.mem_append_right _ (List.mem_of_getElem? (i := 47) (by decide +kernel))) rfl
theorem wm_128 : Cond.code yX10_fault cX10_fault 4 (some .int) ∈ ml_TB := ml_inTB (List.mem_append_right _ (List.mem_of_getElem? (i := 600) (by decide +kernel))) rfl
theorem wm_129 : Cond.instanceMethod ⟨"LostRoom", "fault", "(I)I"⟩ ∈ ml_TB := ml_inTB (List.mem_append_right _ (List.mem_of_getElem? (i := 598) (by decide +kernel))) rfl
theorem wm_130 : Cond.selects "LostRoom" ⟨"LostRoom", "fault", "(I)I"⟩ ⟨"LostRoom", "fault", "(I)I"⟩ ∈ ml_TB := ml_inTB (List.mem_append_right _ (List.mem_of_getElem? (i := 599) (by decide +kernel))) rfl
theorem wm_131 : Cond.methodLink "LostRoomLaw" 30 ⟨"LostRoom", "fault", "(I)I"⟩ ∈ ml_TB := ml_inTB (List.mem_append_right _ (List.mem_of_getElem? (i := 597) (by decide +kernel))) rfl
theorem wm_132 : Cond.code yX10_book cX10_book 4 (some .int) ∈ ml_TB := ml_inTB (List.mem_append_right _ (List.mem_of_getElem? (i := 688) (by decide +kernel))) rfl
theorem wm_133 : Cond.instanceMethod ⟨"LostRoom", "book", "(I)I"⟩ ∈ ml_TB := ml_inTB (List.mem_append_right _ (List.mem_of_getElem? (i := 686) (by decide +kernel))) rfl
theorem wm_134 : Cond.selects "LostRoom" ⟨"LostRoom", "book", "(I)I"⟩ ⟨"LostRoom", "book", "(I)I"⟩ ∈ ml_TB := ml_inTB (List.mem_append_right _ (List.mem_of_getElem? (i := 687) (by decide +kernel))) rfl
theorem wm_135 : Cond.methodLink "LostRoomLaw" 34 ⟨"LostRoom", "book", "(I)I"⟩ ∈ ml_TB := ml_inTB (List.mem_append_right _ (List.mem_of_getElem? (i := 685) (by decide +kernel))) rfl
theorem wm_136 : Cond.code yL_number cL_number 3 (some .int) ∈ ml_TB := ml_inTB (List.mem_append_right _ (List.mem_of_getElem? (i := 596) (by decide +kernel))) rfl
theorem wm_137 : Cond.static ⟨"LostRoomLaw", "number", "(LLostRoom;II)I"⟩ ∈ ml_TB := ml_inTB (List.mem_append_right _ (List.mem_of_getElem? (i := 595) (by decide +kernel))) rfl
theorem wm_138 : Cond.methodLink "LostRoomLaw" 27 ⟨"LostRoomLaw", "number", "(LLostRoom;II)I"⟩ ∈ ml_TB := ml_inTB (List.mem_append_right _ (List.mem_of_getElem? (i := 594) (by decide +kernel))) rfl
theorem wm_139 : Cond.code yX10_text cX10_text 4 (some .int) ∈ ml_TB := ml_inTB (List.mem_append_right _ (List.mem_of_getElem? (i := 580) (by decide +kernel))) rfl
theorem wm_140 : Cond.instanceMethod ⟨"LostRoom", "text", "(II)I"⟩ ∈ ml_TB := ml_inTB (List.mem_append_right _ (List.mem_of_getElem? (i := 578) (by decide +kernel))) rfl
theorem wm_141 : Cond.selects "LostRoom" ⟨"LostRoom", "text", "(II)I"⟩ ⟨"LostRoom", "text", "(II)I"⟩ ∈ ml_TB := ml_inTB (List.mem_append_right _ (List.mem_of_getElem? (i := 579) (by decide +kernel))) rfl
theorem wm_142 : Cond.methodLink "LostRoomLaw" 23 ⟨"LostRoom", "text", "(II)I"⟩ ∈ ml_TB := ml_inTB (List.mem_append_right _ (List.mem_of_getElem? (i := 577) (by decide +kernel))) rfl
theorem wm_143 : Cond.constant "LostRoomLaw" 7 (268435455 : Int32) ∈ ml_TB := ml_inTB (List.mem_append_right _ (List.mem_of_getElem? (i := 570) (by decide +kernel))) rfl
theorem wm_144 : Cond.fieldLink "LostRoom" 36 "LostRoom" "things" "[LLostRoom$Thing;" ∈ ml_TB := ml_inTB (List.mem_append_right _ (List.mem_of_getElem? (i := 196) (by decide +kernel))) rfl
theorem wm_145 : Cond.fieldLink "LostRoom" 169 "LostRoom$Thing" "owners" "I" ∈ ml_TB := ml_inTB (List.mem_append_right _ (List.mem_of_getElem? (i := 324) (by decide +kernel))) rfl
theorem wm_146 : Cond.code yX10_ownAll cX10_ownAll 3 (some .boolean) ∈ ml_TB := ml_inTB (List.mem_append_right _ (List.mem_of_getElem? (i := 394) (by decide +kernel))) rfl
theorem wm_147 : Cond.instanceMethod ⟨"LostRoom", "ownAll", "(I)Z"⟩ ∈ ml_TB := ml_inTB (List.mem_append_right _ (List.mem_of_getElem? (i := 393) (by decide +kernel))) rfl
theorem wm_148 : Cond.selects "LostRoom" ⟨"LostRoom", "ownAll", "(I)Z"⟩ ⟨"LostRoom", "ownAll", "(I)Z"⟩ ∈ ml_TB := ml_inTB (List.mem_append_left _ (List.mem_of_getElem? (i := 10) (by decide +kernel))) rfl
theorem wm_149 : Cond.methodLink "LostRoom" 200 ⟨"LostRoom", "ownAll", "(I)Z"⟩ ∈ ml_TB := ml_inTB (List.mem_append_right _ (List.mem_of_getElem? (i := 391) (by decide +kernel))) rfl
theorem wm_150 : Cond.fieldLink "LostRoom" 203 "LostRoom" "asked" "I" ∈ ml_TB := ml_inTB (List.mem_append_right _ (List.mem_of_getElem? (i := 207) (by decide +kernel))) rfl
theorem wm_151 : Cond.code yJ6_bitCount_0f7a4 cJ6_bitCount_0f7a4 1 (some .int) ∈ ml_TB := ml_inTB (List.mem_append_right _ (List.mem_of_getElem? (i := 387) (by decide +kernel))) rfl
theorem wm_152 : Cond.initialized "java/lang/Integer" ∈ ml_TB := ml_inTB (List.mem_append_right _ (List.mem_of_getElem? (i := 12) (by decide +kernel))) rfl
theorem wm_153 : Cond.static ⟨"java/lang/Integer", "bitCount", "(I)I"⟩ ∈ ml_TB := ml_inTB (List.mem_append_right _ (List.mem_of_getElem? (i := 386) (by decide +kernel))) rfl
theorem wm_154 : Cond.methodLink "LostRoom" 196 ⟨"java/lang/Integer", "bitCount", "(I)I"⟩ ∈ ml_TB := ml_inTB (List.mem_append_right _ (List.mem_of_getElem? (i := 385) (by decide +kernel))) rfl
theorem wm_155 : Cond.fieldLink "LostRoom" 193 "LostRoom$Book" "lodgerCount" "I" ∈ ml_TB := ml_inTB (List.mem_append_right _ (List.mem_of_getElem? (i := 44) (by decide +kernel))) rfl
theorem wm_156 : Cond.code yX10_isThing cX10_isThing 2 (some .boolean) ∈ ml_TB := ml_inTB (List.mem_append_right _ (List.mem_of_getElem? (i := 368) (by decide +kernel))) rfl
theorem wm_157 : Cond.instanceMethod ⟨"LostRoom", "isThing", "(I)Z"⟩ ∈ ml_TB := ml_inTB (List.mem_append_right _ (List.mem_of_getElem? (i := 367) (by decide +kernel))) rfl
theorem wm_158 : Cond.selects "LostRoom" ⟨"LostRoom", "isThing", "(I)Z"⟩ ⟨"LostRoom", "isThing", "(I)Z"⟩ ∈ ml_TB := ml_inTB (List.mem_append_left _ (List.mem_of_getElem? (i := 8) (by decide +kernel))) rfl
theorem wm_159 : Cond.methodLink "LostRoom" 172 ⟨"LostRoom", "isThing", "(I)Z"⟩ ∈ ml_TB := ml_inTB (List.mem_append_right _ (List.mem_of_getElem? (i := 365) (by decide +kernel))) rfl
theorem wm_160 : Cond.fieldLink "LostRoom" 206 "LostRoom" "many" "J" ∈ ml_TB := ml_inTB (List.mem_append_right _ (List.mem_of_getElem? (i := 208) (by decide +kernel))) rfl
theorem wm_161 : Cond.code yL_bits cL_bits 3 (some .int) ∈ ml_TB := ml_inTB (List.mem_append_right _ (List.mem_of_getElem? (i := 694) (by decide +kernel))) rfl
theorem wm_162 : Cond.static ⟨"LostRoomLaw", "bits", "(I)I"⟩ ∈ ml_TB := ml_inTB (List.mem_append_right _ (List.mem_of_getElem? (i := 693) (by decide +kernel))) rfl
theorem wm_163 : Cond.methodLink "LostRoomLaw" 106 ⟨"LostRoomLaw", "bits", "(I)I"⟩ ∈ ml_TB := ml_inTB (List.mem_append_right _ (List.mem_of_getElem? (i := 692) (by decide +kernel))) rfl
theorem wm_164 : Cond.code yX10_fits cX10_fits 4 (some .int) ∈ ml_TB := ml_inTB (List.mem_append_right _ (List.mem_of_getElem? (i := 398) (by decide +kernel))) rfl
theorem wm_165 : Cond.instanceMethod ⟨"LostRoom", "fits", "()I"⟩ ∈ ml_TB := ml_inTB (List.mem_append_right _ (List.mem_of_getElem? (i := 396) (by decide +kernel))) rfl
theorem wm_166 : Cond.selects "LostRoom" ⟨"LostRoom", "fits", "()I"⟩ ⟨"LostRoom", "fits", "()I"⟩ ∈ ml_TB := ml_inTB (List.mem_append_right _ (List.mem_of_getElem? (i := 397) (by decide +kernel))) rfl
theorem wm_167 : Cond.methodLink "LostRoomLaw" 71 ⟨"LostRoom", "fits", "()I"⟩ ∈ ml_TB := ml_inTB (List.mem_append_right _ (List.mem_of_getElem? (i := 395) (by decide +kernel))) rfl
theorem wm_168 : Cond.code yX10_may cX10_may 2 (some .int) ∈ ml_TB := ml_inTB (List.mem_append_right _ (List.mem_of_getElem? (i := 380) (by decide +kernel))) rfl
theorem wm_169 : Cond.instanceMethod ⟨"LostRoom", "may", "(I)I"⟩ ∈ ml_TB := ml_inTB (List.mem_append_right _ (List.mem_of_getElem? (i := 378) (by decide +kernel))) rfl
theorem wm_170 : Cond.selects "LostRoom" ⟨"LostRoom", "may", "(I)I"⟩ ⟨"LostRoom", "may", "(I)I"⟩ ∈ ml_TB := ml_inTB (List.mem_append_right _ (List.mem_of_getElem? (i := 379) (by decide +kernel))) rfl
theorem wm_171 : Cond.methodLink "LostRoomLaw" 60 ⟨"LostRoom", "may", "(I)I"⟩ ∈ ml_TB := ml_inTB (List.mem_append_right _ (List.mem_of_getElem? (i := 377) (by decide +kernel))) rfl
theorem wm_172 : Cond.code yX10_fewest cX10_fewest 4 (some .int) ∈ ml_TB := ml_inTB (List.mem_append_right _ (List.mem_of_getElem? (i := 384) (by decide +kernel))) rfl
theorem wm_173 : Cond.instanceMethod ⟨"LostRoom", "fewest", "()I"⟩ ∈ ml_TB := ml_inTB (List.mem_append_right _ (List.mem_of_getElem? (i := 382) (by decide +kernel))) rfl
theorem wm_174 : Cond.selects "LostRoom" ⟨"LostRoom", "fewest", "()I"⟩ ⟨"LostRoom", "fewest", "()I"⟩ ∈ ml_TB := ml_inTB (List.mem_append_right _ (List.mem_of_getElem? (i := 383) (by decide +kernel))) rfl
theorem wm_175 : Cond.methodLink "LostRoomLaw" 79 ⟨"LostRoom", "fewest", "()I"⟩ ∈ ml_TB := ml_inTB (List.mem_append_right _ (List.mem_of_getElem? (i := 381) (by decide +kernel))) rfl
theorem wm_176 : Cond.code yX10_asked cX10_asked 1 (some .int) ∈ ml_TB := ml_inTB (List.mem_append_right _ (List.mem_of_getElem? (i := 562) (by decide +kernel))) rfl
theorem wm_177 : Cond.instanceMethod ⟨"LostRoom", "asked", "()I"⟩ ∈ ml_TB := ml_inTB (List.mem_append_right _ (List.mem_of_getElem? (i := 560) (by decide +kernel))) rfl
theorem wm_178 : Cond.selects "LostRoom" ⟨"LostRoom", "asked", "()I"⟩ ⟨"LostRoom", "asked", "()I"⟩ ∈ ml_TB := ml_inTB (List.mem_append_right _ (List.mem_of_getElem? (i := 561) (by decide +kernel))) rfl
theorem wm_179 : Cond.methodLink "LostRoomLaw" 100 ⟨"LostRoom", "asked", "()I"⟩ ∈ ml_TB := ml_inTB (List.mem_append_right _ (List.mem_of_getElem? (i := 559) (by decide +kernel))) rfl
theorem wm_180 : Cond.methodLink "LostRoom$Sharings" 3 ⟨"java/lang/Object", "<init>", "()V"⟩ ∈ ml_TB := ml_inTB (List.mem_append_right _ (List.mem_of_getElem? (i := 84) (by decide +kernel))) rfl
theorem wm_181 : Cond.fieldLink "LostRoom$Sharings" 9 "LostRoom$Sharings" "stale" "Z" ∈ ml_TB := ml_inTB (List.mem_append_right _ (List.mem_of_getElem? (i := 85) (by decide +kernel))) rfl
theorem wm_182 : Cond.fieldLink "LostRoom$Sharings" 15 "LostRoom$Sharings" "first" "[I" ∈ ml_TB := ml_inTB (List.mem_append_right _ (List.mem_of_getElem? (i := 89) (by decide +kernel))) rfl
theorem wm_183 : Cond.fieldLink "LostRoom$Sharings" 19 "LostRoom$Sharings" "all" "[I" ∈ ml_TB := ml_inTB (List.mem_append_right _ (List.mem_of_getElem? (i := 91) (by decide +kernel))) rfl
theorem wm_184 : Cond.fieldLink "LostRoom$Sharings" 22 "LostRoom$Sharings" "pairs" "[I" ∈ ml_TB := ml_inTB (List.mem_append_right _ (List.mem_of_getElem? (i := 93) (by decide +kernel))) rfl
theorem wm_185 : Cond.fieldLink "LostRoom$Sharings" 25 "LostRoom$Sharings" "strangers" "[I" ∈ ml_TB := ml_inTB (List.mem_append_right _ (List.mem_of_getElem? (i := 97) (by decide +kernel))) rfl
theorem wm_186 : Cond.arrayClass .boolean ∈ ml_TB := ml_inTB (List.mem_append_right _ (List.mem_of_getElem? (i := 130) (by decide +kernel))) rfl
theorem wm_187 : Cond.fieldLink "LostRoom$Sharings" 28 "LostRoom$Sharings" "covers" "[Z" ∈ ml_TB := ml_inTB (List.mem_append_right _ (List.mem_of_getElem? (i := 98) (by decide +kernel))) rfl
theorem wm_188 : Cond.fieldLink "LostRoom$Sharings" 32 "LostRoom$Sharings" "notEarlier" "[I" ∈ ml_TB := ml_inTB (List.mem_append_right _ (List.mem_of_getElem? (i := 99) (by decide +kernel))) rfl
theorem wm_189 : Cond.fieldLink "LostRoom$Sharings" 35 "LostRoom$Sharings" "notLater" "[I" ∈ ml_TB := ml_inTB (List.mem_append_right _ (List.mem_of_getElem? (i := 100) (by decide +kernel))) rfl
theorem wm_190 : Cond.fieldLink "LostRoom$Sharings" 38 "LostRoom$Sharings" "chosen" "[I" ∈ ml_TB := ml_inTB (List.mem_append_right _ (List.mem_of_getElem? (i := 101) (by decide +kernel))) rfl
theorem wm_191 : Cond.methodLink "LostRoom$Lays" 3 ⟨"java/lang/Object", "<init>", "()V"⟩ ∈ ml_TB := ml_inTB (List.mem_append_right _ (List.mem_of_getElem? (i := 136) (by decide +kernel))) rfl
theorem wm_192 : Cond.fieldLink "LostRoom$Lays" 9 "LostRoom$Lays" "stale" "Z" ∈ ml_TB := ml_inTB (List.mem_append_right _ (List.mem_of_getElem? (i := 137) (by decide +kernel))) rfl
theorem wm_193 : Cond.fieldLink "LostRoom$Lays" 15 "LostRoom$Lays" "first" "[I" ∈ ml_TB := ml_inTB (List.mem_append_right _ (List.mem_of_getElem? (i := 143) (by decide +kernel))) rfl
theorem wm_194 : Cond.fieldLink "LostRoom$Lays" 19 "LostRoom$Lays" "joined" "[I" ∈ ml_TB := ml_inTB (List.mem_append_right _ (List.mem_of_getElem? (i := 146) (by decide +kernel))) rfl
theorem wm_195 : Cond.fieldLink "LostRoom$Lays" 22 "LostRoom$Lays" "sheets" "[I" ∈ ml_TB := ml_inTB (List.mem_append_right _ (List.mem_of_getElem? (i := 147) (by decide +kernel))) rfl
theorem wm_196 : Cond.fieldLink "LostRoom$Lays" 25 "LostRoom$Lays" "ways" "[I" ∈ ml_TB := ml_inTB (List.mem_append_right _ (List.mem_of_getElem? (i := 148) (by decide +kernel))) rfl
theorem wm_197 : Cond.methodLink "LostRoom$Journeys" 3 ⟨"java/lang/Object", "<init>", "()V"⟩ ∈ ml_TB := ml_inTB (List.mem_append_right _ (List.mem_of_getElem? (i := 171) (by decide +kernel))) rfl
theorem wm_198 : Cond.classLink "LostRoom$Journeys" 9 "LostRoom$Thing" ∈ ml_TB := ml_inTB (List.mem_append_right _ (List.mem_of_getElem? (i := 172) (by decide +kernel))) rfl
theorem wm_199 : Cond.fieldLink "LostRoom$Journeys" 11 "LostRoom$Journeys" "tickets" "[LLostRoom$Thing;" ∈ ml_TB := ml_inTB (List.mem_append_right _ (List.mem_of_getElem? (i := 173) (by decide +kernel))) rfl
theorem wm_200 : Cond.fieldLink "LostRoom$Journeys" 17 "LostRoom$Journeys" "ahead" "[I" ∈ ml_TB := ml_inTB (List.mem_append_right _ (List.mem_of_getElem? (i := 175) (by decide +kernel))) rfl
theorem wm_201 : Cond.fieldLink "LostRoom$Journeys" 21 "LostRoom$Journeys" "lasts" "[I" ∈ ml_TB := ml_inTB (List.mem_append_right _ (List.mem_of_getElem? (i := 176) (by decide +kernel))) rfl
theorem wm_202 : Cond.fieldLink "LostRoom$Journeys" 24 "LostRoom$Journeys" "over" "[I" ∈ ml_TB := ml_inTB (List.mem_append_right _ (List.mem_of_getElem? (i := 177) (by decide +kernel))) rfl
theorem wm_203 : Cond.fieldLink "LostRoom$Journeys" 27 "LostRoom$Journeys" "people" "[I" ∈ ml_TB := ml_inTB (List.mem_append_right _ (List.mem_of_getElem? (i := 178) (by decide +kernel))) rfl
theorem wm_204 : Cond.methodLink "LostRoom" 1 ⟨"java/lang/Object", "<init>", "()V"⟩ ∈ ml_TB := ml_inTB (List.mem_append_right _ (List.mem_of_getElem? (i := 19) (by decide +kernel))) rfl
theorem wm_205 : Cond.classLink "LostRoom" 9 "[I" ∈ ml_TB := ml_inTB (List.mem_append_right _ (List.mem_of_getElem? (i := 22) (by decide +kernel))) rfl
theorem wm_206 : Cond.fieldLink "LostRoom" 11 "LostRoom" "rows" "[[I" ∈ ml_TB := ml_inTB (List.mem_append_right _ (List.mem_of_getElem? (i := 192) (by decide +kernel))) rfl
theorem wm_207 : Cond.classLink "LostRoom" 15 "[B" ∈ ml_TB := ml_inTB (List.mem_append_right _ (List.mem_of_getElem? (i := 24) (by decide +kernel))) rfl
theorem wm_208 : Cond.fieldLink "LostRoom" 30 "LostRoom" "wear" "I" ∈ ml_TB := ml_inTB (List.mem_append_right _ (List.mem_of_getElem? (i := 195) (by decide +kernel))) rfl
theorem wm_209 : Cond.classLink "LostRoom" 34 "LostRoom$Thing" ∈ ml_TB := ml_inTB (List.mem_append_right _ (List.mem_of_getElem? (i := 71) (by decide +kernel))) rfl
theorem wm_210 : Cond.classLink "LostRoom" 40 "LostRoom$Line" ∈ ml_TB := ml_inTB (List.mem_append_right _ (List.mem_of_getElem? (i := 73) (by decide +kernel))) rfl
theorem wm_211 : Cond.fieldLink "LostRoom" 42 "LostRoom" "lines" "[LLostRoom$Line;" ∈ ml_TB := ml_inTB (List.mem_append_right _ (List.mem_of_getElem? (i := 198) (by decide +kernel))) rfl
theorem wm_212 : Cond.classLink "LostRoom" 46 "LostRoom$Bit" ∈ ml_TB := ml_inTB (List.mem_append_right _ (List.mem_of_getElem? (i := 75) (by decide +kernel))) rfl
theorem wm_213 : Cond.fieldLink "LostRoom" 48 "LostRoom" "bits" "[LLostRoom$Bit;" ∈ ml_TB := ml_inTB (List.mem_append_right _ (List.mem_of_getElem? (i := 200) (by decide +kernel))) rfl
theorem wm_214 : Cond.classLink "LostRoom" 52 "LostRoom$Claim" ∈ ml_TB := ml_inTB (List.mem_append_right _ (List.mem_of_getElem? (i := 77) (by decide +kernel))) rfl
theorem wm_215 : Cond.fieldLink "LostRoom" 54 "LostRoom" "claims" "[LLostRoom$Claim;" ∈ ml_TB := ml_inTB (List.mem_append_right _ (List.mem_of_getElem? (i := 202) (by decide +kernel))) rfl
theorem wm_216 : Cond.classLink "LostRoom" 58 "LostRoom$Sharings" ∈ ml_TB := ml_inTB (List.mem_append_right _ (List.mem_of_getElem? (i := 79) (by decide +kernel))) rfl
theorem wm_217 : Cond.instantiable "LostRoom$Sharings" 13 ∈ ml_TB := ml_inTB (List.mem_append_right _ (List.mem_of_getElem? (i := 80) (by decide +kernel))) rfl
theorem wm_218 : Cond.initialized "LostRoom$Sharings" ∈ ml_TB := ml_inTB (List.mem_append_right _ (List.mem_of_getElem? (i := 3) (by decide +kernel))) rfl
theorem wm_219 : Cond.code yX7_init cX7_init 1 none ∈ ml_TB := ml_inTB (List.mem_append_right _ (List.mem_of_getElem? (i := 83) (by decide +kernel))) rfl
theorem wm_220 : Cond.instanceMethod ⟨"LostRoom$Sharings", "<init>", "()V"⟩ ∈ ml_TB := ml_inTB (List.mem_append_right _ (List.mem_of_getElem? (i := 82) (by decide +kernel))) rfl
theorem wm_221 : Cond.classLink "LostRoom" 65 "LostRoom$Lays" ∈ ml_TB := ml_inTB (List.mem_append_right _ (List.mem_of_getElem? (i := 131) (by decide +kernel))) rfl
theorem wm_222 : Cond.instantiable "LostRoom$Lays" 8 ∈ ml_TB := ml_inTB (List.mem_append_right _ (List.mem_of_getElem? (i := 132) (by decide +kernel))) rfl
theorem wm_223 : Cond.initialized "LostRoom$Lays" ∈ ml_TB := ml_inTB (List.mem_append_right _ (List.mem_of_getElem? (i := 4) (by decide +kernel))) rfl
theorem wm_224 : Cond.code yX4_init cX4_init 1 none ∈ ml_TB := ml_inTB (List.mem_append_right _ (List.mem_of_getElem? (i := 135) (by decide +kernel))) rfl
theorem wm_225 : Cond.instanceMethod ⟨"LostRoom$Lays", "<init>", "()V"⟩ ∈ ml_TB := ml_inTB (List.mem_append_right _ (List.mem_of_getElem? (i := 134) (by decide +kernel))) rfl
theorem wm_226 : Cond.classLink "LostRoom" 72 "LostRoom$Journeys" ∈ ml_TB := ml_inTB (List.mem_append_right _ (List.mem_of_getElem? (i := 166) (by decide +kernel))) rfl
theorem wm_227 : Cond.instantiable "LostRoom$Journeys" 6 ∈ ml_TB := ml_inTB (List.mem_append_right _ (List.mem_of_getElem? (i := 167) (by decide +kernel))) rfl
theorem wm_228 : Cond.initialized "LostRoom$Journeys" ∈ ml_TB := ml_inTB (List.mem_append_right _ (List.mem_of_getElem? (i := 5) (by decide +kernel))) rfl
theorem wm_229 : Cond.code yX3_init cX3_init 1 none ∈ ml_TB := ml_inTB (List.mem_append_right _ (List.mem_of_getElem? (i := 170) (by decide +kernel))) rfl
theorem wm_230 : Cond.instanceMethod ⟨"LostRoom$Journeys", "<init>", "()V"⟩ ∈ ml_TB := ml_inTB (List.mem_append_right _ (List.mem_of_getElem? (i := 169) (by decide +kernel))) rfl
theorem wm_231 : Cond.fieldLink "LostRoom" 75 "LostRoom" "journeys" "LLostRoom$Journeys;" ∈ ml_TB := ml_inTB (List.mem_append_right _ (List.mem_of_getElem? (i := 206) (by decide +kernel))) rfl
theorem wm_232 : Cond.code yL_cell cL_cell 2 (some .int) ∈ ml_TB := ml_inTB (List.mem_append_right _ (List.mem_of_getElem? (i := 569) (by decide +kernel))) rfl
theorem wm_233 : Cond.static ⟨"LostRoomLaw", "cell", "([II)I"⟩ ∈ ml_TB := ml_inTB (List.mem_append_right _ (List.mem_of_getElem? (i := 568) (by decide +kernel))) rfl
theorem wm_234 : Cond.methodLink "LostRoomLaw" 19 ⟨"LostRoomLaw", "cell", "([II)I"⟩ ∈ ml_TB := ml_inTB (List.mem_append_right _ (List.mem_of_getElem? (i := 567) (by decide +kernel))) rfl
theorem wm_235 : Cond.code yX10_isKeyNumber cX10_isKeyNumber 2 (some .boolean) ∈ ml_TB := ml_inTB (List.mem_append_right _ (List.mem_of_getElem? (i := 300) (by decide +kernel))) rfl
theorem wm_236 : Cond.static ⟨"LostRoom", "isKeyNumber", "(I)Z"⟩ ∈ ml_TB := ml_inTB (List.mem_append_right _ (List.mem_of_getElem? (i := 299) (by decide +kernel))) rfl
theorem wm_237 : Cond.methodLink "LostRoom" 392 ⟨"LostRoom", "isKeyNumber", "(I)Z"⟩ ∈ ml_TB := ml_inTB (List.mem_append_right _ (List.mem_of_getElem? (i := 298) (by decide +kernel))) rfl
theorem wm_238 : Cond.methodLink "LostRoom$Thing" 3 ⟨"java/lang/Object", "<init>", "()V"⟩ ∈ ml_TB := ml_inTB (List.mem_append_right _ (List.mem_of_getElem? (i := 309) (by decide +kernel))) rfl
theorem wm_239 : Cond.fieldLink "LostRoom$Thing" 9 "LostRoom$Thing" "trunk" "I" ∈ ml_TB := ml_inTB (List.mem_append_right _ (List.mem_of_getElem? (i := 325) (by decide +kernel))) rfl
theorem wm_240 : Cond.fieldLink "LostRoom$Thing" 15 "LostRoom$Thing" "kind" "I" ∈ ml_TB := ml_inTB (List.mem_append_right _ (List.mem_of_getElem? (i := 310) (by decide +kernel))) rfl
theorem wm_241 : Cond.fieldLink "LostRoom$Thing" 18 "LostRoom$Thing" "from" "I" ∈ ml_TB := ml_inTB (List.mem_append_right _ (List.mem_of_getElem? (i := 313) (by decide +kernel))) rfl
theorem wm_242 : Cond.fieldLink "LostRoom$Thing" 21 "LostRoom$Thing" "till" "I" ∈ ml_TB := ml_inTB (List.mem_append_right _ (List.mem_of_getElem? (i := 316) (by decide +kernel))) rfl
theorem wm_243 : Cond.fieldLink "LostRoom$Thing" 24 "LostRoom$Thing" "number" "I" ∈ ml_TB := ml_inTB (List.mem_append_right _ (List.mem_of_getElem? (i := 319) (by decide +kernel))) rfl
theorem wm_244 : Cond.fieldLink "LostRoom$Thing" 27 "LostRoom$Thing" "receiver" "I" ∈ ml_TB := ml_inTB (List.mem_append_right _ (List.mem_of_getElem? (i := 322) (by decide +kernel))) rfl
theorem wm_245 : Cond.fieldLink "LostRoom$Thing" 50 "LostRoom$Lodger" "hand" "I" ∈ ml_TB := ml_inTB (List.mem_append_right _ (List.mem_of_getElem? (i := 641) (by decide +kernel))) rfl
theorem wm_246 : Cond.fieldLink "LostRoom$Thing" 47 "LostRoom$Lodger" "town" "I" ∈ ml_TB := ml_inTB (List.mem_append_right _ (List.mem_of_getElem? (i := 639) (by decide +kernel))) rfl
theorem wm_247 : Cond.fieldLink "LostRoom$Thing" 30 "LostRoom$Lodger" "from" "I" ∈ ml_TB := ml_inTB (List.mem_append_right _ (List.mem_of_getElem? (i := 632) (by decide +kernel))) rfl
theorem wm_248 : Cond.fieldLink "LostRoom$Thing" 33 "LostRoom$Lodger" "till" "I" ∈ ml_TB := ml_inTB (List.mem_append_right _ (List.mem_of_getElem? (i := 634) (by decide +kernel))) rfl
theorem wm_249 : Cond.fieldLink "LostRoom$Thing" 34 "LostRoom$Lodger" "size" "I" ∈ ml_TB := ml_inTB (List.mem_append_right _ (List.mem_of_getElem? (i := 637) (by decide +kernel))) rfl
theorem wm_250 : Cond.methodLink "LostRoom$Thing" 37 ⟨"java/lang/Math", "abs", "(I)I"⟩ ∈ ml_TB := ml_inTB (List.mem_append_right _ (List.mem_of_getElem? (i := 354) (by decide +kernel))) rfl
theorem wm_251 : Cond.static ⟨"java/lang/Math", "abs", "(I)I"⟩ ∈ ml_TB := ml_inTB (List.mem_append_right _ (List.mem_of_getElem? (i := 355) (by decide +kernel))) rfl
theorem wm_252 : Cond.code Lib.Math.abs.name Lib.Math.abs.code 1 (some .int) ∈ ml_TB := ml_inTB (List.mem_append_right _ (List.mem_of_getElem? (i := 356) (by decide +kernel))) rfl
theorem wm_253 : Cond.code yX8_suitsAsLetter cX8_suitsAsLetter 3 (some .boolean) ∈ ml_TB := ml_inTB (List.mem_append_right _ (List.mem_of_getElem? (i := 360) (by decide +kernel))) rfl
theorem wm_254 : Cond.initialized "LostRoom$Thing" ∈ ml_TB := ml_inTB (List.mem_append_right _ (List.mem_of_getElem? (i := 9) (by decide +kernel))) rfl
theorem wm_255 : Cond.instanceMethod ⟨"LostRoom$Thing", "suitsAsLetter", "(LLostRoom$Lodger;)Z"⟩ ∈ ml_TB := ml_inTB (List.mem_append_right _ (List.mem_of_getElem? (i := 359) (by decide +kernel))) rfl
theorem wm_256 : Cond.selects "LostRoom$Thing" ⟨"LostRoom$Thing", "suitsAsLetter", "(LLostRoom$Lodger;)Z"⟩ ⟨"LostRoom$Thing", "suitsAsLetter", "(LLostRoom$Lodger;)Z"⟩ ∈ ml_TB := ml_inTB (List.mem_append_left _ (List.mem_of_getElem? (i := 7) (by decide +kernel))) rfl
theorem wm_257 : Cond.methodLink "LostRoom$Thing" 43 ⟨"LostRoom$Thing", "suitsAsLetter", "(LLostRoom$Lodger;)Z"⟩ ∈ ml_TB := ml_inTB (List.mem_append_right _ (List.mem_of_getElem? (i := 357) (by decide +kernel))) rfl
theorem wm_258 : Cond.fieldLink "LostRoom" 360 "LostRoom$Book" "lodgers" "[LLostRoom$Lodger;" ∈ ml_TB := ml_inTB (List.mem_append_right _ (List.mem_of_getElem? (i := 38) (by decide +kernel))) rfl
theorem wm_259 : Cond.code yX8_suits cX8_suits 3 (some .boolean) ∈ ml_TB := ml_inTB (List.mem_append_right _ (List.mem_of_getElem? (i := 353) (by decide +kernel))) rfl
theorem wm_260 : Cond.instanceMethod ⟨"LostRoom$Thing", "suits", "(LLostRoom$Lodger;I)Z"⟩ ∈ ml_TB := ml_inTB (List.mem_append_right _ (List.mem_of_getElem? (i := 351) (by decide +kernel))) rfl
theorem wm_261 : Cond.selects "LostRoom$Thing" ⟨"LostRoom$Thing", "suits", "(LLostRoom$Lodger;I)Z"⟩ ⟨"LostRoom$Thing", "suits", "(LLostRoom$Lodger;I)Z"⟩ ∈ ml_TB := ml_inTB (List.mem_append_right _ (List.mem_of_getElem? (i := 352) (by decide +kernel))) rfl
theorem wm_262 : Cond.methodLink "LostRoom" 395 ⟨"LostRoom$Thing", "suits", "(LLostRoom$Lodger;I)Z"⟩ ∈ ml_TB := ml_inTB (List.mem_append_right _ (List.mem_of_getElem? (i := 350) (by decide +kernel))) rfl
theorem wm_263 : Cond.code yX8_init cX8_init 6 none ∈ ml_TB := ml_inTB (List.mem_append_right _ (List.mem_of_getElem? (i := 308) (by decide +kernel))) rfl
theorem wm_264 : Cond.instanceMethod ⟨"LostRoom$Thing", "<init>", "(IIIII)V"⟩ ∈ ml_TB := ml_inTB (List.mem_append_right _ (List.mem_of_getElem? (i := 307) (by decide +kernel))) rfl
theorem wm_265 : Cond.methodLink "LostRoom" 162 ⟨"LostRoom$Thing", "<init>", "(IIIII)V"⟩ ∈ ml_TB := ml_inTB (List.mem_append_right _ (List.mem_of_getElem? (i := 306) (by decide +kernel))) rfl
theorem wm_266 : Cond.code yX10_ownersOf cX10_ownersOf 4 (some .int) ∈ ml_TB := ml_inTB (List.mem_append_right _ (List.mem_of_getElem? (i := 349) (by decide +kernel))) rfl
theorem wm_267 : Cond.instanceMethod ⟨"LostRoom", "ownersOf", "(LLostRoom$Thing;)I"⟩ ∈ ml_TB := ml_inTB (List.mem_append_right _ (List.mem_of_getElem? (i := 348) (by decide +kernel))) rfl
theorem wm_268 : Cond.selects "LostRoom" ⟨"LostRoom", "ownersOf", "(LLostRoom$Thing;)I"⟩ ⟨"LostRoom", "ownersOf", "(LLostRoom$Thing;)I"⟩ ∈ ml_TB := ml_inTB (List.mem_append_left _ (List.mem_of_getElem? (i := 6) (by decide +kernel))) rfl
theorem wm_269 : Cond.methodLink "LostRoom" 165 ⟨"LostRoom", "ownersOf", "(LLostRoom$Thing;)I"⟩ ∈ ml_TB := ml_inTB (List.mem_append_right _ (List.mem_of_getElem? (i := 346) (by decide +kernel))) rfl
theorem wm_270 : Cond.instantiable "LostRoom$Thing" 8 ∈ ml_TB := ml_inTB (List.mem_append_right _ (List.mem_of_getElem? (i := 305) (by decide +kernel))) rfl
theorem wm_271 : Cond.code yX10_areYears cX10_areYears 2 (some .boolean) ∈ ml_TB := ml_inTB (List.mem_append_right _ (List.mem_of_getElem? (i := 294) (by decide +kernel))) rfl
theorem wm_272 : Cond.static ⟨"LostRoom", "areYears", "(II)Z"⟩ ∈ ml_TB := ml_inTB (List.mem_append_right _ (List.mem_of_getElem? (i := 293) (by decide +kernel))) rfl
theorem wm_273 : Cond.methodLink "LostRoom" 154 ⟨"LostRoom", "areYears", "(II)Z"⟩ ∈ ml_TB := ml_inTB (List.mem_append_right _ (List.mem_of_getElem? (i := 292) (by decide +kernel))) rfl
theorem wm_274 : Cond.code yX10_numberOf cX10_numberOf 3 (some .int) ∈ ml_TB := ml_inTB (List.mem_append_right _ (List.mem_of_getElem? (i := 297) (by decide +kernel))) rfl
theorem wm_275 : Cond.static ⟨"LostRoom", "numberOf", "(III)I"⟩ ∈ ml_TB := ml_inTB (List.mem_append_right _ (List.mem_of_getElem? (i := 296) (by decide +kernel))) rfl
theorem wm_276 : Cond.methodLink "LostRoom" 158 ⟨"LostRoom", "numberOf", "(III)I"⟩ ∈ ml_TB := ml_inTB (List.mem_append_right _ (List.mem_of_getElem? (i := 295) (by decide +kernel))) rfl
theorem wm_277 : Cond.code yX10_isLodger cX10_isLodger 2 (some .boolean) ∈ ml_TB := ml_inTB (List.mem_append_right _ (List.mem_of_getElem? (i := 304) (by decide +kernel))) rfl
theorem wm_278 : Cond.instanceMethod ⟨"LostRoom", "isLodger", "(I)Z"⟩ ∈ ml_TB := ml_inTB (List.mem_append_right _ (List.mem_of_getElem? (i := 303) (by decide +kernel))) rfl
theorem wm_279 : Cond.selects "LostRoom" ⟨"LostRoom", "isLodger", "(I)Z"⟩ ⟨"LostRoom", "isLodger", "(I)Z"⟩ ∈ ml_TB := ml_inTB (List.mem_append_left _ (List.mem_of_getElem? (i := 5) (by decide +kernel))) rfl
theorem wm_280 : Cond.methodLink "LostRoom" 141 ⟨"LostRoom", "isLodger", "(I)Z"⟩ ∈ ml_TB := ml_inTB (List.mem_append_right _ (List.mem_of_getElem? (i := 301) (by decide +kernel))) rfl
theorem wm_281 : Cond.fieldLink "LostRoom" 175 "LostRoom$Thing" "trunk" "I" ∈ ml_TB := ml_inTB (List.mem_append_right _ (List.mem_of_getElem? (i := 327) (by decide +kernel))) rfl
theorem wm_282 : Cond.fieldLink "LostRoom" 178 "LostRoom$Thing" "wet" "Z" ∈ ml_TB := ml_inTB (List.mem_append_right _ (List.mem_of_getElem? (i := 328) (by decide +kernel))) rfl
theorem wm_283 : Cond.code yX10_isTrunk cX10_isTrunk 2 (some .boolean) ∈ ml_TB := ml_inTB (List.mem_append_right _ (List.mem_of_getElem? (i := 279) (by decide +kernel))) rfl
theorem wm_284 : Cond.instanceMethod ⟨"LostRoom", "isTrunk", "(I)Z"⟩ ∈ ml_TB := ml_inTB (List.mem_append_right _ (List.mem_of_getElem? (i := 278) (by decide +kernel))) rfl
theorem wm_285 : Cond.selects "LostRoom" ⟨"LostRoom", "isTrunk", "(I)Z"⟩ ⟨"LostRoom", "isTrunk", "(I)Z"⟩ ∈ ml_TB := ml_inTB (List.mem_append_left _ (List.mem_of_getElem? (i := 2) (by decide +kernel))) rfl
theorem wm_286 : Cond.methodLink "LostRoom" 148 ⟨"LostRoom", "isTrunk", "(I)Z"⟩ ∈ ml_TB := ml_inTB (List.mem_append_right _ (List.mem_of_getElem? (i := 276) (by decide +kernel))) rfl
theorem wm_287 : Cond.code yX10_lies cX10_lies 4 (some .int) ∈ ml_TB := ml_inTB (List.mem_append_right _ (List.mem_of_getElem? (i := 364) (by decide +kernel))) rfl
theorem wm_288 : Cond.instanceMethod ⟨"LostRoom", "lies", "(IIZ)I"⟩ ∈ ml_TB := ml_inTB (List.mem_append_right _ (List.mem_of_getElem? (i := 362) (by decide +kernel))) rfl
theorem wm_289 : Cond.selects "LostRoom" ⟨"LostRoom", "lies", "(IIZ)I"⟩ ⟨"LostRoom", "lies", "(IIZ)I"⟩ ∈ ml_TB := ml_inTB (List.mem_append_right _ (List.mem_of_getElem? (i := 363) (by decide +kernel))) rfl
theorem wm_290 : Cond.methodLink "LostRoomLaw" 41 ⟨"LostRoom", "lies", "(IIZ)I"⟩ ∈ ml_TB := ml_inTB (List.mem_append_right _ (List.mem_of_getElem? (i := 361) (by decide +kernel))) rfl
theorem wm_291 : Cond.code yX10_thing cX10_thing 8 (some .int) ∈ ml_TB := ml_inTB (List.mem_append_right _ (List.mem_of_getElem? (i := 291) (by decide +kernel))) rfl
theorem wm_292 : Cond.instanceMethod ⟨"LostRoom", "thing", "(IIIII)I"⟩ ∈ ml_TB := ml_inTB (List.mem_append_right _ (List.mem_of_getElem? (i := 289) (by decide +kernel))) rfl
theorem wm_293 : Cond.selects "LostRoom" ⟨"LostRoom", "thing", "(IIIII)I"⟩ ⟨"LostRoom", "thing", "(IIIII)I"⟩ ∈ ml_TB := ml_inTB (List.mem_append_right _ (List.mem_of_getElem? (i := 290) (by decide +kernel))) rfl
theorem wm_294 : Cond.methodLink "LostRoomLaw" 37 ⟨"LostRoom", "thing", "(IIIII)I"⟩ ∈ ml_TB := ml_inTB (List.mem_append_right _ (List.mem_of_getElem? (i := 288) (by decide +kernel))) rfl
theorem wm_295 : Cond.methodLink "LostRoom" 405 ⟨"java/lang/Math", "abs", "(I)I"⟩ ∈ ml_TB := ml_inTB (List.mem_append_right _ (List.mem_of_getElem? (i := 411) (by decide +kernel))) rfl
theorem wm_296 : Cond.fieldLink "LostRoom" 399 "LostRoom$Thing" "number" "I" ∈ ml_TB := ml_inTB (List.mem_append_right _ (List.mem_of_getElem? (i := 321) (by decide +kernel))) rfl
theorem wm_297 : Cond.fieldLink "LostRoom" 219 "LostRoom$Book" "trunks" "[LLostRoom$Trunk;" ∈ ml_TB := ml_inTB (List.mem_append_right _ (List.mem_of_getElem? (i := 41) (by decide +kernel))) rfl
theorem wm_298 : Cond.fieldLink "LostRoom" 381 "LostRoom$Trunk" "lock" "I" ∈ ml_TB := ml_inTB (List.mem_append_right _ (List.mem_of_getElem? (i := 663) (by decide +kernel))) rfl
theorem wm_299 : Cond.code yX10_turns cX10_turns 6 (some .boolean) ∈ ml_TB := ml_inTB (List.mem_append_right _ (List.mem_of_getElem? (i := 410) (by decide +kernel))) rfl
theorem wm_300 : Cond.instanceMethod ⟨"LostRoom", "turns", "(II)Z"⟩ ∈ ml_TB := ml_inTB (List.mem_append_right _ (List.mem_of_getElem? (i := 409) (by decide +kernel))) rfl
theorem wm_301 : Cond.selects "LostRoom" ⟨"LostRoom", "turns", "(II)Z"⟩ ⟨"LostRoom", "turns", "(II)Z"⟩ ∈ ml_TB := ml_inTB (List.mem_append_left _ (List.mem_of_getElem? (i := 12) (by decide +kernel))) rfl
theorem wm_302 : Cond.methodLink "LostRoom" 402 ⟨"LostRoom", "turns", "(II)Z"⟩ ∈ ml_TB := ml_inTB (List.mem_append_right _ (List.mem_of_getElem? (i := 407) (by decide +kernel))) rfl
theorem wm_303 : Cond.fieldLink "LostRoom" 210 "LostRoom$Thing" "kind" "I" ∈ ml_TB := ml_inTB (List.mem_append_right _ (List.mem_of_getElem? (i := 312) (by decide +kernel))) rfl
theorem wm_304 : Cond.code yX10_opened cX10_opened 4 (some .int) ∈ ml_TB := ml_inTB (List.mem_append_right _ (List.mem_of_getElem? (i := 406) (by decide +kernel))) rfl
theorem wm_305 : Cond.instanceMethod ⟨"LostRoom", "opened", "(LLostRoom$Thing;)I"⟩ ∈ ml_TB := ml_inTB (List.mem_append_right _ (List.mem_of_getElem? (i := 405) (by decide +kernel))) rfl
theorem wm_306 : Cond.selects "LostRoom" ⟨"LostRoom", "opened", "(LLostRoom$Thing;)I"⟩ ⟨"LostRoom", "opened", "(LLostRoom$Thing;)I"⟩ ∈ ml_TB := ml_inTB (List.mem_append_left _ (List.mem_of_getElem? (i := 11) (by decide +kernel))) rfl
theorem wm_307 : Cond.methodLink "LostRoom" 213 ⟨"LostRoom", "opened", "(LLostRoom$Thing;)I"⟩ ∈ ml_TB := ml_inTB (List.mem_append_right _ (List.mem_of_getElem? (i := 403) (by decide +kernel))) rfl
theorem wm_308 : Cond.fieldLink "LostRoom$Sharings" 115 "LostRoom$Lodger" "till" "I" ∈ ml_TB := ml_inTB (List.mem_append_right _ (List.mem_of_getElem? (i := 635) (by decide +kernel))) rfl
theorem wm_309 : Cond.fieldLink "LostRoom$Sharings" 56 "LostRoom$Sharings" "lodgerCount" "I" ∈ ml_TB := ml_inTB (List.mem_append_right _ (List.mem_of_getElem? (i := 96) (by decide +kernel))) rfl
theorem wm_310 : Cond.fieldLink "LostRoom$Sharings" 125 "LostRoom$Thing" "owners" "I" ∈ ml_TB := ml_inTB (List.mem_append_right _ (List.mem_of_getElem? (i := 323) (by decide +kernel))) rfl
theorem wm_311 : Cond.code yX10_has cX10_has 2 (some .boolean) ∈ ml_TB := ml_inTB (List.mem_append_right _ (List.mem_of_getElem? (i := 418) (by decide +kernel))) rfl
theorem wm_312 : Cond.static ⟨"LostRoom", "has", "(II)Z"⟩ ∈ ml_TB := ml_inTB (List.mem_append_right _ (List.mem_of_getElem? (i := 417) (by decide +kernel))) rfl
theorem wm_313 : Cond.fieldLink "LostRoom$Sharings" 120 "LostRoom$Thing" "trunk" "I" ∈ ml_TB := ml_inTB (List.mem_append_right _ (List.mem_of_getElem? (i := 326) (by decide +kernel))) rfl
theorem wm_314 : Cond.code yJ7_fill_53178 cJ7_fill_53178 4 none ∈ ml_TB := ml_inTB (List.mem_append_right _ (List.mem_of_getElem? (i := 467) (by decide +kernel))) rfl
theorem wm_315 : Cond.static ⟨"java/util/Arrays", "fill", "([II)V"⟩ ∈ ml_TB := ml_inTB (List.mem_append_right _ (List.mem_of_getElem? (i := 466) (by decide +kernel))) rfl
theorem wm_316 : Cond.methodLink "LostRoom$Sharings" 75 ⟨"java/util/Arrays", "fill", "([II)V"⟩ ∈ ml_TB := ml_inTB (List.mem_append_right _ (List.mem_of_getElem? (i := 465) (by decide +kernel))) rfl
theorem wm_317 : Cond.fieldLink "LostRoom$Sharings" 72 "LostRoom$Sharings" "least" "I" ∈ ml_TB := ml_inTB (List.mem_append_right _ (List.mem_of_getElem? (i := 87) (by decide +kernel))) rfl
theorem wm_318 : Cond.methodLink "LostRoom$Sharings" 109 ⟨"java/lang/System", "arraycopy", "(Ljava/lang/Object;ILjava/lang/Object;II)V"⟩ ∈ ml_TB := ml_inTB (List.mem_append_right _ (List.mem_of_getElem? (i := 480) (by decide +kernel))) rfl
theorem wm_319 : Cond.fieldLink "LostRoom$Sharings" 52 "LostRoom$Sharings" "trunkCount" "I" ∈ ml_TB := ml_inTB (List.mem_append_right _ (List.mem_of_getElem? (i := 95) (by decide +kernel))) rfl
theorem wm_320 : Cond.fieldLink "LostRoom$Sharings" 106 "LostRoom$Trunk" "above" "I" ∈ ml_TB := ml_inTB (List.mem_append_right _ (List.mem_of_getElem? (i := 666) (by decide +kernel))) rfl
theorem wm_321 : Cond.fieldLink "LostRoom$Sharings" 101 "LostRoom$Trunk" "below" "I" ∈ ml_TB := ml_inTB (List.mem_append_right _ (List.mem_of_getElem? (i := 669) (by decide +kernel))) rfl
theorem wm_322 : Cond.fieldLink "LostRoom$Sharings" 47 "LostRoom$Sharings" "trunks" "[LLostRoom$Trunk;" ∈ ml_TB := ml_inTB (List.mem_append_right _ (List.mem_of_getElem? (i := 94) (by decide +kernel))) rfl
theorem wm_323 : Cond.code yX7_give cX7_give 6 none ∈ ml_TB := ml_inTB (List.mem_append_right _ (List.mem_of_getElem? (i := 475) (by decide +kernel))) rfl
theorem wm_324 : Cond.static ⟨"LostRoom$Sharings", "give", "(LLostRoom$Sharings;III)V"⟩ ∈ ml_TB := ml_inTB (List.mem_append_right _ (List.mem_of_getElem? (i := 474) (by decide +kernel))) rfl
theorem wm_325 : Cond.methodLink "LostRoom$Sharings" 81 ⟨"LostRoom$Sharings", "give", "(LLostRoom$Sharings;III)V"⟩ ∈ ml_TB := ml_inTB (List.mem_append_right _ (List.mem_of_getElem? (i := 473) (by decide +kernel))) rfl
theorem wm_326 : Cond.code yX7_open cX7_open 6 (some .int) ∈ ml_TB := ml_inTB (List.mem_append_right _ (List.mem_of_getElem? (i := 486) (by decide +kernel))) rfl
theorem wm_327 : Cond.instanceMethod ⟨"LostRoom$Sharings", "open", "(II)I"⟩ ∈ ml_TB := ml_inTB (List.mem_append_right _ (List.mem_of_getElem? (i := 485) (by decide +kernel))) rfl
theorem wm_328 : Cond.selects "LostRoom$Sharings" ⟨"LostRoom$Sharings", "open", "(II)I"⟩ ⟨"LostRoom$Sharings", "open", "(II)I"⟩ ∈ ml_TB := ml_inTB (List.mem_append_left _ (List.mem_of_getElem? (i := 21) (by decide +kernel))) rfl
theorem wm_329 : Cond.methodLink "LostRoom$Sharings" 89 ⟨"LostRoom$Sharings", "open", "(II)I"⟩ ∈ ml_TB := ml_inTB (List.mem_append_right _ (List.mem_of_getElem? (i := 483) (by decide +kernel))) rfl
theorem wm_330 : Cond.code yX7_note cX7_note 3 none ∈ ml_TB := ml_inTB (List.mem_append_right _ (List.mem_of_getElem? (i := 479) (by decide +kernel))) rfl
theorem wm_331 : Cond.instanceMethod ⟨"LostRoom$Sharings", "note", "(I)V"⟩ ∈ ml_TB := ml_inTB (List.mem_append_right _ (List.mem_of_getElem? (i := 478) (by decide +kernel))) rfl
theorem wm_332 : Cond.selects "LostRoom$Sharings" ⟨"LostRoom$Sharings", "note", "(I)V"⟩ ⟨"LostRoom$Sharings", "note", "(I)V"⟩ ∈ ml_TB := ml_inTB (List.mem_append_left _ (List.mem_of_getElem? (i := 20) (by decide +kernel))) rfl
theorem wm_333 : Cond.methodLink "LostRoom$Sharings" 97 ⟨"LostRoom$Sharings", "note", "(I)V"⟩ ∈ ml_TB := ml_inTB (List.mem_append_right _ (List.mem_of_getElem? (i := 476) (by decide +kernel))) rfl
theorem wm_334 : Cond.fieldLink "LostRoom$Sharings" 41 "LostRoom$Book" "trunks" "[LLostRoom$Trunk;" ∈ ml_TB := ml_inTB (List.mem_append_right _ (List.mem_of_getElem? (i := 40) (by decide +kernel))) rfl
theorem wm_335 : Cond.fieldLink "LostRoom$Sharings" 48 "LostRoom$Book" "trunkCount" "I" ∈ ml_TB := ml_inTB (List.mem_append_right _ (List.mem_of_getElem? (i := 45) (by decide +kernel))) rfl
theorem wm_336 : Cond.fieldLink "LostRoom$Sharings" 53 "LostRoom$Book" "lodgerCount" "I" ∈ ml_TB := ml_inTB (List.mem_append_right _ (List.mem_of_getElem? (i := 42) (by decide +kernel))) rfl
theorem wm_337 : Cond.fieldLink "LostRoom$Sharings" 57 "LostRoom$Book" "lodgers" "[LLostRoom$Lodger;" ∈ ml_TB := ml_inTB (List.mem_append_right _ (List.mem_of_getElem? (i := 37) (by decide +kernel))) rfl
theorem wm_338 : Cond.code yX7_compareYears cX7_compareYears 4 none ∈ ml_TB := ml_inTB (List.mem_append_right _ (List.mem_of_getElem? (i := 460) (by decide +kernel))) rfl
theorem wm_339 : Cond.instanceMethod ⟨"LostRoom$Sharings", "compareYears", "([LLostRoom$Lodger;)V"⟩ ∈ ml_TB := ml_inTB (List.mem_append_right _ (List.mem_of_getElem? (i := 459) (by decide +kernel))) rfl
theorem wm_340 : Cond.selects "LostRoom$Sharings" ⟨"LostRoom$Sharings", "compareYears", "([LLostRoom$Lodger;)V"⟩ ⟨"LostRoom$Sharings", "compareYears", "([LLostRoom$Lodger;)V"⟩ ∈ ml_TB := ml_inTB (List.mem_append_left _ (List.mem_of_getElem? (i := 17) (by decide +kernel))) rfl
theorem wm_341 : Cond.methodLink "LostRoom$Sharings" 61 ⟨"LostRoom$Sharings", "compareYears", "([LLostRoom$Lodger;)V"⟩ ∈ ml_TB := ml_inTB (List.mem_append_right _ (List.mem_of_getElem? (i := 457) (by decide +kernel))) rfl
theorem wm_342 : Cond.code yX7_countStrangers cX7_countStrangers 6 none ∈ ml_TB := ml_inTB (List.mem_append_right _ (List.mem_of_getElem? (i := 464) (by decide +kernel))) rfl
theorem wm_343 : Cond.instanceMethod ⟨"LostRoom$Sharings", "countStrangers", "([LLostRoom$Thing;I)V"⟩ ∈ ml_TB := ml_inTB (List.mem_append_right _ (List.mem_of_getElem? (i := 463) (by decide +kernel))) rfl
theorem wm_344 : Cond.selects "LostRoom$Sharings" ⟨"LostRoom$Sharings", "countStrangers", "([LLostRoom$Thing;I)V"⟩ ⟨"LostRoom$Sharings", "countStrangers", "([LLostRoom$Thing;I)V"⟩ ∈ ml_TB := ml_inTB (List.mem_append_left _ (List.mem_of_getElem? (i := 18) (by decide +kernel))) rfl
theorem wm_345 : Cond.methodLink "LostRoom$Sharings" 65 ⟨"LostRoom$Sharings", "countStrangers", "([LLostRoom$Thing;I)V"⟩ ∈ ml_TB := ml_inTB (List.mem_append_right _ (List.mem_of_getElem? (i := 461) (by decide +kernel))) rfl
theorem wm_346 : Cond.code yX7_findCovers cX7_findCovers 6 none ∈ ml_TB := ml_inTB (List.mem_append_right _ (List.mem_of_getElem? (i := 472) (by decide +kernel))) rfl
theorem wm_347 : Cond.instanceMethod ⟨"LostRoom$Sharings", "findCovers", "([LLostRoom$Thing;I)V"⟩ ∈ ml_TB := ml_inTB (List.mem_append_right _ (List.mem_of_getElem? (i := 471) (by decide +kernel))) rfl
theorem wm_348 : Cond.selects "LostRoom$Sharings" ⟨"LostRoom$Sharings", "findCovers", "([LLostRoom$Thing;I)V"⟩ ⟨"LostRoom$Sharings", "findCovers", "([LLostRoom$Thing;I)V"⟩ ∈ ml_TB := ml_inTB (List.mem_append_left _ (List.mem_of_getElem? (i := 19) (by decide +kernel))) rfl
theorem wm_349 : Cond.methodLink "LostRoom$Sharings" 69 ⟨"LostRoom$Sharings", "findCovers", "([LLostRoom$Thing;I)V"⟩ ∈ ml_TB := ml_inTB (List.mem_append_right _ (List.mem_of_getElem? (i := 469) (by decide +kernel))) rfl
theorem wm_350 : Cond.code yX7_gather cX7_gather 6 none ∈ ml_TB := ml_inTB (List.mem_append_right _ (List.mem_of_getElem? (i := 456) (by decide +kernel))) rfl
theorem wm_351 : Cond.instanceMethod ⟨"LostRoom$Sharings", "gather", "(LLostRoom$Book;[LLostRoom$Thing;I)V"⟩ ∈ ml_TB := ml_inTB (List.mem_append_right _ (List.mem_of_getElem? (i := 454) (by decide +kernel))) rfl
theorem wm_352 : Cond.selects "LostRoom$Sharings" ⟨"LostRoom$Sharings", "gather", "(LLostRoom$Book;[LLostRoom$Thing;I)V"⟩ ⟨"LostRoom$Sharings", "gather", "(LLostRoom$Book;[LLostRoom$Thing;I)V"⟩ ∈ ml_TB := ml_inTB (List.mem_append_right _ (List.mem_of_getElem? (i := 455) (by decide +kernel))) rfl
theorem wm_353 : Cond.methodLink "LostRoom" 414 ⟨"LostRoom$Sharings", "gather", "(LLostRoom$Book;[LLostRoom$Thing;I)V"⟩ ∈ ml_TB := ml_inTB (List.mem_append_right _ (List.mem_of_getElem? (i := 453) (by decide +kernel))) rfl
theorem wm_354 : Cond.code yX10_isRow cX10_isRow 1 (some .boolean) ∈ ml_TB := ml_inTB (List.mem_append_right _ (List.mem_of_getElem? (i := 256) (by decide +kernel))) rfl
theorem wm_355 : Cond.static ⟨"LostRoom", "isRow", "(I)Z"⟩ ∈ ml_TB := ml_inTB (List.mem_append_right _ (List.mem_of_getElem? (i := 255) (by decide +kernel))) rfl
theorem wm_356 : Cond.methodLink "LostRoom" 82 ⟨"LostRoom", "isRow", "(I)Z"⟩ ∈ ml_TB := ml_inTB (List.mem_append_right _ (List.mem_of_getElem? (i := 254) (by decide +kernel))) rfl
theorem wm_357 : Cond.code yX10_refreshSharings cX10_refreshSharings 1 none ∈ ml_TB := ml_inTB (List.mem_append_right _ (List.mem_of_getElem? (i := 452) (by decide +kernel))) rfl
theorem wm_358 : Cond.instanceMethod ⟨"LostRoom", "refreshSharings", "()V"⟩ ∈ ml_TB := ml_inTB (List.mem_append_right _ (List.mem_of_getElem? (i := 451) (by decide +kernel))) rfl
theorem wm_359 : Cond.selects "LostRoom" ⟨"LostRoom", "refreshSharings", "()V"⟩ ⟨"LostRoom", "refreshSharings", "()V"⟩ ∈ ml_TB := ml_inTB (List.mem_append_left _ (List.mem_of_getElem? (i := 16) (by decide +kernel))) rfl
theorem wm_360 : Cond.methodLink "LostRoom" 243 ⟨"LostRoom", "refreshSharings", "()V"⟩ ∈ ml_TB := ml_inTB (List.mem_append_right _ (List.mem_of_getElem? (i := 449) (by decide +kernel))) rfl
theorem wm_361 : Cond.fieldLink "LostRoom" 246 "LostRoom$Sharings" "least" "I" ∈ ml_TB := ml_inTB (List.mem_append_right _ (List.mem_of_getElem? (i := 88) (by decide +kernel))) rfl
theorem wm_362 : Cond.fieldLink "LostRoom" 249 "LostRoom$Sharings" "first" "[I" ∈ ml_TB := ml_inTB (List.mem_append_right _ (List.mem_of_getElem? (i := 90) (by decide +kernel))) rfl
theorem wm_363 : Cond.code yJ7_copyOf_59c91 cJ7_copyOf_59c91 3 (some (.array .int)) ∈ ml_TB := ml_inTB (List.mem_append_right _ (List.mem_of_getElem? (i := 489) (by decide +kernel))) rfl
theorem wm_364 : Cond.static ⟨"java/util/Arrays", "copyOf", "([II)[I"⟩ ∈ ml_TB := ml_inTB (List.mem_append_right _ (List.mem_of_getElem? (i := 488) (by decide +kernel))) rfl
theorem wm_365 : Cond.methodLink "LostRoom" 252 ⟨"java/util/Arrays", "copyOf", "([II)[I"⟩ ∈ ml_TB := ml_inTB (List.mem_append_right _ (List.mem_of_getElem? (i := 487) (by decide +kernel))) rfl
theorem wm_366 : Cond.methodLink "LostRoom" 216 ⟨"LostRoom", "has", "(II)Z"⟩ ∈ ml_TB := ml_inTB (List.mem_append_right _ (List.mem_of_getElem? (i := 416) (by decide +kernel))) rfl
theorem wm_367 : Cond.fieldLink "LostRoom" 408 "LostRoom$Trunk" "below" "I" ∈ ml_TB := ml_inTB (List.mem_append_right _ (List.mem_of_getElem? (i := 671) (by decide +kernel))) rfl
theorem wm_368 : Cond.code yX10_canFollow cX10_canFollow 3 (some .boolean) ∈ ml_TB := ml_inTB (List.mem_append_right _ (List.mem_of_getElem? (i := 440) (by decide +kernel))) rfl
theorem wm_369 : Cond.instanceMethod ⟨"LostRoom", "canFollow", "(II)Z"⟩ ∈ ml_TB := ml_inTB (List.mem_append_right _ (List.mem_of_getElem? (i := 439) (by decide +kernel))) rfl
theorem wm_370 : Cond.selects "LostRoom" ⟨"LostRoom", "canFollow", "(II)Z"⟩ ⟨"LostRoom", "canFollow", "(II)Z"⟩ ∈ ml_TB := ml_inTB (List.mem_append_left _ (List.mem_of_getElem? (i := 14) (by decide +kernel))) rfl
theorem wm_371 : Cond.methodLink "LostRoom" 411 ⟨"LostRoom", "canFollow", "(II)Z"⟩ ∈ ml_TB := ml_inTB (List.mem_append_right _ (List.mem_of_getElem? (i := 437) (by decide +kernel))) rfl
theorem wm_372 : Cond.code yX10_ordersOfAll cX10_ordersOfAll 5 (some .int) ∈ ml_TB := ml_inTB (List.mem_append_right _ (List.mem_of_getElem? (i := 444) (by decide +kernel))) rfl
theorem wm_373 : Cond.instanceMethod ⟨"LostRoom", "ordersOfAll", "()I"⟩ ∈ ml_TB := ml_inTB (List.mem_append_right _ (List.mem_of_getElem? (i := 443) (by decide +kernel))) rfl
theorem wm_374 : Cond.selects "LostRoom" ⟨"LostRoom", "ordersOfAll", "()I"⟩ ⟨"LostRoom", "ordersOfAll", "()I"⟩ ∈ ml_TB := ml_inTB (List.mem_append_left _ (List.mem_of_getElem? (i := 15) (by decide +kernel))) rfl
theorem wm_375 : Cond.methodLink "LostRoom" 239 ⟨"LostRoom", "ordersOfAll", "()I"⟩ ∈ ml_TB := ml_inTB (List.mem_append_right _ (List.mem_of_getElem? (i := 441) (by decide +kernel))) rfl
theorem wm_376 : Cond.code yX10_firstToFollow cX10_firstToFollow 3 (some .int) ∈ ml_TB := ml_inTB (List.mem_append_right _ (List.mem_of_getElem? (i := 436) (by decide +kernel))) rfl
theorem wm_377 : Cond.instanceMethod ⟨"LostRoom", "firstToFollow", "(I)I"⟩ ∈ ml_TB := ml_inTB (List.mem_append_right _ (List.mem_of_getElem? (i := 435) (by decide +kernel))) rfl
theorem wm_378 : Cond.selects "LostRoom" ⟨"LostRoom", "firstToFollow", "(I)I"⟩ ⟨"LostRoom", "firstToFollow", "(I)I"⟩ ∈ ml_TB := ml_inTB (List.mem_append_left _ (List.mem_of_getElem? (i := 13) (by decide +kernel))) rfl
theorem wm_379 : Cond.methodLink "LostRoom" 236 ⟨"LostRoom", "firstToFollow", "(I)I"⟩ ∈ ml_TB := ml_inTB (List.mem_append_right _ (List.mem_of_getElem? (i := 433) (by decide +kernel))) rfl
theorem wm_380 : Cond.methodLink "LostRoom$Journeys" 38 ⟨"java/lang/Math", "min", "(II)I"⟩ ∈ ml_TB := ml_inTB (List.mem_append_right _ (List.mem_of_getElem? (i := 541) (by decide +kernel))) rfl
theorem wm_381 : Cond.fieldLink "LostRoom$Journeys" 44 "LostRoom$Journeys" "size" "I" ∈ ml_TB := ml_inTB (List.mem_append_right _ (List.mem_of_getElem? (i := 174) (by decide +kernel))) rfl
theorem wm_382 : Cond.fieldLink "LostRoom$Journeys" 34 "LostRoom$Thing" "kind" "I" ∈ ml_TB := ml_inTB (List.mem_append_right _ (List.mem_of_getElem? (i := 311) (by decide +kernel))) rfl
theorem wm_383 : Cond.fieldLink "LostRoom$Journeys" 62 "LostRoom$Thing" "number" "I" ∈ ml_TB := ml_inTB (List.mem_append_right _ (List.mem_of_getElem? (i := 320) (by decide +kernel))) rfl
theorem wm_384 : Cond.fieldLink "LostRoom$Journeys" 65 "LostRoom$Thing" "till" "I" ∈ ml_TB := ml_inTB (List.mem_append_right _ (List.mem_of_getElem? (i := 317) (by decide +kernel))) rfl
theorem wm_385 : Cond.fieldLink "LostRoom$Journeys" 53 "LostRoom$Thing" "from" "I" ∈ ml_TB := ml_inTB (List.mem_append_right _ (List.mem_of_getElem? (i := 314) (by decide +kernel))) rfl
theorem wm_386 : Cond.methodLink "LostRoom$Journeys" 56 ⟨"java/lang/Math", "max", "(II)I"⟩ ∈ ml_TB := ml_inTB (List.mem_append_right _ (List.mem_of_getElem? (i := 554) (by decide +kernel))) rfl
theorem wm_387 : Cond.static ⟨"java/lang/Math", "max", "(II)I"⟩ ∈ ml_TB := ml_inTB (List.mem_append_right _ (List.mem_of_getElem? (i := 424) (by decide +kernel))) rfl
theorem wm_388 : Cond.code Lib.Math.max.name Lib.Math.max.code 2 (some .int) ∈ ml_TB := ml_inTB (List.mem_append_right _ (List.mem_of_getElem? (i := 425) (by decide +kernel))) rfl
theorem wm_389 : Cond.code yX3_canEnd cX3_canEnd 3 (some .boolean) ∈ ml_TB := ml_inTB (List.mem_append_right _ (List.mem_of_getElem? (i := 558) (by decide +kernel))) rfl
theorem wm_390 : Cond.instanceMethod ⟨"LostRoom$Journeys", "canEnd", "(II)Z"⟩ ∈ ml_TB := ml_inTB (List.mem_append_right _ (List.mem_of_getElem? (i := 557) (by decide +kernel))) rfl
theorem wm_391 : Cond.selects "LostRoom$Journeys" ⟨"LostRoom$Journeys", "canEnd", "(II)Z"⟩ ⟨"LostRoom$Journeys", "canEnd", "(II)Z"⟩ ∈ ml_TB := ml_inTB (List.mem_append_left _ (List.mem_of_getElem? (i := 25) (by decide +kernel))) rfl
theorem wm_392 : Cond.methodLink "LostRoom$Journeys" 59 ⟨"LostRoom$Journeys", "canEnd", "(II)Z"⟩ ∈ ml_TB := ml_inTB (List.mem_append_right _ (List.mem_of_getElem? (i := 555) (by decide +kernel))) rfl
theorem wm_393 : Cond.code yX3_findAhead cX3_findAhead 3 none ∈ ml_TB := ml_inTB (List.mem_append_right _ (List.mem_of_getElem? (i := 553) (by decide +kernel))) rfl
theorem wm_394 : Cond.instanceMethod ⟨"LostRoom$Journeys", "findAhead", "()V"⟩ ∈ ml_TB := ml_inTB (List.mem_append_right _ (List.mem_of_getElem? (i := 552) (by decide +kernel))) rfl
theorem wm_395 : Cond.selects "LostRoom$Journeys" ⟨"LostRoom$Journeys", "findAhead", "()V"⟩ ⟨"LostRoom$Journeys", "findAhead", "()V"⟩ ∈ ml_TB := ml_inTB (List.mem_append_left _ (List.mem_of_getElem? (i := 24) (by decide +kernel))) rfl
theorem wm_396 : Cond.methodLink "LostRoom$Journeys" 50 ⟨"LostRoom$Journeys", "findAhead", "()V"⟩ ∈ ml_TB := ml_inTB (List.mem_append_right _ (List.mem_of_getElem? (i := 550) (by decide +kernel))) rfl
theorem wm_397 : Cond.code yX3_findLasts cX3_findLasts 3 none ∈ ml_TB := ml_inTB (List.mem_append_right _ (List.mem_of_getElem? (i := 549) (by decide +kernel))) rfl
theorem wm_398 : Cond.instanceMethod ⟨"LostRoom$Journeys", "findLasts", "()V"⟩ ∈ ml_TB := ml_inTB (List.mem_append_right _ (List.mem_of_getElem? (i := 548) (by decide +kernel))) rfl
theorem wm_399 : Cond.selects "LostRoom$Journeys" ⟨"LostRoom$Journeys", "findLasts", "()V"⟩ ⟨"LostRoom$Journeys", "findLasts", "()V"⟩ ∈ ml_TB := ml_inTB (List.mem_append_left _ (List.mem_of_getElem? (i := 23) (by decide +kernel))) rfl
theorem wm_400 : Cond.methodLink "LostRoom$Journeys" 47 ⟨"LostRoom$Journeys", "findLasts", "()V"⟩ ∈ ml_TB := ml_inTB (List.mem_append_right _ (List.mem_of_getElem? (i := 546) (by decide +kernel))) rfl
theorem wm_401 : Cond.code yX3_gather cX3_gather 6 (some .int) ∈ ml_TB := ml_inTB (List.mem_append_right _ (List.mem_of_getElem? (i := 539) (by decide +kernel))) rfl
theorem wm_402 : Cond.instanceMethod ⟨"LostRoom$Journeys", "gather", "([LLostRoom$Thing;II)I"⟩ ∈ ml_TB := ml_inTB (List.mem_append_right _ (List.mem_of_getElem? (i := 537) (by decide +kernel))) rfl
theorem wm_403 : Cond.selects "LostRoom$Journeys" ⟨"LostRoom$Journeys", "gather", "([LLostRoom$Thing;II)I"⟩ ⟨"LostRoom$Journeys", "gather", "([LLostRoom$Thing;II)I"⟩ ∈ ml_TB := ml_inTB (List.mem_append_right _ (List.mem_of_getElem? (i := 538) (by decide +kernel))) rfl
theorem wm_404 : Cond.methodLink "LostRoom" 297 ⟨"LostRoom$Journeys", "gather", "([LLostRoom$Thing;II)I"⟩ ∈ ml_TB := ml_inTB (List.mem_append_right _ (List.mem_of_getElem? (i := 536) (by decide +kernel))) rfl
theorem wm_405 : Cond.code yX3_fewestPeople cX3_fewestPeople 3 (some .int) ∈ ml_TB := ml_inTB (List.mem_append_right _ (List.mem_of_getElem? (i := 545) (by decide +kernel))) rfl
theorem wm_406 : Cond.instanceMethod ⟨"LostRoom$Journeys", "fewestPeople", "()I"⟩ ∈ ml_TB := ml_inTB (List.mem_append_right _ (List.mem_of_getElem? (i := 543) (by decide +kernel))) rfl
theorem wm_407 : Cond.selects "LostRoom$Journeys" ⟨"LostRoom$Journeys", "fewestPeople", "()I"⟩ ⟨"LostRoom$Journeys", "fewestPeople", "()I"⟩ ∈ ml_TB := ml_inTB (List.mem_append_right _ (List.mem_of_getElem? (i := 544) (by decide +kernel))) rfl
theorem wm_408 : Cond.methodLink "LostRoom" 301 ⟨"LostRoom$Journeys", "fewestPeople", "()I"⟩ ∈ ml_TB := ml_inTB (List.mem_append_right _ (List.mem_of_getElem? (i := 542) (by decide +kernel))) rfl
theorem wm_409 : Cond.fieldLink "LostRoom" 223 "LostRoom$Trunk" "height" "I" ∈ ml_TB := ml_inTB (List.mem_append_right _ (List.mem_of_getElem? (i := 665) (by decide +kernel))) rfl
theorem wm_410 : Cond.methodLink "LostRoom" 233 ⟨"java/lang/Math", "min", "(II)I"⟩ ∈ ml_TB := ml_inTB (List.mem_append_right _ (List.mem_of_getElem? (i := 426) (by decide +kernel))) rfl
theorem wm_411 : Cond.methodLink "LostRoom" 228 ⟨"java/lang/Math", "max", "(II)I"⟩ ∈ ml_TB := ml_inTB (List.mem_append_right _ (List.mem_of_getElem? (i := 423) (by decide +kernel))) rfl
theorem wm_412 : Cond.fieldLink "LostRoom" 256 "LostRoom$Sharings" "all" "[I" ∈ ml_TB := ml_inTB (List.mem_append_right _ (List.mem_of_getElem? (i := 92) (by decide +kernel))) rfl
theorem wm_413 : Cond.code yX7_withPair cX7_withPair 4 (some .int) ∈ ml_TB := ml_inTB (List.mem_append_right _ (List.mem_of_getElem? (i := 510) (by decide +kernel))) rfl
theorem wm_414 : Cond.instanceMethod ⟨"LostRoom$Sharings", "withPair", "(III)I"⟩ ∈ ml_TB := ml_inTB (List.mem_append_right _ (List.mem_of_getElem? (i := 508) (by decide +kernel))) rfl
theorem wm_415 : Cond.selects "LostRoom$Sharings" ⟨"LostRoom$Sharings", "withPair", "(III)I"⟩ ⟨"LostRoom$Sharings", "withPair", "(III)I"⟩ ∈ ml_TB := ml_inTB (List.mem_append_right _ (List.mem_of_getElem? (i := 509) (by decide +kernel))) rfl
theorem wm_416 : Cond.methodLink "LostRoom" 259 ⟨"LostRoom$Sharings", "withPair", "(III)I"⟩ ∈ ml_TB := ml_inTB (List.mem_append_right _ (List.mem_of_getElem? (i := 507) (by decide +kernel))) rfl
theorem wm_417 : Cond.code yX10_firstTrunkFor cX10_firstTrunkFor 4 (some .int) ∈ ml_TB := ml_inTB (List.mem_append_right _ (List.mem_of_getElem? (i := 531) (by decide +kernel))) rfl
theorem wm_418 : Cond.instanceMethod ⟨"LostRoom", "firstTrunkFor", "(LLostRoom$Thing;[I)I"⟩ ∈ ml_TB := ml_inTB (List.mem_append_right _ (List.mem_of_getElem? (i := 530) (by decide +kernel))) rfl
theorem wm_419 : Cond.selects "LostRoom" ⟨"LostRoom", "firstTrunkFor", "(LLostRoom$Thing;[I)I"⟩ ⟨"LostRoom", "firstTrunkFor", "(LLostRoom$Thing;[I)I"⟩ ∈ ml_TB := ml_inTB (List.mem_append_left _ (List.mem_of_getElem? (i := 22) (by decide +kernel))) rfl
theorem wm_420 : Cond.methodLink "LostRoom" 266 ⟨"LostRoom", "firstTrunkFor", "(LLostRoom$Thing;[I)I"⟩ ∈ ml_TB := ml_inTB (List.mem_append_right _ (List.mem_of_getElem? (i := 528) (by decide +kernel))) rfl
theorem wm_421 : Cond.code yX7_isSharing cX7_isSharing 5 (some .boolean) ∈ ml_TB := ml_inTB (List.mem_append_right _ (List.mem_of_getElem? (i := 526) (by decide +kernel))) rfl
theorem wm_422 : Cond.instanceMethod ⟨"LostRoom$Sharings", "isSharing", "([I)Z"⟩ ∈ ml_TB := ml_inTB (List.mem_append_right _ (List.mem_of_getElem? (i := 524) (by decide +kernel))) rfl
theorem wm_423 : Cond.selects "LostRoom$Sharings" ⟨"LostRoom$Sharings", "isSharing", "([I)Z"⟩ ⟨"LostRoom$Sharings", "isSharing", "([I)Z"⟩ ∈ ml_TB := ml_inTB (List.mem_append_right _ (List.mem_of_getElem? (i := 525) (by decide +kernel))) rfl
theorem wm_424 : Cond.methodLink "LostRoom" 262 ⟨"LostRoom$Sharings", "isSharing", "([I)Z"⟩ ∈ ml_TB := ml_inTB (List.mem_append_right _ (List.mem_of_getElem? (i := 523) (by decide +kernel))) rfl
theorem wm_425 : Cond.code yX10_tell cX10_tell 2 (some .int) ∈ ml_TB := ml_inTB (List.mem_append_right _ (List.mem_of_getElem? (i := 267) (by decide +kernel))) rfl
theorem wm_426 : Cond.instanceMethod ⟨"LostRoom", "tell", "(I)I"⟩ ∈ ml_TB := ml_inTB (List.mem_append_right _ (List.mem_of_getElem? (i := 266) (by decide +kernel))) rfl
theorem wm_427 : Cond.selects "LostRoom" ⟨"LostRoom", "tell", "(I)I"⟩ ⟨"LostRoom", "tell", "(I)I"⟩ ∈ ml_TB := ml_inTB (List.mem_append_left _ (List.mem_of_getElem? (i := 1) (by decide +kernel))) rfl
theorem wm_428 : Cond.methodLink "LostRoom" 90 ⟨"LostRoom", "tell", "(I)I"⟩ ∈ ml_TB := ml_inTB (List.mem_append_right _ (List.mem_of_getElem? (i := 264) (by decide +kernel))) rfl
theorem wm_429 : Cond.fieldLink "LostRoom" 390 "LostRoom$Thing" "from" "I" ∈ ml_TB := ml_inTB (List.mem_append_right _ (List.mem_of_getElem? (i := 315) (by decide +kernel))) rfl
theorem wm_430 : Cond.fieldLink "LostRoom" 391 "LostRoom$Thing" "till" "I" ∈ ml_TB := ml_inTB (List.mem_append_right _ (List.mem_of_getElem? (i := 318) (by decide +kernel))) rfl
theorem wm_431 : Cond.code yX10_thingFact cX10_thingFact 4 (some .int) ∈ ml_TB := ml_inTB (List.mem_append_right _ (List.mem_of_getElem? (i := 376) (by decide +kernel))) rfl
theorem wm_432 : Cond.instanceMethod ⟨"LostRoom", "thingFact", "(II)I"⟩ ∈ ml_TB := ml_inTB (List.mem_append_right _ (List.mem_of_getElem? (i := 375) (by decide +kernel))) rfl
theorem wm_433 : Cond.selects "LostRoom" ⟨"LostRoom", "thingFact", "(II)I"⟩ ⟨"LostRoom", "thingFact", "(II)I"⟩ ∈ ml_TB := ml_inTB (List.mem_append_left _ (List.mem_of_getElem? (i := 9) (by decide +kernel))) rfl
theorem wm_434 : Cond.methodLink "LostRoom" 181 ⟨"LostRoom", "thingFact", "(II)I"⟩ ∈ ml_TB := ml_inTB (List.mem_append_right _ (List.mem_of_getElem? (i := 373) (by decide +kernel))) rfl
theorem wm_435 : Cond.fieldLink "LostRoom" 384 "LostRoom$Trunk" "above" "I" ∈ ml_TB := ml_inTB (List.mem_append_right _ (List.mem_of_getElem? (i := 668) (by decide +kernel))) rfl
theorem wm_436 : Cond.code yX10_thingsIn cX10_thingsIn 4 (some .int) ∈ ml_TB := ml_inTB (List.mem_append_right _ (List.mem_of_getElem? (i := 287) (by decide +kernel))) rfl
theorem wm_437 : Cond.instanceMethod ⟨"LostRoom", "thingsIn", "(I)I"⟩ ∈ ml_TB := ml_inTB (List.mem_append_right _ (List.mem_of_getElem? (i := 286) (by decide +kernel))) rfl
theorem wm_438 : Cond.selects "LostRoom" ⟨"LostRoom", "thingsIn", "(I)I"⟩ ⟨"LostRoom", "thingsIn", "(I)I"⟩ ∈ ml_TB := ml_inTB (List.mem_append_left _ (List.mem_of_getElem? (i := 4) (by decide +kernel))) rfl
theorem wm_439 : Cond.methodLink "LostRoom" 387 ⟨"LostRoom", "thingsIn", "(I)I"⟩ ∈ ml_TB := ml_inTB (List.mem_append_right _ (List.mem_of_getElem? (i := 284) (by decide +kernel))) rfl
theorem wm_440 : Cond.code yX10_trunkFact cX10_trunkFact 4 (some .int) ∈ ml_TB := ml_inTB (List.mem_append_right _ (List.mem_of_getElem? (i := 283) (by decide +kernel))) rfl
theorem wm_441 : Cond.instanceMethod ⟨"LostRoom", "trunkFact", "(II)I"⟩ ∈ ml_TB := ml_inTB (List.mem_append_right _ (List.mem_of_getElem? (i := 282) (by decide +kernel))) rfl
theorem wm_442 : Cond.selects "LostRoom" ⟨"LostRoom", "trunkFact", "(II)I"⟩ ⟨"LostRoom", "trunkFact", "(II)I"⟩ ∈ ml_TB := ml_inTB (List.mem_append_left _ (List.mem_of_getElem? (i := 3) (by decide +kernel))) rfl
theorem wm_443 : Cond.methodLink "LostRoom" 151 ⟨"LostRoom", "trunkFact", "(II)I"⟩ ∈ ml_TB := ml_inTB (List.mem_append_right _ (List.mem_of_getElem? (i := 280) (by decide +kernel))) rfl
theorem wm_444 : Cond.methodLink "LostRoom$Bit" 1 ⟨"java/lang/Object", "<init>", "()V"⟩ ∈ ml_TB := ml_inTB (List.mem_append_right _ (List.mem_of_getElem? (i := 706) (by decide +kernel))) rfl
theorem wm_445 : Cond.fieldLink "LostRoom$Bit" 7 "LostRoom$Bit" "hand" "I" ∈ ml_TB := ml_inTB (List.mem_append_right _ (List.mem_of_getElem? (i := 707) (by decide +kernel))) rfl
theorem wm_446 : Cond.fieldLink "LostRoom$Bit" 13 "LostRoom$Bit" "fold" "I" ∈ ml_TB := ml_inTB (List.mem_append_right _ (List.mem_of_getElem? (i := 708) (by decide +kernel))) rfl
theorem wm_447 : Cond.fieldLink "LostRoom$Bit" 16 "LostRoom$Bit" "left" "I" ∈ ml_TB := ml_inTB (List.mem_append_right _ (List.mem_of_getElem? (i := 709) (by decide +kernel))) rfl
theorem wm_448 : Cond.fieldLink "LostRoom$Bit" 19 "LostRoom$Bit" "right" "I" ∈ ml_TB := ml_inTB (List.mem_append_right _ (List.mem_of_getElem? (i := 710) (by decide +kernel))) rfl
theorem wm_449 : Cond.instantiable "LostRoom$Bit" 4 ∈ ml_TB := ml_inTB (List.mem_append_right _ (List.mem_of_getElem? (i := 702) (by decide +kernel))) rfl
theorem wm_450 : Cond.initialized "LostRoom$Bit" ∈ ml_TB := ml_inTB (List.mem_append_right _ (List.mem_of_getElem? (i := 13) (by decide +kernel))) rfl
theorem wm_451 : Cond.code yX0_init cX0_init 5 none ∈ ml_TB := ml_inTB (List.mem_append_right _ (List.mem_of_getElem? (i := 705) (by decide +kernel))) rfl
theorem wm_452 : Cond.instanceMethod ⟨"LostRoom$Bit", "<init>", "(IIII)V"⟩ ∈ ml_TB := ml_inTB (List.mem_append_right _ (List.mem_of_getElem? (i := 704) (by decide +kernel))) rfl
theorem wm_453 : Cond.methodLink "LostRoom" 281 ⟨"LostRoom$Bit", "<init>", "(IIII)V"⟩ ∈ ml_TB := ml_inTB (List.mem_append_right _ (List.mem_of_getElem? (i := 703) (by decide +kernel))) rfl
theorem wm_454 : Cond.fieldLink "LostRoom$Lays" 28 "LostRoom$Lays" "size" "I" ∈ ml_TB := ml_inTB (List.mem_append_right _ (List.mem_of_getElem? (i := 145) (by decide +kernel))) rfl
theorem wm_455 : Cond.code yX4_slot cX4_slot 2 (some .int) ∈ ml_TB := ml_inTB (List.mem_append_right _ (List.mem_of_getElem? (i := 739) (by decide +kernel))) rfl
theorem wm_456 : Cond.static ⟨"LostRoom$Lays", "slot", "(II)I"⟩ ∈ ml_TB := ml_inTB (List.mem_append_right _ (List.mem_of_getElem? (i := 738) (by decide +kernel))) rfl
theorem wm_457 : Cond.methodLink "LostRoom$Lays" 42 ⟨"LostRoom$Lays", "slot", "(II)I"⟩ ∈ ml_TB := ml_inTB (List.mem_append_right _ (List.mem_of_getElem? (i := 737) (by decide +kernel))) rfl
theorem wm_458 : Cond.code yX4_nextOf cX4_nextOf 6 (some .int) ∈ ml_TB := ml_inTB (List.mem_append_right _ (List.mem_of_getElem? (i := 751) (by decide +kernel))) rfl
theorem wm_459 : Cond.instanceMethod ⟨"LostRoom$Lays", "nextOf", "(III)I"⟩ ∈ ml_TB := ml_inTB (List.mem_append_right _ (List.mem_of_getElem? (i := 750) (by decide +kernel))) rfl
theorem wm_460 : Cond.selects "LostRoom$Lays" ⟨"LostRoom$Lays", "nextOf", "(III)I"⟩ ⟨"LostRoom$Lays", "nextOf", "(III)I"⟩ ∈ ml_TB := ml_inTB (List.mem_append_left _ (List.mem_of_getElem? (i := 36) (by decide +kernel))) rfl
theorem wm_461 : Cond.methodLink "LostRoom$Lays" 59 ⟨"LostRoom$Lays", "nextOf", "(III)I"⟩ ∈ ml_TB := ml_inTB (List.mem_append_right _ (List.mem_of_getElem? (i := 748) (by decide +kernel))) rfl
theorem wm_462 : Cond.code yX0_meets cX0_meets 2 (some .boolean) ∈ ml_TB := ml_inTB (List.mem_append_right _ (List.mem_of_getElem? (i := 735) (by decide +kernel))) rfl
theorem wm_463 : Cond.instanceMethod ⟨"LostRoom$Bit", "meets", "(LLostRoom$Bit;)Z"⟩ ∈ ml_TB := ml_inTB (List.mem_append_right _ (List.mem_of_getElem? (i := 733) (by decide +kernel))) rfl
theorem wm_464 : Cond.selects "LostRoom$Bit" ⟨"LostRoom$Bit", "meets", "(LLostRoom$Bit;)Z"⟩ ⟨"LostRoom$Bit", "meets", "(LLostRoom$Bit;)Z"⟩ ∈ ml_TB := ml_inTB (List.mem_append_right _ (List.mem_of_getElem? (i := 734) (by decide +kernel))) rfl
theorem wm_465 : Cond.methodLink "LostRoom$Lays" 32 ⟨"LostRoom$Bit", "meets", "(LLostRoom$Bit;)Z"⟩ ∈ ml_TB := ml_inTB (List.mem_append_right _ (List.mem_of_getElem? (i := 732) (by decide +kernel))) rfl
theorem wm_466 : Cond.code yX4_follow cX4_follow 7 none ∈ ml_TB := ml_inTB (List.mem_append_right _ (List.mem_of_getElem? (i := 743) (by decide +kernel))) rfl
theorem wm_467 : Cond.instanceMethod ⟨"LostRoom$Lays", "follow", "(III)V"⟩ ∈ ml_TB := ml_inTB (List.mem_append_right _ (List.mem_of_getElem? (i := 742) (by decide +kernel))) rfl
theorem wm_468 : Cond.selects "LostRoom$Lays" ⟨"LostRoom$Lays", "follow", "(III)V"⟩ ⟨"LostRoom$Lays", "follow", "(III)V"⟩ ∈ ml_TB := ml_inTB (List.mem_append_left _ (List.mem_of_getElem? (i := 34) (by decide +kernel))) rfl
theorem wm_469 : Cond.methodLink "LostRoom$Lays" 46 ⟨"LostRoom$Lays", "follow", "(III)V"⟩ ∈ ml_TB := ml_inTB (List.mem_append_right _ (List.mem_of_getElem? (i := 740) (by decide +kernel))) rfl
theorem wm_470 : Cond.fieldLink "LostRoom$Lays" 50 "LostRoom$Lays" "fewest" "I" ∈ ml_TB := ml_inTB (List.mem_append_right _ (List.mem_of_getElem? (i := 139) (by decide +kernel))) rfl
theorem wm_471 : Cond.fieldLink "LostRoom$Lays" 53 "LostRoom$Lays" "all" "I" ∈ ml_TB := ml_inTB (List.mem_append_right _ (List.mem_of_getElem? (i := 141) (by decide +kernel))) rfl
theorem wm_472 : Cond.code yX4_findFirst cX4_findFirst 6 none ∈ ml_TB := ml_inTB (List.mem_append_right _ (List.mem_of_getElem? (i := 747) (by decide +kernel))) rfl
theorem wm_473 : Cond.instanceMethod ⟨"LostRoom$Lays", "findFirst", "()V"⟩ ∈ ml_TB := ml_inTB (List.mem_append_right _ (List.mem_of_getElem? (i := 746) (by decide +kernel))) rfl
theorem wm_474 : Cond.selects "LostRoom$Lays" ⟨"LostRoom$Lays", "findFirst", "()V"⟩ ⟨"LostRoom$Lays", "findFirst", "()V"⟩ ∈ ml_TB := ml_inTB (List.mem_append_left _ (List.mem_of_getElem? (i := 35) (by decide +kernel))) rfl
theorem wm_475 : Cond.methodLink "LostRoom$Lays" 56 ⟨"LostRoom$Lays", "findFirst", "()V"⟩ ∈ ml_TB := ml_inTB (List.mem_append_right _ (List.mem_of_getElem? (i := 744) (by decide +kernel))) rfl
theorem wm_476 : Cond.code yX4_gather cX4_gather 5 none ∈ ml_TB := ml_inTB (List.mem_append_right _ (List.mem_of_getElem? (i := 731) (by decide +kernel))) rfl
theorem wm_477 : Cond.instanceMethod ⟨"LostRoom$Lays", "gather", "([LLostRoom$Bit;I)V"⟩ ∈ ml_TB := ml_inTB (List.mem_append_right _ (List.mem_of_getElem? (i := 729) (by decide +kernel))) rfl
theorem wm_478 : Cond.selects "LostRoom$Lays" ⟨"LostRoom$Lays", "gather", "([LLostRoom$Bit;I)V"⟩ ⟨"LostRoom$Lays", "gather", "([LLostRoom$Bit;I)V"⟩ ∈ ml_TB := ml_inTB (List.mem_append_right _ (List.mem_of_getElem? (i := 730) (by decide +kernel))) rfl
theorem wm_479 : Cond.methodLink "LostRoom" 417 ⟨"LostRoom$Lays", "gather", "([LLostRoom$Bit;I)V"⟩ ∈ ml_TB := ml_inTB (List.mem_append_right _ (List.mem_of_getElem? (i := 728) (by decide +kernel))) rfl
theorem wm_480 : Cond.code yX10_refreshLays cX10_refreshLays 1 none ∈ ml_TB := ml_inTB (List.mem_append_right _ (List.mem_of_getElem? (i := 727) (by decide +kernel))) rfl
theorem wm_481 : Cond.instanceMethod ⟨"LostRoom", "refreshLays", "()V"⟩ ∈ ml_TB := ml_inTB (List.mem_append_right _ (List.mem_of_getElem? (i := 726) (by decide +kernel))) rfl
theorem wm_482 : Cond.selects "LostRoom" ⟨"LostRoom", "refreshLays", "()V"⟩ ⟨"LostRoom", "refreshLays", "()V"⟩ ∈ ml_TB := ml_inTB (List.mem_append_left _ (List.mem_of_getElem? (i := 33) (by decide +kernel))) rfl
theorem wm_483 : Cond.methodLink "LostRoom" 288 ⟨"LostRoom", "refreshLays", "()V"⟩ ∈ ml_TB := ml_inTB (List.mem_append_right _ (List.mem_of_getElem? (i := 724) (by decide +kernel))) rfl
theorem wm_484 : Cond.fieldLink "LostRoom" 291 "LostRoom$Lays" "first" "[I" ∈ ml_TB := ml_inTB (List.mem_append_right _ (List.mem_of_getElem? (i := 144) (by decide +kernel))) rfl
theorem wm_485 : Cond.fieldLink "LostRoom" 292 "LostRoom$Lays" "fewest" "I" ∈ ml_TB := ml_inTB (List.mem_append_right _ (List.mem_of_getElem? (i := 140) (by decide +kernel))) rfl
theorem wm_486 : Cond.fieldLink "LostRoom" 295 "LostRoom$Lays" "all" "I" ∈ ml_TB := ml_inTB (List.mem_append_right _ (List.mem_of_getElem? (i := 142) (by decide +kernel))) rfl
theorem wm_487 : Cond.methodLink "LostRoom" 284 ⟨"LostRoom$Bit", "meets", "(LLostRoom$Bit;)Z"⟩ ∈ ml_TB := ml_inTB (List.mem_append_right _ (List.mem_of_getElem? (i := 760) (by decide +kernel))) rfl
theorem wm_488 : Cond.code yX10_bit cX10_bit 5 (some .int) ∈ ml_TB := ml_inTB (List.mem_append_right _ (List.mem_of_getElem? (i := 701) (by decide +kernel))) rfl
theorem wm_489 : Cond.instanceMethod ⟨"LostRoom", "bit", "(IIII)I"⟩ ∈ ml_TB := ml_inTB (List.mem_append_right _ (List.mem_of_getElem? (i := 699) (by decide +kernel))) rfl
theorem wm_490 : Cond.selects "LostRoom" ⟨"LostRoom", "bit", "(IIII)I"⟩ ⟨"LostRoom", "bit", "(IIII)I"⟩ ∈ ml_TB := ml_inTB (List.mem_append_right _ (List.mem_of_getElem? (i := 700) (by decide +kernel))) rfl
theorem wm_491 : Cond.methodLink "LostRoomLaw" 131 ⟨"LostRoom", "bit", "(IIII)I"⟩ ∈ ml_TB := ml_inTB (List.mem_append_right _ (List.mem_of_getElem? (i := 698) (by decide +kernel))) rfl
theorem wm_492 : Cond.code yX10_joins cX10_joins 3 (some .int) ∈ ml_TB := ml_inTB (List.mem_append_right _ (List.mem_of_getElem? (i := 759) (by decide +kernel))) rfl
theorem wm_493 : Cond.instanceMethod ⟨"LostRoom", "joins", "(II)I"⟩ ∈ ml_TB := ml_inTB (List.mem_append_right _ (List.mem_of_getElem? (i := 757) (by decide +kernel))) rfl
theorem wm_494 : Cond.selects "LostRoom" ⟨"LostRoom", "joins", "(II)I"⟩ ⟨"LostRoom", "joins", "(II)I"⟩ ∈ ml_TB := ml_inTB (List.mem_append_right _ (List.mem_of_getElem? (i := 758) (by decide +kernel))) rfl
theorem wm_495 : Cond.methodLink "LostRoomLaw" 141 ⟨"LostRoom", "joins", "(II)I"⟩ ∈ ml_TB := ml_inTB (List.mem_append_right _ (List.mem_of_getElem? (i := 756) (by decide +kernel))) rfl
theorem wm_496 : Cond.code yX10_at cX10_at 4 (some .int) ∈ ml_TB := ml_inTB (List.mem_append_right _ (List.mem_of_getElem? (i := 253) (by decide +kernel))) rfl
theorem wm_497 : Cond.instanceMethod ⟨"LostRoom", "at", "(II)I"⟩ ∈ ml_TB := ml_inTB (List.mem_append_right _ (List.mem_of_getElem? (i := 251) (by decide +kernel))) rfl
theorem wm_498 : Cond.selects "LostRoom" ⟨"LostRoom", "at", "(II)I"⟩ ⟨"LostRoom", "at", "(II)I"⟩ ∈ ml_TB := ml_inTB (List.mem_append_right _ (List.mem_of_getElem? (i := 252) (by decide +kernel))) rfl
theorem wm_499 : Cond.methodLink "LostRoomLaw" 115 ⟨"LostRoom", "at", "(II)I"⟩ ∈ ml_TB := ml_inTB (List.mem_append_right _ (List.mem_of_getElem? (i := 250) (by decide +kernel))) rfl
theorem wm_500 : Cond.code yX10_sheets cX10_sheets 2 (some .int) ∈ ml_TB := ml_inTB (List.mem_append_right _ (List.mem_of_getElem? (i := 723) (by decide +kernel))) rfl
theorem wm_501 : Cond.instanceMethod ⟨"LostRoom", "sheets", "(I)I"⟩ ∈ ml_TB := ml_inTB (List.mem_append_right _ (List.mem_of_getElem? (i := 721) (by decide +kernel))) rfl
theorem wm_502 : Cond.selects "LostRoom" ⟨"LostRoom", "sheets", "(I)I"⟩ ⟨"LostRoom", "sheets", "(I)I"⟩ ∈ ml_TB := ml_inTB (List.mem_append_right _ (List.mem_of_getElem? (i := 722) (by decide +kernel))) rfl
theorem wm_503 : Cond.methodLink "LostRoomLaw" 135 ⟨"LostRoom", "sheets", "(I)I"⟩ ∈ ml_TB := ml_inTB (List.mem_append_right _ (List.mem_of_getElem? (i := 720) (by decide +kernel))) rfl
theorem wm_504 : Cond.code yX10_laid cX10_laid 1 (some .int) ∈ ml_TB := ml_inTB (List.mem_append_right _ (List.mem_of_getElem? (i := 755) (by decide +kernel))) rfl
theorem wm_505 : Cond.instanceMethod ⟨"LostRoom", "laid", "()I"⟩ ∈ ml_TB := ml_inTB (List.mem_append_right _ (List.mem_of_getElem? (i := 753) (by decide +kernel))) rfl
theorem wm_506 : Cond.selects "LostRoom" ⟨"LostRoom", "laid", "()I"⟩ ⟨"LostRoom", "laid", "()I"⟩ ∈ ml_TB := ml_inTB (List.mem_append_right _ (List.mem_of_getElem? (i := 754) (by decide +kernel))) rfl
theorem wm_507 : Cond.methodLink "LostRoomLaw" 138 ⟨"LostRoom", "laid", "()I"⟩ ∈ ml_TB := ml_inTB (List.mem_append_right _ (List.mem_of_getElem? (i := 752) (by decide +kernel))) rfl
theorem wm_508 : Cond.code yX10_wear cX10_wear 3 (some .int) ∈ ml_TB := ml_inTB (List.mem_append_right _ (List.mem_of_getElem? (i := 271) (by decide +kernel))) rfl
theorem wm_509 : Cond.instanceMethod ⟨"LostRoom", "wear", "(I)I"⟩ ∈ ml_TB := ml_inTB (List.mem_append_right _ (List.mem_of_getElem? (i := 269) (by decide +kernel))) rfl
theorem wm_510 : Cond.selects "LostRoom" ⟨"LostRoom", "wear", "(I)I"⟩ ⟨"LostRoom", "wear", "(I)I"⟩ ∈ ml_TB := ml_inTB (List.mem_append_right _ (List.mem_of_getElem? (i := 270) (by decide +kernel))) rfl
theorem wm_511 : Cond.methodLink "LostRoomLaw" 62 ⟨"LostRoom", "wear", "(I)I"⟩ ∈ ml_TB := ml_inTB (List.mem_append_right _ (List.mem_of_getElem? (i := 268) (by decide +kernel))) rfl
theorem wm_512 : Cond.code yX10_opens cX10_opens 2 (some .int) ∈ ml_TB := ml_inTB (List.mem_append_right _ (List.mem_of_getElem? (i := 402) (by decide +kernel))) rfl
theorem wm_513 : Cond.instanceMethod ⟨"LostRoom", "opens", "(I)I"⟩ ∈ ml_TB := ml_inTB (List.mem_append_right _ (List.mem_of_getElem? (i := 400) (by decide +kernel))) rfl
theorem wm_514 : Cond.selects "LostRoom" ⟨"LostRoom", "opens", "(I)I"⟩ ⟨"LostRoom", "opens", "(I)I"⟩ ∈ ml_TB := ml_inTB (List.mem_append_right _ (List.mem_of_getElem? (i := 401) (by decide +kernel))) rfl
theorem wm_515 : Cond.methodLink "LostRoomLaw" 65 ⟨"LostRoom", "opens", "(I)I"⟩ ∈ ml_TB := ml_inTB (List.mem_append_right _ (List.mem_of_getElem? (i := 399) (by decide +kernel))) rfl
theorem wm_516 : Cond.code yX10_whose cX10_whose 5 (some .int) ∈ ml_TB := ml_inTB (List.mem_append_right _ (List.mem_of_getElem? (i := 506) (by decide +kernel))) rfl
theorem wm_517 : Cond.instanceMethod ⟨"LostRoom", "whose", "(II)I"⟩ ∈ ml_TB := ml_inTB (List.mem_append_right _ (List.mem_of_getElem? (i := 504) (by decide +kernel))) rfl
theorem wm_518 : Cond.selects "LostRoom" ⟨"LostRoom", "whose", "(II)I"⟩ ⟨"LostRoom", "whose", "(II)I"⟩ ∈ ml_TB := ml_inTB (List.mem_append_right _ (List.mem_of_getElem? (i := 505) (by decide +kernel))) rfl
theorem wm_519 : Cond.methodLink "LostRoomLaw" 109 ⟨"LostRoom", "whose", "(II)I"⟩ ∈ ml_TB := ml_inTB (List.mem_append_right _ (List.mem_of_getElem? (i := 503) (by decide +kernel))) rfl
theorem wm_520 : Cond.code yX10_told cX10_told 3 (some .int) ∈ ml_TB := ml_inTB (List.mem_append_right _ (List.mem_of_getElem? (i := 372) (by decide +kernel))) rfl
theorem wm_521 : Cond.instanceMethod ⟨"LostRoom", "told", "(II)I"⟩ ∈ ml_TB := ml_inTB (List.mem_append_right _ (List.mem_of_getElem? (i := 370) (by decide +kernel))) rfl
theorem wm_522 : Cond.selects "LostRoom" ⟨"LostRoom", "told", "(II)I"⟩ ⟨"LostRoom", "told", "(II)I"⟩ ∈ ml_TB := ml_inTB (List.mem_append_right _ (List.mem_of_getElem? (i := 371) (by decide +kernel))) rfl
theorem wm_523 : Cond.methodLink "LostRoomLaw" 118 ⟨"LostRoom", "told", "(II)I"⟩ ∈ ml_TB := ml_inTB (List.mem_append_right _ (List.mem_of_getElem? (i := 369) (by decide +kernel))) rfl
theorem wm_524 : Cond.code yX10_trunk cX10_trunk 3 (some .int) ∈ ml_TB := ml_inTB (List.mem_append_right _ (List.mem_of_getElem? (i := 275) (by decide +kernel))) rfl
theorem wm_525 : Cond.instanceMethod ⟨"LostRoom", "trunk", "(II)I"⟩ ∈ ml_TB := ml_inTB (List.mem_append_right _ (List.mem_of_getElem? (i := 273) (by decide +kernel))) rfl
theorem wm_526 : Cond.selects "LostRoom" ⟨"LostRoom", "trunk", "(II)I"⟩ ⟨"LostRoom", "trunk", "(II)I"⟩ ∈ ml_TB := ml_inTB (List.mem_append_right _ (List.mem_of_getElem? (i := 274) (by decide +kernel))) rfl
theorem wm_527 : Cond.methodLink "LostRoomLaw" 121 ⟨"LostRoom", "trunk", "(II)I"⟩ ∈ ml_TB := ml_inTB (List.mem_append_right _ (List.mem_of_getElem? (i := 272) (by decide +kernel))) rfl
theorem wm_528 : Cond.code yL_pieces cL_pieces 10 (some .boolean) ∈ ml_TB := ml_inTB (List.mem_append_right _ (List.mem_of_getElem? (i := 697) (by decide +kernel))) rfl
theorem wm_529 : Cond.static ⟨"LostRoomLaw", "pieces", "(LLostRoom;LLostRoom;[I)Z"⟩ ∈ ml_TB := ml_inTB (List.mem_append_right _ (List.mem_of_getElem? (i := 696) (by decide +kernel))) rfl
theorem wm_530 : Cond.methodLink "LostRoomLaw" 124 ⟨"LostRoomLaw", "pieces", "(LLostRoom;LLostRoom;[I)Z"⟩ ∈ ml_TB := ml_inTB (List.mem_append_right _ (List.mem_of_getElem? (i := 695) (by decide +kernel))) rfl
theorem wm_531 : Cond.code yL_fewest cL_fewest 6 (some .boolean) ∈ ml_TB := ml_inTB (List.mem_append_right _ (List.mem_of_getElem? (i := 763) (by decide +kernel))) rfl
theorem wm_532 : Cond.static ⟨"LostRoomLaw", "fewest", "(LLostRoom;I)Z"⟩ ∈ ml_TB := ml_inTB (List.mem_append_right _ (List.mem_of_getElem? (i := 762) (by decide +kernel))) rfl
theorem wm_533 : Cond.methodLink "LostRoomLaw" 128 ⟨"LostRoomLaw", "fewest", "(LLostRoom;I)Z"⟩ ∈ ml_TB := ml_inTB (List.mem_append_right _ (List.mem_of_getElem? (i := 761) (by decide +kernel))) rfl
theorem wm_534 : Cond.code yX10_water cX10_water 6 (some .int) ∈ ml_TB := ml_inTB (List.mem_append_right _ (List.mem_of_getElem? (i := 422) (by decide +kernel))) rfl
theorem wm_535 : Cond.instanceMethod ⟨"LostRoom", "water", "()I"⟩ ∈ ml_TB := ml_inTB (List.mem_append_right _ (List.mem_of_getElem? (i := 420) (by decide +kernel))) rfl
theorem wm_536 : Cond.selects "LostRoom" ⟨"LostRoom", "water", "()I"⟩ ⟨"LostRoom", "water", "()I"⟩ ∈ ml_TB := ml_inTB (List.mem_append_right _ (List.mem_of_getElem? (i := 421) (by decide +kernel))) rfl
theorem wm_537 : Cond.methodLink "LostRoomLaw" 91 ⟨"LostRoom", "water", "()I"⟩ ∈ ml_TB := ml_inTB (List.mem_append_right _ (List.mem_of_getElem? (i := 419) (by decide +kernel))) rfl
theorem wm_538 : Cond.code yX10_moves cX10_moves 8 (some .int) ∈ ml_TB := ml_inTB (List.mem_append_right _ (List.mem_of_getElem? (i := 522) (by decide +kernel))) rfl
theorem wm_539 : Cond.instanceMethod ⟨"LostRoom", "moves", "(II)I"⟩ ∈ ml_TB := ml_inTB (List.mem_append_right _ (List.mem_of_getElem? (i := 520) (by decide +kernel))) rfl
theorem wm_540 : Cond.selects "LostRoom" ⟨"LostRoom", "moves", "(II)I"⟩ ⟨"LostRoom", "moves", "(II)I"⟩ ∈ ml_TB := ml_inTB (List.mem_append_right _ (List.mem_of_getElem? (i := 521) (by decide +kernel))) rfl
theorem wm_541 : Cond.methodLink "LostRoomLaw" 112 ⟨"LostRoom", "moves", "(II)I"⟩ ∈ ml_TB := ml_inTB (List.mem_append_right _ (List.mem_of_getElem? (i := 519) (by decide +kernel))) rfl
theorem wm_542 : Cond.code yX10_share cX10_share 2 (some .int) ∈ ml_TB := ml_inTB (List.mem_append_right _ (List.mem_of_getElem? (i := 448) (by decide +kernel))) rfl
theorem wm_543 : Cond.instanceMethod ⟨"LostRoom", "share", "(I)I"⟩ ∈ ml_TB := ml_inTB (List.mem_append_right _ (List.mem_of_getElem? (i := 446) (by decide +kernel))) rfl
theorem wm_544 : Cond.selects "LostRoom" ⟨"LostRoom", "share", "(I)I"⟩ ⟨"LostRoom", "share", "(I)I"⟩ ∈ ml_TB := ml_inTB (List.mem_append_right _ (List.mem_of_getElem? (i := 447) (by decide +kernel))) rfl
theorem wm_545 : Cond.methodLink "LostRoomLaw" 68 ⟨"LostRoom", "share", "(I)I"⟩ ∈ ml_TB := ml_inTB (List.mem_append_right _ (List.mem_of_getElem? (i := 445) (by decide +kernel))) rfl
theorem wm_546 : Cond.code yX10_ways cX10_ways 2 (some .int) ∈ ml_TB := ml_inTB (List.mem_append_right _ (List.mem_of_getElem? (i := 502) (by decide +kernel))) rfl
theorem wm_547 : Cond.instanceMethod ⟨"LostRoom", "ways", "(I)I"⟩ ∈ ml_TB := ml_inTB (List.mem_append_right _ (List.mem_of_getElem? (i := 500) (by decide +kernel))) rfl
theorem wm_548 : Cond.selects "LostRoom" ⟨"LostRoom", "ways", "(I)I"⟩ ⟨"LostRoom", "ways", "(I)I"⟩ ∈ ml_TB := ml_inTB (List.mem_append_right _ (List.mem_of_getElem? (i := 501) (by decide +kernel))) rfl
theorem wm_549 : Cond.methodLink "LostRoomLaw" 94 ⟨"LostRoom", "ways", "(I)I"⟩ ∈ ml_TB := ml_inTB (List.mem_append_right _ (List.mem_of_getElem? (i := 499) (by decide +kernel))) rfl
theorem wm_550 : Cond.code yX10_sure cX10_sure 8 (some .int) ∈ ml_TB := ml_inTB (List.mem_append_right _ (List.mem_of_getElem? (i := 514) (by decide +kernel))) rfl
theorem wm_551 : Cond.instanceMethod ⟨"LostRoom", "sure", "(I)I"⟩ ∈ ml_TB := ml_inTB (List.mem_append_right _ (List.mem_of_getElem? (i := 512) (by decide +kernel))) rfl
theorem wm_552 : Cond.selects "LostRoom" ⟨"LostRoom", "sure", "(I)I"⟩ ⟨"LostRoom", "sure", "(I)I"⟩ ∈ ml_TB := ml_inTB (List.mem_append_right _ (List.mem_of_getElem? (i := 513) (by decide +kernel))) rfl
theorem wm_553 : Cond.methodLink "LostRoomLaw" 97 ⟨"LostRoom", "sure", "(I)I"⟩ ∈ ml_TB := ml_inTB (List.mem_append_right _ (List.mem_of_getElem? (i := 511) (by decide +kernel))) rfl
theorem wm_554 : Cond.code yX10_next cX10_next 7 (some .int) ∈ ml_TB := ml_inTB (List.mem_append_right _ (List.mem_of_getElem? (i := 518) (by decide +kernel))) rfl
theorem wm_555 : Cond.instanceMethod ⟨"LostRoom", "next", "(I)I"⟩ ∈ ml_TB := ml_inTB (List.mem_append_right _ (List.mem_of_getElem? (i := 516) (by decide +kernel))) rfl
theorem wm_556 : Cond.selects "LostRoom" ⟨"LostRoom", "next", "(I)I"⟩ ⟨"LostRoom", "next", "(I)I"⟩ ∈ ml_TB := ml_inTB (List.mem_append_right _ (List.mem_of_getElem? (i := 517) (by decide +kernel))) rfl
theorem wm_557 : Cond.methodLink "LostRoomLaw" 103 ⟨"LostRoom", "next", "(I)I"⟩ ∈ ml_TB := ml_inTB (List.mem_append_right _ (List.mem_of_getElem? (i := 515) (by decide +kernel))) rfl
theorem wm_558 : Cond.code yX10_many cX10_many 1 (some .long) ∈ ml_TB := ml_inTB (List.mem_append_right _ (List.mem_of_getElem? (i := 566) (by decide +kernel))) rfl
theorem wm_559 : Cond.instanceMethod ⟨"LostRoom", "many", "()J"⟩ ∈ ml_TB := ml_inTB (List.mem_append_right _ (List.mem_of_getElem? (i := 564) (by decide +kernel))) rfl
theorem wm_560 : Cond.selects "LostRoom" ⟨"LostRoom", "many", "()J"⟩ ⟨"LostRoom", "many", "()J"⟩ ∈ ml_TB := ml_inTB (List.mem_append_right _ (List.mem_of_getElem? (i := 565) (by decide +kernel))) rfl
theorem wm_561 : Cond.methodLink "LostRoomLaw" 75 ⟨"LostRoom", "many", "()J"⟩ ∈ ml_TB := ml_inTB (List.mem_append_right _ (List.mem_of_getElem? (i := 563) (by decide +kernel))) rfl
theorem wm_562 : Cond.code yX10_piling cX10_piling 6 (some .int) ∈ ml_TB := ml_inTB (List.mem_append_right _ (List.mem_of_getElem? (i := 432) (by decide +kernel))) rfl
theorem wm_563 : Cond.instanceMethod ⟨"LostRoom", "piling", "(I)I"⟩ ∈ ml_TB := ml_inTB (List.mem_append_right _ (List.mem_of_getElem? (i := 430) (by decide +kernel))) rfl
theorem wm_564 : Cond.selects "LostRoom" ⟨"LostRoom", "piling", "(I)I"⟩ ⟨"LostRoom", "piling", "(I)I"⟩ ∈ ml_TB := ml_inTB (List.mem_append_right _ (List.mem_of_getElem? (i := 431) (by decide +kernel))) rfl
theorem wm_565 : Cond.methodLink "LostRoomLaw" 82 ⟨"LostRoom", "piling", "(I)I"⟩ ∈ ml_TB := ml_inTB (List.mem_append_right _ (List.mem_of_getElem? (i := 429) (by decide +kernel))) rfl
theorem wm_566 : Cond.code yX10_strange cX10_strange 6 (some .int) ∈ ml_TB := ml_inTB (List.mem_append_right _ (List.mem_of_getElem? (i := 415) (by decide +kernel))) rfl
theorem wm_567 : Cond.instanceMethod ⟨"LostRoom", "strange", "()I"⟩ ∈ ml_TB := ml_inTB (List.mem_append_right _ (List.mem_of_getElem? (i := 413) (by decide +kernel))) rfl
theorem wm_568 : Cond.selects "LostRoom" ⟨"LostRoom", "strange", "()I"⟩ ⟨"LostRoom", "strange", "()I"⟩ ∈ ml_TB := ml_inTB (List.mem_append_right _ (List.mem_of_getElem? (i := 414) (by decide +kernel))) rfl
theorem wm_569 : Cond.methodLink "LostRoomLaw" 85 ⟨"LostRoom", "strange", "()I"⟩ ∈ ml_TB := ml_inTB (List.mem_append_right _ (List.mem_of_getElem? (i := 412) (by decide +kernel))) rfl
theorem wm_570 : Cond.code yX10_travellers cX10_travellers 2 (some .int) ∈ ml_TB := ml_inTB (List.mem_append_right _ (List.mem_of_getElem? (i := 535) (by decide +kernel))) rfl
theorem wm_571 : Cond.instanceMethod ⟨"LostRoom", "travellers", "()I"⟩ ∈ ml_TB := ml_inTB (List.mem_append_right _ (List.mem_of_getElem? (i := 533) (by decide +kernel))) rfl
theorem wm_572 : Cond.selects "LostRoom" ⟨"LostRoom", "travellers", "()I"⟩ ⟨"LostRoom", "travellers", "()I"⟩ ∈ ml_TB := ml_inTB (List.mem_append_right _ (List.mem_of_getElem? (i := 534) (by decide +kernel))) rfl
theorem wm_573 : Cond.methodLink "LostRoomLaw" 88 ⟨"LostRoom", "travellers", "()I"⟩ ∈ ml_TB := ml_inTB (List.mem_append_right _ (List.mem_of_getElem? (i := 532) (by decide +kernel))) rfl
theorem wm_574 : Cond.code yL_thing cL_thing 13 (some .boolean) ∈ ml_TB := ml_inTB (List.mem_append_right _ (List.mem_of_getElem? (i := 691) (by decide +kernel))) rfl
theorem wm_575 : Cond.static ⟨"LostRoomLaw", "thing", "(LLostRoom;[IIII[II)Z"⟩ ∈ ml_TB := ml_inTB (List.mem_append_right _ (List.mem_of_getElem? (i := 690) (by decide +kernel))) rfl
theorem wm_576 : Cond.methodLink "LostRoomLaw" 57 ⟨"LostRoomLaw", "thing", "(LLostRoom;[IIII[II)Z"⟩ ∈ ml_TB := ml_inTB (List.mem_append_right _ (List.mem_of_getElem? (i := 689) (by decide +kernel))) rfl
theorem wm_577 : Cond.code yL_book cL_book 10 (some .boolean) ∈ ml_TB := ml_inTB (List.mem_append_right _ (List.mem_of_getElem? (i := 576) (by decide +kernel))) rfl
theorem wm_578 : Cond.static ⟨"LostRoomLaw", "book", "(LLostRoom;I[II[II[I)Z"⟩ ∈ ml_TB := ml_inTB (List.mem_append_right _ (List.mem_of_getElem? (i := 575) (by decide +kernel))) rfl
theorem wm_579 : Cond.methodLink "LostRoomLaw" 54 ⟨"LostRoomLaw", "book", "(LLostRoom;I[II[II[I)Z"⟩ ∈ ml_TB := ml_inTB (List.mem_append_right _ (List.mem_of_getElem? (i := 574) (by decide +kernel))) rfl
theorem wm_580 : Cond.code yL_numbers cL_numbers 10 none ∈ ml_TB := ml_inTB (List.mem_append_right _ (List.mem_of_getElem? (i := 573) (by decide +kernel))) rfl
theorem wm_581 : Cond.static ⟨"LostRoomLaw", "numbers", "([IIIII[I[I[I)V"⟩ ∈ ml_TB := ml_inTB (List.mem_append_right _ (List.mem_of_getElem? (i := 572) (by decide +kernel))) rfl
theorem wm_582 : Cond.methodLink "LostRoomLaw" 50 ⟨"LostRoomLaw", "numbers", "([IIIII[I[I[I)V"⟩ ∈ ml_TB := ml_inTB (List.mem_append_right _ (List.mem_of_getElem? (i := 571) (by decide +kernel))) rfl
theorem wm_583 : Cond.classLink "LostRoomLaw" 9 "LostRoom" ∈ ml_TB := ml_inTB (List.mem_append_right _ (List.mem_of_getElem? (i := 14) (by decide +kernel))) rfl
theorem wm_584 : Cond.instantiable "LostRoom" 19 ∈ ml_TB := ml_inTB (List.mem_append_right _ (List.mem_of_getElem? (i := 15) (by decide +kernel))) rfl
theorem wm_585 : Cond.code yX10_init cX10_init 1 none ∈ ml_TB := ml_inTB (List.mem_append_right _ (List.mem_of_getElem? (i := 18) (by decide +kernel))) rfl
theorem wm_586 : Cond.instanceMethod ⟨"LostRoom", "<init>", "()V"⟩ ∈ ml_TB := ml_inTB (List.mem_append_right _ (List.mem_of_getElem? (i := 17) (by decide +kernel))) rfl
theorem wm_587 : Cond.methodLink "LostRoomLaw" 49 ⟨"LostRoom", "<init>", "()V"⟩ ∈ ml_TB := ml_inTB (List.mem_append_right _ (List.mem_of_getElem? (i := 16) (by decide +kernel))) rfl
