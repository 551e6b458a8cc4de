/-! printed by wip/p51/emit.py out of the claim's own listing -/
theorem kc_b10 : (Int8.ofInt (10)).toInt32 = (10 : Int32) := by decide
theorem kc_b100 : (Int8.ofInt (100)).toInt32 = (100 : Int32) := by decide
theorem kc_b104 : (Int8.ofInt (104)).toInt32 = (104 : Int32) := by decide
theorem kc_b107 : (Int8.ofInt (107)).toInt32 = (107 : Int32) := by decide
theorem kc_b108 : (Int8.ofInt (108)).toInt32 = (108 : Int32) := by decide
theorem kc_b115 : (Int8.ofInt (115)).toInt32 = (115 : Int32) := by decide
theorem kc_b116 : (Int8.ofInt (116)).toInt32 = (116 : Int32) := by decide
theorem kc_b117 : (Int8.ofInt (117)).toInt32 = (117 : Int32) := by decide
theorem kc_b12 : (Int8.ofInt (12)).toInt32 = (12 : Int32) := by decide
theorem kc_b120 : (Int8.ofInt (120)).toInt32 = (120 : Int32) := by decide
theorem kc_b15 : (Int8.ofInt (15)).toInt32 = (15 : Int32) := by decide
theorem kc_b16 : (Int8.ofInt (16)).toInt32 = (16 : Int32) := by decide
theorem kc_b20 : (Int8.ofInt (20)).toInt32 = (20 : Int32) := by decide
theorem kc_b21 : (Int8.ofInt (21)).toInt32 = (21 : Int32) := by decide
theorem kc_b25 : (Int8.ofInt (25)).toInt32 = (25 : Int32) := by decide
theorem kc_b27 : (Int8.ofInt (27)).toInt32 = (27 : Int32) := by decide
theorem kc_b30 : (Int8.ofInt (30)).toInt32 = (30 : Int32) := by decide
theorem kc_b32 : (Int8.ofInt (32)).toInt32 = (32 : Int32) := by decide
theorem kc_b40 : (Int8.ofInt (40)).toInt32 = (40 : Int32) := by decide
theorem kc_b45 : (Int8.ofInt (45)).toInt32 = (45 : Int32) := by decide
theorem kc_b47 : (Int8.ofInt (47)).toInt32 = (47 : Int32) := by decide
theorem kc_b48 : (Int8.ofInt (48)).toInt32 = (48 : Int32) := by decide
theorem kc_b50 : (Int8.ofInt (50)).toInt32 = (50 : Int32) := by decide
theorem kc_b57 : (Int8.ofInt (57)).toInt32 = (57 : Int32) := by decide
theorem kc_b6 : (Int8.ofInt (6)).toInt32 = (6 : Int32) := by decide
theorem kc_b61 : (Int8.ofInt (61)).toInt32 = (61 : Int32) := by decide
theorem kc_b63 : (Int8.ofInt (63)).toInt32 = (63 : Int32) := by decide
theorem kc_b64 : (Int8.ofInt (64)).toInt32 = (64 : Int32) := by decide
theorem kc_b7 : (Int8.ofInt (7)).toInt32 = (7 : Int32) := by decide
theorem kc_b8 : (Int8.ofInt (8)).toInt32 = (8 : Int32) := by decide
theorem kc_b80 : (Int8.ofInt (80)).toInt32 = (80 : Int32) := by decide
theorem kc_b81 : (Int8.ofInt (81)).toInt32 = (81 : Int32) := by decide
theorem kc_b9 : (Int8.ofInt (9)).toInt32 = (9 : Int32) := by decide
theorem kc_b94 : (Int8.ofInt (94)).toInt32 = (94 : Int32) := by decide
theorem kc_b99 : (Int8.ofInt (99)).toInt32 = (99 : Int32) := by decide
theorem kc_bm2 : (Int8.ofInt (-2)).toInt32 = (-2 : Int32) := by decide
theorem kc_bm3 : (Int8.ofInt (-3)).toInt32 = (-3 : Int32) := by decide
theorem kc_bm4 : (Int8.ofInt (-4)).toInt32 = (-4 : Int32) := by decide
theorem kc_bm6 : (Int8.ofInt (-6)).toInt32 = (-6 : Int32) := by decide
theorem kc_bm9 : (Int8.ofInt (-9)).toInt32 = (-9 : Int32) := by decide
theorem kc_i0 : Int32.ofInt (0) = (0 : Int32) := by decide
theorem kc_i1 : Int32.ofInt (1) = (1 : Int32) := by decide
theorem kc_i2 : Int32.ofInt (2) = (2 : Int32) := by decide
theorem kc_i3 : Int32.ofInt (3) = (3 : Int32) := by decide
theorem kc_i4 : Int32.ofInt (4) = (4 : Int32) := by decide
theorem kc_i5 : Int32.ofInt (5) = (5 : Int32) := by decide
theorem kc_im1 : Int32.ofInt (-1) = (-1 : Int32) := by decide
theorem kc_s1000 : (Int16.ofInt (1000)).toInt32 = (1000 : Int32) := by decide
theorem kc_s1024 : (Int16.ofInt (1024)).toInt32 = (1024 : Int32) := by decide
theorem kc_s10240 : (Int16.ofInt (10240)).toInt32 = (10240 : Int32) := by decide
theorem kc_s1032 : (Int16.ofInt (1032)).toInt32 = (1032 : Int32) := by decide
theorem kc_s1111 : (Int16.ofInt (1111)).toInt32 = (1111 : Int32) := by decide
theorem kc_s1344 : (Int16.ofInt (1344)).toInt32 = (1344 : Int32) := by decide
theorem kc_s150 : (Int16.ofInt (150)).toInt32 = (150 : Int32) := by decide
theorem kc_s256 : (Int16.ofInt (256)).toInt32 = (256 : Int32) := by decide
theorem kc_s400 : (Int16.ofInt (400)).toInt32 = (400 : Int32) := by decide
theorem kc_s5555 : (Int16.ofInt (5555)).toInt32 = (5555 : Int32) := by decide
theorem kc_s999 : (Int16.ofInt (999)).toInt32 = (999 : Int32) := by decide
theorem kc_sm1000 : (Int16.ofInt (-1000)).toInt32 = (-1000 : Int32) := by decide
theorem ml_sw_of {β : Type} {c : Prop} {D : Decidable c} {A B : Option β} {r : β} {P : Prop} (h : @ite (Option β) c D A B = some r) (k1 : c → A = some r → P) (k2 : ¬ c → B = some r → P) : P := by
  by_cases hc : c
  · rw [if_pos hc] at h; exact k1 hc h
  · rw [if_neg hc] at h; exact k2 hc h
theorem wb_0 : 20 ≤ 20 ∧ 20 < 23 ∧ newarray.typeOf .int = ml_ety 20 ∧ Cond.arrayClass (ml_ety 20) ∈ ml_TB := ⟨by decide, by decide, rfl, wm_3⟩
theorem wb_1 : Cond.methodLink "java/util/Arrays" 304 Lib.Math.min.name ∈ ml_TB ∧ Cond.static Lib.Math.min.name ∈ ml_TB ∧ Cond.initialized "java/lang/Math" ∈ ml_TB ∧ Cond.code Lib.Math.min.name Lib.Math.min.code 2 (some .int) ∈ ml_TB := ⟨wm_4, wm_5, wm_6, wm_7⟩
theorem wb_2 : Cond.methodLink "java/util/Arrays" 150 arraycopyName ∈ ml_TB ∧ Cond.native arraycopyName ∈ ml_TB ∧ Cond.static arraycopyName ∈ ml_TB ∧ Cond.initialized "java/lang/System" ∈ ml_TB := ⟨wm_8, wm_9, wm_10, wm_11⟩
theorem wb_3 : Cond.methodLink "java/util/Arrays" 316 ⟨"[I", "clone", "()Ljava/lang/Object;"⟩ ∈ ml_TB ∧ Cond.sameMethod "[I" "java/lang/Object" "clone" "()Ljava/lang/Object;" ∈ ml_TB ∧ Cond.native ⟨"java/lang/Object", "clone", "()Ljava/lang/Object;"⟩ ∈ ml_TB ∧ Cond.instanceMethod ⟨"java/lang/Object", "clone", "()Ljava/lang/Object;"⟩ ∈ ml_TB ∧ Cond.selects "[I" ⟨"[I", "clone", "()Ljava/lang/Object;"⟩ ⟨"java/lang/Object", "clone", "()Ljava/lang/Object;"⟩ ∈ ml_TB := ⟨wm_12, wm_13, wm_14, wm_15, wm_16⟩
theorem wb_4 : ml_y yX10_within cX10_within 3 (some .boolean) 3 ∧ Cond.static yX10_within ∈ ml_TB := ⟨⟨wm_18, wm_19, ⟨by decide, by decide, by decide +kernel⟩, by decide⟩, wm_20⟩
theorem wb_5 : ml_f "LostRoom" 335 10 17 ∧ ml_w "LostRoom" false 10 17 ∧ ml_ty 10 17 = .int := ⟨⟨_, rfl, by decide, wm_22⟩, ⟨_, rfl, Or.inl rfl⟩, rfl⟩
theorem wb_6 : ml_f "LostRoom" 79 10 18 ∧ ∀ B m a j, ml_v B m (ml_ty 10 18) a j = ml_rf B (ml_R m a j) := ⟨⟨_, rfl, by decide, wm_23⟩, fun _ _ _ _ => rfl⟩
theorem wb_7 : ml_y yX10_isText cX10_isText 1 (some .boolean) 1 ∧ Cond.static yX10_isText ∈ ml_TB := ⟨⟨wm_24, wm_19, ⟨by decide, by decide, by decide +kernel⟩, by decide⟩, wm_25⟩
theorem wb_8 : 20 ≤ 21 ∧ 21 < 23 ∧ newarray.typeOf .byte = ml_ety 21 ∧ Cond.arrayClass (ml_ety 21) ∈ ml_TB := ⟨by decide, by decide, rfl, wm_27⟩
theorem wb_9 : ml_y yJ7_fill_031fb cJ7_fill_031fb 4 none 2 ∧ Cond.static yJ7_fill_031fb ∈ ml_TB := ⟨⟨wm_28, wm_29, ⟨by decide, by decide, by decide +kernel⟩, by decide⟩, wm_30⟩
theorem wb_10 : ml_f "LostRoom" 17 10 1 ∧ ∀ B m a j, ml_v B m (ml_ty 10 1) a j = ml_rf B (ml_R m a j) := ⟨⟨_, rfl, by decide, wm_32⟩, fun _ _ _ _ => rfl⟩
theorem wb_11 : ml_y yX10_found cX10_found 2 (some .int) 1 ∧ Cond.instanceMethod yX10_found ∈ ml_TB ∧ Cond.selects yX10_found.cls yX10_found yX10_found ∈ ml_TB ∧ ∃ q : vw_C, ml_cs[10]? = some q ∧ q.1 = yX10_found.cls := ⟨⟨wm_33, wm_19, ⟨by decide, by decide, by decide +kernel⟩, by decide⟩, wm_34, wm_35, _, rfl, rfl⟩
theorem wb_12 : ml_y yX10_put cX10_put 6 (some .int) 3 ∧ Cond.instanceMethod yX10_put ∈ ml_TB ∧ Cond.selects yX10_put.cls yX10_put yX10_put ∈ ml_TB ∧ ∃ q : vw_C, ml_cs[10]? = some q ∧ q.1 = yX10_put.cls := ⟨⟨wm_37, wm_19, ⟨by decide, by decide, by decide +kernel⟩, by decide⟩, wm_38, wm_39, _, rfl, rfl⟩
theorem wb_13 : ml_y yL_put cL_put 3 (some .int) 3 ∧ Cond.static yL_put ∈ ml_TB := ⟨⟨wm_41, wm_42, ⟨by decide, by decide, by decide +kernel⟩, by decide⟩, wm_43⟩
theorem wb_14 : Cond.methodLink "LostRoom$Book" 3 Lib.objectInit ∈ ml_TB ∧ Cond.instanceMethod Lib.objectInit ∈ ml_TB ∧ Cond.code Lib.objectInit ⟨#[0xb1]⟩ 1 none ∈ ml_TB := ⟨wm_45, wm_46, wm_47⟩
theorem wb_15 : 25 ≤ 28 ∧ 28 < 31 ∧ ml_ety 28 = .object "LostRoom$Lodger" ∧ "LostRoom$Lodger" ∈ [RX0, RX2, RX5, RX6, RX8, RX9] ∧ Cond.classLink "LostRoom$Book" 9 "LostRoom$Lodger" ∈ ml_TB := ⟨by decide, by decide, rfl, by decide, wm_48⟩
theorem wb_16 : ml_f "LostRoom$Book" 11 1 0 ∧ ml_w "LostRoom$Book" true 1 0 ∧ ml_isR (ml_ty 1 0) := ⟨⟨_, rfl, by decide, wm_49⟩, ⟨_, rfl, Or.inr ⟨rfl, rfl, rfl⟩⟩, Or.inr ⟨_, rfl⟩⟩
theorem wb_17 : 25 ≤ 30 ∧ 30 < 31 ∧ ml_ety 30 = .object "LostRoom$Trunk" ∧ "LostRoom$Trunk" ∈ [RX0, RX2, RX5, RX6, RX8, RX9] ∧ Cond.classLink "LostRoom$Book" 17 "LostRoom$Trunk" ∈ ml_TB := ⟨by decide, by decide, rfl, by decide, wm_50⟩
theorem wb_18 : ml_f "LostRoom$Book" 19 1 1 ∧ ml_w "LostRoom$Book" true 1 1 ∧ ml_isR (ml_ty 1 1) := ⟨⟨_, rfl, by decide, wm_51⟩, ⟨_, rfl, Or.inr ⟨rfl, rfl, rfl⟩⟩, Or.inr ⟨_, rfl⟩⟩
theorem wb_19 : ml_f "LostRoom$Book" 23 1 4 ∧ ml_w "LostRoom$Book" true 1 4 ∧ ml_ty 1 4 = .int := ⟨⟨_, rfl, by decide, wm_52⟩, ⟨_, rfl, Or.inl rfl⟩, rfl⟩
theorem wb_20 : ml_f "LostRoom$Book" 27 1 6 ∧ ml_w "LostRoom$Book" true 1 6 ∧ ml_isR (ml_ty 1 6) := ⟨⟨_, rfl, by decide, wm_53⟩, ⟨_, rfl, Or.inr ⟨rfl, rfl, rfl⟩⟩, Or.inr ⟨_, rfl⟩⟩
theorem wb_21 : ml_f "LostRoom$Book" 31 1 7 ∧ ∀ B m a j, ml_v B m (ml_ty 1 7) a j = .int (ml_I m a j) := ⟨⟨_, rfl, by decide, wm_54⟩, fun _ _ _ _ => rfl⟩
theorem wb_22 : ml_f "LostRoom$Book" 23 1 4 ∧ ml_w "LostRoom$Book" false 1 4 ∧ ml_ty 1 4 = .int := ⟨⟨_, rfl, by decide, wm_52⟩, ⟨_, rfl, Or.inl rfl⟩, rfl⟩
theorem wb_23 : ml_f "LostRoom$Book" 23 1 4 ∧ ∀ B m a j, ml_v B m (ml_ty 1 4) a j = .int (ml_I m a j) := ⟨⟨_, rfl, by decide, wm_52⟩, fun _ _ _ _ => rfl⟩
theorem wb_24 : ml_f "LostRoom$Book" 27 1 6 ∧ ∀ B m a j, ml_v B m (ml_ty 1 6) a j = ml_rf B (ml_R m a j) := ⟨⟨_, rfl, by decide, wm_53⟩, fun _ _ _ _ => rfl⟩
theorem wb_25 : ml_f "LostRoom$Book" 31 1 7 ∧ ml_w "LostRoom$Book" false 1 7 ∧ ml_ty 1 7 = .int := ⟨⟨_, rfl, by decide, wm_54⟩, ⟨_, rfl, Or.inl rfl⟩, rfl⟩
theorem wb_26 : ml_y yX1_readFigure cX1_readFigure 4 (some .int) 2 ∧ Cond.instanceMethod yX1_readFigure ∈ ml_TB ∧ Cond.selects yX1_readFigure.cls yX1_readFigure yX1_readFigure ∈ ml_TB ∧ ∃ q : vw_C, ml_cs[1]? = some q ∧ q.1 = yX1_readFigure.cls := ⟨⟨wm_55, wm_56, ⟨by decide, by decide, by decide +kernel⟩, by decide⟩, wm_57, wm_58, _, rfl, rfl⟩
theorem wb_27 : Cond.methodLink "LostRoom$Lodger" 1 Lib.objectInit ∈ ml_TB ∧ Cond.instanceMethod Lib.objectInit ∈ ml_TB ∧ Cond.code Lib.objectInit ⟨#[0xb1]⟩ 1 none ∈ ml_TB := ⟨wm_60, wm_46, wm_47⟩
theorem wb_28 : ml_f "LostRoom$Lodger" 7 6 0 ∧ ml_w "LostRoom$Lodger" true 6 0 ∧ ml_ty 6 0 = .int := ⟨⟨_, rfl, by decide, wm_61⟩, ⟨_, rfl, Or.inr ⟨rfl, rfl, rfl⟩⟩, rfl⟩
theorem wb_29 : ml_f "LostRoom$Lodger" 13 6 1 ∧ ml_w "LostRoom$Lodger" true 6 1 ∧ ml_ty 6 1 = .int := ⟨⟨_, rfl, by decide, wm_62⟩, ⟨_, rfl, Or.inr ⟨rfl, rfl, rfl⟩⟩, rfl⟩
theorem wb_30 : ml_f "LostRoom$Lodger" 16 6 2 ∧ ml_w "LostRoom$Lodger" true 6 2 ∧ ml_ty 6 2 = .int := ⟨⟨_, rfl, by decide, wm_63⟩, ⟨_, rfl, Or.inr ⟨rfl, rfl, rfl⟩⟩, rfl⟩
theorem wb_31 : ml_f "LostRoom$Lodger" 19 6 3 ∧ ml_w "LostRoom$Lodger" true 6 3 ∧ ml_ty 6 3 = .int := ⟨⟨_, rfl, by decide, wm_64⟩, ⟨_, rfl, Or.inr ⟨rfl, rfl, rfl⟩⟩, rfl⟩
theorem wb_32 : ml_f "LostRoom$Lodger" 22 6 4 ∧ ml_w "LostRoom$Lodger" true 6 4 ∧ ml_ty 6 4 = .int := ⟨⟨_, rfl, by decide, wm_65⟩, ⟨_, rfl, Or.inr ⟨rfl, rfl, rfl⟩⟩, rfl⟩
theorem wb_33 : ml_y yX1_readSign cX1_readSign 2 none 1 ∧ Cond.instanceMethod yX1_readSign ∈ ml_TB ∧ Cond.selects yX1_readSign.cls yX1_readSign yX1_readSign ∈ ml_TB ∧ ∃ q : vw_C, ml_cs[1]? = some q ∧ q.1 = yX1_readSign.cls := ⟨⟨wm_66, wm_56, ⟨by decide, by decide, by decide +kernel⟩, by decide⟩, wm_67, wm_68, _, rfl, rfl⟩
theorem wb_34 : ml_f "LostRoom$Book" 11 1 0 ∧ ∀ B m a j, ml_v B m (ml_ty 1 0) a j = ml_rf B (ml_R m a j) := ⟨⟨_, rfl, by decide, wm_49⟩, fun _ _ _ _ => rfl⟩
theorem wb_35 : ml_f "LostRoom$Book" 38 1 2 ∧ ∀ B m a j, ml_v B m (ml_ty 1 2) a j = .int (ml_I m a j) := ⟨⟨_, rfl, by decide, wm_70⟩, fun _ _ _ _ => rfl⟩
theorem wb_36 : ml_o "LostRoom$Book" 9 6 5 := ⟨_, rfl, rfl, wm_48, wm_71, wm_72⟩
theorem wb_37 : ml_y yX6_init cX6_init 6 none 5 ∧ Cond.instanceMethod yX6_init ∈ ml_TB ∧ yX6_init.name = "<init>" := ⟨⟨wm_73, wm_72, ⟨by decide, by decide, by decide +kernel⟩, by decide⟩, wm_74, rfl⟩
theorem wb_38 : ml_f "LostRoom$Book" 38 1 2 ∧ ml_w "LostRoom$Book" false 1 2 ∧ ml_ty 1 2 = .int := ⟨⟨_, rfl, by decide, wm_70⟩, ⟨_, rfl, Or.inl rfl⟩, rfl⟩
theorem wb_39 : ml_y yX1_readYear cX1_readYear 3 (some .int) 0 ∧ Cond.instanceMethod yX1_readYear ∈ ml_TB ∧ Cond.selects yX1_readYear.cls yX1_readYear yX1_readYear ∈ ml_TB ∧ ∃ q : vw_C, ml_cs[1]? = some q ∧ q.1 = yX1_readYear.cls := ⟨⟨wm_76, wm_56, ⟨by decide, by decide, by decide +kernel⟩, by decide⟩, wm_77, wm_78, _, rfl, rfl⟩
theorem wb_40 : Cond.methodLink "LostRoom$Trunk" 1 Lib.objectInit ∈ ml_TB ∧ Cond.instanceMethod Lib.objectInit ∈ ml_TB ∧ Cond.code Lib.objectInit ⟨#[0xb1]⟩ 1 none ∈ ml_TB := ⟨wm_80, wm_46, wm_47⟩
theorem wb_41 : ml_f "LostRoom$Trunk" 7 9 0 ∧ ml_w "LostRoom$Trunk" true 9 0 ∧ ml_ty 9 0 = .int := ⟨⟨_, rfl, by decide, wm_81⟩, ⟨_, rfl, Or.inr ⟨rfl, rfl, rfl⟩⟩, rfl⟩
theorem wb_42 : ml_f "LostRoom$Trunk" 13 9 1 ∧ ml_w "LostRoom$Trunk" true 9 1 ∧ ml_ty 9 1 = .int := ⟨⟨_, rfl, by decide, wm_82⟩, ⟨_, rfl, Or.inr ⟨rfl, rfl, rfl⟩⟩, rfl⟩
theorem wb_43 : ml_f "LostRoom$Book" 19 1 1 ∧ ∀ B m a j, ml_v B m (ml_ty 1 1) a j = ml_rf B (ml_R m a j) := ⟨⟨_, rfl, by decide, wm_51⟩, fun _ _ _ _ => rfl⟩
theorem wb_44 : ml_f "LostRoom$Book" 44 1 3 ∧ ∀ B m a j, ml_v B m (ml_ty 1 3) a j = .int (ml_I m a j) := ⟨⟨_, rfl, by decide, wm_83⟩, fun _ _ _ _ => rfl⟩
theorem wb_45 : ml_o "LostRoom$Book" 17 9 4 := ⟨_, rfl, rfl, wm_50, wm_84, wm_85⟩
theorem wb_46 : ml_y yX9_init cX9_init 3 none 2 ∧ Cond.instanceMethod yX9_init ∈ ml_TB ∧ yX9_init.name = "<init>" := ⟨⟨wm_86, wm_85, ⟨by decide, by decide, by decide +kernel⟩, by decide⟩, wm_87, rfl⟩
theorem wb_47 : ml_f "LostRoom$Book" 44 1 3 ∧ ml_w "LostRoom$Book" false 1 3 ∧ ml_ty 1 3 = .int := ⟨⟨_, rfl, by decide, wm_83⟩, ⟨_, rfl, Or.inl rfl⟩, rfl⟩
theorem wb_48 : ml_f "LostRoom$Book" 50 1 5 ∧ ∀ B m a j, ml_v B m (ml_ty 1 5) a j = .int (ml_I m a j) := ⟨⟨_, rfl, by decide, wm_89⟩, fun _ _ _ _ => rfl⟩
theorem wb_49 : ml_f "LostRoom$Book" 50 1 5 ∧ ml_w "LostRoom$Book" false 1 5 ∧ ml_ty 1 5 = .int := ⟨⟨_, rfl, by decide, wm_89⟩, ⟨_, rfl, Or.inl rfl⟩, rfl⟩
theorem wb_50 : ml_f "LostRoom$Book" 74 9 2 ∧ ∀ B m a j, ml_v B m (ml_ty 9 2) a j = .int (ml_I m a j) := ⟨⟨_, rfl, by decide, wm_90⟩, fun _ _ _ _ => rfl⟩
theorem wb_51 : ml_f "LostRoom$Book" 74 9 2 ∧ ml_w "LostRoom$Book" false 9 2 ∧ ml_ty 9 2 = .int := ⟨⟨_, rfl, by decide, wm_90⟩, ⟨_, rfl, Or.inl rfl⟩, rfl⟩
theorem wb_52 : ml_f "LostRoom$Book" 77 9 3 ∧ ∀ B m a j, ml_v B m (ml_ty 9 3) a j = .int (ml_I m a j) := ⟨⟨_, rfl, by decide, wm_91⟩, fun _ _ _ _ => rfl⟩
theorem wb_53 : ml_f "LostRoom$Book" 77 9 3 ∧ ml_w "LostRoom$Book" false 9 3 ∧ ml_ty 9 3 = .int := ⟨⟨_, rfl, by decide, wm_91⟩, ⟨_, rfl, Or.inl rfl⟩, rfl⟩
theorem wb_54 : ml_y yX1_readStanding cX1_readStanding 4 none 0 ∧ Cond.instanceMethod yX1_readStanding ∈ ml_TB ∧ Cond.selects yX1_readStanding.cls yX1_readStanding yX1_readStanding ∈ ml_TB ∧ ∃ q : vw_C, ml_cs[1]? = some q ∧ q.1 = yX1_readStanding.cls := ⟨⟨wm_92, wm_56, ⟨by decide, by decide, by decide +kernel⟩, by decide⟩, wm_93, wm_94, _, rfl, rfl⟩
theorem wb_55 : ml_y yX1_readTrunk cX1_readTrunk 3 none 0 ∧ Cond.instanceMethod yX1_readTrunk ∈ ml_TB ∧ Cond.selects yX1_readTrunk.cls yX1_readTrunk yX1_readTrunk ∈ ml_TB ∧ ∃ q : vw_C, ml_cs[1]? = some q ∧ q.1 = yX1_readTrunk.cls := ⟨⟨wm_96, wm_56, ⟨by decide, by decide, by decide +kernel⟩, by decide⟩, wm_97, wm_98, _, rfl, rfl⟩
theorem wb_56 : ml_y yX1_readLodger cX1_readLodger 6 none 0 ∧ Cond.instanceMethod yX1_readLodger ∈ ml_TB ∧ Cond.selects yX1_readLodger.cls yX1_readLodger yX1_readLodger ∈ ml_TB ∧ ∃ q : vw_C, ml_cs[1]? = some q ∧ q.1 = yX1_readLodger.cls := ⟨⟨wm_100, wm_56, ⟨by decide, by decide, by decide +kernel⟩, by decide⟩, wm_101, wm_102, _, rfl, rfl⟩
theorem wb_57 : ml_y yX1_readItem cX1_readItem 2 none 1 ∧ Cond.instanceMethod yX1_readItem ∈ ml_TB ∧ Cond.selects yX1_readItem.cls yX1_readItem yX1_readItem ∈ ml_TB ∧ ∃ q : vw_C, ml_cs[1]? = some q ∧ q.1 = yX1_readItem.cls := ⟨⟨wm_104, wm_56, ⟨by decide, by decide, by decide +kernel⟩, by decide⟩, wm_105, wm_106, _, rfl, rfl⟩
theorem wb_58 : ml_o "LostRoom" 21 1 8 := ⟨_, rfl, rfl, wm_108, wm_109, wm_56⟩
theorem wb_59 : ml_y yX1_init cX1_init 2 none 1 ∧ Cond.instanceMethod yX1_init ∈ ml_TB ∧ yX1_init.name = "<init>" := ⟨⟨wm_110, wm_56, ⟨by decide, by decide, by decide +kernel⟩, by decide⟩, wm_111, rfl⟩
theorem wb_60 : ml_y yX1_read cX1_read 2 none 0 ∧ Cond.instanceMethod yX1_read ∈ ml_TB ∧ Cond.selects yX1_read.cls yX1_read yX1_read ∈ ml_TB ∧ ∃ q : vw_C, ml_cs[1]? = some q ∧ q.1 = yX1_read.cls := ⟨⟨wm_113, wm_56, ⟨by decide, by decide, by decide +kernel⟩, by decide⟩, wm_114, wm_115, _, rfl, rfl⟩
theorem wb_61 : ml_f "LostRoom" 115 1 4 ∧ ∀ B m a j, ml_v B m (ml_ty 1 4) a j = .int (ml_I m a j) := ⟨⟨_, rfl, by decide, wm_117⟩, fun _ _ _ _ => rfl⟩
theorem wb_62 : ml_f "LostRoom" 26 10 2 ∧ ml_w "LostRoom" false 10 2 ∧ ml_isR (ml_ty 10 2) := ⟨⟨_, rfl, by decide, wm_118⟩, ⟨_, rfl, Or.inl rfl⟩, Or.inl ⟨_, rfl⟩⟩
theorem wb_63 : ml_f "LostRoom" 118 10 5 ∧ ml_w "LostRoom" false 10 5 ∧ ml_ty 10 5 = .int := ⟨⟨_, rfl, by decide, wm_119⟩, ⟨_, rfl, Or.inl rfl⟩, rfl⟩
theorem wb_64 : ml_f "LostRoom" 121 10 7 ∧ ml_w "LostRoom" false 10 7 ∧ ml_ty 10 7 = .int := ⟨⟨_, rfl, by decide, wm_120⟩, ⟨_, rfl, Or.inl rfl⟩, rfl⟩
theorem wb_65 : ml_f "LostRoom" 124 10 9 ∧ ml_w "LostRoom" false 10 9 ∧ ml_ty 10 9 = .int := ⟨⟨_, rfl, by decide, wm_121⟩, ⟨_, rfl, Or.inl rfl⟩, rfl⟩
theorem wb_66 : ml_f "LostRoom" 127 10 11 ∧ ml_w "LostRoom" false 10 11 ∧ ml_ty 10 11 = .int := ⟨⟨_, rfl, by decide, wm_122⟩, ⟨_, rfl, Or.inl rfl⟩, rfl⟩
theorem wb_67 : ml_f "LostRoom" 61 10 12 ∧ ∀ B m a j, ml_v B m (ml_ty 10 12) a j = ml_rf B (ml_R m a j) := ⟨⟨_, rfl, by decide, wm_123⟩, fun _ _ _ _ => rfl⟩
theorem wb_68 : ml_f "LostRoom" 130 7 0 ∧ ml_w "LostRoom" false 7 0 ∧ ml_ty 7 0 = .boolean := ⟨⟨_, rfl, by decide, wm_124⟩, ⟨_, rfl, Or.inl rfl⟩, rfl⟩
theorem wb_69 : ml_f "LostRoom" 68 10 13 ∧ ∀ B m a j, ml_v B m (ml_ty 10 13) a j = ml_rf B (ml_R m a j) := ⟨⟨_, rfl, by decide, wm_125⟩, fun _ _ _ _ => rfl⟩
theorem wb_70 : ml_f "LostRoom" 134 4 0 ∧ ml_w "LostRoom" false 4 0 ∧ ml_ty 4 0 = .boolean := ⟨⟨_, rfl, by decide, wm_126⟩, ⟨_, rfl, Or.inl rfl⟩, rfl⟩
theorem wb_71 : ml_f "LostRoom" 26 10 2 ∧ ∀ B m a j, ml_v B m (ml_ty 10 2) a j = ml_rf B (ml_R m a j) := ⟨⟨_, rfl, by decide, wm_118⟩, fun _ _ _ _ => rfl⟩
theorem wb_72 : ml_f "LostRoom" 135 1 3 ∧ ∀ B m a j, ml_v B m (ml_ty 1 3) a j = .int (ml_I m a j) := ⟨⟨_, rfl, by decide, wm_127⟩, fun _ _ _ _ => rfl⟩
theorem wb_73 : ml_y yX10_fault cX10_fault 4 (some .int) 1 ∧ Cond.instanceMethod yX10_fault ∈ ml_TB ∧ Cond.selects yX10_fault.cls yX10_fault yX10_fault ∈ ml_TB ∧ ∃ q : vw_C, ml_cs[10]? = some q ∧ q.1 = yX10_fault.cls := ⟨⟨wm_128, wm_19, ⟨by decide, by decide, by decide +kernel⟩, by decide⟩, wm_129, wm_130, _, rfl, rfl⟩
theorem wb_74 : ml_y yX10_book cX10_book 4 (some .int) 1 ∧ Cond.instanceMethod yX10_book ∈ ml_TB ∧ Cond.selects yX10_book.cls yX10_book yX10_book ∈ ml_TB ∧ ∃ q : vw_C, ml_cs[10]? = some q ∧ q.1 = yX10_book.cls := ⟨⟨wm_132, wm_19, ⟨by decide, by decide, by decide +kernel⟩, by decide⟩, wm_133, wm_134, _, rfl, rfl⟩
theorem wb_75 : ml_y yL_number cL_number 3 (some .int) 3 ∧ Cond.static yL_number ∈ ml_TB := ⟨⟨wm_136, wm_42, ⟨by decide, by decide, by decide +kernel⟩, by decide⟩, wm_137⟩
theorem wb_76 : ml_y yX10_text cX10_text 4 (some .int) 2 ∧ Cond.instanceMethod yX10_text ∈ ml_TB ∧ Cond.selects yX10_text.cls yX10_text yX10_text ∈ ml_TB ∧ ∃ q : vw_C, ml_cs[10]? = some q ∧ q.1 = yX10_text.cls := ⟨⟨wm_139, wm_19, ⟨by decide, by decide, by decide +kernel⟩, by decide⟩, wm_140, wm_141, _, rfl, rfl⟩
theorem wb_77 : ml_f "LostRoom" 118 10 5 ∧ ∀ B m a j, ml_v B m (ml_ty 10 5) a j = .int (ml_I m a j) := ⟨⟨_, rfl, by decide, wm_119⟩, fun _ _ _ _ => rfl⟩
theorem wb_78 : ml_f "LostRoom" 36 10 4 ∧ ∀ B m a j, ml_v B m (ml_ty 10 4) a j = ml_rf B (ml_R m a j) := ⟨⟨_, rfl, by decide, wm_144⟩, fun _ _ _ _ => rfl⟩
theorem wb_79 : ml_f "LostRoom" 169 8 5 ∧ ∀ B m a j, ml_v B m (ml_ty 8 5) a j = .int (ml_I m a j) := ⟨⟨_, rfl, by decide, wm_145⟩, fun _ _ _ _ => rfl⟩
theorem wb_80 : ml_y yX10_ownAll cX10_ownAll 3 (some .boolean) 1 ∧ Cond.instanceMethod yX10_ownAll ∈ ml_TB ∧ Cond.selects yX10_ownAll.cls yX10_ownAll yX10_ownAll ∈ ml_TB ∧ ∃ q : vw_C, ml_cs[10]? = some q ∧ q.1 = yX10_ownAll.cls := ⟨⟨wm_146, wm_19, ⟨by decide, by decide, by decide +kernel⟩, by decide⟩, wm_147, wm_148, _, rfl, rfl⟩
theorem wb_81 : ml_f "LostRoom" 203 10 15 ∧ ml_w "LostRoom" false 10 15 ∧ ml_ty 10 15 = .int := ⟨⟨_, rfl, by decide, wm_150⟩, ⟨_, rfl, Or.inl rfl⟩, rfl⟩
theorem wb_82 : ml_y yJ6_bitCount_0f7a4 cJ6_bitCount_0f7a4 1 (some .int) 1 ∧ Cond.static yJ6_bitCount_0f7a4 ∈ ml_TB := ⟨⟨wm_151, wm_152, ⟨by decide, by decide, by decide +kernel⟩, by decide⟩, wm_153⟩
theorem wb_83 : ml_f "LostRoom" 193 1 2 ∧ ∀ B m a j, ml_v B m (ml_ty 1 2) a j = .int (ml_I m a j) := ⟨⟨_, rfl, by decide, wm_155⟩, fun _ _ _ _ => rfl⟩
theorem wb_84 : ml_f "LostRoom" 203 10 15 ∧ ∀ B m a j, ml_v B m (ml_ty 10 15) a j = .int (ml_I m a j) := ⟨⟨_, rfl, by decide, wm_150⟩, fun _ _ _ _ => rfl⟩
theorem wb_85 : ml_y yX10_isThing cX10_isThing 2 (some .boolean) 1 ∧ Cond.instanceMethod yX10_isThing ∈ ml_TB ∧ Cond.selects yX10_isThing.cls yX10_isThing yX10_isThing ∈ ml_TB ∧ ∃ q : vw_C, ml_cs[10]? = some q ∧ q.1 = yX10_isThing.cls := ⟨⟨wm_156, wm_19, ⟨by decide, by decide, by decide +kernel⟩, by decide⟩, wm_157, wm_158, _, rfl, rfl⟩
theorem wb_86 : ml_f "LostRoom" 206 10 16 ∧ ml_w "LostRoom" false 10 16 ∧ ml_ty 10 16 = .long := ⟨⟨_, rfl, by decide, wm_160⟩, ⟨_, rfl, Or.inl rfl⟩, rfl⟩
theorem wb_87 : ml_y yL_bits cL_bits 3 (some .int) 1 ∧ Cond.static yL_bits ∈ ml_TB := ⟨⟨wm_161, wm_42, ⟨by decide, by decide, by decide +kernel⟩, by decide⟩, wm_162⟩
theorem wb_88 : ml_y yX10_fits cX10_fits 4 (some .int) 0 ∧ Cond.instanceMethod yX10_fits ∈ ml_TB ∧ Cond.selects yX10_fits.cls yX10_fits yX10_fits ∈ ml_TB ∧ ∃ q : vw_C, ml_cs[10]? = some q ∧ q.1 = yX10_fits.cls := ⟨⟨wm_164, wm_19, ⟨by decide, by decide, by decide +kernel⟩, by decide⟩, wm_165, wm_166, _, rfl, rfl⟩
theorem wb_89 : ml_y yX10_may cX10_may 2 (some .int) 1 ∧ Cond.instanceMethod yX10_may ∈ ml_TB ∧ Cond.selects yX10_may.cls yX10_may yX10_may ∈ ml_TB ∧ ∃ q : vw_C, ml_cs[10]? = some q ∧ q.1 = yX10_may.cls := ⟨⟨wm_168, wm_19, ⟨by decide, by decide, by decide +kernel⟩, by decide⟩, wm_169, wm_170, _, rfl, rfl⟩
theorem wb_90 : ml_y yX10_fewest cX10_fewest 4 (some .int) 0 ∧ Cond.instanceMethod yX10_fewest ∈ ml_TB ∧ Cond.selects yX10_fewest.cls yX10_fewest yX10_fewest ∈ ml_TB ∧ ∃ q : vw_C, ml_cs[10]? = some q ∧ q.1 = yX10_fewest.cls := ⟨⟨wm_172, wm_19, ⟨by decide, by decide, by decide +kernel⟩, by decide⟩, wm_173, wm_174, _, rfl, rfl⟩
theorem wb_91 : ml_y yX10_asked cX10_asked 1 (some .int) 0 ∧ Cond.instanceMethod yX10_asked ∈ ml_TB ∧ Cond.selects yX10_asked.cls yX10_asked yX10_asked ∈ ml_TB ∧ ∃ q : vw_C, ml_cs[10]? = some q ∧ q.1 = yX10_asked.cls := ⟨⟨wm_176, wm_19, ⟨by decide, by decide, by decide +kernel⟩, by decide⟩, wm_177, wm_178, _, rfl, rfl⟩
theorem wb_92 : Cond.methodLink "LostRoom$Sharings" 3 Lib.objectInit ∈ ml_TB ∧ Cond.instanceMethod Lib.objectInit ∈ ml_TB ∧ Cond.code Lib.objectInit ⟨#[0xb1]⟩ 1 none ∈ ml_TB := ⟨wm_180, wm_46, wm_47⟩
theorem wb_93 : ml_f "LostRoom$Sharings" 9 7 0 ∧ ml_w "LostRoom$Sharings" true 7 0 ∧ ml_ty 7 0 = .boolean := ⟨⟨_, rfl, by decide, wm_181⟩, ⟨_, rfl, Or.inl rfl⟩, rfl⟩
theorem wb_94 : ml_f "LostRoom$Sharings" 15 7 2 ∧ ml_w "LostRoom$Sharings" true 7 2 ∧ ml_isR (ml_ty 7 2) := ⟨⟨_, rfl, by decide, wm_182⟩, ⟨_, rfl, Or.inr ⟨rfl, rfl, rfl⟩⟩, Or.inr ⟨_, rfl⟩⟩
theorem wb_95 : ml_f "LostRoom$Sharings" 19 7 3 ∧ ml_w "LostRoom$Sharings" true 7 3 ∧ ml_isR (ml_ty 7 3) := ⟨⟨_, rfl, by decide, wm_183⟩, ⟨_, rfl, Or.inr ⟨rfl, rfl, rfl⟩⟩, Or.inr ⟨_, rfl⟩⟩
theorem wb_96 : ml_f "LostRoom$Sharings" 22 7 4 ∧ ml_w "LostRoom$Sharings" true 7 4 ∧ ml_isR (ml_ty 7 4) := ⟨⟨_, rfl, by decide, wm_184⟩, ⟨_, rfl, Or.inr ⟨rfl, rfl, rfl⟩⟩, Or.inr ⟨_, rfl⟩⟩
theorem wb_97 : ml_f "LostRoom$Sharings" 25 7 8 ∧ ml_w "LostRoom$Sharings" true 7 8 ∧ ml_isR (ml_ty 7 8) := ⟨⟨_, rfl, by decide, wm_185⟩, ⟨_, rfl, Or.inr ⟨rfl, rfl, rfl⟩⟩, Or.inr ⟨_, rfl⟩⟩
theorem wb_98 : 20 ≤ 22 ∧ 22 < 23 ∧ newarray.typeOf .boolean = ml_ety 22 ∧ Cond.arrayClass (ml_ety 22) ∈ ml_TB := ⟨by decide, by decide, rfl, wm_186⟩
theorem wb_99 : ml_f "LostRoom$Sharings" 28 7 9 ∧ ml_w "LostRoom$Sharings" true 7 9 ∧ ml_isR (ml_ty 7 9) := ⟨⟨_, rfl, by decide, wm_187⟩, ⟨_, rfl, Or.inr ⟨rfl, rfl, rfl⟩⟩, Or.inr ⟨_, rfl⟩⟩
theorem wb_100 : ml_f "LostRoom$Sharings" 32 7 10 ∧ ml_w "LostRoom$Sharings" true 7 10 ∧ ml_isR (ml_ty 7 10) := ⟨⟨_, rfl, by decide, wm_188⟩, ⟨_, rfl, Or.inr ⟨rfl, rfl, rfl⟩⟩, Or.inr ⟨_, rfl⟩⟩
theorem wb_101 : ml_f "LostRoom$Sharings" 35 7 11 ∧ ml_w "LostRoom$Sharings" true 7 11 ∧ ml_isR (ml_ty 7 11) := ⟨⟨_, rfl, by decide, wm_189⟩, ⟨_, rfl, Or.inr ⟨rfl, rfl, rfl⟩⟩, Or.inr ⟨_, rfl⟩⟩
theorem wb_102 : ml_f "LostRoom$Sharings" 38 7 12 ∧ ml_w "LostRoom$Sharings" true 7 12 ∧ ml_isR (ml_ty 7 12) := ⟨⟨_, rfl, by decide, wm_190⟩, ⟨_, rfl, Or.inr ⟨rfl, rfl, rfl⟩⟩, Or.inr ⟨_, rfl⟩⟩
theorem wb_103 : Cond.methodLink "LostRoom$Lays" 3 Lib.objectInit ∈ ml_TB ∧ Cond.instanceMethod Lib.objectInit ∈ ml_TB ∧ Cond.code Lib.objectInit ⟨#[0xb1]⟩ 1 none ∈ ml_TB := ⟨wm_191, wm_46, wm_47⟩
theorem wb_104 : ml_f "LostRoom$Lays" 9 4 0 ∧ ml_w "LostRoom$Lays" true 4 0 ∧ ml_ty 4 0 = .boolean := ⟨⟨_, rfl, by decide, wm_192⟩, ⟨_, rfl, Or.inl rfl⟩, rfl⟩
theorem wb_105 : ml_f "LostRoom$Lays" 15 4 3 ∧ ml_w "LostRoom$Lays" true 4 3 ∧ ml_isR (ml_ty 4 3) := ⟨⟨_, rfl, by decide, wm_193⟩, ⟨_, rfl, Or.inr ⟨rfl, rfl, rfl⟩⟩, Or.inr ⟨_, rfl⟩⟩
theorem wb_106 : ml_f "LostRoom$Lays" 19 4 5 ∧ ml_w "LostRoom$Lays" true 4 5 ∧ ml_isR (ml_ty 4 5) := ⟨⟨_, rfl, by decide, wm_194⟩, ⟨_, rfl, Or.inr ⟨rfl, rfl, rfl⟩⟩, Or.inr ⟨_, rfl⟩⟩
theorem wb_107 : ml_f "LostRoom$Lays" 22 4 6 ∧ ml_w "LostRoom$Lays" true 4 6 ∧ ml_isR (ml_ty 4 6) := ⟨⟨_, rfl, by decide, wm_195⟩, ⟨_, rfl, Or.inr ⟨rfl, rfl, rfl⟩⟩, Or.inr ⟨_, rfl⟩⟩
theorem wb_108 : ml_f "LostRoom$Lays" 25 4 7 ∧ ml_w "LostRoom$Lays" true 4 7 ∧ ml_isR (ml_ty 4 7) := ⟨⟨_, rfl, by decide, wm_196⟩, ⟨_, rfl, Or.inr ⟨rfl, rfl, rfl⟩⟩, Or.inr ⟨_, rfl⟩⟩
theorem wb_109 : Cond.methodLink "LostRoom$Journeys" 3 Lib.objectInit ∈ ml_TB ∧ Cond.instanceMethod Lib.objectInit ∈ ml_TB ∧ Cond.code Lib.objectInit ⟨#[0xb1]⟩ 1 none ∈ ml_TB := ⟨wm_197, wm_46, wm_47⟩
theorem wb_110 : 25 ≤ 29 ∧ 29 < 31 ∧ ml_ety 29 = .object "LostRoom$Thing" ∧ "LostRoom$Thing" ∈ [RX0, RX2, RX5, RX6, RX8, RX9] ∧ Cond.classLink "LostRoom$Journeys" 9 "LostRoom$Thing" ∈ ml_TB := ⟨by decide, by decide, rfl, by decide, wm_198⟩
theorem wb_111 : ml_f "LostRoom$Journeys" 11 3 0 ∧ ml_w "LostRoom$Journeys" true 3 0 ∧ ml_isR (ml_ty 3 0) := ⟨⟨_, rfl, by decide, wm_199⟩, ⟨_, rfl, Or.inr ⟨rfl, rfl, rfl⟩⟩, Or.inr ⟨_, rfl⟩⟩
theorem wb_112 : ml_f "LostRoom$Journeys" 17 3 2 ∧ ml_w "LostRoom$Journeys" true 3 2 ∧ ml_isR (ml_ty 3 2) := ⟨⟨_, rfl, by decide, wm_200⟩, ⟨_, rfl, Or.inr ⟨rfl, rfl, rfl⟩⟩, Or.inr ⟨_, rfl⟩⟩
theorem wb_113 : ml_f "LostRoom$Journeys" 21 3 3 ∧ ml_w "LostRoom$Journeys" true 3 3 ∧ ml_isR (ml_ty 3 3) := ⟨⟨_, rfl, by decide, wm_201⟩, ⟨_, rfl, Or.inr ⟨rfl, rfl, rfl⟩⟩, Or.inr ⟨_, rfl⟩⟩
theorem wb_114 : ml_f "LostRoom$Journeys" 24 3 4 ∧ ml_w "LostRoom$Journeys" true 3 4 ∧ ml_isR (ml_ty 3 4) := ⟨⟨_, rfl, by decide, wm_202⟩, ⟨_, rfl, Or.inr ⟨rfl, rfl, rfl⟩⟩, Or.inr ⟨_, rfl⟩⟩
theorem wb_115 : ml_f "LostRoom$Journeys" 27 3 5 ∧ ml_w "LostRoom$Journeys" true 3 5 ∧ ml_isR (ml_ty 3 5) := ⟨⟨_, rfl, by decide, wm_203⟩, ⟨_, rfl, Or.inr ⟨rfl, rfl, rfl⟩⟩, Or.inr ⟨_, rfl⟩⟩
theorem wb_116 : Cond.methodLink "LostRoom" 1 Lib.objectInit ∈ ml_TB ∧ Cond.instanceMethod Lib.objectInit ∈ ml_TB ∧ Cond.code Lib.objectInit ⟨#[0xb1]⟩ 1 none ∈ ml_TB := ⟨wm_204, wm_46, wm_47⟩
theorem wb_117 : 23 ≤ 23 ∧ 23 < 25 ∧ ml_ety 23 = .array .int ∧ (.int : FieldType) ∈ [FieldType.int, FieldType.byte] ∧ Cond.classLink "LostRoom" 9 (FieldType.array .int).toString ∈ ml_TB := ⟨by decide, by decide, rfl, by decide, wm_205⟩
theorem wb_118 : ml_f "LostRoom" 11 10 0 ∧ ml_w "LostRoom" true 10 0 ∧ ml_isR (ml_ty 10 0) := ⟨⟨_, rfl, by decide, wm_206⟩, ⟨_, rfl, Or.inr ⟨rfl, rfl, rfl⟩⟩, Or.inr ⟨_, rfl⟩⟩
theorem wb_119 : 23 ≤ 24 ∧ 24 < 25 ∧ ml_ety 24 = .array .byte ∧ (.byte : FieldType) ∈ [FieldType.int, FieldType.byte] ∧ Cond.classLink "LostRoom" 15 (FieldType.array .byte).toString ∈ ml_TB := ⟨by decide, by decide, rfl, by decide, wm_207⟩
theorem wb_120 : ml_f "LostRoom" 17 10 1 ∧ ml_w "LostRoom" true 10 1 ∧ ml_isR (ml_ty 10 1) := ⟨⟨_, rfl, by decide, wm_32⟩, ⟨_, rfl, Or.inr ⟨rfl, rfl, rfl⟩⟩, Or.inr ⟨_, rfl⟩⟩
theorem wb_121 : ml_f "LostRoom" 26 10 2 ∧ ml_w "LostRoom" true 10 2 ∧ ml_isR (ml_ty 10 2) := ⟨⟨_, rfl, by decide, wm_118⟩, ⟨_, rfl, Or.inl rfl⟩, Or.inl ⟨_, rfl⟩⟩
theorem wb_122 : ml_f "LostRoom" 30 10 3 ∧ ml_w "LostRoom" true 10 3 ∧ ml_ty 10 3 = .int := ⟨⟨_, rfl, by decide, wm_208⟩, ⟨_, rfl, Or.inl rfl⟩, rfl⟩
theorem wb_123 : 25 ≤ 29 ∧ 29 < 31 ∧ ml_ety 29 = .object "LostRoom$Thing" ∧ "LostRoom$Thing" ∈ [RX0, RX2, RX5, RX6, RX8, RX9] ∧ Cond.classLink "LostRoom" 34 "LostRoom$Thing" ∈ ml_TB := ⟨by decide, by decide, rfl, by decide, wm_209⟩
theorem wb_124 : ml_f "LostRoom" 36 10 4 ∧ ml_w "LostRoom" true 10 4 ∧ ml_isR (ml_ty 10 4) := ⟨⟨_, rfl, by decide, wm_144⟩, ⟨_, rfl, Or.inr ⟨rfl, rfl, rfl⟩⟩, Or.inr ⟨_, rfl⟩⟩
theorem wb_125 : 25 ≤ 27 ∧ 27 < 31 ∧ ml_ety 27 = .object "LostRoom$Line" ∧ "LostRoom$Line" ∈ [RX0, RX2, RX5, RX6, RX8, RX9] ∧ Cond.classLink "LostRoom" 40 "LostRoom$Line" ∈ ml_TB := ⟨by decide, by decide, rfl, by decide, wm_210⟩
theorem wb_126 : ml_f "LostRoom" 42 10 6 ∧ ml_w "LostRoom" true 10 6 ∧ ml_isR (ml_ty 10 6) := ⟨⟨_, rfl, by decide, wm_211⟩, ⟨_, rfl, Or.inr ⟨rfl, rfl, rfl⟩⟩, Or.inr ⟨_, rfl⟩⟩
theorem wb_127 : 25 ≤ 25 ∧ 25 < 31 ∧ ml_ety 25 = .object "LostRoom$Bit" ∧ "LostRoom$Bit" ∈ [RX0, RX2, RX5, RX6, RX8, RX9] ∧ Cond.classLink "LostRoom" 46 "LostRoom$Bit" ∈ ml_TB := ⟨by decide, by decide, rfl, by decide, wm_212⟩
theorem wb_128 : ml_f "LostRoom" 48 10 8 ∧ ml_w "LostRoom" true 10 8 ∧ ml_isR (ml_ty 10 8) := ⟨⟨_, rfl, by decide, wm_213⟩, ⟨_, rfl, Or.inr ⟨rfl, rfl, rfl⟩⟩, Or.inr ⟨_, rfl⟩⟩
theorem wb_129 : 25 ≤ 26 ∧ 26 < 31 ∧ ml_ety 26 = .object "LostRoom$Claim" ∧ "LostRoom$Claim" ∈ [RX0, RX2, RX5, RX6, RX8, RX9] ∧ Cond.classLink "LostRoom" 52 "LostRoom$Claim" ∈ ml_TB := ⟨by decide, by decide, rfl, by decide, wm_214⟩
theorem wb_130 : ml_f "LostRoom" 54 10 10 ∧ ml_w "LostRoom" true 10 10 ∧ ml_isR (ml_ty 10 10) := ⟨⟨_, rfl, by decide, wm_215⟩, ⟨_, rfl, Or.inr ⟨rfl, rfl, rfl⟩⟩, Or.inr ⟨_, rfl⟩⟩
theorem wb_131 : ml_o "LostRoom" 58 7 13 := ⟨_, rfl, rfl, wm_216, wm_217, wm_218⟩
theorem wb_132 : ml_y yX7_init cX7_init 1 none 0 ∧ Cond.instanceMethod yX7_init ∈ ml_TB ∧ yX7_init.name = "<init>" := ⟨⟨wm_219, wm_218, ⟨by decide, by decide, by decide +kernel⟩, by decide⟩, wm_220, rfl⟩
theorem wb_133 : ml_f "LostRoom" 61 10 12 ∧ ml_w "LostRoom" true 10 12 ∧ ml_isR (ml_ty 10 12) := ⟨⟨_, rfl, by decide, wm_123⟩, ⟨_, rfl, Or.inr ⟨rfl, rfl, rfl⟩⟩, Or.inl ⟨_, rfl⟩⟩
theorem wb_134 : ml_o "LostRoom" 65 4 8 := ⟨_, rfl, rfl, wm_221, wm_222, wm_223⟩
theorem wb_135 : ml_y yX4_init cX4_init 1 none 0 ∧ Cond.instanceMethod yX4_init ∈ ml_TB ∧ yX4_init.name = "<init>" := ⟨⟨wm_224, wm_223, ⟨by decide, by decide, by decide +kernel⟩, by decide⟩, wm_225, rfl⟩
theorem wb_136 : ml_f "LostRoom" 68 10 13 ∧ ml_w "LostRoom" true 10 13 ∧ ml_isR (ml_ty 10 13) := ⟨⟨_, rfl, by decide, wm_125⟩, ⟨_, rfl, Or.inr ⟨rfl, rfl, rfl⟩⟩, Or.inl ⟨_, rfl⟩⟩
theorem wb_137 : ml_o "LostRoom" 72 3 6 := ⟨_, rfl, rfl, wm_226, wm_227, wm_228⟩
theorem wb_138 : ml_y yX3_init cX3_init 1 none 0 ∧ Cond.instanceMethod yX3_init ∈ ml_TB ∧ yX3_init.name = "<init>" := ⟨⟨wm_229, wm_228, ⟨by decide, by decide, by decide +kernel⟩, by decide⟩, wm_230, rfl⟩
theorem wb_139 : ml_f "LostRoom" 75 10 14 ∧ ml_w "LostRoom" true 10 14 ∧ ml_isR (ml_ty 10 14) := ⟨⟨_, rfl, by decide, wm_231⟩, ⟨_, rfl, Or.inr ⟨rfl, rfl, rfl⟩⟩, Or.inl ⟨_, rfl⟩⟩
theorem wb_140 : ml_f "LostRoom" 79 10 18 ∧ ml_w "LostRoom" true 10 18 ∧ ml_isR (ml_ty 10 18) := ⟨⟨_, rfl, by decide, wm_23⟩, ⟨_, rfl, Or.inr ⟨rfl, rfl, rfl⟩⟩, Or.inr ⟨_, rfl⟩⟩
theorem wb_141 : ml_y yL_cell cL_cell 2 (some .int) 2 ∧ Cond.static yL_cell ∈ ml_TB := ⟨⟨wm_232, wm_42, ⟨by decide, by decide, by decide +kernel⟩, by decide⟩, wm_233⟩
theorem wb_142 : ml_y yX10_isKeyNumber cX10_isKeyNumber 2 (some .boolean) 1 ∧ Cond.static yX10_isKeyNumber ∈ ml_TB := ⟨⟨wm_235, wm_19, ⟨by decide, by decide, by decide +kernel⟩, by decide⟩, wm_236⟩
theorem wb_143 : Cond.methodLink "LostRoom$Thing" 3 Lib.objectInit ∈ ml_TB ∧ Cond.instanceMethod Lib.objectInit ∈ ml_TB ∧ Cond.code Lib.objectInit ⟨#[0xb1]⟩ 1 none ∈ ml_TB := ⟨wm_238, wm_46, wm_47⟩
theorem wb_144 : ml_f "LostRoom$Thing" 9 8 6 ∧ ml_w "LostRoom$Thing" true 8 6 ∧ ml_ty 8 6 = .int := ⟨⟨_, rfl, by decide, wm_239⟩, ⟨_, rfl, Or.inl rfl⟩, rfl⟩
theorem wb_145 : ml_f "LostRoom$Thing" 15 8 0 ∧ ml_w "LostRoom$Thing" true 8 0 ∧ ml_ty 8 0 = .int := ⟨⟨_, rfl, by decide, wm_240⟩, ⟨_, rfl, Or.inr ⟨rfl, rfl, rfl⟩⟩, rfl⟩
theorem wb_146 : ml_f "LostRoom$Thing" 18 8 1 ∧ ml_w "LostRoom$Thing" true 8 1 ∧ ml_ty 8 1 = .int := ⟨⟨_, rfl, by decide, wm_241⟩, ⟨_, rfl, Or.inr ⟨rfl, rfl, rfl⟩⟩, rfl⟩
theorem wb_147 : ml_f "LostRoom$Thing" 21 8 2 ∧ ml_w "LostRoom$Thing" true 8 2 ∧ ml_ty 8 2 = .int := ⟨⟨_, rfl, by decide, wm_242⟩, ⟨_, rfl, Or.inr ⟨rfl, rfl, rfl⟩⟩, rfl⟩
theorem wb_148 : ml_f "LostRoom$Thing" 24 8 3 ∧ ml_w "LostRoom$Thing" true 8 3 ∧ ml_ty 8 3 = .int := ⟨⟨_, rfl, by decide, wm_243⟩, ⟨_, rfl, Or.inr ⟨rfl, rfl, rfl⟩⟩, rfl⟩
theorem wb_149 : ml_f "LostRoom$Thing" 27 8 4 ∧ ml_w "LostRoom$Thing" true 8 4 ∧ ml_ty 8 4 = .int := ⟨⟨_, rfl, by decide, wm_244⟩, ⟨_, rfl, Or.inr ⟨rfl, rfl, rfl⟩⟩, rfl⟩
theorem wb_150 : ml_f "LostRoom$Thing" 24 8 3 ∧ ∀ B m a j, ml_v B m (ml_ty 8 3) a j = .int (ml_I m a j) := ⟨⟨_, rfl, by decide, wm_243⟩, fun _ _ _ _ => rfl⟩
theorem wb_151 : ml_f "LostRoom$Thing" 50 6 4 ∧ ∀ B m a j, ml_v B m (ml_ty 6 4) a j = .int (ml_I m a j) := ⟨⟨_, rfl, by decide, wm_245⟩, fun _ _ _ _ => rfl⟩
theorem wb_152 : ml_f "LostRoom$Thing" 47 6 3 ∧ ∀ B m a j, ml_v B m (ml_ty 6 3) a j = .int (ml_I m a j) := ⟨⟨_, rfl, by decide, wm_246⟩, fun _ _ _ _ => rfl⟩
theorem wb_153 : ml_f "LostRoom$Thing" 21 8 2 ∧ ∀ B m a j, ml_v B m (ml_ty 8 2) a j = .int (ml_I m a j) := ⟨⟨_, rfl, by decide, wm_242⟩, fun _ _ _ _ => rfl⟩
theorem wb_154 : ml_f "LostRoom$Thing" 30 6 0 ∧ ∀ B m a j, ml_v B m (ml_ty 6 0) a j = .int (ml_I m a j) := ⟨⟨_, rfl, by decide, wm_247⟩, fun _ _ _ _ => rfl⟩
theorem wb_155 : ml_f "LostRoom$Thing" 18 8 1 ∧ ∀ B m a j, ml_v B m (ml_ty 8 1) a j = .int (ml_I m a j) := ⟨⟨_, rfl, by decide, wm_241⟩, fun _ _ _ _ => rfl⟩
theorem wb_156 : ml_f "LostRoom$Thing" 33 6 1 ∧ ∀ B m a j, ml_v B m (ml_ty 6 1) a j = .int (ml_I m a j) := ⟨⟨_, rfl, by decide, wm_248⟩, fun _ _ _ _ => rfl⟩
theorem wb_157 : ml_f "LostRoom$Thing" 15 8 0 ∧ ∀ B m a j, ml_v B m (ml_ty 8 0) a j = .int (ml_I m a j) := ⟨⟨_, rfl, by decide, wm_240⟩, fun _ _ _ _ => rfl⟩
theorem wb_158 : ml_f "LostRoom$Thing" 34 6 2 ∧ ∀ B m a j, ml_v B m (ml_ty 6 2) a j = .int (ml_I m a j) := ⟨⟨_, rfl, by decide, wm_249⟩, fun _ _ _ _ => rfl⟩
theorem wb_159 : Cond.methodLink "LostRoom$Thing" 37 Lib.Math.abs.name ∈ ml_TB ∧ Cond.static Lib.Math.abs.name ∈ ml_TB ∧ Cond.initialized "java/lang/Math" ∈ ml_TB ∧ Cond.code Lib.Math.abs.name Lib.Math.abs.code 1 (some .int) ∈ ml_TB := ⟨wm_250, wm_251, wm_6, wm_252⟩
theorem wb_160 : ml_y yX8_suitsAsLetter cX8_suitsAsLetter 3 (some .boolean) 1 ∧ Cond.instanceMethod yX8_suitsAsLetter ∈ ml_TB ∧ Cond.selects yX8_suitsAsLetter.cls yX8_suitsAsLetter yX8_suitsAsLetter ∈ ml_TB ∧ ∃ q : vw_C, ml_cs[8]? = some q ∧ q.1 = yX8_suitsAsLetter.cls := ⟨⟨wm_253, wm_254, ⟨by decide, by decide, by decide +kernel⟩, by decide⟩, wm_255, wm_256, _, rfl, rfl⟩
theorem wb_161 : ml_f "LostRoom$Thing" 27 8 4 ∧ ∀ B m a j, ml_v B m (ml_ty 8 4) a j = .int (ml_I m a j) := ⟨⟨_, rfl, by decide, wm_244⟩, fun _ _ _ _ => rfl⟩
theorem wb_162 : ml_f "LostRoom" 360 1 0 ∧ ∀ B m a j, ml_v B m (ml_ty 1 0) a j = ml_rf B (ml_R m a j) := ⟨⟨_, rfl, by decide, wm_258⟩, fun _ _ _ _ => rfl⟩
theorem wb_163 : ml_y yX8_suits cX8_suits 3 (some .boolean) 2 ∧ Cond.instanceMethod yX8_suits ∈ ml_TB ∧ Cond.selects yX8_suits.cls yX8_suits yX8_suits ∈ ml_TB ∧ ∃ q : vw_C, ml_cs[8]? = some q ∧ q.1 = yX8_suits.cls := ⟨⟨wm_259, wm_254, ⟨by decide, by decide, by decide +kernel⟩, by decide⟩, wm_260, wm_261, _, rfl, rfl⟩
theorem wb_164 : ml_y yX8_init cX8_init 6 none 5 ∧ Cond.instanceMethod yX8_init ∈ ml_TB ∧ yX8_init.name = "<init>" := ⟨⟨wm_263, wm_254, ⟨by decide, by decide, by decide +kernel⟩, by decide⟩, wm_264, rfl⟩
theorem wb_165 : ml_y yX10_ownersOf cX10_ownersOf 4 (some .int) 1 ∧ Cond.instanceMethod yX10_ownersOf ∈ ml_TB ∧ Cond.selects yX10_ownersOf.cls yX10_ownersOf yX10_ownersOf ∈ ml_TB ∧ ∃ q : vw_C, ml_cs[10]? = some q ∧ q.1 = yX10_ownersOf.cls := ⟨⟨wm_266, wm_19, ⟨by decide, by decide, by decide +kernel⟩, by decide⟩, wm_267, wm_268, _, rfl, rfl⟩
theorem wb_166 : ml_f "LostRoom" 169 8 5 ∧ ml_w "LostRoom" false 8 5 ∧ ml_ty 8 5 = .int := ⟨⟨_, rfl, by decide, wm_145⟩, ⟨_, rfl, Or.inl rfl⟩, rfl⟩
theorem wb_167 : ml_o "LostRoom" 34 8 8 := ⟨_, rfl, rfl, wm_209, wm_270, wm_254⟩
theorem wb_168 : ml_y yX10_areYears cX10_areYears 2 (some .boolean) 2 ∧ Cond.static yX10_areYears ∈ ml_TB := ⟨⟨wm_271, wm_19, ⟨by decide, by decide, by decide +kernel⟩, by decide⟩, wm_272⟩
theorem wb_169 : ml_y yX10_numberOf cX10_numberOf 3 (some .int) 3 ∧ Cond.static yX10_numberOf ∈ ml_TB := ⟨⟨wm_274, wm_19, ⟨by decide, by decide, by decide +kernel⟩, by decide⟩, wm_275⟩
theorem wb_170 : ml_y yX10_isLodger cX10_isLodger 2 (some .boolean) 1 ∧ Cond.instanceMethod yX10_isLodger ∈ ml_TB ∧ Cond.selects yX10_isLodger.cls yX10_isLodger yX10_isLodger ∈ ml_TB ∧ ∃ q : vw_C, ml_cs[10]? = some q ∧ q.1 = yX10_isLodger.cls := ⟨⟨wm_277, wm_19, ⟨by decide, by decide, by decide +kernel⟩, by decide⟩, wm_278, wm_279, _, rfl, rfl⟩
theorem wb_171 : ml_f "LostRoom" 175 8 6 ∧ ml_w "LostRoom" false 8 6 ∧ ml_ty 8 6 = .int := ⟨⟨_, rfl, by decide, wm_281⟩, ⟨_, rfl, Or.inl rfl⟩, rfl⟩
theorem wb_172 : ml_f "LostRoom" 178 8 7 ∧ ml_w "LostRoom" false 8 7 ∧ ml_ty 8 7 = .boolean := ⟨⟨_, rfl, by decide, wm_282⟩, ⟨_, rfl, Or.inl rfl⟩, rfl⟩
theorem wb_173 : ml_y yX10_isTrunk cX10_isTrunk 2 (some .boolean) 1 ∧ Cond.instanceMethod yX10_isTrunk ∈ ml_TB ∧ Cond.selects yX10_isTrunk.cls yX10_isTrunk yX10_isTrunk ∈ ml_TB ∧ ∃ q : vw_C, ml_cs[10]? = some q ∧ q.1 = yX10_isTrunk.cls := ⟨⟨wm_283, wm_19, ⟨by decide, by decide, by decide +kernel⟩, by decide⟩, wm_284, wm_285, _, rfl, rfl⟩
theorem wb_174 : ml_y yX10_lies cX10_lies 4 (some .int) 3 ∧ Cond.instanceMethod yX10_lies ∈ ml_TB ∧ Cond.selects yX10_lies.cls yX10_lies yX10_lies ∈ ml_TB ∧ ∃ q : vw_C, ml_cs[10]? = some q ∧ q.1 = yX10_lies.cls := ⟨⟨wm_287, wm_19, ⟨by decide, by decide, by decide +kernel⟩, by decide⟩, wm_288, wm_289, _, rfl, rfl⟩
theorem wb_175 : ml_y yX10_thing cX10_thing 8 (some .int) 5 ∧ Cond.instanceMethod yX10_thing ∈ ml_TB ∧ Cond.selects yX10_thing.cls yX10_thing yX10_thing ∈ ml_TB ∧ ∃ q : vw_C, ml_cs[10]? = some q ∧ q.1 = yX10_thing.cls := ⟨⟨wm_291, wm_19, ⟨by decide, by decide, by decide +kernel⟩, by decide⟩, wm_292, wm_293, _, rfl, rfl⟩
theorem wb_176 : ml_f "LostRoom" 30 10 3 ∧ ∀ B m a j, ml_v B m (ml_ty 10 3) a j = .int (ml_I m a j) := ⟨⟨_, rfl, by decide, wm_208⟩, fun _ _ _ _ => rfl⟩
theorem wb_177 : ml_f "LostRoom" 30 10 3 ∧ ml_w "LostRoom" false 10 3 ∧ ml_ty 10 3 = .int := ⟨⟨_, rfl, by decide, wm_208⟩, ⟨_, rfl, Or.inl rfl⟩, rfl⟩
theorem wb_178 : Cond.methodLink "LostRoom" 405 Lib.Math.abs.name ∈ ml_TB ∧ Cond.static Lib.Math.abs.name ∈ ml_TB ∧ Cond.initialized "java/lang/Math" ∈ ml_TB ∧ Cond.code Lib.Math.abs.name Lib.Math.abs.code 1 (some .int) ∈ ml_TB := ⟨wm_295, wm_251, wm_6, wm_252⟩
theorem wb_179 : ml_f "LostRoom" 399 8 3 ∧ ∀ B m a j, ml_v B m (ml_ty 8 3) a j = .int (ml_I m a j) := ⟨⟨_, rfl, by decide, wm_296⟩, fun _ _ _ _ => rfl⟩
theorem wb_180 : ml_f "LostRoom" 219 1 1 ∧ ∀ B m a j, ml_v B m (ml_ty 1 1) a j = ml_rf B (ml_R m a j) := ⟨⟨_, rfl, by decide, wm_297⟩, fun _ _ _ _ => rfl⟩
theorem wb_181 : ml_f "LostRoom" 381 9 0 ∧ ∀ B m a j, ml_v B m (ml_ty 9 0) a j = .int (ml_I m a j) := ⟨⟨_, rfl, by decide, wm_298⟩, fun _ _ _ _ => rfl⟩
theorem wb_182 : ml_y yX10_turns cX10_turns 6 (some .boolean) 2 ∧ Cond.instanceMethod yX10_turns ∈ ml_TB ∧ Cond.selects yX10_turns.cls yX10_turns yX10_turns ∈ ml_TB ∧ ∃ q : vw_C, ml_cs[10]? = some q ∧ q.1 = yX10_turns.cls := ⟨⟨wm_299, wm_19, ⟨by decide, by decide, by decide +kernel⟩, by decide⟩, wm_300, wm_301, _, rfl, rfl⟩
theorem wb_183 : ml_f "LostRoom" 210 8 0 ∧ ∀ B m a j, ml_v B m (ml_ty 8 0) a j = .int (ml_I m a j) := ⟨⟨_, rfl, by decide, wm_303⟩, fun _ _ _ _ => rfl⟩
theorem wb_184 : ml_y yX10_opened cX10_opened 4 (some .int) 1 ∧ Cond.instanceMethod yX10_opened ∈ ml_TB ∧ Cond.selects yX10_opened.cls yX10_opened yX10_opened ∈ ml_TB ∧ ∃ q : vw_C, ml_cs[10]? = some q ∧ q.1 = yX10_opened.cls := ⟨⟨wm_304, wm_19, ⟨by decide, by decide, by decide +kernel⟩, by decide⟩, wm_305, wm_306, _, rfl, rfl⟩
theorem wb_185 : ml_f "LostRoom$Sharings" 115 6 1 ∧ ∀ B m a j, ml_v B m (ml_ty 6 1) a j = .int (ml_I m a j) := ⟨⟨_, rfl, by decide, wm_308⟩, fun _ _ _ _ => rfl⟩
theorem wb_186 : ml_f "LostRoom$Sharings" 35 7 11 ∧ ∀ B m a j, ml_v B m (ml_ty 7 11) a j = ml_rf B (ml_R m a j) := ⟨⟨_, rfl, by decide, wm_189⟩, fun _ _ _ _ => rfl⟩
theorem wb_187 : ml_f "LostRoom$Sharings" 56 7 7 ∧ ∀ B m a j, ml_v B m (ml_ty 7 7) a j = .int (ml_I m a j) := ⟨⟨_, rfl, by decide, wm_309⟩, fun _ _ _ _ => rfl⟩
theorem wb_188 : ml_f "LostRoom$Sharings" 32 7 10 ∧ ∀ B m a j, ml_v B m (ml_ty 7 10) a j = ml_rf B (ml_R m a j) := ⟨⟨_, rfl, by decide, wm_188⟩, fun _ _ _ _ => rfl⟩
theorem wb_189 : ml_f "LostRoom$Sharings" 125 8 5 ∧ ∀ B m a j, ml_v B m (ml_ty 8 5) a j = .int (ml_I m a j) := ⟨⟨_, rfl, by decide, wm_310⟩, fun _ _ _ _ => rfl⟩
theorem wb_190 : ml_y yX10_has cX10_has 2 (some .boolean) 2 ∧ Cond.static yX10_has ∈ ml_TB := ⟨⟨wm_311, wm_19, ⟨by decide, by decide, by decide +kernel⟩, by decide⟩, wm_312⟩
theorem wb_191 : ml_f "LostRoom$Sharings" 25 7 8 ∧ ∀ B m a j, ml_v B m (ml_ty 7 8) a j = ml_rf B (ml_R m a j) := ⟨⟨_, rfl, by decide, wm_185⟩, fun _ _ _ _ => rfl⟩
theorem wb_192 : ml_f "LostRoom$Sharings" 120 8 6 ∧ ∀ B m a j, ml_v B m (ml_ty 8 6) a j = .int (ml_I m a j) := ⟨⟨_, rfl, by decide, wm_313⟩, fun _ _ _ _ => rfl⟩
theorem wb_193 : ml_y yJ7_fill_53178 cJ7_fill_53178 4 none 2 ∧ Cond.static yJ7_fill_53178 ∈ ml_TB := ⟨⟨wm_314, wm_29, ⟨by decide, by decide, by decide +kernel⟩, by decide⟩, wm_315⟩
theorem wb_194 : ml_f "LostRoom$Sharings" 28 7 9 ∧ ∀ B m a j, ml_v B m (ml_ty 7 9) a j = ml_rf B (ml_R m a j) := ⟨⟨_, rfl, by decide, wm_187⟩, fun _ _ _ _ => rfl⟩
theorem wb_195 : ml_f "LostRoom$Sharings" 72 7 1 ∧ ml_w "LostRoom$Sharings" false 7 1 ∧ ml_ty 7 1 = .int := ⟨⟨_, rfl, by decide, wm_317⟩, ⟨_, rfl, Or.inl rfl⟩, rfl⟩
theorem wb_196 : ml_f "LostRoom$Sharings" 38 7 12 ∧ ∀ B m a j, ml_v B m (ml_ty 7 12) a j = ml_rf B (ml_R m a j) := ⟨⟨_, rfl, by decide, wm_190⟩, fun _ _ _ _ => rfl⟩
theorem wb_197 : ml_f "LostRoom$Sharings" 15 7 2 ∧ ∀ B m a j, ml_v B m (ml_ty 7 2) a j = ml_rf B (ml_R m a j) := ⟨⟨_, rfl, by decide, wm_182⟩, fun _ _ _ _ => rfl⟩
theorem wb_198 : Cond.methodLink "LostRoom$Sharings" 109 arraycopyName ∈ ml_TB ∧ Cond.native arraycopyName ∈ ml_TB ∧ Cond.static arraycopyName ∈ ml_TB ∧ Cond.initialized "java/lang/System" ∈ ml_TB := ⟨wm_318, wm_9, wm_10, wm_11⟩
theorem wb_199 : ml_f "LostRoom$Sharings" 72 7 1 ∧ ∀ B m a j, ml_v B m (ml_ty 7 1) a j = .int (ml_I m a j) := ⟨⟨_, rfl, by decide, wm_317⟩, fun _ _ _ _ => rfl⟩
theorem wb_200 : ml_f "LostRoom$Sharings" 52 7 6 ∧ ∀ B m a j, ml_v B m (ml_ty 7 6) a j = .int (ml_I m a j) := ⟨⟨_, rfl, by decide, wm_319⟩, fun _ _ _ _ => rfl⟩
theorem wb_201 : ml_f "LostRoom$Sharings" 22 7 4 ∧ ∀ B m a j, ml_v B m (ml_ty 7 4) a j = ml_rf B (ml_R m a j) := ⟨⟨_, rfl, by decide, wm_184⟩, fun _ _ _ _ => rfl⟩
theorem wb_202 : ml_f "LostRoom$Sharings" 19 7 3 ∧ ∀ B m a j, ml_v B m (ml_ty 7 3) a j = ml_rf B (ml_R m a j) := ⟨⟨_, rfl, by decide, wm_183⟩, fun _ _ _ _ => rfl⟩
theorem wb_203 : ml_f "LostRoom$Sharings" 106 9 2 ∧ ∀ B m a j, ml_v B m (ml_ty 9 2) a j = .int (ml_I m a j) := ⟨⟨_, rfl, by decide, wm_320⟩, fun _ _ _ _ => rfl⟩
theorem wb_204 : ml_f "LostRoom$Sharings" 101 9 3 ∧ ∀ B m a j, ml_v B m (ml_ty 9 3) a j = .int (ml_I m a j) := ⟨⟨_, rfl, by decide, wm_321⟩, fun _ _ _ _ => rfl⟩
theorem wb_205 : ml_f "LostRoom$Sharings" 47 7 5 ∧ ∀ B m a j, ml_v B m (ml_ty 7 5) a j = ml_rf B (ml_R m a j) := ⟨⟨_, rfl, by decide, wm_322⟩, fun _ _ _ _ => rfl⟩
theorem wb_206 : ml_y yX7_give cX7_give 6 none 4 ∧ Cond.static yX7_give ∈ ml_TB := ⟨⟨wm_323, wm_218, ⟨by decide, by decide, by decide +kernel⟩, by decide⟩, wm_324⟩
theorem wb_207 : ml_y yX7_open cX7_open 6 (some .int) 2 ∧ Cond.instanceMethod yX7_open ∈ ml_TB ∧ Cond.selects yX7_open.cls yX7_open yX7_open ∈ ml_TB ∧ ∃ q : vw_C, ml_cs[7]? = some q ∧ q.1 = yX7_open.cls := ⟨⟨wm_326, wm_218, ⟨by decide, by decide, by decide +kernel⟩, by decide⟩, wm_327, wm_328, _, rfl, rfl⟩
theorem wb_208 : ml_y yX7_note cX7_note 3 none 1 ∧ Cond.instanceMethod yX7_note ∈ ml_TB ∧ Cond.selects yX7_note.cls yX7_note yX7_note ∈ ml_TB ∧ ∃ q : vw_C, ml_cs[7]? = some q ∧ q.1 = yX7_note.cls := ⟨⟨wm_330, wm_218, ⟨by decide, by decide, by decide +kernel⟩, by decide⟩, wm_331, wm_332, _, rfl, rfl⟩
theorem wb_209 : ml_f "LostRoom$Sharings" 9 7 0 ∧ ml_w "LostRoom$Sharings" false 7 0 ∧ ml_ty 7 0 = .boolean := ⟨⟨_, rfl, by decide, wm_181⟩, ⟨_, rfl, Or.inl rfl⟩, rfl⟩
theorem wb_210 : ml_f "LostRoom$Sharings" 41 1 1 ∧ ∀ B m a j, ml_v B m (ml_ty 1 1) a j = ml_rf B (ml_R m a j) := ⟨⟨_, rfl, by decide, wm_334⟩, fun _ _ _ _ => rfl⟩
theorem wb_211 : ml_f "LostRoom$Sharings" 47 7 5 ∧ ml_w "LostRoom$Sharings" false 7 5 ∧ ml_isR (ml_ty 7 5) := ⟨⟨_, rfl, by decide, wm_322⟩, ⟨_, rfl, Or.inl rfl⟩, Or.inr ⟨_, rfl⟩⟩
theorem wb_212 : ml_f "LostRoom$Sharings" 48 1 3 ∧ ∀ B m a j, ml_v B m (ml_ty 1 3) a j = .int (ml_I m a j) := ⟨⟨_, rfl, by decide, wm_335⟩, fun _ _ _ _ => rfl⟩
theorem wb_213 : ml_f "LostRoom$Sharings" 52 7 6 ∧ ml_w "LostRoom$Sharings" false 7 6 ∧ ml_ty 7 6 = .int := ⟨⟨_, rfl, by decide, wm_319⟩, ⟨_, rfl, Or.inl rfl⟩, rfl⟩
theorem wb_214 : ml_f "LostRoom$Sharings" 53 1 2 ∧ ∀ B m a j, ml_v B m (ml_ty 1 2) a j = .int (ml_I m a j) := ⟨⟨_, rfl, by decide, wm_336⟩, fun _ _ _ _ => rfl⟩
theorem wb_215 : ml_f "LostRoom$Sharings" 56 7 7 ∧ ml_w "LostRoom$Sharings" false 7 7 ∧ ml_ty 7 7 = .int := ⟨⟨_, rfl, by decide, wm_309⟩, ⟨_, rfl, Or.inl rfl⟩, rfl⟩
theorem wb_216 : ml_f "LostRoom$Sharings" 57 1 0 ∧ ∀ B m a j, ml_v B m (ml_ty 1 0) a j = ml_rf B (ml_R m a j) := ⟨⟨_, rfl, by decide, wm_337⟩, fun _ _ _ _ => rfl⟩
theorem wb_217 : ml_y yX7_compareYears cX7_compareYears 4 none 1 ∧ Cond.instanceMethod yX7_compareYears ∈ ml_TB ∧ Cond.selects yX7_compareYears.cls yX7_compareYears yX7_compareYears ∈ ml_TB ∧ ∃ q : vw_C, ml_cs[7]? = some q ∧ q.1 = yX7_compareYears.cls := ⟨⟨wm_338, wm_218, ⟨by decide, by decide, by decide +kernel⟩, by decide⟩, wm_339, wm_340, _, rfl, rfl⟩
theorem wb_218 : ml_y yX7_countStrangers cX7_countStrangers 6 none 2 ∧ Cond.instanceMethod yX7_countStrangers ∈ ml_TB ∧ Cond.selects yX7_countStrangers.cls yX7_countStrangers yX7_countStrangers ∈ ml_TB ∧ ∃ q : vw_C, ml_cs[7]? = some q ∧ q.1 = yX7_countStrangers.cls := ⟨⟨wm_342, wm_218, ⟨by decide, by decide, by decide +kernel⟩, by decide⟩, wm_343, wm_344, _, rfl, rfl⟩
theorem wb_219 : ml_y yX7_findCovers cX7_findCovers 6 none 2 ∧ Cond.instanceMethod yX7_findCovers ∈ ml_TB ∧ Cond.selects yX7_findCovers.cls yX7_findCovers yX7_findCovers ∈ ml_TB ∧ ∃ q : vw_C, ml_cs[7]? = some q ∧ q.1 = yX7_findCovers.cls := ⟨⟨wm_346, wm_218, ⟨by decide, by decide, by decide +kernel⟩, by decide⟩, wm_347, wm_348, _, rfl, rfl⟩
theorem wb_220 : ml_f "LostRoom" 130 7 0 ∧ ∀ B m a j, ml_v B m (ml_ty 7 0) a j = .int (ml_I m a j) := ⟨⟨_, rfl, by decide, wm_124⟩, fun _ _ _ _ => rfl⟩
theorem wb_221 : ml_y yX7_gather cX7_gather 6 none 3 ∧ Cond.instanceMethod yX7_gather ∈ ml_TB ∧ Cond.selects yX7_gather.cls yX7_gather yX7_gather ∈ ml_TB ∧ ∃ q : vw_C, ml_cs[7]? = some q ∧ q.1 = yX7_gather.cls := ⟨⟨wm_350, wm_218, ⟨by decide, by decide, by decide +kernel⟩, by decide⟩, wm_351, wm_352, _, rfl, rfl⟩
theorem wb_222 : ml_y yX10_isRow cX10_isRow 1 (some .boolean) 1 ∧ Cond.static yX10_isRow ∈ ml_TB := ⟨⟨wm_354, wm_19, ⟨by decide, by decide, by decide +kernel⟩, by decide⟩, wm_355⟩
theorem wb_223 : ml_y yX10_refreshSharings cX10_refreshSharings 1 none 0 ∧ Cond.instanceMethod yX10_refreshSharings ∈ ml_TB ∧ Cond.selects yX10_refreshSharings.cls yX10_refreshSharings yX10_refreshSharings ∈ ml_TB ∧ ∃ q : vw_C, ml_cs[10]? = some q ∧ q.1 = yX10_refreshSharings.cls := ⟨⟨wm_357, wm_19, ⟨by decide, by decide, by decide +kernel⟩, by decide⟩, wm_358, wm_359, _, rfl, rfl⟩
theorem wb_224 : ml_f "LostRoom" 246 7 1 ∧ ∀ B m a j, ml_v B m (ml_ty 7 1) a j = .int (ml_I m a j) := ⟨⟨_, rfl, by decide, wm_361⟩, fun _ _ _ _ => rfl⟩
theorem wb_225 : ml_f "LostRoom" 11 10 0 ∧ ∀ B m a j, ml_v B m (ml_ty 10 0) a j = ml_rf B (ml_R m a j) := ⟨⟨_, rfl, by decide, wm_206⟩, fun _ _ _ _ => rfl⟩
theorem wb_226 : ml_f "LostRoom" 249 7 2 ∧ ∀ B m a j, ml_v B m (ml_ty 7 2) a j = ml_rf B (ml_R m a j) := ⟨⟨_, rfl, by decide, wm_362⟩, fun _ _ _ _ => rfl⟩
theorem wb_227 : ml_y yJ7_copyOf_59c91 cJ7_copyOf_59c91 3 (some (.array .int)) 2 ∧ Cond.static yJ7_copyOf_59c91 ∈ ml_TB := ⟨⟨wm_363, wm_29, ⟨by decide, by decide, by decide +kernel⟩, by decide⟩, wm_364⟩
theorem wb_228 : ml_f "LostRoom" 206 10 16 ∧ ∀ B m a j, ml_v B m (ml_ty 10 16) a j = .long (ml_J m a j) := ⟨⟨_, rfl, by decide, wm_160⟩, fun _ _ _ _ => rfl⟩
theorem wb_229 : ml_f "LostRoom" 408 9 3 ∧ ∀ B m a j, ml_v B m (ml_ty 9 3) a j = .int (ml_I m a j) := ⟨⟨_, rfl, by decide, wm_367⟩, fun _ _ _ _ => rfl⟩
theorem wb_230 : ml_y yX10_canFollow cX10_canFollow 3 (some .boolean) 2 ∧ Cond.instanceMethod yX10_canFollow ∈ ml_TB ∧ Cond.selects yX10_canFollow.cls yX10_canFollow yX10_canFollow ∈ ml_TB ∧ ∃ q : vw_C, ml_cs[10]? = some q ∧ q.1 = yX10_canFollow.cls := ⟨⟨wm_368, wm_19, ⟨by decide, by decide, by decide +kernel⟩, by decide⟩, wm_369, wm_370, _, rfl, rfl⟩
theorem wb_231 : ml_y yX10_ordersOfAll cX10_ordersOfAll 5 (some .int) 0 ∧ Cond.instanceMethod yX10_ordersOfAll ∈ ml_TB ∧ Cond.selects yX10_ordersOfAll.cls yX10_ordersOfAll yX10_ordersOfAll ∈ ml_TB ∧ ∃ q : vw_C, ml_cs[10]? = some q ∧ q.1 = yX10_ordersOfAll.cls := ⟨⟨wm_372, wm_19, ⟨by decide, by decide, by decide +kernel⟩, by decide⟩, wm_373, wm_374, _, rfl, rfl⟩
theorem wb_232 : ml_y yX10_firstToFollow cX10_firstToFollow 3 (some .int) 1 ∧ Cond.instanceMethod yX10_firstToFollow ∈ ml_TB ∧ Cond.selects yX10_firstToFollow.cls yX10_firstToFollow yX10_firstToFollow ∈ ml_TB ∧ ∃ q : vw_C, ml_cs[10]? = some q ∧ q.1 = yX10_firstToFollow.cls := ⟨⟨wm_376, wm_19, ⟨by decide, by decide, by decide +kernel⟩, by decide⟩, wm_377, wm_378, _, rfl, rfl⟩
theorem wb_233 : ml_f "LostRoom" 175 8 6 ∧ ∀ B m a j, ml_v B m (ml_ty 8 6) a j = .int (ml_I m a j) := ⟨⟨_, rfl, by decide, wm_281⟩, fun _ _ _ _ => rfl⟩
theorem wb_234 : Cond.methodLink "LostRoom$Journeys" 38 Lib.Math.min.name ∈ ml_TB ∧ Cond.static Lib.Math.min.name ∈ ml_TB ∧ Cond.initialized "java/lang/Math" ∈ ml_TB ∧ Cond.code Lib.Math.min.name Lib.Math.min.code 2 (some .int) ∈ ml_TB := ⟨wm_380, wm_5, wm_6, wm_7⟩
theorem wb_235 : ml_f "LostRoom$Journeys" 44 3 1 ∧ ml_w "LostRoom$Journeys" false 3 1 ∧ ml_ty 3 1 = .int := ⟨⟨_, rfl, by decide, wm_381⟩, ⟨_, rfl, Or.inl rfl⟩, rfl⟩
theorem wb_236 : ml_f "LostRoom$Journeys" 34 8 0 ∧ ∀ B m a j, ml_v B m (ml_ty 8 0) a j = .int (ml_I m a j) := ⟨⟨_, rfl, by decide, wm_382⟩, fun _ _ _ _ => rfl⟩
theorem wb_237 : ml_f "LostRoom$Journeys" 11 3 0 ∧ ∀ B m a j, ml_v B m (ml_ty 3 0) a j = ml_rf B (ml_R m a j) := ⟨⟨_, rfl, by decide, wm_199⟩, fun _ _ _ _ => rfl⟩
theorem wb_238 : ml_f "LostRoom$Journeys" 44 3 1 ∧ ∀ B m a j, ml_v B m (ml_ty 3 1) a j = .int (ml_I m a j) := ⟨⟨_, rfl, by decide, wm_381⟩, fun _ _ _ _ => rfl⟩
theorem wb_239 : ml_f "LostRoom$Journeys" 62 8 3 ∧ ∀ B m a j, ml_v B m (ml_ty 8 3) a j = .int (ml_I m a j) := ⟨⟨_, rfl, by decide, wm_383⟩, fun _ _ _ _ => rfl⟩
theorem wb_240 : ml_f "LostRoom$Journeys" 17 3 2 ∧ ∀ B m a j, ml_v B m (ml_ty 3 2) a j = ml_rf B (ml_R m a j) := ⟨⟨_, rfl, by decide, wm_200⟩, fun _ _ _ _ => rfl⟩
theorem wb_241 : ml_f "LostRoom$Journeys" 24 3 4 ∧ ∀ B m a j, ml_v B m (ml_ty 3 4) a j = ml_rf B (ml_R m a j) := ⟨⟨_, rfl, by decide, wm_202⟩, fun _ _ _ _ => rfl⟩
theorem wb_242 : ml_f "LostRoom$Journeys" 65 8 2 ∧ ∀ B m a j, ml_v B m (ml_ty 8 2) a j = .int (ml_I m a j) := ⟨⟨_, rfl, by decide, wm_384⟩, fun _ _ _ _ => rfl⟩
theorem wb_243 : ml_f "LostRoom$Journeys" 21 3 3 ∧ ∀ B m a j, ml_v B m (ml_ty 3 3) a j = ml_rf B (ml_R m a j) := ⟨⟨_, rfl, by decide, wm_201⟩, fun _ _ _ _ => rfl⟩
theorem wb_244 : ml_f "LostRoom$Journeys" 53 8 1 ∧ ∀ B m a j, ml_v B m (ml_ty 8 1) a j = .int (ml_I m a j) := ⟨⟨_, rfl, by decide, wm_385⟩, fun _ _ _ _ => rfl⟩
theorem wb_245 : Cond.methodLink "LostRoom$Journeys" 56 Lib.Math.max.name ∈ ml_TB ∧ Cond.static Lib.Math.max.name ∈ ml_TB ∧ Cond.initialized "java/lang/Math" ∈ ml_TB ∧ Cond.code Lib.Math.max.name Lib.Math.max.code 2 (some .int) ∈ ml_TB := ⟨wm_386, wm_387, wm_6, wm_388⟩
theorem wb_246 : ml_y yX3_canEnd cX3_canEnd 3 (some .boolean) 2 ∧ Cond.instanceMethod yX3_canEnd ∈ ml_TB ∧ Cond.selects yX3_canEnd.cls yX3_canEnd yX3_canEnd ∈ ml_TB ∧ ∃ q : vw_C, ml_cs[3]? = some q ∧ q.1 = yX3_canEnd.cls := ⟨⟨wm_389, wm_228, ⟨by decide, by decide, by decide +kernel⟩, by decide⟩, wm_390, wm_391, _, rfl, rfl⟩
theorem wb_247 : ml_y yX3_findAhead cX3_findAhead 3 none 0 ∧ Cond.instanceMethod yX3_findAhead ∈ ml_TB ∧ Cond.selects yX3_findAhead.cls yX3_findAhead yX3_findAhead ∈ ml_TB ∧ ∃ q : vw_C, ml_cs[3]? = some q ∧ q.1 = yX3_findAhead.cls := ⟨⟨wm_393, wm_228, ⟨by decide, by decide, by decide +kernel⟩, by decide⟩, wm_394, wm_395, _, rfl, rfl⟩
theorem wb_248 : ml_f "LostRoom$Journeys" 27 3 5 ∧ ∀ B m a j, ml_v B m (ml_ty 3 5) a j = ml_rf B (ml_R m a j) := ⟨⟨_, rfl, by decide, wm_203⟩, fun _ _ _ _ => rfl⟩
theorem wb_249 : ml_y yX3_findLasts cX3_findLasts 3 none 0 ∧ Cond.instanceMethod yX3_findLasts ∈ ml_TB ∧ Cond.selects yX3_findLasts.cls yX3_findLasts yX3_findLasts ∈ ml_TB ∧ ∃ q : vw_C, ml_cs[3]? = some q ∧ q.1 = yX3_findLasts.cls := ⟨⟨wm_397, wm_228, ⟨by decide, by decide, by decide +kernel⟩, by decide⟩, wm_398, wm_399, _, rfl, rfl⟩
theorem wb_250 : ml_f "LostRoom" 75 10 14 ∧ ∀ B m a j, ml_v B m (ml_ty 10 14) a j = ml_rf B (ml_R m a j) := ⟨⟨_, rfl, by decide, wm_231⟩, fun _ _ _ _ => rfl⟩
theorem wb_251 : ml_y yX3_gather cX3_gather 6 (some .int) 3 ∧ Cond.instanceMethod yX3_gather ∈ ml_TB ∧ Cond.selects yX3_gather.cls yX3_gather yX3_gather ∈ ml_TB ∧ ∃ q : vw_C, ml_cs[3]? = some q ∧ q.1 = yX3_gather.cls := ⟨⟨wm_401, wm_228, ⟨by decide, by decide, by decide +kernel⟩, by decide⟩, wm_402, wm_403, _, rfl, rfl⟩
theorem wb_252 : ml_y yX3_fewestPeople cX3_fewestPeople 3 (some .int) 0 ∧ Cond.instanceMethod yX3_fewestPeople ∈ ml_TB ∧ Cond.selects yX3_fewestPeople.cls yX3_fewestPeople yX3_fewestPeople ∈ ml_TB ∧ ∃ q : vw_C, ml_cs[3]? = some q ∧ q.1 = yX3_fewestPeople.cls := ⟨⟨wm_405, wm_228, ⟨by decide, by decide, by decide +kernel⟩, by decide⟩, wm_406, wm_407, _, rfl, rfl⟩
theorem wb_253 : ml_f "LostRoom" 223 9 1 ∧ ∀ B m a j, ml_v B m (ml_ty 9 1) a j = .int (ml_I m a j) := ⟨⟨_, rfl, by decide, wm_409⟩, fun _ _ _ _ => rfl⟩
theorem wb_254 : ml_f "LostRoom" 178 8 7 ∧ ∀ B m a j, ml_v B m (ml_ty 8 7) a j = .int (ml_I m a j) := ⟨⟨_, rfl, by decide, wm_282⟩, fun _ _ _ _ => rfl⟩
theorem wb_255 : Cond.methodLink "LostRoom" 233 Lib.Math.min.name ∈ ml_TB ∧ Cond.static Lib.Math.min.name ∈ ml_TB ∧ Cond.initialized "java/lang/Math" ∈ ml_TB ∧ Cond.code Lib.Math.min.name Lib.Math.min.code 2 (some .int) ∈ ml_TB := ⟨wm_410, wm_5, wm_6, wm_7⟩
theorem wb_256 : Cond.methodLink "LostRoom" 228 Lib.Math.max.name ∈ ml_TB ∧ Cond.static Lib.Math.max.name ∈ ml_TB ∧ Cond.initialized "java/lang/Math" ∈ ml_TB ∧ Cond.code Lib.Math.max.name Lib.Math.max.code 2 (some .int) ∈ ml_TB := ⟨wm_411, wm_387, wm_6, wm_388⟩
theorem wb_257 : ml_f "LostRoom" 256 7 3 ∧ ∀ B m a j, ml_v B m (ml_ty 7 3) a j = ml_rf B (ml_R m a j) := ⟨⟨_, rfl, by decide, wm_412⟩, fun _ _ _ _ => rfl⟩
theorem wb_258 : ml_y yX7_withPair cX7_withPair 4 (some .int) 3 ∧ Cond.instanceMethod yX7_withPair ∈ ml_TB ∧ Cond.selects yX7_withPair.cls yX7_withPair yX7_withPair ∈ ml_TB ∧ ∃ q : vw_C, ml_cs[7]? = some q ∧ q.1 = yX7_withPair.cls := ⟨⟨wm_413, wm_218, ⟨by decide, by decide, by decide +kernel⟩, by decide⟩, wm_414, wm_415, _, rfl, rfl⟩
theorem wb_259 : ml_y yX10_firstTrunkFor cX10_firstTrunkFor 4 (some .int) 2 ∧ Cond.instanceMethod yX10_firstTrunkFor ∈ ml_TB ∧ Cond.selects yX10_firstTrunkFor.cls yX10_firstTrunkFor yX10_firstTrunkFor ∈ ml_TB ∧ ∃ q : vw_C, ml_cs[10]? = some q ∧ q.1 = yX10_firstTrunkFor.cls := ⟨⟨wm_417, wm_19, ⟨by decide, by decide, by decide +kernel⟩, by decide⟩, wm_418, wm_419, _, rfl, rfl⟩
theorem wb_260 : ml_y yX7_isSharing cX7_isSharing 5 (some .boolean) 1 ∧ Cond.instanceMethod yX7_isSharing ∈ ml_TB ∧ Cond.selects yX7_isSharing.cls yX7_isSharing yX7_isSharing ∈ ml_TB ∧ ∃ q : vw_C, ml_cs[7]? = some q ∧ q.1 = yX7_isSharing.cls := ⟨⟨wm_421, wm_218, ⟨by decide, by decide, by decide +kernel⟩, by decide⟩, wm_422, wm_423, _, rfl, rfl⟩
theorem wb_261 : ml_y yX10_tell cX10_tell 2 (some .int) 1 ∧ Cond.instanceMethod yX10_tell ∈ ml_TB ∧ Cond.selects yX10_tell.cls yX10_tell yX10_tell ∈ ml_TB ∧ ∃ q : vw_C, ml_cs[10]? = some q ∧ q.1 = yX10_tell.cls := ⟨⟨wm_425, wm_19, ⟨by decide, by decide, by decide +kernel⟩, by decide⟩, wm_426, wm_427, _, rfl, rfl⟩
theorem wb_262 : ml_f "LostRoom" 390 8 1 ∧ ∀ B m a j, ml_v B m (ml_ty 8 1) a j = .int (ml_I m a j) := ⟨⟨_, rfl, by decide, wm_429⟩, fun _ _ _ _ => rfl⟩
theorem wb_263 : ml_f "LostRoom" 391 8 2 ∧ ∀ B m a j, ml_v B m (ml_ty 8 2) a j = .int (ml_I m a j) := ⟨⟨_, rfl, by decide, wm_430⟩, fun _ _ _ _ => rfl⟩
theorem wb_264 : ml_y yX10_thingFact cX10_thingFact 4 (some .int) 2 ∧ Cond.instanceMethod yX10_thingFact ∈ ml_TB ∧ Cond.selects yX10_thingFact.cls yX10_thingFact yX10_thingFact ∈ ml_TB ∧ ∃ q : vw_C, ml_cs[10]? = some q ∧ q.1 = yX10_thingFact.cls := ⟨⟨wm_431, wm_19, ⟨by decide, by decide, by decide +kernel⟩, by decide⟩, wm_432, wm_433, _, rfl, rfl⟩
theorem wb_265 : ml_f "LostRoom" 384 9 2 ∧ ∀ B m a j, ml_v B m (ml_ty 9 2) a j = .int (ml_I m a j) := ⟨⟨_, rfl, by decide, wm_435⟩, fun _ _ _ _ => rfl⟩
theorem wb_266 : ml_y yX10_thingsIn cX10_thingsIn 4 (some .int) 1 ∧ Cond.instanceMethod yX10_thingsIn ∈ ml_TB ∧ Cond.selects yX10_thingsIn.cls yX10_thingsIn yX10_thingsIn ∈ ml_TB ∧ ∃ q : vw_C, ml_cs[10]? = some q ∧ q.1 = yX10_thingsIn.cls := ⟨⟨wm_436, wm_19, ⟨by decide, by decide, by decide +kernel⟩, by decide⟩, wm_437, wm_438, _, rfl, rfl⟩
theorem wb_267 : ml_y yX10_trunkFact cX10_trunkFact 4 (some .int) 2 ∧ Cond.instanceMethod yX10_trunkFact ∈ ml_TB ∧ Cond.selects yX10_trunkFact.cls yX10_trunkFact yX10_trunkFact ∈ ml_TB ∧ ∃ q : vw_C, ml_cs[10]? = some q ∧ q.1 = yX10_trunkFact.cls := ⟨⟨wm_440, wm_19, ⟨by decide, by decide, by decide +kernel⟩, by decide⟩, wm_441, wm_442, _, rfl, rfl⟩
theorem wb_268 : Cond.methodLink "LostRoom$Bit" 1 Lib.objectInit ∈ ml_TB ∧ Cond.instanceMethod Lib.objectInit ∈ ml_TB ∧ Cond.code Lib.objectInit ⟨#[0xb1]⟩ 1 none ∈ ml_TB := ⟨wm_444, wm_46, wm_47⟩
theorem wb_269 : ml_f "LostRoom$Bit" 7 0 0 ∧ ml_w "LostRoom$Bit" true 0 0 ∧ ml_ty 0 0 = .int := ⟨⟨_, rfl, by decide, wm_445⟩, ⟨_, rfl, Or.inr ⟨rfl, rfl, rfl⟩⟩, rfl⟩
theorem wb_270 : ml_f "LostRoom$Bit" 13 0 1 ∧ ml_w "LostRoom$Bit" true 0 1 ∧ ml_ty 0 1 = .int := ⟨⟨_, rfl, by decide, wm_446⟩, ⟨_, rfl, Or.inr ⟨rfl, rfl, rfl⟩⟩, rfl⟩
theorem wb_271 : ml_f "LostRoom$Bit" 16 0 2 ∧ ml_w "LostRoom$Bit" true 0 2 ∧ ml_ty 0 2 = .int := ⟨⟨_, rfl, by decide, wm_447⟩, ⟨_, rfl, Or.inr ⟨rfl, rfl, rfl⟩⟩, rfl⟩
theorem wb_272 : ml_f "LostRoom$Bit" 19 0 3 ∧ ml_w "LostRoom$Bit" true 0 3 ∧ ml_ty 0 3 = .int := ⟨⟨_, rfl, by decide, wm_448⟩, ⟨_, rfl, Or.inr ⟨rfl, rfl, rfl⟩⟩, rfl⟩
theorem wb_273 : ml_f "LostRoom" 124 10 9 ∧ ∀ B m a j, ml_v B m (ml_ty 10 9) a j = .int (ml_I m a j) := ⟨⟨_, rfl, by decide, wm_121⟩, fun _ _ _ _ => rfl⟩
theorem wb_274 : ml_f "LostRoom" 48 10 8 ∧ ∀ B m a j, ml_v B m (ml_ty 10 8) a j = ml_rf B (ml_R m a j) := ⟨⟨_, rfl, by decide, wm_213⟩, fun _ _ _ _ => rfl⟩
theorem wb_275 : ml_o "LostRoom" 46 0 4 := ⟨_, rfl, rfl, wm_212, wm_449, wm_450⟩
theorem wb_276 : ml_y yX0_init cX0_init 5 none 4 ∧ Cond.instanceMethod yX0_init ∈ ml_TB ∧ yX0_init.name = "<init>" := ⟨⟨wm_451, wm_450, ⟨by decide, by decide, by decide +kernel⟩, by decide⟩, wm_452, rfl⟩
theorem wb_277 : ml_f "LostRoom$Bit" 19 0 3 ∧ ∀ B m a j, ml_v B m (ml_ty 0 3) a j = .int (ml_I m a j) := ⟨⟨_, rfl, by decide, wm_448⟩, fun _ _ _ _ => rfl⟩
theorem wb_278 : ml_f "LostRoom$Bit" 16 0 2 ∧ ∀ B m a j, ml_v B m (ml_ty 0 2) a j = .int (ml_I m a j) := ⟨⟨_, rfl, by decide, wm_447⟩, fun _ _ _ _ => rfl⟩
theorem wb_279 : ml_f "LostRoom$Bit" 7 0 0 ∧ ∀ B m a j, ml_v B m (ml_ty 0 0) a j = .int (ml_I m a j) := ⟨⟨_, rfl, by decide, wm_445⟩, fun _ _ _ _ => rfl⟩
theorem wb_280 : ml_f "LostRoom$Bit" 13 0 1 ∧ ∀ B m a j, ml_v B m (ml_ty 0 1) a j = .int (ml_I m a j) := ⟨⟨_, rfl, by decide, wm_446⟩, fun _ _ _ _ => rfl⟩
theorem wb_281 : ml_f "LostRoom$Lays" 22 4 6 ∧ ∀ B m a j, ml_v B m (ml_ty 4 6) a j = ml_rf B (ml_R m a j) := ⟨⟨_, rfl, by decide, wm_195⟩, fun _ _ _ _ => rfl⟩
theorem wb_282 : ml_f "LostRoom$Lays" 25 4 7 ∧ ∀ B m a j, ml_v B m (ml_ty 4 7) a j = ml_rf B (ml_R m a j) := ⟨⟨_, rfl, by decide, wm_196⟩, fun _ _ _ _ => rfl⟩
theorem wb_283 : ml_f "LostRoom$Lays" 28 4 4 ∧ ∀ B m a j, ml_v B m (ml_ty 4 4) a j = .int (ml_I m a j) := ⟨⟨_, rfl, by decide, wm_454⟩, fun _ _ _ _ => rfl⟩
theorem wb_284 : ml_y yX4_slot cX4_slot 2 (some .int) 2 ∧ Cond.static yX4_slot ∈ ml_TB := ⟨⟨wm_455, wm_223, ⟨by decide, by decide, by decide +kernel⟩, by decide⟩, wm_456⟩
theorem wb_285 : ml_y yX4_nextOf cX4_nextOf 6 (some .int) 3 ∧ Cond.instanceMethod yX4_nextOf ∈ ml_TB ∧ Cond.selects yX4_nextOf.cls yX4_nextOf yX4_nextOf ∈ ml_TB ∧ ∃ q : vw_C, ml_cs[4]? = some q ∧ q.1 = yX4_nextOf.cls := ⟨⟨wm_458, wm_223, ⟨by decide, by decide, by decide +kernel⟩, by decide⟩, wm_459, wm_460, _, rfl, rfl⟩
theorem wb_286 : ml_f "LostRoom$Lays" 15 4 3 ∧ ∀ B m a j, ml_v B m (ml_ty 4 3) a j = ml_rf B (ml_R m a j) := ⟨⟨_, rfl, by decide, wm_193⟩, fun _ _ _ _ => rfl⟩
theorem wb_287 : ml_f "LostRoom$Lays" 19 4 5 ∧ ∀ B m a j, ml_v B m (ml_ty 4 5) a j = ml_rf B (ml_R m a j) := ⟨⟨_, rfl, by decide, wm_194⟩, fun _ _ _ _ => rfl⟩
theorem wb_288 : ml_y yX0_meets cX0_meets 2 (some .boolean) 1 ∧ Cond.instanceMethod yX0_meets ∈ ml_TB ∧ Cond.selects yX0_meets.cls yX0_meets yX0_meets ∈ ml_TB ∧ ∃ q : vw_C, ml_cs[0]? = some q ∧ q.1 = yX0_meets.cls := ⟨⟨wm_462, wm_450, ⟨by decide, by decide, by decide +kernel⟩, by decide⟩, wm_463, wm_464, _, rfl, rfl⟩
theorem wb_289 : ml_y yX4_follow cX4_follow 7 none 3 ∧ Cond.instanceMethod yX4_follow ∈ ml_TB ∧ Cond.selects yX4_follow.cls yX4_follow yX4_follow ∈ ml_TB ∧ ∃ q : vw_C, ml_cs[4]? = some q ∧ q.1 = yX4_follow.cls := ⟨⟨wm_466, wm_223, ⟨by decide, by decide, by decide +kernel⟩, by decide⟩, wm_467, wm_468, _, rfl, rfl⟩
theorem wb_290 : ml_f "LostRoom$Lays" 50 4 1 ∧ ml_w "LostRoom$Lays" false 4 1 ∧ ml_ty 4 1 = .int := ⟨⟨_, rfl, by decide, wm_470⟩, ⟨_, rfl, Or.inl rfl⟩, rfl⟩
theorem wb_291 : ml_f "LostRoom$Lays" 53 4 2 ∧ ml_w "LostRoom$Lays" false 4 2 ∧ ml_ty 4 2 = .int := ⟨⟨_, rfl, by decide, wm_471⟩, ⟨_, rfl, Or.inl rfl⟩, rfl⟩
theorem wb_292 : ml_y yX4_findFirst cX4_findFirst 6 none 0 ∧ Cond.instanceMethod yX4_findFirst ∈ ml_TB ∧ Cond.selects yX4_findFirst.cls yX4_findFirst yX4_findFirst ∈ ml_TB ∧ ∃ q : vw_C, ml_cs[4]? = some q ∧ q.1 = yX4_findFirst.cls := ⟨⟨wm_472, wm_223, ⟨by decide, by decide, by decide +kernel⟩, by decide⟩, wm_473, wm_474, _, rfl, rfl⟩
theorem wb_293 : ml_f "LostRoom$Lays" 9 4 0 ∧ ml_w "LostRoom$Lays" false 4 0 ∧ ml_ty 4 0 = .boolean := ⟨⟨_, rfl, by decide, wm_192⟩, ⟨_, rfl, Or.inl rfl⟩, rfl⟩
theorem wb_294 : ml_f "LostRoom$Lays" 28 4 4 ∧ ml_w "LostRoom$Lays" false 4 4 ∧ ml_ty 4 4 = .int := ⟨⟨_, rfl, by decide, wm_454⟩, ⟨_, rfl, Or.inl rfl⟩, rfl⟩
theorem wb_295 : ml_f "LostRoom" 134 4 0 ∧ ∀ B m a j, ml_v B m (ml_ty 4 0) a j = .int (ml_I m a j) := ⟨⟨_, rfl, by decide, wm_126⟩, fun _ _ _ _ => rfl⟩
theorem wb_296 : ml_y yX4_gather cX4_gather 5 none 2 ∧ Cond.instanceMethod yX4_gather ∈ ml_TB ∧ Cond.selects yX4_gather.cls yX4_gather yX4_gather ∈ ml_TB ∧ ∃ q : vw_C, ml_cs[4]? = some q ∧ q.1 = yX4_gather.cls := ⟨⟨wm_476, wm_223, ⟨by decide, by decide, by decide +kernel⟩, by decide⟩, wm_477, wm_478, _, rfl, rfl⟩
theorem wb_297 : ml_y yX10_refreshLays cX10_refreshLays 1 none 0 ∧ Cond.instanceMethod yX10_refreshLays ∈ ml_TB ∧ Cond.selects yX10_refreshLays.cls yX10_refreshLays yX10_refreshLays ∈ ml_TB ∧ ∃ q : vw_C, ml_cs[10]? = some q ∧ q.1 = yX10_refreshLays.cls := ⟨⟨wm_480, wm_19, ⟨by decide, by decide, by decide +kernel⟩, by decide⟩, wm_481, wm_482, _, rfl, rfl⟩
theorem wb_298 : ml_f "LostRoom" 291 4 3 ∧ ∀ B m a j, ml_v B m (ml_ty 4 3) a j = ml_rf B (ml_R m a j) := ⟨⟨_, rfl, by decide, wm_484⟩, fun _ _ _ _ => rfl⟩
theorem wb_299 : ml_f "LostRoom" 292 4 1 ∧ ∀ B m a j, ml_v B m (ml_ty 4 1) a j = .int (ml_I m a j) := ⟨⟨_, rfl, by decide, wm_485⟩, fun _ _ _ _ => rfl⟩
theorem wb_300 : ml_f "LostRoom" 295 4 2 ∧ ∀ B m a j, ml_v B m (ml_ty 4 2) a j = .int (ml_I m a j) := ⟨⟨_, rfl, by decide, wm_486⟩, fun _ _ _ _ => rfl⟩
theorem wb_301 : ml_y yX10_bit cX10_bit 5 (some .int) 4 ∧ Cond.instanceMethod yX10_bit ∈ ml_TB ∧ Cond.selects yX10_bit.cls yX10_bit yX10_bit ∈ ml_TB ∧ ∃ q : vw_C, ml_cs[10]? = some q ∧ q.1 = yX10_bit.cls := ⟨⟨wm_488, wm_19, ⟨by decide, by decide, by decide +kernel⟩, by decide⟩, wm_489, wm_490, _, rfl, rfl⟩
theorem wb_302 : ml_y yX10_joins cX10_joins 3 (some .int) 2 ∧ Cond.instanceMethod yX10_joins ∈ ml_TB ∧ Cond.selects yX10_joins.cls yX10_joins yX10_joins ∈ ml_TB ∧ ∃ q : vw_C, ml_cs[10]? = some q ∧ q.1 = yX10_joins.cls := ⟨⟨wm_492, wm_19, ⟨by decide, by decide, by decide +kernel⟩, by decide⟩, wm_493, wm_494, _, rfl, rfl⟩
theorem wb_303 : ml_y yX10_at cX10_at 4 (some .int) 2 ∧ Cond.instanceMethod yX10_at ∈ ml_TB ∧ Cond.selects yX10_at.cls yX10_at yX10_at ∈ ml_TB ∧ ∃ q : vw_C, ml_cs[10]? = some q ∧ q.1 = yX10_at.cls := ⟨⟨wm_496, wm_19, ⟨by decide, by decide, by decide +kernel⟩, by decide⟩, wm_497, wm_498, _, rfl, rfl⟩
theorem wb_304 : ml_y yX10_sheets cX10_sheets 2 (some .int) 1 ∧ Cond.instanceMethod yX10_sheets ∈ ml_TB ∧ Cond.selects yX10_sheets.cls yX10_sheets yX10_sheets ∈ ml_TB ∧ ∃ q : vw_C, ml_cs[10]? = some q ∧ q.1 = yX10_sheets.cls := ⟨⟨wm_500, wm_19, ⟨by decide, by decide, by decide +kernel⟩, by decide⟩, wm_501, wm_502, _, rfl, rfl⟩
theorem wb_305 : ml_y yX10_laid cX10_laid 1 (some .int) 0 ∧ Cond.instanceMethod yX10_laid ∈ ml_TB ∧ Cond.selects yX10_laid.cls yX10_laid yX10_laid ∈ ml_TB ∧ ∃ q : vw_C, ml_cs[10]? = some q ∧ q.1 = yX10_laid.cls := ⟨⟨wm_504, wm_19, ⟨by decide, by decide, by decide +kernel⟩, by decide⟩, wm_505, wm_506, _, rfl, rfl⟩
theorem wb_306 : ml_y yX10_wear cX10_wear 3 (some .int) 1 ∧ Cond.instanceMethod yX10_wear ∈ ml_TB ∧ Cond.selects yX10_wear.cls yX10_wear yX10_wear ∈ ml_TB ∧ ∃ q : vw_C, ml_cs[10]? = some q ∧ q.1 = yX10_wear.cls := ⟨⟨wm_508, wm_19, ⟨by decide, by decide, by decide +kernel⟩, by decide⟩, wm_509, wm_510, _, rfl, rfl⟩
theorem wb_307 : ml_y yX10_opens cX10_opens 2 (some .int) 1 ∧ Cond.instanceMethod yX10_opens ∈ ml_TB ∧ Cond.selects yX10_opens.cls yX10_opens yX10_opens ∈ ml_TB ∧ ∃ q : vw_C, ml_cs[10]? = some q ∧ q.1 = yX10_opens.cls := ⟨⟨wm_512, wm_19, ⟨by decide, by decide, by decide +kernel⟩, by decide⟩, wm_513, wm_514, _, rfl, rfl⟩
theorem wb_308 : ml_y yX10_whose cX10_whose 5 (some .int) 2 ∧ Cond.instanceMethod yX10_whose ∈ ml_TB ∧ Cond.selects yX10_whose.cls yX10_whose yX10_whose ∈ ml_TB ∧ ∃ q : vw_C, ml_cs[10]? = some q ∧ q.1 = yX10_whose.cls := ⟨⟨wm_516, wm_19, ⟨by decide, by decide, by decide +kernel⟩, by decide⟩, wm_517, wm_518, _, rfl, rfl⟩
theorem wb_309 : ml_y yX10_told cX10_told 3 (some .int) 2 ∧ Cond.instanceMethod yX10_told ∈ ml_TB ∧ Cond.selects yX10_told.cls yX10_told yX10_told ∈ ml_TB ∧ ∃ q : vw_C, ml_cs[10]? = some q ∧ q.1 = yX10_told.cls := ⟨⟨wm_520, wm_19, ⟨by decide, by decide, by decide +kernel⟩, by decide⟩, wm_521, wm_522, _, rfl, rfl⟩
theorem wb_310 : ml_y yX10_trunk cX10_trunk 3 (some .int) 2 ∧ Cond.instanceMethod yX10_trunk ∈ ml_TB ∧ Cond.selects yX10_trunk.cls yX10_trunk yX10_trunk ∈ ml_TB ∧ ∃ q : vw_C, ml_cs[10]? = some q ∧ q.1 = yX10_trunk.cls := ⟨⟨wm_524, wm_19, ⟨by decide, by decide, by decide +kernel⟩, by decide⟩, wm_525, wm_526, _, rfl, rfl⟩
theorem wb_311 : ml_y yL_pieces cL_pieces 10 (some .boolean) 3 ∧ Cond.static yL_pieces ∈ ml_TB := ⟨⟨wm_528, wm_42, ⟨by decide, by decide, by decide +kernel⟩, by decide⟩, wm_529⟩
theorem wb_312 : ml_y yL_fewest cL_fewest 6 (some .boolean) 2 ∧ Cond.static yL_fewest ∈ ml_TB := ⟨⟨wm_531, wm_42, ⟨by decide, by decide, by decide +kernel⟩, by decide⟩, wm_532⟩
theorem wb_313 : ml_y yX10_water cX10_water 6 (some .int) 0 ∧ Cond.instanceMethod yX10_water ∈ ml_TB ∧ Cond.selects yX10_water.cls yX10_water yX10_water ∈ ml_TB ∧ ∃ q : vw_C, ml_cs[10]? = some q ∧ q.1 = yX10_water.cls := ⟨⟨wm_534, wm_19, ⟨by decide, by decide, by decide +kernel⟩, by decide⟩, wm_535, wm_536, _, rfl, rfl⟩
theorem wb_314 : ml_y yX10_moves cX10_moves 8 (some .int) 2 ∧ Cond.instanceMethod yX10_moves ∈ ml_TB ∧ Cond.selects yX10_moves.cls yX10_moves yX10_moves ∈ ml_TB ∧ ∃ q : vw_C, ml_cs[10]? = some q ∧ q.1 = yX10_moves.cls := ⟨⟨wm_538, wm_19, ⟨by decide, by decide, by decide +kernel⟩, by decide⟩, wm_539, wm_540, _, rfl, rfl⟩
theorem wb_315 : ml_y yX10_share cX10_share 2 (some .int) 1 ∧ Cond.instanceMethod yX10_share ∈ ml_TB ∧ Cond.selects yX10_share.cls yX10_share yX10_share ∈ ml_TB ∧ ∃ q : vw_C, ml_cs[10]? = some q ∧ q.1 = yX10_share.cls := ⟨⟨wm_542, wm_19, ⟨by decide, by decide, by decide +kernel⟩, by decide⟩, wm_543, wm_544, _, rfl, rfl⟩
theorem wb_316 : ml_y yX10_ways cX10_ways 2 (some .int) 1 ∧ Cond.instanceMethod yX10_ways ∈ ml_TB ∧ Cond.selects yX10_ways.cls yX10_ways yX10_ways ∈ ml_TB ∧ ∃ q : vw_C, ml_cs[10]? = some q ∧ q.1 = yX10_ways.cls := ⟨⟨wm_546, wm_19, ⟨by decide, by decide, by decide +kernel⟩, by decide⟩, wm_547, wm_548, _, rfl, rfl⟩
theorem wb_317 : ml_y yX10_sure cX10_sure 8 (some .int) 1 ∧ Cond.instanceMethod yX10_sure ∈ ml_TB ∧ Cond.selects yX10_sure.cls yX10_sure yX10_sure ∈ ml_TB ∧ ∃ q : vw_C, ml_cs[10]? = some q ∧ q.1 = yX10_sure.cls := ⟨⟨wm_550, wm_19, ⟨by decide, by decide, by decide +kernel⟩, by decide⟩, wm_551, wm_552, _, rfl, rfl⟩
theorem wb_318 : ml_y yX10_next cX10_next 7 (some .int) 1 ∧ Cond.instanceMethod yX10_next ∈ ml_TB ∧ Cond.selects yX10_next.cls yX10_next yX10_next ∈ ml_TB ∧ ∃ q : vw_C, ml_cs[10]? = some q ∧ q.1 = yX10_next.cls := ⟨⟨wm_554, wm_19, ⟨by decide, by decide, by decide +kernel⟩, by decide⟩, wm_555, wm_556, _, rfl, rfl⟩
theorem wb_319 : ml_y yX10_many cX10_many 1 (some .long) 0 ∧ Cond.instanceMethod yX10_many ∈ ml_TB ∧ Cond.selects yX10_many.cls yX10_many yX10_many ∈ ml_TB ∧ ∃ q : vw_C, ml_cs[10]? = some q ∧ q.1 = yX10_many.cls := ⟨⟨wm_558, wm_19, ⟨by decide, by decide, by decide +kernel⟩, by decide⟩, wm_559, wm_560, _, rfl, rfl⟩
theorem wb_320 : ml_y yX10_piling cX10_piling 6 (some .int) 1 ∧ Cond.instanceMethod yX10_piling ∈ ml_TB ∧ Cond.selects yX10_piling.cls yX10_piling yX10_piling ∈ ml_TB ∧ ∃ q : vw_C, ml_cs[10]? = some q ∧ q.1 = yX10_piling.cls := ⟨⟨wm_562, wm_19, ⟨by decide, by decide, by decide +kernel⟩, by decide⟩, wm_563, wm_564, _, rfl, rfl⟩
theorem wb_321 : ml_y yX10_strange cX10_strange 6 (some .int) 0 ∧ Cond.instanceMethod yX10_strange ∈ ml_TB ∧ Cond.selects yX10_strange.cls yX10_strange yX10_strange ∈ ml_TB ∧ ∃ q : vw_C, ml_cs[10]? = some q ∧ q.1 = yX10_strange.cls := ⟨⟨wm_566, wm_19, ⟨by decide, by decide, by decide +kernel⟩, by decide⟩, wm_567, wm_568, _, rfl, rfl⟩
theorem wb_322 : ml_y yX10_travellers cX10_travellers 2 (some .int) 0 ∧ Cond.instanceMethod yX10_travellers ∈ ml_TB ∧ Cond.selects yX10_travellers.cls yX10_travellers yX10_travellers ∈ ml_TB ∧ ∃ q : vw_C, ml_cs[10]? = some q ∧ q.1 = yX10_travellers.cls := ⟨⟨wm_570, wm_19, ⟨by decide, by decide, by decide +kernel⟩, by decide⟩, wm_571, wm_572, _, rfl, rfl⟩
theorem wb_323 : ml_y yL_thing cL_thing 13 (some .boolean) 7 ∧ Cond.static yL_thing ∈ ml_TB := ⟨⟨wm_574, wm_42, ⟨by decide, by decide, by decide +kernel⟩, by decide⟩, wm_575⟩
theorem wb_324 : ml_y yL_book cL_book 10 (some .boolean) 7 ∧ Cond.static yL_book ∈ ml_TB := ⟨⟨wm_577, wm_42, ⟨by decide, by decide, by decide +kernel⟩, by decide⟩, wm_578⟩
theorem wb_325 : ml_y yL_numbers cL_numbers 10 none 8 ∧ Cond.static yL_numbers ∈ ml_TB := ⟨⟨wm_580, wm_42, ⟨by decide, by decide, by decide +kernel⟩, by decide⟩, wm_581⟩
theorem wb_326 : ml_o "LostRoomLaw" 9 10 19 := ⟨_, rfl, rfl, wm_583, wm_584, wm_19⟩
theorem wb_327 : ml_y yX10_init cX10_init 1 none 0 ∧ Cond.instanceMethod yX10_init ∈ ml_TB ∧ yX10_init.name = "<init>" := ⟨⟨wm_585, wm_19, ⟨by decide, by decide, by decide +kernel⟩, by decide⟩, wm_586, rfl⟩
