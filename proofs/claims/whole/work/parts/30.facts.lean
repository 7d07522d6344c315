theorem ml_Ac_1 : Cond.methodLink "java/util/AbstractCollection" 1 objectInit ∈ GW := GW_of (tm1 (List.mem_of_getElem? (i := 54) (by decide +kernel))) rfl
theorem oi_Ac_1 : OI "java/util/AbstractCollection" 1 := ⟨ml_Ac_1, im_Obj, co_Obj⟩
theorem co_Ac_init : Cond.code y_Ac_init prog_31_method_1_code 1 none ∈ GW := GW_of (tm1 (List.mem_of_getElem? (i := 53) (by decide +kernel))) rfl
theorem ii_Ac : Cond.initialized "java/util/AbstractCollection" ∈ GW := GW_of (tm1 (List.mem_of_getElem? (i := 2) (by decide +kernel))) rfl
theorem ml_Ab_1 : Cond.methodLink "java/util/AbstractList" 1 y_Ac_init ∈ GW := GW_of (tm1 (List.mem_of_getElem? (i := 51) (by decide +kernel))) rfl
theorem lk_Ab_1 : LK "java/util/AbstractList" 1 y_Ac_init prog_31_method_1_code 1 none 0 := ⟨co_Ac_init, ii_Ac, Or.inl ml_Ab_1, by decide +kernel⟩
theorem im_Ac_init : Cond.instanceMethod y_Ac_init ∈ GW := GW_of (tm1 (List.mem_of_getElem? (i := 52) (by decide +kernel))) rfl
theorem fl_Ab_7 : Cond.fieldLink "java/util/AbstractList" 7 "java/util/AbstractList" "modCount" "I" ∈ GW := GW_of (tm1 (List.mem_of_getElem? (i := 59) (by decide +kernel))) rfl
theorem fp_Ab_7 : FP "java/util/AbstractList" 7 0 2 .int false := ⟨_, _, _, "java/util/AbstractList", t_Al, rfl, by decide, uw_Al, Or.inl rfl, t_Al_ok, n_Al, rfl, rfl, Or.inl ⟨fl_Ab_7, fun q => nomatch q⟩⟩
theorem co_Ab_init : Cond.code y_Ab_init prog_32_method_1_code 1 none ∈ GW := GW_of (tm1 (List.mem_of_getElem? (i := 50) (by decide +kernel))) rfl
theorem ii_Ab : Cond.initialized "java/util/AbstractList" ∈ GW := GW_of (tm1 (List.mem_of_getElem? (i := 3) (by decide +kernel))) rfl
theorem ml_Al_1 : Cond.methodLink "java/util/ArrayList" 1 y_Ab_init ∈ GW := GW_of (tm1 (List.mem_of_getElem? (i := 48) (by decide +kernel))) rfl
theorem lk_Al_1 : LK "java/util/ArrayList" 1 y_Ab_init prog_32_method_1_code 1 none 0 := ⟨co_Ab_init, ii_Ab, Or.inl ml_Al_1, by decide +kernel⟩
theorem im_Ab_init : Cond.instanceMethod y_Ab_init ∈ GW := GW_of (tm1 (List.mem_of_getElem? (i := 49) (by decide +kernel))) rfl
theorem fl_Al_39 : Cond.fieldLink "java/util/ArrayList" 39 "java/util/ArrayList" "DEFAULTCAPACITY_EMPTY_ELEMENTDATA" "[Ljava/lang/Object;" ∈ GW := GW_of (tm1 (List.mem_of_getElem? (i := 55) (by decide +kernel))) rfl
theorem fl_Al_9 : Cond.fieldLink "java/util/ArrayList" 9 "java/util/ArrayList" "elementData" "[Ljava/lang/Object;" ∈ GW := GW_of (tm1 (List.mem_of_getElem? (i := 57) (by decide +kernel))) rfl
theorem fp_Al_9 : FP "java/util/ArrayList" 9 0 0 (.array (.object "java/lang/Object")) false := ⟨_, _, _, "java/util/ArrayList", t_Al, rfl, by decide, uw_Al, Or.inl rfl, t_Al_ok, n_Al, rfl, rfl, Or.inl ⟨fl_Al_9, fun q => nomatch q⟩⟩
theorem co_Ma_min : Cond.code y_Ma_min prog_23_method_69_code 2 (some .int) ∈ GW := GW_of (tm1 (List.mem_of_getElem? (i := 87) (by decide +kernel))) rfl
theorem ii_Ma : Cond.initialized "java/lang/Math" ∈ GW := GW_of (tm1 (List.mem_of_getElem? (i := 7) (by decide +kernel))) rfl
theorem ml_As_304 : Cond.methodLink "java/util/Arrays" 304 y_Ma_min ∈ GW := GW_of (tm1 (List.mem_of_getElem? (i := 85) (by decide +kernel))) rfl
theorem lk_As_304 : LK "java/util/Arrays" 304 y_Ma_min prog_23_method_69_code 2 (some .int) 2 := ⟨co_Ma_min, ii_Ma, Or.inl ml_As_304, by decide +kernel⟩
theorem sc_Ma_min : Cond.static y_Ma_min ∈ GW := GW_of (tm1 (List.mem_of_getElem? (i := 86) (by decide +kernel))) rfl
theorem ml_As_150 : Cond.methodLink "java/util/Arrays" 150 arraycopyName ∈ GW := GW_of (tm1 (List.mem_of_getElem? (i := 88) (by decide +kernel))) rfl
theorem nv_acopy : Cond.native arraycopyName ∈ GW := GW_of (tm1 (List.mem_of_getElem? (i := 90) (by decide +kernel))) rfl
theorem sc_acopy : Cond.static arraycopyName ∈ GW := GW_of (tm1 (List.mem_of_getElem? (i := 89) (by decide +kernel))) rfl
theorem ii_Sy : Cond.initialized "java/lang/System" ∈ GW := GW_of (tm1 (List.mem_of_getElem? (i := 8) (by decide +kernel))) rfl
theorem yc_As_150 : YC "java/util/Arrays" 150 := ⟨ml_As_150, nv_acopy, sc_acopy, ii_Sy⟩
theorem ml_As_316 : Cond.methodLink "java/util/Arrays" 316 iCloN ∈ GW := GW_of (tm1 (List.mem_of_getElem? (i := 78) (by decide +kernel))) rfl
theorem sm_iclo : Cond.sameMethod "[I" "java/lang/Object" "clone" "()Ljava/lang/Object;" ∈ GW := GW_of (tm1 (List.mem_of_getElem? (i := 79) (by decide +kernel))) rfl
theorem nv_clo : Cond.native oCloN ∈ GW := GW_of (tm1 (List.mem_of_getElem? (i := 80) (by decide +kernel))) rfl
theorem im_clo : Cond.instanceMethod oCloN ∈ GW := GW_of (tm1 (List.mem_of_getElem? (i := 81) (by decide +kernel))) rfl
theorem sl_clo : Cond.selects "[I" iCloN oCloN ∈ GW := GW_of (tm1 (List.mem_of_getElem? (i := 82) (by decide +kernel))) rfl
theorem ca_iclo : Cond.castable "[I" "java/lang/Cloneable" ∈ NW := NW_of (tm1 (List.mem_of_getElem? (i := 83) (by decide +kernel))) rfl
theorem kl_As_316 : KL "java/util/Arrays" 316 := ⟨ml_As_316, sm_iclo, nv_clo, im_clo, sl_clo, ca_iclo⟩
theorem cl_As_317 : Cond.classLink "java/util/Arrays" 317 "[I" ∈ GW := GW_of (tm1 (List.mem_of_getElem? (i := 84) (by decide +kernel))) rfl
theorem ml_Co_3 : Cond.methodLink "PlaceFinder$Corners" 3 objectInit ∈ GW := GW_of (tm1 (List.mem_of_getElem? (i := 74) (by decide +kernel))) rfl
theorem oi_Co_3 : OI "PlaceFinder$Corners" 3 := ⟨ml_Co_3, im_Obj, co_Obj⟩
theorem fl_Co_9 : Cond.fieldLink "PlaceFinder$Corners" 9 "PlaceFinder$Corners" "size" "I" ∈ GW := GW_of (tm1 (List.mem_of_getElem? (i := 91) (by decide +kernel))) rfl
theorem fp_Co_9 : FP "PlaceFinder$Corners" 9 2 0 .int true := ⟨_, _, _, "PlaceFinder$Corners", t_Co, rfl, by decide, uw_Co, Or.inl rfl, t_Co_ok, n_Co, rfl, rfl, Or.inl ⟨fl_Co_9, fun _ => rfl⟩⟩
theorem co_As_copyOf : Cond.code y_As_copyOf prog_34_method_123_code 3 (some (.array .int)) ∈ GW := GW_of (tm1 (List.mem_of_getElem? (i := 77) (by decide +kernel))) rfl
theorem ii_As : Cond.initialized "java/util/Arrays" ∈ GW := GW_of (tm1 (List.mem_of_getElem? (i := 6) (by decide +kernel))) rfl
theorem ml_Co_15 : Cond.methodLink "PlaceFinder$Corners" 15 y_As_copyOf ∈ GW := GW_of (tm1 (List.mem_of_getElem? (i := 75) (by decide +kernel))) rfl
theorem lk_Co_15 : LK "PlaceFinder$Corners" 15 y_As_copyOf prog_34_method_123_code 3 (some (.array .int)) 2 := ⟨co_As_copyOf, ii_As, Or.inl ml_Co_15, by decide +kernel⟩
theorem sc_As_copyOf : Cond.static y_As_copyOf ∈ GW := GW_of (tm1 (List.mem_of_getElem? (i := 76) (by decide +kernel))) rfl
theorem fl_Co_21 : Cond.fieldLink "PlaceFinder$Corners" 21 "PlaceFinder$Corners" "xs" "[I" ∈ GW := GW_of (tm1 (List.mem_of_getElem? (i := 93) (by decide +kernel))) rfl
theorem fp_Co_21 : FP "PlaceFinder$Corners" 21 2 1 (.array .int) true := ⟨_, _, _, "PlaceFinder$Corners", t_Co, rfl, by decide, uw_Co, Or.inl rfl, t_Co_ok, n_Co, rfl, rfl, Or.inl ⟨fl_Co_21, fun _ => rfl⟩⟩
theorem fl_Co_25 : Cond.fieldLink "PlaceFinder$Corners" 25 "PlaceFinder$Corners" "ys" "[I" ∈ GW := GW_of (tm1 (List.mem_of_getElem? (i := 95) (by decide +kernel))) rfl
theorem fp_Co_25 : FP "PlaceFinder$Corners" 25 2 2 (.array .int) true := ⟨_, _, _, "PlaceFinder$Corners", t_Co, rfl, by decide, uw_Co, Or.inl rfl, t_Co_ok, n_Co, rfl, rfl, Or.inl ⟨fl_Co_25, fun _ => rfl⟩⟩
theorem ml_Hi_3 : Cond.methodLink "PlaceFinder$Hits" 3 objectInit ∈ GW := GW_of (tm1 (List.mem_of_getElem? (i := 112) (by decide +kernel))) rfl
theorem oi_Hi_3 : OI "PlaceFinder$Hits" 3 := ⟨ml_Hi_3, im_Obj, co_Obj⟩
theorem fl_Hi_9 : Cond.fieldLink "PlaceFinder$Hits" 9 "PlaceFinder$Hits" "numbers" "[I" ∈ GW := GW_of (tm1 (List.mem_of_getElem? (i := 113) (by decide +kernel))) rfl
theorem fp_Hi_9 : FP "PlaceFinder$Hits" 9 4 0 (.array .int) true := ⟨_, _, _, "PlaceFinder$Hits", t_Hi, rfl, by decide, uw_Hi, Or.inl rfl, t_Hi_ok, n_Hi, rfl, rfl, Or.inl ⟨fl_Hi_9, fun _ => rfl⟩⟩
theorem fl_Hi_15 : Cond.fieldLink "PlaceFinder$Hits" 15 "PlaceFinder$Hits" "keys" "[J" ∈ GW := GW_of (tm1 (List.mem_of_getElem? (i := 115) (by decide +kernel))) rfl
theorem fp_Hi_15 : FP "PlaceFinder$Hits" 15 4 1 (.array .long) true := ⟨_, _, _, "PlaceFinder$Hits", t_Hi, rfl, by decide, uw_Hi, Or.inl rfl, t_Hi_ok, n_Hi, rfl, rfl, Or.inl ⟨fl_Hi_15, fun _ => rfl⟩⟩
theorem fl_Hi_19 : Cond.fieldLink "PlaceFinder$Hits" 19 "PlaceFinder$Hits" "count" "I" ∈ GW := GW_of (tm1 (List.mem_of_getElem? (i := 116) (by decide +kernel))) rfl
theorem fp_Hi_19 : FP "PlaceFinder$Hits" 19 4 2 .int false := ⟨_, _, _, "PlaceFinder$Hits", t_Hi, rfl, by decide, uw_Hi, Or.inl rfl, t_Hi_ok, n_Hi, rfl, rfl, Or.inl ⟨fl_Hi_19, fun q => nomatch q⟩⟩
theorem ml_Ec_3 : Cond.methodLink "PlaceFinder$ErrorCounter" 3 objectInit ∈ GW := GW_of (tm1 (List.mem_of_getElem? (i := 132) (by decide +kernel))) rfl
theorem oi_Ec_3 : OI "PlaceFinder$ErrorCounter" 3 := ⟨ml_Ec_3, im_Obj, co_Obj⟩
theorem cl_Ec_9 : Cond.classLink "PlaceFinder$ErrorCounter" 9 "[[I" ∈ GW := GW_of (tm1 (List.mem_of_getElem? (i := 133) (by decide +kernel))) rfl
theorem ao_int : Cond.arrayOver (.array .int) ∈ NW := NW_of (tm1 (List.mem_of_getElem? (i := 134) (by decide +kernel))) rfl
theorem fl_Ec_11 : Cond.fieldLink "PlaceFinder$ErrorCounter" 11 "PlaceFinder$ErrorCounter" "least" "[[I" ∈ GW := GW_of (tm1 (List.mem_of_getElem? (i := 135) (by decide +kernel))) rfl
theorem fp_Ec_11 : FP "PlaceFinder$ErrorCounter" 11 3 0 (.array (.array .int)) true := ⟨_, _, _, "PlaceFinder$ErrorCounter", t_Ec, rfl, by decide, uw_Ec, Or.inl rfl, t_Ec_ok, n_Ec, rfl, rfl, Or.inl ⟨fl_Ec_11, fun _ => rfl⟩⟩
theorem ml_Rs_1 : Cond.methodLink "PlaceFinder$RouteSearch" 1 objectInit ∈ GW := GW_of (tm1 (List.mem_of_getElem? (i := 144) (by decide +kernel))) rfl
theorem oi_Rs_1 : OI "PlaceFinder$RouteSearch" 1 := ⟨ml_Rs_1, im_Obj, co_Obj⟩
theorem fl_Wo_9 : Cond.fieldLink "PlaceFinder$Word" 9 "PlaceFinder$Word" "letters" "[C" ∈ GW := GW_of (tm1 (List.mem_of_getElem? (i := 175) (by decide +kernel))) rfl
theorem fd_Wo_9 : FD "PlaceFinder$Word" 9 10 0 := ⟨_, _, _, "PlaceFinder$Word", rfl, by decide, uw_Wo, Or.inl rfl, Or.inl fl_Wo_9⟩
theorem fl_Wo_19 : Cond.fieldLink "PlaceFinder$Word" 19 "PlaceFinder$Word" "size" "I" ∈ GW := GW_of (tm1 (List.mem_of_getElem? (i := 177) (by decide +kernel))) rfl
theorem fp_Wo_19 : FP "PlaceFinder$Word" 19 10 1 .int true := ⟨_, _, _, "PlaceFinder$Word", t_Wo, rfl, by decide, uw_Wo, Or.inl rfl, t_Wo_ok, n_Wo, rfl, rfl, Or.inl ⟨fl_Wo_19, fun _ => rfl⟩⟩
theorem co_Wo_joinedLetter : Cond.code y_Wo_joinedLetter prog_11_method_2_code 2 (some .char) ∈ GW := GW_of (tm1 (List.mem_of_getElem? (i := 174) (by decide +kernel))) rfl
theorem ii_Wo : Cond.initialized "PlaceFinder$Word" ∈ GW := GW_of (tm1 (List.mem_of_getElem? (i := 13) (by decide +kernel))) rfl
theorem ml_Wo_15 : Cond.methodLink "PlaceFinder$Word" 15 y_Wo_joinedLetter ∈ GW := GW_of (tm1 (List.mem_of_getElem? (i := 172) (by decide +kernel))) rfl
theorem lk_Wo_15 : LK "PlaceFinder$Word" 15 y_Wo_joinedLetter prog_11_method_2_code 2 (some .char) 2 := ⟨co_Wo_joinedLetter, ii_Wo, Or.inl ml_Wo_15, by decide +kernel⟩
theorem sc_Wo_joinedLetter : Cond.static y_Wo_joinedLetter ∈ GW := GW_of (tm1 (List.mem_of_getElem? (i := 173) (by decide +kernel))) rfl
theorem ml_Wo_3 : Cond.methodLink "PlaceFinder$Word" 3 objectInit ∈ GW := GW_of (tm1 (List.mem_of_getElem? (i := 171) (by decide +kernel))) rfl
theorem oi_Wo_3 : OI "PlaceFinder$Word" 3 := ⟨ml_Wo_3, im_Obj, co_Obj⟩
theorem ac_C : Cond.arrayClass .char ∈ GW := GW_of (tm1 (List.mem_of_getElem? (i := 125) (by decide +kernel))) rfl
theorem fp_Wo_9 : FP "PlaceFinder$Word" 9 10 0 (.array .char) true := ⟨_, _, _, "PlaceFinder$Word", t_Wo, rfl, by decide, uw_Wo, Or.inl rfl, t_Wo_ok, n_Wo, rfl, rfl, Or.inl ⟨fl_Wo_9, fun _ => rfl⟩⟩
theorem ml_Cn_1 : Cond.methodLink "PlaceFinder$Condition" 1 objectInit ∈ GW := GW_of (tm1 (List.mem_of_getElem? (i := 187) (by decide +kernel))) rfl
theorem oi_Cn_1 : OI "PlaceFinder$Condition" 1 := ⟨ml_Cn_1, im_Obj, co_Obj⟩
theorem fl_Cn_7 : Cond.fieldLink "PlaceFinder$Condition" 7 "PlaceFinder$Condition" "kind" "I" ∈ GW := GW_of (tm1 (List.mem_of_getElem? (i := 188) (by decide +kernel))) rfl
theorem fp_Cn_7 : FP "PlaceFinder$Condition" 7 1 0 .int true := ⟨_, _, _, "PlaceFinder$Condition", t_Cn, rfl, by decide, uw_Cn, Or.inl rfl, t_Cn_ok, n_Cn, rfl, rfl, Or.inl ⟨fl_Cn_7, fun _ => rfl⟩⟩
theorem fl_Cn_13 : Cond.fieldLink "PlaceFinder$Condition" 13 "PlaceFinder$Condition" "a" "I" ∈ GW := GW_of (tm1 (List.mem_of_getElem? (i := 190) (by decide +kernel))) rfl
theorem fp_Cn_13 : FP "PlaceFinder$Condition" 13 1 1 .int true := ⟨_, _, _, "PlaceFinder$Condition", t_Cn, rfl, by decide, uw_Cn, Or.inl rfl, t_Cn_ok, n_Cn, rfl, rfl, Or.inl ⟨fl_Cn_13, fun _ => rfl⟩⟩
theorem fl_Cn_16 : Cond.fieldLink "PlaceFinder$Condition" 16 "PlaceFinder$Condition" "b" "I" ∈ GW := GW_of (tm1 (List.mem_of_getElem? (i := 192) (by decide +kernel))) rfl
theorem fp_Cn_16 : FP "PlaceFinder$Condition" 16 1 2 .int true := ⟨_, _, _, "PlaceFinder$Condition", t_Cn, rfl, by decide, uw_Cn, Or.inl rfl, t_Cn_ok, n_Cn, rfl, rfl, Or.inl ⟨fl_Cn_16, fun _ => rfl⟩⟩
theorem fl_Cn_19 : Cond.fieldLink "PlaceFinder$Condition" 19 "PlaceFinder$Condition" "c" "I" ∈ GW := GW_of (tm1 (List.mem_of_getElem? (i := 194) (by decide +kernel))) rfl
theorem fp_Cn_19 : FP "PlaceFinder$Condition" 19 1 3 .int true := ⟨_, _, _, "PlaceFinder$Condition", t_Cn, rfl, by decide, uw_Cn, Or.inl rfl, t_Cn_ok, n_Cn, rfl, rfl, Or.inl ⟨fl_Cn_19, fun _ => rfl⟩⟩
theorem fl_Cn_22 : Cond.fieldLink "PlaceFinder$Condition" 22 "PlaceFinder$Condition" "word" "LPlaceFinder$Word;" ∈ GW := GW_of (tm1 (List.mem_of_getElem? (i := 196) (by decide +kernel))) rfl
theorem fp_Cn_22 : FP "PlaceFinder$Condition" 22 1 4 (.object "PlaceFinder$Word") true := ⟨_, _, _, "PlaceFinder$Condition", t_Cn, rfl, by decide, uw_Cn, Or.inl rfl, t_Cn_ok, n_Cn, rfl, rfl, Or.inl ⟨fl_Cn_22, fun _ => rfl⟩⟩
theorem ml_P_1 : Cond.methodLink "PlaceFinder" 1 objectInit ∈ GW := GW_of (tm1 (List.mem_of_getElem? (i := 40) (by decide +kernel))) rfl
theorem oi_P_1 : OI "PlaceFinder" 1 := ⟨ml_P_1, im_Obj, co_Obj⟩
theorem cl_P_7 : Cond.classLink "PlaceFinder" 7 "java/util/ArrayList" ∈ GW := GW_of (tm1 (List.mem_of_getElem? (i := 43) (by decide +kernel))) rfl
theorem ib_Al : Cond.instantiable "java/util/ArrayList" 3 ∈ GW := GW_of (tm1 (List.mem_of_getElem? (i := 44) (by decide +kernel))) rfl
theorem ii_Al : Cond.initialized "java/util/ArrayList" ∈ GW := GW_of (tm1 (List.mem_of_getElem? (i := 4) (by decide +kernel))) rfl
theorem nd_P_7 : ND "PlaceFinder" 7 0 3 [.null, .int 0, .int 0] := ⟨_, _, t_Al, rfl, uw_Al, t_Al_ok, cl_P_7, ib_Al, ii_Al, by decide +kernel⟩
theorem co_Al_init : Cond.code y_Al_init prog_33_method_2_code 1 none ∈ GW := GW_of (tm1 (List.mem_of_getElem? (i := 47) (by decide +kernel))) rfl
theorem ml_P_9 : Cond.methodLink "PlaceFinder" 9 y_Al_init ∈ GW := GW_of (tm1 (List.mem_of_getElem? (i := 45) (by decide +kernel))) rfl
theorem lk_P_9 : LK "PlaceFinder" 9 y_Al_init prog_33_method_2_code 1 none 0 := ⟨co_Al_init, ii_Al, Or.inl ml_P_9, by decide +kernel⟩
theorem im_Al_init : Cond.instanceMethod y_Al_init ∈ GW := GW_of (tm1 (List.mem_of_getElem? (i := 46) (by decide +kernel))) rfl
theorem fl_P_10 : Cond.fieldLink "PlaceFinder" 10 "PlaceFinder" "places" "Ljava/util/ArrayList;" ∈ GW := GW_of (tm1 (List.mem_of_getElem? (i := 209) (by decide +kernel))) rfl
theorem fp_P_10 : FP "PlaceFinder" 10 11 0 (.object "java/util/ArrayList") true := ⟨_, _, _, "PlaceFinder", t_P, rfl, by decide, uw_P, Or.inl rfl, t_P_ok, n_P, rfl, rfl, Or.inl ⟨fl_P_10, fun _ => rfl⟩⟩
theorem fl_P_16 : Cond.fieldLink "PlaceFinder" 16 "PlaceFinder" "cornerXs" "[I" ∈ GW := GW_of (tm1 (List.mem_of_getElem? (i := 210) (by decide +kernel))) rfl
theorem fp_P_16 : FP "PlaceFinder" 16 11 1 (.array .int) true := ⟨_, _, _, "PlaceFinder", t_P, rfl, by decide, uw_P, Or.inl rfl, t_P_ok, n_P, rfl, rfl, Or.inl ⟨fl_P_16, fun _ => rfl⟩⟩
theorem fl_P_20 : Cond.fieldLink "PlaceFinder" 20 "PlaceFinder" "cornerYs" "[I" ∈ GW := GW_of (tm1 (List.mem_of_getElem? (i := 211) (by decide +kernel))) rfl
theorem fp_P_20 : FP "PlaceFinder" 20 11 2 (.array .int) true := ⟨_, _, _, "PlaceFinder", t_P, rfl, by decide, uw_P, Or.inl rfl, t_P_ok, n_P, rfl, rfl, Or.inl ⟨fl_P_20, fun _ => rfl⟩⟩
theorem fl_P_23 : Cond.fieldLink "PlaceFinder" 23 "PlaceFinder" "cornerCount" "I" ∈ GW := GW_of (tm1 (List.mem_of_getElem? (i := 212) (by decide +kernel))) rfl
theorem fp_P_23 : FP "PlaceFinder" 23 11 3 .int false := ⟨_, _, _, "PlaceFinder", t_P, rfl, by decide, uw_P, Or.inl rfl, t_P_ok, n_P, rfl, rfl, Or.inl ⟨fl_P_23, fun q => nomatch q⟩⟩
theorem cl_P_27 : Cond.classLink "PlaceFinder" 27 "PlaceFinder$Corners" ∈ GW := GW_of (tm1 (List.mem_of_getElem? (i := 69) (by decide +kernel))) rfl
theorem ib_Co : Cond.instantiable "PlaceFinder$Corners" 3 ∈ GW := GW_of (tm1 (List.mem_of_getElem? (i := 70) (by decide +kernel))) rfl
theorem ii_Co : Cond.initialized "PlaceFinder$Corners" ∈ GW := GW_of (tm1 (List.mem_of_getElem? (i := 5) (by decide +kernel))) rfl
theorem nd_P_27 : ND "PlaceFinder" 27 2 3 [.int 0, .null, .null] := ⟨_, _, t_Co, rfl, uw_Co, t_Co_ok, cl_P_27, ib_Co, ii_Co, by decide +kernel⟩
theorem co_Co_init : Cond.code y_Co_init prog_3_method_1_code 4 none ∈ GW := GW_of (tm1 (List.mem_of_getElem? (i := 73) (by decide +kernel))) rfl
theorem ml_P_29 : Cond.methodLink "PlaceFinder" 29 y_Co_init ∈ GW := GW_of (tm1 (List.mem_of_getElem? (i := 71) (by decide +kernel))) rfl
theorem lk_P_29 : LK "PlaceFinder" 29 y_Co_init prog_3_method_1_code 4 none 3 := ⟨co_Co_init, ii_Co, Or.inl ml_P_29, by decide +kernel⟩
theorem im_Co_init : Cond.instanceMethod y_Co_init ∈ GW := GW_of (tm1 (List.mem_of_getElem? (i := 72) (by decide +kernel))) rfl
theorem fl_P_32 : Cond.fieldLink "PlaceFinder" 32 "PlaceFinder" "currentRoute" "LPlaceFinder$Corners;" ∈ GW := GW_of (tm1 (List.mem_of_getElem? (i := 213) (by decide +kernel))) rfl
theorem fp_P_32 : FP "PlaceFinder" 32 11 4 (.object "PlaceFinder$Corners") false := ⟨_, _, _, "PlaceFinder", t_P, rfl, by decide, uw_P, Or.inl rfl, t_P_ok, n_P, rfl, rfl, Or.inl ⟨fl_P_32, fun q => nomatch q⟩⟩
theorem fl_P_36 : Cond.fieldLink "PlaceFinder" 36 "PlaceFinder" "typed" "[C" ∈ GW := GW_of (tm1 (List.mem_of_getElem? (i := 214) (by decide +kernel))) rfl
theorem fp_P_36 : FP "PlaceFinder" 36 11 5 (.array .char) true := ⟨_, _, _, "PlaceFinder", t_P, rfl, by decide, uw_P, Or.inl rfl, t_P_ok, n_P, rfl, rfl, Or.inl ⟨fl_P_36, fun _ => rfl⟩⟩
theorem fl_P_40 : Cond.fieldLink "PlaceFinder" 40 "PlaceFinder" "typedCount" "I" ∈ GW := GW_of (tm1 (List.mem_of_getElem? (i := 215) (by decide +kernel))) rfl
theorem fp_P_40 : FP "PlaceFinder" 40 11 6 .int false := ⟨_, _, _, "PlaceFinder", t_P, rfl, by decide, uw_P, Or.inl rfl, t_P_ok, n_P, rfl, rfl, Or.inl ⟨fl_P_40, fun q => nomatch q⟩⟩
theorem fl_P_43 : Cond.fieldLink "PlaceFinder" 43 "PlaceFinder" "conditions" "Ljava/util/ArrayList;" ∈ GW := GW_of (tm1 (List.mem_of_getElem? (i := 216) (by decide +kernel))) rfl
theorem fp_P_43 : FP "PlaceFinder" 43 11 7 (.object "java/util/ArrayList") true := ⟨_, _, _, "PlaceFinder", t_P, rfl, by decide, uw_P, Or.inl rfl, t_P_ok, n_P, rfl, rfl, Or.inl ⟨fl_P_43, fun _ => rfl⟩⟩
theorem cl_P_46 : Cond.classLink "PlaceFinder" 46 "PlaceFinder$Watch" ∈ GW := GW_of (tm1 (List.mem_of_getElem? (i := 105) (by decide +kernel))) rfl
theorem ao_Wa : Cond.arrayOver (.object "PlaceFinder$Watch") ∈ NW := NW_of (tm1 (List.mem_of_getElem? (i := 106) (by decide +kernel))) rfl
theorem fl_P_48 : Cond.fieldLink "PlaceFinder" 48 "PlaceFinder" "watches" "[LPlaceFinder$Watch;" ∈ GW := GW_of (tm1 (List.mem_of_getElem? (i := 217) (by decide +kernel))) rfl
theorem fp_P_48 : FP "PlaceFinder" 48 11 8 (.array (.object "PlaceFinder$Watch")) true := ⟨_, _, _, "PlaceFinder", t_P, rfl, by decide, uw_P, Or.inl rfl, t_P_ok, n_P, rfl, rfl, Or.inl ⟨fl_P_48, fun _ => rfl⟩⟩
theorem cl_P_52 : Cond.classLink "PlaceFinder" 52 "PlaceFinder$Hits" ∈ GW := GW_of (tm1 (List.mem_of_getElem? (i := 107) (by decide +kernel))) rfl
theorem ib_Hi : Cond.instantiable "PlaceFinder$Hits" 3 ∈ GW := GW_of (tm1 (List.mem_of_getElem? (i := 108) (by decide +kernel))) rfl
theorem ii_Hi : Cond.initialized "PlaceFinder$Hits" ∈ GW := GW_of (tm1 (List.mem_of_getElem? (i := 9) (by decide +kernel))) rfl
theorem nd_P_52 : ND "PlaceFinder" 52 4 3 [.null, .null, .int 0] := ⟨_, _, t_Hi, rfl, uw_Hi, t_Hi_ok, cl_P_52, ib_Hi, ii_Hi, by decide +kernel⟩
theorem co_Hi_init : Cond.code y_Hi_init prog_5_method_1_code 1 none ∈ GW := GW_of (tm1 (List.mem_of_getElem? (i := 111) (by decide +kernel))) rfl
theorem ml_P_54 : Cond.methodLinkNest "PlaceFinder" 54 y_Hi_init "PlaceFinder" ∈ NW := NW_of (tm1 (List.mem_of_getElem? (i := 109) (by decide +kernel))) rfl
theorem lk_P_54 : LK "PlaceFinder" 54 y_Hi_init prog_5_method_1_code 1 none 0 := ⟨co_Hi_init, ii_Hi, Or.inr ⟨_, ml_P_54⟩, by decide +kernel⟩
theorem im_Hi_init : Cond.instanceMethod y_Hi_init ∈ GW := GW_of (tm1 (List.mem_of_getElem? (i := 110) (by decide +kernel))) rfl
theorem fl_P_55 : Cond.fieldLink "PlaceFinder" 55 "PlaceFinder" "hits" "LPlaceFinder$Hits;" ∈ GW := GW_of (tm1 (List.mem_of_getElem? (i := 218) (by decide +kernel))) rfl
theorem fp_P_55 : FP "PlaceFinder" 55 11 9 (.object "PlaceFinder$Hits") true := ⟨_, _, _, "PlaceFinder", t_P, rfl, by decide, uw_P, Or.inl rfl, t_P_ok, n_P, rfl, rfl, Or.inl ⟨fl_P_55, fun _ => rfl⟩⟩
theorem cl_P_59 : Cond.classLink "PlaceFinder" 59 "PlaceFinder$ErrorCounter" ∈ GW := GW_of (tm1 (List.mem_of_getElem? (i := 127) (by decide +kernel))) rfl
theorem ib_Ec : Cond.instantiable "PlaceFinder$ErrorCounter" 1 ∈ GW := GW_of (tm1 (List.mem_of_getElem? (i := 128) (by decide +kernel))) rfl
theorem ii_Ec : Cond.initialized "PlaceFinder$ErrorCounter" ∈ GW := GW_of (tm1 (List.mem_of_getElem? (i := 10) (by decide +kernel))) rfl
theorem nd_P_59 : ND "PlaceFinder" 59 3 1 [.null] := ⟨_, _, t_Ec, rfl, uw_Ec, t_Ec_ok, cl_P_59, ib_Ec, ii_Ec, by decide +kernel⟩
theorem co_Ec_init : Cond.code y_Ec_init prog_4_method_1_code 1 none ∈ GW := GW_of (tm1 (List.mem_of_getElem? (i := 131) (by decide +kernel))) rfl
theorem ml_P_61 : Cond.methodLinkNest "PlaceFinder" 61 y_Ec_init "PlaceFinder" ∈ NW := NW_of (tm1 (List.mem_of_getElem? (i := 129) (by decide +kernel))) rfl
theorem lk_P_61 : LK "PlaceFinder" 61 y_Ec_init prog_4_method_1_code 1 none 0 := ⟨co_Ec_init, ii_Ec, Or.inr ⟨_, ml_P_61⟩, by decide +kernel⟩
theorem im_Ec_init : Cond.instanceMethod y_Ec_init ∈ GW := GW_of (tm1 (List.mem_of_getElem? (i := 130) (by decide +kernel))) rfl
theorem fl_P_62 : Cond.fieldLink "PlaceFinder" 62 "PlaceFinder" "errorCounter" "LPlaceFinder$ErrorCounter;" ∈ GW := GW_of (tm1 (List.mem_of_getElem? (i := 219) (by decide +kernel))) rfl
theorem fp_P_62 : FP "PlaceFinder" 62 11 10 (.object "PlaceFinder$ErrorCounter") true := ⟨_, _, _, "PlaceFinder", t_P, rfl, by decide, uw_P, Or.inl rfl, t_P_ok, n_P, rfl, rfl, Or.inl ⟨fl_P_62, fun _ => rfl⟩⟩
theorem cl_P_66 : Cond.classLink "PlaceFinder" 66 "PlaceFinder$RouteSearch" ∈ GW := GW_of (tm1 (List.mem_of_getElem? (i := 139) (by decide +kernel))) rfl
theorem ib_Rs : Cond.instantiable "PlaceFinder$RouteSearch" 6 ∈ GW := GW_of (tm1 (List.mem_of_getElem? (i := 140) (by decide +kernel))) rfl
theorem ii_Rs : Cond.initialized "PlaceFinder$RouteSearch" ∈ GW := GW_of (tm1 (List.mem_of_getElem? (i := 11) (by decide +kernel))) rfl
theorem nd_P_66 : ND "PlaceFinder" 66 8 6 [.int 0, .int 0, .int 0, .long 0, .long 0, .long 0] := ⟨_, _, t_Rs, rfl, uw_Rs, t_Rs_ok, cl_P_66, ib_Rs, ii_Rs, by decide +kernel⟩
theorem co_Rs_init : Cond.code y_Rs_init prog_9_method_1_code 1 none ∈ GW := GW_of (tm1 (List.mem_of_getElem? (i := 143) (by decide +kernel))) rfl
theorem ml_P_68 : Cond.methodLinkNest "PlaceFinder" 68 y_Rs_init "PlaceFinder" ∈ NW := NW_of (tm1 (List.mem_of_getElem? (i := 141) (by decide +kernel))) rfl
theorem lk_P_68 : LK "PlaceFinder" 68 y_Rs_init prog_9_method_1_code 1 none 0 := ⟨co_Rs_init, ii_Rs, Or.inr ⟨_, ml_P_68⟩, by decide +kernel⟩
theorem im_Rs_init : Cond.instanceMethod y_Rs_init ∈ GW := GW_of (tm1 (List.mem_of_getElem? (i := 142) (by decide +kernel))) rfl
theorem fl_P_69 : Cond.fieldLink "PlaceFinder" 69 "PlaceFinder" "routeSearch" "LPlaceFinder$RouteSearch;" ∈ GW := GW_of (tm1 (List.mem_of_getElem? (i := 220) (by decide +kernel))) rfl
theorem fp_P_69 : FP "PlaceFinder" 69 11 11 (.object "PlaceFinder$RouteSearch") true := ⟨_, _, _, "PlaceFinder", t_P, rfl, by decide, uw_P, Or.inl rfl, t_P_ok, n_P, rfl, rfl, Or.inl ⟨fl_P_69, fun _ => rfl⟩⟩
theorem cl_P_73 : Cond.classLink "PlaceFinder" 73 "PlaceFinder$Condition" ∈ GW := GW_of (tm1 (List.mem_of_getElem? (i := 164) (by decide +kernel))) rfl
theorem ib_Cn : Cond.instantiable "PlaceFinder$Condition" 5 ∈ GW := GW_of (tm1 (List.mem_of_getElem? (i := 165) (by decide +kernel))) rfl
theorem ii_Cn : Cond.initialized "PlaceFinder$Condition" ∈ GW := GW_of (tm1 (List.mem_of_getElem? (i := 12) (by decide +kernel))) rfl
theorem nd_P_73 : ND "PlaceFinder" 73 1 5 [.int 0, .int 0, .int 0, .int 0, .null] := ⟨_, _, t_Cn, rfl, uw_Cn, t_Cn_ok, cl_P_73, ib_Cn, ii_Cn, by decide +kernel⟩
theorem cl_P_75 : Cond.classLink "PlaceFinder" 75 "PlaceFinder$Word" ∈ GW := GW_of (tm1 (List.mem_of_getElem? (i := 166) (by decide +kernel))) rfl
theorem ib_Wo : Cond.instantiable "PlaceFinder$Word" 2 ∈ GW := GW_of (tm1 (List.mem_of_getElem? (i := 167) (by decide +kernel))) rfl
theorem nd_P_75 : ND "PlaceFinder" 75 10 2 [.null, .int 0] := ⟨_, _, t_Wo, rfl, uw_Wo, t_Wo_ok, cl_P_75, ib_Wo, ii_Wo, by decide +kernel⟩
theorem co_Wo_init : Cond.code y_Wo_init prog_11_method_1_code 7 none ∈ GW := GW_of (tm1 (List.mem_of_getElem? (i := 170) (by decide +kernel))) rfl
theorem ml_P_77 : Cond.methodLink "PlaceFinder" 77 y_Wo_init ∈ GW := GW_of (tm1 (List.mem_of_getElem? (i := 168) (by decide +kernel))) rfl
theorem lk_P_77 : LK "PlaceFinder" 77 y_Wo_init prog_11_method_1_code 7 none 2 := ⟨co_Wo_init, ii_Wo, Or.inl ml_P_77, by decide +kernel⟩
theorem im_Wo_init : Cond.instanceMethod y_Wo_init ∈ GW := GW_of (tm1 (List.mem_of_getElem? (i := 169) (by decide +kernel))) rfl
theorem co_Cn_init : Cond.code y_Cn_init prog_2_method_1_code 6 none ∈ GW := GW_of (tm1 (List.mem_of_getElem? (i := 186) (by decide +kernel))) rfl
theorem ml_P_80 : Cond.methodLink "PlaceFinder" 80 y_Cn_init ∈ GW := GW_of (tm1 (List.mem_of_getElem? (i := 184) (by decide +kernel))) rfl
theorem lk_P_80 : LK "PlaceFinder" 80 y_Cn_init prog_2_method_1_code 6 none 5 := ⟨co_Cn_init, ii_Cn, Or.inl ml_P_80, by decide +kernel⟩
theorem im_Cn_init : Cond.instanceMethod y_Cn_init ∈ GW := GW_of (tm1 (List.mem_of_getElem? (i := 185) (by decide +kernel))) rfl
theorem fl_P_83 : Cond.fieldLink "PlaceFinder" 83 "PlaceFinder" "anyName" "LPlaceFinder$Condition;" ∈ GW := GW_of (tm1 (List.mem_of_getElem? (i := 221) (by decide +kernel))) rfl
theorem fp_P_83 : FP "PlaceFinder" 83 11 12 (.object "PlaceFinder$Condition") true := ⟨_, _, _, "PlaceFinder", t_P, rfl, by decide, uw_P, Or.inl rfl, t_P_ok, n_P, rfl, rfl, Or.inl ⟨fl_P_83, fun _ => rfl⟩⟩
theorem fl_Al_48 : Cond.fieldLink "java/util/ArrayList" 48 "java/util/ArrayList" "size" "I" ∈ GW := GW_of (tm1 (List.mem_of_getElem? (i := 58) (by decide +kernel))) rfl
theorem fd_Al_48 : FD "java/util/ArrayList" 48 0 1 := ⟨_, _, _, "java/util/ArrayList", rfl, by decide, uw_Al, Or.inl rfl, Or.inl fl_Al_48⟩
theorem ml_Pl_3 : Cond.methodLink "PlaceFinder$Place" 3 objectInit ∈ GW := GW_of (tm2 (List.mem_of_getElem? (i := 185) (by decide +kernel))) rfl
theorem oi_Pl_3 : OI "PlaceFinder$Place" 3 := ⟨ml_Pl_3, im_Obj, co_Obj⟩
theorem fl_Pl_9 : Cond.fieldLink "PlaceFinder$Place" 9 "PlaceFinder$Place" "removedFrom" "I" ∈ GW := GW_of (tm2 (List.mem_of_getElem? (i := 192) (by decide +kernel))) rfl
theorem fp_Pl_9 : FP "PlaceFinder$Place" 9 7 2 .int false := ⟨_, _, _, "PlaceFinder$Place", t_Pl, rfl, by decide, uw_Pl, Or.inl rfl, t_Pl_ok, n_Pl, rfl, rfl, Or.inl ⟨fl_Pl_9, fun q => nomatch q⟩⟩
theorem cl_Pl_15 : Cond.classLink "PlaceFinder$Place" 15 "java/util/ArrayList" ∈ GW := GW_of (tm2 (List.mem_of_getElem? (i := 186) (by decide +kernel))) rfl
theorem nd_Pl_15 : ND "PlaceFinder$Place" 15 0 3 [.null, .int 0, .int 0] := ⟨_, _, t_Al, rfl, uw_Al, t_Al_ok, cl_Pl_15, ib_Al, ii_Al, by decide +kernel⟩
theorem ml_Pl_17 : Cond.methodLink "PlaceFinder$Place" 17 y_Al_init ∈ GW := GW_of (tm2 (List.mem_of_getElem? (i := 187) (by decide +kernel))) rfl
theorem lk_Pl_17 : LK "PlaceFinder$Place" 17 y_Al_init prog_33_method_2_code 1 none 0 := ⟨co_Al_init, ii_Al, Or.inl ml_Pl_17, by decide +kernel⟩
theorem fl_Pl_18 : Cond.fieldLink "PlaceFinder$Place" 18 "PlaceFinder$Place" "shapes" "Ljava/util/ArrayList;" ∈ GW := GW_of (tm2 (List.mem_of_getElem? (i := 194) (by decide +kernel))) rfl
theorem fp_Pl_18 : FP "PlaceFinder$Place" 18 7 3 (.object "java/util/ArrayList") true := ⟨_, _, _, "PlaceFinder$Place", t_Pl, rfl, by decide, uw_Pl, Or.inl rfl, t_Pl_ok, n_Pl, rfl, rfl, Or.inl ⟨fl_Pl_18, fun _ => rfl⟩⟩
theorem fl_Pl_22 : Cond.fieldLink "PlaceFinder$Place" 22 "PlaceFinder$Place" "shapeDays" "[I" ∈ GW := GW_of (tm2 (List.mem_of_getElem? (i := 195) (by decide +kernel))) rfl
theorem fp_Pl_22 : FP "PlaceFinder$Place" 22 7 4 (.array .int) true := ⟨_, _, _, "PlaceFinder$Place", t_Pl, rfl, by decide, uw_Pl, Or.inl rfl, t_Pl_ok, n_Pl, rfl, rfl, Or.inl ⟨fl_Pl_22, fun _ => rfl⟩⟩
theorem fl_Pl_26 : Cond.fieldLink "PlaceFinder$Place" 26 "PlaceFinder$Place" "names" "Ljava/util/ArrayList;" ∈ GW := GW_of (tm2 (List.mem_of_getElem? (i := 196) (by decide +kernel))) rfl
theorem fp_Pl_26 : FP "PlaceFinder$Place" 26 7 5 (.object "java/util/ArrayList") true := ⟨_, _, _, "PlaceFinder$Place", t_Pl, rfl, by decide, uw_Pl, Or.inl rfl, t_Pl_ok, n_Pl, rfl, rfl, Or.inl ⟨fl_Pl_26, fun _ => rfl⟩⟩
theorem fl_Pl_29 : Cond.fieldLink "PlaceFinder$Place" 29 "PlaceFinder$Place" "links" "Ljava/util/ArrayList;" ∈ GW := GW_of (tm2 (List.mem_of_getElem? (i := 198) (by decide +kernel))) rfl
theorem fp_Pl_29 : FP "PlaceFinder$Place" 29 7 6 (.object "java/util/ArrayList") true := ⟨_, _, _, "PlaceFinder$Place", t_Pl, rfl, by decide, uw_Pl, Or.inl rfl, t_Pl_ok, n_Pl, rfl, rfl, Or.inl ⟨fl_Pl_29, fun _ => rfl⟩⟩
theorem fl_Pl_32 : Cond.fieldLink "PlaceFinder$Place" 32 "PlaceFinder$Place" "number" "I" ∈ GW := GW_of (tm2 (List.mem_of_getElem? (i := 188) (by decide +kernel))) rfl
theorem fp_Pl_32 : FP "PlaceFinder$Place" 32 7 0 .int true := ⟨_, _, _, "PlaceFinder$Place", t_Pl, rfl, by decide, uw_Pl, Or.inl rfl, t_Pl_ok, n_Pl, rfl, rfl, Or.inl ⟨fl_Pl_32, fun _ => rfl⟩⟩
theorem fl_Pl_35 : Cond.fieldLink "PlaceFinder$Place" 35 "PlaceFinder$Place" "kind" "I" ∈ GW := GW_of (tm2 (List.mem_of_getElem? (i := 190) (by decide +kernel))) rfl
theorem fp_Pl_35 : FP "PlaceFinder$Place" 35 7 1 .int true := ⟨_, _, _, "PlaceFinder$Place", t_Pl, rfl, by decide, uw_Pl, Or.inl rfl, t_Pl_ok, n_Pl, rfl, rfl, Or.inl ⟨fl_Pl_35, fun _ => rfl⟩⟩
theorem co_Ma_max : Cond.code y_Ma_max prog_23_method_65_code 2 (some .int) ∈ GW := GW_of (tm2 (List.mem_of_getElem? (i := 236) (by decide +kernel))) rfl
theorem ml_Su_194 : Cond.methodLink "jdk/internal/util/ArraysSupport" 194 y_Ma_max ∈ GW := GW_of (tm2 (List.mem_of_getElem? (i := 234) (by decide +kernel))) rfl
theorem lk_Su_194 : LK "jdk/internal/util/ArraysSupport" 194 y_Ma_max prog_23_method_65_code 2 (some .int) 2 := ⟨co_Ma_max, ii_Ma, Or.inl ml_Su_194, by decide +kernel⟩
theorem sc_Ma_max : Cond.static y_Ma_max ∈ GW := GW_of (tm2 (List.mem_of_getElem? (i := 235) (by decide +kernel))) rfl
theorem cn_Su_200 : Cond.constant "jdk/internal/util/ArraysSupport" 200 2147483639 ∈ GW := GW_of (tm2 (List.mem_of_getElem? (i := 237) (by decide +kernel))) rfl
theorem cl_As_110 : Cond.classLink "java/util/Arrays" 110 "[Ljava/lang/Object;" ∈ GW := GW_of (tm3 (List.mem_of_getElem? (i := 29) (by decide +kernel))) rfl
theorem cl_As_2 : Cond.classLink "java/util/Arrays" 2 "java/lang/Object" ∈ GW := GW_of (tm3 (List.mem_of_getElem? (i := 31) (by decide +kernel))) rfl
theorem ao_Object : Cond.arrayOver (.object "java/lang/Object") ∈ NW := NW_of (tm3 (List.mem_of_getElem? (i := 30) (by decide +kernel))) rfl
theorem ca_Pl_Object : Cond.castable "PlaceFinder$Place" "java/lang/Object" ∈ NW := NW_of (tm6 (List.mem_of_getElem? (i := 199) (by decide +kernel))) rfl
theorem ca_Na_Object : Cond.castable "PlaceFinder$Name" "java/lang/Object" ∈ NW := NW_of (tm6 (List.mem_of_getElem? (i := 200) (by decide +kernel))) rfl
theorem ca_Li_Object : Cond.castable "PlaceFinder$Link" "java/lang/Object" ∈ NW := NW_of (tm6 (List.mem_of_getElem? (i := 201) (by decide +kernel))) rfl
theorem ca_Co_Object : Cond.castable "PlaceFinder$Corners" "java/lang/Object" ∈ NW := NW_of (tm6 (List.mem_of_getElem? (i := 192) (by decide +kernel))) rfl
theorem ca_Cn_Object : Cond.castable "PlaceFinder$Condition" "java/lang/Object" ∈ NW := NW_of (tm6 (List.mem_of_getElem? (i := 196) (by decide +kernel))) rfl
theorem as_As_copyOf3_35 : ∀ ci ∈ ([1, 2, 5, 6, 7] : List Nat), AS "java/lang/Object" ci := List.forall_mem_cons.mpr ⟨⟨_, _, _, rfl, Or.inr ca_Cn_Object⟩, List.forall_mem_cons.mpr ⟨⟨_, _, _, rfl, Or.inr ca_Co_Object⟩, List.forall_mem_cons.mpr ⟨⟨_, _, _, rfl, Or.inr ca_Li_Object⟩, List.forall_mem_cons.mpr ⟨⟨_, _, _, rfl, Or.inr ca_Na_Object⟩, List.forall_mem_cons.mpr ⟨⟨_, _, _, rfl, Or.inr ca_Pl_Object⟩, fun _ h => nomatch h⟩⟩⟩⟩⟩
theorem ml_As_86 : Cond.methodLink "java/util/Arrays" 86 getCN ∈ GW := GW_of (tm3 (List.mem_of_getElem? (i := 4) (by decide +kernel))) rfl
theorem de_getC : Cond.declares getCN ∈ NW := NW_of (tm6 (List.mem_of_getElem? (i := 190) (by decide +kernel))) rfl
theorem sl_getC : Cond.selects "[Ljava/lang/Object;" getCN getCN ∈ GW := GW_of (tm6 (List.mem_of_getElem? (i := 189) (by decide +kernel))) rfl
theorem im_getC : Cond.instanceMethod getCN ∈ GW := GW_of (tm3 (List.mem_of_getElem? (i := 5) (by decide +kernel))) rfl
theorem nv_getC : Cond.native getCN ∈ GW := GW_of (tm3 (List.mem_of_getElem? (i := 25) (by decide +kernel))) rfl
theorem gc_As_86 : GC "java/util/Arrays" 86 := ⟨ml_As_86, de_getC, sl_getC, im_getC, nv_getC⟩
theorem co_As_copyOf3 : Cond.code y_As_copyOf3 prog_34_method_120_code 4 (some (.array (.object "java/lang/Object"))) ∈ GW := GW_of (tm3 (List.mem_of_getElem? (i := 28) (by decide +kernel))) rfl
theorem ml_As_300 : Cond.methodLink "java/util/Arrays" 300 y_As_copyOf3 ∈ GW := GW_of (tm3 (List.mem_of_getElem? (i := 26) (by decide +kernel))) rfl
theorem lk_As_300 : LK "java/util/Arrays" 300 y_As_copyOf3 prog_34_method_120_code 4 (some (.array (.object "java/lang/Object"))) 3 := ⟨co_As_copyOf3, ii_As, Or.inl ml_As_300, by decide +kernel⟩
theorem sc_As_copyOf3 : Cond.static y_As_copyOf3 ∈ GW := GW_of (tm3 (List.mem_of_getElem? (i := 27) (by decide +kernel))) rfl
theorem co_Su_newLength : Cond.code y_Su_newLength prog_41_method_27_code 4 (some .int) ∈ GW := GW_of (tm2 (List.mem_of_getElem? (i := 233) (by decide +kernel))) rfl
theorem ii_Su : Cond.initialized "jdk/internal/util/ArraysSupport" ∈ GW := GW_of (tm1 (List.mem_of_getElem? (i := 21) (by decide +kernel))) rfl
theorem ml_Al_73 : Cond.methodLink "java/util/ArrayList" 73 y_Su_newLength ∈ GW := GW_of (tm2 (List.mem_of_getElem? (i := 231) (by decide +kernel))) rfl
theorem lk_Al_73 : LK "java/util/ArrayList" 73 y_Su_newLength prog_41_method_27_code 4 (some .int) 3 := ⟨co_Su_newLength, ii_Su, Or.inl ml_Al_73, by decide +kernel⟩
theorem sc_Su_newLength : Cond.static y_Su_newLength ∈ GW := GW_of (tm2 (List.mem_of_getElem? (i := 232) (by decide +kernel))) rfl
theorem fd_Al_9 : FD "java/util/ArrayList" 9 0 0 := ⟨_, _, _, "java/util/ArrayList", rfl, by decide, uw_Al, Or.inl rfl, Or.inl fl_Al_9⟩
theorem co_As_copyOf2 : Cond.code y_As_copyOf2 prog_34_method_119_code 2 (some (.array (.object "java/lang/Object"))) ∈ GW := GW_of (tm3 (List.mem_of_getElem? (i := 3) (by decide +kernel))) rfl
theorem ml_Al_66 : Cond.methodLink "java/util/ArrayList" 66 y_As_copyOf2 ∈ GW := GW_of (tm3 (List.mem_of_getElem? (i := 1) (by decide +kernel))) rfl
theorem lk_Al_66 : LK "java/util/ArrayList" 66 y_As_copyOf2 prog_34_method_119_code 2 (some (.array (.object "java/lang/Object"))) 2 := ⟨co_As_copyOf2, ii_As, Or.inl ml_Al_66, by decide +kernel⟩
theorem sc_As_copyOf2 : Cond.static y_As_copyOf2 ∈ GW := GW_of (tm3 (List.mem_of_getElem? (i := 2) (by decide +kernel))) rfl
theorem ml_Al_79 : Cond.methodLink "java/util/ArrayList" 79 y_Ma_max ∈ GW := GW_of (tm3 (List.mem_of_getElem? (i := 32) (by decide +kernel))) rfl
theorem lk_Al_79 : LK "java/util/ArrayList" 79 y_Ma_max prog_23_method_65_code 2 (some .int) 2 := ⟨co_Ma_max, ii_Ma, Or.inl ml_Al_79, by decide +kernel⟩
theorem cl_Al_7 : Cond.classLink "java/util/ArrayList" 7 "java/lang/Object" ∈ GW := GW_of (tm3 (List.mem_of_getElem? (i := 33) (by decide +kernel))) rfl
theorem co_Al_grow2 : Cond.code y_Al_grow2 prog_33_method_6_code 4 (some (.array (.object "java/lang/Object"))) ∈ GW := GW_of (tm2 (List.mem_of_getElem? (i := 230) (by decide +kernel))) rfl
theorem ml_Al_69 : Cond.methodLink "java/util/ArrayList" 69 y_Al_grow2 ∈ GW := GW_of (tm2 (List.mem_of_getElem? (i := 227) (by decide +kernel))) rfl
theorem lk_Al_69 : LK "java/util/ArrayList" 69 y_Al_grow2 prog_33_method_6_code 4 (some (.array (.object "java/lang/Object"))) 1 := ⟨co_Al_grow2, ii_Al, Or.inl ml_Al_69, by decide +kernel⟩
theorem im_Al_grow2 : Cond.instanceMethod y_Al_grow2 ∈ GW := GW_of (tm2 (List.mem_of_getElem? (i := 229) (by decide +kernel))) rfl
theorem sl_Al_grow2 : Cond.selects "java/util/ArrayList" y_Al_grow2 y_Al_grow2 ∈ GW := GW_of (tm0 (List.mem_of_getElem? (i := 4) (by decide +kernel))) rfl
theorem as_Al_add2_14 : ∀ ci ∈ ([1, 2, 5, 6, 7] : List Nat), AS "java/lang/Object" ci := List.forall_mem_cons.mpr ⟨⟨_, _, _, rfl, Or.inr ca_Cn_Object⟩, List.forall_mem_cons.mpr ⟨⟨_, _, _, rfl, Or.inr ca_Co_Object⟩, List.forall_mem_cons.mpr ⟨⟨_, _, _, rfl, Or.inr ca_Li_Object⟩, List.forall_mem_cons.mpr ⟨⟨_, _, _, rfl, Or.inr ca_Na_Object⟩, List.forall_mem_cons.mpr ⟨⟨_, _, _, rfl, Or.inr ca_Pl_Object⟩, fun _ h => nomatch h⟩⟩⟩⟩⟩
theorem fp_Al_48 : FP "java/util/ArrayList" 48 0 1 .int false := ⟨_, _, _, "java/util/ArrayList", t_Al, rfl, by decide, uw_Al, Or.inl rfl, t_Al_ok, n_Al, rfl, rfl, Or.inl ⟨fl_Al_48, fun q => nomatch q⟩⟩
theorem co_Al_grow : Cond.code y_Al_grow prog_33_method_7_code 1 (some (.array (.object "java/lang/Object"))) ∈ GW := GW_of (tm2 (List.mem_of_getElem? (i := 226) (by decide +kernel))) rfl
theorem ml_Al_129 : Cond.methodLink "java/util/ArrayList" 129 y_Al_grow ∈ GW := GW_of (tm2 (List.mem_of_getElem? (i := 223) (by decide +kernel))) rfl
theorem lk_Al_129 : LK "java/util/ArrayList" 129 y_Al_grow prog_33_method_7_code 1 (some (.array (.object "java/lang/Object"))) 0 := ⟨co_Al_grow, ii_Al, Or.inl ml_Al_129, by decide +kernel⟩
theorem im_Al_grow : Cond.instanceMethod y_Al_grow ∈ GW := GW_of (tm2 (List.mem_of_getElem? (i := 225) (by decide +kernel))) rfl
theorem sl_Al_grow : Cond.selects "java/util/ArrayList" y_Al_grow y_Al_grow ∈ GW := GW_of (tm0 (List.mem_of_getElem? (i := 3) (by decide +kernel))) rfl
theorem sf_Al_modCount : Cond.sameField "java/util/ArrayList" "java/util/AbstractList" "modCount" "I" ∈ GW := GW_of (tm1 (List.mem_of_getElem? (i := 61) (by decide +kernel))) rfl
theorem fl_Al_63 : Cond.fieldLink "java/util/ArrayList" 63 "java/util/ArrayList" "modCount" "I" ∈ GW := GW_of (tm1 (List.mem_of_getElem? (i := 60) (by decide +kernel))) rfl
theorem fd_Al_63 : FD "java/util/ArrayList" 63 0 2 := ⟨_, _, _, "java/util/ArrayList", rfl, by decide, uw_Al, Or.inr sf_Al_modCount, Or.inl fl_Al_63⟩
theorem fp_Al_63 : FP "java/util/ArrayList" 63 0 2 .int false := ⟨_, _, _, "java/util/ArrayList", t_Al, rfl, by decide, uw_Al, Or.inr sf_Al_modCount, t_Al_ok, n_Al, rfl, rfl, Or.inl ⟨fl_Al_63, fun q => nomatch q⟩⟩
theorem co_Al_add2 : Cond.code y_Al_add2 prog_33_method_24_code 4 none ∈ GW := GW_of (tm2 (List.mem_of_getElem? (i := 222) (by decide +kernel))) rfl
theorem ml_Al_131 : Cond.methodLink "java/util/ArrayList" 131 y_Al_add2 ∈ GW := GW_of (tm2 (List.mem_of_getElem? (i := 219) (by decide +kernel))) rfl
theorem lk_Al_131 : LK "java/util/ArrayList" 131 y_Al_add2 prog_33_method_24_code 4 none 3 := ⟨co_Al_add2, ii_Al, Or.inl ml_Al_131, by decide +kernel⟩
theorem im_Al_add2 : Cond.instanceMethod y_Al_add2 ∈ GW := GW_of (tm2 (List.mem_of_getElem? (i := 221) (by decide +kernel))) rfl
theorem sl_Al_add2 : Cond.selects "java/util/ArrayList" y_Al_add2 y_Al_add2 ∈ GW := GW_of (tm0 (List.mem_of_getElem? (i := 2) (by decide +kernel))) rfl
theorem co_P_isKind : Cond.code y_P_isKind prog_1_method_22_code 1 (some .boolean) ∈ GW := GW_of (tm2 (List.mem_of_getElem? (i := 90) (by decide +kernel))) rfl
theorem ii_P : Cond.initialized "PlaceFinder" ∈ GW := GW_of (tm1 (List.mem_of_getElem? (i := 1) (by decide +kernel))) rfl
theorem ml_P_87 : Cond.methodLink "PlaceFinder" 87 y_P_isKind ∈ GW := GW_of (tm2 (List.mem_of_getElem? (i := 88) (by decide +kernel))) rfl
theorem lk_P_87 : LK "PlaceFinder" 87 y_P_isKind prog_1_method_22_code 1 (some .boolean) 1 := ⟨co_P_isKind, ii_P, Or.inl ml_P_87, by decide +kernel⟩
theorem sc_P_isKind : Cond.static y_P_isKind ∈ GW := GW_of (tm2 (List.mem_of_getElem? (i := 89) (by decide +kernel))) rfl
theorem fd_P_10 : FD "PlaceFinder" 10 11 0 := ⟨_, _, _, "PlaceFinder", rfl, by decide, uw_P, Or.inl rfl, Or.inl fl_P_10⟩
theorem co_Al_size : Cond.code y_Al_size prog_33_method_8_code 1 (some .int) ∈ GW := GW_of (tm2 (List.mem_of_getElem? (i := 163) (by decide +kernel))) rfl
theorem ml_P_98 : Cond.methodLink "PlaceFinder" 98 y_Al_size ∈ GW := GW_of (tm2 (List.mem_of_getElem? (i := 160) (by decide +kernel))) rfl
theorem lk_P_98 : LK "PlaceFinder" 98 y_Al_size prog_33_method_8_code 1 (some .int) 0 := ⟨co_Al_size, ii_Al, Or.inl ml_P_98, by decide +kernel⟩
theorem im_Al_size : Cond.instanceMethod y_Al_size ∈ GW := GW_of (tm2 (List.mem_of_getElem? (i := 161) (by decide +kernel))) rfl
theorem sl_Al_size : Cond.selects "java/util/ArrayList" y_Al_size y_Al_size ∈ GW := GW_of (tm2 (List.mem_of_getElem? (i := 162) (by decide +kernel))) rfl
theorem cl_P_107 : Cond.classLink "PlaceFinder" 107 "PlaceFinder$Place" ∈ GW := GW_of (tm2 (List.mem_of_getElem? (i := 180) (by decide +kernel))) rfl
theorem ib_Pl : Cond.instantiable "PlaceFinder$Place" 7 ∈ GW := GW_of (tm2 (List.mem_of_getElem? (i := 181) (by decide +kernel))) rfl
theorem ii_Pl : Cond.initialized "PlaceFinder$Place" ∈ GW := GW_of (tm1 (List.mem_of_getElem? (i := 20) (by decide +kernel))) rfl
theorem nd_P_107 : ND "PlaceFinder" 107 7 7 [.int 0, .int 0, .int 0, .null, .null, .null, .null] := ⟨_, _, t_Pl, rfl, uw_Pl, t_Pl_ok, cl_P_107, ib_Pl, ii_Pl, by decide +kernel⟩
theorem co_Pl_init : Cond.code y_Pl_init prog_8_method_1_code 3 none ∈ GW := GW_of (tm2 (List.mem_of_getElem? (i := 184) (by decide +kernel))) rfl
theorem ml_P_109 : Cond.methodLink "PlaceFinder" 109 y_Pl_init ∈ GW := GW_of (tm2 (List.mem_of_getElem? (i := 182) (by decide +kernel))) rfl
theorem lk_P_109 : LK "PlaceFinder" 109 y_Pl_init prog_8_method_1_code 3 none 2 := ⟨co_Pl_init, ii_Pl, Or.inl ml_P_109, by decide +kernel⟩
theorem im_Pl_init : Cond.instanceMethod y_Pl_init ∈ GW := GW_of (tm2 (List.mem_of_getElem? (i := 183) (by decide +kernel))) rfl
theorem co_Al_add : Cond.code y_Al_add prog_33_method_25_code 2 (some .boolean) ∈ GW := GW_of (tm2 (List.mem_of_getElem? (i := 218) (by decide +kernel))) rfl
theorem ml_P_112 : Cond.methodLink "PlaceFinder" 112 y_Al_add ∈ GW := GW_of (tm2 (List.mem_of_getElem? (i := 215) (by decide +kernel))) rfl
theorem lk_P_112 : LK "PlaceFinder" 112 y_Al_add prog_33_method_25_code 2 (some .boolean) 1 := ⟨co_Al_add, ii_Al, Or.inl ml_P_112, by decide +kernel⟩
theorem im_Al_add : Cond.instanceMethod y_Al_add ∈ GW := GW_of (tm2 (List.mem_of_getElem? (i := 216) (by decide +kernel))) rfl
theorem sl_Al_add : Cond.selects "java/util/ArrayList" y_Al_add y_Al_add ∈ GW := GW_of (tm2 (List.mem_of_getElem? (i := 217) (by decide +kernel))) rfl
theorem cl_P_102 : Cond.classLink "PlaceFinder" 102 "java/lang/IllegalStateException" ∈ GW := GW_of (tm2 (List.mem_of_getElem? (i := 164) (by decide +kernel))) rfl
theorem ib_ex1 : Cond.instantiable "java/lang/IllegalStateException" 6 ∈ GW := GW_of (tm2 (List.mem_of_getElem? (i := 165) (by decide +kernel))) rfl
theorem ii_ex1 : Cond.initialized "java/lang/IllegalStateException" ∈ GW := GW_of (tm1 (List.mem_of_getElem? (i := 19) (by decide +kernel))) rfl
theorem ow_P_106 : (Bundle.ownAtoms "PlaceFinder" 106 "java/lang/IllegalStateException" exU).all owOK = true := by decide +kernel
theorem tf_P_102_104 : TF "PlaceFinder" 102 104 106 "java/lang/IllegalStateException" exU := ⟨cl_P_102, ib_ex1, ii_ex1, ⟨"there are thirty places", List.mem_of_getElem? (i := 1) (by decide +kernel)⟩, by decide +kernel, by decide +kernel, ow_P_106⟩
theorem cl_P_91 : Cond.classLink "PlaceFinder" 91 "java/lang/IllegalArgumentException" ∈ GW := GW_of (tm2 (List.mem_of_getElem? (i := 91) (by decide +kernel))) rfl
theorem ib_ex0 : Cond.instantiable "java/lang/IllegalArgumentException" 6 ∈ GW := GW_of (tm2 (List.mem_of_getElem? (i := 92) (by decide +kernel))) rfl
theorem ii_ex0 : Cond.initialized "java/lang/IllegalArgumentException" ∈ GW := GW_of (tm1 (List.mem_of_getElem? (i := 18) (by decide +kernel))) rfl
theorem ow_P_95 : (Bundle.ownAtoms "PlaceFinder" 95 "java/lang/IllegalArgumentException" exU).all owOK = true := by decide +kernel
theorem tf_P_91_93 : TF "PlaceFinder" 91 93 95 "java/lang/IllegalArgumentException" exU := ⟨cl_P_91, ib_ex0, ii_ex0, ⟨"no such kind", List.mem_of_getElem? (i := 0) (by decide +kernel)⟩, by decide +kernel, by decide +kernel, ow_P_95⟩
theorem co_P_arePosition : Cond.code y_P_arePosition prog_1_method_25_code 2 (some .boolean) ∈ GW := GW_of (tm3 (List.mem_of_getElem? (i := 43) (by decide +kernel))) rfl
theorem ml_P_116 : Cond.methodLink "PlaceFinder" 116 y_P_arePosition ∈ GW := GW_of (tm3 (List.mem_of_getElem? (i := 41) (by decide +kernel))) rfl
theorem lk_P_116 : LK "PlaceFinder" 116 y_P_arePosition prog_1_method_25_code 2 (some .boolean) 2 := ⟨co_P_arePosition, ii_P, Or.inl ml_P_116, by decide +kernel⟩
theorem sc_P_arePosition : Cond.static y_P_arePosition ∈ GW := GW_of (tm3 (List.mem_of_getElem? (i := 42) (by decide +kernel))) rfl
theorem fd_P_23 : FD "PlaceFinder" 23 11 3 := ⟨_, _, _, "PlaceFinder", rfl, by decide, uw_P, Or.inl rfl, Or.inl fl_P_23⟩
theorem fd_P_16 : FD "PlaceFinder" 16 11 1 := ⟨_, _, _, "PlaceFinder", rfl, by decide, uw_P, Or.inl rfl, Or.inl fl_P_16⟩
theorem fd_P_20 : FD "PlaceFinder" 20 11 2 := ⟨_, _, _, "PlaceFinder", rfl, by decide, uw_P, Or.inl rfl, Or.inl fl_P_20⟩
theorem tf_P_102_122 : TF "PlaceFinder" 102 122 106 "java/lang/IllegalStateException" exU := ⟨cl_P_102, ib_ex1, ii_ex1, ⟨"there are eight corners", List.mem_of_getElem? (i := 3) (by decide +kernel)⟩, by decide +kernel, by decide +kernel, ow_P_106⟩
theorem tf_P_91_120 : TF "PlaceFinder" 91 120 95 "java/lang/IllegalArgumentException" exU := ⟨cl_P_91, ib_ex0, ii_ex0, ⟨"no such coordinates", List.mem_of_getElem? (i := 2) (by decide +kernel)⟩, by decide +kernel, by decide +kernel, ow_P_95⟩
theorem co_Pr_checkIndex : Cond.code y_Pr_checkIndex prog_42_method_11_code 3 (some .int) ∈ GW := GW_of (tm2 (List.mem_of_getElem? (i := 58) (by decide +kernel))) rfl
theorem ii_Pr : Cond.initialized "jdk/internal/util/Preconditions" ∈ GW := GW_of (tm1 (List.mem_of_getElem? (i := 23) (by decide +kernel))) rfl
theorem ml_Ob_105 : Cond.methodLink "java/util/Objects" 105 y_Pr_checkIndex ∈ GW := GW_of (tm3 (List.mem_of_getElem? (i := 64) (by decide +kernel))) rfl
theorem lk_Ob_105 : LK "java/util/Objects" 105 y_Pr_checkIndex prog_42_method_11_code 3 (some .int) 3 := ⟨co_Pr_checkIndex, ii_Pr, Or.inl ml_Ob_105, by decide +kernel⟩
theorem sc_Pr_checkIndex : Cond.static y_Pr_checkIndex ∈ GW := GW_of (tm2 (List.mem_of_getElem? (i := 57) (by decide +kernel))) rfl
theorem co_Ob_checkIndex : Cond.code y_Ob_checkIndex prog_38_method_17_code 2 (some .int) ∈ GW := GW_of (tm3 (List.mem_of_getElem? (i := 63) (by decide +kernel))) rfl
theorem ii_Ob : Cond.initialized "java/util/Objects" ∈ GW := GW_of (tm1 (List.mem_of_getElem? (i := 22) (by decide +kernel))) rfl
theorem ml_Al_118 : Cond.methodLink "java/util/ArrayList" 118 y_Ob_checkIndex ∈ GW := GW_of (tm3 (List.mem_of_getElem? (i := 61) (by decide +kernel))) rfl
theorem lk_Al_118 : LK "java/util/ArrayList" 118 y_Ob_checkIndex prog_38_method_17_code 2 (some .int) 2 := ⟨co_Ob_checkIndex, ii_Ob, Or.inl ml_Al_118, by decide +kernel⟩
theorem sc_Ob_checkIndex : Cond.static y_Ob_checkIndex ∈ GW := GW_of (tm3 (List.mem_of_getElem? (i := 62) (by decide +kernel))) rfl
theorem co_Al_elementData : Cond.code y_Al_elementData prog_33_method_18_code 2 (some (.object "java/lang/Object")) ∈ GW := GW_of (tm3 (List.mem_of_getElem? (i := 68) (by decide +kernel))) rfl
theorem ml_Al_123 : Cond.methodLink "java/util/ArrayList" 123 y_Al_elementData ∈ GW := GW_of (tm3 (List.mem_of_getElem? (i := 65) (by decide +kernel))) rfl
theorem lk_Al_123 : LK "java/util/ArrayList" 123 y_Al_elementData prog_33_method_18_code 2 (some (.object "java/lang/Object")) 1 := ⟨co_Al_elementData, ii_Al, Or.inl ml_Al_123, by decide +kernel⟩
theorem im_Al_elementData : Cond.instanceMethod y_Al_elementData ∈ GW := GW_of (tm3 (List.mem_of_getElem? (i := 66) (by decide +kernel))) rfl
theorem sl_Al_elementData : Cond.selects "java/util/ArrayList" y_Al_elementData y_Al_elementData ∈ GW := GW_of (tm3 (List.mem_of_getElem? (i := 67) (by decide +kernel))) rfl
theorem co_Al_get : Cond.code y_Al_get prog_33_method_20_code 2 (some (.object "java/lang/Object")) ∈ GW := GW_of (tm3 (List.mem_of_getElem? (i := 60) (by decide +kernel))) rfl
theorem ml_P_223 : Cond.methodLink "PlaceFinder" 223 y_Al_get ∈ GW := GW_of (tm3 (List.mem_of_getElem? (i := 57) (by decide +kernel))) rfl
theorem lk_P_223 : LK "PlaceFinder" 223 y_Al_get prog_33_method_20_code 2 (some (.object "java/lang/Object")) 1 := ⟨co_Al_get, ii_Al, Or.inl ml_P_223, by decide +kernel⟩
theorem im_Al_get : Cond.instanceMethod y_Al_get ∈ GW := GW_of (tm3 (List.mem_of_getElem? (i := 58) (by decide +kernel))) rfl
theorem sl_Al_get : Cond.selects "java/util/ArrayList" y_Al_get y_Al_get ∈ GW := GW_of (tm3 (List.mem_of_getElem? (i := 59) (by decide +kernel))) rfl
theorem fd_Co_9 : FD "PlaceFinder$Corners" 9 2 0 := ⟨_, _, _, "PlaceFinder$Corners", rfl, by decide, uw_Co, Or.inl rfl, Or.inl fl_Co_9⟩
theorem co_Co_following : Cond.code y_Co_following prog_3_method_4_code 2 (some .int) ∈ GW := GW_of (tm3 (List.mem_of_getElem? (i := 88) (by decide +kernel))) rfl
theorem ml_Co_32 : Cond.methodLink "PlaceFinder$Corners" 32 y_Co_following ∈ GW := GW_of (tm3 (List.mem_of_getElem? (i := 85) (by decide +kernel))) rfl
theorem lk_Co_32 : LK "PlaceFinder$Corners" 32 y_Co_following prog_3_method_4_code 2 (some .int) 1 := ⟨co_Co_following, ii_Co, Or.inl ml_Co_32, by decide +kernel⟩
theorem im_Co_following : Cond.instanceMethod y_Co_following ∈ GW := GW_of (tm3 (List.mem_of_getElem? (i := 87) (by decide +kernel))) rfl
theorem sl_Co_following : Cond.selects "PlaceFinder$Corners" y_Co_following y_Co_following ∈ GW := GW_of (tm0 (List.mem_of_getElem? (i := 7) (by decide +kernel))) rfl
theorem fd_Co_21 : FD "PlaceFinder$Corners" 21 2 1 := ⟨_, _, _, "PlaceFinder$Corners", rfl, by decide, uw_Co, Or.inl rfl, Or.inl fl_Co_21⟩
theorem fd_Co_25 : FD "PlaceFinder$Corners" 25 2 2 := ⟨_, _, _, "PlaceFinder$Corners", rfl, by decide, uw_Co, Or.inl rfl, Or.inl fl_Co_25⟩
theorem co_Co_doubledSurface : Cond.code y_Co_doubledSurface prog_3_method_5_code 4 (some .int) ∈ GW := GW_of (tm3 (List.mem_of_getElem? (i := 84) (by decide +kernel))) rfl
theorem ml_Co_28 : Cond.methodLink "PlaceFinder$Corners" 28 y_Co_doubledSurface ∈ GW := GW_of (tm3 (List.mem_of_getElem? (i := 81) (by decide +kernel))) rfl
theorem lk_Co_28 : LK "PlaceFinder$Corners" 28 y_Co_doubledSurface prog_3_method_5_code 4 (some .int) 0 := ⟨co_Co_doubledSurface, ii_Co, Or.inl ml_Co_28, by decide +kernel⟩
theorem im_Co_doubledSurface : Cond.instanceMethod y_Co_doubledSurface ∈ GW := GW_of (tm3 (List.mem_of_getElem? (i := 83) (by decide +kernel))) rfl
theorem sl_Co_doubledSurface : Cond.selects "PlaceFinder$Corners" y_Co_doubledSurface y_Co_doubledSurface ∈ GW := GW_of (tm0 (List.mem_of_getElem? (i := 6) (by decide +kernel))) rfl
theorem fd_Pl_18 : FD "PlaceFinder$Place" 18 7 3 := ⟨_, _, _, "PlaceFinder$Place", rfl, by decide, uw_Pl, Or.inl rfl, Or.inl fl_Pl_18⟩
theorem ml_Pl_38 : Cond.methodLink "PlaceFinder$Place" 38 y_Al_size ∈ GW := GW_of (tm3 (List.mem_of_getElem? (i := 94) (by decide +kernel))) rfl
theorem lk_Pl_38 : LK "PlaceFinder$Place" 38 y_Al_size prog_33_method_8_code 1 (some .int) 0 := ⟨co_Al_size, ii_Al, Or.inl ml_Pl_38, by decide +kernel⟩
theorem fd_Pl_22 : FD "PlaceFinder$Place" 22 7 4 := ⟨_, _, _, "PlaceFinder$Place", rfl, by decide, uw_Pl, Or.inl rfl, Or.inl fl_Pl_22⟩
theorem ml_Pl_42 : Cond.methodLink "PlaceFinder$Place" 42 y_Al_add ∈ GW := GW_of (tm3 (List.mem_of_getElem? (i := 100) (by decide +kernel))) rfl
theorem lk_Pl_42 : LK "PlaceFinder$Place" 42 y_Al_add prog_33_method_25_code 2 (some .boolean) 1 := ⟨co_Al_add, ii_Al, Or.inl ml_Pl_42, by decide +kernel⟩
theorem tf_P_91_131 : TF "PlaceFinder" 91 131 95 "java/lang/IllegalArgumentException" exU := ⟨cl_P_91, ib_ex0, ii_ex0, ⟨"no such place or day", List.mem_of_getElem? (i := 4) (by decide +kernel)⟩, by decide +kernel, by decide +kernel, ow_P_95⟩
theorem co_Pl_takesShapeFrom : Cond.code y_Pl_takesShapeFrom prog_8_method_2_code 3 (some .boolean) ∈ GW := GW_of (tm3 (List.mem_of_getElem? (i := 93) (by decide +kernel))) rfl
theorem ml_P_142 : Cond.methodLink "PlaceFinder" 142 y_Pl_takesShapeFrom ∈ GW := GW_of (tm3 (List.mem_of_getElem? (i := 90) (by decide +kernel))) rfl
theorem lk_P_142 : LK "PlaceFinder" 142 y_Pl_takesShapeFrom prog_8_method_2_code 3 (some .boolean) 1 := ⟨co_Pl_takesShapeFrom, ii_Pl, Or.inl ml_P_142, by decide +kernel⟩
theorem im_Pl_takesShapeFrom : Cond.instanceMethod y_Pl_takesShapeFrom ∈ GW := GW_of (tm3 (List.mem_of_getElem? (i := 91) (by decide +kernel))) rfl
theorem sl_Pl_takesShapeFrom : Cond.selects "PlaceFinder$Place" y_Pl_takesShapeFrom y_Pl_takesShapeFrom ∈ GW := GW_of (tm3 (List.mem_of_getElem? (i := 92) (by decide +kernel))) rfl
theorem co_Pl_addShape : Cond.code y_Pl_addShape prog_8_method_3_code 3 none ∈ GW := GW_of (tm3 (List.mem_of_getElem? (i := 99) (by decide +kernel))) rfl
theorem ml_P_147 : Cond.methodLink "PlaceFinder" 147 y_Pl_addShape ∈ GW := GW_of (tm3 (List.mem_of_getElem? (i := 96) (by decide +kernel))) rfl
theorem lk_P_147 : LK "PlaceFinder" 147 y_Pl_addShape prog_8_method_3_code 3 none 2 := ⟨co_Pl_addShape, ii_Pl, Or.inl ml_P_147, by decide +kernel⟩
theorem im_Pl_addShape : Cond.instanceMethod y_Pl_addShape ∈ GW := GW_of (tm3 (List.mem_of_getElem? (i := 97) (by decide +kernel))) rfl
theorem sl_Pl_addShape : Cond.selects "PlaceFinder$Place" y_Pl_addShape y_Pl_addShape ∈ GW := GW_of (tm3 (List.mem_of_getElem? (i := 98) (by decide +kernel))) rfl
theorem tf_P_102_145 : TF "PlaceFinder" 102 145 106 "java/lang/IllegalStateException" exU := ⟨cl_P_102, ib_ex1, ii_ex1, ⟨"three shapes, or one of this day or a later one", List.mem_of_getElem? (i := 6) (by decide +kernel)⟩, by decide +kernel, by decide +kernel, ow_P_106⟩
theorem co_P_placeOf : Cond.code y_P_placeOf prog_1_method_28_code 2 (some (.object "PlaceFinder$Place")) ∈ GW := GW_of (tm3 (List.mem_of_getElem? (i := 56) (by decide +kernel))) rfl
theorem ml_P_124 : Cond.methodLink "PlaceFinder" 124 y_P_placeOf ∈ GW := GW_of (tm3 (List.mem_of_getElem? (i := 53) (by decide +kernel))) rfl
theorem lk_P_124 : LK "PlaceFinder" 124 y_P_placeOf prog_1_method_28_code 2 (some (.object "PlaceFinder$Place")) 1 := ⟨co_P_placeOf, ii_P, Or.inl ml_P_124, by decide +kernel⟩
theorem im_P_placeOf : Cond.instanceMethod y_P_placeOf ∈ GW := GW_of (tm3 (List.mem_of_getElem? (i := 55) (by decide +kernel))) rfl
theorem sl_P_placeOf : Cond.selects "PlaceFinder" y_P_placeOf y_P_placeOf ∈ GW := GW_of (tm0 (List.mem_of_getElem? (i := 5) (by decide +kernel))) rfl
theorem co_P_isDay : Cond.code y_P_isDay prog_1_method_23_code 1 (some .boolean) ∈ GW := GW_of (tm3 (List.mem_of_getElem? (i := 71) (by decide +kernel))) rfl
theorem ml_P_128 : Cond.methodLink "PlaceFinder" 128 y_P_isDay ∈ GW := GW_of (tm3 (List.mem_of_getElem? (i := 69) (by decide +kernel))) rfl
theorem lk_P_128 : LK "PlaceFinder" 128 y_P_isDay prog_1_method_23_code 1 (some .boolean) 1 := ⟨co_P_isDay, ii_P, Or.inl ml_P_128, by decide +kernel⟩
theorem sc_P_isDay : Cond.static y_P_isDay ∈ GW := GW_of (tm3 (List.mem_of_getElem? (i := 70) (by decide +kernel))) rfl
theorem co_Co_isPoint : Cond.code y_Co_isPoint prog_3_method_2_code 1 (some .boolean) ∈ GW := GW_of (tm3 (List.mem_of_getElem? (i := 76) (by decide +kernel))) rfl
theorem ml_P_133 : Cond.methodLink "PlaceFinder" 133 y_Co_isPoint ∈ GW := GW_of (tm3 (List.mem_of_getElem? (i := 73) (by decide +kernel))) rfl
theorem lk_P_133 : LK "PlaceFinder" 133 y_Co_isPoint prog_3_method_2_code 1 (some .boolean) 0 := ⟨co_Co_isPoint, ii_Co, Or.inl ml_P_133, by decide +kernel⟩
theorem im_Co_isPoint : Cond.instanceMethod y_Co_isPoint ∈ GW := GW_of (tm3 (List.mem_of_getElem? (i := 74) (by decide +kernel))) rfl
theorem sl_Co_isPoint : Cond.selects "PlaceFinder$Corners" y_Co_isPoint y_Co_isPoint ∈ GW := GW_of (tm3 (List.mem_of_getElem? (i := 75) (by decide +kernel))) rfl
theorem co_Co_isArea : Cond.code y_Co_isArea prog_3_method_3_code 1 (some .boolean) ∈ GW := GW_of (tm3 (List.mem_of_getElem? (i := 80) (by decide +kernel))) rfl
theorem ml_P_137 : Cond.methodLink "PlaceFinder" 137 y_Co_isArea ∈ GW := GW_of (tm3 (List.mem_of_getElem? (i := 77) (by decide +kernel))) rfl
theorem lk_P_137 : LK "PlaceFinder" 137 y_Co_isArea prog_3_method_3_code 1 (some .boolean) 0 := ⟨co_Co_isArea, ii_Co, Or.inl ml_P_137, by decide +kernel⟩
theorem im_Co_isArea : Cond.instanceMethod y_Co_isArea ∈ GW := GW_of (tm3 (List.mem_of_getElem? (i := 78) (by decide +kernel))) rfl
theorem sl_Co_isArea : Cond.selects "PlaceFinder$Corners" y_Co_isArea y_Co_isArea ∈ GW := GW_of (tm3 (List.mem_of_getElem? (i := 79) (by decide +kernel))) rfl
theorem tf_P_91_140 : TF "PlaceFinder" 91 140 95 "java/lang/IllegalArgumentException" exU := ⟨cl_P_91, ib_ex0, ii_ex0, ⟨"neither a point nor an area", List.mem_of_getElem? (i := 5) (by decide +kernel)⟩, by decide +kernel, by decide +kernel, ow_P_95⟩
theorem fd_P_40 : FD "PlaceFinder" 40 11 6 := ⟨_, _, _, "PlaceFinder", rfl, by decide, uw_P, Or.inl rfl, Or.inl fl_P_40⟩
theorem fd_P_36 : FD "PlaceFinder" 36 11 5 := ⟨_, _, _, "PlaceFinder", rfl, by decide, uw_P, Or.inl rfl, Or.inl fl_P_36⟩
theorem ml_Na_1 : Cond.methodLink "PlaceFinder$Name" 1 objectInit ∈ GW := GW_of (tm3 (List.mem_of_getElem? (i := 118) (by decide +kernel))) rfl
theorem oi_Na_1 : OI "PlaceFinder$Name" 1 := ⟨ml_Na_1, im_Obj, co_Obj⟩
theorem fl_Na_7 : Cond.fieldLink "PlaceFinder$Name" 7 "PlaceFinder$Name" "word" "LPlaceFinder$Word;" ∈ GW := GW_of (tm3 (List.mem_of_getElem? (i := 119) (by decide +kernel))) rfl
theorem fp_Na_7 : FP "PlaceFinder$Name" 7 6 0 (.object "PlaceFinder$Word") true := ⟨_, _, _, "PlaceFinder$Name", t_Na, rfl, by decide, uw_Na, Or.inl rfl, t_Na_ok, n_Na, rfl, rfl, Or.inl ⟨fl_Na_7, fun _ => rfl⟩⟩
theorem fl_Na_13 : Cond.fieldLink "PlaceFinder$Name" 13 "PlaceFinder$Name" "from" "I" ∈ GW := GW_of (tm3 (List.mem_of_getElem? (i := 121) (by decide +kernel))) rfl
theorem fp_Na_13 : FP "PlaceFinder$Name" 13 6 1 .int true := ⟨_, _, _, "PlaceFinder$Name", t_Na, rfl, by decide, uw_Na, Or.inl rfl, t_Na_ok, n_Na, rfl, rfl, Or.inl ⟨fl_Na_13, fun _ => rfl⟩⟩
theorem fl_Na_17 : Cond.fieldLink "PlaceFinder$Name" 17 "PlaceFinder$Name" "to" "I" ∈ GW := GW_of (tm3 (List.mem_of_getElem? (i := 122) (by decide +kernel))) rfl
theorem fp_Na_17 : FP "PlaceFinder$Name" 17 6 2 .int true := ⟨_, _, _, "PlaceFinder$Name", t_Na, rfl, by decide, uw_Na, Or.inl rfl, t_Na_ok, n_Na, rfl, rfl, Or.inl ⟨fl_Na_17, fun _ => rfl⟩⟩
theorem tf_P_91_154 : TF "PlaceFinder" 91 154 95 "java/lang/IllegalArgumentException" exU := ⟨cl_P_91, ib_ex0, ii_ex0, ⟨"no such place or span, or nothing is typed", List.mem_of_getElem? (i := 7) (by decide +kernel)⟩, by decide +kernel, by decide +kernel, ow_P_95⟩
theorem co_P_areSpan : Cond.code y_P_areSpan prog_1_method_24_code 2 (some .boolean) ∈ GW := GW_of (tm3 (List.mem_of_getElem? (i := 110) (by decide +kernel))) rfl
theorem ml_P_151 : Cond.methodLink "PlaceFinder" 151 y_P_areSpan ∈ GW := GW_of (tm3 (List.mem_of_getElem? (i := 108) (by decide +kernel))) rfl
theorem lk_P_151 : LK "PlaceFinder" 151 y_P_areSpan prog_1_method_24_code 2 (some .boolean) 2 := ⟨co_P_areSpan, ii_P, Or.inl ml_P_151, by decide +kernel⟩
theorem sc_P_areSpan : Cond.static y_P_areSpan ∈ GW := GW_of (tm3 (List.mem_of_getElem? (i := 109) (by decide +kernel))) rfl
theorem fl_P_156 : Cond.fieldLink "PlaceFinder" 156 "PlaceFinder$Place" "names" "Ljava/util/ArrayList;" ∈ GW := GW_of (tm2 (List.mem_of_getElem? (i := 197) (by decide +kernel))) rfl
theorem fd_P_156 : FD "PlaceFinder" 156 7 5 := ⟨_, _, _, "PlaceFinder$Place", rfl, by decide, uw_Pl, Or.inl rfl, Or.inl fl_P_156⟩
theorem cl_P_161 : Cond.classLink "PlaceFinder" 161 "PlaceFinder$Name" ∈ GW := GW_of (tm3 (List.mem_of_getElem? (i := 113) (by decide +kernel))) rfl
theorem ib_Na : Cond.instantiable "PlaceFinder$Name" 3 ∈ GW := GW_of (tm3 (List.mem_of_getElem? (i := 114) (by decide +kernel))) rfl
theorem ii_Na : Cond.initialized "PlaceFinder$Name" ∈ GW := GW_of (tm1 (List.mem_of_getElem? (i := 24) (by decide +kernel))) rfl
theorem nd_P_161 : ND "PlaceFinder" 161 6 3 [.null, .int 0, .int 0] := ⟨_, _, t_Na, rfl, uw_Na, t_Na_ok, cl_P_161, ib_Na, ii_Na, by decide +kernel⟩
theorem co_Na_init : Cond.code y_Na_init prog_7_method_1_code 4 none ∈ GW := GW_of (tm3 (List.mem_of_getElem? (i := 117) (by decide +kernel))) rfl
theorem ml_P_163 : Cond.methodLink "PlaceFinder" 163 y_Na_init ∈ GW := GW_of (tm3 (List.mem_of_getElem? (i := 115) (by decide +kernel))) rfl
theorem lk_P_163 : LK "PlaceFinder" 163 y_Na_init prog_7_method_1_code 4 none 3 := ⟨co_Na_init, ii_Na, Or.inl ml_P_163, by decide +kernel⟩
theorem im_Na_init : Cond.instanceMethod y_Na_init ∈ GW := GW_of (tm3 (List.mem_of_getElem? (i := 116) (by decide +kernel))) rfl
theorem tf_P_102_159 : TF "PlaceFinder" 102 159 106 "java/lang/IllegalStateException" exU := ⟨cl_P_102, ib_ex1, ii_ex1, ⟨"it has two names", List.mem_of_getElem? (i := 8) (by decide +kernel)⟩, by decide +kernel, by decide +kernel, ow_P_106⟩
theorem fl_Li_13 : Cond.fieldLink "PlaceFinder$Link" 13 "PlaceFinder$Link" "from" "I" ∈ GW := GW_of (tm3 (List.mem_of_getElem? (i := 180) (by decide +kernel))) rfl
theorem fd_Li_13 : FD "PlaceFinder$Link" 13 5 1 := ⟨_, _, _, "PlaceFinder$Link", rfl, by decide, uw_Li, Or.inl rfl, Or.inl fl_Li_13⟩
theorem fl_Li_17 : Cond.fieldLink "PlaceFinder$Link" 17 "PlaceFinder$Link" "to" "I" ∈ GW := GW_of (tm3 (List.mem_of_getElem? (i := 182) (by decide +kernel))) rfl
theorem fd_Li_17 : FD "PlaceFinder$Link" 17 5 2 := ⟨_, _, _, "PlaceFinder$Link", rfl, by decide, uw_Li, Or.inl rfl, Or.inl fl_Li_17⟩
theorem fd_Pl_29 : FD "PlaceFinder$Place" 29 7 6 := ⟨_, _, _, "PlaceFinder$Place", rfl, by decide, uw_Pl, Or.inl rfl, Or.inl fl_Pl_29⟩
theorem ml_Pl_46 : Cond.methodLink "PlaceFinder$Place" 46 y_Al_get ∈ GW := GW_of (tm3 (List.mem_of_getElem? (i := 143) (by decide +kernel))) rfl
theorem lk_Pl_46 : LK "PlaceFinder$Place" 46 y_Al_get prog_33_method_20_code 2 (some (.object "java/lang/Object")) 1 := ⟨co_Al_get, ii_Al, Or.inl ml_Pl_46, by decide +kernel⟩
theorem cl_Pl_65 : Cond.classLink "PlaceFinder$Place" 65 "PlaceFinder$Link" ∈ GW := GW_of (tm3 (List.mem_of_getElem? (i := 144) (by decide +kernel))) rfl
theorem co_Li_isWithin : Cond.code y_Li_isWithin prog_6_method_2_code 3 (some .boolean) ∈ GW := GW_of (tm3 (List.mem_of_getElem? (i := 148) (by decide +kernel))) rfl
theorem ii_Li : Cond.initialized "PlaceFinder$Link" ∈ GW := GW_of (tm1 (List.mem_of_getElem? (i := 26) (by decide +kernel))) rfl
theorem ml_Pl_67 : Cond.methodLink "PlaceFinder$Place" 67 y_Li_isWithin ∈ GW := GW_of (tm3 (List.mem_of_getElem? (i := 145) (by decide +kernel))) rfl
theorem lk_Pl_67 : LK "PlaceFinder$Place" 67 y_Li_isWithin prog_6_method_2_code 3 (some .boolean) 2 := ⟨co_Li_isWithin, ii_Li, Or.inl ml_Pl_67, by decide +kernel⟩
theorem im_Li_isWithin : Cond.instanceMethod y_Li_isWithin ∈ GW := GW_of (tm3 (List.mem_of_getElem? (i := 146) (by decide +kernel))) rfl
theorem sl_Li_isWithin : Cond.selects "PlaceFinder$Link" y_Li_isWithin y_Li_isWithin ∈ GW := GW_of (tm3 (List.mem_of_getElem? (i := 147) (by decide +kernel))) rfl
theorem fl_P_180 : Cond.fieldLink "PlaceFinder" 180 "PlaceFinder$Place" "links" "Ljava/util/ArrayList;" ∈ GW := GW_of (tm2 (List.mem_of_getElem? (i := 199) (by decide +kernel))) rfl
theorem fd_P_180 : FD "PlaceFinder" 180 7 6 := ⟨_, _, _, "PlaceFinder$Place", rfl, by decide, uw_Pl, Or.inl rfl, Or.inl fl_P_180⟩
theorem cl_P_185 : Cond.classLink "PlaceFinder" 185 "PlaceFinder$Link" ∈ GW := GW_of (tm3 (List.mem_of_getElem? (i := 168) (by decide +kernel))) rfl
theorem fl_P_329 : Cond.fieldLink "PlaceFinder" 329 "PlaceFinder$Link" "from" "I" ∈ GW := GW_of (tm3 (List.mem_of_getElem? (i := 181) (by decide +kernel))) rfl
theorem fd_P_329 : FD "PlaceFinder" 329 5 1 := ⟨_, _, _, "PlaceFinder$Link", rfl, by decide, uw_Li, Or.inl rfl, Or.inl fl_P_329⟩
theorem ml_P_332 : Cond.methodLink "PlaceFinder" 332 y_Ma_max ∈ GW := GW_of (tm3 (List.mem_of_getElem? (i := 169) (by decide +kernel))) rfl
theorem lk_P_332 : LK "PlaceFinder" 332 y_Ma_max prog_23_method_65_code 2 (some .int) 2 := ⟨co_Ma_max, ii_Ma, Or.inl ml_P_332, by decide +kernel⟩
theorem fl_P_338 : Cond.fieldLink "PlaceFinder" 338 "PlaceFinder$Link" "to" "I" ∈ GW := GW_of (tm3 (List.mem_of_getElem? (i := 183) (by decide +kernel))) rfl
theorem fd_P_338 : FD "PlaceFinder" 338 5 2 := ⟨_, _, _, "PlaceFinder$Link", rfl, by decide, uw_Li, Or.inl rfl, Or.inl fl_P_338⟩
theorem ml_P_341 : Cond.methodLink "PlaceFinder" 341 y_Ma_min ∈ GW := GW_of (tm3 (List.mem_of_getElem? (i := 170) (by decide +kernel))) rfl
theorem lk_P_341 : LK "PlaceFinder" 341 y_Ma_min prog_23_method_69_code 2 (some .int) 2 := ⟨co_Ma_min, ii_Ma, Or.inl ml_P_341, by decide +kernel⟩
theorem fl_P_344 : Cond.fieldLink "PlaceFinder" 344 "PlaceFinder$Link" "above" "LPlaceFinder$Place;" ∈ GW := GW_of (tm3 (List.mem_of_getElem? (i := 179) (by decide +kernel))) rfl
theorem fd_P_344 : FD "PlaceFinder" 344 5 0 := ⟨_, _, _, "PlaceFinder$Link", rfl, by decide, uw_Li, Or.inl rfl, Or.inl fl_P_344⟩
theorem co_P_comesTo : Cond.code y_P_comesTo prog_1_method_30_code 9 (some .boolean) ∈ GW := GW_of (tm3 (List.mem_of_getElem? (i := 167) (by decide +kernel))) rfl
theorem ml_P_176 : Cond.methodLink "PlaceFinder" 176 y_P_comesTo ∈ GW := GW_of (tm3 (List.mem_of_getElem? (i := 165) (by decide +kernel))) rfl
theorem lk_P_176 : LK "PlaceFinder" 176 y_P_comesTo prog_1_method_30_code 9 (some .boolean) 5 := ⟨co_P_comesTo, ii_P, Or.inl ml_P_176, by decide +kernel⟩
theorem sc_P_comesTo : Cond.static y_P_comesTo ∈ GW := GW_of (tm3 (List.mem_of_getElem? (i := 166) (by decide +kernel))) rfl
theorem fl_P_270 : Cond.fieldLink "PlaceFinder" 270 "PlaceFinder$Place" "number" "I" ∈ GW := GW_of (tm2 (List.mem_of_getElem? (i := 189) (by decide +kernel))) rfl
theorem fd_P_270 : FD "PlaceFinder" 270 7 0 := ⟨_, _, _, "PlaceFinder$Place", rfl, by decide, uw_Pl, Or.inl rfl, Or.inl fl_P_270⟩
theorem ml_Li_1 : Cond.methodLink "PlaceFinder$Link" 1 objectInit ∈ GW := GW_of (tm3 (List.mem_of_getElem? (i := 176) (by decide +kernel))) rfl
theorem oi_Li_1 : OI "PlaceFinder$Link" 1 := ⟨ml_Li_1, im_Obj, co_Obj⟩
theorem fl_Li_7 : Cond.fieldLink "PlaceFinder$Link" 7 "PlaceFinder$Link" "above" "LPlaceFinder$Place;" ∈ GW := GW_of (tm3 (List.mem_of_getElem? (i := 177) (by decide +kernel))) rfl
theorem fp_Li_7 : FP "PlaceFinder$Link" 7 5 0 (.object "PlaceFinder$Place") true := ⟨_, _, _, "PlaceFinder$Link", t_Li, rfl, by decide, uw_Li, Or.inl rfl, t_Li_ok, n_Li, rfl, rfl, Or.inl ⟨fl_Li_7, fun _ => rfl⟩⟩
theorem fp_Li_13 : FP "PlaceFinder$Link" 13 5 1 .int true := ⟨_, _, _, "PlaceFinder$Link", t_Li, rfl, by decide, uw_Li, Or.inl rfl, t_Li_ok, n_Li, rfl, rfl, Or.inl ⟨fl_Li_13, fun _ => rfl⟩⟩
theorem fp_Li_17 : FP "PlaceFinder$Link" 17 5 2 .int true := ⟨_, _, _, "PlaceFinder$Link", t_Li, rfl, by decide, uw_Li, Or.inl rfl, t_Li_ok, n_Li, rfl, rfl, Or.inl ⟨fl_Li_17, fun _ => rfl⟩⟩
theorem tf_P_91_166 : TF "PlaceFinder" 91 166 95 "java/lang/IllegalArgumentException" exU := ⟨cl_P_91, ib_ex0, ii_ex0, ⟨"no such places or span", List.mem_of_getElem? (i := 9) (by decide +kernel)⟩, by decide +kernel, by decide +kernel, ow_P_95⟩
theorem tf_P_102_183 : TF "PlaceFinder" 102 183 106 "java/lang/IllegalStateException" exU := ⟨cl_P_102, ib_ex1, ii_ex1, ⟨"it would be above itself, or it has four spans", List.mem_of_getElem? (i := 11) (by decide +kernel)⟩, by decide +kernel, by decide +kernel, ow_P_106⟩
theorem co_Pl_isLinkedWithin : Cond.code y_Pl_isLinkedWithin prog_8_method_8_code 4 (some .boolean) ∈ GW := GW_of (tm3 (List.mem_of_getElem? (i := 142) (by decide +kernel))) rfl
theorem ml_P_168 : Cond.methodLink "PlaceFinder" 168 y_Pl_isLinkedWithin ∈ GW := GW_of (tm3 (List.mem_of_getElem? (i := 139) (by decide +kernel))) rfl
theorem lk_P_168 : LK "PlaceFinder" 168 y_Pl_isLinkedWithin prog_8_method_8_code 4 (some .boolean) 2 := ⟨co_Pl_isLinkedWithin, ii_Pl, Or.inl ml_P_168, by decide +kernel⟩
theorem im_Pl_isLinkedWithin : Cond.instanceMethod y_Pl_isLinkedWithin ∈ GW := GW_of (tm3 (List.mem_of_getElem? (i := 140) (by decide +kernel))) rfl
theorem sl_Pl_isLinkedWithin : Cond.selects "PlaceFinder$Place" y_Pl_isLinkedWithin y_Pl_isLinkedWithin ∈ GW := GW_of (tm3 (List.mem_of_getElem? (i := 141) (by decide +kernel))) rfl
theorem ib_Li : Cond.instantiable "PlaceFinder$Link" 3 ∈ GW := GW_of (tm3 (List.mem_of_getElem? (i := 172) (by decide +kernel))) rfl
theorem nd_P_185 : ND "PlaceFinder" 185 5 3 [.null, .int 0, .int 0] := ⟨_, _, t_Li, rfl, uw_Li, t_Li_ok, cl_P_185, ib_Li, ii_Li, by decide +kernel⟩
theorem co_Li_init : Cond.code y_Li_init prog_6_method_1_code 4 none ∈ GW := GW_of (tm3 (List.mem_of_getElem? (i := 175) (by decide +kernel))) rfl
theorem ml_P_187 : Cond.methodLink "PlaceFinder" 187 y_Li_init ∈ GW := GW_of (tm3 (List.mem_of_getElem? (i := 173) (by decide +kernel))) rfl
theorem lk_P_187 : LK "PlaceFinder" 187 y_Li_init prog_6_method_1_code 4 none 3 := ⟨co_Li_init, ii_Li, Or.inl ml_P_187, by decide +kernel⟩
theorem im_Li_init : Cond.instanceMethod y_Li_init ∈ GW := GW_of (tm3 (List.mem_of_getElem? (i := 174) (by decide +kernel))) rfl
theorem cl_P_171 : Cond.classLink "PlaceFinder" 171 "java/lang/UnsupportedOperationException" ∈ GW := GW_of (tm3 (List.mem_of_getElem? (i := 149) (by decide +kernel))) rfl
theorem ib_ex2 : Cond.instantiable "java/lang/UnsupportedOperationException" 6 ∈ GW := GW_of (tm3 (List.mem_of_getElem? (i := 150) (by decide +kernel))) rfl
theorem ii_ex2 : Cond.initialized "java/lang/UnsupportedOperationException" ∈ GW := GW_of (tm1 (List.mem_of_getElem? (i := 25) (by decide +kernel))) rfl
theorem ow_P_175 : (Bundle.ownAtoms "PlaceFinder" 175 "java/lang/UnsupportedOperationException" exU).all owOK = true := by decide +kernel
theorem tf_P_171_173 : TF "PlaceFinder" 171 173 175 "java/lang/UnsupportedOperationException" exU := ⟨cl_P_171, ib_ex2, ii_ex2, ⟨"it has a parent for a day of the span", List.mem_of_getElem? (i := 10) (by decide +kernel)⟩, by decide +kernel, by decide +kernel, ow_P_175⟩
theorem fd_Pl_9 : FD "PlaceFinder$Place" 9 7 2 := ⟨_, _, _, "PlaceFinder$Place", rfl, by decide, uw_Pl, Or.inl rfl, Or.inl fl_Pl_9⟩
theorem co_Pl_isRemovedOn : Cond.code y_Pl_isRemovedOn prog_8_method_5_code 2 (some .boolean) ∈ GW := GW_of (tm3 (List.mem_of_getElem? (i := 201) (by decide +kernel))) rfl
theorem ml_P_190 : Cond.methodLink "PlaceFinder" 190 y_Pl_isRemovedOn ∈ GW := GW_of (tm3 (List.mem_of_getElem? (i := 198) (by decide +kernel))) rfl
theorem lk_P_190 : LK "PlaceFinder" 190 y_Pl_isRemovedOn prog_8_method_5_code 2 (some .boolean) 1 := ⟨co_Pl_isRemovedOn, ii_Pl, Or.inl ml_P_190, by decide +kernel⟩
theorem im_Pl_isRemovedOn : Cond.instanceMethod y_Pl_isRemovedOn ∈ GW := GW_of (tm3 (List.mem_of_getElem? (i := 199) (by decide +kernel))) rfl
theorem sl_Pl_isRemovedOn : Cond.selects "PlaceFinder$Place" y_Pl_isRemovedOn y_Pl_isRemovedOn ∈ GW := GW_of (tm3 (List.mem_of_getElem? (i := 200) (by decide +kernel))) rfl
theorem fl_P_195 : Cond.fieldLink "PlaceFinder" 195 "PlaceFinder$Place" "removedFrom" "I" ∈ GW := GW_of (tm2 (List.mem_of_getElem? (i := 193) (by decide +kernel))) rfl
theorem fp_P_195 : FP "PlaceFinder" 195 7 2 .int false := ⟨_, _, _, "PlaceFinder$Place", t_Pl, rfl, by decide, uw_Pl, Or.inl rfl, t_Pl_ok, n_Pl, rfl, rfl, Or.inl ⟨fl_P_195, fun q => nomatch q⟩⟩
theorem tf_P_102_193 : TF "PlaceFinder" 102 193 106 "java/lang/IllegalStateException" exU := ⟨cl_P_102, ib_ex1, ii_ex1, ⟨"it is removed on that day already", List.mem_of_getElem? (i := 12) (by decide +kernel)⟩, by decide +kernel, by decide +kernel, ow_P_106⟩
theorem co_P_isDistance : Cond.code y_P_isDistance prog_1_method_26_code 1 (some .boolean) ∈ GW := GW_of (tm3 (List.mem_of_getElem? (i := 216) (by decide +kernel))) rfl
theorem ml_P_326 : Cond.methodLink "PlaceFinder" 326 y_P_isDistance ∈ GW := GW_of (tm3 (List.mem_of_getElem? (i := 214) (by decide +kernel))) rfl
theorem lk_P_326 : LK "PlaceFinder" 326 y_P_isDistance prog_1_method_26_code 1 (some .boolean) 1 := ⟨co_P_isDistance, ii_P, Or.inl ml_P_326, by decide +kernel⟩
theorem sc_P_isDistance : Cond.static y_P_isDistance ∈ GW := GW_of (tm3 (List.mem_of_getElem? (i := 215) (by decide +kernel))) rfl
theorem fd_P_43 : FD "PlaceFinder" 43 11 7 := ⟨_, _, _, "PlaceFinder", rfl, by decide, uw_P, Or.inl rfl, Or.inl fl_P_43⟩
theorem tf_P_102_206 : TF "PlaceFinder" 102 206 106 "java/lang/IllegalStateException" exU := ⟨cl_P_102, ib_ex1, ii_ex1, ⟨"there are five conditions", List.mem_of_getElem? (i := 15) (by decide +kernel)⟩, by decide +kernel, by decide +kernel, ow_P_106⟩
theorem tf_P_91_204 : TF "PlaceFinder" 91 204 95 "java/lang/IllegalArgumentException" exU := ⟨cl_P_91, ib_ex0, ii_ex0, ⟨"nothing is typed", List.mem_of_getElem? (i := 14) (by decide +kernel)⟩, by decide +kernel, by decide +kernel, ow_P_95⟩
theorem co_P_areCondition : Cond.code y_P_areCondition prog_1_method_27_code 5 (some .boolean) ∈ GW := GW_of (tm3 (List.mem_of_getElem? (i := 213) (by decide +kernel))) rfl
theorem ml_P_198 : Cond.methodLink "PlaceFinder" 198 y_P_areCondition ∈ GW := GW_of (tm3 (List.mem_of_getElem? (i := 210) (by decide +kernel))) rfl
theorem lk_P_198 : LK "PlaceFinder" 198 y_P_areCondition prog_1_method_27_code 5 (some .boolean) 4 := ⟨co_P_areCondition, ii_P, Or.inl ml_P_198, by decide +kernel⟩
theorem im_P_areCondition : Cond.instanceMethod y_P_areCondition ∈ GW := GW_of (tm3 (List.mem_of_getElem? (i := 212) (by decide +kernel))) rfl
theorem sl_P_areCondition : Cond.selects "PlaceFinder" y_P_areCondition y_P_areCondition ∈ GW := GW_of (tm0 (List.mem_of_getElem? (i := 8) (by decide +kernel))) rfl
theorem tf_P_91_202 : TF "PlaceFinder" 91 202 95 "java/lang/IllegalArgumentException" exU := ⟨cl_P_91, ib_ex0, ii_ex0, ⟨"no such condition", List.mem_of_getElem? (i := 13) (by decide +kernel)⟩, by decide +kernel, by decide +kernel, ow_P_95⟩
theorem as_Al_clear_35 : ∀ ci ∈ ([] : List Nat), AS "java/lang/Object" ci := fun _ h => nomatch h
theorem co_Al_clear : Cond.code y_Al_clear prog_33_method_40_code 4 none ∈ GW := GW_of (tm2 (List.mem_of_getElem? (i := 24) (by decide +kernel))) rfl
theorem ml_P_208 : Cond.methodLink "PlaceFinder" 208 y_Al_clear ∈ GW := GW_of (tm2 (List.mem_of_getElem? (i := 21) (by decide +kernel))) rfl
theorem lk_P_208 : LK "PlaceFinder" 208 y_Al_clear prog_33_method_40_code 4 none 0 := ⟨co_Al_clear, ii_Al, Or.inl ml_P_208, by decide +kernel⟩
theorem im_Al_clear : Cond.instanceMethod y_Al_clear ∈ GW := GW_of (tm2 (List.mem_of_getElem? (i := 22) (by decide +kernel))) rfl
theorem sl_Al_clear : Cond.selects "java/util/ArrayList" y_Al_clear y_Al_clear ∈ GW := GW_of (tm2 (List.mem_of_getElem? (i := 23) (by decide +kernel))) rfl
theorem fd_P_83 : FD "PlaceFinder" 83 11 12 := ⟨_, _, _, "PlaceFinder", rfl, by decide, uw_P, Or.inl rfl, Or.inl fl_P_83⟩
theorem fl_P_352 : Cond.fieldLink "PlaceFinder" 352 "PlaceFinder$Condition" "kind" "I" ∈ GW := GW_of (tm1 (List.mem_of_getElem? (i := 189) (by decide +kernel))) rfl
theorem fd_P_352 : FD "PlaceFinder" 352 1 0 := ⟨_, _, _, "PlaceFinder$Condition", rfl, by decide, uw_Cn, Or.inl rfl, Or.inl fl_P_352⟩
theorem cl_Pl_50 : Cond.classLink "PlaceFinder$Place" 50 "PlaceFinder$Corners" ∈ GW := GW_of (tm4 (List.mem_of_getElem? (i := 8) (by decide +kernel))) rfl
theorem ml_Co_41 : Cond.methodLink "PlaceFinder$Corners" 41 y_Ma_min ∈ GW := GW_of (tm4 (List.mem_of_getElem? (i := 29) (by decide +kernel))) rfl
theorem lk_Co_41 : LK "PlaceFinder$Corners" 41 y_Ma_min prog_23_method_69_code 2 (some .int) 2 := ⟨co_Ma_min, ii_Ma, Or.inl ml_Co_41, by decide +kernel⟩
theorem ml_Co_55 : Cond.methodLink "PlaceFinder$Corners" 55 y_Ma_max ∈ GW := GW_of (tm4 (List.mem_of_getElem? (i := 30) (by decide +kernel))) rfl
theorem lk_Co_55 : LK "PlaceFinder$Corners" 55 y_Ma_max prog_23_method_65_code 2 (some .int) 2 := ⟨co_Ma_max, ii_Ma, Or.inl ml_Co_55, by decide +kernel⟩
theorem co_Co_isInBox : Cond.code y_Co_isInBox prog_3_method_10_code 5 (some .boolean) ∈ GW := GW_of (tm4 (List.mem_of_getElem? (i := 28) (by decide +kernel))) rfl
theorem ml_Co_51 : Cond.methodLink "PlaceFinder$Corners" 51 y_Co_isInBox ∈ GW := GW_of (tm4 (List.mem_of_getElem? (i := 25) (by decide +kernel))) rfl
theorem lk_Co_51 : LK "PlaceFinder$Corners" 51 y_Co_isInBox prog_3_method_10_code 5 (some .boolean) 4 := ⟨co_Co_isInBox, ii_Co, Or.inl ml_Co_51, by decide +kernel⟩
theorem im_Co_isInBox : Cond.instanceMethod y_Co_isInBox ∈ GW := GW_of (tm4 (List.mem_of_getElem? (i := 27) (by decide +kernel))) rfl
theorem sl_Co_isInBox : Cond.selects "PlaceFinder$Corners" y_Co_isInBox y_Co_isInBox ∈ GW := GW_of (tm0 (List.mem_of_getElem? (i := 14) (by decide +kernel))) rfl
theorem co_Co_hasInside : Cond.code y_Co_hasInside prog_3_method_9_code 8 (some .boolean) ∈ GW := GW_of (tm4 (List.mem_of_getElem? (i := 24) (by decide +kernel))) rfl
theorem ml_Co_47 : Cond.methodLink "PlaceFinder$Corners" 47 y_Co_hasInside ∈ GW := GW_of (tm4 (List.mem_of_getElem? (i := 21) (by decide +kernel))) rfl
theorem lk_Co_47 : LK "PlaceFinder$Corners" 47 y_Co_hasInside prog_3_method_9_code 8 (some .boolean) 2 := ⟨co_Co_hasInside, ii_Co, Or.inl ml_Co_47, by decide +kernel⟩
theorem im_Co_hasInside : Cond.instanceMethod y_Co_hasInside ∈ GW := GW_of (tm4 (List.mem_of_getElem? (i := 22) (by decide +kernel))) rfl
theorem sl_Co_hasInside : Cond.selects "PlaceFinder$Corners" y_Co_hasInside y_Co_hasInside ∈ GW := GW_of (tm4 (List.mem_of_getElem? (i := 23) (by decide +kernel))) rfl
theorem co_Pl_shapeOn : Cond.code y_Pl_shapeOn prog_8_method_4_code 4 (some (.object "PlaceFinder$Corners")) ∈ GW := GW_of (tm4 (List.mem_of_getElem? (i := 7) (by decide +kernel))) rfl
theorem ml_P_275 : Cond.methodLink "PlaceFinder" 275 y_Pl_shapeOn ∈ GW := GW_of (tm4 (List.mem_of_getElem? (i := 4) (by decide +kernel))) rfl
theorem lk_P_275 : LK "PlaceFinder" 275 y_Pl_shapeOn prog_8_method_4_code 4 (some (.object "PlaceFinder$Corners")) 1 := ⟨co_Pl_shapeOn, ii_Pl, Or.inl ml_P_275, by decide +kernel⟩
theorem im_Pl_shapeOn : Cond.instanceMethod y_Pl_shapeOn ∈ GW := GW_of (tm4 (List.mem_of_getElem? (i := 5) (by decide +kernel))) rfl
theorem sl_Pl_shapeOn : Cond.selects "PlaceFinder$Place" y_Pl_shapeOn y_Pl_shapeOn ∈ GW := GW_of (tm4 (List.mem_of_getElem? (i := 6) (by decide +kernel))) rfl
theorem co_Co_hasAllInside : Cond.code y_Co_hasAllInside prog_3_method_8_code 3 (some .boolean) ∈ GW := GW_of (tm4 (List.mem_of_getElem? (i := 20) (by decide +kernel))) rfl
theorem ml_P_385 : Cond.methodLink "PlaceFinder" 385 y_Co_hasAllInside ∈ GW := GW_of (tm4 (List.mem_of_getElem? (i := 17) (by decide +kernel))) rfl
theorem lk_P_385 : LK "PlaceFinder" 385 y_Co_hasAllInside prog_3_method_8_code 3 (some .boolean) 1 := ⟨co_Co_hasAllInside, ii_Co, Or.inl ml_P_385, by decide +kernel⟩
theorem im_Co_hasAllInside : Cond.instanceMethod y_Co_hasAllInside ∈ GW := GW_of (tm4 (List.mem_of_getElem? (i := 18) (by decide +kernel))) rfl
theorem sl_Co_hasAllInside : Cond.selects "PlaceFinder$Corners" y_Co_hasAllInside y_Co_hasAllInside ∈ GW := GW_of (tm4 (List.mem_of_getElem? (i := 19) (by decide +kernel))) rfl
theorem fl_Pl_71 : Cond.fieldLink "PlaceFinder$Place" 71 "PlaceFinder$Link" "above" "LPlaceFinder$Place;" ∈ GW := GW_of (tm3 (List.mem_of_getElem? (i := 178) (by decide +kernel))) rfl
theorem fd_Pl_71 : FD "PlaceFinder$Place" 71 5 0 := ⟨_, _, _, "PlaceFinder$Link", rfl, by decide, uw_Li, Or.inl rfl, Or.inl fl_Pl_71⟩
theorem co_Pl_aboveOn : Cond.code y_Pl_aboveOn prog_8_method_9_code 3 (some (.object "PlaceFinder$Place")) ∈ GW := GW_of (tm4 (List.mem_of_getElem? (i := 37) (by decide +kernel))) rfl
theorem ml_P_267 : Cond.methodLink "PlaceFinder" 267 y_Pl_aboveOn ∈ GW := GW_of (tm4 (List.mem_of_getElem? (i := 34) (by decide +kernel))) rfl
theorem lk_P_267 : LK "PlaceFinder" 267 y_Pl_aboveOn prog_8_method_9_code 3 (some (.object "PlaceFinder$Place")) 1 := ⟨co_Pl_aboveOn, ii_Pl, Or.inl ml_P_267, by decide +kernel⟩
theorem im_Pl_aboveOn : Cond.instanceMethod y_Pl_aboveOn ∈ GW := GW_of (tm4 (List.mem_of_getElem? (i := 35) (by decide +kernel))) rfl
theorem sl_Pl_aboveOn : Cond.selects "PlaceFinder$Place" y_Pl_aboveOn y_Pl_aboveOn ∈ GW := GW_of (tm4 (List.mem_of_getElem? (i := 36) (by decide +kernel))) rfl
theorem co_Co_squareFrom : Cond.code y_Co_squareFrom prog_3_method_7_code 6 (some .int) ∈ GW := GW_of (tm4 (List.mem_of_getElem? (i := 46) (by decide +kernel))) rfl
theorem ml_Co_37 : Cond.methodLink "PlaceFinder$Corners" 37 y_Co_squareFrom ∈ GW := GW_of (tm4 (List.mem_of_getElem? (i := 43) (by decide +kernel))) rfl
theorem lk_Co_37 : LK "PlaceFinder$Corners" 37 y_Co_squareFrom prog_3_method_7_code 6 (some .int) 3 := ⟨co_Co_squareFrom, ii_Co, Or.inl ml_Co_37, by decide +kernel⟩
theorem im_Co_squareFrom : Cond.instanceMethod y_Co_squareFrom ∈ GW := GW_of (tm4 (List.mem_of_getElem? (i := 44) (by decide +kernel))) rfl
theorem sl_Co_squareFrom : Cond.selects "PlaceFinder$Corners" y_Co_squareFrom y_Co_squareFrom ∈ GW := GW_of (tm4 (List.mem_of_getElem? (i := 45) (by decide +kernel))) rfl
theorem cn_Co_36 : Cond.constant "PlaceFinder$Corners" 36 1073741824 ∈ GW := GW_of (tm4 (List.mem_of_getElem? (i := 42) (by decide +kernel))) rfl
theorem fl_Rs_7 : Cond.fieldLink "PlaceFinder$RouteSearch" 7 "PlaceFinder$RouteSearch" "isFound" "Z" ∈ GW := GW_of (tm1 (List.mem_of_getElem? (i := 145) (by decide +kernel))) rfl
theorem fp_Rs_7 : FP "PlaceFinder$RouteSearch" 7 8 0 .boolean false := ⟨_, _, _, "PlaceFinder$RouteSearch", t_Rs, rfl, by decide, uw_Rs, Or.inl rfl, t_Rs_ok, n_Rs, rfl, rfl, Or.inl ⟨fl_Rs_7, fun q => nomatch q⟩⟩
theorem fl_Rs_54 : Cond.fieldLink "PlaceFinder$RouteSearch" 54 "PlaceFinder$RouteSearch" "side" "I" ∈ GW := GW_of (tm1 (List.mem_of_getElem? (i := 146) (by decide +kernel))) rfl
theorem fp_Rs_54 : FP "PlaceFinder$RouteSearch" 54 8 1 .int false := ⟨_, _, _, "PlaceFinder$RouteSearch", t_Rs, rfl, by decide, uw_Rs, Or.inl rfl, t_Rs_ok, n_Rs, rfl, rfl, Or.inl ⟨fl_Rs_54, fun q => nomatch q⟩⟩
theorem fl_Rs_57 : Cond.fieldLink "PlaceFinder$RouteSearch" 57 "PlaceFinder$RouteSearch" "along" "I" ∈ GW := GW_of (tm1 (List.mem_of_getElem? (i := 147) (by decide +kernel))) rfl
theorem fp_Rs_57 : FP "PlaceFinder$RouteSearch" 57 8 2 .int false := ⟨_, _, _, "PlaceFinder$RouteSearch", t_Rs, rfl, by decide, uw_Rs, Or.inl rfl, t_Rs_ok, n_Rs, rfl, rfl, Or.inl ⟨fl_Rs_57, fun q => nomatch q⟩⟩
theorem fl_Rs_38 : Cond.fieldLink "PlaceFinder$RouteSearch" 38 "PlaceFinder$RouteSearch" "whole" "J" ∈ GW := GW_of (tm1 (List.mem_of_getElem? (i := 148) (by decide +kernel))) rfl
theorem fp_Rs_38 : FP "PlaceFinder$RouteSearch" 38 8 3 .long false := ⟨_, _, _, "PlaceFinder$RouteSearch", t_Rs, rfl, by decide, uw_Rs, Or.inl rfl, t_Rs_ok, n_Rs, rfl, rfl, Or.inl ⟨fl_Rs_38, fun q => nomatch q⟩⟩
theorem fl_Rs_51 : Cond.fieldLink "PlaceFinder$RouteSearch" 51 "PlaceFinder$RouteSearch" "rest" "J" ∈ GW := GW_of (tm1 (List.mem_of_getElem? (i := 149) (by decide +kernel))) rfl
theorem fp_Rs_51 : FP "PlaceFinder$RouteSearch" 51 8 4 .long false := ⟨_, _, _, "PlaceFinder$RouteSearch", t_Rs, rfl, by decide, uw_Rs, Or.inl rfl, t_Rs_ok, n_Rs, rfl, rfl, Or.inl ⟨fl_Rs_51, fun q => nomatch q⟩⟩
theorem fl_Rs_48 : Cond.fieldLink "PlaceFinder$RouteSearch" 48 "PlaceFinder$RouteSearch" "divisor" "J" ∈ GW := GW_of (tm1 (List.mem_of_getElem? (i := 150) (by decide +kernel))) rfl
theorem fp_Rs_48 : FP "PlaceFinder$RouteSearch" 48 8 5 .long false := ⟨_, _, _, "PlaceFinder$RouteSearch", t_Rs, rfl, by decide, uw_Rs, Or.inl rfl, t_Rs_ok, n_Rs, rfl, rfl, Or.inl ⟨fl_Rs_48, fun q => nomatch q⟩⟩
theorem fd_Rs_54 : FD "PlaceFinder$RouteSearch" 54 8 1 := ⟨_, _, _, "PlaceFinder$RouteSearch", rfl, by decide, uw_Rs, Or.inl rfl, Or.inl fl_Rs_54⟩
theorem fd_Rs_57 : FD "PlaceFinder$RouteSearch" 57 8 2 := ⟨_, _, _, "PlaceFinder$RouteSearch", rfl, by decide, uw_Rs, Or.inl rfl, Or.inl fl_Rs_57⟩
theorem fd_Rs_7 : FD "PlaceFinder$RouteSearch" 7 8 0 := ⟨_, _, _, "PlaceFinder$RouteSearch", rfl, by decide, uw_Rs, Or.inl rfl, Or.inl fl_Rs_7⟩
theorem fd_Rs_38 : FD "PlaceFinder$RouteSearch" 38 8 3 := ⟨_, _, _, "PlaceFinder$RouteSearch", rfl, by decide, uw_Rs, Or.inl rfl, Or.inl fl_Rs_38⟩
theorem fd_Rs_48 : FD "PlaceFinder$RouteSearch" 48 8 5 := ⟨_, _, _, "PlaceFinder$RouteSearch", rfl, by decide, uw_Rs, Or.inl rfl, Or.inl fl_Rs_48⟩
theorem fd_Rs_51 : FD "PlaceFinder$RouteSearch" 51 8 4 := ⟨_, _, _, "PlaceFinder$RouteSearch", rfl, by decide, uw_Rs, Or.inl rfl, Or.inl fl_Rs_51⟩
theorem co_Lo_compare : Cond.code y_Lo_compare prog_22_method_42_code 4 (some .int) ∈ GW := GW_of (tm4 (List.mem_of_getElem? (i := 61) (by decide +kernel))) rfl
theorem ii_Lo : Cond.initialized "java/lang/Long" ∈ GW := GW_of (tm1 (List.mem_of_getElem? (i := 27) (by decide +kernel))) rfl
theorem ml_Rs_42 : Cond.methodLink "PlaceFinder$RouteSearch" 42 y_Lo_compare ∈ GW := GW_of (tm4 (List.mem_of_getElem? (i := 59) (by decide +kernel))) rfl
theorem lk_Rs_42 : LK "PlaceFinder$RouteSearch" 42 y_Lo_compare prog_22_method_42_code 4 (some .int) 2 := ⟨co_Lo_compare, ii_Lo, Or.inl ml_Rs_42, by decide +kernel⟩
theorem sc_Lo_compare : Cond.static y_Lo_compare ∈ GW := GW_of (tm4 (List.mem_of_getElem? (i := 60) (by decide +kernel))) rfl
theorem ml_Rs_34 : Cond.methodLink "PlaceFinder$RouteSearch" 34 y_Co_squareFrom ∈ GW := GW_of (tm4 (List.mem_of_getElem? (i := 62) (by decide +kernel))) rfl
theorem lk_Rs_34 : LK "PlaceFinder$RouteSearch" 34 y_Co_squareFrom prog_3_method_7_code 6 (some .int) 3 := ⟨co_Co_squareFrom, ii_Co, Or.inl ml_Rs_34, by decide +kernel⟩
theorem co_Rs_takeIfBetter : Cond.code y_Rs_takeIfBetter prog_9_method_4_code 10 none ∈ GW := GW_of (tm4 (List.mem_of_getElem? (i := 58) (by decide +kernel))) rfl
theorem ml_Rs_30 : Cond.methodLink "PlaceFinder$RouteSearch" 30 y_Rs_takeIfBetter ∈ GW := GW_of (tm4 (List.mem_of_getElem? (i := 55) (by decide +kernel))) rfl
theorem lk_Rs_30 : LK "PlaceFinder$RouteSearch" 30 y_Rs_takeIfBetter prog_9_method_4_code 10 none 5 := ⟨co_Rs_takeIfBetter, ii_Rs, Or.inl ml_Rs_30, by decide +kernel⟩
theorem im_Rs_takeIfBetter : Cond.instanceMethod y_Rs_takeIfBetter ∈ GW := GW_of (tm4 (List.mem_of_getElem? (i := 57) (by decide +kernel))) rfl
theorem sl_Rs_takeIfBetter : Cond.selects "PlaceFinder$RouteSearch" y_Rs_takeIfBetter y_Rs_takeIfBetter ∈ GW := GW_of (tm0 (List.mem_of_getElem? (i := 16) (by decide +kernel))) rfl
theorem fl_Rs_19 : Cond.fieldLink "PlaceFinder$RouteSearch" 19 "PlaceFinder$Corners" "xs" "[I" ∈ GW := GW_of (tm1 (List.mem_of_getElem? (i := 94) (by decide +kernel))) rfl
theorem fd_Rs_19 : FD "PlaceFinder$RouteSearch" 19 2 1 := ⟨_, _, _, "PlaceFinder$Corners", rfl, by decide, uw_Co, Or.inl rfl, Or.inl fl_Rs_19⟩
theorem fl_Rs_23 : Cond.fieldLink "PlaceFinder$RouteSearch" 23 "PlaceFinder$Corners" "ys" "[I" ∈ GW := GW_of (tm1 (List.mem_of_getElem? (i := 96) (by decide +kernel))) rfl
theorem fd_Rs_23 : FD "PlaceFinder$RouteSearch" 23 2 2 := ⟨_, _, _, "PlaceFinder$Corners", rfl, by decide, uw_Co, Or.inl rfl, Or.inl fl_Rs_23⟩
theorem fl_Rs_13 : Cond.fieldLink "PlaceFinder$RouteSearch" 13 "PlaceFinder$Corners" "size" "I" ∈ GW := GW_of (tm1 (List.mem_of_getElem? (i := 92) (by decide +kernel))) rfl
theorem fd_Rs_13 : FD "PlaceFinder$RouteSearch" 13 2 0 := ⟨_, _, _, "PlaceFinder$Corners", rfl, by decide, uw_Co, Or.inl rfl, Or.inl fl_Rs_13⟩
theorem co_Rs_measure : Cond.code y_Rs_measure prog_9_method_3_code 13 none ∈ GW := GW_of (tm4 (List.mem_of_getElem? (i := 54) (by decide +kernel))) rfl
theorem ml_Rs_26 : Cond.methodLink "PlaceFinder$RouteSearch" 26 y_Rs_measure ∈ GW := GW_of (tm4 (List.mem_of_getElem? (i := 51) (by decide +kernel))) rfl
theorem lk_Rs_26 : LK "PlaceFinder$RouteSearch" 26 y_Rs_measure prog_9_method_3_code 13 none 4 := ⟨co_Rs_measure, ii_Rs, Or.inl ml_Rs_26, by decide +kernel⟩
theorem im_Rs_measure : Cond.instanceMethod y_Rs_measure ∈ GW := GW_of (tm4 (List.mem_of_getElem? (i := 53) (by decide +kernel))) rfl
theorem sl_Rs_measure : Cond.selects "PlaceFinder$RouteSearch" y_Rs_measure y_Rs_measure ∈ GW := GW_of (tm0 (List.mem_of_getElem? (i := 15) (by decide +kernel))) rfl
theorem fd_Na_13 : FD "PlaceFinder$Name" 13 6 1 := ⟨_, _, _, "PlaceFinder$Name", rfl, by decide, uw_Na, Or.inl rfl, Or.inl fl_Na_13⟩
theorem fd_Na_17 : FD "PlaceFinder$Name" 17 6 2 := ⟨_, _, _, "PlaceFinder$Name", rfl, by decide, uw_Na, Or.inl rfl, Or.inl fl_Na_17⟩
theorem cn_Wo_23 : Cond.constantLong "PlaceFinder$Word" 23 27 ∈ GW := GW_of (tm4 (List.mem_of_getElem? (i := 84) (by decide +kernel))) rfl
theorem fd_Wo_19 : FD "PlaceFinder$Word" 19 10 1 := ⟨_, _, _, "PlaceFinder$Word", rfl, by decide, uw_Wo, Or.inl rfl, Or.inl fl_Wo_19⟩
theorem fd_Ec_11 : FD "PlaceFinder$ErrorCounter" 11 3 0 := ⟨_, _, _, "PlaceFinder$ErrorCounter", rfl, by decide, uw_Ec, Or.inl rfl, Or.inl fl_Ec_11⟩
theorem ml_Ec_30 : Cond.methodLink "PlaceFinder$ErrorCounter" 30 y_Ma_min ∈ GW := GW_of (tm4 (List.mem_of_getElem? (i := 97) (by decide +kernel))) rfl
theorem lk_Ec_30 : LK "PlaceFinder$ErrorCounter" 30 y_Ma_min prog_23_method_69_code 2 (some .int) 2 := ⟨co_Ma_min, ii_Ma, Or.inl ml_Ec_30, by decide +kernel⟩
theorem fl_Ec_16 : Cond.fieldLink "PlaceFinder$ErrorCounter" 16 "PlaceFinder$Word" "size" "I" ∈ GW := GW_of (tm1 (List.mem_of_getElem? (i := 178) (by decide +kernel))) rfl
theorem fd_Ec_16 : FD "PlaceFinder$ErrorCounter" 16 10 1 := ⟨_, _, _, "PlaceFinder$Word", rfl, by decide, uw_Wo, Or.inl rfl, Or.inl fl_Ec_16⟩
theorem fl_Ec_22 : Cond.fieldLink "PlaceFinder$ErrorCounter" 22 "PlaceFinder$Word" "letters" "[C" ∈ GW := GW_of (tm1 (List.mem_of_getElem? (i := 176) (by decide +kernel))) rfl
theorem fd_Ec_22 : FD "PlaceFinder$ErrorCounter" 22 10 0 := ⟨_, _, _, "PlaceFinder$Word", rfl, by decide, uw_Wo, Or.inl rfl, Or.inl fl_Ec_22⟩
theorem co_Ec_leastFor : Cond.code y_Ec_leastFor prog_4_method_3_code 9 (some .int) ∈ GW := GW_of (tm4 (List.mem_of_getElem? (i := 96) (by decide +kernel))) rfl
theorem ml_Ec_26 : Cond.methodLink "PlaceFinder$ErrorCounter" 26 y_Ec_leastFor ∈ GW := GW_of (tm4 (List.mem_of_getElem? (i := 93) (by decide +kernel))) rfl
theorem lk_Ec_26 : LK "PlaceFinder$ErrorCounter" 26 y_Ec_leastFor prog_4_method_3_code 9 (some .int) 4 := ⟨co_Ec_leastFor, ii_Ec, Or.inl ml_Ec_26, by decide +kernel⟩
theorem im_Ec_leastFor : Cond.instanceMethod y_Ec_leastFor ∈ GW := GW_of (tm4 (List.mem_of_getElem? (i := 95) (by decide +kernel))) rfl
theorem sl_Ec_leastFor : Cond.selects "PlaceFinder$ErrorCounter" y_Ec_leastFor y_Ec_leastFor ∈ GW := GW_of (tm0 (List.mem_of_getElem? (i := 19) (by decide +kernel))) rfl
theorem fl_St_38 : Cond.fieldLink "java/lang/String" 38 "java/lang/String" "COMPACT_STRINGS" "Z" ∈ GW := GW_of (tm2 (List.mem_of_getElem? (i := 46) (by decide +kernel))) rfl
theorem fl_St_15 : Cond.fieldLink "java/lang/String" 15 "java/lang/String" "coder" "B" ∈ GW := GW_of (tm6 (List.mem_of_getElem? (i := 204) (by decide +kernel))) rfl
theorem fl_St_1053 : Cond.fieldLink "java/lang/String" 1053 "jdk/internal/util/Preconditions" "SIOOBE_FORMATTER" "Ljava/util/function/BiFunction;" ∈ GW := GW_of (tm2 (List.mem_of_getElem? (i := 54) (by decide +kernel))) rfl
theorem ml_St_1059 : Cond.methodLink "java/lang/String" 1059 y_Pr_checkIndex ∈ GW := GW_of (tm2 (List.mem_of_getElem? (i := 56) (by decide +kernel))) rfl
theorem lk_St_1059 : LK "java/lang/String" 1059 y_Pr_checkIndex prog_42_method_11_code 3 (some .int) 3 := ⟨co_Pr_checkIndex, ii_Pr, Or.inl ml_St_1059, by decide +kernel⟩
theorem co_St_checkIndex : Cond.code y_St_checkIndex prog_25_method_155_code 2 none ∈ GW := GW_of (tm2 (List.mem_of_getElem? (i := 53) (by decide +kernel))) rfl
theorem ii_St : Cond.initialized "java/lang/String" ∈ GW := GW_of (tm1 (List.mem_of_getElem? (i := 28) (by decide +kernel))) rfl
theorem ml_Sl_9 : Cond.methodLink "java/lang/StringLatin1" 9 y_St_checkIndex ∈ GW := GW_of (tm2 (List.mem_of_getElem? (i := 51) (by decide +kernel))) rfl
theorem lk_Sl_9 : LK "java/lang/StringLatin1" 9 y_St_checkIndex prog_25_method_155_code 2 none 2 := ⟨co_St_checkIndex, ii_St, Or.inl ml_Sl_9, by decide +kernel⟩
theorem sc_St_checkIndex : Cond.static y_St_checkIndex ∈ GW := GW_of (tm2 (List.mem_of_getElem? (i := 52) (by decide +kernel))) rfl
theorem co_Sv_length : Cond.code y_Sv_length prog_27_method_6_code 1 (some .int) ∈ GW := GW_of (tm2 (List.mem_of_getElem? (i := 67) (by decide +kernel))) rfl
theorem ii_Sv : Cond.initialized "java/lang/StringUTF16" ∈ GW := GW_of (tm1 (List.mem_of_getElem? (i := 30) (by decide +kernel))) rfl
theorem ml_Sv_48 : Cond.methodLink "java/lang/StringUTF16" 48 y_Sv_length ∈ GW := GW_of (tm2 (List.mem_of_getElem? (i := 65) (by decide +kernel))) rfl
theorem lk_Sv_48 : LK "java/lang/StringUTF16" 48 y_Sv_length prog_27_method_6_code 1 (some .int) 1 := ⟨co_Sv_length, ii_Sv, Or.inl ml_Sv_48, by decide +kernel⟩
theorem sc_Sv_length : Cond.static y_Sv_length ∈ GW := GW_of (tm2 (List.mem_of_getElem? (i := 66) (by decide +kernel))) rfl
theorem ml_Sv_414 : Cond.methodLink "java/lang/StringUTF16" 414 y_St_checkIndex ∈ GW := GW_of (tm2 (List.mem_of_getElem? (i := 68) (by decide +kernel))) rfl
theorem lk_Sv_414 : LK "java/lang/StringUTF16" 414 y_St_checkIndex prog_25_method_155_code 2 none 2 := ⟨co_St_checkIndex, ii_St, Or.inl ml_Sv_414, by decide +kernel⟩
theorem co_St_isLatin1 : Cond.code y_St_isLatin1 prog_25_method_154_code 1 (some .boolean) ∈ GW := GW_of (tm2 (List.mem_of_getElem? (i := 45) (by decide +kernel))) rfl
theorem ml_St_492 : Cond.methodLink "java/lang/String" 492 y_St_isLatin1 ∈ GW := GW_of (tm2 (List.mem_of_getElem? (i := 42) (by decide +kernel))) rfl
theorem lk_St_492 : LK "java/lang/String" 492 y_St_isLatin1 prog_25_method_154_code 1 (some .boolean) 0 := ⟨co_St_isLatin1, ii_St, Or.inl ml_St_492, by decide +kernel⟩
theorem im_St_isLatin1 : Cond.instanceMethod y_St_isLatin1 ∈ GW := GW_of (tm2 (List.mem_of_getElem? (i := 43) (by decide +kernel))) rfl
theorem sl_St_isLatin1 : Cond.selects "java/lang/String" y_St_isLatin1 y_St_isLatin1 ∈ GW := GW_of (tm2 (List.mem_of_getElem? (i := 44) (by decide +kernel))) rfl
theorem fl_St_9 : Cond.fieldLink "java/lang/String" 9 "java/lang/String" "value" "[B" ∈ GW := GW_of (tm6 (List.mem_of_getElem? (i := 205) (by decide +kernel))) rfl
theorem co_Sl_charAt : Cond.code y_Sl_charAt prog_26_method_2_code 2 (some .char) ∈ GW := GW_of (tm2 (List.mem_of_getElem? (i := 50) (by decide +kernel))) rfl
theorem ii_Sl : Cond.initialized "java/lang/StringLatin1" ∈ GW := GW_of (tm1 (List.mem_of_getElem? (i := 29) (by decide +kernel))) rfl
theorem ml_St_495 : Cond.methodLink "java/lang/String" 495 y_Sl_charAt ∈ GW := GW_of (tm2 (List.mem_of_getElem? (i := 48) (by decide +kernel))) rfl
theorem lk_St_495 : LK "java/lang/String" 495 y_Sl_charAt prog_26_method_2_code 2 (some .char) 2 := ⟨co_Sl_charAt, ii_Sl, Or.inl ml_St_495, by decide +kernel⟩
theorem sc_Sl_charAt : Cond.static y_Sl_charAt ∈ GW := GW_of (tm2 (List.mem_of_getElem? (i := 49) (by decide +kernel))) rfl
theorem co_St_charAt : Cond.code y_St_charAt prog_25_method_56_code 2 (some .char) ∈ GW := GW_of (tm2 (List.mem_of_getElem? (i := 41) (by decide +kernel))) rfl
theorem ml_Wo_31 : Cond.methodLink "PlaceFinder$Word" 31 y_St_charAt ∈ GW := GW_of (tm2 (List.mem_of_getElem? (i := 38) (by decide +kernel))) rfl
theorem lk_Wo_31 : LK "PlaceFinder$Word" 31 y_St_charAt prog_25_method_56_code 2 (some .char) 1 := ⟨co_St_charAt, ii_St, Or.inl ml_Wo_31, by decide +kernel⟩
theorem im_St_charAt : Cond.instanceMethod y_St_charAt ∈ GW := GW_of (tm2 (List.mem_of_getElem? (i := 39) (by decide +kernel))) rfl
theorem sl_St_charAt : Cond.selects "java/lang/String" y_St_charAt y_St_charAt ∈ GW := GW_of (tm2 (List.mem_of_getElem? (i := 40) (by decide +kernel))) rfl
theorem co_Wo_soundClass : Cond.code y_Wo_soundClass prog_11_method_6_code 2 (some .int) ∈ GW := GW_of (tm2 (List.mem_of_getElem? (i := 36) (by decide +kernel))) rfl
theorem ml_Wo_25 : Cond.methodLink "PlaceFinder$Word" 25 y_Wo_soundClass ∈ GW := GW_of (tm2 (List.mem_of_getElem? (i := 33) (by decide +kernel))) rfl
theorem lk_Wo_25 : LK "PlaceFinder$Word" 25 y_Wo_soundClass prog_11_method_6_code 2 (some .int) 1 := ⟨co_Wo_soundClass, ii_Wo, Or.inl ml_Wo_25, by decide +kernel⟩
theorem im_Wo_soundClass : Cond.instanceMethod y_Wo_soundClass ∈ GW := GW_of (tm2 (List.mem_of_getElem? (i := 35) (by decide +kernel))) rfl
theorem sl_Wo_soundClass : Cond.selects "PlaceFinder$Word" y_Wo_soundClass y_Wo_soundClass ∈ GW := GW_of (tm0 (List.mem_of_getElem? (i := 0) (by decide +kernel))) rfl
theorem co_Wo_rank : Cond.code y_Wo_rank prog_11_method_3_code 4 (some .long) ∈ GW := GW_of (tm4 (List.mem_of_getElem? (i := 83) (by decide +kernel))) rfl
theorem ml_P_396 : Cond.methodLink "PlaceFinder" 396 y_Wo_rank ∈ GW := GW_of (tm4 (List.mem_of_getElem? (i := 80) (by decide +kernel))) rfl
theorem lk_P_396 : LK "PlaceFinder" 396 y_Wo_rank prog_11_method_3_code 4 (some .long) 0 := ⟨co_Wo_rank, ii_Wo, Or.inl ml_P_396, by decide +kernel⟩
theorem im_Wo_rank : Cond.instanceMethod y_Wo_rank ∈ GW := GW_of (tm4 (List.mem_of_getElem? (i := 81) (by decide +kernel))) rfl
theorem sl_Wo_rank : Cond.selects "PlaceFinder$Word" y_Wo_rank y_Wo_rank ∈ GW := GW_of (tm4 (List.mem_of_getElem? (i := 82) (by decide +kernel))) rfl
theorem fl_P_403 : Cond.fieldLink "PlaceFinder" 403 "PlaceFinder$Condition" "word" "LPlaceFinder$Word;" ∈ GW := GW_of (tm1 (List.mem_of_getElem? (i := 197) (by decide +kernel))) rfl
theorem fd_P_403 : FD "PlaceFinder" 403 1 4 := ⟨_, _, _, "PlaceFinder$Condition", rfl, by decide, uw_Cn, Or.inl rfl, Or.inl fl_P_403⟩
theorem co_Wo_beginsWith : Cond.code y_Wo_beginsWith prog_11_method_4_code 3 (some .boolean) ∈ GW := GW_of (tm4 (List.mem_of_getElem? (i := 88) (by decide +kernel))) rfl
theorem ml_P_404 : Cond.methodLink "PlaceFinder" 404 y_Wo_beginsWith ∈ GW := GW_of (tm4 (List.mem_of_getElem? (i := 85) (by decide +kernel))) rfl
theorem lk_P_404 : LK "PlaceFinder" 404 y_Wo_beginsWith prog_11_method_4_code 3 (some .boolean) 1 := ⟨co_Wo_beginsWith, ii_Wo, Or.inl ml_P_404, by decide +kernel⟩
theorem im_Wo_beginsWith : Cond.instanceMethod y_Wo_beginsWith ∈ GW := GW_of (tm4 (List.mem_of_getElem? (i := 86) (by decide +kernel))) rfl
theorem sl_Wo_beginsWith : Cond.selects "PlaceFinder$Word" y_Wo_beginsWith y_Wo_beginsWith ∈ GW := GW_of (tm4 (List.mem_of_getElem? (i := 87) (by decide +kernel))) rfl
theorem fd_P_62 : FD "PlaceFinder" 62 11 10 := ⟨_, _, _, "PlaceFinder", rfl, by decide, uw_P, Or.inl rfl, Or.inl fl_P_62⟩
theorem co_Ec_count : Cond.code y_Ec_count prog_4_method_2_code 5 (some .int) ∈ GW := GW_of (tm4 (List.mem_of_getElem? (i := 92) (by decide +kernel))) rfl
theorem ml_P_294 : Cond.methodLink "PlaceFinder" 294 y_Ec_count ∈ GW := GW_of (tm4 (List.mem_of_getElem? (i := 89) (by decide +kernel))) rfl
theorem lk_P_294 : LK "PlaceFinder" 294 y_Ec_count prog_4_method_2_code 5 (some .int) 2 := ⟨co_Ec_count, ii_Ec, Or.inl ml_P_294, by decide +kernel⟩
theorem im_Ec_count : Cond.instanceMethod y_Ec_count ∈ GW := GW_of (tm4 (List.mem_of_getElem? (i := 90) (by decide +kernel))) rfl
theorem sl_Ec_count : Cond.selects "PlaceFinder$ErrorCounter" y_Ec_count y_Ec_count ∈ GW := GW_of (tm4 (List.mem_of_getElem? (i := 91) (by decide +kernel))) rfl
theorem fl_P_353 : Cond.fieldLink "PlaceFinder" 353 "PlaceFinder$Condition" "a" "I" ∈ GW := GW_of (tm1 (List.mem_of_getElem? (i := 191) (by decide +kernel))) rfl
theorem fd_P_353 : FD "PlaceFinder" 353 1 1 := ⟨_, _, _, "PlaceFinder$Condition", rfl, by decide, uw_Cn, Or.inl rfl, Or.inl fl_P_353⟩
theorem co_Wo_soundCode : Cond.code y_Wo_soundCode prog_11_method_5_code 5 (some .int) ∈ GW := GW_of (tm2 (List.mem_of_getElem? (i := 32) (by decide +kernel))) rfl
theorem ml_P_282 : Cond.methodLink "PlaceFinder" 282 y_Wo_soundCode ∈ GW := GW_of (tm2 (List.mem_of_getElem? (i := 29) (by decide +kernel))) rfl
theorem lk_P_282 : LK "PlaceFinder" 282 y_Wo_soundCode prog_11_method_5_code 5 (some .int) 0 := ⟨co_Wo_soundCode, ii_Wo, Or.inl ml_P_282, by decide +kernel⟩
theorem im_Wo_soundCode : Cond.instanceMethod y_Wo_soundCode ∈ GW := GW_of (tm2 (List.mem_of_getElem? (i := 30) (by decide +kernel))) rfl
theorem sl_Wo_soundCode : Cond.selects "PlaceFinder$Word" y_Wo_soundCode y_Wo_soundCode ∈ GW := GW_of (tm2 (List.mem_of_getElem? (i := 31) (by decide +kernel))) rfl
theorem co_Na_isOf : Cond.code y_Na_isOf prog_7_method_2_code 2 (some .boolean) ∈ GW := GW_of (tm4 (List.mem_of_getElem? (i := 75) (by decide +kernel))) rfl
theorem ml_P_389 : Cond.methodLink "PlaceFinder" 389 y_Na_isOf ∈ GW := GW_of (tm4 (List.mem_of_getElem? (i := 72) (by decide +kernel))) rfl
theorem lk_P_389 : LK "PlaceFinder" 389 y_Na_isOf prog_7_method_2_code 2 (some .boolean) 1 := ⟨co_Na_isOf, ii_Na, Or.inl ml_P_389, by decide +kernel⟩
theorem im_Na_isOf : Cond.instanceMethod y_Na_isOf ∈ GW := GW_of (tm4 (List.mem_of_getElem? (i := 73) (by decide +kernel))) rfl
theorem sl_Na_isOf : Cond.selects "PlaceFinder$Name" y_Na_isOf y_Na_isOf ∈ GW := GW_of (tm4 (List.mem_of_getElem? (i := 74) (by decide +kernel))) rfl
theorem fl_P_290 : Cond.fieldLink "PlaceFinder" 290 "PlaceFinder$Name" "word" "LPlaceFinder$Word;" ∈ GW := GW_of (tm3 (List.mem_of_getElem? (i := 120) (by decide +kernel))) rfl
theorem fd_P_290 : FD "PlaceFinder" 290 6 0 := ⟨_, _, _, "PlaceFinder$Name", rfl, by decide, uw_Na, Or.inl rfl, Or.inl fl_P_290⟩
theorem co_P_wordFits : Cond.code y_P_wordFits prog_1_method_36_code 3 (some .boolean) ∈ GW := GW_of (tm4 (List.mem_of_getElem? (i := 79) (by decide +kernel))) rfl
theorem ml_P_392 : Cond.methodLink "PlaceFinder" 392 y_P_wordFits ∈ GW := GW_of (tm4 (List.mem_of_getElem? (i := 76) (by decide +kernel))) rfl
theorem lk_P_392 : LK "PlaceFinder" 392 y_P_wordFits prog_1_method_36_code 3 (some .boolean) 2 := ⟨co_P_wordFits, ii_P, Or.inl ml_P_392, by decide +kernel⟩
theorem im_P_wordFits : Cond.instanceMethod y_P_wordFits ∈ GW := GW_of (tm4 (List.mem_of_getElem? (i := 78) (by decide +kernel))) rfl
theorem sl_P_wordFits : Cond.selects "PlaceFinder" y_P_wordFits y_P_wordFits ∈ GW := GW_of (tm0 (List.mem_of_getElem? (i := 18) (by decide +kernel))) rfl
theorem co_Ma_min2 : Cond.code y_Ma_min2 prog_23_method_70_code 4 (some .long) ∈ GW := GW_of (tm4 (List.mem_of_getElem? (i := 100) (by decide +kernel))) rfl
theorem ml_P_400 : Cond.methodLink "PlaceFinder" 400 y_Ma_min2 ∈ GW := GW_of (tm4 (List.mem_of_getElem? (i := 98) (by decide +kernel))) rfl
theorem lk_P_400 : LK "PlaceFinder" 400 y_Ma_min2 prog_23_method_70_code 4 (some .long) 2 := ⟨co_Ma_min2, ii_Ma, Or.inl ml_P_400, by decide +kernel⟩
theorem sc_Ma_min2 : Cond.static y_Ma_min2 ∈ GW := GW_of (tm4 (List.mem_of_getElem? (i := 99) (by decide +kernel))) rfl
theorem cn_P_383 : Cond.constantLong "PlaceFinder" 383 1152921504606846976 ∈ GW := GW_of (tm4 (List.mem_of_getElem? (i := 71) (by decide +kernel))) rfl
theorem fl_P_246 : Cond.fieldLink "PlaceFinder" 246 "PlaceFinder$Place" "kind" "I" ∈ GW := GW_of (tm2 (List.mem_of_getElem? (i := 191) (by decide +kernel))) rfl
theorem fd_P_246 : FD "PlaceFinder" 246 7 1 := ⟨_, _, _, "PlaceFinder$Place", rfl, by decide, uw_Pl, Or.inl rfl, Or.inl fl_P_246⟩
theorem co_P_liesInPlace : Cond.code y_P_liesInPlace prog_1_method_33_code 6 (some .boolean) ∈ GW := GW_of (tm4 (List.mem_of_getElem? (i := 16) (by decide +kernel))) rfl
theorem ml_P_356 : Cond.methodLink "PlaceFinder" 356 y_P_liesInPlace ∈ GW := GW_of (tm4 (List.mem_of_getElem? (i := 13) (by decide +kernel))) rfl
theorem lk_P_356 : LK "PlaceFinder" 356 y_P_liesInPlace prog_1_method_33_code 6 (some .boolean) 3 := ⟨co_P_liesInPlace, ii_P, Or.inl ml_P_356, by decide +kernel⟩
theorem im_P_liesInPlace : Cond.instanceMethod y_P_liesInPlace ∈ GW := GW_of (tm4 (List.mem_of_getElem? (i := 15) (by decide +kernel))) rfl
theorem sl_P_liesInPlace : Cond.selects "PlaceFinder" y_P_liesInPlace y_P_liesInPlace ∈ GW := GW_of (tm0 (List.mem_of_getElem? (i := 13) (by decide +kernel))) rfl
theorem co_P_isBelow : Cond.code y_P_isBelow prog_1_method_34_code 5 (some .boolean) ∈ GW := GW_of (tm4 (List.mem_of_getElem? (i := 33) (by decide +kernel))) rfl
theorem ml_P_360 : Cond.methodLink "PlaceFinder" 360 y_P_isBelow ∈ GW := GW_of (tm4 (List.mem_of_getElem? (i := 31) (by decide +kernel))) rfl
theorem lk_P_360 : LK "PlaceFinder" 360 y_P_isBelow prog_1_method_34_code 5 (some .boolean) 3 := ⟨co_P_isBelow, ii_P, Or.inl ml_P_360, by decide +kernel⟩
theorem sc_P_isBelow : Cond.static y_P_isBelow ∈ GW := GW_of (tm4 (List.mem_of_getElem? (i := 32) (by decide +kernel))) rfl
theorem fl_P_364 : Cond.fieldLink "PlaceFinder" 364 "PlaceFinder$Condition" "b" "I" ∈ GW := GW_of (tm1 (List.mem_of_getElem? (i := 193) (by decide +kernel))) rfl
theorem fd_P_364 : FD "PlaceFinder" 364 1 2 := ⟨_, _, _, "PlaceFinder$Condition", rfl, by decide, uw_Cn, Or.inl rfl, Or.inl fl_P_364⟩
theorem co_Co_squareTo : Cond.code y_Co_squareTo prog_3_method_6_code 5 (some .int) ∈ GW := GW_of (tm4 (List.mem_of_getElem? (i := 41) (by decide +kernel))) rfl
theorem ml_P_367 : Cond.methodLink "PlaceFinder" 367 y_Co_squareTo ∈ GW := GW_of (tm4 (List.mem_of_getElem? (i := 38) (by decide +kernel))) rfl
theorem lk_P_367 : LK "PlaceFinder" 367 y_Co_squareTo prog_3_method_6_code 5 (some .int) 2 := ⟨co_Co_squareTo, ii_Co, Or.inl ml_P_367, by decide +kernel⟩
theorem im_Co_squareTo : Cond.instanceMethod y_Co_squareTo ∈ GW := GW_of (tm4 (List.mem_of_getElem? (i := 39) (by decide +kernel))) rfl
theorem sl_Co_squareTo : Cond.selects "PlaceFinder$Corners" y_Co_squareTo y_Co_squareTo ∈ GW := GW_of (tm4 (List.mem_of_getElem? (i := 40) (by decide +kernel))) rfl
theorem fl_P_369 : Cond.fieldLink "PlaceFinder" 369 "PlaceFinder$Condition" "c" "I" ∈ GW := GW_of (tm1 (List.mem_of_getElem? (i := 195) (by decide +kernel))) rfl
theorem fd_P_369 : FD "PlaceFinder" 369 1 3 := ⟨_, _, _, "PlaceFinder$Condition", rfl, by decide, uw_Cn, Or.inl rfl, Or.inl fl_P_369⟩
theorem fd_P_69 : FD "PlaceFinder" 69 11 11 := ⟨_, _, _, "PlaceFinder", rfl, by decide, uw_P, Or.inl rfl, Or.inl fl_P_69⟩
theorem co_Rs_start : Cond.code y_Rs_start prog_9_method_2_code 5 none ∈ GW := GW_of (tm4 (List.mem_of_getElem? (i := 50) (by decide +kernel))) rfl
theorem ml_P_372 : Cond.methodLink "PlaceFinder" 372 y_Rs_start ∈ GW := GW_of (tm4 (List.mem_of_getElem? (i := 47) (by decide +kernel))) rfl
theorem lk_P_372 : LK "PlaceFinder" 372 y_Rs_start prog_9_method_2_code 5 none 2 := ⟨co_Rs_start, ii_Rs, Or.inl ml_P_372, by decide +kernel⟩
theorem im_Rs_start : Cond.instanceMethod y_Rs_start ∈ GW := GW_of (tm4 (List.mem_of_getElem? (i := 48) (by decide +kernel))) rfl
theorem sl_Rs_start : Cond.selects "PlaceFinder$RouteSearch" y_Rs_start y_Rs_start ∈ GW := GW_of (tm4 (List.mem_of_getElem? (i := 49) (by decide +kernel))) rfl
theorem co_Rs_isWithin : Cond.code y_Rs_isWithin prog_9_method_5_code 4 (some .boolean) ∈ GW := GW_of (tm4 (List.mem_of_getElem? (i := 66) (by decide +kernel))) rfl
theorem ml_P_376 : Cond.methodLink "PlaceFinder" 376 y_Rs_isWithin ∈ GW := GW_of (tm4 (List.mem_of_getElem? (i := 63) (by decide +kernel))) rfl
theorem lk_P_376 : LK "PlaceFinder" 376 y_Rs_isWithin prog_9_method_5_code 4 (some .boolean) 1 := ⟨co_Rs_isWithin, ii_Rs, Or.inl ml_P_376, by decide +kernel⟩
theorem im_Rs_isWithin : Cond.instanceMethod y_Rs_isWithin ∈ GW := GW_of (tm4 (List.mem_of_getElem? (i := 64) (by decide +kernel))) rfl
theorem sl_Rs_isWithin : Cond.selects "PlaceFinder$RouteSearch" y_Rs_isWithin y_Rs_isWithin ∈ GW := GW_of (tm4 (List.mem_of_getElem? (i := 65) (by decide +kernel))) rfl
theorem co_P_leastName : Cond.code y_P_leastName prog_1_method_35_code 8 (some .long) ∈ GW := GW_of (tm4 (List.mem_of_getElem? (i := 70) (by decide +kernel))) rfl
theorem ml_P_379 : Cond.methodLink "PlaceFinder" 379 y_P_leastName ∈ GW := GW_of (tm4 (List.mem_of_getElem? (i := 67) (by decide +kernel))) rfl
theorem lk_P_379 : LK "PlaceFinder" 379 y_P_leastName prog_1_method_35_code 8 (some .long) 3 := ⟨co_P_leastName, ii_P, Or.inl ml_P_379, by decide +kernel⟩
theorem im_P_leastName : Cond.instanceMethod y_P_leastName ∈ GW := GW_of (tm4 (List.mem_of_getElem? (i := 69) (by decide +kernel))) rfl
theorem sl_P_leastName : Cond.selects "PlaceFinder" y_P_leastName y_P_leastName ∈ GW := GW_of (tm0 (List.mem_of_getElem? (i := 17) (by decide +kernel))) rfl
theorem co_P_fits : Cond.code y_P_fits prog_1_method_32_code 6 (some .boolean) ∈ GW := GW_of (tm4 (List.mem_of_getElem? (i := 12) (by decide +kernel))) rfl
theorem ml_P_348 : Cond.methodLink "PlaceFinder" 348 y_P_fits ∈ GW := GW_of (tm4 (List.mem_of_getElem? (i := 9) (by decide +kernel))) rfl
theorem lk_P_348 : LK "PlaceFinder" 348 y_P_fits prog_1_method_32_code 6 (some .boolean) 5 := ⟨co_P_fits, ii_P, Or.inl ml_P_348, by decide +kernel⟩
theorem im_P_fits : Cond.instanceMethod y_P_fits ∈ GW := GW_of (tm4 (List.mem_of_getElem? (i := 11) (by decide +kernel))) rfl
theorem sl_P_fits : Cond.selects "PlaceFinder" y_P_fits y_P_fits ∈ GW := GW_of (tm0 (List.mem_of_getElem? (i := 12) (by decide +kernel))) rfl
theorem ml_Pl_52 : Cond.methodLink "PlaceFinder$Place" 52 y_Pl_shapeOn ∈ GW := GW_of (tm4 (List.mem_of_getElem? (i := 109) (by decide +kernel))) rfl
theorem lk_Pl_52 : LK "PlaceFinder$Place" 52 y_Pl_shapeOn prog_8_method_4_code 4 (some (.object "PlaceFinder$Corners")) 1 := ⟨co_Pl_shapeOn, ii_Pl, Or.inl ml_Pl_52, by decide +kernel⟩
theorem ml_Pl_61 : Cond.methodLink "PlaceFinder$Place" 61 y_Co_squareTo ∈ GW := GW_of (tm4 (List.mem_of_getElem? (i := 111) (by decide +kernel))) rfl
theorem lk_Pl_61 : LK "PlaceFinder$Place" 61 y_Co_squareTo prog_3_method_6_code 5 (some .int) 2 := ⟨co_Co_squareTo, ii_Co, Or.inl ml_Pl_61, by decide +kernel⟩
theorem cn_Pl_60 : Cond.constant "PlaceFinder$Place" 60 1073741824 ∈ GW := GW_of (tm4 (List.mem_of_getElem? (i := 110) (by decide +kernel))) rfl
theorem fd_P_32 : FD "PlaceFinder" 32 11 4 := ⟨_, _, _, "PlaceFinder", rfl, by decide, uw_P, Or.inl rfl, Or.inl fl_P_32⟩
theorem co_Rs_positionKey : Cond.code y_Rs_positionKey prog_9_method_6_code 1 (some .long) ∈ GW := GW_of (tm4 (List.mem_of_getElem? (i := 119) (by decide +kernel))) rfl
theorem ml_P_412 : Cond.methodLink "PlaceFinder" 412 y_Rs_positionKey ∈ GW := GW_of (tm4 (List.mem_of_getElem? (i := 116) (by decide +kernel))) rfl
theorem lk_P_412 : LK "PlaceFinder" 412 y_Rs_positionKey prog_9_method_6_code 1 (some .long) 0 := ⟨co_Rs_positionKey, ii_Rs, Or.inl ml_P_412, by decide +kernel⟩
theorem im_Rs_positionKey : Cond.instanceMethod y_Rs_positionKey ∈ GW := GW_of (tm4 (List.mem_of_getElem? (i := 117) (by decide +kernel))) rfl
theorem sl_Rs_positionKey : Cond.selects "PlaceFinder$RouteSearch" y_Rs_positionKey y_Rs_positionKey ∈ GW := GW_of (tm4 (List.mem_of_getElem? (i := 118) (by decide +kernel))) rfl
theorem co_Pl_squareTo : Cond.code y_Pl_squareTo prog_8_method_7_code 5 (some .int) ∈ GW := GW_of (tm4 (List.mem_of_getElem? (i := 108) (by decide +kernel))) rfl
theorem ml_P_249 : Cond.methodLink "PlaceFinder" 249 y_Pl_squareTo ∈ GW := GW_of (tm4 (List.mem_of_getElem? (i := 105) (by decide +kernel))) rfl
theorem lk_P_249 : LK "PlaceFinder" 249 y_Pl_squareTo prog_8_method_7_code 5 (some .int) 3 := ⟨co_Pl_squareTo, ii_Pl, Or.inl ml_P_249, by decide +kernel⟩
theorem im_Pl_squareTo : Cond.instanceMethod y_Pl_squareTo ∈ GW := GW_of (tm4 (List.mem_of_getElem? (i := 106) (by decide +kernel))) rfl
theorem sl_Pl_squareTo : Cond.selects "PlaceFinder$Place" y_Pl_squareTo y_Pl_squareTo ∈ GW := GW_of (tm4 (List.mem_of_getElem? (i := 107) (by decide +kernel))) rfl
theorem co_P_routeKey : Cond.code y_P_routeKey prog_1_method_40_code 2 (some .long) ∈ GW := GW_of (tm4 (List.mem_of_getElem? (i := 115) (by decide +kernel))) rfl
theorem ml_P_408 : Cond.methodLink "PlaceFinder" 408 y_P_routeKey ∈ GW := GW_of (tm4 (List.mem_of_getElem? (i := 112) (by decide +kernel))) rfl
theorem lk_P_408 : LK "PlaceFinder" 408 y_P_routeKey prog_1_method_40_code 2 (some .long) 1 := ⟨co_P_routeKey, ii_P, Or.inl ml_P_408, by decide +kernel⟩
theorem im_P_routeKey : Cond.instanceMethod y_P_routeKey ∈ GW := GW_of (tm4 (List.mem_of_getElem? (i := 114) (by decide +kernel))) rfl
theorem sl_P_routeKey : Cond.selects "PlaceFinder" y_P_routeKey y_P_routeKey ∈ GW := GW_of (tm0 (List.mem_of_getElem? (i := 21) (by decide +kernel))) rfl
theorem fd_Hi_15 : FD "PlaceFinder$Hits" 15 4 1 := ⟨_, _, _, "PlaceFinder$Hits", rfl, by decide, uw_Hi, Or.inl rfl, Or.inl fl_Hi_15⟩
theorem fd_Hi_9 : FD "PlaceFinder$Hits" 9 4 0 := ⟨_, _, _, "PlaceFinder$Hits", rfl, by decide, uw_Hi, Or.inl rfl, Or.inl fl_Hi_9⟩
theorem fd_Hi_19 : FD "PlaceFinder$Hits" 19 4 2 := ⟨_, _, _, "PlaceFinder$Hits", rfl, by decide, uw_Hi, Or.inl rfl, Or.inl fl_Hi_19⟩
theorem tf_P_91_211 : TF "PlaceFinder" 91 211 95 "java/lang/IllegalArgumentException" exU := ⟨cl_P_91, ib_ex0, ii_ex0, ⟨"no such day or order", List.mem_of_getElem? (i := 16) (by decide +kernel)⟩, by decide +kernel, by decide +kernel, ow_P_95⟩
theorem fd_P_55 : FD "PlaceFinder" 55 11 9 := ⟨_, _, _, "PlaceFinder", rfl, by decide, uw_P, Or.inl rfl, Or.inl fl_P_55⟩
theorem fl_P_238 : Cond.fieldLink "PlaceFinder" 238 "PlaceFinder$Hits" "count" "I" ∈ GW := GW_of (tm1 (List.mem_of_getElem? (i := 117) (by decide +kernel))) rfl
theorem fd_P_238 : FD "PlaceFinder" 238 4 2 := ⟨_, _, _, "PlaceFinder$Hits", rfl, by decide, uw_Hi, Or.inl rfl, Or.inl fl_P_238⟩
theorem co_P_meets : Cond.code y_P_meets prog_1_method_31_code 7 (some .boolean) ∈ GW := GW_of (tm4 (List.mem_of_getElem? (i := 3) (by decide +kernel))) rfl
theorem ml_P_227 : Cond.methodLink "PlaceFinder" 227 y_P_meets ∈ GW := GW_of (tm4 (List.mem_of_getElem? (i := 0) (by decide +kernel))) rfl
theorem lk_P_227 : LK "PlaceFinder" 227 y_P_meets prog_1_method_31_code 7 (some .boolean) 4 := ⟨co_P_meets, ii_P, Or.inl ml_P_227, by decide +kernel⟩
theorem im_P_meets : Cond.instanceMethod y_P_meets ∈ GW := GW_of (tm4 (List.mem_of_getElem? (i := 2) (by decide +kernel))) rfl
theorem sl_P_meets : Cond.selects "PlaceFinder" y_P_meets y_P_meets ∈ GW := GW_of (tm0 (List.mem_of_getElem? (i := 11) (by decide +kernel))) rfl
theorem co_P_orderKey : Cond.code y_P_orderKey prog_1_method_39_code 6 (some .long) ∈ GW := GW_of (tm4 (List.mem_of_getElem? (i := 104) (by decide +kernel))) rfl
theorem ml_P_231 : Cond.methodLink "PlaceFinder" 231 y_P_orderKey ∈ GW := GW_of (tm4 (List.mem_of_getElem? (i := 101) (by decide +kernel))) rfl
theorem lk_P_231 : LK "PlaceFinder" 231 y_P_orderKey prog_1_method_39_code 6 (some .long) 5 := ⟨co_P_orderKey, ii_P, Or.inl ml_P_231, by decide +kernel⟩
theorem im_P_orderKey : Cond.instanceMethod y_P_orderKey ∈ GW := GW_of (tm4 (List.mem_of_getElem? (i := 103) (by decide +kernel))) rfl
theorem sl_P_orderKey : Cond.selects "PlaceFinder" y_P_orderKey y_P_orderKey ∈ GW := GW_of (tm0 (List.mem_of_getElem? (i := 20) (by decide +kernel))) rfl
theorem co_Hi_add : Cond.code y_Hi_add prog_5_method_3_code 5 none ∈ GW := GW_of (tm4 (List.mem_of_getElem? (i := 123) (by decide +kernel))) rfl
theorem ml_P_235 : Cond.methodLink "PlaceFinder" 235 y_Hi_add ∈ GW := GW_of (tm4 (List.mem_of_getElem? (i := 120) (by decide +kernel))) rfl
theorem lk_P_235 : LK "PlaceFinder" 235 y_Hi_add prog_5_method_3_code 5 none 2 := ⟨co_Hi_add, ii_Hi, Or.inl ml_P_235, by decide +kernel⟩
theorem im_Hi_add : Cond.instanceMethod y_Hi_add ∈ GW := GW_of (tm4 (List.mem_of_getElem? (i := 121) (by decide +kernel))) rfl
theorem sl_Hi_add : Cond.selects "PlaceFinder$Hits" y_Hi_add y_Hi_add ∈ GW := GW_of (tm4 (List.mem_of_getElem? (i := 122) (by decide +kernel))) rfl
theorem co_P_firstNameCondition : Cond.code y_P_firstNameCondition prog_1_method_37_code 2 (some (.object "PlaceFinder$Condition")) ∈ GW := GW_of (tm3 (List.mem_of_getElem? (i := 231) (by decide +kernel))) rfl
theorem ml_P_213 : Cond.methodLink "PlaceFinder" 213 y_P_firstNameCondition ∈ GW := GW_of (tm3 (List.mem_of_getElem? (i := 228) (by decide +kernel))) rfl
theorem lk_P_213 : LK "PlaceFinder" 213 y_P_firstNameCondition prog_1_method_37_code 2 (some (.object "PlaceFinder$Condition")) 0 := ⟨co_P_firstNameCondition, ii_P, Or.inl ml_P_213, by decide +kernel⟩
theorem im_P_firstNameCondition : Cond.instanceMethod y_P_firstNameCondition ∈ GW := GW_of (tm3 (List.mem_of_getElem? (i := 230) (by decide +kernel))) rfl
theorem sl_P_firstNameCondition : Cond.selects "PlaceFinder" y_P_firstNameCondition y_P_firstNameCondition ∈ GW := GW_of (tm0 (List.mem_of_getElem? (i := 9) (by decide +kernel))) rfl
theorem co_P_firstAround : Cond.code y_P_firstAround prog_1_method_38_code 2 (some (.object "PlaceFinder$Condition")) ∈ GW := GW_of (tm3 (List.mem_of_getElem? (i := 235) (by decide +kernel))) rfl
theorem ml_P_217 : Cond.methodLink "PlaceFinder" 217 y_P_firstAround ∈ GW := GW_of (tm3 (List.mem_of_getElem? (i := 232) (by decide +kernel))) rfl
theorem lk_P_217 : LK "PlaceFinder" 217 y_P_firstAround prog_1_method_38_code 2 (some (.object "PlaceFinder$Condition")) 0 := ⟨co_P_firstAround, ii_P, Or.inl ml_P_217, by decide +kernel⟩
theorem im_P_firstAround : Cond.instanceMethod y_P_firstAround ∈ GW := GW_of (tm3 (List.mem_of_getElem? (i := 234) (by decide +kernel))) rfl
theorem sl_P_firstAround : Cond.selects "PlaceFinder" y_P_firstAround y_P_firstAround ∈ GW := GW_of (tm0 (List.mem_of_getElem? (i := 10) (by decide +kernel))) rfl
theorem co_Hi_empty : Cond.code y_Hi_empty prog_5_method_2_code 1 none ∈ GW := GW_of (tm3 (List.mem_of_getElem? (i := 239) (by decide +kernel))) rfl
theorem ml_P_220 : Cond.methodLink "PlaceFinder" 220 y_Hi_empty ∈ GW := GW_of (tm3 (List.mem_of_getElem? (i := 236) (by decide +kernel))) rfl
theorem lk_P_220 : LK "PlaceFinder" 220 y_Hi_empty prog_5_method_2_code 1 none 0 := ⟨co_Hi_empty, ii_Hi, Or.inl ml_P_220, by decide +kernel⟩
theorem im_Hi_empty : Cond.instanceMethod y_Hi_empty ∈ GW := GW_of (tm3 (List.mem_of_getElem? (i := 237) (by decide +kernel))) rfl
theorem sl_Hi_empty : Cond.selects "PlaceFinder$Hits" y_Hi_empty y_Hi_empty ∈ GW := GW_of (tm3 (List.mem_of_getElem? (i := 238) (by decide +kernel))) rfl
theorem ml_Pl_56 : Cond.methodLink "PlaceFinder$Place" 56 y_Pl_isRemovedOn ∈ GW := GW_of (tm4 (List.mem_of_getElem? (i := 136) (by decide +kernel))) rfl
theorem lk_Pl_56 : LK "PlaceFinder$Place" 56 y_Pl_isRemovedOn prog_8_method_5_code 2 (some .boolean) 1 := ⟨co_Pl_isRemovedOn, ii_Pl, Or.inl ml_Pl_56, by decide +kernel⟩
theorem ml_Hi_23 : Cond.methodLink "PlaceFinder$Hits" 23 y_Ma_min ∈ GW := GW_of (tm4 (List.mem_of_getElem? (i := 141) (by decide +kernel))) rfl
theorem lk_Hi_23 : LK "PlaceFinder$Hits" 23 y_Ma_min prog_23_method_69_code 2 (some .int) 2 := ⟨co_Ma_min, ii_Ma, Or.inl ml_Hi_23, by decide +kernel⟩
theorem tf_P_91_241 : TF "PlaceFinder" 91 241 95 "java/lang/IllegalArgumentException" exU := ⟨cl_P_91, ib_ex0, ii_ex0, ⟨"no such coordinates, n, kind or day", List.mem_of_getElem? (i := 17) (by decide +kernel)⟩, by decide +kernel, by decide +kernel, ow_P_95⟩
theorem co_Hi_keepFirst : Cond.code y_Hi_keepFirst prog_5_method_4_code 2 none ∈ GW := GW_of (tm4 (List.mem_of_getElem? (i := 140) (by decide +kernel))) rfl
theorem ml_P_253 : Cond.methodLink "PlaceFinder" 253 y_Hi_keepFirst ∈ GW := GW_of (tm4 (List.mem_of_getElem? (i := 137) (by decide +kernel))) rfl
theorem lk_P_253 : LK "PlaceFinder" 253 y_Hi_keepFirst prog_5_method_4_code 2 none 1 := ⟨co_Hi_keepFirst, ii_Hi, Or.inl ml_P_253, by decide +kernel⟩
theorem im_Hi_keepFirst : Cond.instanceMethod y_Hi_keepFirst ∈ GW := GW_of (tm4 (List.mem_of_getElem? (i := 138) (by decide +kernel))) rfl
theorem sl_Hi_keepFirst : Cond.selects "PlaceFinder$Hits" y_Hi_keepFirst y_Hi_keepFirst ∈ GW := GW_of (tm4 (List.mem_of_getElem? (i := 139) (by decide +kernel))) rfl
theorem co_Pl_isThere : Cond.code y_Pl_isThere prog_8_method_6_code 2 (some .boolean) ∈ GW := GW_of (tm4 (List.mem_of_getElem? (i := 135) (by decide +kernel))) rfl
theorem ml_P_243 : Cond.methodLink "PlaceFinder" 243 y_Pl_isThere ∈ GW := GW_of (tm4 (List.mem_of_getElem? (i := 132) (by decide +kernel))) rfl
theorem lk_P_243 : LK "PlaceFinder" 243 y_Pl_isThere prog_8_method_6_code 2 (some .boolean) 1 := ⟨co_Pl_isThere, ii_Pl, Or.inl ml_P_243, by decide +kernel⟩
theorem im_Pl_isThere : Cond.instanceMethod y_Pl_isThere ∈ GW := GW_of (tm4 (List.mem_of_getElem? (i := 133) (by decide +kernel))) rfl
theorem sl_Pl_isThere : Cond.selects "PlaceFinder$Place" y_Pl_isThere y_Pl_isThere ∈ GW := GW_of (tm4 (List.mem_of_getElem? (i := 134) (by decide +kernel))) rfl
theorem cl_P_257 : Cond.classLink "PlaceFinder" 257 "java/lang/IndexOutOfBoundsException" ∈ GW := GW_of (tm4 (List.mem_of_getElem? (i := 150) (by decide +kernel))) rfl
theorem ib_ex3 : Cond.instantiable "java/lang/IndexOutOfBoundsException" 6 ∈ GW := GW_of (tm4 (List.mem_of_getElem? (i := 151) (by decide +kernel))) rfl
theorem ii_ex3 : Cond.initialized "java/lang/IndexOutOfBoundsException" ∈ GW := GW_of (tm1 (List.mem_of_getElem? (i := 31) (by decide +kernel))) rfl
theorem ow_P_261 : (Bundle.ownAtoms "PlaceFinder" 261 "java/lang/IndexOutOfBoundsException" exU).all owOK = true := by decide +kernel
theorem tf_P_257_259 : TF "PlaceFinder" 257 259 261 "java/lang/IndexOutOfBoundsException" exU := ⟨cl_P_257, ib_ex3, ii_ex3, ⟨"no such hit", List.mem_of_getElem? (i := 18) (by decide +kernel)⟩, by decide +kernel, by decide +kernel, ow_P_261⟩
theorem fl_P_262 : Cond.fieldLink "PlaceFinder" 262 "PlaceFinder$Hits" "numbers" "[I" ∈ GW := GW_of (tm1 (List.mem_of_getElem? (i := 114) (by decide +kernel))) rfl
theorem fd_P_262 : FD "PlaceFinder" 262 4 0 := ⟨_, _, _, "PlaceFinder$Hits", rfl, by decide, uw_Hi, Or.inl rfl, Or.inl fl_P_262⟩
theorem tf_P_91_265 : TF "PlaceFinder" 91 265 95 "java/lang/IllegalArgumentException" exU := ⟨cl_P_91, ib_ex0, ii_ex0, ⟨"no such place or day, or i is below 0", List.mem_of_getElem? (i := 19) (by decide +kernel)⟩, by decide +kernel, by decide +kernel, ow_P_95⟩
theorem tf_P_91_273 : TF "PlaceFinder" 91 273 95 "java/lang/IllegalArgumentException" exU := ⟨cl_P_91, ib_ex0, ii_ex0, ⟨"no such place, coordinates or day", List.mem_of_getElem? (i := 20) (by decide +kernel)⟩, by decide +kernel, by decide +kernel, ow_P_95⟩
theorem ml_P_279 : Cond.methodLink "PlaceFinder" 279 y_Co_hasInside ∈ GW := GW_of (tm4 (List.mem_of_getElem? (i := 182) (by decide +kernel))) rfl
theorem lk_P_279 : LK "PlaceFinder" 279 y_Co_hasInside prog_3_method_9_code 8 (some .boolean) 2 := ⟨co_Co_hasInside, ii_Co, Or.inl ml_P_279, by decide +kernel⟩
theorem cl_P_285 : Cond.classLink "PlaceFinder" 285 "java/util/NoSuchElementException" ∈ GW := GW_of (tm4 (List.mem_of_getElem? (i := 191) (by decide +kernel))) rfl
theorem ib_ex4 : Cond.instantiable "java/util/NoSuchElementException" 6 ∈ GW := GW_of (tm4 (List.mem_of_getElem? (i := 192) (by decide +kernel))) rfl
theorem ii_ex4 : Cond.initialized "java/util/NoSuchElementException" ∈ GW := GW_of (tm1 (List.mem_of_getElem? (i := 32) (by decide +kernel))) rfl
theorem ow_P_289 : (nsAt "PlaceFinder" 289 "java/util/NoSuchElementException" "java/lang/RuntimeException" 13 b13 ["java/lang/Exception"]).all owOK = true := by decide +kernel
theorem tf_P_285_287 : TF13 "PlaceFinder" 285 287 289 "java/util/NoSuchElementException" ["java/lang/Exception"] := ⟨cl_P_285, ib_ex4, ii_ex4, ⟨"no such place or name, or nothing is typed", List.mem_of_getElem? (i := 21) (by decide +kernel)⟩, by decide +kernel, by decide +kernel, ow_P_289⟩
theorem ml_Wa_1 : Cond.methodLink "PlaceFinder$Watch" 1 objectInit ∈ GW := GW_of (tm4 (List.mem_of_getElem? (i := 219) (by decide +kernel))) rfl
theorem oi_Wa_1 : OI "PlaceFinder$Watch" 1 := ⟨ml_Wa_1, im_Obj, co_Obj⟩
theorem cl_Wa_7 : Cond.classLink "PlaceFinder$Watch" 7 "java/util/ArrayList" ∈ GW := GW_of (tm4 (List.mem_of_getElem? (i := 220) (by decide +kernel))) rfl
theorem nd_Wa_7 : ND "PlaceFinder$Watch" 7 0 3 [.null, .int 0, .int 0] := ⟨_, _, t_Al, rfl, uw_Al, t_Al_ok, cl_Wa_7, ib_Al, ii_Al, by decide +kernel⟩
theorem ml_Wa_9 : Cond.methodLink "PlaceFinder$Watch" 9 y_Al_init ∈ GW := GW_of (tm4 (List.mem_of_getElem? (i := 221) (by decide +kernel))) rfl
theorem lk_Wa_9 : LK "PlaceFinder$Watch" 9 y_Al_init prog_33_method_2_code 1 none 0 := ⟨co_Al_init, ii_Al, Or.inl ml_Wa_9, by decide +kernel⟩
theorem fl_Wa_10 : Cond.fieldLink "PlaceFinder$Watch" 10 "PlaceFinder$Watch" "conditions" "Ljava/util/ArrayList;" ∈ GW := GW_of (tm4 (List.mem_of_getElem? (i := 222) (by decide +kernel))) rfl
theorem fp_Wa_10 : FP "PlaceFinder$Watch" 10 9 0 (.object "java/util/ArrayList") true := ⟨_, _, _, "PlaceFinder$Watch", t_Wa, rfl, by decide, uw_Wa, Or.inl rfl, t_Wa_ok, n_Wa, rfl, rfl, Or.inl ⟨fl_Wa_10, fun _ => rfl⟩⟩
theorem fl_Wa_16 : Cond.fieldLink "PlaceFinder$Watch" 16 "PlaceFinder$Watch" "toldPlaces" "I" ∈ GW := GW_of (tm4 (List.mem_of_getElem? (i := 228) (by decide +kernel))) rfl
theorem fp_Wa_16 : FP "PlaceFinder$Watch" 16 9 3 .int false := ⟨_, _, _, "PlaceFinder$Watch", t_Wa, rfl, by decide, uw_Wa, Or.inl rfl, t_Wa_ok, n_Wa, rfl, rfl, Or.inl ⟨fl_Wa_16, fun q => nomatch q⟩⟩
theorem fl_Wa_20 : Cond.fieldLink "PlaceFinder$Watch" 20 "PlaceFinder$Watch" "route" "LPlaceFinder$Corners;" ∈ GW := GW_of (tm4 (List.mem_of_getElem? (i := 224) (by decide +kernel))) rfl
theorem fp_Wa_20 : FP "PlaceFinder$Watch" 20 9 1 (.object "PlaceFinder$Corners") true := ⟨_, _, _, "PlaceFinder$Watch", t_Wa, rfl, by decide, uw_Wa, Or.inl rfl, t_Wa_ok, n_Wa, rfl, rfl, Or.inl ⟨fl_Wa_20, fun _ => rfl⟩⟩
theorem fl_Wa_24 : Cond.fieldLink "PlaceFinder$Watch" 24 "PlaceFinder$Watch" "day" "I" ∈ GW := GW_of (tm4 (List.mem_of_getElem? (i := 226) (by decide +kernel))) rfl
theorem fp_Wa_24 : FP "PlaceFinder$Watch" 24 9 2 .int true := ⟨_, _, _, "PlaceFinder$Watch", t_Wa, rfl, by decide, uw_Wa, Or.inl rfl, t_Wa_ok, n_Wa, rfl, rfl, Or.inl ⟨fl_Wa_24, fun _ => rfl⟩⟩
theorem tf_P_91_297 : TF "PlaceFinder" 91 297 95 "java/lang/IllegalArgumentException" exU := ⟨cl_P_91, ib_ex0, ii_ex0, ⟨"no such watch or day", List.mem_of_getElem? (i := 22) (by decide +kernel)⟩, by decide +kernel, by decide +kernel, ow_P_95⟩
theorem fd_P_48 : FD "PlaceFinder" 48 11 8 := ⟨_, _, _, "PlaceFinder", rfl, by decide, uw_P, Or.inl rfl, Or.inl fl_P_48⟩
theorem as_P_watch_87 : ∀ ci ∈ ([9] : List Nat), AS "PlaceFinder$Watch" ci := List.forall_mem_cons.mpr ⟨⟨_, _, _, rfl, Or.inl rfl⟩, fun _ h => nomatch h⟩
theorem fl_P_301 : Cond.fieldLink "PlaceFinder" 301 "PlaceFinder$Watch" "conditions" "Ljava/util/ArrayList;" ∈ GW := GW_of (tm4 (List.mem_of_getElem? (i := 223) (by decide +kernel))) rfl
theorem fd_P_301 : FD "PlaceFinder" 301 9 0 := ⟨_, _, _, "PlaceFinder$Watch", rfl, by decide, uw_Wa, Or.inl rfl, Or.inl fl_P_301⟩
theorem ib_Wa : Cond.instantiable "PlaceFinder$Watch" 4 ∈ GW := GW_of (tm4 (List.mem_of_getElem? (i := 215) (by decide +kernel))) rfl
theorem ii_Wa : Cond.initialized "PlaceFinder$Watch" ∈ GW := GW_of (tm1 (List.mem_of_getElem? (i := 33) (by decide +kernel))) rfl
theorem nd_P_46 : ND "PlaceFinder" 46 9 4 [.null, .null, .int 0, .int 0] := ⟨_, _, t_Wa, rfl, uw_Wa, t_Wa_ok, cl_P_46, ib_Wa, ii_Wa, by decide +kernel⟩
theorem co_Wa_init : Cond.code y_Wa_init prog_10_method_1_code 3 none ∈ GW := GW_of (tm4 (List.mem_of_getElem? (i := 218) (by decide +kernel))) rfl
theorem ml_P_299 : Cond.methodLink "PlaceFinder" 299 y_Wa_init ∈ GW := GW_of (tm4 (List.mem_of_getElem? (i := 216) (by decide +kernel))) rfl
theorem lk_P_299 : LK "PlaceFinder" 299 y_Wa_init prog_10_method_1_code 3 none 2 := ⟨co_Wa_init, ii_Wa, Or.inl ml_P_299, by decide +kernel⟩
theorem im_Wa_init : Cond.instanceMethod y_Wa_init ∈ GW := GW_of (tm4 (List.mem_of_getElem? (i := 217) (by decide +kernel))) rfl
theorem fd_Wa_16 : FD "PlaceFinder$Watch" 16 9 3 := ⟨_, _, _, "PlaceFinder$Watch", rfl, by decide, uw_Wa, Or.inl rfl, Or.inl fl_Wa_16⟩
theorem co_Wa_hasTold : Cond.code y_Wa_hasTold prog_10_method_2_code 2 (some .boolean) ∈ GW := GW_of (tm5 (List.mem_of_getElem? (i := 14) (by decide +kernel))) rfl
theorem ml_P_308 : Cond.methodLink "PlaceFinder" 308 y_Wa_hasTold ∈ GW := GW_of (tm5 (List.mem_of_getElem? (i := 11) (by decide +kernel))) rfl
theorem lk_P_308 : LK "PlaceFinder" 308 y_Wa_hasTold prog_10_method_2_code 2 (some .boolean) 1 := ⟨co_Wa_hasTold, ii_Wa, Or.inl ml_P_308, by decide +kernel⟩
theorem im_Wa_hasTold : Cond.instanceMethod y_Wa_hasTold ∈ GW := GW_of (tm5 (List.mem_of_getElem? (i := 12) (by decide +kernel))) rfl
theorem sl_Wa_hasTold : Cond.selects "PlaceFinder$Watch" y_Wa_hasTold y_Wa_hasTold ∈ GW := GW_of (tm5 (List.mem_of_getElem? (i := 13) (by decide +kernel))) rfl
theorem fl_P_311 : Cond.fieldLink "PlaceFinder" 311 "PlaceFinder$Watch" "route" "LPlaceFinder$Corners;" ∈ GW := GW_of (tm4 (List.mem_of_getElem? (i := 225) (by decide +kernel))) rfl
theorem fd_P_311 : FD "PlaceFinder" 311 9 1 := ⟨_, _, _, "PlaceFinder$Watch", rfl, by decide, uw_Wa, Or.inl rfl, Or.inl fl_P_311⟩
theorem fl_P_314 : Cond.fieldLink "PlaceFinder" 314 "PlaceFinder$Watch" "day" "I" ∈ GW := GW_of (tm4 (List.mem_of_getElem? (i := 227) (by decide +kernel))) rfl
theorem fd_P_314 : FD "PlaceFinder" 314 9 2 := ⟨_, _, _, "PlaceFinder$Watch", rfl, by decide, uw_Wa, Or.inl rfl, Or.inl fl_P_314⟩
theorem co_P_watchOf : Cond.code y_P_watchOf prog_1_method_29_code 2 (some (.object "PlaceFinder$Watch")) ∈ GW := GW_of (tm5 (List.mem_of_getElem? (i := 9) (by decide +kernel))) rfl
theorem ml_P_302 : Cond.methodLink "PlaceFinder" 302 y_P_watchOf ∈ GW := GW_of (tm5 (List.mem_of_getElem? (i := 6) (by decide +kernel))) rfl
theorem lk_P_302 : LK "PlaceFinder" 302 y_P_watchOf prog_1_method_29_code 2 (some (.object "PlaceFinder$Watch")) 1 := ⟨co_P_watchOf, ii_P, Or.inl ml_P_302, by decide +kernel⟩
theorem im_P_watchOf : Cond.instanceMethod y_P_watchOf ∈ GW := GW_of (tm5 (List.mem_of_getElem? (i := 8) (by decide +kernel))) rfl
theorem sl_P_watchOf : Cond.selects "PlaceFinder" y_P_watchOf y_P_watchOf ∈ GW := GW_of (tm0 (List.mem_of_getElem? (i := 22) (by decide +kernel))) rfl
theorem tf_P_91_306 : TF "PlaceFinder" 91 306 95 "java/lang/IllegalArgumentException" exU := ⟨cl_P_91, ib_ex0, ii_ex0, ⟨"no such watch, or it was not set", List.mem_of_getElem? (i := 23) (by decide +kernel)⟩, by decide +kernel, by decide +kernel, ow_P_95⟩
theorem cn_In_265 : Cond.constant "java/lang/Integer" 265 1431655765 ∈ GW := GW_of (tm5 (List.mem_of_getElem? (i := 25) (by decide +kernel))) rfl
theorem cn_In_266 : Cond.constant "java/lang/Integer" 266 858993459 ∈ GW := GW_of (tm5 (List.mem_of_getElem? (i := 26) (by decide +kernel))) rfl
theorem cn_In_267 : Cond.constant "java/lang/Integer" 267 252645135 ∈ GW := GW_of (tm5 (List.mem_of_getElem? (i := 27) (by decide +kernel))) rfl
theorem fl_P_317 : Cond.fieldLink "PlaceFinder" 317 "PlaceFinder$Watch" "toldPlaces" "I" ∈ GW := GW_of (tm4 (List.mem_of_getElem? (i := 229) (by decide +kernel))) rfl
theorem fp_P_317 : FP "PlaceFinder" 317 9 3 .int false := ⟨_, _, _, "PlaceFinder$Watch", t_Wa, rfl, by decide, uw_Wa, Or.inl rfl, t_Wa_ok, n_Wa, rfl, rfl, Or.inl ⟨fl_P_317, fun q => nomatch q⟩⟩
theorem co_In_bitCount : Cond.code y_In_bitCount prog_20_method_49_code 1 (some .int) ∈ GW := GW_of (tm5 (List.mem_of_getElem? (i := 24) (by decide +kernel))) rfl
theorem ii_In : Cond.initialized "java/lang/Integer" ∈ GW := GW_of (tm1 (List.mem_of_getElem? (i := 34) (by decide +kernel))) rfl
theorem ml_P_320 : Cond.methodLink "PlaceFinder" 320 y_In_bitCount ∈ GW := GW_of (tm5 (List.mem_of_getElem? (i := 22) (by decide +kernel))) rfl
theorem lk_P_320 : LK "PlaceFinder" 320 y_In_bitCount prog_20_method_49_code 1 (some .int) 1 := ⟨co_In_bitCount, ii_In, Or.inl ml_P_320, by decide +kernel⟩
theorem sc_In_bitCount : Cond.static y_In_bitCount ∈ GW := GW_of (tm5 (List.mem_of_getElem? (i := 23) (by decide +kernel))) rfl
theorem co_P_place : Cond.code y_P_place prog_1_method_2_code 2 (some .int) ∈ GW := GW_of (tm2 (List.mem_of_getElem? (i := 87) (by decide +kernel))) rfl
theorem ml_L_7 : Cond.methodLink "PlaceFinderLaw" 7 y_P_place ∈ GW := GW_of (tm2 (List.mem_of_getElem? (i := 84) (by decide +kernel))) rfl
theorem lk_L_7 : LK "PlaceFinderLaw" 7 y_P_place prog_1_method_2_code 2 (some .int) 1 := ⟨co_P_place, ii_P, Or.inl ml_L_7, by decide +kernel⟩
theorem im_P_place : Cond.instanceMethod y_P_place ∈ GW := GW_of (tm2 (List.mem_of_getElem? (i := 85) (by decide +kernel))) rfl
theorem sl_P_place : Cond.selects "PlaceFinder" y_P_place y_P_place ∈ GW := GW_of (tm2 (List.mem_of_getElem? (i := 86) (by decide +kernel))) rfl
theorem ca_ex0 : Cond.castable "java/lang/IllegalArgumentException" "java/lang/IllegalArgumentException" ∈ NW := NW_of (tm2 (List.mem_of_getElem? (i := 93) (by decide +kernel))) rfl
theorem cl_L_13 : Cond.classLink "PlaceFinderLaw" 13 "java/lang/IllegalArgumentException" ∈ GW := GW_of (tm2 (List.mem_of_getElem? (i := 82) (by decide +kernel))) rfl
theorem ca_ex1 : Cond.castable "java/lang/IllegalStateException" "java/lang/IllegalStateException" ∈ NW := NW_of (tm2 (List.mem_of_getElem? (i := 166) (by decide +kernel))) rfl
theorem cl_L_15 : Cond.classLink "PlaceFinderLaw" 15 "java/lang/IllegalStateException" ∈ GW := GW_of (tm2 (List.mem_of_getElem? (i := 83) (by decide +kernel))) rfl
theorem co_P_corner : Cond.code y_P_corner prog_1_method_3_code 3 (some .int) ∈ GW := GW_of (tm3 (List.mem_of_getElem? (i := 40) (by decide +kernel))) rfl
theorem ml_L_17 : Cond.methodLink "PlaceFinderLaw" 17 y_P_corner ∈ GW := GW_of (tm3 (List.mem_of_getElem? (i := 37) (by decide +kernel))) rfl
theorem lk_L_17 : LK "PlaceFinderLaw" 17 y_P_corner prog_1_method_3_code 3 (some .int) 2 := ⟨co_P_corner, ii_P, Or.inl ml_L_17, by decide +kernel⟩
theorem im_P_corner : Cond.instanceMethod y_P_corner ∈ GW := GW_of (tm3 (List.mem_of_getElem? (i := 38) (by decide +kernel))) rfl
theorem sl_P_corner : Cond.selects "PlaceFinder" y_P_corner y_P_corner ∈ GW := GW_of (tm3 (List.mem_of_getElem? (i := 39) (by decide +kernel))) rfl
theorem co_P_shape : Cond.code y_P_shape prog_1_method_4_code 5 none ∈ GW := GW_of (tm3 (List.mem_of_getElem? (i := 52) (by decide +kernel))) rfl
theorem ml_L_21 : Cond.methodLink "PlaceFinderLaw" 21 y_P_shape ∈ GW := GW_of (tm3 (List.mem_of_getElem? (i := 49) (by decide +kernel))) rfl
theorem lk_L_21 : LK "PlaceFinderLaw" 21 y_P_shape prog_1_method_4_code 5 none 2 := ⟨co_P_shape, ii_P, Or.inl ml_L_21, by decide +kernel⟩
theorem im_P_shape : Cond.instanceMethod y_P_shape ∈ GW := GW_of (tm3 (List.mem_of_getElem? (i := 50) (by decide +kernel))) rfl
theorem sl_P_shape : Cond.selects "PlaceFinder" y_P_shape y_P_shape ∈ GW := GW_of (tm3 (List.mem_of_getElem? (i := 51) (by decide +kernel))) rfl
theorem co_P_name : Cond.code y_P_name prog_1_method_7_code 5 none ∈ GW := GW_of (tm3 (List.mem_of_getElem? (i := 107) (by decide +kernel))) rfl
theorem ml_L_25 : Cond.methodLink "PlaceFinderLaw" 25 y_P_name ∈ GW := GW_of (tm3 (List.mem_of_getElem? (i := 104) (by decide +kernel))) rfl
theorem lk_L_25 : LK "PlaceFinderLaw" 25 y_P_name prog_1_method_7_code 5 none 3 := ⟨co_P_name, ii_P, Or.inl ml_L_25, by decide +kernel⟩
theorem im_P_name : Cond.instanceMethod y_P_name ∈ GW := GW_of (tm3 (List.mem_of_getElem? (i := 105) (by decide +kernel))) rfl
theorem sl_P_name : Cond.selects "PlaceFinder" y_P_name y_P_name ∈ GW := GW_of (tm3 (List.mem_of_getElem? (i := 106) (by decide +kernel))) rfl
theorem co_P_parent : Cond.code y_P_parent prog_1_method_8_code 7 none ∈ GW := GW_of (tm3 (List.mem_of_getElem? (i := 137) (by decide +kernel))) rfl
theorem ml_L_29 : Cond.methodLink "PlaceFinderLaw" 29 y_P_parent ∈ GW := GW_of (tm3 (List.mem_of_getElem? (i := 134) (by decide +kernel))) rfl
theorem lk_L_29 : LK "PlaceFinderLaw" 29 y_P_parent prog_1_method_8_code 7 none 4 := ⟨co_P_parent, ii_P, Or.inl ml_L_29, by decide +kernel⟩
theorem im_P_parent : Cond.instanceMethod y_P_parent ∈ GW := GW_of (tm3 (List.mem_of_getElem? (i := 135) (by decide +kernel))) rfl
theorem sl_P_parent : Cond.selects "PlaceFinder" y_P_parent y_P_parent ∈ GW := GW_of (tm3 (List.mem_of_getElem? (i := 136) (by decide +kernel))) rfl
theorem ca_ex2 : Cond.castable "java/lang/UnsupportedOperationException" "java/lang/UnsupportedOperationException" ∈ NW := NW_of (tm3 (List.mem_of_getElem? (i := 151) (by decide +kernel))) rfl
theorem cl_L_33 : Cond.classLink "PlaceFinderLaw" 33 "java/lang/UnsupportedOperationException" ∈ GW := GW_of (tm3 (List.mem_of_getElem? (i := 133) (by decide +kernel))) rfl
theorem co_P_remove : Cond.code y_P_remove prog_1_method_9_code 4 none ∈ GW := GW_of (tm3 (List.mem_of_getElem? (i := 197) (by decide +kernel))) rfl
theorem ml_L_35 : Cond.methodLink "PlaceFinderLaw" 35 y_P_remove ∈ GW := GW_of (tm3 (List.mem_of_getElem? (i := 194) (by decide +kernel))) rfl
theorem lk_L_35 : LK "PlaceFinderLaw" 35 y_P_remove prog_1_method_9_code 4 none 2 := ⟨co_P_remove, ii_P, Or.inl ml_L_35, by decide +kernel⟩
theorem im_P_remove : Cond.instanceMethod y_P_remove ∈ GW := GW_of (tm3 (List.mem_of_getElem? (i := 195) (by decide +kernel))) rfl
theorem sl_P_remove : Cond.selects "PlaceFinder" y_P_remove y_P_remove ∈ GW := GW_of (tm3 (List.mem_of_getElem? (i := 196) (by decide +kernel))) rfl
theorem co_P_condition : Cond.code y_P_condition prog_1_method_10_code 6 (some .int) ∈ GW := GW_of (tm3 (List.mem_of_getElem? (i := 209) (by decide +kernel))) rfl
theorem ml_L_38 : Cond.methodLink "PlaceFinderLaw" 38 y_P_condition ∈ GW := GW_of (tm3 (List.mem_of_getElem? (i := 206) (by decide +kernel))) rfl
theorem lk_L_38 : LK "PlaceFinderLaw" 38 y_P_condition prog_1_method_10_code 6 (some .int) 4 := ⟨co_P_condition, ii_P, Or.inl ml_L_38, by decide +kernel⟩
theorem im_P_condition : Cond.instanceMethod y_P_condition ∈ GW := GW_of (tm3 (List.mem_of_getElem? (i := 207) (by decide +kernel))) rfl
theorem sl_P_condition : Cond.selects "PlaceFinder" y_P_condition y_P_condition ∈ GW := GW_of (tm3 (List.mem_of_getElem? (i := 208) (by decide +kernel))) rfl
theorem co_P_find : Cond.code y_P_find prog_1_method_12_code 7 (some .int) ∈ GW := GW_of (tm3 (List.mem_of_getElem? (i := 226) (by decide +kernel))) rfl
theorem ml_L_42 : Cond.methodLink "PlaceFinderLaw" 42 y_P_find ∈ GW := GW_of (tm3 (List.mem_of_getElem? (i := 223) (by decide +kernel))) rfl
theorem lk_L_42 : LK "PlaceFinderLaw" 42 y_P_find prog_1_method_12_code 7 (some .int) 2 := ⟨co_P_find, ii_P, Or.inl ml_L_42, by decide +kernel⟩
theorem im_P_find : Cond.instanceMethod y_P_find ∈ GW := GW_of (tm3 (List.mem_of_getElem? (i := 224) (by decide +kernel))) rfl
theorem sl_P_find : Cond.selects "PlaceFinder" y_P_find y_P_find ∈ GW := GW_of (tm3 (List.mem_of_getElem? (i := 225) (by decide +kernel))) rfl
theorem co_P_near : Cond.code y_P_near prog_1_method_13_code 9 (some .int) ∈ GW := GW_of (tm4 (List.mem_of_getElem? (i := 130) (by decide +kernel))) rfl
theorem ml_L_45 : Cond.methodLink "PlaceFinderLaw" 45 y_P_near ∈ GW := GW_of (tm4 (List.mem_of_getElem? (i := 127) (by decide +kernel))) rfl
theorem lk_L_45 : LK "PlaceFinderLaw" 45 y_P_near prog_1_method_13_code 9 (some .int) 5 := ⟨co_P_near, ii_P, Or.inl ml_L_45, by decide +kernel⟩
theorem im_P_near : Cond.instanceMethod y_P_near ∈ GW := GW_of (tm4 (List.mem_of_getElem? (i := 128) (by decide +kernel))) rfl
theorem sl_P_near : Cond.selects "PlaceFinder" y_P_near y_P_near ∈ GW := GW_of (tm4 (List.mem_of_getElem? (i := 129) (by decide +kernel))) rfl
theorem co_P_hit : Cond.code y_P_hit prog_1_method_14_code 2 (some .int) ∈ GW := GW_of (tm4 (List.mem_of_getElem? (i := 149) (by decide +kernel))) rfl
theorem ml_L_49 : Cond.methodLink "PlaceFinderLaw" 49 y_P_hit ∈ GW := GW_of (tm4 (List.mem_of_getElem? (i := 146) (by decide +kernel))) rfl
theorem lk_L_49 : LK "PlaceFinderLaw" 49 y_P_hit prog_1_method_14_code 2 (some .int) 1 := ⟨co_P_hit, ii_P, Or.inl ml_L_49, by decide +kernel⟩
theorem im_P_hit : Cond.instanceMethod y_P_hit ∈ GW := GW_of (tm4 (List.mem_of_getElem? (i := 147) (by decide +kernel))) rfl
theorem sl_P_hit : Cond.selects "PlaceFinder" y_P_hit y_P_hit ∈ GW := GW_of (tm4 (List.mem_of_getElem? (i := 148) (by decide +kernel))) rfl
theorem ca_ex3 : Cond.castable "java/lang/IndexOutOfBoundsException" "java/lang/IndexOutOfBoundsException" ∈ NW := NW_of (tm4 (List.mem_of_getElem? (i := 152) (by decide +kernel))) rfl
theorem cl_L_52 : Cond.classLink "PlaceFinderLaw" 52 "java/lang/IndexOutOfBoundsException" ∈ GW := GW_of (tm4 (List.mem_of_getElem? (i := 145) (by decide +kernel))) rfl
theorem co_P_chain : Cond.code y_P_chain prog_1_method_15_code 6 (some .int) ∈ GW := GW_of (tm4 (List.mem_of_getElem? (i := 172) (by decide +kernel))) rfl
theorem ml_L_54 : Cond.methodLink "PlaceFinderLaw" 54 y_P_chain ∈ GW := GW_of (tm4 (List.mem_of_getElem? (i := 169) (by decide +kernel))) rfl
theorem lk_L_54 : LK "PlaceFinderLaw" 54 y_P_chain prog_1_method_15_code 6 (some .int) 3 := ⟨co_P_chain, ii_P, Or.inl ml_L_54, by decide +kernel⟩
theorem im_P_chain : Cond.instanceMethod y_P_chain ∈ GW := GW_of (tm4 (List.mem_of_getElem? (i := 170) (by decide +kernel))) rfl
theorem sl_P_chain : Cond.selects "PlaceFinder" y_P_chain y_P_chain ∈ GW := GW_of (tm4 (List.mem_of_getElem? (i := 171) (by decide +kernel))) rfl
theorem co_P_holds : Cond.code y_P_holds prog_1_method_16_code 7 (some .int) ∈ GW := GW_of (tm4 (List.mem_of_getElem? (i := 180) (by decide +kernel))) rfl
theorem ml_L_58 : Cond.methodLink "PlaceFinderLaw" 58 y_P_holds ∈ GW := GW_of (tm4 (List.mem_of_getElem? (i := 177) (by decide +kernel))) rfl
theorem lk_L_58 : LK "PlaceFinderLaw" 58 y_P_holds prog_1_method_16_code 7 (some .int) 4 := ⟨co_P_holds, ii_P, Or.inl ml_L_58, by decide +kernel⟩
theorem im_P_holds : Cond.instanceMethod y_P_holds ∈ GW := GW_of (tm4 (List.mem_of_getElem? (i := 178) (by decide +kernel))) rfl
theorem sl_P_holds : Cond.selects "PlaceFinder" y_P_holds y_P_holds ∈ GW := GW_of (tm4 (List.mem_of_getElem? (i := 179) (by decide +kernel))) rfl
theorem co_P_errors : Cond.code y_P_errors prog_1_method_18_code 4 (some .int) ∈ GW := GW_of (tm4 (List.mem_of_getElem? (i := 190) (by decide +kernel))) rfl
theorem ml_L_61 : Cond.methodLink "PlaceFinderLaw" 61 y_P_errors ∈ GW := GW_of (tm4 (List.mem_of_getElem? (i := 187) (by decide +kernel))) rfl
theorem lk_L_61 : LK "PlaceFinderLaw" 61 y_P_errors prog_1_method_18_code 4 (some .int) 2 := ⟨co_P_errors, ii_P, Or.inl ml_L_61, by decide +kernel⟩
theorem im_P_errors : Cond.instanceMethod y_P_errors ∈ GW := GW_of (tm4 (List.mem_of_getElem? (i := 188) (by decide +kernel))) rfl
theorem sl_P_errors : Cond.selects "PlaceFinder" y_P_errors y_P_errors ∈ GW := GW_of (tm4 (List.mem_of_getElem? (i := 189) (by decide +kernel))) rfl
theorem ca_ex4 : Cond.castable "java/util/NoSuchElementException" "java/util/NoSuchElementException" ∈ NW := NW_of (tm4 (List.mem_of_getElem? (i := 193) (by decide +kernel))) rfl
theorem cl_L_64 : Cond.classLink "PlaceFinderLaw" 64 "java/util/NoSuchElementException" ∈ GW := GW_of (tm4 (List.mem_of_getElem? (i := 186) (by decide +kernel))) rfl
theorem co_P_watch : Cond.code y_P_watch prog_1_method_19_code 5 none ∈ GW := GW_of (tm4 (List.mem_of_getElem? (i := 213) (by decide +kernel))) rfl
theorem ml_L_66 : Cond.methodLink "PlaceFinderLaw" 66 y_P_watch ∈ GW := GW_of (tm4 (List.mem_of_getElem? (i := 210) (by decide +kernel))) rfl
theorem lk_L_66 : LK "PlaceFinderLaw" 66 y_P_watch prog_1_method_19_code 5 none 2 := ⟨co_P_watch, ii_P, Or.inl ml_L_66, by decide +kernel⟩
theorem im_P_watch : Cond.instanceMethod y_P_watch ∈ GW := GW_of (tm4 (List.mem_of_getElem? (i := 211) (by decide +kernel))) rfl
theorem sl_P_watch : Cond.selects "PlaceFinder" y_P_watch y_P_watch ∈ GW := GW_of (tm4 (List.mem_of_getElem? (i := 212) (by decide +kernel))) rfl
theorem co_P_news : Cond.code y_P_news prog_1_method_20_code 4 (some .int) ∈ GW := GW_of (tm5 (List.mem_of_getElem? (i := 5) (by decide +kernel))) rfl
theorem ml_L_69 : Cond.methodLink "PlaceFinderLaw" 69 y_P_news ∈ GW := GW_of (tm5 (List.mem_of_getElem? (i := 2) (by decide +kernel))) rfl
theorem lk_L_69 : LK "PlaceFinderLaw" 69 y_P_news prog_1_method_20_code 4 (some .int) 1 := ⟨co_P_news, ii_P, Or.inl ml_L_69, by decide +kernel⟩
theorem im_P_news : Cond.instanceMethod y_P_news ∈ GW := GW_of (tm5 (List.mem_of_getElem? (i := 3) (by decide +kernel))) rfl
theorem sl_P_news : Cond.selects "PlaceFinder" y_P_news y_P_news ∈ GW := GW_of (tm5 (List.mem_of_getElem? (i := 4) (by decide +kernel))) rfl
theorem co_P_told : Cond.code y_P_told prog_1_method_21_code 5 (some .int) ∈ GW := GW_of (tm5 (List.mem_of_getElem? (i := 21) (by decide +kernel))) rfl
theorem ml_L_72 : Cond.methodLink "PlaceFinderLaw" 72 y_P_told ∈ GW := GW_of (tm5 (List.mem_of_getElem? (i := 18) (by decide +kernel))) rfl
theorem lk_L_72 : LK "PlaceFinderLaw" 72 y_P_told prog_1_method_21_code 5 (some .int) 1 := ⟨co_P_told, ii_P, Or.inl ml_L_72, by decide +kernel⟩
theorem im_P_told : Cond.instanceMethod y_P_told ∈ GW := GW_of (tm5 (List.mem_of_getElem? (i := 19) (by decide +kernel))) rfl
theorem sl_P_told : Cond.selects "PlaceFinder" y_P_told y_P_told ∈ GW := GW_of (tm5 (List.mem_of_getElem? (i := 20) (by decide +kernel))) rfl
