theorem ml_M_1 : Cond.methodLink "PlaceFinderModel" 1 objectInit ∈ GW := GW_of (tm5 (List.mem_of_getElem? (i := 33) (by decide +kernel))) rfl
theorem im_Obj : Cond.instanceMethod objectInit ∈ GW := GW_of (tm1 (List.mem_of_getElem? (i := 41) (by decide +kernel))) rfl
theorem co_Obj : Cond.code objectInit ⟨#[0xb1]⟩ 1 none ∈ GW := GW_of (tm1 (List.mem_of_getElem? (i := 42) (by decide +kernel))) rfl
theorem oi_M_1 : OI "PlaceFinderModel" 1 := ⟨ml_M_1, im_Obj, co_Obj⟩
theorem ac_I : Cond.arrayClass .int ∈ GW := GW_of (tm1 (List.mem_of_getElem? (i := 104) (by decide +kernel))) rfl
theorem fl_M_7 : Cond.fieldLink "PlaceFinderModel" 7 "PlaceFinderModel" "kind" "[I" ∈ GW := GW_of (tm5 (List.mem_of_getElem? (i := 36) (by decide +kernel))) rfl
theorem fp_M_7 : FP "PlaceFinderModel" 7 12 2 (.array .int) true := ⟨_, _, _, "PlaceFinderModel", t_M, rfl, by decide, uw_M, Or.inl rfl, t_M_ok, n_M, rfl, rfl, Or.inl ⟨fl_M_7, fun _ => rfl⟩⟩
theorem fl_M_13 : Cond.fieldLink "PlaceFinderModel" 13 "PlaceFinderModel" "gone" "[I" ∈ GW := GW_of (tm5 (List.mem_of_getElem? (i := 37) (by decide +kernel))) rfl
theorem fp_M_13 : FP "PlaceFinderModel" 13 12 3 (.array .int) true := ⟨_, _, _, "PlaceFinderModel", t_M, rfl, by decide, uw_M, Or.inl rfl, t_M_ok, n_M, rfl, rfl, Or.inl ⟨fl_M_13, fun _ => rfl⟩⟩
theorem fl_M_16 : Cond.fieldLink "PlaceFinderModel" 16 "PlaceFinderModel" "shapes" "[I" ∈ GW := GW_of (tm5 (List.mem_of_getElem? (i := 38) (by decide +kernel))) rfl
theorem fp_M_16 : FP "PlaceFinderModel" 16 12 4 (.array .int) true := ⟨_, _, _, "PlaceFinderModel", t_M, rfl, by decide, uw_M, Or.inl rfl, t_M_ok, n_M, rfl, rfl, Or.inl ⟨fl_M_16, fun _ => rfl⟩⟩
theorem fl_M_19 : Cond.fieldLink "PlaceFinderModel" 19 "PlaceFinderModel" "shapeDay" "[I" ∈ GW := GW_of (tm5 (List.mem_of_getElem? (i := 39) (by decide +kernel))) rfl
theorem fp_M_19 : FP "PlaceFinderModel" 19 12 5 (.array .int) true := ⟨_, _, _, "PlaceFinderModel", t_M, rfl, by decide, uw_M, Or.inl rfl, t_M_ok, n_M, rfl, rfl, Or.inl ⟨fl_M_19, fun _ => rfl⟩⟩
theorem fl_M_22 : Cond.fieldLink "PlaceFinderModel" 22 "PlaceFinderModel" "shapeSize" "[I" ∈ GW := GW_of (tm5 (List.mem_of_getElem? (i := 40) (by decide +kernel))) rfl
theorem fp_M_22 : FP "PlaceFinderModel" 22 12 6 (.array .int) true := ⟨_, _, _, "PlaceFinderModel", t_M, rfl, by decide, uw_M, Or.inl rfl, t_M_ok, n_M, rfl, rfl, Or.inl ⟨fl_M_22, fun _ => rfl⟩⟩
theorem fl_M_25 : Cond.fieldLink "PlaceFinderModel" 25 "PlaceFinderModel" "shapeX" "[I" ∈ GW := GW_of (tm5 (List.mem_of_getElem? (i := 41) (by decide +kernel))) rfl
theorem fp_M_25 : FP "PlaceFinderModel" 25 12 7 (.array .int) true := ⟨_, _, _, "PlaceFinderModel", t_M, rfl, by decide, uw_M, Or.inl rfl, t_M_ok, n_M, rfl, rfl, Or.inl ⟨fl_M_25, fun _ => rfl⟩⟩
theorem fl_M_28 : Cond.fieldLink "PlaceFinderModel" 28 "PlaceFinderModel" "shapeY" "[I" ∈ GW := GW_of (tm5 (List.mem_of_getElem? (i := 42) (by decide +kernel))) rfl
theorem fp_M_28 : FP "PlaceFinderModel" 28 12 8 (.array .int) true := ⟨_, _, _, "PlaceFinderModel", t_M, rfl, by decide, uw_M, Or.inl rfl, t_M_ok, n_M, rfl, rfl, Or.inl ⟨fl_M_28, fun _ => rfl⟩⟩
theorem fl_M_31 : Cond.fieldLink "PlaceFinderModel" 31 "PlaceFinderModel" "names" "[I" ∈ GW := GW_of (tm5 (List.mem_of_getElem? (i := 43) (by decide +kernel))) rfl
theorem fp_M_31 : FP "PlaceFinderModel" 31 12 9 (.array .int) true := ⟨_, _, _, "PlaceFinderModel", t_M, rfl, by decide, uw_M, Or.inl rfl, t_M_ok, n_M, rfl, rfl, Or.inl ⟨fl_M_31, fun _ => rfl⟩⟩
theorem fl_M_34 : Cond.fieldLink "PlaceFinderModel" 34 "PlaceFinderModel" "nameFrom" "[I" ∈ GW := GW_of (tm5 (List.mem_of_getElem? (i := 44) (by decide +kernel))) rfl
theorem fp_M_34 : FP "PlaceFinderModel" 34 12 10 (.array .int) true := ⟨_, _, _, "PlaceFinderModel", t_M, rfl, by decide, uw_M, Or.inl rfl, t_M_ok, n_M, rfl, rfl, Or.inl ⟨fl_M_34, fun _ => rfl⟩⟩
theorem fl_M_37 : Cond.fieldLink "PlaceFinderModel" 37 "PlaceFinderModel" "nameTo" "[I" ∈ GW := GW_of (tm5 (List.mem_of_getElem? (i := 45) (by decide +kernel))) rfl
theorem fp_M_37 : FP "PlaceFinderModel" 37 12 11 (.array .int) true := ⟨_, _, _, "PlaceFinderModel", t_M, rfl, by decide, uw_M, Or.inl rfl, t_M_ok, n_M, rfl, rfl, Or.inl ⟨fl_M_37, fun _ => rfl⟩⟩
theorem fl_M_40 : Cond.fieldLink "PlaceFinderModel" 40 "PlaceFinderModel" "nameLength" "[I" ∈ GW := GW_of (tm5 (List.mem_of_getElem? (i := 46) (by decide +kernel))) rfl
theorem fp_M_40 : FP "PlaceFinderModel" 40 12 12 (.array .int) true := ⟨_, _, _, "PlaceFinderModel", t_M, rfl, by decide, uw_M, Or.inl rfl, t_M_ok, n_M, rfl, rfl, Or.inl ⟨fl_M_40, fun _ => rfl⟩⟩
theorem fl_M_43 : Cond.fieldLink "PlaceFinderModel" 43 "PlaceFinderModel" "nameLetter" "[I" ∈ GW := GW_of (tm5 (List.mem_of_getElem? (i := 47) (by decide +kernel))) rfl
theorem fp_M_43 : FP "PlaceFinderModel" 43 12 13 (.array .int) true := ⟨_, _, _, "PlaceFinderModel", t_M, rfl, by decide, uw_M, Or.inl rfl, t_M_ok, n_M, rfl, rfl, Or.inl ⟨fl_M_43, fun _ => rfl⟩⟩
theorem fl_M_46 : Cond.fieldLink "PlaceFinderModel" 46 "PlaceFinderModel" "spans" "[I" ∈ GW := GW_of (tm5 (List.mem_of_getElem? (i := 48) (by decide +kernel))) rfl
theorem fp_M_46 : FP "PlaceFinderModel" 46 12 14 (.array .int) true := ⟨_, _, _, "PlaceFinderModel", t_M, rfl, by decide, uw_M, Or.inl rfl, t_M_ok, n_M, rfl, rfl, Or.inl ⟨fl_M_46, fun _ => rfl⟩⟩
theorem fl_M_49 : Cond.fieldLink "PlaceFinderModel" 49 "PlaceFinderModel" "spanParent" "[I" ∈ GW := GW_of (tm5 (List.mem_of_getElem? (i := 49) (by decide +kernel))) rfl
theorem fp_M_49 : FP "PlaceFinderModel" 49 12 15 (.array .int) true := ⟨_, _, _, "PlaceFinderModel", t_M, rfl, by decide, uw_M, Or.inl rfl, t_M_ok, n_M, rfl, rfl, Or.inl ⟨fl_M_49, fun _ => rfl⟩⟩
theorem fl_M_52 : Cond.fieldLink "PlaceFinderModel" 52 "PlaceFinderModel" "spanFrom" "[I" ∈ GW := GW_of (tm5 (List.mem_of_getElem? (i := 50) (by decide +kernel))) rfl
theorem fp_M_52 : FP "PlaceFinderModel" 52 12 16 (.array .int) true := ⟨_, _, _, "PlaceFinderModel", t_M, rfl, by decide, uw_M, Or.inl rfl, t_M_ok, n_M, rfl, rfl, Or.inl ⟨fl_M_52, fun _ => rfl⟩⟩
theorem fl_M_55 : Cond.fieldLink "PlaceFinderModel" 55 "PlaceFinderModel" "spanTo" "[I" ∈ GW := GW_of (tm5 (List.mem_of_getElem? (i := 51) (by decide +kernel))) rfl
theorem fp_M_55 : FP "PlaceFinderModel" 55 12 17 (.array .int) true := ⟨_, _, _, "PlaceFinderModel", t_M, rfl, by decide, uw_M, Or.inl rfl, t_M_ok, n_M, rfl, rfl, Or.inl ⟨fl_M_55, fun _ => rfl⟩⟩
theorem fl_M_58 : Cond.fieldLink "PlaceFinderModel" 58 "PlaceFinderModel" "cornerX" "[I" ∈ GW := GW_of (tm5 (List.mem_of_getElem? (i := 53) (by decide +kernel))) rfl
theorem fp_M_58 : FP "PlaceFinderModel" 58 12 19 (.array .int) true := ⟨_, _, _, "PlaceFinderModel", t_M, rfl, by decide, uw_M, Or.inl rfl, t_M_ok, n_M, rfl, rfl, Or.inl ⟨fl_M_58, fun _ => rfl⟩⟩
theorem fl_M_61 : Cond.fieldLink "PlaceFinderModel" 61 "PlaceFinderModel" "cornerY" "[I" ∈ GW := GW_of (tm5 (List.mem_of_getElem? (i := 54) (by decide +kernel))) rfl
theorem fp_M_61 : FP "PlaceFinderModel" 61 12 20 (.array .int) true := ⟨_, _, _, "PlaceFinderModel", t_M, rfl, by decide, uw_M, Or.inl rfl, t_M_ok, n_M, rfl, rfl, Or.inl ⟨fl_M_61, fun _ => rfl⟩⟩
theorem fl_M_64 : Cond.fieldLink "PlaceFinderModel" 64 "PlaceFinderModel" "typing" "[I" ∈ GW := GW_of (tm5 (List.mem_of_getElem? (i := 56) (by decide +kernel))) rfl
theorem fp_M_64 : FP "PlaceFinderModel" 64 12 22 (.array .int) true := ⟨_, _, _, "PlaceFinderModel", t_M, rfl, by decide, uw_M, Or.inl rfl, t_M_ok, n_M, rfl, rfl, Or.inl ⟨fl_M_64, fun _ => rfl⟩⟩
theorem fl_M_67 : Cond.fieldLink "PlaceFinderModel" 67 "PlaceFinderModel" "conditions" "[I" ∈ GW := GW_of (tm5 (List.mem_of_getElem? (i := 57) (by decide +kernel))) rfl
theorem fp_M_67 : FP "PlaceFinderModel" 67 12 23 (.array .int) true := ⟨_, _, _, "PlaceFinderModel", t_M, rfl, by decide, uw_M, Or.inl rfl, t_M_ok, n_M, rfl, rfl, Or.inl ⟨fl_M_67, fun _ => rfl⟩⟩
theorem fl_M_70 : Cond.fieldLink "PlaceFinderModel" 70 "PlaceFinderModel" "conditionKind" "[I" ∈ GW := GW_of (tm5 (List.mem_of_getElem? (i := 58) (by decide +kernel))) rfl
theorem fp_M_70 : FP "PlaceFinderModel" 70 12 24 (.array .int) true := ⟨_, _, _, "PlaceFinderModel", t_M, rfl, by decide, uw_M, Or.inl rfl, t_M_ok, n_M, rfl, rfl, Or.inl ⟨fl_M_70, fun _ => rfl⟩⟩
theorem fl_M_73 : Cond.fieldLink "PlaceFinderModel" 73 "PlaceFinderModel" "numberA" "[I" ∈ GW := GW_of (tm5 (List.mem_of_getElem? (i := 59) (by decide +kernel))) rfl
theorem fp_M_73 : FP "PlaceFinderModel" 73 12 25 (.array .int) true := ⟨_, _, _, "PlaceFinderModel", t_M, rfl, by decide, uw_M, Or.inl rfl, t_M_ok, n_M, rfl, rfl, Or.inl ⟨fl_M_73, fun _ => rfl⟩⟩
theorem fl_M_76 : Cond.fieldLink "PlaceFinderModel" 76 "PlaceFinderModel" "numberB" "[I" ∈ GW := GW_of (tm5 (List.mem_of_getElem? (i := 60) (by decide +kernel))) rfl
theorem fp_M_76 : FP "PlaceFinderModel" 76 12 26 (.array .int) true := ⟨_, _, _, "PlaceFinderModel", t_M, rfl, by decide, uw_M, Or.inl rfl, t_M_ok, n_M, rfl, rfl, Or.inl ⟨fl_M_76, fun _ => rfl⟩⟩
theorem fl_M_79 : Cond.fieldLink "PlaceFinderModel" 79 "PlaceFinderModel" "numberC" "[I" ∈ GW := GW_of (tm5 (List.mem_of_getElem? (i := 61) (by decide +kernel))) rfl
theorem fp_M_79 : FP "PlaceFinderModel" 79 12 27 (.array .int) true := ⟨_, _, _, "PlaceFinderModel", t_M, rfl, by decide, uw_M, Or.inl rfl, t_M_ok, n_M, rfl, rfl, Or.inl ⟨fl_M_79, fun _ => rfl⟩⟩
theorem fl_M_82 : Cond.fieldLink "PlaceFinderModel" 82 "PlaceFinderModel" "wordLength" "[I" ∈ GW := GW_of (tm5 (List.mem_of_getElem? (i := 62) (by decide +kernel))) rfl
theorem fp_M_82 : FP "PlaceFinderModel" 82 12 28 (.array .int) true := ⟨_, _, _, "PlaceFinderModel", t_M, rfl, by decide, uw_M, Or.inl rfl, t_M_ok, n_M, rfl, rfl, Or.inl ⟨fl_M_82, fun _ => rfl⟩⟩
theorem fl_M_85 : Cond.fieldLink "PlaceFinderModel" 85 "PlaceFinderModel" "wordLetter" "[I" ∈ GW := GW_of (tm5 (List.mem_of_getElem? (i := 63) (by decide +kernel))) rfl
theorem fp_M_85 : FP "PlaceFinderModel" 85 12 29 (.array .int) true := ⟨_, _, _, "PlaceFinderModel", t_M, rfl, by decide, uw_M, Or.inl rfl, t_M_ok, n_M, rfl, rfl, Or.inl ⟨fl_M_85, fun _ => rfl⟩⟩
theorem fl_M_88 : Cond.fieldLink "PlaceFinderModel" 88 "PlaceFinderModel" "routeSize" "[I" ∈ GW := GW_of (tm5 (List.mem_of_getElem? (i := 64) (by decide +kernel))) rfl
theorem fp_M_88 : FP "PlaceFinderModel" 88 12 30 (.array .int) true := ⟨_, _, _, "PlaceFinderModel", t_M, rfl, by decide, uw_M, Or.inl rfl, t_M_ok, n_M, rfl, rfl, Or.inl ⟨fl_M_88, fun _ => rfl⟩⟩
theorem fl_M_91 : Cond.fieldLink "PlaceFinderModel" 91 "PlaceFinderModel" "routeX" "[I" ∈ GW := GW_of (tm5 (List.mem_of_getElem? (i := 65) (by decide +kernel))) rfl
theorem fp_M_91 : FP "PlaceFinderModel" 91 12 31 (.array .int) true := ⟨_, _, _, "PlaceFinderModel", t_M, rfl, by decide, uw_M, Or.inl rfl, t_M_ok, n_M, rfl, rfl, Or.inl ⟨fl_M_91, fun _ => rfl⟩⟩
theorem fl_M_94 : Cond.fieldLink "PlaceFinderModel" 94 "PlaceFinderModel" "routeY" "[I" ∈ GW := GW_of (tm5 (List.mem_of_getElem? (i := 66) (by decide +kernel))) rfl
theorem fp_M_94 : FP "PlaceFinderModel" 94 12 32 (.array .int) true := ⟨_, _, _, "PlaceFinderModel", t_M, rfl, by decide, uw_M, Or.inl rfl, t_M_ok, n_M, rfl, rfl, Or.inl ⟨fl_M_94, fun _ => rfl⟩⟩
theorem fl_M_97 : Cond.fieldLink "PlaceFinderModel" 97 "PlaceFinderModel" "watchDay" "[I" ∈ GW := GW_of (tm5 (List.mem_of_getElem? (i := 67) (by decide +kernel))) rfl
theorem fp_M_97 : FP "PlaceFinderModel" 97 12 33 (.array .int) true := ⟨_, _, _, "PlaceFinderModel", t_M, rfl, by decide, uw_M, Or.inl rfl, t_M_ok, n_M, rfl, rfl, Or.inl ⟨fl_M_97, fun _ => rfl⟩⟩
theorem ac_Z : Cond.arrayClass .boolean ∈ GW := GW_of (tm5 (List.mem_of_getElem? (i := 200) (by decide +kernel))) rfl
theorem fl_M_100 : Cond.fieldLink "PlaceFinderModel" 100 "PlaceFinderModel" "isSet" "[Z" ∈ GW := GW_of (tm5 (List.mem_of_getElem? (i := 68) (by decide +kernel))) rfl
theorem fp_M_100 : FP "PlaceFinderModel" 100 12 34 (.array .boolean) true := ⟨_, _, _, "PlaceFinderModel", t_M, rfl, by decide, uw_M, Or.inl rfl, t_M_ok, n_M, rfl, rfl, Or.inl ⟨fl_M_100, fun _ => rfl⟩⟩
theorem fl_M_104 : Cond.fieldLink "PlaceFinderModel" 104 "PlaceFinderModel" "told" "[I" ∈ GW := GW_of (tm5 (List.mem_of_getElem? (i := 69) (by decide +kernel))) rfl
theorem fp_M_104 : FP "PlaceFinderModel" 104 12 35 (.array .int) true := ⟨_, _, _, "PlaceFinderModel", t_M, rfl, by decide, uw_M, Or.inl rfl, t_M_ok, n_M, rfl, rfl, Or.inl ⟨fl_M_104, fun _ => rfl⟩⟩
theorem fl_M_107 : Cond.fieldLink "PlaceFinderModel" 107 "PlaceFinderModel" "hits" "[I" ∈ GW := GW_of (tm5 (List.mem_of_getElem? (i := 71) (by decide +kernel))) rfl
theorem fp_M_107 : FP "PlaceFinderModel" 107 12 37 (.array .int) true := ⟨_, _, _, "PlaceFinderModel", t_M, rfl, by decide, uw_M, Or.inl rfl, t_M_ok, n_M, rfl, rfl, Or.inl ⟨fl_M_107, fun _ => rfl⟩⟩
theorem fl_M_110 : Cond.fieldLink "PlaceFinderModel" 110 "PlaceFinderModel" "fold" "[I" ∈ GW := GW_of (tm5 (List.mem_of_getElem? (i := 73) (by decide +kernel))) rfl
theorem fp_M_110 : FP "PlaceFinderModel" 110 12 39 (.array .int) true := ⟨_, _, _, "PlaceFinderModel", t_M, rfl, by decide, uw_M, Or.inl rfl, t_M_ok, n_M, rfl, rfl, Or.inl ⟨fl_M_110, fun _ => rfl⟩⟩
theorem fl_M_113 : Cond.fieldLink "PlaceFinderModel" 113 "PlaceFinderModel" "table" "[I" ∈ GW := GW_of (tm5 (List.mem_of_getElem? (i := 74) (by decide +kernel))) rfl
theorem fp_M_113 : FP "PlaceFinderModel" 113 12 40 (.array .int) true := ⟨_, _, _, "PlaceFinderModel", t_M, rfl, by decide, uw_M, Or.inl rfl, t_M_ok, n_M, rfl, rfl, Or.inl ⟨fl_M_113, fun _ => rfl⟩⟩
theorem fl_M_116 : Cond.fieldLink "PlaceFinderModel" 116 "PlaceFinderModel" "keyName" "[I" ∈ GW := GW_of (tm5 (List.mem_of_getElem? (i := 84) (by decide +kernel))) rfl
theorem fp_M_116 : FP "PlaceFinderModel" 116 12 50 (.array .int) true := ⟨_, _, _, "PlaceFinderModel", t_M, rfl, by decide, uw_M, Or.inl rfl, t_M_ok, n_M, rfl, rfl, Or.inl ⟨fl_M_116, fun _ => rfl⟩⟩
theorem fl_M_119 : Cond.fieldLink "PlaceFinderModel" 119 "PlaceFinderModel" "keySquare" "[I" ∈ GW := GW_of (tm5 (List.mem_of_getElem? (i := 85) (by decide +kernel))) rfl
theorem fp_M_119 : FP "PlaceFinderModel" 119 12 51 (.array .int) true := ⟨_, _, _, "PlaceFinderModel", t_M, rfl, by decide, uw_M, Or.inl rfl, t_M_ok, n_M, rfl, rfl, Or.inl ⟨fl_M_119, fun _ => rfl⟩⟩
theorem fl_M_122 : Cond.fieldLink "PlaceFinderModel" 122 "PlaceFinderModel" "keySide" "[I" ∈ GW := GW_of (tm5 (List.mem_of_getElem? (i := 86) (by decide +kernel))) rfl
theorem fp_M_122 : FP "PlaceFinderModel" 122 12 52 (.array .int) true := ⟨_, _, _, "PlaceFinderModel", t_M, rfl, by decide, uw_M, Or.inl rfl, t_M_ok, n_M, rfl, rfl, Or.inl ⟨fl_M_122, fun _ => rfl⟩⟩
theorem ac_J : Cond.arrayClass .long ∈ GW := GW_of (tm1 (List.mem_of_getElem? (i := 126) (by decide +kernel))) rfl
theorem fl_M_125 : Cond.fieldLink "PlaceFinderModel" 125 "PlaceFinderModel" "keyUp" "[J" ∈ GW := GW_of (tm5 (List.mem_of_getElem? (i := 87) (by decide +kernel))) rfl
theorem fp_M_125 : FP "PlaceFinderModel" 125 12 53 (.array .long) true := ⟨_, _, _, "PlaceFinderModel", t_M, rfl, by decide, uw_M, Or.inl rfl, t_M_ok, n_M, rfl, rfl, Or.inl ⟨fl_M_125, fun _ => rfl⟩⟩
theorem fl_M_129 : Cond.fieldLink "PlaceFinderModel" 129 "PlaceFinderModel" "keyDown" "[J" ∈ GW := GW_of (tm5 (List.mem_of_getElem? (i := 88) (by decide +kernel))) rfl
theorem fp_M_129 : FP "PlaceFinderModel" 129 12 54 (.array .long) true := ⟨_, _, _, "PlaceFinderModel", t_M, rfl, by decide, uw_M, Or.inl rfl, t_M_ok, n_M, rfl, rfl, Or.inl ⟨fl_M_129, fun _ => rfl⟩⟩
theorem fl_M_132 : Cond.fieldLink "PlaceFinderModel" 132 "PlaceFinderModel" "code" "I" ∈ GW := GW_of (tm5 (List.mem_of_getElem? (i := 34) (by decide +kernel))) rfl
theorem fd_M_132 : FD "PlaceFinderModel" 132 12 0 := ⟨_, _, _, "PlaceFinderModel", rfl, by decide, uw_M, Or.inl rfl, Or.inl fl_M_132⟩
theorem fl_M_136 : Cond.fieldLink "PlaceFinderModel" 136 "PlaceFinderModel" "places" "I" ∈ GW := GW_of (tm5 (List.mem_of_getElem? (i := 35) (by decide +kernel))) rfl
theorem fd_M_136 : FD "PlaceFinderModel" 136 12 1 := ⟨_, _, _, "PlaceFinderModel", rfl, by decide, uw_M, Or.inl rfl, Or.inl fl_M_136⟩
theorem co_M_in : Cond.code y_M_in prog_13_method_3_code 3 (some .boolean) ∈ GW := GW_of (tm5 (List.mem_of_getElem? (i := 211) (by decide +kernel))) rfl
theorem ii_M : Cond.initialized "PlaceFinderModel" ∈ GW := GW_of (tm1 (List.mem_of_getElem? (i := 14) (by decide +kernel))) rfl
theorem ml_M_139 : Cond.methodLink "PlaceFinderModel" 139 y_M_in ∈ GW := GW_of (tm5 (List.mem_of_getElem? (i := 209) (by decide +kernel))) rfl
theorem lk_M_139 : LK "PlaceFinderModel" 139 y_M_in prog_13_method_3_code 3 (some .boolean) 3 := ⟨co_M_in, ii_M, Or.inl ml_M_139, by decide +kernel⟩
theorem sc_M_in : Cond.static y_M_in ∈ GW := GW_of (tm5 (List.mem_of_getElem? (i := 210) (by decide +kernel))) rfl
theorem co_M_isDay : Cond.code y_M_isDay prog_13_method_5_code 1 (some .boolean) ∈ GW := GW_of (tm5 (List.mem_of_getElem? (i := 229) (by decide +kernel))) rfl
theorem ml_M_143 : Cond.methodLink "PlaceFinderModel" 143 y_M_isDay ∈ GW := GW_of (tm5 (List.mem_of_getElem? (i := 227) (by decide +kernel))) rfl
theorem lk_M_143 : LK "PlaceFinderModel" 143 y_M_isDay prog_13_method_5_code 1 (some .boolean) 1 := ⟨co_M_isDay, ii_M, Or.inl ml_M_143, by decide +kernel⟩
theorem sc_M_isDay : Cond.static y_M_isDay ∈ GW := GW_of (tm5 (List.mem_of_getElem? (i := 228) (by decide +kernel))) rfl
theorem fp_M_132 : FP "PlaceFinderModel" 132 12 0 .int false := ⟨_, _, _, "PlaceFinderModel", t_M, rfl, by decide, uw_M, Or.inl rfl, t_M_ok, n_M, rfl, rfl, Or.inl ⟨fl_M_132, fun q => nomatch q⟩⟩
theorem fd_M_7 : FD "PlaceFinderModel" 7 12 2 := ⟨_, _, _, "PlaceFinderModel", rfl, by decide, uw_M, Or.inl rfl, Or.inl fl_M_7⟩
theorem fd_M_13 : FD "PlaceFinderModel" 13 12 3 := ⟨_, _, _, "PlaceFinderModel", rfl, by decide, uw_M, Or.inl rfl, Or.inl fl_M_13⟩
theorem fp_M_136 : FP "PlaceFinderModel" 136 12 1 .int false := ⟨_, _, _, "PlaceFinderModel", t_M, rfl, by decide, uw_M, Or.inl rfl, t_M_ok, n_M, rfl, rfl, Or.inl ⟨fl_M_136, fun q => nomatch q⟩⟩
theorem fd_M_58 : FD "PlaceFinderModel" 58 12 19 := ⟨_, _, _, "PlaceFinderModel", rfl, by decide, uw_M, Or.inl rfl, Or.inl fl_M_58⟩
theorem fl_M_151 : Cond.fieldLink "PlaceFinderModel" 151 "PlaceFinderModel" "corners" "I" ∈ GW := GW_of (tm5 (List.mem_of_getElem? (i := 52) (by decide +kernel))) rfl
theorem fd_M_151 : FD "PlaceFinderModel" 151 12 18 := ⟨_, _, _, "PlaceFinderModel", rfl, by decide, uw_M, Or.inl rfl, Or.inl fl_M_151⟩
theorem fd_M_61 : FD "PlaceFinderModel" 61 12 20 := ⟨_, _, _, "PlaceFinderModel", rfl, by decide, uw_M, Or.inl rfl, Or.inl fl_M_61⟩
theorem fp_M_151 : FP "PlaceFinderModel" 151 12 18 .int false := ⟨_, _, _, "PlaceFinderModel", t_M, rfl, by decide, uw_M, Or.inl rfl, t_M_ok, n_M, rfl, rfl, Or.inl ⟨fl_M_151, fun q => nomatch q⟩⟩
theorem co_M_isAt : Cond.code y_M_isAt prog_13_method_7_code 2 (some .boolean) ∈ GW := GW_of (tm5 (List.mem_of_getElem? (i := 218) (by decide +kernel))) rfl
theorem ml_M_147 : Cond.methodLink "PlaceFinderModel" 147 y_M_isAt ∈ GW := GW_of (tm5 (List.mem_of_getElem? (i := 216) (by decide +kernel))) rfl
theorem lk_M_147 : LK "PlaceFinderModel" 147 y_M_isAt prog_13_method_7_code 2 (some .boolean) 2 := ⟨co_M_isAt, ii_M, Or.inl ml_M_147, by decide +kernel⟩
theorem sc_M_isAt : Cond.static y_M_isAt ∈ GW := GW_of (tm5 (List.mem_of_getElem? (i := 217) (by decide +kernel))) rfl
theorem fd_M_16 : FD "PlaceFinderModel" 16 12 4 := ⟨_, _, _, "PlaceFinderModel", rfl, by decide, uw_M, Or.inl rfl, Or.inl fl_M_16⟩
theorem fd_M_25 : FD "PlaceFinderModel" 25 12 7 := ⟨_, _, _, "PlaceFinderModel", rfl, by decide, uw_M, Or.inl rfl, Or.inl fl_M_25⟩
theorem fd_M_28 : FD "PlaceFinderModel" 28 12 8 := ⟨_, _, _, "PlaceFinderModel", rfl, by decide, uw_M, Or.inl rfl, Or.inl fl_M_28⟩
theorem fd_M_19 : FD "PlaceFinderModel" 19 12 5 := ⟨_, _, _, "PlaceFinderModel", rfl, by decide, uw_M, Or.inl rfl, Or.inl fl_M_19⟩
theorem fd_M_22 : FD "PlaceFinderModel" 22 12 6 := ⟨_, _, _, "PlaceFinderModel", rfl, by decide, uw_M, Or.inl rfl, Or.inl fl_M_22⟩
theorem co_M_isPlace : Cond.code y_M_isPlace prog_13_method_4_code 2 (some .boolean) ∈ GW := GW_of (tm5 (List.mem_of_getElem? (i := 226) (by decide +kernel))) rfl
theorem ml_M_154 : Cond.methodLink "PlaceFinderModel" 154 y_M_isPlace ∈ GW := GW_of (tm5 (List.mem_of_getElem? (i := 223) (by decide +kernel))) rfl
theorem lk_M_154 : LK "PlaceFinderModel" 154 y_M_isPlace prog_13_method_4_code 2 (some .boolean) 1 := ⟨co_M_isPlace, ii_M, Or.inl ml_M_154, by decide +kernel⟩
theorem im_M_isPlace : Cond.instanceMethod y_M_isPlace ∈ GW := GW_of (tm5 (List.mem_of_getElem? (i := 225) (by decide +kernel))) rfl
theorem sl_M_isPlace : Cond.selects "PlaceFinderModel" y_M_isPlace y_M_isPlace ∈ GW := GW_of (tm0 (List.mem_of_getElem? (i := 23) (by decide +kernel))) rfl
theorem co_M_isArea : Cond.code y_M_isArea prog_13_method_10_code 4 (some .boolean) ∈ GW := GW_of (tm5 (List.mem_of_getElem? (i := 233) (by decide +kernel))) rfl
theorem ml_M_157 : Cond.methodLink "PlaceFinderModel" 157 y_M_isArea ∈ GW := GW_of (tm5 (List.mem_of_getElem? (i := 230) (by decide +kernel))) rfl
theorem lk_M_157 : LK "PlaceFinderModel" 157 y_M_isArea prog_13_method_10_code 4 (some .boolean) 0 := ⟨co_M_isArea, ii_M, Or.inl ml_M_157, by decide +kernel⟩
theorem im_M_isArea : Cond.instanceMethod y_M_isArea ∈ GW := GW_of (tm5 (List.mem_of_getElem? (i := 232) (by decide +kernel))) rfl
theorem sl_M_isArea : Cond.selects "PlaceFinderModel" y_M_isArea y_M_isArea ∈ GW := GW_of (tm0 (List.mem_of_getElem? (i := 24) (by decide +kernel))) rfl
theorem fd_M_91 : FD "PlaceFinderModel" 91 12 31 := ⟨_, _, _, "PlaceFinderModel", rfl, by decide, uw_M, Or.inl rfl, Or.inl fl_M_91⟩
theorem fd_M_94 : FD "PlaceFinderModel" 94 12 32 := ⟨_, _, _, "PlaceFinderModel", rfl, by decide, uw_M, Or.inl rfl, Or.inl fl_M_94⟩
theorem fd_M_88 : FD "PlaceFinderModel" 88 12 30 := ⟨_, _, _, "PlaceFinderModel", rfl, by decide, uw_M, Or.inl rfl, Or.inl fl_M_88⟩
theorem co_M_shapeOf : Cond.code y_M_shapeOf prog_13_method_13_code 5 (some .int) ∈ GW := GW_of (tm6 (List.mem_of_getElem? (i := 5) (by decide +kernel))) rfl
theorem ml_M_161 : Cond.methodLink "PlaceFinderModel" 161 y_M_shapeOf ∈ GW := GW_of (tm6 (List.mem_of_getElem? (i := 2) (by decide +kernel))) rfl
theorem lk_M_161 : LK "PlaceFinderModel" 161 y_M_shapeOf prog_13_method_13_code 5 (some .int) 2 := ⟨co_M_shapeOf, ii_M, Or.inl ml_M_161, by decide +kernel⟩
theorem im_M_shapeOf : Cond.instanceMethod y_M_shapeOf ∈ GW := GW_of (tm6 (List.mem_of_getElem? (i := 4) (by decide +kernel))) rfl
theorem sl_M_shapeOf : Cond.selects "PlaceFinderModel" y_M_shapeOf y_M_shapeOf ∈ GW := GW_of (tm0 (List.mem_of_getElem? (i := 25) (by decide +kernel))) rfl
theorem co_M_turn : Cond.code y_M_turn prog_13_method_15_code 6 (some .int) ∈ GW := GW_of (tm6 (List.mem_of_getElem? (i := 12) (by decide +kernel))) rfl
theorem ml_M_165 : Cond.methodLink "PlaceFinderModel" 165 y_M_turn ∈ GW := GW_of (tm6 (List.mem_of_getElem? (i := 10) (by decide +kernel))) rfl
theorem lk_M_165 : LK "PlaceFinderModel" 165 y_M_turn prog_13_method_15_code 6 (some .int) 6 := ⟨co_M_turn, ii_M, Or.inl ml_M_165, by decide +kernel⟩
theorem sc_M_turn : Cond.static y_M_turn ∈ GW := GW_of (tm6 (List.mem_of_getElem? (i := 11) (by decide +kernel))) rfl
theorem co_M_liesIn : Cond.code y_M_liesIn prog_13_method_16_code 14 (some .boolean) ∈ GW := GW_of (tm6 (List.mem_of_getElem? (i := 9) (by decide +kernel))) rfl
theorem ml_M_169 : Cond.methodLink "PlaceFinderModel" 169 y_M_liesIn ∈ GW := GW_of (tm6 (List.mem_of_getElem? (i := 6) (by decide +kernel))) rfl
theorem lk_M_169 : LK "PlaceFinderModel" 169 y_M_liesIn prog_13_method_16_code 14 (some .boolean) 3 := ⟨co_M_liesIn, ii_M, Or.inl ml_M_169, by decide +kernel⟩
theorem im_M_liesIn : Cond.instanceMethod y_M_liesIn ∈ GW := GW_of (tm6 (List.mem_of_getElem? (i := 8) (by decide +kernel))) rfl
theorem sl_M_liesIn : Cond.selects "PlaceFinderModel" y_M_liesIn y_M_liesIn ∈ GW := GW_of (tm0 (List.mem_of_getElem? (i := 26) (by decide +kernel))) rfl
theorem fl_M_172 : Cond.fieldLink "PlaceFinderModel" 172 "PlaceFinderModel" "typed" "I" ∈ GW := GW_of (tm5 (List.mem_of_getElem? (i := 55) (by decide +kernel))) rfl
theorem fd_M_172 : FD "PlaceFinderModel" 172 12 21 := ⟨_, _, _, "PlaceFinderModel", rfl, by decide, uw_M, Or.inl rfl, Or.inl fl_M_172⟩
theorem fd_M_64 : FD "PlaceFinderModel" 64 12 22 := ⟨_, _, _, "PlaceFinderModel", rfl, by decide, uw_M, Or.inl rfl, Or.inl fl_M_64⟩
theorem fp_M_172 : FP "PlaceFinderModel" 172 12 21 .int false := ⟨_, _, _, "PlaceFinderModel", t_M, rfl, by decide, uw_M, Or.inl rfl, t_M_ok, n_M, rfl, rfl, Or.inl ⟨fl_M_172, fun q => nomatch q⟩⟩
theorem co_M_typedAt : Cond.code y_M_typedAt prog_13_method_19_code 2 (some .int) ∈ GW := GW_of (tm6 (List.mem_of_getElem? (i := 32) (by decide +kernel))) rfl
theorem ml_M_175 : Cond.methodLink "PlaceFinderModel" 175 y_M_typedAt ∈ GW := GW_of (tm6 (List.mem_of_getElem? (i := 29) (by decide +kernel))) rfl
theorem lk_M_175 : LK "PlaceFinderModel" 175 y_M_typedAt prog_13_method_19_code 2 (some .int) 1 := ⟨co_M_typedAt, ii_M, Or.inl ml_M_175, by decide +kernel⟩
theorem im_M_typedAt : Cond.instanceMethod y_M_typedAt ∈ GW := GW_of (tm6 (List.mem_of_getElem? (i := 31) (by decide +kernel))) rfl
theorem sl_M_typedAt : Cond.selects "PlaceFinderModel" y_M_typedAt y_M_typedAt ∈ GW := GW_of (tm0 (List.mem_of_getElem? (i := 29) (by decide +kernel))) rfl
theorem fd_M_110 : FD "PlaceFinderModel" 110 12 39 := ⟨_, _, _, "PlaceFinderModel", rfl, by decide, uw_M, Or.inl rfl, Or.inl fl_M_110⟩
theorem fl_M_179 : Cond.fieldLink "PlaceFinderModel" 179 "PlaceFinderModel" "folded" "I" ∈ GW := GW_of (tm5 (List.mem_of_getElem? (i := 72) (by decide +kernel))) rfl
theorem fd_M_179 : FD "PlaceFinderModel" 179 12 38 := ⟨_, _, _, "PlaceFinderModel", rfl, by decide, uw_M, Or.inl rfl, Or.inl fl_M_179⟩
theorem fp_M_179 : FP "PlaceFinderModel" 179 12 38 .int false := ⟨_, _, _, "PlaceFinderModel", t_M, rfl, by decide, uw_M, Or.inl rfl, t_M_ok, n_M, rfl, rfl, Or.inl ⟨fl_M_179, fun q => nomatch q⟩⟩
theorem co_M_pairAt : Cond.code y_M_pairAt prog_13_method_20_code 4 (some .int) ∈ GW := GW_of (tm6 (List.mem_of_getElem? (i := 28) (by decide +kernel))) rfl
theorem ml_M_182 : Cond.methodLink "PlaceFinderModel" 182 y_M_pairAt ∈ GW := GW_of (tm6 (List.mem_of_getElem? (i := 25) (by decide +kernel))) rfl
theorem lk_M_182 : LK "PlaceFinderModel" 182 y_M_pairAt prog_13_method_20_code 4 (some .int) 1 := ⟨co_M_pairAt, ii_M, Or.inl ml_M_182, by decide +kernel⟩
theorem im_M_pairAt : Cond.instanceMethod y_M_pairAt ∈ GW := GW_of (tm6 (List.mem_of_getElem? (i := 27) (by decide +kernel))) rfl
theorem sl_M_pairAt : Cond.selects "PlaceFinderModel" y_M_pairAt y_M_pairAt ∈ GW := GW_of (tm0 (List.mem_of_getElem? (i := 28) (by decide +kernel))) rfl
theorem fd_M_43 : FD "PlaceFinderModel" 43 12 13 := ⟨_, _, _, "PlaceFinderModel", rfl, by decide, uw_M, Or.inl rfl, Or.inl fl_M_43⟩
theorem fd_M_40 : FD "PlaceFinderModel" 40 12 12 := ⟨_, _, _, "PlaceFinderModel", rfl, by decide, uw_M, Or.inl rfl, Or.inl fl_M_40⟩
theorem co_M_classOf : Cond.code y_M_classOf prog_13_method_23_code 1 (some .int) ∈ GW := GW_of (tm6 (List.mem_of_getElem? (i := 39) (by decide +kernel))) rfl
theorem ml_M_185 : Cond.methodLink "PlaceFinderModel" 185 y_M_classOf ∈ GW := GW_of (tm6 (List.mem_of_getElem? (i := 37) (by decide +kernel))) rfl
theorem lk_M_185 : LK "PlaceFinderModel" 185 y_M_classOf prog_13_method_23_code 1 (some .int) 1 := ⟨co_M_classOf, ii_M, Or.inl ml_M_185, by decide +kernel⟩
theorem sc_M_classOf : Cond.static y_M_classOf ∈ GW := GW_of (tm6 (List.mem_of_getElem? (i := 38) (by decide +kernel))) rfl
theorem co_M_foldTyped : Cond.code y_M_foldTyped prog_13_method_21_code 4 none ∈ GW := GW_of (tm6 (List.mem_of_getElem? (i := 24) (by decide +kernel))) rfl
theorem ml_M_188 : Cond.methodLink "PlaceFinderModel" 188 y_M_foldTyped ∈ GW := GW_of (tm6 (List.mem_of_getElem? (i := 21) (by decide +kernel))) rfl
theorem lk_M_188 : LK "PlaceFinderModel" 188 y_M_foldTyped prog_13_method_21_code 4 none 0 := ⟨co_M_foldTyped, ii_M, Or.inl ml_M_188, by decide +kernel⟩
theorem im_M_foldTyped : Cond.instanceMethod y_M_foldTyped ∈ GW := GW_of (tm6 (List.mem_of_getElem? (i := 23) (by decide +kernel))) rfl
theorem sl_M_foldTyped : Cond.selects "PlaceFinderModel" y_M_foldTyped y_M_foldTyped ∈ GW := GW_of (tm0 (List.mem_of_getElem? (i := 27) (by decide +kernel))) rfl
theorem co_M_soundOf : Cond.code y_M_soundOf prog_13_method_24_code 5 (some .int) ∈ GW := GW_of (tm6 (List.mem_of_getElem? (i := 36) (by decide +kernel))) rfl
theorem ml_M_191 : Cond.methodLink "PlaceFinderModel" 191 y_M_soundOf ∈ GW := GW_of (tm6 (List.mem_of_getElem? (i := 33) (by decide +kernel))) rfl
theorem lk_M_191 : LK "PlaceFinderModel" 191 y_M_soundOf prog_13_method_24_code 5 (some .int) 0 := ⟨co_M_soundOf, ii_M, Or.inl ml_M_191, by decide +kernel⟩
theorem im_M_soundOf : Cond.instanceMethod y_M_soundOf ∈ GW := GW_of (tm6 (List.mem_of_getElem? (i := 35) (by decide +kernel))) rfl
theorem sl_M_soundOf : Cond.selects "PlaceFinderModel" y_M_soundOf y_M_soundOf ∈ GW := GW_of (tm0 (List.mem_of_getElem? (i := 30) (by decide +kernel))) rfl
theorem fd_M_31 : FD "PlaceFinderModel" 31 12 9 := ⟨_, _, _, "PlaceFinderModel", rfl, by decide, uw_M, Or.inl rfl, Or.inl fl_M_31⟩
theorem fd_M_34 : FD "PlaceFinderModel" 34 12 10 := ⟨_, _, _, "PlaceFinderModel", rfl, by decide, uw_M, Or.inl rfl, Or.inl fl_M_34⟩
theorem fd_M_37 : FD "PlaceFinderModel" 37 12 11 := ⟨_, _, _, "PlaceFinderModel", rfl, by decide, uw_M, Or.inl rfl, Or.inl fl_M_37⟩
theorem co_M_isSpan : Cond.code y_M_isSpan prog_13_method_6_code 2 (some .boolean) ∈ GW := GW_of (tm6 (List.mem_of_getElem? (i := 46) (by decide +kernel))) rfl
theorem ml_M_195 : Cond.methodLink "PlaceFinderModel" 195 y_M_isSpan ∈ GW := GW_of (tm6 (List.mem_of_getElem? (i := 44) (by decide +kernel))) rfl
theorem lk_M_195 : LK "PlaceFinderModel" 195 y_M_isSpan prog_13_method_6_code 2 (some .boolean) 2 := ⟨co_M_isSpan, ii_M, Or.inl ml_M_195, by decide +kernel⟩
theorem sc_M_isSpan : Cond.static y_M_isSpan ∈ GW := GW_of (tm6 (List.mem_of_getElem? (i := 45) (by decide +kernel))) rfl
theorem fd_M_113 : FD "PlaceFinderModel" 113 12 40 := ⟨_, _, _, "PlaceFinderModel", rfl, by decide, uw_M, Or.inl rfl, Or.inl fl_M_113⟩
theorem co_M_errorsTo : Cond.code y_M_errorsTo prog_13_method_27_code 9 (some .int) ∈ GW := GW_of (tm6 (List.mem_of_getElem? (i := 54) (by decide +kernel))) rfl
theorem ml_M_198 : Cond.methodLink "PlaceFinderModel" 198 y_M_errorsTo ∈ GW := GW_of (tm6 (List.mem_of_getElem? (i := 51) (by decide +kernel))) rfl
theorem lk_M_198 : LK "PlaceFinderModel" 198 y_M_errorsTo prog_13_method_27_code 9 (some .int) 3 := ⟨co_M_errorsTo, ii_M, Or.inl ml_M_198, by decide +kernel⟩
theorem im_M_errorsTo : Cond.instanceMethod y_M_errorsTo ∈ GW := GW_of (tm6 (List.mem_of_getElem? (i := 53) (by decide +kernel))) rfl
theorem sl_M_errorsTo : Cond.selects "PlaceFinderModel" y_M_errorsTo y_M_errorsTo ∈ GW := GW_of (tm0 (List.mem_of_getElem? (i := 31) (by decide +kernel))) rfl
theorem fd_M_46 : FD "PlaceFinderModel" 46 12 14 := ⟨_, _, _, "PlaceFinderModel", rfl, by decide, uw_M, Or.inl rfl, Or.inl fl_M_46⟩
theorem fd_M_52 : FD "PlaceFinderModel" 52 12 16 := ⟨_, _, _, "PlaceFinderModel", rfl, by decide, uw_M, Or.inl rfl, Or.inl fl_M_52⟩
theorem fd_M_55 : FD "PlaceFinderModel" 55 12 17 := ⟨_, _, _, "PlaceFinderModel", rfl, by decide, uw_M, Or.inl rfl, Or.inl fl_M_55⟩
theorem fd_M_49 : FD "PlaceFinderModel" 49 12 15 := ⟨_, _, _, "PlaceFinderModel", rfl, by decide, uw_M, Or.inl rfl, Or.inl fl_M_49⟩
theorem co_M_parentOf : Cond.code y_M_parentOf prog_13_method_29_code 5 (some .int) ∈ GW := GW_of (tm6 (List.mem_of_getElem? (i := 66) (by decide +kernel))) rfl
theorem ml_M_202 : Cond.methodLink "PlaceFinderModel" 202 y_M_parentOf ∈ GW := GW_of (tm6 (List.mem_of_getElem? (i := 63) (by decide +kernel))) rfl
theorem lk_M_202 : LK "PlaceFinderModel" 202 y_M_parentOf prog_13_method_29_code 5 (some .int) 2 := ⟨co_M_parentOf, ii_M, Or.inl ml_M_202, by decide +kernel⟩
theorem im_M_parentOf : Cond.instanceMethod y_M_parentOf ∈ GW := GW_of (tm6 (List.mem_of_getElem? (i := 65) (by decide +kernel))) rfl
theorem sl_M_parentOf : Cond.selects "PlaceFinderModel" y_M_parentOf y_M_parentOf ∈ GW := GW_of (tm0 (List.mem_of_getElem? (i := 33) (by decide +kernel))) rfl
theorem co_M_isAbove : Cond.code y_M_isAbove prog_13_method_30_code 6 (some .boolean) ∈ GW := GW_of (tm6 (List.mem_of_getElem? (i := 62) (by decide +kernel))) rfl
theorem ml_M_205 : Cond.methodLink "PlaceFinderModel" 205 y_M_isAbove ∈ GW := GW_of (tm6 (List.mem_of_getElem? (i := 59) (by decide +kernel))) rfl
theorem lk_M_205 : LK "PlaceFinderModel" 205 y_M_isAbove prog_13_method_30_code 6 (some .boolean) 3 := ⟨co_M_isAbove, ii_M, Or.inl ml_M_205, by decide +kernel⟩
theorem im_M_isAbove : Cond.instanceMethod y_M_isAbove ∈ GW := GW_of (tm6 (List.mem_of_getElem? (i := 61) (by decide +kernel))) rfl
theorem sl_M_isAbove : Cond.selects "PlaceFinderModel" y_M_isAbove y_M_isAbove ∈ GW := GW_of (tm0 (List.mem_of_getElem? (i := 32) (by decide +kernel))) rfl
theorem fd_M_67 : FD "PlaceFinderModel" 67 12 23 := ⟨_, _, _, "PlaceFinderModel", rfl, by decide, uw_M, Or.inl rfl, Or.inl fl_M_67⟩
theorem fd_M_85 : FD "PlaceFinderModel" 85 12 29 := ⟨_, _, _, "PlaceFinderModel", rfl, by decide, uw_M, Or.inl rfl, Or.inl fl_M_85⟩
theorem fd_M_70 : FD "PlaceFinderModel" 70 12 24 := ⟨_, _, _, "PlaceFinderModel", rfl, by decide, uw_M, Or.inl rfl, Or.inl fl_M_70⟩
theorem fd_M_73 : FD "PlaceFinderModel" 73 12 25 := ⟨_, _, _, "PlaceFinderModel", rfl, by decide, uw_M, Or.inl rfl, Or.inl fl_M_73⟩
theorem fd_M_76 : FD "PlaceFinderModel" 76 12 26 := ⟨_, _, _, "PlaceFinderModel", rfl, by decide, uw_M, Or.inl rfl, Or.inl fl_M_76⟩
theorem fd_M_79 : FD "PlaceFinderModel" 79 12 27 := ⟨_, _, _, "PlaceFinderModel", rfl, by decide, uw_M, Or.inl rfl, Or.inl fl_M_79⟩
theorem fd_M_82 : FD "PlaceFinderModel" 82 12 28 := ⟨_, _, _, "PlaceFinderModel", rfl, by decide, uw_M, Or.inl rfl, Or.inl fl_M_82⟩
theorem co_M_foldName : Cond.code y_M_foldName prog_13_method_22_code 3 none ∈ GW := GW_of (tm6 (List.mem_of_getElem? (i := 110) (by decide +kernel))) rfl
theorem ml_M_208 : Cond.methodLink "PlaceFinderModel" 208 y_M_foldName ∈ GW := GW_of (tm6 (List.mem_of_getElem? (i := 107) (by decide +kernel))) rfl
theorem lk_M_208 : LK "PlaceFinderModel" 208 y_M_foldName prog_13_method_22_code 3 none 1 := ⟨co_M_foldName, ii_M, Or.inl ml_M_208, by decide +kernel⟩
theorem im_M_foldName : Cond.instanceMethod y_M_foldName ∈ GW := GW_of (tm6 (List.mem_of_getElem? (i := 109) (by decide +kernel))) rfl
theorem sl_M_foldName : Cond.selects "PlaceFinderModel" y_M_foldName y_M_foldName ∈ GW := GW_of (tm0 (List.mem_of_getElem? (i := 39) (by decide +kernel))) rfl
theorem co_M_isOf : Cond.code y_M_isOf prog_13_method_37_code 3 (some .boolean) ∈ GW := GW_of (tm6 (List.mem_of_getElem? (i := 102) (by decide +kernel))) rfl
theorem ml_M_212 : Cond.methodLink "PlaceFinderModel" 212 y_M_isOf ∈ GW := GW_of (tm6 (List.mem_of_getElem? (i := 99) (by decide +kernel))) rfl
theorem lk_M_212 : LK "PlaceFinderModel" 212 y_M_isOf prog_13_method_37_code 3 (some .boolean) 2 := ⟨co_M_isOf, ii_M, Or.inl ml_M_212, by decide +kernel⟩
theorem im_M_isOf : Cond.instanceMethod y_M_isOf ∈ GW := GW_of (tm6 (List.mem_of_getElem? (i := 101) (by decide +kernel))) rfl
theorem sl_M_isOf : Cond.selects "PlaceFinderModel" y_M_isOf y_M_isOf ∈ GW := GW_of (tm0 (List.mem_of_getElem? (i := 37) (by decide +kernel))) rfl
theorem co_M_isNamed : Cond.code y_M_isNamed prog_13_method_36_code 7 (some .boolean) ∈ GW := GW_of (tm6 (List.mem_of_getElem? (i := 106) (by decide +kernel))) rfl
theorem ml_M_215 : Cond.methodLink "PlaceFinderModel" 215 y_M_isNamed ∈ GW := GW_of (tm6 (List.mem_of_getElem? (i := 103) (by decide +kernel))) rfl
theorem lk_M_215 : LK "PlaceFinderModel" 215 y_M_isNamed prog_13_method_36_code 7 (some .boolean) 2 := ⟨co_M_isNamed, ii_M, Or.inl ml_M_215, by decide +kernel⟩
theorem im_M_isNamed : Cond.instanceMethod y_M_isNamed ∈ GW := GW_of (tm6 (List.mem_of_getElem? (i := 105) (by decide +kernel))) rfl
theorem sl_M_isNamed : Cond.selects "PlaceFinderModel" y_M_isNamed y_M_isNamed ∈ GW := GW_of (tm0 (List.mem_of_getElem? (i := 38) (by decide +kernel))) rfl
theorem fl_M_225 : Cond.fieldLink "PlaceFinderModel" 225 "PlaceFinderModel" "farUp" "J" ∈ GW := GW_of (tm5 (List.mem_of_getElem? (i := 75) (by decide +kernel))) rfl
theorem fp_M_225 : FP "PlaceFinderModel" 225 12 41 .long false := ⟨_, _, _, "PlaceFinderModel", t_M, rfl, by decide, uw_M, Or.inl rfl, t_M_ok, n_M, rfl, rfl, Or.inl ⟨fl_M_225, fun q => nomatch q⟩⟩
theorem fl_M_228 : Cond.fieldLink "PlaceFinderModel" 228 "PlaceFinderModel" "alongUp" "J" ∈ GW := GW_of (tm5 (List.mem_of_getElem? (i := 77) (by decide +kernel))) rfl
theorem fp_M_228 : FP "PlaceFinderModel" 228 12 43 .long false := ⟨_, _, _, "PlaceFinderModel", t_M, rfl, by decide, uw_M, Or.inl rfl, t_M_ok, n_M, rfl, rfl, Or.inl ⟨fl_M_228, fun q => nomatch q⟩⟩
theorem fl_M_218 : Cond.fieldLink "PlaceFinderModel" 218 "PlaceFinderModel" "alongDown" "J" ∈ GW := GW_of (tm5 (List.mem_of_getElem? (i := 78) (by decide +kernel))) rfl
theorem fp_M_218 : FP "PlaceFinderModel" 218 12 44 .long false := ⟨_, _, _, "PlaceFinderModel", t_M, rfl, by decide, uw_M, Or.inl rfl, t_M_ok, n_M, rfl, rfl, Or.inl ⟨fl_M_218, fun q => nomatch q⟩⟩
theorem fl_M_222 : Cond.fieldLink "PlaceFinderModel" 222 "PlaceFinderModel" "farDown" "J" ∈ GW := GW_of (tm5 (List.mem_of_getElem? (i := 76) (by decide +kernel))) rfl
theorem fp_M_222 : FP "PlaceFinderModel" 222 12 42 .long false := ⟨_, _, _, "PlaceFinderModel", t_M, rfl, by decide, uw_M, Or.inl rfl, t_M_ok, n_M, rfl, rfl, Or.inl ⟨fl_M_222, fun q => nomatch q⟩⟩
theorem fd_M_228 : FD "PlaceFinderModel" 228 12 43 := ⟨_, _, _, "PlaceFinderModel", rfl, by decide, uw_M, Or.inl rfl, Or.inl fl_M_228⟩
theorem fd_M_218 : FD "PlaceFinderModel" 218 12 44 := ⟨_, _, _, "PlaceFinderModel", rfl, by decide, uw_M, Or.inl rfl, Or.inl fl_M_218⟩
theorem fl_M_244 : Cond.fieldLink "PlaceFinderModel" 244 "PlaceFinderModel" "placeUp" "J" ∈ GW := GW_of (tm5 (List.mem_of_getElem? (i := 81) (by decide +kernel))) rfl
theorem fd_M_244 : FD "PlaceFinderModel" 244 12 47 := ⟨_, _, _, "PlaceFinderModel", rfl, by decide, uw_M, Or.inl rfl, Or.inl fl_M_244⟩
theorem fl_M_247 : Cond.fieldLink "PlaceFinderModel" 247 "PlaceFinderModel" "placeDown" "J" ∈ GW := GW_of (tm5 (List.mem_of_getElem? (i := 82) (by decide +kernel))) rfl
theorem fd_M_247 : FD "PlaceFinderModel" 247 12 48 := ⟨_, _, _, "PlaceFinderModel", rfl, by decide, uw_M, Or.inl rfl, Or.inl fl_M_247⟩
theorem co_M_compareFractions : Cond.code y_M_compareFractions prog_13_method_41_code 21 (some .int) ∈ GW := GW_of (tm6 (List.mem_of_getElem? (i := 137) (by decide +kernel))) rfl
theorem ml_M_240 : Cond.methodLink "PlaceFinderModel" 240 y_M_compareFractions ∈ GW := GW_of (tm6 (List.mem_of_getElem? (i := 135) (by decide +kernel))) rfl
theorem lk_M_240 : LK "PlaceFinderModel" 240 y_M_compareFractions prog_13_method_41_code 21 (some .int) 4 := ⟨co_M_compareFractions, ii_M, Or.inl ml_M_240, by decide +kernel⟩
theorem sc_M_compareFractions : Cond.static y_M_compareFractions ∈ GW := GW_of (tm6 (List.mem_of_getElem? (i := 136) (by decide +kernel))) rfl
theorem fl_M_231 : Cond.fieldLink "PlaceFinderModel" 231 "PlaceFinderModel" "nearSide" "I" ∈ GW := GW_of (tm5 (List.mem_of_getElem? (i := 83) (by decide +kernel))) rfl
theorem fd_M_231 : FD "PlaceFinderModel" 231 12 49 := ⟨_, _, _, "PlaceFinderModel", rfl, by decide, uw_M, Or.inl rfl, Or.inl fl_M_231⟩
theorem fd_M_225 : FD "PlaceFinderModel" 225 12 41 := ⟨_, _, _, "PlaceFinderModel", rfl, by decide, uw_M, Or.inl rfl, Or.inl fl_M_225⟩
theorem fd_M_222 : FD "PlaceFinderModel" 222 12 42 := ⟨_, _, _, "PlaceFinderModel", rfl, by decide, uw_M, Or.inl rfl, Or.inl fl_M_222⟩
theorem fl_M_234 : Cond.fieldLink "PlaceFinderModel" 234 "PlaceFinderModel" "nearUp" "J" ∈ GW := GW_of (tm5 (List.mem_of_getElem? (i := 79) (by decide +kernel))) rfl
theorem fd_M_234 : FD "PlaceFinderModel" 234 12 45 := ⟨_, _, _, "PlaceFinderModel", rfl, by decide, uw_M, Or.inl rfl, Or.inl fl_M_234⟩
theorem fl_M_237 : Cond.fieldLink "PlaceFinderModel" 237 "PlaceFinderModel" "nearDown" "J" ∈ GW := GW_of (tm5 (List.mem_of_getElem? (i := 80) (by decide +kernel))) rfl
theorem fd_M_237 : FD "PlaceFinderModel" 237 12 46 := ⟨_, _, _, "PlaceFinderModel", rfl, by decide, uw_M, Or.inl rfl, Or.inl fl_M_237⟩
theorem co_M_measure : Cond.code y_M_measure prog_13_method_42_code 17 none ∈ GW := GW_of (tm6 (List.mem_of_getElem? (i := 130) (by decide +kernel))) rfl
theorem ml_M_250 : Cond.methodLink "PlaceFinderModel" 250 y_M_measure ∈ GW := GW_of (tm6 (List.mem_of_getElem? (i := 127) (by decide +kernel))) rfl
theorem lk_M_250 : LK "PlaceFinderModel" 250 y_M_measure prog_13_method_42_code 17 none 6 := ⟨co_M_measure, ii_M, Or.inl ml_M_250, by decide +kernel⟩
theorem im_M_measure : Cond.instanceMethod y_M_measure ∈ GW := GW_of (tm6 (List.mem_of_getElem? (i := 129) (by decide +kernel))) rfl
theorem sl_M_measure : Cond.selects "PlaceFinderModel" y_M_measure y_M_measure ∈ GW := GW_of (tm0 (List.mem_of_getElem? (i := 44) (by decide +kernel))) rfl
theorem co_M_isNearer : Cond.code y_M_isNearer prog_13_method_43_code 3 (some .boolean) ∈ GW := GW_of (tm6 (List.mem_of_getElem? (i := 134) (by decide +kernel))) rfl
theorem ml_M_254 : Cond.methodLink "PlaceFinderModel" 254 y_M_isNearer ∈ GW := GW_of (tm6 (List.mem_of_getElem? (i := 131) (by decide +kernel))) rfl
theorem lk_M_254 : LK "PlaceFinderModel" 254 y_M_isNearer prog_13_method_43_code 3 (some .boolean) 1 := ⟨co_M_isNearer, ii_M, Or.inl ml_M_254, by decide +kernel⟩
theorem im_M_isNearer : Cond.instanceMethod y_M_isNearer ∈ GW := GW_of (tm6 (List.mem_of_getElem? (i := 133) (by decide +kernel))) rfl
theorem sl_M_isNearer : Cond.selects "PlaceFinderModel" y_M_isNearer y_M_isNearer ∈ GW := GW_of (tm0 (List.mem_of_getElem? (i := 45) (by decide +kernel))) rfl
theorem fp_M_231 : FP "PlaceFinderModel" 231 12 49 .int false := ⟨_, _, _, "PlaceFinderModel", t_M, rfl, by decide, uw_M, Or.inl rfl, t_M_ok, n_M, rfl, rfl, Or.inl ⟨fl_M_231, fun q => nomatch q⟩⟩
theorem fp_M_234 : FP "PlaceFinderModel" 234 12 45 .long false := ⟨_, _, _, "PlaceFinderModel", t_M, rfl, by decide, uw_M, Or.inl rfl, t_M_ok, n_M, rfl, rfl, Or.inl ⟨fl_M_234, fun q => nomatch q⟩⟩
theorem fp_M_237 : FP "PlaceFinderModel" 237 12 46 .long false := ⟨_, _, _, "PlaceFinderModel", t_M, rfl, by decide, uw_M, Or.inl rfl, t_M_ok, n_M, rfl, rfl, Or.inl ⟨fl_M_237, fun q => nomatch q⟩⟩
theorem fp_M_244 : FP "PlaceFinderModel" 244 12 47 .long false := ⟨_, _, _, "PlaceFinderModel", t_M, rfl, by decide, uw_M, Or.inl rfl, t_M_ok, n_M, rfl, rfl, Or.inl ⟨fl_M_244, fun q => nomatch q⟩⟩
theorem fp_M_247 : FP "PlaceFinderModel" 247 12 48 .long false := ⟨_, _, _, "PlaceFinderModel", t_M, rfl, by decide, uw_M, Or.inl rfl, t_M_ok, n_M, rfl, rfl, Or.inl ⟨fl_M_247, fun q => nomatch q⟩⟩
theorem co_M_nearest : Cond.code y_M_nearest prog_13_method_44_code 8 none ∈ GW := GW_of (tm6 (List.mem_of_getElem? (i := 126) (by decide +kernel))) rfl
theorem ml_M_257 : Cond.methodLink "PlaceFinderModel" 257 y_M_nearest ∈ GW := GW_of (tm6 (List.mem_of_getElem? (i := 123) (by decide +kernel))) rfl
theorem lk_M_257 : LK "PlaceFinderModel" 257 y_M_nearest prog_13_method_44_code 8 none 3 := ⟨co_M_nearest, ii_M, Or.inl ml_M_257, by decide +kernel⟩
theorem im_M_nearest : Cond.instanceMethod y_M_nearest ∈ GW := GW_of (tm6 (List.mem_of_getElem? (i := 125) (by decide +kernel))) rfl
theorem sl_M_nearest : Cond.selects "PlaceFinderModel" y_M_nearest y_M_nearest ∈ GW := GW_of (tm0 (List.mem_of_getElem? (i := 43) (by decide +kernel))) rfl
theorem co_M_isOnRoute : Cond.code y_M_isOnRoute prog_13_method_45_code 5 (some .boolean) ∈ GW := GW_of (tm6 (List.mem_of_getElem? (i := 122) (by decide +kernel))) rfl
theorem ml_M_274 : Cond.methodLink "PlaceFinderModel" 274 y_M_isOnRoute ∈ GW := GW_of (tm6 (List.mem_of_getElem? (i := 119) (by decide +kernel))) rfl
theorem lk_M_274 : LK "PlaceFinderModel" 274 y_M_isOnRoute prog_13_method_45_code 5 (some .boolean) 4 := ⟨co_M_isOnRoute, ii_M, Or.inl ml_M_274, by decide +kernel⟩
theorem im_M_isOnRoute : Cond.instanceMethod y_M_isOnRoute ∈ GW := GW_of (tm6 (List.mem_of_getElem? (i := 121) (by decide +kernel))) rfl
theorem sl_M_isOnRoute : Cond.selects "PlaceFinderModel" y_M_isOnRoute y_M_isOnRoute ∈ GW := GW_of (tm0 (List.mem_of_getElem? (i := 42) (by decide +kernel))) rfl
theorem co_M_square : Cond.code y_M_square prog_13_method_40_code 10 (some .int) ∈ GW := GW_of (tm6 (List.mem_of_getElem? (i := 118) (by decide +kernel))) rfl
theorem ml_M_270 : Cond.methodLink "PlaceFinderModel" 270 y_M_square ∈ GW := GW_of (tm6 (List.mem_of_getElem? (i := 115) (by decide +kernel))) rfl
theorem lk_M_270 : LK "PlaceFinderModel" 270 y_M_square prog_13_method_40_code 10 (some .int) 4 := ⟨co_M_square, ii_M, Or.inl ml_M_270, by decide +kernel⟩
theorem im_M_square : Cond.instanceMethod y_M_square ∈ GW := GW_of (tm6 (List.mem_of_getElem? (i := 117) (by decide +kernel))) rfl
theorem sl_M_square : Cond.selects "PlaceFinderModel" y_M_square y_M_square ∈ GW := GW_of (tm0 (List.mem_of_getElem? (i := 41) (by decide +kernel))) rfl
theorem co_M_isInside : Cond.code y_M_isInside prog_13_method_39_code 8 (some .boolean) ∈ GW := GW_of (tm6 (List.mem_of_getElem? (i := 114) (by decide +kernel))) rfl
theorem ml_M_267 : Cond.methodLink "PlaceFinderModel" 267 y_M_isInside ∈ GW := GW_of (tm6 (List.mem_of_getElem? (i := 111) (by decide +kernel))) rfl
theorem lk_M_267 : LK "PlaceFinderModel" 267 y_M_isInside prog_13_method_39_code 8 (some .boolean) 3 := ⟨co_M_isInside, ii_M, Or.inl ml_M_267, by decide +kernel⟩
theorem im_M_isInside : Cond.instanceMethod y_M_isInside ∈ GW := GW_of (tm6 (List.mem_of_getElem? (i := 113) (by decide +kernel))) rfl
theorem sl_M_isInside : Cond.selects "PlaceFinderModel" y_M_isInside y_M_isInside ∈ GW := GW_of (tm0 (List.mem_of_getElem? (i := 40) (by decide +kernel))) rfl
theorem co_M_hasName : Cond.code y_M_hasName prog_13_method_38_code 6 (some .boolean) ∈ GW := GW_of (tm6 (List.mem_of_getElem? (i := 98) (by decide +kernel))) rfl
theorem ml_M_264 : Cond.methodLink "PlaceFinderModel" 264 y_M_hasName ∈ GW := GW_of (tm6 (List.mem_of_getElem? (i := 95) (by decide +kernel))) rfl
theorem lk_M_264 : LK "PlaceFinderModel" 264 y_M_hasName prog_13_method_38_code 6 (some .boolean) 3 := ⟨co_M_hasName, ii_M, Or.inl ml_M_264, by decide +kernel⟩
theorem im_M_hasName : Cond.instanceMethod y_M_hasName ∈ GW := GW_of (tm6 (List.mem_of_getElem? (i := 97) (by decide +kernel))) rfl
theorem sl_M_hasName : Cond.selects "PlaceFinderModel" y_M_hasName y_M_hasName ∈ GW := GW_of (tm0 (List.mem_of_getElem? (i := 36) (by decide +kernel))) rfl
theorem co_M_isThere : Cond.code y_M_isThere prog_13_method_14_code 3 (some .boolean) ∈ GW := GW_of (tm6 (List.mem_of_getElem? (i := 94) (by decide +kernel))) rfl
theorem ml_M_261 : Cond.methodLink "PlaceFinderModel" 261 y_M_isThere ∈ GW := GW_of (tm6 (List.mem_of_getElem? (i := 91) (by decide +kernel))) rfl
theorem lk_M_261 : LK "PlaceFinderModel" 261 y_M_isThere prog_13_method_14_code 3 (some .boolean) 2 := ⟨co_M_isThere, ii_M, Or.inl ml_M_261, by decide +kernel⟩
theorem im_M_isThere : Cond.instanceMethod y_M_isThere ∈ GW := GW_of (tm6 (List.mem_of_getElem? (i := 93) (by decide +kernel))) rfl
theorem sl_M_isThere : Cond.selects "PlaceFinderModel" y_M_isThere y_M_isThere ∈ GW := GW_of (tm0 (List.mem_of_getElem? (i := 35) (by decide +kernel))) rfl
theorem fd_M_122 : FD "PlaceFinderModel" 122 12 52 := ⟨_, _, _, "PlaceFinderModel", rfl, by decide, uw_M, Or.inl rfl, Or.inl fl_M_122⟩
theorem fd_M_125 : FD "PlaceFinderModel" 125 12 53 := ⟨_, _, _, "PlaceFinderModel", rfl, by decide, uw_M, Or.inl rfl, Or.inl fl_M_125⟩
theorem fd_M_129 : FD "PlaceFinderModel" 129 12 54 := ⟨_, _, _, "PlaceFinderModel", rfl, by decide, uw_M, Or.inl rfl, Or.inl fl_M_129⟩
theorem co_M_firstCondition : Cond.code y_M_firstCondition prog_13_method_48_code 5 (some .int) ∈ GW := GW_of (tm6 (List.mem_of_getElem? (i := 145) (by decide +kernel))) rfl
theorem ml_M_278 : Cond.methodLink "PlaceFinderModel" 278 y_M_firstCondition ∈ GW := GW_of (tm6 (List.mem_of_getElem? (i := 142) (by decide +kernel))) rfl
theorem lk_M_278 : LK "PlaceFinderModel" 278 y_M_firstCondition prog_13_method_48_code 5 (some .int) 2 := ⟨co_M_firstCondition, ii_M, Or.inl ml_M_278, by decide +kernel⟩
theorem im_M_firstCondition : Cond.instanceMethod y_M_firstCondition ∈ GW := GW_of (tm6 (List.mem_of_getElem? (i := 144) (by decide +kernel))) rfl
theorem sl_M_firstCondition : Cond.selects "PlaceFinderModel" y_M_firstCondition y_M_firstCondition ∈ GW := GW_of (tm0 (List.mem_of_getElem? (i := 47) (by decide +kernel))) rfl
theorem fd_M_119 : FD "PlaceFinderModel" 119 12 51 := ⟨_, _, _, "PlaceFinderModel", rfl, by decide, uw_M, Or.inl rfl, Or.inl fl_M_119⟩
theorem fd_M_116 : FD "PlaceFinderModel" 116 12 50 := ⟨_, _, _, "PlaceFinderModel", rfl, by decide, uw_M, Or.inl rfl, Or.inl fl_M_116⟩
theorem co_M_compareWords : Cond.code y_M_compareWords prog_13_method_47_code 4 (some .int) ∈ GW := GW_of (tm6 (List.mem_of_getElem? (i := 149) (by decide +kernel))) rfl
theorem ml_M_281 : Cond.methodLink "PlaceFinderModel" 281 y_M_compareWords ∈ GW := GW_of (tm6 (List.mem_of_getElem? (i := 146) (by decide +kernel))) rfl
theorem lk_M_281 : LK "PlaceFinderModel" 281 y_M_compareWords prog_13_method_47_code 4 (some .int) 2 := ⟨co_M_compareWords, ii_M, Or.inl ml_M_281, by decide +kernel⟩
theorem im_M_compareWords : Cond.instanceMethod y_M_compareWords ∈ GW := GW_of (tm6 (List.mem_of_getElem? (i := 148) (by decide +kernel))) rfl
theorem sl_M_compareWords : Cond.selects "PlaceFinderModel" y_M_compareWords y_M_compareWords ∈ GW := GW_of (tm0 (List.mem_of_getElem? (i := 48) (by decide +kernel))) rfl
theorem fd_M_107 : FD "PlaceFinderModel" 107 12 37 := ⟨_, _, _, "PlaceFinderModel", rfl, by decide, uw_M, Or.inl rfl, Or.inl fl_M_107⟩
theorem fl_M_284 : Cond.fieldLink "PlaceFinderModel" 284 "PlaceFinderModel" "found" "I" ∈ GW := GW_of (tm5 (List.mem_of_getElem? (i := 70) (by decide +kernel))) rfl
theorem fd_M_284 : FD "PlaceFinderModel" 284 12 36 := ⟨_, _, _, "PlaceFinderModel", rfl, by decide, uw_M, Or.inl rfl, Or.inl fl_M_284⟩
theorem fp_M_284 : FP "PlaceFinderModel" 284 12 36 .int false := ⟨_, _, _, "PlaceFinderModel", t_M, rfl, by decide, uw_M, Or.inl rfl, t_M_ok, n_M, rfl, rfl, Or.inl ⟨fl_M_284, fun q => nomatch q⟩⟩
theorem co_M_compareKeys : Cond.code y_M_compareKeys prog_13_method_50_code 6 (some .int) ∈ GW := GW_of (tm6 (List.mem_of_getElem? (i := 157) (by decide +kernel))) rfl
theorem ml_M_287 : Cond.methodLink "PlaceFinderModel" 287 y_M_compareKeys ∈ GW := GW_of (tm6 (List.mem_of_getElem? (i := 154) (by decide +kernel))) rfl
theorem lk_M_287 : LK "PlaceFinderModel" 287 y_M_compareKeys prog_13_method_50_code 6 (some .int) 3 := ⟨co_M_compareKeys, ii_M, Or.inl ml_M_287, by decide +kernel⟩
theorem im_M_compareKeys : Cond.instanceMethod y_M_compareKeys ∈ GW := GW_of (tm6 (List.mem_of_getElem? (i := 156) (by decide +kernel))) rfl
theorem sl_M_compareKeys : Cond.selects "PlaceFinderModel" y_M_compareKeys y_M_compareKeys ∈ GW := GW_of (tm0 (List.mem_of_getElem? (i := 50) (by decide +kernel))) rfl
theorem co_M_meets : Cond.code y_M_meets prog_13_method_46_code 9 (some .boolean) ∈ GW := GW_of (tm6 (List.mem_of_getElem? (i := 90) (by decide +kernel))) rfl
theorem ml_M_291 : Cond.methodLink "PlaceFinderModel" 291 y_M_meets ∈ GW := GW_of (tm6 (List.mem_of_getElem? (i := 87) (by decide +kernel))) rfl
theorem lk_M_291 : LK "PlaceFinderModel" 291 y_M_meets prog_13_method_46_code 9 (some .boolean) 3 := ⟨co_M_meets, ii_M, Or.inl ml_M_291, by decide +kernel⟩
theorem im_M_meets : Cond.instanceMethod y_M_meets ∈ GW := GW_of (tm6 (List.mem_of_getElem? (i := 89) (by decide +kernel))) rfl
theorem sl_M_meets : Cond.selects "PlaceFinderModel" y_M_meets y_M_meets ∈ GW := GW_of (tm0 (List.mem_of_getElem? (i := 34) (by decide +kernel))) rfl
theorem co_M_makeKeys : Cond.code y_M_makeKeys prog_13_method_49_code 7 none ∈ GW := GW_of (tm6 (List.mem_of_getElem? (i := 141) (by decide +kernel))) rfl
theorem ml_M_294 : Cond.methodLink "PlaceFinderModel" 294 y_M_makeKeys ∈ GW := GW_of (tm6 (List.mem_of_getElem? (i := 138) (by decide +kernel))) rfl
theorem lk_M_294 : LK "PlaceFinderModel" 294 y_M_makeKeys prog_13_method_49_code 7 none 3 := ⟨co_M_makeKeys, ii_M, Or.inl ml_M_294, by decide +kernel⟩
theorem im_M_makeKeys : Cond.instanceMethod y_M_makeKeys ∈ GW := GW_of (tm6 (List.mem_of_getElem? (i := 140) (by decide +kernel))) rfl
theorem sl_M_makeKeys : Cond.selects "PlaceFinderModel" y_M_makeKeys y_M_makeKeys ∈ GW := GW_of (tm0 (List.mem_of_getElem? (i := 46) (by decide +kernel))) rfl
theorem co_M_insert : Cond.code y_M_insert prog_13_method_51_code 4 none ∈ GW := GW_of (tm6 (List.mem_of_getElem? (i := 153) (by decide +kernel))) rfl
theorem ml_M_297 : Cond.methodLink "PlaceFinderModel" 297 y_M_insert ∈ GW := GW_of (tm6 (List.mem_of_getElem? (i := 150) (by decide +kernel))) rfl
theorem lk_M_297 : LK "PlaceFinderModel" 297 y_M_insert prog_13_method_51_code 4 none 2 := ⟨co_M_insert, ii_M, Or.inl ml_M_297, by decide +kernel⟩
theorem im_M_insert : Cond.instanceMethod y_M_insert ∈ GW := GW_of (tm6 (List.mem_of_getElem? (i := 152) (by decide +kernel))) rfl
theorem sl_M_insert : Cond.selects "PlaceFinderModel" y_M_insert y_M_insert ∈ GW := GW_of (tm0 (List.mem_of_getElem? (i := 49) (by decide +kernel))) rfl
theorem fd_M_97 : FD "PlaceFinderModel" 97 12 33 := ⟨_, _, _, "PlaceFinderModel", rfl, by decide, uw_M, Or.inl rfl, Or.inl fl_M_97⟩
theorem fd_M_100 : FD "PlaceFinderModel" 100 12 34 := ⟨_, _, _, "PlaceFinderModel", rfl, by decide, uw_M, Or.inl rfl, Or.inl fl_M_100⟩
theorem fd_M_104 : FD "PlaceFinderModel" 104 12 35 := ⟨_, _, _, "PlaceFinderModel", rfl, by decide, uw_M, Or.inl rfl, Or.inl fl_M_104⟩
theorem co_M_isWatch : Cond.code y_M_isWatch prog_13_method_56_code 2 (some .boolean) ∈ GW := GW_of (tm6 (List.mem_of_getElem? (i := 177) (by decide +kernel))) rfl
theorem ml_M_301 : Cond.methodLink "PlaceFinderModel" 301 y_M_isWatch ∈ GW := GW_of (tm6 (List.mem_of_getElem? (i := 174) (by decide +kernel))) rfl
theorem lk_M_301 : LK "PlaceFinderModel" 301 y_M_isWatch prog_13_method_56_code 2 (some .boolean) 1 := ⟨co_M_isWatch, ii_M, Or.inl ml_M_301, by decide +kernel⟩
theorem im_M_isWatch : Cond.instanceMethod y_M_isWatch ∈ GW := GW_of (tm6 (List.mem_of_getElem? (i := 176) (by decide +kernel))) rfl
theorem sl_M_isWatch : Cond.selects "PlaceFinderModel" y_M_isWatch y_M_isWatch ∈ GW := GW_of (tm0 (List.mem_of_getElem? (i := 51) (by decide +kernel))) rfl
