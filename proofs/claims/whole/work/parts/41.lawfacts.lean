theorem co_M_place : Cond.code y_M_place prog_13_method_8_code 2 (some .int) ∈ GW := GW_of (tm5 (List.mem_of_getElem? (i := 208) (by decide +kernel))) rfl
theorem ml_L_84 : Cond.methodLink "PlaceFinderLaw" 84 y_M_place ∈ GW := GW_of (tm5 (List.mem_of_getElem? (i := 205) (by decide +kernel))) rfl
theorem lk_L_84 : LK "PlaceFinderLaw" 84 y_M_place prog_13_method_8_code 2 (some .int) 1 := ⟨co_M_place, ii_M, Or.inl ml_L_84, by decide +kernel⟩
theorem im_M_place : Cond.instanceMethod y_M_place ∈ GW := GW_of (tm5 (List.mem_of_getElem? (i := 206) (by decide +kernel))) rfl
theorem sl_M_place : Cond.selects "PlaceFinderModel" y_M_place y_M_place ∈ GW := GW_of (tm5 (List.mem_of_getElem? (i := 207) (by decide +kernel))) rfl
theorem co_M_thrown : Cond.code y_M_thrown prog_13_method_2_code 1 (some .int) ∈ GW := GW_of (tm5 (List.mem_of_getElem? (i := 204) (by decide +kernel))) rfl
theorem ml_L_85 : Cond.methodLink "PlaceFinderLaw" 85 y_M_thrown ∈ GW := GW_of (tm5 (List.mem_of_getElem? (i := 201) (by decide +kernel))) rfl
theorem lk_L_85 : LK "PlaceFinderLaw" 85 y_M_thrown prog_13_method_2_code 1 (some .int) 0 := ⟨co_M_thrown, ii_M, Or.inl ml_L_85, by decide +kernel⟩
theorem im_M_thrown : Cond.instanceMethod y_M_thrown ∈ GW := GW_of (tm5 (List.mem_of_getElem? (i := 202) (by decide +kernel))) rfl
theorem sl_M_thrown : Cond.selects "PlaceFinderModel" y_M_thrown y_M_thrown ∈ GW := GW_of (tm5 (List.mem_of_getElem? (i := 203) (by decide +kernel))) rfl
theorem co_M_corner : Cond.code y_M_corner prog_13_method_9_code 3 (some .int) ∈ GW := GW_of (tm5 (List.mem_of_getElem? (i := 215) (by decide +kernel))) rfl
theorem ml_L_92 : Cond.methodLink "PlaceFinderLaw" 92 y_M_corner ∈ GW := GW_of (tm5 (List.mem_of_getElem? (i := 212) (by decide +kernel))) rfl
theorem lk_L_92 : LK "PlaceFinderLaw" 92 y_M_corner prog_13_method_9_code 3 (some .int) 2 := ⟨co_M_corner, ii_M, Or.inl ml_L_92, by decide +kernel⟩
theorem im_M_corner : Cond.instanceMethod y_M_corner ∈ GW := GW_of (tm5 (List.mem_of_getElem? (i := 213) (by decide +kernel))) rfl
theorem sl_M_corner : Cond.selects "PlaceFinderModel" y_M_corner y_M_corner ∈ GW := GW_of (tm5 (List.mem_of_getElem? (i := 214) (by decide +kernel))) rfl
theorem co_M_shape : Cond.code y_M_shape prog_13_method_11_code 7 none ∈ GW := GW_of (tm5 (List.mem_of_getElem? (i := 222) (by decide +kernel))) rfl
theorem ml_L_96 : Cond.methodLink "PlaceFinderLaw" 96 y_M_shape ∈ GW := GW_of (tm5 (List.mem_of_getElem? (i := 219) (by decide +kernel))) rfl
theorem lk_L_96 : LK "PlaceFinderLaw" 96 y_M_shape prog_13_method_11_code 7 none 2 := ⟨co_M_shape, ii_M, Or.inl ml_L_96, by decide +kernel⟩
theorem im_M_shape : Cond.instanceMethod y_M_shape ∈ GW := GW_of (tm5 (List.mem_of_getElem? (i := 220) (by decide +kernel))) rfl
theorem sl_M_shape : Cond.selects "PlaceFinderModel" y_M_shape y_M_shape ∈ GW := GW_of (tm5 (List.mem_of_getElem? (i := 221) (by decide +kernel))) rfl
theorem co_M_name : Cond.code y_M_name prog_13_method_26_code 6 none ∈ GW := GW_of (tm6 (List.mem_of_getElem? (i := 43) (by decide +kernel))) rfl
theorem ml_L_109 : Cond.methodLink "PlaceFinderLaw" 109 y_M_name ∈ GW := GW_of (tm6 (List.mem_of_getElem? (i := 40) (by decide +kernel))) rfl
theorem lk_L_109 : LK "PlaceFinderLaw" 109 y_M_name prog_13_method_26_code 6 none 3 := ⟨co_M_name, ii_M, Or.inl ml_L_109, by decide +kernel⟩
theorem im_M_name : Cond.instanceMethod y_M_name ∈ GW := GW_of (tm6 (List.mem_of_getElem? (i := 41) (by decide +kernel))) rfl
theorem sl_M_name : Cond.selects "PlaceFinderModel" y_M_name y_M_name ∈ GW := GW_of (tm6 (List.mem_of_getElem? (i := 42) (by decide +kernel))) rfl
theorem co_M_parent : Cond.code y_M_parent prog_13_method_31_code 8 none ∈ GW := GW_of (tm6 (List.mem_of_getElem? (i := 58) (by decide +kernel))) rfl
theorem ml_L_113 : Cond.methodLink "PlaceFinderLaw" 113 y_M_parent ∈ GW := GW_of (tm6 (List.mem_of_getElem? (i := 55) (by decide +kernel))) rfl
theorem lk_L_113 : LK "PlaceFinderLaw" 113 y_M_parent prog_13_method_31_code 8 none 4 := ⟨co_M_parent, ii_M, Or.inl ml_L_113, by decide +kernel⟩
theorem im_M_parent : Cond.instanceMethod y_M_parent ∈ GW := GW_of (tm6 (List.mem_of_getElem? (i := 56) (by decide +kernel))) rfl
theorem sl_M_parent : Cond.selects "PlaceFinderModel" y_M_parent y_M_parent ∈ GW := GW_of (tm6 (List.mem_of_getElem? (i := 57) (by decide +kernel))) rfl
theorem co_M_remove : Cond.code y_M_remove prog_13_method_32_code 3 none ∈ GW := GW_of (tm6 (List.mem_of_getElem? (i := 70) (by decide +kernel))) rfl
theorem ml_L_116 : Cond.methodLink "PlaceFinderLaw" 116 y_M_remove ∈ GW := GW_of (tm6 (List.mem_of_getElem? (i := 67) (by decide +kernel))) rfl
theorem lk_L_116 : LK "PlaceFinderLaw" 116 y_M_remove prog_13_method_32_code 3 none 2 := ⟨co_M_remove, ii_M, Or.inl ml_L_116, by decide +kernel⟩
theorem im_M_remove : Cond.instanceMethod y_M_remove ∈ GW := GW_of (tm6 (List.mem_of_getElem? (i := 68) (by decide +kernel))) rfl
theorem sl_M_remove : Cond.selects "PlaceFinderModel" y_M_remove y_M_remove ∈ GW := GW_of (tm6 (List.mem_of_getElem? (i := 69) (by decide +kernel))) rfl
theorem co_M_condition : Cond.code y_M_condition prog_13_method_34_code 8 (some .int) ∈ GW := GW_of (tm6 (List.mem_of_getElem? (i := 78) (by decide +kernel))) rfl
theorem ml_L_120 : Cond.methodLink "PlaceFinderLaw" 120 y_M_condition ∈ GW := GW_of (tm6 (List.mem_of_getElem? (i := 75) (by decide +kernel))) rfl
theorem lk_L_120 : LK "PlaceFinderLaw" 120 y_M_condition prog_13_method_34_code 8 (some .int) 4 := ⟨co_M_condition, ii_M, Or.inl ml_L_120, by decide +kernel⟩
theorem im_M_condition : Cond.instanceMethod y_M_condition ∈ GW := GW_of (tm6 (List.mem_of_getElem? (i := 76) (by decide +kernel))) rfl
theorem sl_M_condition : Cond.selects "PlaceFinderModel" y_M_condition y_M_condition ∈ GW := GW_of (tm6 (List.mem_of_getElem? (i := 77) (by decide +kernel))) rfl
theorem co_M_find : Cond.code y_M_find prog_13_method_52_code 4 (some .int) ∈ GW := GW_of (tm6 (List.mem_of_getElem? (i := 86) (by decide +kernel))) rfl
theorem ml_L_127 : Cond.methodLink "PlaceFinderLaw" 127 y_M_find ∈ GW := GW_of (tm6 (List.mem_of_getElem? (i := 83) (by decide +kernel))) rfl
theorem lk_L_127 : LK "PlaceFinderLaw" 127 y_M_find prog_13_method_52_code 4 (some .int) 2 := ⟨co_M_find, ii_M, Or.inl ml_L_127, by decide +kernel⟩
theorem im_M_find : Cond.instanceMethod y_M_find ∈ GW := GW_of (tm6 (List.mem_of_getElem? (i := 84) (by decide +kernel))) rfl
theorem sl_M_find : Cond.selects "PlaceFinderModel" y_M_find y_M_find ∈ GW := GW_of (tm6 (List.mem_of_getElem? (i := 85) (by decide +kernel))) rfl
theorem co_M_near : Cond.code y_M_near prog_13_method_53_code 7 (some .int) ∈ GW := GW_of (tm6 (List.mem_of_getElem? (i := 161) (by decide +kernel))) rfl
theorem ml_L_131 : Cond.methodLink "PlaceFinderLaw" 131 y_M_near ∈ GW := GW_of (tm6 (List.mem_of_getElem? (i := 158) (by decide +kernel))) rfl
theorem lk_L_131 : LK "PlaceFinderLaw" 131 y_M_near prog_13_method_53_code 7 (some .int) 5 := ⟨co_M_near, ii_M, Or.inl ml_L_131, by decide +kernel⟩
theorem im_M_near : Cond.instanceMethod y_M_near ∈ GW := GW_of (tm6 (List.mem_of_getElem? (i := 159) (by decide +kernel))) rfl
theorem sl_M_near : Cond.selects "PlaceFinderModel" y_M_near y_M_near ∈ GW := GW_of (tm6 (List.mem_of_getElem? (i := 160) (by decide +kernel))) rfl
theorem co_M_hit : Cond.code y_M_hit prog_13_method_54_code 2 (some .int) ∈ GW := GW_of (tm6 (List.mem_of_getElem? (i := 165) (by decide +kernel))) rfl
theorem ml_L_134 : Cond.methodLink "PlaceFinderLaw" 134 y_M_hit ∈ GW := GW_of (tm6 (List.mem_of_getElem? (i := 162) (by decide +kernel))) rfl
theorem lk_L_134 : LK "PlaceFinderLaw" 134 y_M_hit prog_13_method_54_code 2 (some .int) 1 := ⟨co_M_hit, ii_M, Or.inl ml_L_134, by decide +kernel⟩
theorem im_M_hit : Cond.instanceMethod y_M_hit ∈ GW := GW_of (tm6 (List.mem_of_getElem? (i := 163) (by decide +kernel))) rfl
theorem sl_M_hit : Cond.selects "PlaceFinderModel" y_M_hit y_M_hit ∈ GW := GW_of (tm6 (List.mem_of_getElem? (i := 164) (by decide +kernel))) rfl
theorem co_M_chain : Cond.code y_M_chain prog_13_method_33_code 6 (some .int) ∈ GW := GW_of (tm6 (List.mem_of_getElem? (i := 74) (by decide +kernel))) rfl
theorem ml_L_138 : Cond.methodLink "PlaceFinderLaw" 138 y_M_chain ∈ GW := GW_of (tm6 (List.mem_of_getElem? (i := 71) (by decide +kernel))) rfl
theorem lk_L_138 : LK "PlaceFinderLaw" 138 y_M_chain prog_13_method_33_code 6 (some .int) 3 := ⟨co_M_chain, ii_M, Or.inl ml_L_138, by decide +kernel⟩
theorem im_M_chain : Cond.instanceMethod y_M_chain ∈ GW := GW_of (tm6 (List.mem_of_getElem? (i := 72) (by decide +kernel))) rfl
theorem sl_M_chain : Cond.selects "PlaceFinderModel" y_M_chain y_M_chain ∈ GW := GW_of (tm6 (List.mem_of_getElem? (i := 73) (by decide +kernel))) rfl
theorem co_M_holds : Cond.code y_M_holds prog_13_method_17_code 6 (some .int) ∈ GW := GW_of (tm6 (List.mem_of_getElem? (i := 1) (by decide +kernel))) rfl
theorem ml_L_141 : Cond.methodLink "PlaceFinderLaw" 141 y_M_holds ∈ GW := GW_of (tm5 (List.mem_of_getElem? (i := 238) (by decide +kernel))) rfl
theorem lk_L_141 : LK "PlaceFinderLaw" 141 y_M_holds prog_13_method_17_code 6 (some .int) 4 := ⟨co_M_holds, ii_M, Or.inl ml_L_141, by decide +kernel⟩
theorem im_M_holds : Cond.instanceMethod y_M_holds ∈ GW := GW_of (tm5 (List.mem_of_getElem? (i := 239) (by decide +kernel))) rfl
theorem sl_M_holds : Cond.selects "PlaceFinderModel" y_M_holds y_M_holds ∈ GW := GW_of (tm6 (List.mem_of_getElem? (i := 0) (by decide +kernel))) rfl
theorem co_M_errors : Cond.code y_M_errors prog_13_method_28_code 4 (some .int) ∈ GW := GW_of (tm6 (List.mem_of_getElem? (i := 50) (by decide +kernel))) rfl
theorem ml_L_148 : Cond.methodLink "PlaceFinderLaw" 148 y_M_errors ∈ GW := GW_of (tm6 (List.mem_of_getElem? (i := 47) (by decide +kernel))) rfl
theorem lk_L_148 : LK "PlaceFinderLaw" 148 y_M_errors prog_13_method_28_code 4 (some .int) 2 := ⟨co_M_errors, ii_M, Or.inl ml_L_148, by decide +kernel⟩
theorem im_M_errors : Cond.instanceMethod y_M_errors ∈ GW := GW_of (tm6 (List.mem_of_getElem? (i := 48) (by decide +kernel))) rfl
theorem sl_M_errors : Cond.selects "PlaceFinderModel" y_M_errors y_M_errors ∈ GW := GW_of (tm6 (List.mem_of_getElem? (i := 49) (by decide +kernel))) rfl
theorem co_M_watch : Cond.code y_M_watch prog_13_method_55_code 7 none ∈ GW := GW_of (tm6 (List.mem_of_getElem? (i := 169) (by decide +kernel))) rfl
theorem ml_L_151 : Cond.methodLink "PlaceFinderLaw" 151 y_M_watch ∈ GW := GW_of (tm6 (List.mem_of_getElem? (i := 166) (by decide +kernel))) rfl
theorem lk_L_151 : LK "PlaceFinderLaw" 151 y_M_watch prog_13_method_55_code 7 none 2 := ⟨co_M_watch, ii_M, Or.inl ml_L_151, by decide +kernel⟩
theorem im_M_watch : Cond.instanceMethod y_M_watch ∈ GW := GW_of (tm6 (List.mem_of_getElem? (i := 167) (by decide +kernel))) rfl
theorem sl_M_watch : Cond.selects "PlaceFinderModel" y_M_watch y_M_watch ∈ GW := GW_of (tm6 (List.mem_of_getElem? (i := 168) (by decide +kernel))) rfl
theorem co_M_news : Cond.code y_M_news prog_13_method_57_code 3 (some .int) ∈ GW := GW_of (tm6 (List.mem_of_getElem? (i := 173) (by decide +kernel))) rfl
theorem ml_L_154 : Cond.methodLink "PlaceFinderLaw" 154 y_M_news ∈ GW := GW_of (tm6 (List.mem_of_getElem? (i := 170) (by decide +kernel))) rfl
theorem lk_L_154 : LK "PlaceFinderLaw" 154 y_M_news prog_13_method_57_code 3 (some .int) 1 := ⟨co_M_news, ii_M, Or.inl ml_L_154, by decide +kernel⟩
theorem im_M_news : Cond.instanceMethod y_M_news ∈ GW := GW_of (tm6 (List.mem_of_getElem? (i := 171) (by decide +kernel))) rfl
theorem sl_M_news : Cond.selects "PlaceFinderModel" y_M_news y_M_news ∈ GW := GW_of (tm6 (List.mem_of_getElem? (i := 172) (by decide +kernel))) rfl
theorem co_M_told : Cond.code y_M_told prog_13_method_58_code 5 (some .int) ∈ GW := GW_of (tm6 (List.mem_of_getElem? (i := 181) (by decide +kernel))) rfl
theorem ml_L_157 : Cond.methodLink "PlaceFinderLaw" 157 y_M_told ∈ GW := GW_of (tm6 (List.mem_of_getElem? (i := 178) (by decide +kernel))) rfl
theorem lk_L_157 : LK "PlaceFinderLaw" 157 y_M_told prog_13_method_58_code 5 (some .int) 1 := ⟨co_M_told, ii_M, Or.inl ml_L_157, by decide +kernel⟩
theorem im_M_told : Cond.instanceMethod y_M_told ∈ GW := GW_of (tm6 (List.mem_of_getElem? (i := 179) (by decide +kernel))) rfl
theorem sl_M_told : Cond.selects "PlaceFinderModel" y_M_told y_M_told ∈ GW := GW_of (tm6 (List.mem_of_getElem? (i := 180) (by decide +kernel))) rfl
theorem cw_L_place : Cond.codeWith y_L_place method_3_code 4 (some .int) [(0, 9, 12, 13), (0, 9, 15, 15)] ∈ GW := GW_of (tm2 (List.mem_of_getElem? (i := 81) (by decide +kernel))) rfl
theorem ii_L : Cond.initialized "PlaceFinderLaw" ∈ GW := GW_of (tm1 (List.mem_of_getElem? (i := 0) (by decide +kernel))) rfl
theorem ml_L_79 : Cond.methodLink "PlaceFinderLaw" 79 y_L_place ∈ GW := GW_of (tm2 (List.mem_of_getElem? (i := 79) (by decide +kernel))) rfl
theorem sc_L_place : Cond.static y_L_place ∈ GW := GW_of (tm2 (List.mem_of_getElem? (i := 80) (by decide +kernel))) rfl
theorem lkw_L_79 : LKW "PlaceFinderLaw" 79 y_L_place method_3_code 4 (some .int) [(0, 9, 12, 13), (0, 9, 15, 15)] 3 := ⟨cw_L_place, ii_L, ml_L_79, sc_L_place, by decide +kernel⟩
theorem cw_L_corner : Cond.codeWith y_L_corner method_4_code 5 (some .int) [(0, 10, 13, 13), (0, 10, 17, 15)] ∈ GW := GW_of (tm3 (List.mem_of_getElem? (i := 36) (by decide +kernel))) rfl
theorem ml_L_89 : Cond.methodLink "PlaceFinderLaw" 89 y_L_corner ∈ GW := GW_of (tm3 (List.mem_of_getElem? (i := 34) (by decide +kernel))) rfl
theorem sc_L_corner : Cond.static y_L_corner ∈ GW := GW_of (tm3 (List.mem_of_getElem? (i := 35) (by decide +kernel))) rfl
theorem lkw_L_89 : LKW "PlaceFinderLaw" 89 y_L_corner method_4_code 5 (some .int) [(0, 10, 13, 13), (0, 10, 17, 15)] 4 := ⟨cw_L_corner, ii_L, ml_L_89, sc_L_corner, by decide +kernel⟩
theorem cw_L_shape : Cond.codeWith y_L_shape method_5_code 4 (some .int) [(0, 6, 9, 13), (0, 6, 12, 15)] ∈ GW := GW_of (tm3 (List.mem_of_getElem? (i := 48) (by decide +kernel))) rfl
theorem ml_L_93 : Cond.methodLink "PlaceFinderLaw" 93 y_L_shape ∈ GW := GW_of (tm3 (List.mem_of_getElem? (i := 46) (by decide +kernel))) rfl
theorem sc_L_shape : Cond.static y_L_shape ∈ GW := GW_of (tm3 (List.mem_of_getElem? (i := 47) (by decide +kernel))) rfl
theorem lkw_L_93 : LKW "PlaceFinderLaw" 93 y_L_shape method_5_code 4 (some .int) [(0, 6, 9, 13), (0, 6, 12, 15)] 3 := ⟨cw_L_shape, ii_L, ml_L_93, sc_L_shape, by decide +kernel⟩
theorem co_P_route : Cond.code y_P_route prog_1_method_5_code 1 none ∈ GW := GW_of (tm2 (List.mem_of_getElem? (i := 12) (by decide +kernel))) rfl
theorem ml_L_97 : Cond.methodLink "PlaceFinderLaw" 97 y_P_route ∈ GW := GW_of (tm2 (List.mem_of_getElem? (i := 9) (by decide +kernel))) rfl
theorem lk_L_97 : LK "PlaceFinderLaw" 97 y_P_route prog_1_method_5_code 1 none 0 := ⟨co_P_route, ii_P, Or.inl ml_L_97, by decide +kernel⟩
theorem im_P_route : Cond.instanceMethod y_P_route ∈ GW := GW_of (tm2 (List.mem_of_getElem? (i := 10) (by decide +kernel))) rfl
theorem sl_P_route : Cond.selects "PlaceFinder" y_P_route y_P_route ∈ GW := GW_of (tm2 (List.mem_of_getElem? (i := 11) (by decide +kernel))) rfl
theorem co_M_route : Cond.code y_M_route prog_13_method_12_code 2 none ∈ GW := GW_of (tm5 (List.mem_of_getElem? (i := 237) (by decide +kernel))) rfl
theorem ml_L_100 : Cond.methodLink "PlaceFinderLaw" 100 y_M_route ∈ GW := GW_of (tm5 (List.mem_of_getElem? (i := 234) (by decide +kernel))) rfl
theorem lk_L_100 : LK "PlaceFinderLaw" 100 y_M_route prog_13_method_12_code 2 none 0 := ⟨co_M_route, ii_M, Or.inl ml_L_100, by decide +kernel⟩
theorem im_M_route : Cond.instanceMethod y_M_route ∈ GW := GW_of (tm5 (List.mem_of_getElem? (i := 235) (by decide +kernel))) rfl
theorem sl_M_route : Cond.selects "PlaceFinderModel" y_M_route y_M_route ∈ GW := GW_of (tm5 (List.mem_of_getElem? (i := 236) (by decide +kernel))) rfl
theorem co_P_letter : Cond.code y_P_letter prog_1_method_6_code 2 (some .boolean) ∈ GW := GW_of (tm2 (List.mem_of_getElem? (i := 16) (by decide +kernel))) rfl
theorem ml_L_101 : Cond.methodLink "PlaceFinderLaw" 101 y_P_letter ∈ GW := GW_of (tm2 (List.mem_of_getElem? (i := 13) (by decide +kernel))) rfl
theorem lk_L_101 : LK "PlaceFinderLaw" 101 y_P_letter prog_1_method_6_code 2 (some .boolean) 1 := ⟨co_P_letter, ii_P, Or.inl ml_L_101, by decide +kernel⟩
theorem im_P_letter : Cond.instanceMethod y_P_letter ∈ GW := GW_of (tm2 (List.mem_of_getElem? (i := 14) (by decide +kernel))) rfl
theorem sl_P_letter : Cond.selects "PlaceFinder" y_P_letter y_P_letter ∈ GW := GW_of (tm2 (List.mem_of_getElem? (i := 15) (by decide +kernel))) rfl
theorem co_M_letter : Cond.code y_M_letter prog_13_method_18_code 2 (some .boolean) ∈ GW := GW_of (tm6 (List.mem_of_getElem? (i := 16) (by decide +kernel))) rfl
theorem ml_L_105 : Cond.methodLink "PlaceFinderLaw" 105 y_M_letter ∈ GW := GW_of (tm6 (List.mem_of_getElem? (i := 13) (by decide +kernel))) rfl
theorem lk_L_105 : LK "PlaceFinderLaw" 105 y_M_letter prog_13_method_18_code 2 (some .boolean) 1 := ⟨co_M_letter, ii_M, Or.inl ml_L_105, by decide +kernel⟩
theorem im_M_letter : Cond.instanceMethod y_M_letter ∈ GW := GW_of (tm6 (List.mem_of_getElem? (i := 14) (by decide +kernel))) rfl
theorem sl_M_letter : Cond.selects "PlaceFinderModel" y_M_letter y_M_letter ∈ GW := GW_of (tm6 (List.mem_of_getElem? (i := 15) (by decide +kernel))) rfl
theorem cw_L_name : Cond.codeWith y_L_name method_6_code 5 (some .int) [(0, 7, 10, 13), (0, 7, 14, 15)] ∈ GW := GW_of (tm3 (List.mem_of_getElem? (i := 103) (by decide +kernel))) rfl
theorem ml_L_106 : Cond.methodLink "PlaceFinderLaw" 106 y_L_name ∈ GW := GW_of (tm3 (List.mem_of_getElem? (i := 101) (by decide +kernel))) rfl
theorem sc_L_name : Cond.static y_L_name ∈ GW := GW_of (tm3 (List.mem_of_getElem? (i := 102) (by decide +kernel))) rfl
theorem lkw_L_106 : LKW "PlaceFinderLaw" 106 y_L_name method_6_code 5 (some .int) [(0, 7, 10, 13), (0, 7, 14, 15)] 4 := ⟨cw_L_name, ii_L, ml_L_106, sc_L_name, by decide +kernel⟩
theorem cw_L_parent : Cond.codeWith y_L_parent method_7_code 6 (some .int) [(0, 9, 12, 13), (0, 9, 16, 33), (0, 9, 20, 15)] ∈ GW := GW_of (tm3 (List.mem_of_getElem? (i := 132) (by decide +kernel))) rfl
theorem ml_L_110 : Cond.methodLink "PlaceFinderLaw" 110 y_L_parent ∈ GW := GW_of (tm3 (List.mem_of_getElem? (i := 130) (by decide +kernel))) rfl
theorem sc_L_parent : Cond.static y_L_parent ∈ GW := GW_of (tm3 (List.mem_of_getElem? (i := 131) (by decide +kernel))) rfl
theorem lkw_L_110 : LKW "PlaceFinderLaw" 110 y_L_parent method_7_code 6 (some .int) [(0, 9, 12, 13), (0, 9, 16, 33), (0, 9, 20, 15)] 5 := ⟨cw_L_parent, ii_L, ml_L_110, sc_L_parent, by decide +kernel⟩
theorem cw_L_remove : Cond.codeWith y_L_remove method_8_code 4 (some .int) [(0, 6, 9, 13), (0, 6, 12, 15)] ∈ GW := GW_of (tm3 (List.mem_of_getElem? (i := 193) (by decide +kernel))) rfl
theorem ml_L_114 : Cond.methodLink "PlaceFinderLaw" 114 y_L_remove ∈ GW := GW_of (tm3 (List.mem_of_getElem? (i := 191) (by decide +kernel))) rfl
theorem sc_L_remove : Cond.static y_L_remove ∈ GW := GW_of (tm3 (List.mem_of_getElem? (i := 192) (by decide +kernel))) rfl
theorem lkw_L_114 : LKW "PlaceFinderLaw" 114 y_L_remove method_8_code 4 (some .int) [(0, 6, 9, 13), (0, 6, 12, 15)] 3 := ⟨cw_L_remove, ii_L, ml_L_114, sc_L_remove, by decide +kernel⟩
theorem cw_L_condition : Cond.codeWith y_L_condition method_9_code 7 (some .int) [(0, 14, 17, 13), (0, 14, 21, 15)] ∈ GW := GW_of (tm3 (List.mem_of_getElem? (i := 205) (by decide +kernel))) rfl
theorem ml_L_117 : Cond.methodLink "PlaceFinderLaw" 117 y_L_condition ∈ GW := GW_of (tm3 (List.mem_of_getElem? (i := 203) (by decide +kernel))) rfl
theorem sc_L_condition : Cond.static y_L_condition ∈ GW := GW_of (tm3 (List.mem_of_getElem? (i := 204) (by decide +kernel))) rfl
theorem lkw_L_117 : LKW "PlaceFinderLaw" 117 y_L_condition method_9_code 7 (some .int) [(0, 14, 17, 13), (0, 14, 21, 15)] 6 := ⟨cw_L_condition, ii_L, ml_L_117, sc_L_condition, by decide +kernel⟩
theorem co_P_clear : Cond.code y_P_clear prog_1_method_11_code 1 none ∈ GW := GW_of (tm2 (List.mem_of_getElem? (i := 20) (by decide +kernel))) rfl
theorem ml_L_121 : Cond.methodLink "PlaceFinderLaw" 121 y_P_clear ∈ GW := GW_of (tm2 (List.mem_of_getElem? (i := 17) (by decide +kernel))) rfl
theorem lk_L_121 : LK "PlaceFinderLaw" 121 y_P_clear prog_1_method_11_code 1 none 0 := ⟨co_P_clear, ii_P, Or.inl ml_L_121, by decide +kernel⟩
theorem im_P_clear : Cond.instanceMethod y_P_clear ∈ GW := GW_of (tm2 (List.mem_of_getElem? (i := 18) (by decide +kernel))) rfl
theorem sl_P_clear : Cond.selects "PlaceFinder" y_P_clear y_P_clear ∈ GW := GW_of (tm2 (List.mem_of_getElem? (i := 19) (by decide +kernel))) rfl
theorem co_M_clear : Cond.code y_M_clear prog_13_method_35_code 1 none ∈ GW := GW_of (tm6 (List.mem_of_getElem? (i := 82) (by decide +kernel))) rfl
theorem ml_L_124 : Cond.methodLink "PlaceFinderLaw" 124 y_M_clear ∈ GW := GW_of (tm6 (List.mem_of_getElem? (i := 79) (by decide +kernel))) rfl
theorem lk_L_124 : LK "PlaceFinderLaw" 124 y_M_clear prog_13_method_35_code 1 none 0 := ⟨co_M_clear, ii_M, Or.inl ml_L_124, by decide +kernel⟩
theorem im_M_clear : Cond.instanceMethod y_M_clear ∈ GW := GW_of (tm6 (List.mem_of_getElem? (i := 80) (by decide +kernel))) rfl
theorem sl_M_clear : Cond.selects "PlaceFinderModel" y_M_clear y_M_clear ∈ GW := GW_of (tm6 (List.mem_of_getElem? (i := 81) (by decide +kernel))) rfl
theorem cw_L_find : Cond.codeWith y_L_find method_10_code 5 (some .int) [(0, 10, 13, 13)] ∈ GW := GW_of (tm3 (List.mem_of_getElem? (i := 222) (by decide +kernel))) rfl
theorem ml_L_125 : Cond.methodLink "PlaceFinderLaw" 125 y_L_find ∈ GW := GW_of (tm3 (List.mem_of_getElem? (i := 220) (by decide +kernel))) rfl
theorem sc_L_find : Cond.static y_L_find ∈ GW := GW_of (tm3 (List.mem_of_getElem? (i := 221) (by decide +kernel))) rfl
theorem lkw_L_125 : LKW "PlaceFinderLaw" 125 y_L_find method_10_code 5 (some .int) [(0, 10, 13, 13)] 4 := ⟨cw_L_find, ii_L, ml_L_125, sc_L_find, by decide +kernel⟩
theorem cw_L_near : Cond.codeWith y_L_near method_11_code 8 (some .int) [(0, 16, 19, 13)] ∈ GW := GW_of (tm4 (List.mem_of_getElem? (i := 126) (by decide +kernel))) rfl
theorem ml_L_128 : Cond.methodLink "PlaceFinderLaw" 128 y_L_near ∈ GW := GW_of (tm4 (List.mem_of_getElem? (i := 124) (by decide +kernel))) rfl
theorem sc_L_near : Cond.static y_L_near ∈ GW := GW_of (tm4 (List.mem_of_getElem? (i := 125) (by decide +kernel))) rfl
theorem lkw_L_128 : LKW "PlaceFinderLaw" 128 y_L_near method_11_code 8 (some .int) [(0, 16, 19, 13)] 7 := ⟨cw_L_near, ii_L, ml_L_128, sc_L_near, by decide +kernel⟩
theorem cw_L_hit : Cond.codeWith y_L_hit method_12_code 4 (some .int) [(0, 9, 12, 52)] ∈ GW := GW_of (tm4 (List.mem_of_getElem? (i := 144) (by decide +kernel))) rfl
theorem ml_L_132 : Cond.methodLink "PlaceFinderLaw" 132 y_L_hit ∈ GW := GW_of (tm4 (List.mem_of_getElem? (i := 142) (by decide +kernel))) rfl
theorem sc_L_hit : Cond.static y_L_hit ∈ GW := GW_of (tm4 (List.mem_of_getElem? (i := 143) (by decide +kernel))) rfl
theorem lkw_L_132 : LKW "PlaceFinderLaw" 132 y_L_hit method_12_code 4 (some .int) [(0, 9, 12, 52)] 3 := ⟨cw_L_hit, ii_L, ml_L_132, sc_L_hit, by decide +kernel⟩
theorem cw_L_chain : Cond.codeWith y_L_chain method_13_code 6 (some .int) [(0, 12, 15, 13)] ∈ GW := GW_of (tm4 (List.mem_of_getElem? (i := 168) (by decide +kernel))) rfl
theorem ml_L_135 : Cond.methodLink "PlaceFinderLaw" 135 y_L_chain ∈ GW := GW_of (tm4 (List.mem_of_getElem? (i := 166) (by decide +kernel))) rfl
theorem sc_L_chain : Cond.static y_L_chain ∈ GW := GW_of (tm4 (List.mem_of_getElem? (i := 167) (by decide +kernel))) rfl
theorem lkw_L_135 : LKW "PlaceFinderLaw" 135 y_L_chain method_13_code 6 (some .int) [(0, 12, 15, 13)] 5 := ⟨cw_L_chain, ii_L, ml_L_135, sc_L_chain, by decide +kernel⟩
theorem cw_L_holds : Cond.codeWith y_L_holds method_14_code 7 (some .int) [(0, 14, 17, 13)] ∈ GW := GW_of (tm4 (List.mem_of_getElem? (i := 176) (by decide +kernel))) rfl
theorem ml_L_139 : Cond.methodLink "PlaceFinderLaw" 139 y_L_holds ∈ GW := GW_of (tm4 (List.mem_of_getElem? (i := 174) (by decide +kernel))) rfl
theorem sc_L_holds : Cond.static y_L_holds ∈ GW := GW_of (tm4 (List.mem_of_getElem? (i := 175) (by decide +kernel))) rfl
theorem lkw_L_139 : LKW "PlaceFinderLaw" 139 y_L_holds method_14_code 7 (some .int) [(0, 14, 17, 13)] 6 := ⟨cw_L_holds, ii_L, ml_L_139, sc_L_holds, by decide +kernel⟩
theorem co_P_sound : Cond.code y_P_sound prog_1_method_17_code 1 (some .int) ∈ GW := GW_of (tm2 (List.mem_of_getElem? (i := 28) (by decide +kernel))) rfl
theorem ml_L_142 : Cond.methodLink "PlaceFinderLaw" 142 y_P_sound ∈ GW := GW_of (tm2 (List.mem_of_getElem? (i := 25) (by decide +kernel))) rfl
theorem lk_L_142 : LK "PlaceFinderLaw" 142 y_P_sound prog_1_method_17_code 1 (some .int) 0 := ⟨co_P_sound, ii_P, Or.inl ml_L_142, by decide +kernel⟩
theorem im_P_sound : Cond.instanceMethod y_P_sound ∈ GW := GW_of (tm2 (List.mem_of_getElem? (i := 26) (by decide +kernel))) rfl
theorem sl_P_sound : Cond.selects "PlaceFinder" y_P_sound y_P_sound ∈ GW := GW_of (tm2 (List.mem_of_getElem? (i := 27) (by decide +kernel))) rfl
theorem co_M_sound : Cond.code y_M_sound prog_13_method_25_code 1 (some .int) ∈ GW := GW_of (tm6 (List.mem_of_getElem? (i := 20) (by decide +kernel))) rfl
theorem ml_L_145 : Cond.methodLink "PlaceFinderLaw" 145 y_M_sound ∈ GW := GW_of (tm6 (List.mem_of_getElem? (i := 17) (by decide +kernel))) rfl
theorem lk_L_145 : LK "PlaceFinderLaw" 145 y_M_sound prog_13_method_25_code 1 (some .int) 0 := ⟨co_M_sound, ii_M, Or.inl ml_L_145, by decide +kernel⟩
theorem im_M_sound : Cond.instanceMethod y_M_sound ∈ GW := GW_of (tm6 (List.mem_of_getElem? (i := 18) (by decide +kernel))) rfl
theorem sl_M_sound : Cond.selects "PlaceFinderModel" y_M_sound y_M_sound ∈ GW := GW_of (tm6 (List.mem_of_getElem? (i := 19) (by decide +kernel))) rfl
theorem cw_L_errors : Cond.codeWith y_L_errors method_15_code 5 (some .int) [(0, 10, 13, 64)] ∈ GW := GW_of (tm4 (List.mem_of_getElem? (i := 185) (by decide +kernel))) rfl
theorem ml_L_146 : Cond.methodLink "PlaceFinderLaw" 146 y_L_errors ∈ GW := GW_of (tm4 (List.mem_of_getElem? (i := 183) (by decide +kernel))) rfl
theorem sc_L_errors : Cond.static y_L_errors ∈ GW := GW_of (tm4 (List.mem_of_getElem? (i := 184) (by decide +kernel))) rfl
theorem lkw_L_146 : LKW "PlaceFinderLaw" 146 y_L_errors method_15_code 5 (some .int) [(0, 10, 13, 64)] 4 := ⟨cw_L_errors, ii_L, ml_L_146, sc_L_errors, by decide +kernel⟩
theorem cw_L_watch : Cond.codeWith y_L_watch method_16_code 4 (some .int) [(0, 6, 9, 13)] ∈ GW := GW_of (tm4 (List.mem_of_getElem? (i := 209) (by decide +kernel))) rfl
theorem ml_L_149 : Cond.methodLink "PlaceFinderLaw" 149 y_L_watch ∈ GW := GW_of (tm4 (List.mem_of_getElem? (i := 207) (by decide +kernel))) rfl
theorem sc_L_watch : Cond.static y_L_watch ∈ GW := GW_of (tm4 (List.mem_of_getElem? (i := 208) (by decide +kernel))) rfl
theorem lkw_L_149 : LKW "PlaceFinderLaw" 149 y_L_watch method_16_code 4 (some .int) [(0, 6, 9, 13)] 3 := ⟨cw_L_watch, ii_L, ml_L_149, sc_L_watch, by decide +kernel⟩
theorem cw_L_news : Cond.codeWith y_L_news method_17_code 4 (some .int) [(0, 9, 12, 13)] ∈ GW := GW_of (tm5 (List.mem_of_getElem? (i := 1) (by decide +kernel))) rfl
theorem ml_L_152 : Cond.methodLink "PlaceFinderLaw" 152 y_L_news ∈ GW := GW_of (tm4 (List.mem_of_getElem? (i := 239) (by decide +kernel))) rfl
theorem sc_L_news : Cond.static y_L_news ∈ GW := GW_of (tm5 (List.mem_of_getElem? (i := 0) (by decide +kernel))) rfl
theorem lkw_L_152 : LKW "PlaceFinderLaw" 152 y_L_news method_17_code 4 (some .int) [(0, 9, 12, 13)] 3 := ⟨cw_L_news, ii_L, ml_L_152, sc_L_news, by decide +kernel⟩
theorem cw_L_told : Cond.codeWith y_L_told method_18_code 4 (some .int) [(0, 9, 12, 13)] ∈ GW := GW_of (tm5 (List.mem_of_getElem? (i := 17) (by decide +kernel))) rfl
theorem ml_L_155 : Cond.methodLink "PlaceFinderLaw" 155 y_L_told ∈ GW := GW_of (tm5 (List.mem_of_getElem? (i := 15) (by decide +kernel))) rfl
theorem sc_L_told : Cond.static y_L_told ∈ GW := GW_of (tm5 (List.mem_of_getElem? (i := 16) (by decide +kernel))) rfl
theorem lkw_L_155 : LKW "PlaceFinderLaw" 155 y_L_told method_18_code 4 (some .int) [(0, 9, 12, 13)] 3 := ⟨cw_L_told, ii_L, ml_L_155, sc_L_told, by decide +kernel⟩
theorem cl_L_8 : Cond.classLink "PlaceFinderLaw" 8 "PlaceFinder" ∈ GW := GW_of (tm1 (List.mem_of_getElem? (i := 35) (by decide +kernel))) rfl
theorem ib_P : Cond.instantiable "PlaceFinder" 13 ∈ GW := GW_of (tm1 (List.mem_of_getElem? (i := 36) (by decide +kernel))) rfl
theorem nd_L_8 : ND "PlaceFinderLaw" 8 11 13 [.null, .null, .null, .int 0, .null, .null, .int 0, .null, .null, .null, .null, .null, .null] := ⟨_, _, t_P, rfl, uw_P, t_P_ok, cl_L_8, ib_P, ii_P, by decide +kernel⟩
theorem co_P_init : Cond.code y_P_init prog_1_method_1_code 1 none ∈ GW := GW_of (tm1 (List.mem_of_getElem? (i := 39) (by decide +kernel))) rfl
theorem ml_L_75 : Cond.methodLink "PlaceFinderLaw" 75 y_P_init ∈ GW := GW_of (tm1 (List.mem_of_getElem? (i := 37) (by decide +kernel))) rfl
theorem lk_L_75 : LK "PlaceFinderLaw" 75 y_P_init prog_1_method_1_code 1 none 0 := ⟨co_P_init, ii_P, Or.inl ml_L_75, by decide +kernel⟩
theorem im_P_init : Cond.instanceMethod y_P_init ∈ GW := GW_of (tm1 (List.mem_of_getElem? (i := 38) (by decide +kernel))) rfl
theorem cl_L_76 : Cond.classLink "PlaceFinderLaw" 76 "PlaceFinderModel" ∈ GW := GW_of (tm5 (List.mem_of_getElem? (i := 28) (by decide +kernel))) rfl
theorem ib_M : Cond.instantiable "PlaceFinderModel" 55 ∈ GW := GW_of (tm5 (List.mem_of_getElem? (i := 29) (by decide +kernel))) rfl
theorem nd_L_76 : ND "PlaceFinderLaw" 76 12 55 [.int 0, .int 0, .null, .null, .null, .null, .null, .null, .null, .null, .null, .null, .null, .null, .null, .null, .null, .null, .int 0, .null, .null, .int 0, .null, .null, .null, .null, .null, .null, .null, .null, .null, .null, .null, .null, .null, .null, .int 0, .null, .int 0, .null, .null, .long 0, .long 0, .long 0, .long 0, .long 0, .long 0, .long 0, .long 0, .int 0, .null, .null, .null, .null, .null] := ⟨_, _, t_M, rfl, uw_M, t_M_ok, cl_L_76, ib_M, ii_M, by decide +kernel⟩
theorem co_M_init : Cond.code y_M_init prog_13_method_1_code 1 none ∈ GW := GW_of (tm5 (List.mem_of_getElem? (i := 32) (by decide +kernel))) rfl
theorem ml_L_78 : Cond.methodLink "PlaceFinderLaw" 78 y_M_init ∈ GW := GW_of (tm5 (List.mem_of_getElem? (i := 30) (by decide +kernel))) rfl
theorem lk_L_78 : LK "PlaceFinderLaw" 78 y_M_init prog_13_method_1_code 1 none 0 := ⟨co_M_init, ii_M, Or.inl ml_L_78, by decide +kernel⟩
theorem im_M_init : Cond.instanceMethod y_M_init ∈ GW := GW_of (tm5 (List.mem_of_getElem? (i := 31) (by decide +kernel))) rfl
