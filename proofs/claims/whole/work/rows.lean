section
-- ===== PART A: goes FIRST, ahead of the names: the tables' words, and 'selects' of the private methods out of them =====
/-- a private method of a class that the tables say can be made, by its rows of tables_1 -/
def lw_okq (q : MethodName × Nat) : Prop := (q.1.cls ≠ "java/lang/invoke/MethodHandle" ∧ q.1.cls ≠ "java/lang/invoke/VarHandle") ∧ Cond.instantiable q.1.cls q.2 ∈ tables_1 ∧ Cond.privateMethod q.1 ∈ tables_1 ∧ Cond.instanceMethod q.1 ∈ tables_1
theorem lw_p0 : lw_okq (⟨"PlaceFinder$Word", "soundClass", "(I)I"⟩, 2) := ⟨⟨by decide +kernel, by decide +kernel⟩, List.mem_of_getElem? (i := 167) (by decide +kernel), List.mem_of_getElem? (i := 274) (by decide +kernel), List.mem_of_getElem? (i := 275) (by decide +kernel)⟩
theorem lw_p1 : lw_okq (⟨"java/lang/Throwable", "fillInStackTrace", "(I)Ljava/lang/Throwable;"⟩, 6) := ⟨⟨by decide +kernel, by decide +kernel⟩, List.mem_of_getElem? (i := 372) (by decide +kernel), List.mem_of_getElem? (i := 370) (by decide +kernel), List.mem_of_getElem? (i := 371) (by decide +kernel)⟩
theorem lw_p2 : lw_okq (⟨"java/util/ArrayList", "add", "(Ljava/lang/Object;[Ljava/lang/Object;I)V"⟩, 3) := ⟨⟨by decide +kernel, by decide +kernel⟩, List.mem_of_getElem? (i := 44) (by decide +kernel), List.mem_of_getElem? (i := 460) (by decide +kernel), List.mem_of_getElem? (i := 461) (by decide +kernel)⟩
theorem lw_p3 : lw_okq (⟨"java/util/ArrayList", "grow", "()[Ljava/lang/Object;"⟩, 3) := ⟨⟨by decide +kernel, by decide +kernel⟩, List.mem_of_getElem? (i := 44) (by decide +kernel), List.mem_of_getElem? (i := 464) (by decide +kernel), List.mem_of_getElem? (i := 465) (by decide +kernel)⟩
theorem lw_p4 : lw_okq (⟨"java/util/ArrayList", "grow", "(I)[Ljava/lang/Object;"⟩, 3) := ⟨⟨by decide +kernel, by decide +kernel⟩, List.mem_of_getElem? (i := 44) (by decide +kernel), List.mem_of_getElem? (i := 468) (by decide +kernel), List.mem_of_getElem? (i := 469) (by decide +kernel)⟩
theorem lw_p5 : lw_okq (⟨"PlaceFinder", "placeOf", "(I)LPlaceFinder$Place;"⟩, 13) := ⟨⟨by decide +kernel, by decide +kernel⟩, List.mem_of_getElem? (i := 36) (by decide +kernel), List.mem_of_getElem? (i := 534) (by decide +kernel), List.mem_of_getElem? (i := 535) (by decide +kernel)⟩
theorem lw_p6 : lw_okq (⟨"PlaceFinder$Corners", "doubledSurface", "()I"⟩, 3) := ⟨⟨by decide +kernel, by decide +kernel⟩, List.mem_of_getElem? (i := 70) (by decide +kernel), List.mem_of_getElem? (i := 562) (by decide +kernel), List.mem_of_getElem? (i := 563) (by decide +kernel)⟩
theorem lw_p7 : lw_okq (⟨"PlaceFinder$Corners", "following", "(I)I"⟩, 3) := ⟨⟨by decide +kernel, by decide +kernel⟩, List.mem_of_getElem? (i := 70) (by decide +kernel), List.mem_of_getElem? (i := 566) (by decide +kernel), List.mem_of_getElem? (i := 567) (by decide +kernel)⟩
theorem lw_p8 : lw_okq (⟨"PlaceFinder", "areCondition", "(IIII)Z"⟩, 13) := ⟨⟨by decide +kernel, by decide +kernel⟩, List.mem_of_getElem? (i := 36) (by decide +kernel), List.mem_of_getElem? (i := 691) (by decide +kernel), List.mem_of_getElem? (i := 692) (by decide +kernel)⟩
theorem lw_p9 : lw_okq (⟨"PlaceFinder", "firstNameCondition", "()LPlaceFinder$Condition;"⟩, 13) := ⟨⟨by decide +kernel, by decide +kernel⟩, List.mem_of_getElem? (i := 36) (by decide +kernel), List.mem_of_getElem? (i := 709) (by decide +kernel), List.mem_of_getElem? (i := 710) (by decide +kernel)⟩
theorem lw_p10 : lw_okq (⟨"PlaceFinder", "firstAround", "()LPlaceFinder$Condition;"⟩, 13) := ⟨⟨by decide +kernel, by decide +kernel⟩, List.mem_of_getElem? (i := 36) (by decide +kernel), List.mem_of_getElem? (i := 713) (by decide +kernel), List.mem_of_getElem? (i := 714) (by decide +kernel)⟩
theorem lw_p11 : lw_okq (⟨"PlaceFinder", "meets", "(LPlaceFinder$Place;Ljava/util/ArrayList;LPlaceFinder$Corners;I)Z"⟩, 13) := ⟨⟨by decide +kernel, by decide +kernel⟩, List.mem_of_getElem? (i := 36) (by decide +kernel), List.mem_of_getElem? (i := 721) (by decide +kernel), List.mem_of_getElem? (i := 722) (by decide +kernel)⟩
theorem lw_p12 : lw_okq (⟨"PlaceFinder", "fits", "(LPlaceFinder$Place;LPlaceFinder$Corners;LPlaceFinder$Condition;LPlaceFinder$Corners;I)Z"⟩, 13) := ⟨⟨by decide +kernel, by decide +kernel⟩, List.mem_of_getElem? (i := 36) (by decide +kernel), List.mem_of_getElem? (i := 730) (by decide +kernel), List.mem_of_getElem? (i := 731) (by decide +kernel)⟩
theorem lw_p13 : lw_okq (⟨"PlaceFinder", "liesInPlace", "(LPlaceFinder$Corners;II)Z"⟩, 13) := ⟨⟨by decide +kernel, by decide +kernel⟩, List.mem_of_getElem? (i := 36) (by decide +kernel), List.mem_of_getElem? (i := 734) (by decide +kernel), List.mem_of_getElem? (i := 735) (by decide +kernel)⟩
theorem lw_p14 : lw_okq (⟨"PlaceFinder$Corners", "isInBox", "(IIII)Z"⟩, 3) := ⟨⟨by decide +kernel, by decide +kernel⟩, List.mem_of_getElem? (i := 70) (by decide +kernel), List.mem_of_getElem? (i := 746) (by decide +kernel), List.mem_of_getElem? (i := 747) (by decide +kernel)⟩
theorem lw_p15 : lw_okq (⟨"PlaceFinder$RouteSearch", "measure", "(LPlaceFinder$Corners;III)V"⟩, 6) := ⟨⟨by decide +kernel, by decide +kernel⟩, List.mem_of_getElem? (i := 140) (by decide +kernel), List.mem_of_getElem? (i := 772) (by decide +kernel), List.mem_of_getElem? (i := 773) (by decide +kernel)⟩
def lw_privs_1 : List (MethodName × Nat) := [(⟨"PlaceFinder$Word", "soundClass", "(I)I"⟩, 2), (⟨"java/lang/Throwable", "fillInStackTrace", "(I)Ljava/lang/Throwable;"⟩, 6), (⟨"java/util/ArrayList", "add", "(Ljava/lang/Object;[Ljava/lang/Object;I)V"⟩, 3), (⟨"java/util/ArrayList", "grow", "()[Ljava/lang/Object;"⟩, 3), (⟨"java/util/ArrayList", "grow", "(I)[Ljava/lang/Object;"⟩, 3), (⟨"PlaceFinder", "placeOf", "(I)LPlaceFinder$Place;"⟩, 13), (⟨"PlaceFinder$Corners", "doubledSurface", "()I"⟩, 3), (⟨"PlaceFinder$Corners", "following", "(I)I"⟩, 3), (⟨"PlaceFinder", "areCondition", "(IIII)Z"⟩, 13), (⟨"PlaceFinder", "firstNameCondition", "()LPlaceFinder$Condition;"⟩, 13), (⟨"PlaceFinder", "firstAround", "()LPlaceFinder$Condition;"⟩, 13), (⟨"PlaceFinder", "meets", "(LPlaceFinder$Place;Ljava/util/ArrayList;LPlaceFinder$Corners;I)Z"⟩, 13), (⟨"PlaceFinder", "fits", "(LPlaceFinder$Place;LPlaceFinder$Corners;LPlaceFinder$Condition;LPlaceFinder$Corners;I)Z"⟩, 13), (⟨"PlaceFinder", "liesInPlace", "(LPlaceFinder$Corners;II)Z"⟩, 13), (⟨"PlaceFinder$Corners", "isInBox", "(IIII)Z"⟩, 3), (⟨"PlaceFinder$RouteSearch", "measure", "(LPlaceFinder$Corners;III)V"⟩, 6)]
theorem lw_r1 : ∀ q ∈ lw_privs_1, lw_okq q := List.forall_mem_cons.mpr ⟨lw_p0, List.forall_mem_cons.mpr ⟨lw_p1, List.forall_mem_cons.mpr ⟨lw_p2, List.forall_mem_cons.mpr ⟨lw_p3, List.forall_mem_cons.mpr ⟨lw_p4, List.forall_mem_cons.mpr ⟨lw_p5, List.forall_mem_cons.mpr ⟨lw_p6, List.forall_mem_cons.mpr ⟨lw_p7, List.forall_mem_cons.mpr ⟨lw_p8, List.forall_mem_cons.mpr ⟨lw_p9, List.forall_mem_cons.mpr ⟨lw_p10, List.forall_mem_cons.mpr ⟨lw_p11, List.forall_mem_cons.mpr ⟨lw_p12, List.forall_mem_cons.mpr ⟨lw_p13, List.forall_mem_cons.mpr ⟨lw_p14, List.forall_mem_cons.mpr ⟨lw_p15, fun _ h => absurd h List.not_mem_nil⟩⟩⟩⟩⟩⟩⟩⟩⟩⟩⟩⟩⟩⟩⟩⟩
theorem lw_p16 : lw_okq (⟨"PlaceFinder$RouteSearch", "takeIfBetter", "(IIJJJ)V"⟩, 6) := ⟨⟨by decide +kernel, by decide +kernel⟩, List.mem_of_getElem? (i := 140) (by decide +kernel), List.mem_of_getElem? (i := 776) (by decide +kernel), List.mem_of_getElem? (i := 777) (by decide +kernel)⟩
theorem lw_p17 : lw_okq (⟨"PlaceFinder", "leastName", "(LPlaceFinder$Place;LPlaceFinder$Condition;I)J"⟩, 13) := ⟨⟨by decide +kernel, by decide +kernel⟩, List.mem_of_getElem? (i := 36) (by decide +kernel), List.mem_of_getElem? (i := 788) (by decide +kernel), List.mem_of_getElem? (i := 789) (by decide +kernel)⟩
theorem lw_p18 : lw_okq (⟨"PlaceFinder", "wordFits", "(LPlaceFinder$Word;LPlaceFinder$Condition;)Z"⟩, 13) := ⟨⟨by decide +kernel, by decide +kernel⟩, List.mem_of_getElem? (i := 36) (by decide +kernel), List.mem_of_getElem? (i := 797) (by decide +kernel), List.mem_of_getElem? (i := 798) (by decide +kernel)⟩
theorem lw_p19 : lw_okq (⟨"PlaceFinder$ErrorCounter", "leastFor", "([CI[CI)I"⟩, 1) := ⟨⟨by decide +kernel, by decide +kernel⟩, List.mem_of_getElem? (i := 128) (by decide +kernel), List.mem_of_getElem? (i := 814) (by decide +kernel), List.mem_of_getElem? (i := 815) (by decide +kernel)⟩
theorem lw_p20 : lw_okq (⟨"PlaceFinder", "orderKey", "(LPlaceFinder$Place;ILPlaceFinder$Condition;LPlaceFinder$Condition;I)J"⟩, 13) := ⟨⟨by decide +kernel, by decide +kernel⟩, List.mem_of_getElem? (i := 36) (by decide +kernel), List.mem_of_getElem? (i := 822) (by decide +kernel), List.mem_of_getElem? (i := 823) (by decide +kernel)⟩
theorem lw_p21 : lw_okq (⟨"PlaceFinder", "routeKey", "(LPlaceFinder$Corners;)J"⟩, 13) := ⟨⟨by decide +kernel, by decide +kernel⟩, List.mem_of_getElem? (i := 36) (by decide +kernel), List.mem_of_getElem? (i := 833) (by decide +kernel), List.mem_of_getElem? (i := 834) (by decide +kernel)⟩
theorem lw_p22 : lw_okq (⟨"PlaceFinder", "watchOf", "(I)LPlaceFinder$Watch;"⟩, 13) := ⟨⟨by decide +kernel, by decide +kernel⟩, List.mem_of_getElem? (i := 36) (by decide +kernel), List.mem_of_getElem? (i := 967) (by decide +kernel), List.mem_of_getElem? (i := 968) (by decide +kernel)⟩
theorem lw_p23 : lw_okq (⟨"PlaceFinderModel", "isPlace", "(I)Z"⟩, 55) := ⟨⟨by decide +kernel, by decide +kernel⟩, List.mem_of_getElem? (i := 989) (by decide +kernel), List.mem_of_getElem? (i := 1184) (by decide +kernel), List.mem_of_getElem? (i := 1185) (by decide +kernel)⟩
theorem lw_p24 : lw_okq (⟨"PlaceFinderModel", "isArea", "()Z"⟩, 55) := ⟨⟨by decide +kernel, by decide +kernel⟩, List.mem_of_getElem? (i := 989) (by decide +kernel), List.mem_of_getElem? (i := 1191) (by decide +kernel), List.mem_of_getElem? (i := 1192) (by decide +kernel)⟩
theorem lw_p25 : lw_okq (⟨"PlaceFinderModel", "shapeOf", "(II)I"⟩, 55) := ⟨⟨by decide +kernel, by decide +kernel⟩, List.mem_of_getElem? (i := 989) (by decide +kernel), List.mem_of_getElem? (i := 1203) (by decide +kernel), List.mem_of_getElem? (i := 1204) (by decide +kernel)⟩
theorem lw_p26 : lw_okq (⟨"PlaceFinderModel", "liesIn", "(III)Z"⟩, 55) := ⟨⟨by decide +kernel, by decide +kernel⟩, List.mem_of_getElem? (i := 989) (by decide +kernel), List.mem_of_getElem? (i := 1207) (by decide +kernel), List.mem_of_getElem? (i := 1208) (by decide +kernel)⟩
theorem lw_p27 : lw_okq (⟨"PlaceFinderModel", "foldTyped", "()V"⟩, 55) := ⟨⟨by decide +kernel, by decide +kernel⟩, List.mem_of_getElem? (i := 989) (by decide +kernel), List.mem_of_getElem? (i := 1222) (by decide +kernel), List.mem_of_getElem? (i := 1223) (by decide +kernel)⟩
theorem lw_p28 : lw_okq (⟨"PlaceFinderModel", "pairAt", "(I)I"⟩, 55) := ⟨⟨by decide +kernel, by decide +kernel⟩, List.mem_of_getElem? (i := 989) (by decide +kernel), List.mem_of_getElem? (i := 1226) (by decide +kernel), List.mem_of_getElem? (i := 1227) (by decide +kernel)⟩
theorem lw_p29 : lw_okq (⟨"PlaceFinderModel", "typedAt", "(I)I"⟩, 55) := ⟨⟨by decide +kernel, by decide +kernel⟩, List.mem_of_getElem? (i := 989) (by decide +kernel), List.mem_of_getElem? (i := 1230) (by decide +kernel), List.mem_of_getElem? (i := 1231) (by decide +kernel)⟩
theorem lw_p30 : lw_okq (⟨"PlaceFinderModel", "soundOf", "()I"⟩, 55) := ⟨⟨by decide +kernel, by decide +kernel⟩, List.mem_of_getElem? (i := 989) (by decide +kernel), List.mem_of_getElem? (i := 1234) (by decide +kernel), List.mem_of_getElem? (i := 1235) (by decide +kernel)⟩
theorem lw_p31 : lw_okq (⟨"PlaceFinderModel", "errorsTo", "([III)I"⟩, 55) := ⟨⟨by decide +kernel, by decide +kernel⟩, List.mem_of_getElem? (i := 989) (by decide +kernel), List.mem_of_getElem? (i := 1252) (by decide +kernel), List.mem_of_getElem? (i := 1253) (by decide +kernel)⟩
def lw_privs_2 : List (MethodName × Nat) := [(⟨"PlaceFinder$RouteSearch", "takeIfBetter", "(IIJJJ)V"⟩, 6), (⟨"PlaceFinder", "leastName", "(LPlaceFinder$Place;LPlaceFinder$Condition;I)J"⟩, 13), (⟨"PlaceFinder", "wordFits", "(LPlaceFinder$Word;LPlaceFinder$Condition;)Z"⟩, 13), (⟨"PlaceFinder$ErrorCounter", "leastFor", "([CI[CI)I"⟩, 1), (⟨"PlaceFinder", "orderKey", "(LPlaceFinder$Place;ILPlaceFinder$Condition;LPlaceFinder$Condition;I)J"⟩, 13), (⟨"PlaceFinder", "routeKey", "(LPlaceFinder$Corners;)J"⟩, 13), (⟨"PlaceFinder", "watchOf", "(I)LPlaceFinder$Watch;"⟩, 13), (⟨"PlaceFinderModel", "isPlace", "(I)Z"⟩, 55), (⟨"PlaceFinderModel", "isArea", "()Z"⟩, 55), (⟨"PlaceFinderModel", "shapeOf", "(II)I"⟩, 55), (⟨"PlaceFinderModel", "liesIn", "(III)Z"⟩, 55), (⟨"PlaceFinderModel", "foldTyped", "()V"⟩, 55), (⟨"PlaceFinderModel", "pairAt", "(I)I"⟩, 55), (⟨"PlaceFinderModel", "typedAt", "(I)I"⟩, 55), (⟨"PlaceFinderModel", "soundOf", "()I"⟩, 55), (⟨"PlaceFinderModel", "errorsTo", "([III)I"⟩, 55)]
theorem lw_r2 : ∀ q ∈ lw_privs_2, lw_okq q := List.forall_mem_cons.mpr ⟨lw_p16, List.forall_mem_cons.mpr ⟨lw_p17, List.forall_mem_cons.mpr ⟨lw_p18, List.forall_mem_cons.mpr ⟨lw_p19, List.forall_mem_cons.mpr ⟨lw_p20, List.forall_mem_cons.mpr ⟨lw_p21, List.forall_mem_cons.mpr ⟨lw_p22, List.forall_mem_cons.mpr ⟨lw_p23, List.forall_mem_cons.mpr ⟨lw_p24, List.forall_mem_cons.mpr ⟨lw_p25, List.forall_mem_cons.mpr ⟨lw_p26, List.forall_mem_cons.mpr ⟨lw_p27, List.forall_mem_cons.mpr ⟨lw_p28, List.forall_mem_cons.mpr ⟨lw_p29, List.forall_mem_cons.mpr ⟨lw_p30, List.forall_mem_cons.mpr ⟨lw_p31, fun _ h => absurd h List.not_mem_nil⟩⟩⟩⟩⟩⟩⟩⟩⟩⟩⟩⟩⟩⟩⟩⟩
theorem lw_p32 : lw_okq (⟨"PlaceFinderModel", "isAbove", "(III)Z"⟩, 55) := ⟨⟨by decide +kernel, by decide +kernel⟩, List.mem_of_getElem? (i := 989) (by decide +kernel), List.mem_of_getElem? (i := 1260) (by decide +kernel), List.mem_of_getElem? (i := 1261) (by decide +kernel)⟩
theorem lw_p33 : lw_okq (⟨"PlaceFinderModel", "parentOf", "(II)I"⟩, 55) := ⟨⟨by decide +kernel, by decide +kernel⟩, List.mem_of_getElem? (i := 989) (by decide +kernel), List.mem_of_getElem? (i := 1264) (by decide +kernel), List.mem_of_getElem? (i := 1265) (by decide +kernel)⟩
theorem lw_p34 : lw_okq (⟨"PlaceFinderModel", "meets", "(III)Z"⟩, 55) := ⟨⟨by decide +kernel, by decide +kernel⟩, List.mem_of_getElem? (i := 989) (by decide +kernel), List.mem_of_getElem? (i := 1288) (by decide +kernel), List.mem_of_getElem? (i := 1289) (by decide +kernel)⟩
theorem lw_p35 : lw_okq (⟨"PlaceFinderModel", "isThere", "(II)Z"⟩, 55) := ⟨⟨by decide +kernel, by decide +kernel⟩, List.mem_of_getElem? (i := 989) (by decide +kernel), List.mem_of_getElem? (i := 1292) (by decide +kernel), List.mem_of_getElem? (i := 1293) (by decide +kernel)⟩
theorem lw_p36 : lw_okq (⟨"PlaceFinderModel", "hasName", "(III)Z"⟩, 55) := ⟨⟨by decide +kernel, by decide +kernel⟩, List.mem_of_getElem? (i := 989) (by decide +kernel), List.mem_of_getElem? (i := 1296) (by decide +kernel), List.mem_of_getElem? (i := 1297) (by decide +kernel)⟩
theorem lw_p37 : lw_okq (⟨"PlaceFinderModel", "isOf", "(II)Z"⟩, 55) := ⟨⟨by decide +kernel, by decide +kernel⟩, List.mem_of_getElem? (i := 989) (by decide +kernel), List.mem_of_getElem? (i := 1300) (by decide +kernel), List.mem_of_getElem? (i := 1301) (by decide +kernel)⟩
theorem lw_p38 : lw_okq (⟨"PlaceFinderModel", "isNamed", "(II)Z"⟩, 55) := ⟨⟨by decide +kernel, by decide +kernel⟩, List.mem_of_getElem? (i := 989) (by decide +kernel), List.mem_of_getElem? (i := 1304) (by decide +kernel), List.mem_of_getElem? (i := 1305) (by decide +kernel)⟩
theorem lw_p39 : lw_okq (⟨"PlaceFinderModel", "foldName", "(I)V"⟩, 55) := ⟨⟨by decide +kernel, by decide +kernel⟩, List.mem_of_getElem? (i := 989) (by decide +kernel), List.mem_of_getElem? (i := 1308) (by decide +kernel), List.mem_of_getElem? (i := 1309) (by decide +kernel)⟩
theorem lw_p40 : lw_okq (⟨"PlaceFinderModel", "isInside", "(III)Z"⟩, 55) := ⟨⟨by decide +kernel, by decide +kernel⟩, List.mem_of_getElem? (i := 989) (by decide +kernel), List.mem_of_getElem? (i := 1312) (by decide +kernel), List.mem_of_getElem? (i := 1313) (by decide +kernel)⟩
theorem lw_p41 : lw_okq (⟨"PlaceFinderModel", "square", "(IIII)I"⟩, 55) := ⟨⟨by decide +kernel, by decide +kernel⟩, List.mem_of_getElem? (i := 989) (by decide +kernel), List.mem_of_getElem? (i := 1316) (by decide +kernel), List.mem_of_getElem? (i := 1317) (by decide +kernel)⟩
theorem lw_p42 : lw_okq (⟨"PlaceFinderModel", "isOnRoute", "(IIII)Z"⟩, 55) := ⟨⟨by decide +kernel, by decide +kernel⟩, List.mem_of_getElem? (i := 989) (by decide +kernel), List.mem_of_getElem? (i := 1320) (by decide +kernel), List.mem_of_getElem? (i := 1321) (by decide +kernel)⟩
theorem lw_p43 : lw_okq (⟨"PlaceFinderModel", "nearest", "(III)V"⟩, 55) := ⟨⟨by decide +kernel, by decide +kernel⟩, List.mem_of_getElem? (i := 989) (by decide +kernel), List.mem_of_getElem? (i := 1324) (by decide +kernel), List.mem_of_getElem? (i := 1325) (by decide +kernel)⟩
theorem lw_p44 : lw_okq (⟨"PlaceFinderModel", "measure", "(IIIIII)V"⟩, 55) := ⟨⟨by decide +kernel, by decide +kernel⟩, List.mem_of_getElem? (i := 989) (by decide +kernel), List.mem_of_getElem? (i := 1328) (by decide +kernel), List.mem_of_getElem? (i := 1329) (by decide +kernel)⟩
theorem lw_p45 : lw_okq (⟨"PlaceFinderModel", "isNearer", "(I)Z"⟩, 55) := ⟨⟨by decide +kernel, by decide +kernel⟩, List.mem_of_getElem? (i := 989) (by decide +kernel), List.mem_of_getElem? (i := 1332) (by decide +kernel), List.mem_of_getElem? (i := 1333) (by decide +kernel)⟩
theorem lw_p46 : lw_okq (⟨"PlaceFinderModel", "makeKeys", "(III)V"⟩, 55) := ⟨⟨by decide +kernel, by decide +kernel⟩, List.mem_of_getElem? (i := 989) (by decide +kernel), List.mem_of_getElem? (i := 1339) (by decide +kernel), List.mem_of_getElem? (i := 1340) (by decide +kernel)⟩
theorem lw_p47 : lw_okq (⟨"PlaceFinderModel", "firstCondition", "(II)I"⟩, 55) := ⟨⟨by decide +kernel, by decide +kernel⟩, List.mem_of_getElem? (i := 989) (by decide +kernel), List.mem_of_getElem? (i := 1343) (by decide +kernel), List.mem_of_getElem? (i := 1344) (by decide +kernel)⟩
def lw_privs_3 : List (MethodName × Nat) := [(⟨"PlaceFinderModel", "isAbove", "(III)Z"⟩, 55), (⟨"PlaceFinderModel", "parentOf", "(II)I"⟩, 55), (⟨"PlaceFinderModel", "meets", "(III)Z"⟩, 55), (⟨"PlaceFinderModel", "isThere", "(II)Z"⟩, 55), (⟨"PlaceFinderModel", "hasName", "(III)Z"⟩, 55), (⟨"PlaceFinderModel", "isOf", "(II)Z"⟩, 55), (⟨"PlaceFinderModel", "isNamed", "(II)Z"⟩, 55), (⟨"PlaceFinderModel", "foldName", "(I)V"⟩, 55), (⟨"PlaceFinderModel", "isInside", "(III)Z"⟩, 55), (⟨"PlaceFinderModel", "square", "(IIII)I"⟩, 55), (⟨"PlaceFinderModel", "isOnRoute", "(IIII)Z"⟩, 55), (⟨"PlaceFinderModel", "nearest", "(III)V"⟩, 55), (⟨"PlaceFinderModel", "measure", "(IIIIII)V"⟩, 55), (⟨"PlaceFinderModel", "isNearer", "(I)Z"⟩, 55), (⟨"PlaceFinderModel", "makeKeys", "(III)V"⟩, 55), (⟨"PlaceFinderModel", "firstCondition", "(II)I"⟩, 55)]
theorem lw_r3 : ∀ q ∈ lw_privs_3, lw_okq q := List.forall_mem_cons.mpr ⟨lw_p32, List.forall_mem_cons.mpr ⟨lw_p33, List.forall_mem_cons.mpr ⟨lw_p34, List.forall_mem_cons.mpr ⟨lw_p35, List.forall_mem_cons.mpr ⟨lw_p36, List.forall_mem_cons.mpr ⟨lw_p37, List.forall_mem_cons.mpr ⟨lw_p38, List.forall_mem_cons.mpr ⟨lw_p39, List.forall_mem_cons.mpr ⟨lw_p40, List.forall_mem_cons.mpr ⟨lw_p41, List.forall_mem_cons.mpr ⟨lw_p42, List.forall_mem_cons.mpr ⟨lw_p43, List.forall_mem_cons.mpr ⟨lw_p44, List.forall_mem_cons.mpr ⟨lw_p45, List.forall_mem_cons.mpr ⟨lw_p46, List.forall_mem_cons.mpr ⟨lw_p47, fun _ h => absurd h List.not_mem_nil⟩⟩⟩⟩⟩⟩⟩⟩⟩⟩⟩⟩⟩⟩⟩⟩
theorem lw_p48 : lw_okq (⟨"PlaceFinderModel", "compareWords", "(II)I"⟩, 55) := ⟨⟨by decide +kernel, by decide +kernel⟩, List.mem_of_getElem? (i := 989) (by decide +kernel), List.mem_of_getElem? (i := 1347) (by decide +kernel), List.mem_of_getElem? (i := 1348) (by decide +kernel)⟩
theorem lw_p49 : lw_okq (⟨"PlaceFinderModel", "insert", "(II)V"⟩, 55) := ⟨⟨by decide +kernel, by decide +kernel⟩, List.mem_of_getElem? (i := 989) (by decide +kernel), List.mem_of_getElem? (i := 1351) (by decide +kernel), List.mem_of_getElem? (i := 1352) (by decide +kernel)⟩
theorem lw_p50 : lw_okq (⟨"PlaceFinderModel", "compareKeys", "(III)I"⟩, 55) := ⟨⟨by decide +kernel, by decide +kernel⟩, List.mem_of_getElem? (i := 989) (by decide +kernel), List.mem_of_getElem? (i := 1355) (by decide +kernel), List.mem_of_getElem? (i := 1356) (by decide +kernel)⟩
theorem lw_p51 : lw_okq (⟨"PlaceFinderModel", "isWatch", "(I)Z"⟩, 55) := ⟨⟨by decide +kernel, by decide +kernel⟩, List.mem_of_getElem? (i := 989) (by decide +kernel), List.mem_of_getElem? (i := 1375) (by decide +kernel), List.mem_of_getElem? (i := 1376) (by decide +kernel)⟩
def lw_privs_4 : List (MethodName × Nat) := [(⟨"PlaceFinderModel", "compareWords", "(II)I"⟩, 55), (⟨"PlaceFinderModel", "insert", "(II)V"⟩, 55), (⟨"PlaceFinderModel", "compareKeys", "(III)I"⟩, 55), (⟨"PlaceFinderModel", "isWatch", "(I)Z"⟩, 55)]
theorem lw_r4 : ∀ q ∈ lw_privs_4, lw_okq q := List.forall_mem_cons.mpr ⟨lw_p48, List.forall_mem_cons.mpr ⟨lw_p49, List.forall_mem_cons.mpr ⟨lw_p50, List.forall_mem_cons.mpr ⟨lw_p51, fun _ h => absurd h List.not_mem_nil⟩⟩⟩⟩
def lw_privs : List (MethodName × Nat) := lw_privs_1 ++ (lw_privs_2 ++ (lw_privs_3 ++ (lw_privs_4)))
def lw_tbl : List Cond := k2_sels lw_privs ++ tables_1
theorem lw_privs_ok : ∀ q ∈ lw_privs, lw_okq q := by
  show ∀ q ∈ lw_privs_1 ++ (lw_privs_2 ++ (lw_privs_3 ++ (lw_privs_4))), lw_okq q
  exact List.forall_mem_append.mpr ⟨lw_r1, List.forall_mem_append.mpr ⟨lw_r2, List.forall_mem_append.mpr ⟨lw_r3, lw_r4⟩⟩⟩
end
section
def T_Al : u_T := fun k => match k with
  | 0 => ("java/util/ArrayList", "elementData", "[Ljava/lang/Object;", false)
  | 1 => ("java/util/ArrayList", "size", "I", false)
  | _ => ("java/util/AbstractList", "modCount", "I", false)
def t_Al : Nat → FieldType := fun k => match k with
  | 0 => (.array (.object "java/lang/Object"))
  | 1 => .int
  | _ => .int
def T_Cn : u_T := fun k => match k with
  | 0 => ("PlaceFinder$Condition", "kind", "I", true)
  | 1 => ("PlaceFinder$Condition", "a", "I", true)
  | 2 => ("PlaceFinder$Condition", "b", "I", true)
  | 3 => ("PlaceFinder$Condition", "c", "I", true)
  | _ => ("PlaceFinder$Condition", "word", "LPlaceFinder$Word;", true)
def t_Cn : Nat → FieldType := fun k => match k with
  | 0 => .int
  | 1 => .int
  | 2 => .int
  | 3 => .int
  | _ => (.object "PlaceFinder$Word")
def T_Co : u_T := fun k => match k with
  | 0 => ("PlaceFinder$Corners", "size", "I", true)
  | 1 => ("PlaceFinder$Corners", "xs", "[I", true)
  | _ => ("PlaceFinder$Corners", "ys", "[I", true)
def t_Co : Nat → FieldType := fun k => match k with
  | 0 => .int
  | 1 => (.array .int)
  | _ => (.array .int)
def T_Ec : u_T := fun k => match k with
  | _ => ("PlaceFinder$ErrorCounter", "least", "[[I", true)
def t_Ec : Nat → FieldType := fun k => match k with
  | _ => (.array (.array .int))
def T_Hi : u_T := fun k => match k with
  | 0 => ("PlaceFinder$Hits", "numbers", "[I", true)
  | 1 => ("PlaceFinder$Hits", "keys", "[J", true)
  | _ => ("PlaceFinder$Hits", "count", "I", false)
def t_Hi : Nat → FieldType := fun k => match k with
  | 0 => (.array .int)
  | 1 => (.array .long)
  | _ => .int
def T_Li : u_T := fun k => match k with
  | 0 => ("PlaceFinder$Link", "above", "LPlaceFinder$Place;", true)
  | 1 => ("PlaceFinder$Link", "from", "I", true)
  | _ => ("PlaceFinder$Link", "to", "I", true)
def t_Li : Nat → FieldType := fun k => match k with
  | 0 => (.object "PlaceFinder$Place")
  | 1 => .int
  | _ => .int
def T_Na : u_T := fun k => match k with
  | 0 => ("PlaceFinder$Name", "word", "LPlaceFinder$Word;", true)
  | 1 => ("PlaceFinder$Name", "from", "I", true)
  | _ => ("PlaceFinder$Name", "to", "I", true)
def t_Na : Nat → FieldType := fun k => match k with
  | 0 => (.object "PlaceFinder$Word")
  | 1 => .int
  | _ => .int
def T_Pl : u_T := fun k => match k with
  | 0 => ("PlaceFinder$Place", "number", "I", true)
  | 1 => ("PlaceFinder$Place", "kind", "I", true)
  | 2 => ("PlaceFinder$Place", "removedFrom", "I", false)
  | 3 => ("PlaceFinder$Place", "shapes", "Ljava/util/ArrayList;", true)
  | 4 => ("PlaceFinder$Place", "shapeDays", "[I", true)
  | 5 => ("PlaceFinder$Place", "names", "Ljava/util/ArrayList;", true)
  | _ => ("PlaceFinder$Place", "links", "Ljava/util/ArrayList;", true)
def t_Pl : Nat → FieldType := fun k => match k with
  | 0 => .int
  | 1 => .int
  | 2 => .int
  | 3 => (.object "java/util/ArrayList")
  | 4 => (.array .int)
  | 5 => (.object "java/util/ArrayList")
  | _ => (.object "java/util/ArrayList")
def T_Rs : u_T := fun k => match k with
  | 0 => ("PlaceFinder$RouteSearch", "isFound", "Z", false)
  | 1 => ("PlaceFinder$RouteSearch", "side", "I", false)
  | 2 => ("PlaceFinder$RouteSearch", "along", "I", false)
  | 3 => ("PlaceFinder$RouteSearch", "whole", "J", false)
  | 4 => ("PlaceFinder$RouteSearch", "rest", "J", false)
  | _ => ("PlaceFinder$RouteSearch", "divisor", "J", false)
def t_Rs : Nat → FieldType := fun k => match k with
  | 0 => .boolean
  | 1 => .int
  | 2 => .int
  | 3 => .long
  | 4 => .long
  | _ => .long
def T_Wa : u_T := fun k => match k with
  | 0 => ("PlaceFinder$Watch", "conditions", "Ljava/util/ArrayList;", true)
  | 1 => ("PlaceFinder$Watch", "route", "LPlaceFinder$Corners;", true)
  | 2 => ("PlaceFinder$Watch", "day", "I", true)
  | _ => ("PlaceFinder$Watch", "toldPlaces", "I", false)
def t_Wa : Nat → FieldType := fun k => match k with
  | 0 => (.object "java/util/ArrayList")
  | 1 => (.object "PlaceFinder$Corners")
  | 2 => .int
  | _ => .int
def T_Wo : u_T := fun k => match k with
  | 0 => ("PlaceFinder$Word", "letters", "[C", true)
  | _ => ("PlaceFinder$Word", "size", "I", true)
def t_Wo : Nat → FieldType := fun k => match k with
  | 0 => (.array .char)
  | _ => .int
def T_P : u_T := fun k => match k with
  | 0 => ("PlaceFinder", "places", "Ljava/util/ArrayList;", true)
  | 1 => ("PlaceFinder", "cornerXs", "[I", true)
  | 2 => ("PlaceFinder", "cornerYs", "[I", true)
  | 3 => ("PlaceFinder", "cornerCount", "I", false)
  | 4 => ("PlaceFinder", "currentRoute", "LPlaceFinder$Corners;", false)
  | 5 => ("PlaceFinder", "typed", "[C", true)
  | 6 => ("PlaceFinder", "typedCount", "I", false)
  | 7 => ("PlaceFinder", "conditions", "Ljava/util/ArrayList;", true)
  | 8 => ("PlaceFinder", "watches", "[LPlaceFinder$Watch;", true)
  | 9 => ("PlaceFinder", "hits", "LPlaceFinder$Hits;", true)
  | 10 => ("PlaceFinder", "errorCounter", "LPlaceFinder$ErrorCounter;", true)
  | 11 => ("PlaceFinder", "routeSearch", "LPlaceFinder$RouteSearch;", true)
  | _ => ("PlaceFinder", "anyName", "LPlaceFinder$Condition;", true)
def t_P : Nat → FieldType := fun k => match k with
  | 0 => (.object "java/util/ArrayList")
  | 1 => (.array .int)
  | 2 => (.array .int)
  | 3 => .int
  | 4 => (.object "PlaceFinder$Corners")
  | 5 => (.array .char)
  | 6 => .int
  | 7 => (.object "java/util/ArrayList")
  | 8 => (.array (.object "PlaceFinder$Watch"))
  | 9 => (.object "PlaceFinder$Hits")
  | 10 => (.object "PlaceFinder$ErrorCounter")
  | 11 => (.object "PlaceFinder$RouteSearch")
  | _ => (.object "PlaceFinder$Condition")
def T_M : u_T := fun k => match k with
  | 0 => ("PlaceFinderModel", "code", "I", false)
  | 1 => ("PlaceFinderModel", "places", "I", false)
  | 2 => ("PlaceFinderModel", "kind", "[I", true)
  | 3 => ("PlaceFinderModel", "gone", "[I", true)
  | 4 => ("PlaceFinderModel", "shapes", "[I", true)
  | 5 => ("PlaceFinderModel", "shapeDay", "[I", true)
  | 6 => ("PlaceFinderModel", "shapeSize", "[I", true)
  | 7 => ("PlaceFinderModel", "shapeX", "[I", true)
  | 8 => ("PlaceFinderModel", "shapeY", "[I", true)
  | 9 => ("PlaceFinderModel", "names", "[I", true)
  | 10 => ("PlaceFinderModel", "nameFrom", "[I", true)
  | 11 => ("PlaceFinderModel", "nameTo", "[I", true)
  | 12 => ("PlaceFinderModel", "nameLength", "[I", true)
  | 13 => ("PlaceFinderModel", "nameLetter", "[I", true)
  | 14 => ("PlaceFinderModel", "spans", "[I", true)
  | 15 => ("PlaceFinderModel", "spanParent", "[I", true)
  | 16 => ("PlaceFinderModel", "spanFrom", "[I", true)
  | 17 => ("PlaceFinderModel", "spanTo", "[I", true)
  | 18 => ("PlaceFinderModel", "corners", "I", false)
  | 19 => ("PlaceFinderModel", "cornerX", "[I", true)
  | 20 => ("PlaceFinderModel", "cornerY", "[I", true)
  | 21 => ("PlaceFinderModel", "typed", "I", false)
  | 22 => ("PlaceFinderModel", "typing", "[I", true)
  | 23 => ("PlaceFinderModel", "conditions", "[I", true)
  | 24 => ("PlaceFinderModel", "conditionKind", "[I", true)
  | 25 => ("PlaceFinderModel", "numberA", "[I", true)
  | 26 => ("PlaceFinderModel", "numberB", "[I", true)
  | 27 => ("PlaceFinderModel", "numberC", "[I", true)
  | 28 => ("PlaceFinderModel", "wordLength", "[I", true)
  | 29 => ("PlaceFinderModel", "wordLetter", "[I", true)
  | 30 => ("PlaceFinderModel", "routeSize", "[I", true)
  | 31 => ("PlaceFinderModel", "routeX", "[I", true)
  | 32 => ("PlaceFinderModel", "routeY", "[I", true)
  | 33 => ("PlaceFinderModel", "watchDay", "[I", true)
  | 34 => ("PlaceFinderModel", "isSet", "[Z", true)
  | 35 => ("PlaceFinderModel", "told", "[I", true)
  | 36 => ("PlaceFinderModel", "found", "I", false)
  | 37 => ("PlaceFinderModel", "hits", "[I", true)
  | 38 => ("PlaceFinderModel", "folded", "I", false)
  | 39 => ("PlaceFinderModel", "fold", "[I", true)
  | 40 => ("PlaceFinderModel", "table", "[I", true)
  | 41 => ("PlaceFinderModel", "farUp", "J", false)
  | 42 => ("PlaceFinderModel", "farDown", "J", false)
  | 43 => ("PlaceFinderModel", "alongUp", "J", false)
  | 44 => ("PlaceFinderModel", "alongDown", "J", false)
  | 45 => ("PlaceFinderModel", "nearUp", "J", false)
  | 46 => ("PlaceFinderModel", "nearDown", "J", false)
  | 47 => ("PlaceFinderModel", "placeUp", "J", false)
  | 48 => ("PlaceFinderModel", "placeDown", "J", false)
  | 49 => ("PlaceFinderModel", "nearSide", "I", false)
  | 50 => ("PlaceFinderModel", "keyName", "[I", true)
  | 51 => ("PlaceFinderModel", "keySquare", "[I", true)
  | 52 => ("PlaceFinderModel", "keySide", "[I", true)
  | 53 => ("PlaceFinderModel", "keyUp", "[J", true)
  | _ => ("PlaceFinderModel", "keyDown", "[J", true)
def t_M : Nat → FieldType := fun k => match k with
  | 0 => .int
  | 1 => .int
  | 2 => (.array .int)
  | 3 => (.array .int)
  | 4 => (.array .int)
  | 5 => (.array .int)
  | 6 => (.array .int)
  | 7 => (.array .int)
  | 8 => (.array .int)
  | 9 => (.array .int)
  | 10 => (.array .int)
  | 11 => (.array .int)
  | 12 => (.array .int)
  | 13 => (.array .int)
  | 14 => (.array .int)
  | 15 => (.array .int)
  | 16 => (.array .int)
  | 17 => (.array .int)
  | 18 => .int
  | 19 => (.array .int)
  | 20 => (.array .int)
  | 21 => .int
  | 22 => (.array .int)
  | 23 => (.array .int)
  | 24 => (.array .int)
  | 25 => (.array .int)
  | 26 => (.array .int)
  | 27 => (.array .int)
  | 28 => (.array .int)
  | 29 => (.array .int)
  | 30 => (.array .int)
  | 31 => (.array .int)
  | 32 => (.array .int)
  | 33 => (.array .int)
  | 34 => (.array .boolean)
  | 35 => (.array .int)
  | 36 => .int
  | 37 => (.array .int)
  | 38 => .int
  | 39 => (.array .int)
  | 40 => (.array .int)
  | 41 => .long
  | 42 => .long
  | 43 => .long
  | 44 => .long
  | 45 => .long
  | 46 => .long
  | 47 => .long
  | 48 => .long
  | 49 => .int
  | 50 => (.array .int)
  | 51 => (.array .int)
  | 52 => (.array .int)
  | 53 => (.array .long)
  | _ => (.array .long)
abbrev vwCl : List vw_C := [("java/util/ArrayList", T_Al, 3), ("PlaceFinder$Condition", T_Cn, 5), ("PlaceFinder$Corners", T_Co, 3), ("PlaceFinder$ErrorCounter", T_Ec, 1), ("PlaceFinder$Hits", T_Hi, 3), ("PlaceFinder$Link", T_Li, 3), ("PlaceFinder$Name", T_Na, 3), ("PlaceFinder$Place", T_Pl, 7), ("PlaceFinder$RouteSearch", T_Rs, 6), ("PlaceFinder$Watch", T_Wa, 4), ("PlaceFinder$Word", T_Wo, 2), ("PlaceFinder", T_P, 13), ("PlaceFinderModel", T_M, 55)]
def aty : List FieldType := [.int, .long, .char, .boolean, (.object "java/lang/Object"), (.object "PlaceFinder$Watch"), (.array .int)]
abbrev y_P_init : MethodName := ⟨"PlaceFinder", "<init>", "()V"⟩
abbrev y_P_place : MethodName := ⟨"PlaceFinder", "place", "(I)I"⟩
abbrev y_P_corner : MethodName := ⟨"PlaceFinder", "corner", "(II)I"⟩
abbrev y_P_shape : MethodName := ⟨"PlaceFinder", "shape", "(II)V"⟩
abbrev y_P_route : MethodName := ⟨"PlaceFinder", "route", "()V"⟩
abbrev y_P_letter : MethodName := ⟨"PlaceFinder", "letter", "(I)Z"⟩
abbrev y_P_name : MethodName := ⟨"PlaceFinder", "name", "(III)V"⟩
abbrev y_P_parent : MethodName := ⟨"PlaceFinder", "parent", "(IIII)V"⟩
abbrev y_P_remove : MethodName := ⟨"PlaceFinder", "remove", "(II)V"⟩
abbrev y_P_condition : MethodName := ⟨"PlaceFinder", "condition", "(IIII)I"⟩
abbrev y_P_clear : MethodName := ⟨"PlaceFinder", "clear", "()V"⟩
abbrev y_P_find : MethodName := ⟨"PlaceFinder", "find", "(II)I"⟩
abbrev y_P_near : MethodName := ⟨"PlaceFinder", "near", "(IIIII)I"⟩
abbrev y_P_hit : MethodName := ⟨"PlaceFinder", "hit", "(I)I"⟩
abbrev y_P_chain : MethodName := ⟨"PlaceFinder", "chain", "(III)I"⟩
abbrev y_P_holds : MethodName := ⟨"PlaceFinder", "holds", "(IIII)I"⟩
abbrev y_P_sound : MethodName := ⟨"PlaceFinder", "sound", "()I"⟩
abbrev y_P_errors : MethodName := ⟨"PlaceFinder", "errors", "(II)I"⟩
abbrev y_P_watch : MethodName := ⟨"PlaceFinder", "watch", "(II)V"⟩
abbrev y_P_news : MethodName := ⟨"PlaceFinder", "news", "(I)I"⟩
abbrev y_P_told : MethodName := ⟨"PlaceFinder", "told", "(I)I"⟩
abbrev y_P_isKind : MethodName := ⟨"PlaceFinder", "isKind", "(I)Z"⟩
abbrev y_P_isDay : MethodName := ⟨"PlaceFinder", "isDay", "(I)Z"⟩
abbrev y_P_areSpan : MethodName := ⟨"PlaceFinder", "areSpan", "(II)Z"⟩
abbrev y_P_arePosition : MethodName := ⟨"PlaceFinder", "arePosition", "(II)Z"⟩
abbrev y_P_isDistance : MethodName := ⟨"PlaceFinder", "isDistance", "(I)Z"⟩
abbrev y_P_areCondition : MethodName := ⟨"PlaceFinder", "areCondition", "(IIII)Z"⟩
abbrev y_P_placeOf : MethodName := ⟨"PlaceFinder", "placeOf", "(I)LPlaceFinder$Place;"⟩
abbrev y_P_watchOf : MethodName := ⟨"PlaceFinder", "watchOf", "(I)LPlaceFinder$Watch;"⟩
abbrev y_P_comesTo : MethodName := ⟨"PlaceFinder", "comesTo", "(LPlaceFinder$Place;IIII)Z"⟩
abbrev y_P_meets : MethodName := ⟨"PlaceFinder", "meets", "(LPlaceFinder$Place;Ljava/util/ArrayList;LPlaceFinder$Corners;I)Z"⟩
abbrev y_P_fits : MethodName := ⟨"PlaceFinder", "fits", "(LPlaceFinder$Place;LPlaceFinder$Corners;LPlaceFinder$Condition;LPlaceFinder$Corners;I)Z"⟩
abbrev y_P_liesInPlace : MethodName := ⟨"PlaceFinder", "liesInPlace", "(LPlaceFinder$Corners;II)Z"⟩
abbrev y_P_isBelow : MethodName := ⟨"PlaceFinder", "isBelow", "(LPlaceFinder$Place;II)Z"⟩
abbrev y_P_leastName : MethodName := ⟨"PlaceFinder", "leastName", "(LPlaceFinder$Place;LPlaceFinder$Condition;I)J"⟩
abbrev y_P_wordFits : MethodName := ⟨"PlaceFinder", "wordFits", "(LPlaceFinder$Word;LPlaceFinder$Condition;)Z"⟩
abbrev y_P_firstNameCondition : MethodName := ⟨"PlaceFinder", "firstNameCondition", "()LPlaceFinder$Condition;"⟩
abbrev y_P_firstAround : MethodName := ⟨"PlaceFinder", "firstAround", "()LPlaceFinder$Condition;"⟩
abbrev y_P_orderKey : MethodName := ⟨"PlaceFinder", "orderKey", "(LPlaceFinder$Place;ILPlaceFinder$Condition;LPlaceFinder$Condition;I)J"⟩
abbrev y_P_routeKey : MethodName := ⟨"PlaceFinder", "routeKey", "(LPlaceFinder$Corners;)J"⟩
abbrev y_M_init : MethodName := ⟨"PlaceFinderModel", "<init>", "()V"⟩
abbrev y_M_thrown : MethodName := ⟨"PlaceFinderModel", "thrown", "()I"⟩
abbrev y_M_in : MethodName := ⟨"PlaceFinderModel", "in", "(III)Z"⟩
abbrev y_M_isPlace : MethodName := ⟨"PlaceFinderModel", "isPlace", "(I)Z"⟩
abbrev y_M_isDay : MethodName := ⟨"PlaceFinderModel", "isDay", "(I)Z"⟩
abbrev y_M_isSpan : MethodName := ⟨"PlaceFinderModel", "isSpan", "(II)Z"⟩
abbrev y_M_isAt : MethodName := ⟨"PlaceFinderModel", "isAt", "(II)Z"⟩
abbrev y_M_place : MethodName := ⟨"PlaceFinderModel", "place", "(I)I"⟩
abbrev y_M_corner : MethodName := ⟨"PlaceFinderModel", "corner", "(II)I"⟩
abbrev y_M_isArea : MethodName := ⟨"PlaceFinderModel", "isArea", "()Z"⟩
abbrev y_M_shape : MethodName := ⟨"PlaceFinderModel", "shape", "(II)V"⟩
abbrev y_M_route : MethodName := ⟨"PlaceFinderModel", "route", "()V"⟩
abbrev y_M_shapeOf : MethodName := ⟨"PlaceFinderModel", "shapeOf", "(II)I"⟩
abbrev y_M_isThere : MethodName := ⟨"PlaceFinderModel", "isThere", "(II)Z"⟩
abbrev y_M_turn : MethodName := ⟨"PlaceFinderModel", "turn", "(IIIIII)I"⟩
abbrev y_M_liesIn : MethodName := ⟨"PlaceFinderModel", "liesIn", "(III)Z"⟩
abbrev y_M_holds : MethodName := ⟨"PlaceFinderModel", "holds", "(IIII)I"⟩
abbrev y_M_letter : MethodName := ⟨"PlaceFinderModel", "letter", "(I)Z"⟩
abbrev y_M_typedAt : MethodName := ⟨"PlaceFinderModel", "typedAt", "(I)I"⟩
abbrev y_M_pairAt : MethodName := ⟨"PlaceFinderModel", "pairAt", "(I)I"⟩
abbrev y_M_foldTyped : MethodName := ⟨"PlaceFinderModel", "foldTyped", "()V"⟩
abbrev y_M_foldName : MethodName := ⟨"PlaceFinderModel", "foldName", "(I)V"⟩
abbrev y_M_classOf : MethodName := ⟨"PlaceFinderModel", "classOf", "(I)I"⟩
abbrev y_M_soundOf : MethodName := ⟨"PlaceFinderModel", "soundOf", "()I"⟩
abbrev y_M_sound : MethodName := ⟨"PlaceFinderModel", "sound", "()I"⟩
abbrev y_M_name : MethodName := ⟨"PlaceFinderModel", "name", "(III)V"⟩
abbrev y_M_errorsTo : MethodName := ⟨"PlaceFinderModel", "errorsTo", "([III)I"⟩
abbrev y_M_errors : MethodName := ⟨"PlaceFinderModel", "errors", "(II)I"⟩
abbrev y_M_parentOf : MethodName := ⟨"PlaceFinderModel", "parentOf", "(II)I"⟩
abbrev y_M_isAbove : MethodName := ⟨"PlaceFinderModel", "isAbove", "(III)Z"⟩
abbrev y_M_parent : MethodName := ⟨"PlaceFinderModel", "parent", "(IIII)V"⟩
abbrev y_M_remove : MethodName := ⟨"PlaceFinderModel", "remove", "(II)V"⟩
abbrev y_M_chain : MethodName := ⟨"PlaceFinderModel", "chain", "(III)I"⟩
abbrev y_M_condition : MethodName := ⟨"PlaceFinderModel", "condition", "(IIII)I"⟩
abbrev y_M_clear : MethodName := ⟨"PlaceFinderModel", "clear", "()V"⟩
abbrev y_M_isNamed : MethodName := ⟨"PlaceFinderModel", "isNamed", "(II)Z"⟩
abbrev y_M_isOf : MethodName := ⟨"PlaceFinderModel", "isOf", "(II)Z"⟩
abbrev y_M_hasName : MethodName := ⟨"PlaceFinderModel", "hasName", "(III)Z"⟩
abbrev y_M_isInside : MethodName := ⟨"PlaceFinderModel", "isInside", "(III)Z"⟩
abbrev y_M_square : MethodName := ⟨"PlaceFinderModel", "square", "(IIII)I"⟩
abbrev y_M_compareFractions : MethodName := ⟨"PlaceFinderModel", "compareFractions", "(JJJJ)I"⟩
abbrev y_M_measure : MethodName := ⟨"PlaceFinderModel", "measure", "(IIIIII)V"⟩
abbrev y_M_isNearer : MethodName := ⟨"PlaceFinderModel", "isNearer", "(I)Z"⟩
abbrev y_M_nearest : MethodName := ⟨"PlaceFinderModel", "nearest", "(III)V"⟩
abbrev y_M_isOnRoute : MethodName := ⟨"PlaceFinderModel", "isOnRoute", "(IIII)Z"⟩
abbrev y_M_meets : MethodName := ⟨"PlaceFinderModel", "meets", "(III)Z"⟩
abbrev y_M_compareWords : MethodName := ⟨"PlaceFinderModel", "compareWords", "(II)I"⟩
abbrev y_M_firstCondition : MethodName := ⟨"PlaceFinderModel", "firstCondition", "(II)I"⟩
abbrev y_M_makeKeys : MethodName := ⟨"PlaceFinderModel", "makeKeys", "(III)V"⟩
abbrev y_M_compareKeys : MethodName := ⟨"PlaceFinderModel", "compareKeys", "(III)I"⟩
abbrev y_M_insert : MethodName := ⟨"PlaceFinderModel", "insert", "(II)V"⟩
abbrev y_M_find : MethodName := ⟨"PlaceFinderModel", "find", "(II)I"⟩
abbrev y_M_near : MethodName := ⟨"PlaceFinderModel", "near", "(IIIII)I"⟩
abbrev y_M_hit : MethodName := ⟨"PlaceFinderModel", "hit", "(I)I"⟩
abbrev y_M_watch : MethodName := ⟨"PlaceFinderModel", "watch", "(II)V"⟩
abbrev y_M_isWatch : MethodName := ⟨"PlaceFinderModel", "isWatch", "(I)Z"⟩
abbrev y_M_news : MethodName := ⟨"PlaceFinderModel", "news", "(I)I"⟩
abbrev y_M_told : MethodName := ⟨"PlaceFinderModel", "told", "(I)I"⟩
abbrev y_Cn_init : MethodName := ⟨"PlaceFinder$Condition", "<init>", "(IIIILPlaceFinder$Word;)V"⟩
abbrev y_Co_init : MethodName := ⟨"PlaceFinder$Corners", "<init>", "([I[II)V"⟩
abbrev y_Co_isPoint : MethodName := ⟨"PlaceFinder$Corners", "isPoint", "()Z"⟩
abbrev y_Co_isArea : MethodName := ⟨"PlaceFinder$Corners", "isArea", "()Z"⟩
abbrev y_Co_following : MethodName := ⟨"PlaceFinder$Corners", "following", "(I)I"⟩
abbrev y_Co_doubledSurface : MethodName := ⟨"PlaceFinder$Corners", "doubledSurface", "()I"⟩
abbrev y_Co_squareTo : MethodName := ⟨"PlaceFinder$Corners", "squareTo", "(II)I"⟩
abbrev y_Co_squareFrom : MethodName := ⟨"PlaceFinder$Corners", "squareFrom", "(III)I"⟩
abbrev y_Co_hasAllInside : MethodName := ⟨"PlaceFinder$Corners", "hasAllInside", "(LPlaceFinder$Corners;)Z"⟩
abbrev y_Co_hasInside : MethodName := ⟨"PlaceFinder$Corners", "hasInside", "(II)Z"⟩
abbrev y_Co_isInBox : MethodName := ⟨"PlaceFinder$Corners", "isInBox", "(IIII)Z"⟩
abbrev y_Ec_init : MethodName := ⟨"PlaceFinder$ErrorCounter", "<init>", "()V"⟩
abbrev y_Ec_count : MethodName := ⟨"PlaceFinder$ErrorCounter", "count", "(LPlaceFinder$Word;LPlaceFinder$Word;)I"⟩
abbrev y_Ec_leastFor : MethodName := ⟨"PlaceFinder$ErrorCounter", "leastFor", "([CI[CI)I"⟩
abbrev y_Hi_init : MethodName := ⟨"PlaceFinder$Hits", "<init>", "()V"⟩
abbrev y_Hi_empty : MethodName := ⟨"PlaceFinder$Hits", "empty", "()V"⟩
abbrev y_Hi_add : MethodName := ⟨"PlaceFinder$Hits", "add", "(IJ)V"⟩
abbrev y_Hi_keepFirst : MethodName := ⟨"PlaceFinder$Hits", "keepFirst", "(I)V"⟩
abbrev y_Li_init : MethodName := ⟨"PlaceFinder$Link", "<init>", "(LPlaceFinder$Place;II)V"⟩
abbrev y_Li_isWithin : MethodName := ⟨"PlaceFinder$Link", "isWithin", "(II)Z"⟩
abbrev y_Na_init : MethodName := ⟨"PlaceFinder$Name", "<init>", "(LPlaceFinder$Word;II)V"⟩
abbrev y_Na_isOf : MethodName := ⟨"PlaceFinder$Name", "isOf", "(I)Z"⟩
abbrev y_Pl_init : MethodName := ⟨"PlaceFinder$Place", "<init>", "(II)V"⟩
abbrev y_Pl_takesShapeFrom : MethodName := ⟨"PlaceFinder$Place", "takesShapeFrom", "(I)Z"⟩
abbrev y_Pl_addShape : MethodName := ⟨"PlaceFinder$Place", "addShape", "(LPlaceFinder$Corners;I)V"⟩
abbrev y_Pl_shapeOn : MethodName := ⟨"PlaceFinder$Place", "shapeOn", "(I)LPlaceFinder$Corners;"⟩
abbrev y_Pl_isRemovedOn : MethodName := ⟨"PlaceFinder$Place", "isRemovedOn", "(I)Z"⟩
abbrev y_Pl_isThere : MethodName := ⟨"PlaceFinder$Place", "isThere", "(I)Z"⟩
abbrev y_Pl_squareTo : MethodName := ⟨"PlaceFinder$Place", "squareTo", "(III)I"⟩
abbrev y_Pl_isLinkedWithin : MethodName := ⟨"PlaceFinder$Place", "isLinkedWithin", "(II)Z"⟩
abbrev y_Pl_aboveOn : MethodName := ⟨"PlaceFinder$Place", "aboveOn", "(I)LPlaceFinder$Place;"⟩
abbrev y_Rs_init : MethodName := ⟨"PlaceFinder$RouteSearch", "<init>", "()V"⟩
abbrev y_Rs_start : MethodName := ⟨"PlaceFinder$RouteSearch", "start", "(LPlaceFinder$Corners;LPlaceFinder$Corners;)V"⟩
abbrev y_Rs_measure : MethodName := ⟨"PlaceFinder$RouteSearch", "measure", "(LPlaceFinder$Corners;III)V"⟩
abbrev y_Rs_takeIfBetter : MethodName := ⟨"PlaceFinder$RouteSearch", "takeIfBetter", "(IIJJJ)V"⟩
abbrev y_Rs_isWithin : MethodName := ⟨"PlaceFinder$RouteSearch", "isWithin", "(I)Z"⟩
abbrev y_Rs_positionKey : MethodName := ⟨"PlaceFinder$RouteSearch", "positionKey", "()J"⟩
abbrev y_Wa_init : MethodName := ⟨"PlaceFinder$Watch", "<init>", "(LPlaceFinder$Corners;I)V"⟩
abbrev y_Wa_hasTold : MethodName := ⟨"PlaceFinder$Watch", "hasTold", "(I)Z"⟩
abbrev y_Wo_init : MethodName := ⟨"PlaceFinder$Word", "<init>", "([CI)V"⟩
abbrev y_Wo_joinedLetter : MethodName := ⟨"PlaceFinder$Word", "joinedLetter", "(CC)C"⟩
abbrev y_Wo_rank : MethodName := ⟨"PlaceFinder$Word", "rank", "()J"⟩
abbrev y_Wo_beginsWith : MethodName := ⟨"PlaceFinder$Word", "beginsWith", "(LPlaceFinder$Word;)Z"⟩
abbrev y_Wo_soundCode : MethodName := ⟨"PlaceFinder$Word", "soundCode", "()I"⟩
abbrev y_Wo_soundClass : MethodName := ⟨"PlaceFinder$Word", "soundClass", "(I)I"⟩
abbrev y_L_place : MethodName := ⟨"PlaceFinderLaw", "place", "(LPlaceFinder;I[J)I"⟩
abbrev y_L_corner : MethodName := ⟨"PlaceFinderLaw", "corner", "(LPlaceFinder;II[J)I"⟩
abbrev y_L_shape : MethodName := ⟨"PlaceFinderLaw", "shape", "(LPlaceFinder;II)I"⟩
abbrev y_L_name : MethodName := ⟨"PlaceFinderLaw", "name", "(LPlaceFinder;III)I"⟩
abbrev y_L_parent : MethodName := ⟨"PlaceFinderLaw", "parent", "(LPlaceFinder;IIII)I"⟩
abbrev y_L_remove : MethodName := ⟨"PlaceFinderLaw", "remove", "(LPlaceFinder;II)I"⟩
abbrev y_L_condition : MethodName := ⟨"PlaceFinderLaw", "condition", "(LPlaceFinder;IIII[J)I"⟩
abbrev y_L_find : MethodName := ⟨"PlaceFinderLaw", "find", "(LPlaceFinder;II[J)I"⟩
abbrev y_L_near : MethodName := ⟨"PlaceFinderLaw", "near", "(LPlaceFinder;IIIII[J)I"⟩
abbrev y_L_hit : MethodName := ⟨"PlaceFinderLaw", "hit", "(LPlaceFinder;I[J)I"⟩
abbrev y_L_chain : MethodName := ⟨"PlaceFinderLaw", "chain", "(LPlaceFinder;III[J)I"⟩
abbrev y_L_holds : MethodName := ⟨"PlaceFinderLaw", "holds", "(LPlaceFinder;IIII[J)I"⟩
abbrev y_L_errors : MethodName := ⟨"PlaceFinderLaw", "errors", "(LPlaceFinder;II[J)I"⟩
abbrev y_L_watch : MethodName := ⟨"PlaceFinderLaw", "watch", "(LPlaceFinder;II)I"⟩
abbrev y_L_news : MethodName := ⟨"PlaceFinderLaw", "news", "(LPlaceFinder;I[J)I"⟩
abbrev y_L_told : MethodName := ⟨"PlaceFinderLaw", "told", "(LPlaceFinder;I[J)I"⟩
abbrev y_In_bitCount : MethodName := ⟨"java/lang/Integer", "bitCount", "(I)I"⟩
abbrev y_Lo_compare : MethodName := ⟨"java/lang/Long", "compare", "(JJ)I"⟩
abbrev y_Ma_max : MethodName := ⟨"java/lang/Math", "max", "(II)I"⟩
abbrev y_Ma_min : MethodName := ⟨"java/lang/Math", "min", "(II)I"⟩
abbrev y_Ma_min2 : MethodName := ⟨"java/lang/Math", "min", "(JJ)J"⟩
abbrev y_St_charAt : MethodName := ⟨"java/lang/String", "charAt", "(I)C"⟩
abbrev y_St_checkIndex : MethodName := ⟨"java/lang/String", "checkIndex", "(II)V"⟩
abbrev y_St_isLatin1 : MethodName := ⟨"java/lang/String", "isLatin1", "()Z"⟩
abbrev y_Sl_charAt : MethodName := ⟨"java/lang/StringLatin1", "charAt", "([BI)C"⟩
abbrev y_Sv_charAt : MethodName := ⟨"java/lang/StringUTF16", "charAt", "([BI)C"⟩
abbrev y_Sv_checkIndex : MethodName := ⟨"java/lang/StringUTF16", "checkIndex", "(I[B)V"⟩
abbrev y_Sv_getChar : MethodName := ⟨"java/lang/StringUTF16", "getChar", "([BI)C"⟩
abbrev y_Sv_length : MethodName := ⟨"java/lang/StringUTF16", "length", "([B)I"⟩
abbrev y_Ac_init : MethodName := ⟨"java/util/AbstractCollection", "<init>", "()V"⟩
abbrev y_Ab_init : MethodName := ⟨"java/util/AbstractList", "<init>", "()V"⟩
abbrev y_Al_init : MethodName := ⟨"java/util/ArrayList", "<init>", "()V"⟩
abbrev y_Al_add : MethodName := ⟨"java/util/ArrayList", "add", "(Ljava/lang/Object;)Z"⟩
abbrev y_Al_add2 : MethodName := ⟨"java/util/ArrayList", "add", "(Ljava/lang/Object;[Ljava/lang/Object;I)V"⟩
abbrev y_Al_clear : MethodName := ⟨"java/util/ArrayList", "clear", "()V"⟩
abbrev y_Al_elementData : MethodName := ⟨"java/util/ArrayList", "elementData", "(I)Ljava/lang/Object;"⟩
abbrev y_Al_get : MethodName := ⟨"java/util/ArrayList", "get", "(I)Ljava/lang/Object;"⟩
abbrev y_Al_grow : MethodName := ⟨"java/util/ArrayList", "grow", "()[Ljava/lang/Object;"⟩
abbrev y_Al_grow2 : MethodName := ⟨"java/util/ArrayList", "grow", "(I)[Ljava/lang/Object;"⟩
abbrev y_Al_size : MethodName := ⟨"java/util/ArrayList", "size", "()I"⟩
abbrev y_As_copyOf : MethodName := ⟨"java/util/Arrays", "copyOf", "([II)[I"⟩
abbrev y_As_copyOf2 : MethodName := ⟨"java/util/Arrays", "copyOf", "([Ljava/lang/Object;I)[Ljava/lang/Object;"⟩
abbrev y_As_copyOf3 : MethodName := ⟨"java/util/Arrays", "copyOf", "([Ljava/lang/Object;ILjava/lang/Class;)[Ljava/lang/Object;"⟩
abbrev y_Ob_checkIndex : MethodName := ⟨"java/util/Objects", "checkIndex", "(II)I"⟩
abbrev y_Su_hugeLength : MethodName := ⟨"jdk/internal/util/ArraysSupport", "hugeLength", "(II)I"⟩
abbrev y_Su_newLength : MethodName := ⟨"jdk/internal/util/ArraysSupport", "newLength", "(III)I"⟩
abbrev y_Pr_checkIndex : MethodName := ⟨"jdk/internal/util/Preconditions", "checkIndex", "(IILjava/util/function/BiFunction;)I"⟩
theorem tm0 {w : Cond} (h : w ∈ k2_sels lw_privs) : w ∈ lw_tbl := List.mem_append_left _ h
theorem tm1 {w : Cond} (h : w ∈ tables_1_1) : w ∈ lw_tbl := List.mem_append_right _ (show w ∈ tables_1 from List.mem_append_left _ h)
theorem tm2 {w : Cond} (h : w ∈ tables_1_2) : w ∈ lw_tbl := List.mem_append_right _ (show w ∈ tables_1 from List.mem_append_right _ (List.mem_append_left _ h))
theorem tm3 {w : Cond} (h : w ∈ tables_1_3) : w ∈ lw_tbl := List.mem_append_right _ (show w ∈ tables_1 from List.mem_append_right _ (List.mem_append_right _ (List.mem_append_left _ h)))
theorem tm4 {w : Cond} (h : w ∈ tables_1_4) : w ∈ lw_tbl := List.mem_append_right _ (show w ∈ tables_1 from List.mem_append_right _ (List.mem_append_right _ (List.mem_append_right _ (List.mem_append_left _ h))))
theorem tm5 {w : Cond} (h : w ∈ tables_1_5) : w ∈ lw_tbl := List.mem_append_right _ (show w ∈ tables_1 from List.mem_append_right _ (List.mem_append_right _ (List.mem_append_right _ (List.mem_append_right _ (List.mem_append_left _ h)))))
theorem tm6 {w : Cond} (h : w ∈ tables_1_6) : w ∈ lw_tbl := List.mem_append_right _ (show w ∈ tables_1 from List.mem_append_right _ (List.mem_append_right _ (List.mem_append_right _ (List.mem_append_right _ (List.mem_append_right _ (h))))))
def GW : List Cond := lw_tbl.filter goodWord
theorem GW_good : ∀ w ∈ GW, goodWord w = true := fun w h => (List.mem_filter.mp h).2
theorem GW_of {w : Cond} (h : w ∈ lw_tbl) (hg : goodWord w = true) : w ∈ GW := List.mem_filter.mpr ⟨h, hg⟩
/-- words that stay, of other forms -/
def nwOK (w : Cond) : Bool := match w with
  | .fieldLinkNest .. => true
  | .methodLinkNest .. => true
  | .castable .. => true
  | .declares .. => true
  | .arrayOver (.object _) => true
  | _ => false
def NW : List Cond := lw_tbl.filter nwOK
theorem NW_of {w : Cond} (h : w ∈ lw_tbl) (hg : nwOK w = true) : w ∈ NW := List.mem_filter.mpr ⟨h, hg⟩
def NN (U : State) : Prop := ∀ w ∈ NW, va_Nw w U
theorem nw_warm {w : Cond} (hw : nwOK w = true) {s U : State} (hW : s.WarmedH U.vm) (h : va_Nw w s) : va_Nw w U := by
  unfold nwOK at hw
  split at hw
  · exact va_Nw.warmF hW h
  · exact va_Nw.warmM hW h
  · exact va_Nw.warmC hW h
  · exact va_Nw.warmD hW h
  · exact va_AO.moved hW.alike h
  · cases hw
theorem nw_tab {w : Cond} (hw : nwOK w = true) {u U : State} (hvm : u.vm = U.vm) (h : va_Nw w u) : va_Nw w U := by
  unfold nwOK at hw
  split at hw
  · exact va_Nw.same rfl hvm h
  · exact va_Nw.same rfl hvm h
  · exact va_Nw.same rfl hvm h
  · exact va_Nw.same rfl hvm h
  · exact va_AO.moved (by rw [hvm]; exact Vm.Alike.refl _) h
  · cases hw
theorem NN.warm {s U : State} (hW : s.WarmedH U.vm) (h : NN s) : NN U := fun w hw => nw_warm (List.mem_filter.mp hw).2 hW (h w hw)
theorem NN.same {u U : State} (hvm : u.vm = U.vm) (h : NN u) : NN U := fun w hw => nw_tab (List.mem_filter.mp hw).2 hvm (h w hw)
def OX (_ : Nat) (_ : State) (_ : Heap) : Prop := True
def OO (ed lo : Nat) (U : State) (H : Heap) : Prop := va_Z "java/util/ArrayList" "DEFAULTCAPACITY_EMPTY_ELEMENTDATA" "[Ljava/lang/Object;" (.ref ed) (fun q => lo ≤ q) U H ∧ va_T (.object "java/lang/Object") ed 0 (fun _ => .null) (fun q => lo ≤ q) U H ∧ OX lo U H
theorem OO.kept {ed lo : Nat} {U : State} {H H1 : Heap} (h : OO ed lo U H) (hq : ∀ a : Nat, a < H.size → ¬ lo ≤ a → H1[a]? = H[a]?) : OO ed lo U H1 := ⟨h.1.kept hq, h.2.1.kept hq, trivial⟩
theorem OO.moved {ed lo : Nat} {u U : State} {H : Heap} (hvm : u.vm.Alike U.vm) (h : OO ed lo u H) : OO ed lo U H := ⟨h.1.moved hvm, h.2.1.moved hvm, trivial⟩
theorem n_Al : ∀ a, a < 3 → ∀ b, b < 3 → a ≠ b → (T_Al a).2.1 ≠ (T_Al b).2.1 := by decide +kernel
theorem t_Al_ok : ∀ k, k < 3 → parseFieldDescriptor (T_Al k).2.2.1 = some (t_Al k) := by decide +kernel
theorem uk_Al : ∀ k, k < 3 → u_lay "java/util/ArrayList" T_Al k ∈ GW := fun k hk => match k, hk with
  | 0, _ => GW_of (tm1 (List.mem_of_getElem? (i := 62) (by decide +kernel))) rfl
  | 1, _ => GW_of (tm1 (List.mem_of_getElem? (i := 64) (by decide +kernel))) rfl
  | 2, _ => GW_of (tm1 (List.mem_of_getElem? (i := 66) (by decide +kernel))) rfl
theorem uw_Al : ∀ w ∈ u_ws "java/util/ArrayList" T_Al 3, w ∈ GW := fun w hw => by
  obtain ⟨k, hk, rfl⟩ := List.mem_map.mp hw
  exact uk_Al k (List.mem_range.mp hk)
theorem n_Cn : ∀ a, a < 5 → ∀ b, b < 5 → a ≠ b → (T_Cn a).2.1 ≠ (T_Cn b).2.1 := by decide +kernel
theorem t_Cn_ok : ∀ k, k < 5 → parseFieldDescriptor (T_Cn k).2.2.1 = some (t_Cn k) := by decide +kernel
theorem uk_Cn : ∀ k, k < 5 → u_lay "PlaceFinder$Condition" T_Cn k ∈ GW := fun k hk => match k, hk with
  | 0, _ => GW_of (tm1 (List.mem_of_getElem? (i := 198) (by decide +kernel))) rfl
  | 1, _ => GW_of (tm1 (List.mem_of_getElem? (i := 200) (by decide +kernel))) rfl
  | 2, _ => GW_of (tm1 (List.mem_of_getElem? (i := 202) (by decide +kernel))) rfl
  | 3, _ => GW_of (tm1 (List.mem_of_getElem? (i := 204) (by decide +kernel))) rfl
  | 4, _ => GW_of (tm1 (List.mem_of_getElem? (i := 206) (by decide +kernel))) rfl
theorem uw_Cn : ∀ w ∈ u_ws "PlaceFinder$Condition" T_Cn 5, w ∈ GW := fun w hw => by
  obtain ⟨k, hk, rfl⟩ := List.mem_map.mp hw
  exact uk_Cn k (List.mem_range.mp hk)
theorem n_Co : ∀ a, a < 3 → ∀ b, b < 3 → a ≠ b → (T_Co a).2.1 ≠ (T_Co b).2.1 := by decide +kernel
theorem t_Co_ok : ∀ k, k < 3 → parseFieldDescriptor (T_Co k).2.2.1 = some (t_Co k) := by decide +kernel
theorem uk_Co : ∀ k, k < 3 → u_lay "PlaceFinder$Corners" T_Co k ∈ GW := fun k hk => match k, hk with
  | 0, _ => GW_of (tm1 (List.mem_of_getElem? (i := 97) (by decide +kernel))) rfl
  | 1, _ => GW_of (tm1 (List.mem_of_getElem? (i := 99) (by decide +kernel))) rfl
  | 2, _ => GW_of (tm1 (List.mem_of_getElem? (i := 101) (by decide +kernel))) rfl
theorem uw_Co : ∀ w ∈ u_ws "PlaceFinder$Corners" T_Co 3, w ∈ GW := fun w hw => by
  obtain ⟨k, hk, rfl⟩ := List.mem_map.mp hw
  exact uk_Co k (List.mem_range.mp hk)
theorem n_Ec : ∀ a, a < 1 → ∀ b, b < 1 → a ≠ b → (T_Ec a).2.1 ≠ (T_Ec b).2.1 := by decide +kernel
theorem t_Ec_ok : ∀ k, k < 1 → parseFieldDescriptor (T_Ec k).2.2.1 = some (t_Ec k) := by decide +kernel
theorem uk_Ec : ∀ k, k < 1 → u_lay "PlaceFinder$ErrorCounter" T_Ec k ∈ GW := fun k hk => match k, hk with
  | 0, _ => GW_of (tm1 (List.mem_of_getElem? (i := 136) (by decide +kernel))) rfl
theorem uw_Ec : ∀ w ∈ u_ws "PlaceFinder$ErrorCounter" T_Ec 1, w ∈ GW := fun w hw => by
  obtain ⟨k, hk, rfl⟩ := List.mem_map.mp hw
  exact uk_Ec k (List.mem_range.mp hk)
theorem n_Hi : ∀ a, a < 3 → ∀ b, b < 3 → a ≠ b → (T_Hi a).2.1 ≠ (T_Hi b).2.1 := by decide +kernel
theorem t_Hi_ok : ∀ k, k < 3 → parseFieldDescriptor (T_Hi k).2.2.1 = some (t_Hi k) := by decide +kernel
theorem uk_Hi : ∀ k, k < 3 → u_lay "PlaceFinder$Hits" T_Hi k ∈ GW := fun k hk => match k, hk with
  | 0, _ => GW_of (tm1 (List.mem_of_getElem? (i := 118) (by decide +kernel))) rfl
  | 1, _ => GW_of (tm1 (List.mem_of_getElem? (i := 120) (by decide +kernel))) rfl
  | 2, _ => GW_of (tm1 (List.mem_of_getElem? (i := 122) (by decide +kernel))) rfl
theorem uw_Hi : ∀ w ∈ u_ws "PlaceFinder$Hits" T_Hi 3, w ∈ GW := fun w hw => by
  obtain ⟨k, hk, rfl⟩ := List.mem_map.mp hw
  exact uk_Hi k (List.mem_range.mp hk)
theorem n_Li : ∀ a, a < 3 → ∀ b, b < 3 → a ≠ b → (T_Li a).2.1 ≠ (T_Li b).2.1 := by decide +kernel
theorem t_Li_ok : ∀ k, k < 3 → parseFieldDescriptor (T_Li k).2.2.1 = some (t_Li k) := by decide +kernel
theorem uk_Li : ∀ k, k < 3 → u_lay "PlaceFinder$Link" T_Li k ∈ GW := fun k hk => match k, hk with
  | 0, _ => GW_of (tm3 (List.mem_of_getElem? (i := 184) (by decide +kernel))) rfl
  | 1, _ => GW_of (tm3 (List.mem_of_getElem? (i := 186) (by decide +kernel))) rfl
  | 2, _ => GW_of (tm3 (List.mem_of_getElem? (i := 188) (by decide +kernel))) rfl
theorem uw_Li : ∀ w ∈ u_ws "PlaceFinder$Link" T_Li 3, w ∈ GW := fun w hw => by
  obtain ⟨k, hk, rfl⟩ := List.mem_map.mp hw
  exact uk_Li k (List.mem_range.mp hk)
theorem n_Na : ∀ a, a < 3 → ∀ b, b < 3 → a ≠ b → (T_Na a).2.1 ≠ (T_Na b).2.1 := by decide +kernel
theorem t_Na_ok : ∀ k, k < 3 → parseFieldDescriptor (T_Na k).2.2.1 = some (t_Na k) := by decide +kernel
theorem uk_Na : ∀ k, k < 3 → u_lay "PlaceFinder$Name" T_Na k ∈ GW := fun k hk => match k, hk with
  | 0, _ => GW_of (tm3 (List.mem_of_getElem? (i := 123) (by decide +kernel))) rfl
  | 1, _ => GW_of (tm3 (List.mem_of_getElem? (i := 125) (by decide +kernel))) rfl
  | 2, _ => GW_of (tm3 (List.mem_of_getElem? (i := 127) (by decide +kernel))) rfl
theorem uw_Na : ∀ w ∈ u_ws "PlaceFinder$Name" T_Na 3, w ∈ GW := fun w hw => by
  obtain ⟨k, hk, rfl⟩ := List.mem_map.mp hw
  exact uk_Na k (List.mem_range.mp hk)
theorem n_Pl : ∀ a, a < 7 → ∀ b, b < 7 → a ≠ b → (T_Pl a).2.1 ≠ (T_Pl b).2.1 := by decide +kernel
theorem t_Pl_ok : ∀ k, k < 7 → parseFieldDescriptor (T_Pl k).2.2.1 = some (t_Pl k) := by decide +kernel
theorem uk_Pl : ∀ k, k < 7 → u_lay "PlaceFinder$Place" T_Pl k ∈ GW := fun k hk => match k, hk with
  | 0, _ => GW_of (tm2 (List.mem_of_getElem? (i := 200) (by decide +kernel))) rfl
  | 1, _ => GW_of (tm2 (List.mem_of_getElem? (i := 202) (by decide +kernel))) rfl
  | 2, _ => GW_of (tm2 (List.mem_of_getElem? (i := 204) (by decide +kernel))) rfl
  | 3, _ => GW_of (tm2 (List.mem_of_getElem? (i := 206) (by decide +kernel))) rfl
  | 4, _ => GW_of (tm2 (List.mem_of_getElem? (i := 208) (by decide +kernel))) rfl
  | 5, _ => GW_of (tm2 (List.mem_of_getElem? (i := 210) (by decide +kernel))) rfl
  | 6, _ => GW_of (tm2 (List.mem_of_getElem? (i := 212) (by decide +kernel))) rfl
theorem uw_Pl : ∀ w ∈ u_ws "PlaceFinder$Place" T_Pl 7, w ∈ GW := fun w hw => by
  obtain ⟨k, hk, rfl⟩ := List.mem_map.mp hw
  exact uk_Pl k (List.mem_range.mp hk)
theorem n_Rs : ∀ a, a < 6 → ∀ b, b < 6 → a ≠ b → (T_Rs a).2.1 ≠ (T_Rs b).2.1 := by decide +kernel
theorem t_Rs_ok : ∀ k, k < 6 → parseFieldDescriptor (T_Rs k).2.2.1 = some (t_Rs k) := by decide +kernel
theorem uk_Rs : ∀ k, k < 6 → u_lay "PlaceFinder$RouteSearch" T_Rs k ∈ GW := fun k hk => match k, hk with
  | 0, _ => GW_of (tm1 (List.mem_of_getElem? (i := 151) (by decide +kernel))) rfl
  | 1, _ => GW_of (tm1 (List.mem_of_getElem? (i := 153) (by decide +kernel))) rfl
  | 2, _ => GW_of (tm1 (List.mem_of_getElem? (i := 155) (by decide +kernel))) rfl
  | 3, _ => GW_of (tm1 (List.mem_of_getElem? (i := 157) (by decide +kernel))) rfl
  | 4, _ => GW_of (tm1 (List.mem_of_getElem? (i := 159) (by decide +kernel))) rfl
  | 5, _ => GW_of (tm1 (List.mem_of_getElem? (i := 161) (by decide +kernel))) rfl
theorem uw_Rs : ∀ w ∈ u_ws "PlaceFinder$RouteSearch" T_Rs 6, w ∈ GW := fun w hw => by
  obtain ⟨k, hk, rfl⟩ := List.mem_map.mp hw
  exact uk_Rs k (List.mem_range.mp hk)
theorem n_Wa : ∀ a, a < 4 → ∀ b, b < 4 → a ≠ b → (T_Wa a).2.1 ≠ (T_Wa b).2.1 := by decide +kernel
theorem t_Wa_ok : ∀ k, k < 4 → parseFieldDescriptor (T_Wa k).2.2.1 = some (t_Wa k) := by decide +kernel
theorem uk_Wa : ∀ k, k < 4 → u_lay "PlaceFinder$Watch" T_Wa k ∈ GW := fun k hk => match k, hk with
  | 0, _ => GW_of (tm4 (List.mem_of_getElem? (i := 230) (by decide +kernel))) rfl
  | 1, _ => GW_of (tm4 (List.mem_of_getElem? (i := 232) (by decide +kernel))) rfl
  | 2, _ => GW_of (tm4 (List.mem_of_getElem? (i := 234) (by decide +kernel))) rfl
  | 3, _ => GW_of (tm4 (List.mem_of_getElem? (i := 236) (by decide +kernel))) rfl
theorem uw_Wa : ∀ w ∈ u_ws "PlaceFinder$Watch" T_Wa 4, w ∈ GW := fun w hw => by
  obtain ⟨k, hk, rfl⟩ := List.mem_map.mp hw
  exact uk_Wa k (List.mem_range.mp hk)
theorem n_Wo : ∀ a, a < 2 → ∀ b, b < 2 → a ≠ b → (T_Wo a).2.1 ≠ (T_Wo b).2.1 := by decide +kernel
theorem t_Wo_ok : ∀ k, k < 2 → parseFieldDescriptor (T_Wo k).2.2.1 = some (t_Wo k) := by decide +kernel
theorem uk_Wo : ∀ k, k < 2 → u_lay "PlaceFinder$Word" T_Wo k ∈ GW := fun k hk => match k, hk with
  | 0, _ => GW_of (tm1 (List.mem_of_getElem? (i := 179) (by decide +kernel))) rfl
  | 1, _ => GW_of (tm1 (List.mem_of_getElem? (i := 181) (by decide +kernel))) rfl
theorem uw_Wo : ∀ w ∈ u_ws "PlaceFinder$Word" T_Wo 2, w ∈ GW := fun w hw => by
  obtain ⟨k, hk, rfl⟩ := List.mem_map.mp hw
  exact uk_Wo k (List.mem_range.mp hk)
theorem n_P : ∀ a, a < 13 → ∀ b, b < 13 → a ≠ b → (T_P a).2.1 ≠ (T_P b).2.1 := by decide +kernel
theorem t_P_ok : ∀ k, k < 13 → parseFieldDescriptor (T_P k).2.2.1 = some (t_P k) := by decide +kernel
theorem uk_P : ∀ k, k < 13 → u_lay "PlaceFinder" T_P k ∈ GW := fun k hk => match k, hk with
  | 0, _ => GW_of (tm1 (List.mem_of_getElem? (i := 222) (by decide +kernel))) rfl
  | 1, _ => GW_of (tm1 (List.mem_of_getElem? (i := 224) (by decide +kernel))) rfl
  | 2, _ => GW_of (tm1 (List.mem_of_getElem? (i := 226) (by decide +kernel))) rfl
  | 3, _ => GW_of (tm1 (List.mem_of_getElem? (i := 228) (by decide +kernel))) rfl
  | 4, _ => GW_of (tm1 (List.mem_of_getElem? (i := 230) (by decide +kernel))) rfl
  | 5, _ => GW_of (tm1 (List.mem_of_getElem? (i := 232) (by decide +kernel))) rfl
  | 6, _ => GW_of (tm1 (List.mem_of_getElem? (i := 234) (by decide +kernel))) rfl
  | 7, _ => GW_of (tm1 (List.mem_of_getElem? (i := 236) (by decide +kernel))) rfl
  | 8, _ => GW_of (tm1 (List.mem_of_getElem? (i := 238) (by decide +kernel))) rfl
  | 9, _ => GW_of (tm2 (List.mem_of_getElem? (i := 0) (by decide +kernel))) rfl
  | 10, _ => GW_of (tm2 (List.mem_of_getElem? (i := 2) (by decide +kernel))) rfl
  | 11, _ => GW_of (tm2 (List.mem_of_getElem? (i := 4) (by decide +kernel))) rfl
  | 12, _ => GW_of (tm2 (List.mem_of_getElem? (i := 6) (by decide +kernel))) rfl
theorem uw_P : ∀ w ∈ u_ws "PlaceFinder" T_P 13, w ∈ GW := fun w hw => by
  obtain ⟨k, hk, rfl⟩ := List.mem_map.mp hw
  exact uk_P k (List.mem_range.mp hk)
theorem n_M : ∀ a, a < 55 → ∀ b, b < 55 → a ≠ b → (T_M a).2.1 ≠ (T_M b).2.1 := by decide +kernel
theorem t_M_ok : ∀ k, k < 55 → parseFieldDescriptor (T_M k).2.2.1 = some (t_M k) := by decide +kernel
theorem uk_M : ∀ k, k < 55 → u_lay "PlaceFinderModel" T_M k ∈ GW := fun k hk => match k, hk with
  | 0, _ => GW_of (tm5 (List.mem_of_getElem? (i := 89) (by decide +kernel))) rfl
  | 1, _ => GW_of (tm5 (List.mem_of_getElem? (i := 91) (by decide +kernel))) rfl
  | 2, _ => GW_of (tm5 (List.mem_of_getElem? (i := 93) (by decide +kernel))) rfl
  | 3, _ => GW_of (tm5 (List.mem_of_getElem? (i := 95) (by decide +kernel))) rfl
  | 4, _ => GW_of (tm5 (List.mem_of_getElem? (i := 97) (by decide +kernel))) rfl
  | 5, _ => GW_of (tm5 (List.mem_of_getElem? (i := 99) (by decide +kernel))) rfl
  | 6, _ => GW_of (tm5 (List.mem_of_getElem? (i := 101) (by decide +kernel))) rfl
  | 7, _ => GW_of (tm5 (List.mem_of_getElem? (i := 103) (by decide +kernel))) rfl
  | 8, _ => GW_of (tm5 (List.mem_of_getElem? (i := 105) (by decide +kernel))) rfl
  | 9, _ => GW_of (tm5 (List.mem_of_getElem? (i := 107) (by decide +kernel))) rfl
  | 10, _ => GW_of (tm5 (List.mem_of_getElem? (i := 109) (by decide +kernel))) rfl
  | 11, _ => GW_of (tm5 (List.mem_of_getElem? (i := 111) (by decide +kernel))) rfl
  | 12, _ => GW_of (tm5 (List.mem_of_getElem? (i := 113) (by decide +kernel))) rfl
  | 13, _ => GW_of (tm5 (List.mem_of_getElem? (i := 115) (by decide +kernel))) rfl
  | 14, _ => GW_of (tm5 (List.mem_of_getElem? (i := 117) (by decide +kernel))) rfl
  | 15, _ => GW_of (tm5 (List.mem_of_getElem? (i := 119) (by decide +kernel))) rfl
  | 16, _ => GW_of (tm5 (List.mem_of_getElem? (i := 121) (by decide +kernel))) rfl
  | 17, _ => GW_of (tm5 (List.mem_of_getElem? (i := 123) (by decide +kernel))) rfl
  | 18, _ => GW_of (tm5 (List.mem_of_getElem? (i := 125) (by decide +kernel))) rfl
  | 19, _ => GW_of (tm5 (List.mem_of_getElem? (i := 127) (by decide +kernel))) rfl
  | 20, _ => GW_of (tm5 (List.mem_of_getElem? (i := 129) (by decide +kernel))) rfl
  | 21, _ => GW_of (tm5 (List.mem_of_getElem? (i := 131) (by decide +kernel))) rfl
  | 22, _ => GW_of (tm5 (List.mem_of_getElem? (i := 133) (by decide +kernel))) rfl
  | 23, _ => GW_of (tm5 (List.mem_of_getElem? (i := 135) (by decide +kernel))) rfl
  | 24, _ => GW_of (tm5 (List.mem_of_getElem? (i := 137) (by decide +kernel))) rfl
  | 25, _ => GW_of (tm5 (List.mem_of_getElem? (i := 139) (by decide +kernel))) rfl
  | 26, _ => GW_of (tm5 (List.mem_of_getElem? (i := 141) (by decide +kernel))) rfl
  | 27, _ => GW_of (tm5 (List.mem_of_getElem? (i := 143) (by decide +kernel))) rfl
  | 28, _ => GW_of (tm5 (List.mem_of_getElem? (i := 145) (by decide +kernel))) rfl
  | 29, _ => GW_of (tm5 (List.mem_of_getElem? (i := 147) (by decide +kernel))) rfl
  | 30, _ => GW_of (tm5 (List.mem_of_getElem? (i := 149) (by decide +kernel))) rfl
  | 31, _ => GW_of (tm5 (List.mem_of_getElem? (i := 151) (by decide +kernel))) rfl
  | 32, _ => GW_of (tm5 (List.mem_of_getElem? (i := 153) (by decide +kernel))) rfl
  | 33, _ => GW_of (tm5 (List.mem_of_getElem? (i := 155) (by decide +kernel))) rfl
  | 34, _ => GW_of (tm5 (List.mem_of_getElem? (i := 157) (by decide +kernel))) rfl
  | 35, _ => GW_of (tm5 (List.mem_of_getElem? (i := 159) (by decide +kernel))) rfl
  | 36, _ => GW_of (tm5 (List.mem_of_getElem? (i := 161) (by decide +kernel))) rfl
  | 37, _ => GW_of (tm5 (List.mem_of_getElem? (i := 163) (by decide +kernel))) rfl
  | 38, _ => GW_of (tm5 (List.mem_of_getElem? (i := 165) (by decide +kernel))) rfl
  | 39, _ => GW_of (tm5 (List.mem_of_getElem? (i := 167) (by decide +kernel))) rfl
  | 40, _ => GW_of (tm5 (List.mem_of_getElem? (i := 169) (by decide +kernel))) rfl
  | 41, _ => GW_of (tm5 (List.mem_of_getElem? (i := 171) (by decide +kernel))) rfl
  | 42, _ => GW_of (tm5 (List.mem_of_getElem? (i := 173) (by decide +kernel))) rfl
  | 43, _ => GW_of (tm5 (List.mem_of_getElem? (i := 175) (by decide +kernel))) rfl
  | 44, _ => GW_of (tm5 (List.mem_of_getElem? (i := 177) (by decide +kernel))) rfl
  | 45, _ => GW_of (tm5 (List.mem_of_getElem? (i := 179) (by decide +kernel))) rfl
  | 46, _ => GW_of (tm5 (List.mem_of_getElem? (i := 181) (by decide +kernel))) rfl
  | 47, _ => GW_of (tm5 (List.mem_of_getElem? (i := 183) (by decide +kernel))) rfl
  | 48, _ => GW_of (tm5 (List.mem_of_getElem? (i := 185) (by decide +kernel))) rfl
  | 49, _ => GW_of (tm5 (List.mem_of_getElem? (i := 187) (by decide +kernel))) rfl
  | 50, _ => GW_of (tm5 (List.mem_of_getElem? (i := 189) (by decide +kernel))) rfl
  | 51, _ => GW_of (tm5 (List.mem_of_getElem? (i := 191) (by decide +kernel))) rfl
  | 52, _ => GW_of (tm5 (List.mem_of_getElem? (i := 193) (by decide +kernel))) rfl
  | 53, _ => GW_of (tm5 (List.mem_of_getElem? (i := 195) (by decide +kernel))) rfl
  | 54, _ => GW_of (tm5 (List.mem_of_getElem? (i := 197) (by decide +kernel))) rfl
  | k + 55, h => absurd h (Nat.not_lt.mpr (Nat.le_add_left 55 k))
theorem uw_M : ∀ w ∈ u_ws "PlaceFinderModel" T_M 55, w ∈ GW := fun w hw => by
  obtain ⟨k, hk, rfl⟩ := List.mem_map.mp hw
  exact uk_M k (List.mem_range.mp hk)
end
section
/-! the memory as a function: (empty element array of lists, write floor, size of the heap, cells) -/
abbrev ME : Type := (Nat × vp_A) ⊕ (Nat × List Value)
abbrev GG : Type := va_G × (Nat → ClassId)
abbrev Mem : Type := Nat × Nat × Nat × (Nat → Option ME)
abbrev mE (μ : Mem) : Nat := μ.1
abbrev mW (μ : Mem) : Nat := μ.2.1
abbrev mN (μ : Mem) : Nat := μ.2.2.1
abbrev mF (μ : Mem) : Nat → Option ME := μ.2.2.2
def m_set (μ : Mem) (a : Nat) (e : ME) : Mem := (mE μ, mW μ, mN μ, va_up (mF μ) a (some e))
def m_push (μ : Mem) (e : ME) : Mem := (mE μ, mW μ, mN μ + 1, va_up (mF μ) (mN μ) (some e))
/-- values with their kinds -/
abbrev TV : Type := Int32 ⊕ Int64 ⊕ Option Nat
abbrev vI (x : Int32) : TV := .inl x
abbrev vL (x : Int64) : TV := .inr (.inl x)
abbrev vR (x : Option Nat) : TV := .inr (.inr x)
def tv (v : TV) : Value := match v with
  | .inl x => .int x
  | .inr (.inl x) => .long x
  | .inr (.inr x) => va_rf x
def tcat (v : TV) : Nat := match v with
  | .inl _ => 1
  | .inr (.inl _) => 2
  | .inr (.inr _) => 1
theorem tcat_eq (v : TV) : tcat v = (tv v).category := by
  match v with
  | .inl _ => rfl
  | .inr (.inl _) => rfl
  | .inr (.inr none) => rfl
  | .inr (.inr (some _)) => rfl
abbrev tvl (lv : List (Nat × TV)) : List (Nat × Value) := lv.map (fun q => (q.1, tv q.2))
theorem tv_get {lv : List (Nat × TV)} {j i : Nat} {v : TV} (h : lv[j]? = some (i, v)) : (tvl lv)[j]? = some (i, tv v) := by
  rw [List.getElem?_map, h]; rfl
theorem tv_at {ls : Array Slot} {nL : Nat} {lv : List (Nat × TV)} (hl : lv_has ls nL (tvl lv)) {j i : Nat} {v : TV} (h : lv[j]? = some (i, v)) : ls[i]? = some (.val (tv v)) := lv_at hl j (tv_get h)
def tv_s1 (i : Nat) (v : TV) (lv : List (Nat × TV)) : List (Nat × TV) := (i, v) :: lv.filter (fun q => !(q.1 == i) && !(q.1 + 1 == i && tcat q.2 == 2))
def tv_s2 (i : Nat) (v : TV) (lv : List (Nat × TV)) : List (Nat × TV) := (i, v) :: lv.filter (fun q => !(q.1 == i) && (!(q.1 == i + 1) && !(q.1 + 1 == i && tcat q.2 == 2)))
theorem tv_filt (f : Nat × TV → Bool) (g : Nat × Value → Bool) (h : ∀ q, f q = g (q.1, tv q.2)) (lv : List (Nat × TV)) : (tvl lv).filter g = tvl (lv.filter f) := by
  induction lv with
  | nil => rfl
  | cons a r ih =>
    show List.filter g ((a.1, tv a.2) :: tvl r) = tvl (List.filter f (a :: r))
    rw [List.filter_cons, List.filter_cons, h a, ih]
    split <;> rfl
theorem tv_s1_eq (i : Nat) (v : TV) (lv : List (Nat × TV)) : (i, tv v) :: (tvl lv).filter (fun q => !(q.1 == i) && !(q.1 + 1 == i && q.2.category == 2)) = tvl (tv_s1 i v lv) := by
  rw [tv_filt (fun q => !(q.1 == i) && !(q.1 + 1 == i && tcat q.2 == 2)) _ (fun q => by rw [tcat_eq])]
  rfl
theorem tv_s2_eq (i : Nat) (v : TV) (lv : List (Nat × TV)) : (i, tv v) :: (tvl lv).filter (fun q => !(q.1 == i) && (!(q.1 == i + 1) && !(q.1 + 1 == i && q.2.category == 2))) = tvl (tv_s2 i v lv) := by
  rw [tv_filt (fun q => !(q.1 == i) && (!(q.1 == i + 1) && !(q.1 + 1 == i && tcat q.2 == 2))) _ (fun q => by rw [tcat_eq])]
  rfl
def tv_args : Nat → List TV → List (Nat × TV)
  | _, [] => []
  | i, v :: r => (i, v) :: tv_args (i + tcat v) r
theorem tv_args_eq (i : Nat) (av : List TV) : lv_args i (av.map tv) = tvl (tv_args i av) := by
  induction av generalizing i with
  | nil => rfl
  | cons v r ih =>
    show lv_args i (tv v :: r.map tv) = (i, tv v) :: tvl (tv_args (i + tcat v) r)
    rw [← ih, tcat_eq]
    match v with
    | .inl _ => rfl
    | .inr (.inl _) => rfl
    | .inr (.inr none) => rfl
    | .inr (.inr (some _)) => rfl
theorem tv_len (av : List TV) : (lg_sl (av.map tv)).length = (av.map tcat).sum := by
  induction av with
  | nil => rfl
  | cons v r ih =>
    have e : lg_sl ((v :: r).map tv) = lg_sl [tv v] ++ lg_sl (r.map tv) := by
      simp [lg_sl]
    rw [e, List.length_append, ih]
    show _ = tcat v + (r.map tcat).sum
    congr 1
    match v with
    | .inl _ => rfl
    | .inr (.inl _) => rfl
    | .inr (.inr none) => rfl
    | .inr (.inr (some _)) => rfl
/-! what the heap holds -/
def mm_E (G : GG) (e : ME) : va_E := match e with
  | .inl x => .inl (G.2 x.1, x.2)
  | .inr o => .inr o
def MM (G : GG) (μ : Mem) (H : Heap) : Prop := H.size = mN μ ∧ ∀ (a : Nat) (e : ME), mF μ a = some e → va_at G.1 vwCl (a, mm_E G e) H
theorem MM.set {G : GG} {μ : Mem} {H H1 : Heap} (h : MM G μ H) {a : Nat} {e : ME} (he : va_at G.1 vwCl (a, mm_E G e) H1) (hz : H1.size = H.size) (oq : ∀ q : Nat, q ≠ a → H1[q]? = H[q]?) : MM G (m_set μ a e) H1 := by
  refine ⟨hz.trans h.1, fun b d hb => ?_⟩
  by_cases hba : b = a
  · subst hba
    have hd : e = d := Option.some.inj ((va_up_self (mF μ) b (some e)).symm.trans hb)
    subst hd
    exact he
  · exact (h.2 b d ((va_up_ne (mF μ) (some e) hba).symm.trans hb)).kept (oq b hba)
theorem MM.push {G : GG} {μ : Mem} {H H1 : Heap} (h : MM G μ H) {e : ME} (he : va_at G.1 vwCl (H.size, mm_E G e) H1) (hz : H1.size = H.size + 1) (oq : ∀ q : Nat, q < H.size → H1[q]? = H[q]?) : MM G (m_push μ e) H1 := by
  refine ⟨by rw [hz, h.1]; rfl, fun b d hb => ?_⟩
  by_cases hba : b = mN μ
  · subst hba
    have hd : e = d := Option.some.inj ((va_up_self (mF μ) (mN μ) (some e)).symm.trans hb)
    subst hd
    rw [h.1] at he
    exact he
  · have h2 := h.2 b d ((va_up_ne (mF μ) (some e) hba).symm.trans hb)
    exact h2.kept (oq b h2.lt)
/-! the tables -/
def ka_comp (U : State) (comp : ClassId) (ty : FieldType) : Prop := match ty with
  | .object C => U.vm.findClass C = some comp
  | .array t => U.vm.findClass (FieldType.array t).toString = some comp
  | _ => True
def KA (cA : ClassId) (U : State) (ty : FieldType) : Prop := ∃ (kA : Class) (comp : ClassId), U.vm.classes[cA]? = some kA ∧ kA.kind = .array comp ty ∧ U.vm.findClass ("[" ++ ty.toString) = some cA ∧ ka_comp U comp ty
theorem KA.moved {u U : State} (hvm : u.vm.Alike U.vm) {cA : ClassId} {ty : FieldType} (h : KA cA u ty) : KA cA U ty := by
  obtain ⟨kA, comp, h1, h2, h3, h4⟩ := h
  obtain ⟨k', hk', he⟩ := hvm.2.2 _ _ h1
  refine ⟨k', comp, hk', by rw [he]; exact h2, by rw [hvm.findClass]; exact h3, ?_⟩
  cases ty with
  | object C => show U.vm.findClass _ = some comp; rw [hvm.findClass]; exact h4
  | array t => show U.vm.findClass _ = some comp; rw [hvm.findClass]; exact h4
  | _ => trivial
theorem KA.arr {U : State} {cA : ClassId} {ty : FieldType} (h : KA cA U ty) : ArrOfT U cA ty := by
  obtain ⟨kA, comp, h1, h2, h3, h4⟩ := h
  exact fun n z => ⟨fun k h => (by cases h), kA, h1, comp, h2⟩
def KK (G : GG) (U : State) : Prop := (∀ (c : Nat) (q : vw_C), vwCl[c]? = some q → u_Kn U q.1 q.2.1 q.2.2 (G.1.1 c) (G.1.2 c)) ∧ ∀ (t : Nat) (ty : FieldType), aty[t]? = some ty → KA (G.2 t) U ty
theorem KK.moved {G : GG} {u U : State} (hvm : u.vm.Alike U.vm) (h : KK G u) : KK G U := ⟨fun c q hq => u_Kn_moved hvm (h.1 c q hq), fun t ty ht => (h.2 t ty ht).moved hvm⟩
theorem KK.va {G : GG} {U : State} (h : KK G U) : va_K G.1 vwCl [] U := ⟨h.1, fun k q hk => by simp at hk⟩
/-- the walk's own state -/
def WK (G : GG) (ed lo : Nat) (s : State) (μ : Mem) (H : Heap) (locs : List Loc) : Prop := MM G μ H ∧ mE μ = ed ∧ mW μ = lo ∧ va_S (fun q => lo ≤ q) s.heap H locs
abbrev CX : Type := GG × Nat × Nat × Program × Launch × Env × Room × State × MethodId × Array Value × List Frame × Method × Code × (State → Prop)
def xR (X : CX) : Room := X.2.2.2.2.2.2.1
def WM (X : CX) (nL pc : Nat) (lv : List (Nat × TV)) (st : List TV) (cells slots : Nat) (μ : Mem) : Prop := match X with
  | (G, ed, lo, p, l, e, R, s, m, args, below, meth, c, Q) => ∀ (H : Heap) (locs : List Loc) (ls : Array Slot), WK G ed lo s μ H locs → lv_has ls nL (tvl lv) → W p l e R s m args below meth c H locs cells slots Q (F0 m pc ls (st.map tv))
def EV (X : CX) (cc : ByteArray) (nL : Nat) (own : String) (ret : Option FieldType) : Prop := match X with
  | (G, ed, lo, p, l, e, R, s, m, args, below, meth, c, Q) => p.tables.exec = Jvm.exec ∧ c.code = cc ∧ c.maxLocals = nL ∧ s.vm.findClass own = some m.cls ∧ (∀ w ∈ GW, w.before args s = true) ∧ NN s ∧ KK G s ∧ OO ed lo s s.heap ∧ lo ≤ s.heap.size ∧ meth.locks = false ∧ meth.sig.returnType = ret
/-! contracts -/
def WD (G : GG) (μ : Mem) (U : State) : Prop := NN U ∧ KK G U ∧ OO (mE μ) (mW μ) U U.heap ∧ mW μ ≤ U.heap.size ∧ MM G μ U.heap
def PC (G : GG) (μ : Mem) (av : List TV) : Array Value → State → Prop := fun v U => v = (av.map tv).toArray ∧ WD G μ U
def QC (G : GG) (μ μ' : Mem) (v : Option TV) : Array Value → State → Outcome → State → Prop := fun _ st oc t => oc = .returned (v.map tv) ∧ WD G μ' t ∧ va_F (fun q => mW μ ≤ q) st t ∧ mE μ' = mE μ ∧ mW μ' = mW μ
abbrev CT (l : Launch) (G : GG) (y : MethodName) (cc : ByteArray) (maxL : Nat) (ret : Option FieldType) (fr mc ms lc : Nat) (μ : Mem) (av : List TV) (v : Option TV) (μ' : Mem) : Prop :=
  Met l y (Cond.code y cc maxL ret :: GW) { frames := fr, cells := mc, slots := ms, locals := lc } (PC G μ av) (QC G μ μ' v) mc ms (fun q => mW μ ≤ q)
/-- the walk's end, for a method that returns -/
def RQ (X : CX) (mc ms : Nat) (μ : Mem) (v : Option TV) (μ' : Mem) : Prop := match X with
  | (G, ed, lo, p, l, e, R, s, m, args, below, meth, c, Q) => ed = mE μ ∧ lo = mW μ ∧ ∀ t, MQ below (QC G μ μ' v) args s mc ms (fun q => mW μ ≤ q) t → Q t
theorem W.mono {p : Program} {l : Launch} {e : Env} {R : Room} {s : State} {m : MethodId} {args : Array Value} {below : List Frame} {meth : Method} {c : Code} {H : Heap} {locs : List Loc} {cells slots : Nat} {Q Q' : State → Prop} {g : JFrame} (h : ∀ t, Q t → Q' t) (k : W p l e R s m args below meth c H locs cells slots Q g) : W p l e R s m args below meth c H locs cells slots Q' g := by
  intro T hT X
  obtain ⟨t, a, b⟩ := k T hT X
  exact ⟨t, a, h t b⟩
theorem WD.same {G : GG} {μ : Mem} {u U : State} (hvm : u.vm = U.vm) (hh : U.heap = u.heap) (h : WD G μ u) : WD G μ U := by
  obtain ⟨h0, h1, h2, h3, h4⟩ := h
  have ha : u.vm.Alike U.vm := by rw [hvm]; exact Vm.Alike.refl _
  exact ⟨h0.same hvm, h1.moved ha, by rw [hh]; exact h2.moved ha, by rw [hh]; exact h3, by rw [hh]; exact h4⟩
/-- from the walk to the contract -/
theorem wm_met {l : Launch} {G : GG} {y : MethodName} {cc : ByteArray} {maxL : Nat} {ret : Option FieldType} {fr mc ms lc : Nat} {μ : Mem} {av : List TV} {v : Option TV} {μ' : Mem} (hy : plainFor y = true) (hn : (av.map tcat).sum ≤ maxL) {lv : List (Nat × TV)} (hlv : tv_args 0 av = lv)
    (k : ∀ X : CX, EV X cc maxL y.cls ret → RQ X mc ms μ v μ' → xR X = { frames := fr, cells := mc, slots := ms, locals := lc } → X.2.2.2.2.2.2.2.2.2.2.2.1.name = y.name → WM X maxL 0 lv [] 0 0 μ) : CT l G y cc maxL ret fr mc ms lc μ av v μ' := by
  refine va_MetF (cc := cc) (maxL := maxL) (ret := ret) hy rfl ?_
  intro p e s m args below meth c s₁ B hml hv
  obtain ⟨rfl, hN, hK, hO, hlo, hM⟩ := hv
  have hts := atoms_spec (ws := Cond.code y cc maxL ret :: GW) B.pre
  have K := k (G, mE μ, mW μ, p, l, e, { frames := fr, cells := mc, slots := ms, locals := lc }, s, m, (av.map tv).toArray, below, meth, c, MQ below (QC G μ μ' v) (av.map tv).toArray s mc ms (fun q => mW μ ≤ q))
    ⟨B.exec, B.bytes, hml, findClass_of_methodNamed B.named, fun w hw => hts w (List.mem_cons_of_mem _ hw), hN, hK, hO, hlo, B.notSynchronized, B.returns⟩ ⟨rfl, rfl, fun _ h => h⟩ rfl
    (name_of_methodNamed B.named B.method).1
  rw [lg_entry_eq]
  have hl := lv_entry (av.map tv) (n := maxL) (by rw [tv_len]; exact hn)
  rw [tv_args_eq, hlv] at hl
  exact K s.heap [] _ ⟨hM, rfl, rfl, va_S.rf⟩ hl
end
section
section
variable {X : CX} {cc : ByteArray} {nL pc : Nat} {own : String} {ret : Option FieldType} {lv : List (Nat × TV)} {st : List TV} {cells slots : Nat} {μ : Mem}

theorem wm_iadd (E : EV X cc nL own ret) {x y : Int32} (hdg : decode cc pc = .ok (.iadd, 1))
    (k : WM X nL (pc + 1) lv ((vI (x + y)) :: st) cells slots μ) : WM X nL pc lv ((vI y) :: (vI x) :: st) cells slots μ := by
  obtain ⟨G, ed, lo, p, l, e, R, s, m, args, below, meth, c, Q⟩ := X
  obtain ⟨hx, hb, hml, hown, hts, hN, hK, hO, hlo, hlk, hret⟩ := E
  exact fun H locs ls hw hl => lv_iadd hx hb hdg (k H locs ls hw hl)

theorem wm_isub (E : EV X cc nL own ret) {x y : Int32} (hdg : decode cc pc = .ok (.isub, 1))
    (k : WM X nL (pc + 1) lv ((vI (x - y)) :: st) cells slots μ) : WM X nL pc lv ((vI y) :: (vI x) :: st) cells slots μ := by
  obtain ⟨G, ed, lo, p, l, e, R, s, m, args, below, meth, c, Q⟩ := X
  obtain ⟨hx, hb, hml, hown, hts, hN, hK, hO, hlo, hlk, hret⟩ := E
  exact fun H locs ls hw hl => lv_isub hx hb hdg (k H locs ls hw hl)

theorem wm_imul (E : EV X cc nL own ret) {x y : Int32} (hdg : decode cc pc = .ok (.imul, 1))
    (k : WM X nL (pc + 1) lv ((vI (x * y)) :: st) cells slots μ) : WM X nL pc lv ((vI y) :: (vI x) :: st) cells slots μ := by
  obtain ⟨G, ed, lo, p, l, e, R, s, m, args, below, meth, c, Q⟩ := X
  obtain ⟨hx, hb, hml, hown, hts, hN, hK, hO, hlo, hlk, hret⟩ := E
  exact fun H locs ls hw hl => lv_imul hx hb hdg (k H locs ls hw hl)

theorem wm_iand (E : EV X cc nL own ret) {x y : Int32} (hdg : decode cc pc = .ok (.iand, 1))
    (k : WM X nL (pc + 1) lv ((vI (x &&& y)) :: st) cells slots μ) : WM X nL pc lv ((vI y) :: (vI x) :: st) cells slots μ := by
  obtain ⟨G, ed, lo, p, l, e, R, s, m, args, below, meth, c, Q⟩ := X
  obtain ⟨hx, hb, hml, hown, hts, hN, hK, hO, hlo, hlk, hret⟩ := E
  exact fun H locs ls hw hl => lv_iand hx hb hdg (k H locs ls hw hl)

theorem wm_ior (E : EV X cc nL own ret) {x y : Int32} (hdg : decode cc pc = .ok (.ior, 1))
    (k : WM X nL (pc + 1) lv ((vI (x ||| y)) :: st) cells slots μ) : WM X nL pc lv ((vI y) :: (vI x) :: st) cells slots μ := by
  obtain ⟨G, ed, lo, p, l, e, R, s, m, args, below, meth, c, Q⟩ := X
  obtain ⟨hx, hb, hml, hown, hts, hN, hK, hO, hlo, hlk, hret⟩ := E
  exact fun H locs ls hw hl => lv_ior hx hb hdg (k H locs ls hw hl)

theorem wm_ixor (E : EV X cc nL own ret) {x y : Int32} (hdg : decode cc pc = .ok (.ixor, 1))
    (k : WM X nL (pc + 1) lv ((vI (x ^^^ y)) :: st) cells slots μ) : WM X nL pc lv ((vI y) :: (vI x) :: st) cells slots μ := by
  obtain ⟨G, ed, lo, p, l, e, R, s, m, args, below, meth, c, Q⟩ := X
  obtain ⟨hx, hb, hml, hown, hts, hN, hK, hO, hlo, hlk, hret⟩ := E
  exact fun H locs ls hw hl => lv_ixor hx hb hdg (k H locs ls hw hl)

theorem wm_ladd (E : EV X cc nL own ret) {x y : Int64} (hdg : decode cc pc = .ok (.ladd, 1))
    (k : WM X nL (pc + 1) lv ((vL (x + y)) :: st) cells slots μ) : WM X nL pc lv ((vL y) :: (vL x) :: st) cells slots μ := by
  obtain ⟨G, ed, lo, p, l, e, R, s, m, args, below, meth, c, Q⟩ := X
  obtain ⟨hx, hb, hml, hown, hts, hN, hK, hO, hlo, hlk, hret⟩ := E
  exact fun H locs ls hw hl => lv_ladd hx hb hdg (k H locs ls hw hl)

theorem wm_lsub (E : EV X cc nL own ret) {x y : Int64} (hdg : decode cc pc = .ok (.lsub, 1))
    (k : WM X nL (pc + 1) lv ((vL (x - y)) :: st) cells slots μ) : WM X nL pc lv ((vL y) :: (vL x) :: st) cells slots μ := by
  obtain ⟨G, ed, lo, p, l, e, R, s, m, args, below, meth, c, Q⟩ := X
  obtain ⟨hx, hb, hml, hown, hts, hN, hK, hO, hlo, hlk, hret⟩ := E
  exact fun H locs ls hw hl => lv_lsub hx hb hdg (k H locs ls hw hl)

theorem wm_lmul (E : EV X cc nL own ret) {x y : Int64} (hdg : decode cc pc = .ok (.lmul, 1))
    (k : WM X nL (pc + 1) lv ((vL (x * y)) :: st) cells slots μ) : WM X nL pc lv ((vL y) :: (vL x) :: st) cells slots μ := by
  obtain ⟨G, ed, lo, p, l, e, R, s, m, args, below, meth, c, Q⟩ := X
  obtain ⟨hx, hb, hml, hown, hts, hN, hK, hO, hlo, hlk, hret⟩ := E
  exact fun H locs ls hw hl => lv_lmul hx hb hdg (k H locs ls hw hl)

theorem wm_land (E : EV X cc nL own ret) {x y : Int64} (hdg : decode cc pc = .ok (.land, 1))
    (k : WM X nL (pc + 1) lv ((vL (x &&& y)) :: st) cells slots μ) : WM X nL pc lv ((vL y) :: (vL x) :: st) cells slots μ := by
  obtain ⟨G, ed, lo, p, l, e, R, s, m, args, below, meth, c, Q⟩ := X
  obtain ⟨hx, hb, hml, hown, hts, hN, hK, hO, hlo, hlk, hret⟩ := E
  exact fun H locs ls hw hl => lv_land hx hb hdg (k H locs ls hw hl)

theorem wm_lor (E : EV X cc nL own ret) {x y : Int64} (hdg : decode cc pc = .ok (.lor, 1))
    (k : WM X nL (pc + 1) lv ((vL (x ||| y)) :: st) cells slots μ) : WM X nL pc lv ((vL y) :: (vL x) :: st) cells slots μ := by
  obtain ⟨G, ed, lo, p, l, e, R, s, m, args, below, meth, c, Q⟩ := X
  obtain ⟨hx, hb, hml, hown, hts, hN, hK, hO, hlo, hlk, hret⟩ := E
  exact fun H locs ls hw hl => lv_lor hx hb hdg (k H locs ls hw hl)

theorem wm_lxor (E : EV X cc nL own ret) {x y : Int64} (hdg : decode cc pc = .ok (.lxor, 1))
    (k : WM X nL (pc + 1) lv ((vL (x ^^^ y)) :: st) cells slots μ) : WM X nL pc lv ((vL y) :: (vL x) :: st) cells slots μ := by
  obtain ⟨G, ed, lo, p, l, e, R, s, m, args, below, meth, c, Q⟩ := X
  obtain ⟨hx, hb, hml, hown, hts, hN, hK, hO, hlo, hlk, hret⟩ := E
  exact fun H locs ls hw hl => lv_lxor hx hb hdg (k H locs ls hw hl)

theorem wm_idiv (E : EV X cc nL own ret) {x y : Int32} (hdg : decode cc pc = .ok (.idiv, 1)) (hne : ¬ y = 0)
    (k : WM X nL (pc + 1) lv ((vI (x / y)) :: st) cells slots μ) : WM X nL pc lv ((vI y) :: (vI x) :: st) cells slots μ := by
  obtain ⟨G, ed, lo, p, l, e, R, s, m, args, below, meth, c, Q⟩ := X
  obtain ⟨hx, hb, hml, hown, hts, hN, hK, hO, hlo, hlk, hret⟩ := E
  exact fun H locs ls hw hl => lv_idiv hx hb hdg hne (k H locs ls hw hl)

theorem wm_irem (E : EV X cc nL own ret) {x y : Int32} (hdg : decode cc pc = .ok (.irem, 1)) (hne : ¬ y = 0)
    (k : WM X nL (pc + 1) lv ((vI (x - x / y * y)) :: st) cells slots μ) : WM X nL pc lv ((vI y) :: (vI x) :: st) cells slots μ := by
  obtain ⟨G, ed, lo, p, l, e, R, s, m, args, below, meth, c, Q⟩ := X
  obtain ⟨hx, hb, hml, hown, hts, hN, hK, hO, hlo, hlk, hret⟩ := E
  exact fun H locs ls hw hl => lv_irem hx hb hdg hne (k H locs ls hw hl)

theorem wm_ldiv (E : EV X cc nL own ret) {x y : Int64} (hdg : decode cc pc = .ok (.ldiv, 1)) (hne : ¬ y = 0)
    (k : WM X nL (pc + 1) lv ((vL (x / y)) :: st) cells slots μ) : WM X nL pc lv ((vL y) :: (vL x) :: st) cells slots μ := by
  obtain ⟨G, ed, lo, p, l, e, R, s, m, args, below, meth, c, Q⟩ := X
  obtain ⟨hx, hb, hml, hown, hts, hN, hK, hO, hlo, hlk, hret⟩ := E
  exact fun H locs ls hw hl => lv_ldiv hx hb hdg hne (k H locs ls hw hl)

theorem wm_lrem (E : EV X cc nL own ret) {x y : Int64} (hdg : decode cc pc = .ok (.lrem, 1)) (hne : ¬ y = 0)
    (k : WM X nL (pc + 1) lv ((vL (x - x / y * y)) :: st) cells slots μ) : WM X nL pc lv ((vL y) :: (vL x) :: st) cells slots μ := by
  obtain ⟨G, ed, lo, p, l, e, R, s, m, args, below, meth, c, Q⟩ := X
  obtain ⟨hx, hb, hml, hown, hts, hN, hK, hO, hlo, hlk, hret⟩ := E
  exact fun H locs ls hw hl => lv_lrem hx hb hdg hne (k H locs ls hw hl)

theorem wm_ineg (E : EV X cc nL own ret) {x : Int32} (hdg : decode cc pc = .ok (.ineg, 1))
    (k : WM X nL (pc + 1) lv ((vI (-x)) :: st) cells slots μ) : WM X nL pc lv ((vI x) :: st) cells slots μ := by
  obtain ⟨G, ed, lo, p, l, e, R, s, m, args, below, meth, c, Q⟩ := X
  obtain ⟨hx, hb, hml, hown, hts, hN, hK, hO, hlo, hlk, hret⟩ := E
  exact fun H locs ls hw hl => lv_ineg hx hb hdg (k H locs ls hw hl)

theorem wm_ishl (E : EV X cc nL own ret) {x y : Int32} (hdg : decode cc pc = .ok (.ishl, 1))
    (k : WM X nL (pc + 1) lv ((vI (x <<< (y &&& 31))) :: st) cells slots μ) : WM X nL pc lv ((vI y) :: (vI x) :: st) cells slots μ := by
  obtain ⟨G, ed, lo, p, l, e, R, s, m, args, below, meth, c, Q⟩ := X
  obtain ⟨hx, hb, hml, hown, hts, hN, hK, hO, hlo, hlk, hret⟩ := E
  exact fun H locs ls hw hl => lv_ishl hx hb hdg (k H locs ls hw hl)

theorem wm_ishr (E : EV X cc nL own ret) {x y : Int32} (hdg : decode cc pc = .ok (.ishr, 1))
    (k : WM X nL (pc + 1) lv ((vI (x >>> (y &&& 31))) :: st) cells slots μ) : WM X nL pc lv ((vI y) :: (vI x) :: st) cells slots μ := by
  obtain ⟨G, ed, lo, p, l, e, R, s, m, args, below, meth, c, Q⟩ := X
  obtain ⟨hx, hb, hml, hown, hts, hN, hK, hO, hlo, hlk, hret⟩ := E
  exact fun H locs ls hw hl => lv_ishr hx hb hdg (k H locs ls hw hl)

theorem wm_lshl (E : EV X cc nL own ret) {x : Int64} {y : Int32} (hdg : decode cc pc = .ok (.lshl, 1))
    (k : WM X nL (pc + 1) lv ((vL (x <<< (y.toInt64 &&& 63))) :: st) cells slots μ) : WM X nL pc lv ((vI y) :: (vL x) :: st) cells slots μ := by
  obtain ⟨G, ed, lo, p, l, e, R, s, m, args, below, meth, c, Q⟩ := X
  obtain ⟨hx, hb, hml, hown, hts, hN, hK, hO, hlo, hlk, hret⟩ := E
  exact fun H locs ls hw hl => lv_lshl hx hb hdg rfl (k H locs ls hw hl)

theorem wm_i2l (E : EV X cc nL own ret) {x : Int32} (hdg : decode cc pc = .ok (.i2l, 1))
    (k : WM X nL (pc + 1) lv ((vL x.toInt64) :: st) cells slots μ) : WM X nL pc lv ((vI x) :: st) cells slots μ := by
  obtain ⟨G, ed, lo, p, l, e, R, s, m, args, below, meth, c, Q⟩ := X
  obtain ⟨hx, hb, hml, hown, hts, hN, hK, hO, hlo, hlk, hret⟩ := E
  exact fun H locs ls hw hl => lv_i2l hx hb hdg rfl (k H locs ls hw hl)

theorem wm_l2i (E : EV X cc nL own ret) {x : Int64} (hdg : decode cc pc = .ok (.l2i, 1))
    (k : WM X nL (pc + 1) lv ((vI x.toInt32) :: st) cells slots μ) : WM X nL pc lv ((vL x) :: st) cells slots μ := by
  obtain ⟨G, ed, lo, p, l, e, R, s, m, args, below, meth, c, Q⟩ := X
  obtain ⟨hx, hb, hml, hown, hts, hN, hK, hO, hlo, hlk, hret⟩ := E
  exact fun H locs ls hw hl => lv_l2i hx hb hdg rfl (k H locs ls hw hl)

theorem wm_i2c (E : EV X cc nL own ret) {x : Int32} (hdg : decode cc pc = .ok (.i2c, 1))
    (k : WM X nL (pc + 1) lv ((vI (x.toUInt32 % 65536).toInt32) :: st) cells slots μ) : WM X nL pc lv ((vI x) :: st) cells slots μ := by
  obtain ⟨G, ed, lo, p, l, e, R, s, m, args, below, meth, c, Q⟩ := X
  obtain ⟨hx, hb, hml, hown, hts, hN, hK, hO, hlo, hlk, hret⟩ := E
  exact fun H locs ls hw hl => lv_i2c hx hb hdg rfl (k H locs ls hw hl)

theorem wm_lcmp (E : EV X cc nL own ret) {x y : Int64} (hdg : decode cc pc = .ok (.lcmp, 1))
    (k : WM X nL (pc + 1) lv ((vI (lg_cmp x y)) :: st) cells slots μ) : WM X nL pc lv ((vL y) :: (vL x) :: st) cells slots μ := by
  obtain ⟨G, ed, lo, p, l, e, R, s, m, args, below, meth, c, Q⟩ := X
  obtain ⟨hx, hb, hml, hown, hts, hN, hK, hO, hlo, hlk, hret⟩ := E
  exact fun H locs ls hw hl => W.lcmp hx hb hdg (k H locs ls hw hl)

theorem wm_iconst (E : EV X cc nL own ret) {n : Int} {x : Int32} (hdg : decode cc pc = .ok (.iconst n, 1)) (hv : Int32.ofInt n = x)
    (k : WM X nL (pc + 1) lv ((vI x) :: st) cells slots μ) : WM X nL pc lv (st) cells slots μ := by
  obtain ⟨G, ed, lo, p, l, e, R, s, m, args, below, meth, c, Q⟩ := X
  obtain ⟨hx, hb, hml, hown, hts, hN, hK, hO, hlo, hlk, hret⟩ := E
  exact fun H locs ls hw hl => lv_iconst hx hb hdg hv (k H locs ls hw hl)

theorem wm_bipush (E : EV X cc nL own ret) {n : Int} {x : Int32} (hdg : decode cc pc = .ok (.bipush n, 2)) (hv : (Int8.ofInt n).toInt32 = x)
    (k : WM X nL (pc + 2) lv ((vI x) :: st) cells slots μ) : WM X nL pc lv (st) cells slots μ := by
  obtain ⟨G, ed, lo, p, l, e, R, s, m, args, below, meth, c, Q⟩ := X
  obtain ⟨hx, hb, hml, hown, hts, hN, hK, hO, hlo, hlk, hret⟩ := E
  exact fun H locs ls hw hl => lv_bipush hx hb hdg hv (k H locs ls hw hl)

theorem wm_sipush (E : EV X cc nL own ret) {n : Int} {x : Int32} (hdg : decode cc pc = .ok (.sipush n, 3)) (hv : (Int16.ofInt n).toInt32 = x)
    (k : WM X nL (pc + 3) lv ((vI x) :: st) cells slots μ) : WM X nL pc lv (st) cells slots μ := by
  obtain ⟨G, ed, lo, p, l, e, R, s, m, args, below, meth, c, Q⟩ := X
  obtain ⟨hx, hb, hml, hown, hts, hN, hK, hO, hlo, hlk, hret⟩ := E
  exact fun H locs ls hw hl => lv_sipush hx hb hdg hv (k H locs ls hw hl)

theorem wm_lconst (E : EV X cc nL own ret) {n : Fin 2} {x : Int64} (hdg : decode cc pc = .ok (.lconst n, 1)) (hv : Int64.ofNat (n : Nat) = x)
    (k : WM X nL (pc + 1) lv ((vL x) :: st) cells slots μ) : WM X nL pc lv (st) cells slots μ := by
  obtain ⟨G, ed, lo, p, l, e, R, s, m, args, below, meth, c, Q⟩ := X
  obtain ⟨hx, hb, hml, hown, hts, hN, hK, hO, hlo, hlk, hret⟩ := E
  exact fun H locs ls hw hl => lv_lconst hx hb hdg hv (k H locs ls hw hl)

theorem wm_ldc (E : EV X cc nL own ret) {index : Nat} {x : Int32} (hc : Cond.constant own index x ∈ GW) (hdg : decode cc pc = .ok (.ldc index, 2))
    (k : WM X nL (pc + 2) lv ((vI x) :: st) cells slots μ) : WM X nL pc lv (st) cells slots μ := by
  obtain ⟨G, ed, lo, p, l, e, R, s, m, args, below, meth, c, Q⟩ := X
  obtain ⟨hx, hb, hml, hown, hts, hN, hK, hO, hlo, hlk, hret⟩ := E
  exact fun H locs ls hw hl => lv_ldc hx hb hown (hts _ hc) hdg (k H locs ls hw hl)

theorem wm_ldcw (E : EV X cc nL own ret) {index : Nat} {x : Int32} (hc : Cond.constant own index x ∈ GW) (hdg : decode cc pc = .ok (.ldc_w index, 3))
    (k : WM X nL (pc + 3) lv ((vI x) :: st) cells slots μ) : WM X nL pc lv (st) cells slots μ := by
  obtain ⟨G, ed, lo, p, l, e, R, s, m, args, below, meth, c, Q⟩ := X
  obtain ⟨hx, hb, hml, hown, hts, hN, hK, hO, hlo, hlk, hret⟩ := E
  exact fun H locs ls hw hl => lv_ldcw hx hb hown (hts _ hc) hdg (k H locs ls hw hl)

theorem wm_ldc2 (E : EV X cc nL own ret) {index : Nat} {x : Int64} (hc : Cond.constantLong own index x ∈ GW) (hdg : decode cc pc = .ok (.ldc2_w index, 3))
    (k : WM X nL (pc + 3) lv ((vL x) :: st) cells slots μ) : WM X nL pc lv (st) cells slots μ := by
  obtain ⟨G, ed, lo, p, l, e, R, s, m, args, below, meth, c, Q⟩ := X
  obtain ⟨hx, hb, hml, hown, hts, hN, hK, hO, hlo, hlk, hret⟩ := E
  exact fun H locs ls hw hl => lv_ldc2 hx hb hown (hts _ hc) hdg (k H locs ls hw hl)

theorem wm_null (E : EV X cc nL own ret)  (hdg : decode cc pc = .ok (.aconst_null, 1))
    (k : WM X nL (pc + 1) lv ((vR none) :: st) cells slots μ) : WM X nL pc lv (st) cells slots μ := by
  obtain ⟨G, ed, lo, p, l, e, R, s, m, args, below, meth, c, Q⟩ := X
  obtain ⟨hx, hb, hml, hown, hts, hN, hK, hO, hlo, hlk, hret⟩ := E
  exact fun H locs ls hw hl => lv_null hx hb hdg (k H locs ls hw hl)

theorem wm_dup (E : EV X cc nL own ret) {x : TV} (hdg : decode cc pc = .ok (.dup, 1)) (hc : tcat x = 1)
    (k : WM X nL (pc + 1) lv ((x) :: (x) :: st) cells slots μ) : WM X nL pc lv ((x) :: st) cells slots μ := by
  obtain ⟨G, ed, lo, p, l, e, R, s, m, args, below, meth, c, Q⟩ := X
  obtain ⟨hx, hb, hml, hown, hts, hN, hK, hO, hlo, hlk, hret⟩ := E
  exact fun H locs ls hw hl => lv_dup hx hb hdg (tcat_eq x ▸ hc) (k H locs ls hw hl)

theorem wm_pop (E : EV X cc nL own ret) {x : TV} (hdg : decode cc pc = .ok (.pop, 1)) (hc : tcat x = 1)
    (k : WM X nL (pc + 1) lv (st) cells slots μ) : WM X nL pc lv ((x) :: st) cells slots μ := by
  obtain ⟨G, ed, lo, p, l, e, R, s, m, args, below, meth, c, Q⟩ := X
  obtain ⟨hx, hb, hml, hown, hts, hN, hK, hO, hlo, hlk, hret⟩ := E
  exact fun H locs ls hw hl => lv_pop hx hb hdg (tcat_eq x ▸ hc) (k H locs ls hw hl)

theorem wm_dup_x1 (E : EV X cc nL own ret) {x y : TV} (hdg : decode cc pc = .ok (.dup_x1, 1)) (hc : tcat x = 1) (hd : tcat y = 1)
    (k : WM X nL (pc + 1) lv ((x) :: (y) :: (x) :: st) cells slots μ) : WM X nL pc lv ((x) :: (y) :: st) cells slots μ := by
  obtain ⟨G, ed, lo, p, l, e, R, s, m, args, below, meth, c, Q⟩ := X
  obtain ⟨hx, hb, hml, hown, hts, hN, hK, hO, hlo, hlk, hret⟩ := E
  exact fun H locs ls hw hl => lv_dup_x1 hx hb hdg (tcat_eq x ▸ hc) (tcat_eq y ▸ hd) (k H locs ls hw hl)

theorem wm_dup2_11 (E : EV X cc nL own ret) {x y : TV} (hdg : decode cc pc = .ok (.dup2, 1)) (hc : tcat x = 1) (hd : tcat y = 1)
    (k : WM X nL (pc + 1) lv ((x) :: (y) :: (x) :: (y) :: st) cells slots μ) : WM X nL pc lv ((x) :: (y) :: st) cells slots μ := by
  obtain ⟨G, ed, lo, p, l, e, R, s, m, args, below, meth, c, Q⟩ := X
  obtain ⟨hx, hb, hml, hown, hts, hN, hK, hO, hlo, hlk, hret⟩ := E
  exact fun H locs ls hw hl => lv_dup2_11 hx hb hdg (tcat_eq x ▸ hc) (tcat_eq y ▸ hd) (k H locs ls hw hl)

theorem wm_iload_n (E : EV X cc nL own ret) {z : Fin 4} {i j : Nat} {x : Int32} (hdg : decode cc pc = .ok (.iload_n z, 1)) (hi : (z : Nat) = i) (hj : lv[j]? = some (i, vI x))
    (k : WM X nL (pc + 1) lv ((vI x) :: st) cells slots μ) : WM X nL pc lv (st) cells slots μ := by
  obtain ⟨G, ed, lo, p, l, e, R, s, m, args, below, meth, c, Q⟩ := X
  obtain ⟨hx, hb, hml, hown, hts, hN, hK, hO, hlo, hlk, hret⟩ := E
  exact fun H locs ls hw hl => lv_iload_n hx hb hdg hi (tv_at hl hj) (k H locs ls hw hl)

theorem wm_iload (E : EV X cc nL own ret) {i j : Nat} {x : Int32} (hdg : decode cc pc = .ok (.iload i, 2)) (hj : lv[j]? = some (i, vI x))
    (k : WM X nL (pc + 2) lv ((vI x) :: st) cells slots μ) : WM X nL pc lv (st) cells slots μ := by
  obtain ⟨G, ed, lo, p, l, e, R, s, m, args, below, meth, c, Q⟩ := X
  obtain ⟨hx, hb, hml, hown, hts, hN, hK, hO, hlo, hlk, hret⟩ := E
  exact fun H locs ls hw hl => lv_iload hx hb hdg (tv_at hl hj) (k H locs ls hw hl)

theorem wm_lload_n (E : EV X cc nL own ret) {z : Fin 4} {i j : Nat} {x : Int64} (hdg : decode cc pc = .ok (.lload_n z, 1)) (hi : (z : Nat) = i) (hj : lv[j]? = some (i, vL x))
    (k : WM X nL (pc + 1) lv ((vL x) :: st) cells slots μ) : WM X nL pc lv (st) cells slots μ := by
  obtain ⟨G, ed, lo, p, l, e, R, s, m, args, below, meth, c, Q⟩ := X
  obtain ⟨hx, hb, hml, hown, hts, hN, hK, hO, hlo, hlk, hret⟩ := E
  exact fun H locs ls hw hl => lv_lload_n hx hb hdg hi (tv_at hl hj) (k H locs ls hw hl)

theorem wm_lload (E : EV X cc nL own ret) {i j : Nat} {x : Int64} (hdg : decode cc pc = .ok (.lload i, 2)) (hj : lv[j]? = some (i, vL x))
    (k : WM X nL (pc + 2) lv ((vL x) :: st) cells slots μ) : WM X nL pc lv (st) cells slots μ := by
  obtain ⟨G, ed, lo, p, l, e, R, s, m, args, below, meth, c, Q⟩ := X
  obtain ⟨hx, hb, hml, hown, hts, hN, hK, hO, hlo, hlk, hret⟩ := E
  exact fun H locs ls hw hl => lv_lload hx hb hdg (tv_at hl hj) (k H locs ls hw hl)

theorem wm_aload_n (E : EV X cc nL own ret) {z : Fin 4} {i j : Nat} {x : Option Nat} (hdg : decode cc pc = .ok (.aload_n z, 1)) (hi : (z : Nat) = i) (hj : lv[j]? = some (i, vR x))
    (k : WM X nL (pc + 1) lv ((vR x) :: st) cells slots μ) : WM X nL pc lv st cells slots μ := by
  obtain ⟨G, ed, lo, p, l, e, R, s, m, args, below, meth, c, Q⟩ := X
  obtain ⟨hx, hb, hml, hown, hts, hN, hK, hO, hlo, hlk, hret⟩ := E
  cases x with
  | none => exact fun H locs ls hw hl => lv_aload_nN hx hb hdg hi (tv_at hl hj) (k H locs ls hw hl)
  | some a => exact fun H locs ls hw hl => lv_aload_n hx hb hdg hi (tv_at hl hj) (k H locs ls hw hl)

theorem wm_aload (E : EV X cc nL own ret) {i j : Nat} {x : Option Nat} (hdg : decode cc pc = .ok (.aload i, 2)) (hj : lv[j]? = some (i, vR x))
    (k : WM X nL (pc + 2) lv ((vR x) :: st) cells slots μ) : WM X nL pc lv st cells slots μ := by
  obtain ⟨G, ed, lo, p, l, e, R, s, m, args, below, meth, c, Q⟩ := X
  obtain ⟨hx, hb, hml, hown, hts, hN, hK, hO, hlo, hlk, hret⟩ := E
  cases x with
  | none => exact fun H locs ls hw hl => lv_aloadN hx hb hdg (tv_at hl hj) (k H locs ls hw hl)
  | some a => exact fun H locs ls hw hl => lv_aload hx hb hdg (tv_at hl hj) (k H locs ls hw hl)

theorem wm_istore_n (E : EV X cc nL own ret) {z : Fin 4} {i : Nat} {x : Int32} (hdg : decode cc pc = .ok (.istore_n z, 1)) (hi : (z : Nat) = i) {lv' : List (Nat × TV)} (hn : i < nL) (hl' : tv_s1 i (vI x) lv = lv')
    (k : WM X nL (pc + 1) lv' st cells slots μ) : WM X nL pc lv ((vI x) :: st) cells slots μ := by
  obtain ⟨G, ed, lo, p, l, e, R, s, m, args, below, meth, c, Q⟩ := X
  obtain ⟨hx, hb, hml, hown, hts, hN, hK, hO, hlo, hlk, hret⟩ := E
  subst hl'
  exact fun H locs ls hw hl => lv_istore_n hx hb hdg hi hl hn (tv_s1_eq i (vI x) lv) (fun ls' hl' => k H locs ls' hw hl')

theorem wm_istore (E : EV X cc nL own ret) {i : Nat} {x : Int32} (hdg : decode cc pc = .ok (.istore i, 2)) {lv' : List (Nat × TV)} (hn : i < nL) (hl' : tv_s1 i (vI x) lv = lv')
    (k : WM X nL (pc + 2) lv' st cells slots μ) : WM X nL pc lv ((vI x) :: st) cells slots μ := by
  obtain ⟨G, ed, lo, p, l, e, R, s, m, args, below, meth, c, Q⟩ := X
  obtain ⟨hx, hb, hml, hown, hts, hN, hK, hO, hlo, hlk, hret⟩ := E
  subst hl'
  exact fun H locs ls hw hl => lv_istore hx hb hdg hl hn (tv_s1_eq i (vI x) lv) (fun ls' hl' => k H locs ls' hw hl')

theorem wm_lstore_n (E : EV X cc nL own ret) {z : Fin 4} {i : Nat} {x : Int64} (hdg : decode cc pc = .ok (.lstore_n z, 1)) (hi : (z : Nat) = i) {lv' : List (Nat × TV)} (hn : i + 1 < nL) (hl' : tv_s2 i (vL x) lv = lv')
    (k : WM X nL (pc + 1) lv' st cells slots μ) : WM X nL pc lv ((vL x) :: st) cells slots μ := by
  obtain ⟨G, ed, lo, p, l, e, R, s, m, args, below, meth, c, Q⟩ := X
  obtain ⟨hx, hb, hml, hown, hts, hN, hK, hO, hlo, hlk, hret⟩ := E
  subst hl'
  exact fun H locs ls hw hl => lv_lstore_n hx hb hdg hi hl hn (tv_s2_eq i (vL x) lv) (fun ls' hl' => k H locs ls' hw hl')

theorem wm_lstore (E : EV X cc nL own ret) {i : Nat} {x : Int64} (hdg : decode cc pc = .ok (.lstore i, 2)) {lv' : List (Nat × TV)} (hn : i + 1 < nL) (hl' : tv_s2 i (vL x) lv = lv')
    (k : WM X nL (pc + 2) lv' st cells slots μ) : WM X nL pc lv ((vL x) :: st) cells slots μ := by
  obtain ⟨G, ed, lo, p, l, e, R, s, m, args, below, meth, c, Q⟩ := X
  obtain ⟨hx, hb, hml, hown, hts, hN, hK, hO, hlo, hlk, hret⟩ := E
  subst hl'
  exact fun H locs ls hw hl => lv_lstore hx hb hdg hl hn (tv_s2_eq i (vL x) lv) (fun ls' hl' => k H locs ls' hw hl')

theorem wm_astore_n (E : EV X cc nL own ret) {z : Fin 4} {i : Nat} {x : Option Nat} (hdg : decode cc pc = .ok (.astore_n z, 1)) (hi : (z : Nat) = i) {lv' : List (Nat × TV)} (hn : i < nL) (hl' : tv_s1 i (vR x) lv = lv')
    (k : WM X nL (pc + 1) lv' st cells slots μ) : WM X nL pc lv ((vR x) :: st) cells slots μ := by
  obtain ⟨G, ed, lo, p, l, e, R, s, m, args, below, meth, c, Q⟩ := X
  obtain ⟨hx, hb, hml, hown, hts, hN, hK, hO, hlo, hlk, hret⟩ := E
  subst hl'
  cases x with
  | none => exact fun H locs ls hw hl => lv_astore_nN hx hb hdg hi hl hn (tv_s1_eq i (vR none) lv) (fun ls' hl' => k H locs ls' hw hl')
  | some a => exact fun H locs ls hw hl => lv_astore_n hx hb hdg hi hl hn (tv_s1_eq i (vR (some a)) lv) (fun ls' hl' => k H locs ls' hw hl')

theorem wm_astore (E : EV X cc nL own ret) {i : Nat} {x : Option Nat} (hdg : decode cc pc = .ok (.astore i, 2)) {lv' : List (Nat × TV)} (hn : i < nL) (hl' : tv_s1 i (vR x) lv = lv')
    (k : WM X nL (pc + 2) lv' st cells slots μ) : WM X nL pc lv ((vR x) :: st) cells slots μ := by
  obtain ⟨G, ed, lo, p, l, e, R, s, m, args, below, meth, c, Q⟩ := X
  obtain ⟨hx, hb, hml, hown, hts, hN, hK, hO, hlo, hlk, hret⟩ := E
  subst hl'
  cases x with
  | none => exact fun H locs ls hw hl => lv_astoreN hx hb hdg hl hn (tv_s1_eq i (vR none) lv) (fun ls' hl' => k H locs ls' hw hl')
  | some a => exact fun H locs ls hw hl => lv_astore hx hb hdg hl hn (tv_s1_eq i (vR (some a)) lv) (fun ls' hl' => k H locs ls' hw hl')

theorem wm_iinc (E : EV X cc nL own ret) {i j : Nat} {n : Int} {d x : Int32} (hdg : decode cc pc = .ok (.iinc i n, 3)) (hd : Int32.ofInt n = d) (hj : lv[j]? = some (i, vI x)) {lv' : List (Nat × TV)} (hn : i < nL) (hl' : tv_s1 i (vI (x + d)) lv = lv')
    (k : WM X nL (pc + 3) lv' st cells slots μ) : WM X nL pc lv st cells slots μ := by
  obtain ⟨G, ed, lo, p, l, e, R, s, m, args, below, meth, c, Q⟩ := X
  obtain ⟨hx, hb, hml, hown, hts, hN, hK, hO, hlo, hlk, hret⟩ := E
  subst hl'; subst hd
  exact fun H locs ls hw hl => lv_iinc hx hb hdg hl (tv_get hj) rfl hn (tv_s1_eq i (vI (x + Int32.ofInt n)) lv) (fun ls' hl' => k H locs ls' hw hl')

theorem wm_if_eq (E : EV X cc nL own ret) {x : Int32} {off : Int} {tgt : Nat} (hdg : decode cc pc = .ok (.ifCond .eq off, 3)) (ht : (pc : Int) + off = (tgt : Int))
    (kt : x = 0 → WM X nL tgt lv st cells slots μ) (kf : ¬ x = 0 → WM X nL (pc + 3) lv st cells slots μ) : WM X nL pc lv ((vI x) :: st) cells slots μ := by
  obtain ⟨G, ed, lo, p, l, e, R, s, m, args, below, meth, c, Q⟩ := X
  obtain ⟨hx, hb, hml, hown, hts, hN, hK, hO, hlo, hlk, hret⟩ := E
  exact fun H locs ls hw hl => lv_if_eq hx hb hdg ht (fun q => kt q H locs ls hw hl) (fun q => kf q H locs ls hw hl)

theorem wm_if_ne (E : EV X cc nL own ret) {x : Int32} {off : Int} {tgt : Nat} (hdg : decode cc pc = .ok (.ifCond .ne off, 3)) (ht : (pc : Int) + off = (tgt : Int))
    (kt : ¬ x = 0 → WM X nL tgt lv st cells slots μ) (kf : x = 0 → WM X nL (pc + 3) lv st cells slots μ) : WM X nL pc lv ((vI x) :: st) cells slots μ := by
  obtain ⟨G, ed, lo, p, l, e, R, s, m, args, below, meth, c, Q⟩ := X
  obtain ⟨hx, hb, hml, hown, hts, hN, hK, hO, hlo, hlk, hret⟩ := E
  exact fun H locs ls hw hl => lv_if_ne hx hb hdg ht (fun q => kt q H locs ls hw hl) (fun q => kf q H locs ls hw hl)

theorem wm_if_lt (E : EV X cc nL own ret) {x : Int32} {off : Int} {tgt : Nat} (hdg : decode cc pc = .ok (.ifCond .lt off, 3)) (ht : (pc : Int) + off = (tgt : Int))
    (kt : x < 0 → WM X nL tgt lv st cells slots μ) (kf : ¬ x < 0 → WM X nL (pc + 3) lv st cells slots μ) : WM X nL pc lv ((vI x) :: st) cells slots μ := by
  obtain ⟨G, ed, lo, p, l, e, R, s, m, args, below, meth, c, Q⟩ := X
  obtain ⟨hx, hb, hml, hown, hts, hN, hK, hO, hlo, hlk, hret⟩ := E
  exact fun H locs ls hw hl => lv_if_lt hx hb hdg ht (fun q => kt q H locs ls hw hl) (fun q => kf q H locs ls hw hl)

theorem wm_if_ge (E : EV X cc nL own ret) {x : Int32} {off : Int} {tgt : Nat} (hdg : decode cc pc = .ok (.ifCond .ge off, 3)) (ht : (pc : Int) + off = (tgt : Int))
    (kt : 0 ≤ x → WM X nL tgt lv st cells slots μ) (kf : ¬ 0 ≤ x → WM X nL (pc + 3) lv st cells slots μ) : WM X nL pc lv ((vI x) :: st) cells slots μ := by
  obtain ⟨G, ed, lo, p, l, e, R, s, m, args, below, meth, c, Q⟩ := X
  obtain ⟨hx, hb, hml, hown, hts, hN, hK, hO, hlo, hlk, hret⟩ := E
  exact fun H locs ls hw hl => lv_if_ge hx hb hdg ht (fun q => kt q H locs ls hw hl) (fun q => kf q H locs ls hw hl)

theorem wm_if_gt (E : EV X cc nL own ret) {x : Int32} {off : Int} {tgt : Nat} (hdg : decode cc pc = .ok (.ifCond .gt off, 3)) (ht : (pc : Int) + off = (tgt : Int))
    (kt : 0 < x → WM X nL tgt lv st cells slots μ) (kf : ¬ 0 < x → WM X nL (pc + 3) lv st cells slots μ) : WM X nL pc lv ((vI x) :: st) cells slots μ := by
  obtain ⟨G, ed, lo, p, l, e, R, s, m, args, below, meth, c, Q⟩ := X
  obtain ⟨hx, hb, hml, hown, hts, hN, hK, hO, hlo, hlk, hret⟩ := E
  exact fun H locs ls hw hl => lv_if_gt hx hb hdg ht (fun q => kt q H locs ls hw hl) (fun q => kf q H locs ls hw hl)

theorem wm_if_le (E : EV X cc nL own ret) {x : Int32} {off : Int} {tgt : Nat} (hdg : decode cc pc = .ok (.ifCond .le off, 3)) (ht : (pc : Int) + off = (tgt : Int))
    (kt : x ≤ 0 → WM X nL tgt lv st cells slots μ) (kf : ¬ x ≤ 0 → WM X nL (pc + 3) lv st cells slots μ) : WM X nL pc lv ((vI x) :: st) cells slots μ := by
  obtain ⟨G, ed, lo, p, l, e, R, s, m, args, below, meth, c, Q⟩ := X
  obtain ⟨hx, hb, hml, hown, hts, hN, hK, hO, hlo, hlk, hret⟩ := E
  exact fun H locs ls hw hl => lv_if_le hx hb hdg ht (fun q => kt q H locs ls hw hl) (fun q => kf q H locs ls hw hl)

theorem wm_icmp_eq (E : EV X cc nL own ret) {x y : Int32} {off : Int} {tgt : Nat} (hdg : decode cc pc = .ok (.if_icmp .eq off, 3)) (ht : (pc : Int) + off = (tgt : Int))
    (kt : x = y → WM X nL tgt lv st cells slots μ) (kf : ¬ x = y → WM X nL (pc + 3) lv st cells slots μ) : WM X nL pc lv ((vI y) :: (vI x) :: st) cells slots μ := by
  obtain ⟨G, ed, lo, p, l, e, R, s, m, args, below, meth, c, Q⟩ := X
  obtain ⟨hx, hb, hml, hown, hts, hN, hK, hO, hlo, hlk, hret⟩ := E
  exact fun H locs ls hw hl => lv_icmp_eq hx hb hdg ht (fun q => kt q H locs ls hw hl) (fun q => kf q H locs ls hw hl)

theorem wm_icmp_ne (E : EV X cc nL own ret) {x y : Int32} {off : Int} {tgt : Nat} (hdg : decode cc pc = .ok (.if_icmp .ne off, 3)) (ht : (pc : Int) + off = (tgt : Int))
    (kt : ¬ x = y → WM X nL tgt lv st cells slots μ) (kf : x = y → WM X nL (pc + 3) lv st cells slots μ) : WM X nL pc lv ((vI y) :: (vI x) :: st) cells slots μ := by
  obtain ⟨G, ed, lo, p, l, e, R, s, m, args, below, meth, c, Q⟩ := X
  obtain ⟨hx, hb, hml, hown, hts, hN, hK, hO, hlo, hlk, hret⟩ := E
  exact fun H locs ls hw hl => lv_icmp_ne hx hb hdg ht (fun q => kt q H locs ls hw hl) (fun q => kf q H locs ls hw hl)

theorem wm_icmp_lt (E : EV X cc nL own ret) {x y : Int32} {off : Int} {tgt : Nat} (hdg : decode cc pc = .ok (.if_icmp .lt off, 3)) (ht : (pc : Int) + off = (tgt : Int))
    (kt : x < y → WM X nL tgt lv st cells slots μ) (kf : ¬ x < y → WM X nL (pc + 3) lv st cells slots μ) : WM X nL pc lv ((vI y) :: (vI x) :: st) cells slots μ := by
  obtain ⟨G, ed, lo, p, l, e, R, s, m, args, below, meth, c, Q⟩ := X
  obtain ⟨hx, hb, hml, hown, hts, hN, hK, hO, hlo, hlk, hret⟩ := E
  exact fun H locs ls hw hl => lv_icmp_lt hx hb hdg ht (fun q => kt q H locs ls hw hl) (fun q => kf q H locs ls hw hl)

theorem wm_icmp_ge (E : EV X cc nL own ret) {x y : Int32} {off : Int} {tgt : Nat} (hdg : decode cc pc = .ok (.if_icmp .ge off, 3)) (ht : (pc : Int) + off = (tgt : Int))
    (kt : y ≤ x → WM X nL tgt lv st cells slots μ) (kf : ¬ y ≤ x → WM X nL (pc + 3) lv st cells slots μ) : WM X nL pc lv ((vI y) :: (vI x) :: st) cells slots μ := by
  obtain ⟨G, ed, lo, p, l, e, R, s, m, args, below, meth, c, Q⟩ := X
  obtain ⟨hx, hb, hml, hown, hts, hN, hK, hO, hlo, hlk, hret⟩ := E
  exact fun H locs ls hw hl => lv_icmp_ge hx hb hdg ht (fun q => kt q H locs ls hw hl) (fun q => kf q H locs ls hw hl)

theorem wm_icmp_gt (E : EV X cc nL own ret) {x y : Int32} {off : Int} {tgt : Nat} (hdg : decode cc pc = .ok (.if_icmp .gt off, 3)) (ht : (pc : Int) + off = (tgt : Int))
    (kt : y < x → WM X nL tgt lv st cells slots μ) (kf : ¬ y < x → WM X nL (pc + 3) lv st cells slots μ) : WM X nL pc lv ((vI y) :: (vI x) :: st) cells slots μ := by
  obtain ⟨G, ed, lo, p, l, e, R, s, m, args, below, meth, c, Q⟩ := X
  obtain ⟨hx, hb, hml, hown, hts, hN, hK, hO, hlo, hlk, hret⟩ := E
  exact fun H locs ls hw hl => lv_icmp_gt hx hb hdg ht (fun q => kt q H locs ls hw hl) (fun q => kf q H locs ls hw hl)

theorem wm_icmp_le (E : EV X cc nL own ret) {x y : Int32} {off : Int} {tgt : Nat} (hdg : decode cc pc = .ok (.if_icmp .le off, 3)) (ht : (pc : Int) + off = (tgt : Int))
    (kt : x ≤ y → WM X nL tgt lv st cells slots μ) (kf : ¬ x ≤ y → WM X nL (pc + 3) lv st cells slots μ) : WM X nL pc lv ((vI y) :: (vI x) :: st) cells slots μ := by
  obtain ⟨G, ed, lo, p, l, e, R, s, m, args, below, meth, c, Q⟩ := X
  obtain ⟨hx, hb, hml, hown, hts, hN, hK, hO, hlo, hlk, hret⟩ := E
  exact fun H locs ls hw hl => lv_icmp_le hx hb hdg ht (fun q => kt q H locs ls hw hl) (fun q => kf q H locs ls hw hl)

theorem wm_acmp_eq (E : EV X cc nL own ret) {x y : Option Nat} {off : Int} {tgt : Nat} (hdg : decode cc pc = .ok (.if_acmp .eq off, 3)) (ht : (pc : Int) + off = (tgt : Int))
    (kt : x = y → WM X nL tgt lv st cells slots μ) (kf : ¬ x = y → WM X nL (pc + 3) lv st cells slots μ) : WM X nL pc lv ((vR y) :: (vR x) :: st) cells slots μ := by
  obtain ⟨G, ed, lo, p, l, e, R, s, m, args, below, meth, c, Q⟩ := X
  obtain ⟨hx, hb, hml, hown, hts, hN, hK, hO, hlo, hlk, hret⟩ := E
  exact fun H locs ls hw hl => lv_acmp_eq hx hb hdg ht (fun q => kt q H locs ls hw hl) (fun q => kf q H locs ls hw hl)

theorem wm_acmp_ne (E : EV X cc nL own ret) {x y : Option Nat} {off : Int} {tgt : Nat} (hdg : decode cc pc = .ok (.if_acmp .ne off, 3)) (ht : (pc : Int) + off = (tgt : Int))
    (kt : ¬ x = y → WM X nL tgt lv st cells slots μ) (kf : x = y → WM X nL (pc + 3) lv st cells slots μ) : WM X nL pc lv ((vR y) :: (vR x) :: st) cells slots μ := by
  obtain ⟨G, ed, lo, p, l, e, R, s, m, args, below, meth, c, Q⟩ := X
  obtain ⟨hx, hb, hml, hown, hts, hN, hK, hO, hlo, hlk, hret⟩ := E
  exact fun H locs ls hw hl => lv_acmp_ne hx hb hdg ht (fun q => kt q H locs ls hw hl) (fun q => kf q H locs ls hw hl)

theorem wm_ifnull (E : EV X cc nL own ret) {x : Option Nat} {off : Int} {tgt : Nat} (hdg : decode cc pc = .ok (.ifnull off, 3)) (ht : (pc : Int) + off = (tgt : Int))
    (kt : x = none → WM X nL tgt lv st cells slots μ) (kf : ¬ x = none → WM X nL (pc + 3) lv st cells slots μ) : WM X nL pc lv ((vR x) :: st) cells slots μ := by
  obtain ⟨G, ed, lo, p, l, e, R, s, m, args, below, meth, c, Q⟩ := X
  obtain ⟨hx, hb, hml, hown, hts, hN, hK, hO, hlo, hlk, hret⟩ := E
  cases x with
  | none => exact fun H locs ls hw hl => lv_ifnullN hx hb hdg ht (kt rfl H locs ls hw hl)
  | some a => exact fun H locs ls hw hl => lv_ifnull hx hb hdg (kf (fun q => by cases q) H locs ls hw hl)

theorem wm_ifnonnull (E : EV X cc nL own ret) {x : Option Nat} {off : Int} {tgt : Nat} (hdg : decode cc pc = .ok (.ifnonnull off, 3)) (ht : (pc : Int) + off = (tgt : Int))
    (kt : ¬ x = none → WM X nL tgt lv st cells slots μ) (kf : x = none → WM X nL (pc + 3) lv st cells slots μ) : WM X nL pc lv ((vR x) :: st) cells slots μ := by
  obtain ⟨G, ed, lo, p, l, e, R, s, m, args, below, meth, c, Q⟩ := X
  obtain ⟨hx, hb, hml, hown, hts, hN, hK, hO, hlo, hlk, hret⟩ := E
  cases x with
  | none => exact fun H locs ls hw hl => lv_ifnonnullN hx hb hdg (kf rfl H locs ls hw hl)
  | some a => exact fun H locs ls hw hl => lv_ifnonnull hx hb hdg ht (kt (fun q => by cases q) H locs ls hw hl)

theorem wm_goto (E : EV X cc nL own ret) {off : Int} {tgt : Nat} (hdg : decode cc pc = .ok (.goto off, 3)) (ht : (pc : Int) + off = (tgt : Int)) (k : WM X nL tgt lv st cells slots μ) : WM X nL pc lv st cells slots μ := by
  obtain ⟨G, ed, lo, p, l, e, R, s, m, args, below, meth, c, Q⟩ := X
  obtain ⟨hx, hb, hml, hown, hts, hN, hK, hO, hlo, hlk, hret⟩ := E
  exact fun H locs ls hw hl => lv_goto hx hb hdg ht (k H locs ls hw hl)

theorem wm_tabIn (E : EV X cc nL own ret) {dflt lo hi : Int} {offs : Array Int} {len : Nat} {x : Int32} {off : Int} {tgt : Nat} (hdg : decode cc pc = .ok (.tableswitch dflt lo hi offs, len)) (v : Int) (hv : x.toInt = v) (h1 : ¬ v < lo) (h2 : ¬ hi < v) (ho : offs[(v - lo).toNat]? = some off) (ht : (pc : Int) + off = (tgt : Int)) (k : WM X nL tgt lv st cells slots μ) : WM X nL pc lv ((vI x) :: st) cells slots μ := by
  obtain ⟨G, ed, lo, p, l, e, R, s, m, args, below, meth, c, Q⟩ := X
  obtain ⟨hx, hb, hml, hown, hts, hN, hK, hO, hlo, hlk, hret⟩ := E
  subst hv
  exact fun H locs ls hw hl => lv_tableIn hx hb hdg h1 h2 ho ht (k H locs ls hw hl)

theorem wm_tabOut (E : EV X cc nL own ret) {dflt lo hi : Int} {offs : Array Int} {len : Nat} {x : Int32} {tgt : Nat} (hdg : decode cc pc = .ok (.tableswitch dflt lo hi offs, len)) (h : x.toInt < lo ∨ hi < x.toInt) (ht : (pc : Int) + dflt = (tgt : Int)) (k : WM X nL tgt lv st cells slots μ) : WM X nL pc lv ((vI x) :: st) cells slots μ := by
  obtain ⟨G, ed, lo, p, l, e, R, s, m, args, below, meth, c, Q⟩ := X
  obtain ⟨hx, hb, hml, hown, hts, hN, hK, hO, hlo, hlk, hret⟩ := E
  exact fun H locs ls hw hl => lv_tableOut hx hb hdg h ht (k H locs ls hw hl)

theorem wm_lookup (E : EV X cc nL own ret) {dflt : Int} {ps : Array (Int × Int)} {len : Nat} {x : Int32} {off : Int} {tgt : Nat} (hdg : decode cc pc = .ok (.lookupswitch dflt ps, len)) (hp : (ps.toList.zip (ps.toList.drop 1)).all (fun (a, next) => a.1 < next.1) = true) (ho : Op.lookupswitch.offset ps.toList dflt x.toInt = off) (ht : (pc : Int) + off = (tgt : Int)) (k : WM X nL tgt lv st cells slots μ) : WM X nL pc lv ((vI x) :: st) cells slots μ := by
  obtain ⟨G, ed, lo, p, l, e, R, s, m, args, below, meth, c, Q⟩ := X
  obtain ⟨hx, hb, hml, hown, hts, hN, hK, hO, hlo, hlk, hret⟩ := E
  exact fun H locs ls hw hl => lv_lookup hx hb hdg hp ho ht (k H locs ls hw hl)

end
end
section
/-! the mirror's operations -/
def b1 {α β : Type} (o : Option α) (F : α → Option β) : Option β := match o with
  | some x => F x
  | none => none
def b2 {α β : Type} (o : Option (α × Mem)) (F : α → Mem → Option β) : Option β := match o with
  | some x => F x.1 x.2
  | none => none
theorem b1S {α β : Type} {o : Option α} {F : α → Option β} {r : β} (h : b1 o F = some r) : ∃ x, o = some x ∧ F x = some r := by
  cases o with
  | none => cases h
  | some x => exact ⟨x, rfl, h⟩
theorem b2S {α β : Type} {o : Option (α × Mem)} {F : α → Mem → Option β} {r : β} (h : b2 o F = some r) : ∃ x μ, o = some (x, μ) ∧ F x μ = some r := by
  cases o with
  | none => cases h
  | some x => exact ⟨x.1, x.2, rfl, h⟩
def oC (μ : Mem) (r : Option Nat) (ci : Nat) : Option (Nat × List Value) := match r with
  | none => none
  | some a => match mF μ a with
    | some (.inr o) => if o.1 = ci then some (a, o.2) else none
    | _ => none
theorem oCS {μ : Mem} {r : Option Nat} {ci a : Nat} {fs : List Value} (h : oC μ r ci = some (a, fs)) : r = some a ∧ mF μ a = some (.inr (ci, fs)) := by
  unfold oC at h
  split at h
  · cases h
  · rename_i b
    split at h
    · rename_i o ho
      split at h
      · rename_i hc
        cases h
        exact ⟨rfl, by rw [ho, ← hc]⟩
      · cases h
    · cases h
def rc (μ : Mem) (r : Option Nat) (ci : Nat) : Option Unit := match oC μ r ci with
  | some _ => some ()
  | none => none
theorem rcS {μ : Mem} {r : Option Nat} {ci : Nat} {u : Unit} (h : rc μ r ci = some u) : ∃ a fs, r = some a ∧ mF μ a = some (.inr (ci, fs)) := by
  unfold rc at h
  split at h
  · rename_i q hq
    obtain ⟨h1, h2⟩ := oCS (a := q.1) (fs := q.2) hq
    exact ⟨_, _, h1, h2⟩
  · cases h
def cK (μ : Mem) (r : Option Nat) (ci : Nat) : Option Unit := if r = none then some () else rc μ r ci
def gI (μ : Mem) (r : Option Nat) (ci k : Nat) : Option Int32 := match oC μ r ci with
  | some q => (match q.2[k]? with
    | some (.int x) => some x
    | _ => none)
  | none => none
def gL (μ : Mem) (r : Option Nat) (ci k : Nat) : Option Int64 := match oC μ r ci with
  | some q => (match q.2[k]? with
    | some (.long x) => some x
    | _ => none)
  | none => none
def gR (μ : Mem) (r : Option Nat) (ci k : Nat) : Option (Option Nat) := match oC μ r ci with
  | some q => (match q.2[k]? with
    | some (.ref x) => some (some x)
    | some .null => some none
    | _ => none)
  | none => none
theorem gIS {μ : Mem} {r : Option Nat} {ci k : Nat} {x : Int32} (h : gI μ r ci k = some x) : ∃ a fs, r = some a ∧ mF μ a = some (.inr (ci, fs)) ∧ fs[k]? = some (.int x) := by
  unfold gI at h
  split at h
  · rename_i q hq
    obtain ⟨h1, h2⟩ := oCS (a := q.1) (fs := q.2) hq
    split at h
    · rename_i y hy
      cases h
      exact ⟨_, _, h1, h2, hy⟩
    · cases h
  · cases h
theorem gLS {μ : Mem} {r : Option Nat} {ci k : Nat} {x : Int64} (h : gL μ r ci k = some x) : ∃ a fs, r = some a ∧ mF μ a = some (.inr (ci, fs)) ∧ fs[k]? = some (.long x) := by
  unfold gL at h
  split at h
  · rename_i q hq
    obtain ⟨h1, h2⟩ := oCS (a := q.1) (fs := q.2) hq
    split at h
    · rename_i y hy
      cases h
      exact ⟨_, _, h1, h2, hy⟩
    · cases h
  · cases h
theorem gRS {μ : Mem} {r : Option Nat} {ci k : Nat} {x : Option Nat} (h : gR μ r ci k = some x) : ∃ a fs, r = some a ∧ mF μ a = some (.inr (ci, fs)) ∧ fs[k]? = some (va_rf x) := by
  unfold gR at h
  split at h
  · rename_i q hq
    obtain ⟨h1, h2⟩ := oCS (a := q.1) (fs := q.2) hq
    split at h
    · rename_i y hy
      cases h
      exact ⟨_, _, h1, h2, hy⟩
    · rename_i hy
      cases h
      exact ⟨_, _, h1, h2, hy⟩
    · cases h
  · cases h
def pV (μ : Mem) (r : Option Nat) (ci k : Nat) (v : TV) : Option Mem := match oC μ r ci with
  | some q => if mW μ ≤ q.1 ∧ k < q.2.length then some (m_set μ q.1 (.inr (ci, q.2.set k (tv v)))) else none
  | none => none
def pZ (μ : Mem) (r : Option Nat) (ci k : Nat) (x : Int32) : Option Mem := if x = 0 ∨ x = 1 then pV μ r ci k (vI x) else none
theorem pVS {μ μ2 : Mem} {r : Option Nat} {ci k : Nat} {v : TV} (h : pV μ r ci k v = some μ2) : ∃ a fs, r = some a ∧ mF μ a = some (.inr (ci, fs)) ∧ mW μ ≤ a ∧ k < fs.length ∧ μ2 = m_set μ a (.inr (ci, fs.set k (tv v))) := by
  unfold pV at h
  split at h
  · rename_i q hq
    obtain ⟨h1, h2⟩ := oCS (a := q.1) (fs := q.2) hq
    split at h
    · rename_i hc
      cases h
      exact ⟨_, _, h1, h2, hc.1, hc.2, rfl⟩
    · cases h
  · cases h
def nO (μ : Mem) (ci : Nat) (fs : List Value) : Option (Option Nat × Mem) := some (some (mN μ), m_push μ (.inr (ci, fs)))
def aC (μ : Mem) (r : Option Nat) (t : Nat) : Option (Nat × vp_A) := match r with
  | none => none
  | some a => match mF μ a with
    | some (.inl o) => if o.1 = t then some (a, o.2) else none
    | _ => none
theorem aCS {μ : Mem} {r : Option Nat} {t a : Nat} {x : vp_A} (h : aC μ r t = some (a, x)) : r = some a ∧ mF μ a = some (.inl (t, x)) := by
  unfold aC at h
  split at h
  · cases h
  · rename_i b
    split at h
    · rename_i o ho
      split at h
      · rename_i hc
        cases h
        exact ⟨rfl, by rw [ho, ← hc]⟩
      · cases h
    · cases h
def aI (μ : Mem) (r : Option Nat) (t : Nat) (i : Int32) : Option Int32 := match aC μ r t with
  | some (_, n, .inl f) => if i < 0 ∨ n ≤ i.toNatClampNeg then none else some (f i.toNatClampNeg)
  | _ => none
def aL (μ : Mem) (r : Option Nat) (t : Nat) (i : Int32) : Option Int64 := match aC μ r t with
  | some (_, n, .inr (.inl f)) => if i < 0 ∨ n ≤ i.toNatClampNeg then none else some (f i.toNatClampNeg)
  | _ => none
def aR (μ : Mem) (r : Option Nat) (t : Nat) (i : Int32) : Option (Option Nat) := match aC μ r t with
  | some (_, n, .inr (.inr (.inr (.inr f)))) => if i < 0 ∨ n ≤ i.toNatClampNeg then none else some (f i.toNatClampNeg)
  | _ => none
theorem aIS {μ : Mem} {r : Option Nat} {t : Nat} {i x : Int32} (h : aI μ r t i = some x) : ∃ a n f, r = some a ∧ mF μ a = some (.inl (t, n, .inl f)) ∧ vp_in i n ∧ x = f i.toNatClampNeg := by
  unfold aI at h
  split at h
  · rename_i a n f hq
    obtain ⟨h1, h2⟩ := aCS hq
    split at h
    · cases h
    · rename_i hi
      cases h
      exact ⟨_, _, _, h1, h2, hi, rfl⟩
  · cases h
theorem aLS {μ : Mem} {r : Option Nat} {t : Nat} {i : Int32} {x : Int64} (h : aL μ r t i = some x) : ∃ a n f, r = some a ∧ mF μ a = some (.inl (t, n, .inr (.inl f))) ∧ vp_in i n ∧ x = f i.toNatClampNeg := by
  unfold aL at h
  split at h
  · rename_i a n f hq
    obtain ⟨h1, h2⟩ := aCS hq
    split at h
    · cases h
    · rename_i hi
      cases h
      exact ⟨_, _, _, h1, h2, hi, rfl⟩
  · cases h
theorem aRS {μ : Mem} {r : Option Nat} {t : Nat} {i : Int32} {x : Option Nat} (h : aR μ r t i = some x) : ∃ a n f, r = some a ∧ mF μ a = some (.inl (t, n, .inr (.inr (.inr (.inr f))))) ∧ vp_in i n ∧ x = f i.toNatClampNeg := by
  unfold aR at h
  split at h
  · rename_i a n f hq
    obtain ⟨h1, h2⟩ := aCS hq
    split at h
    · cases h
    · rename_i hi
      cases h
      exact ⟨_, _, _, h1, h2, hi, rfl⟩
  · cases h
def sI (μ : Mem) (r : Option Nat) (t : Nat) (i x : Int32) : Option Mem := match aC μ r t with
  | some (a, n, .inl f) => if i < 0 ∨ n ≤ i.toNatClampNeg then none else if mW μ ≤ a then some (m_set μ a (.inl (t, n, .inl (upd f i.toNatClampNeg x)))) else none
  | _ => none
def sL (μ : Mem) (r : Option Nat) (t : Nat) (i : Int32) (x : Int64) : Option Mem := match aC μ r t with
  | some (a, n, .inr (.inl f)) => if i < 0 ∨ n ≤ i.toNatClampNeg then none else if mW μ ≤ a then some (m_set μ a (.inl (t, n, .inr (.inl (vp_updL f i.toNatClampNeg x))))) else none
  | _ => none
/-- which kinds of objects may be stored: cs -/
def okS (μ : Mem) (cs : List Nat) (x : Option Nat) : Bool := match x with
  | none => true
  | some b => (match mF μ b with
    | some (.inr o) => cs.contains o.1
    | _ => false)
def sR (μ : Mem) (r : Option Nat) (t : Nat) (cs : List Nat) (i : Int32) (x : Option Nat) : Option Mem := match aC μ r t with
  | some (a, n, .inr (.inr (.inr (.inr f)))) => if i < 0 ∨ n ≤ i.toNatClampNeg then none else if mW μ ≤ a ∧ okS μ cs x = true then some (m_set μ a (.inl (t, n, .inr (.inr (.inr (.inr (va_up f i.toNatClampNeg x))))))) else none
  | _ => none
theorem sIS {μ μ2 : Mem} {r : Option Nat} {t : Nat} {i x : Int32} (h : sI μ r t i x = some μ2) : ∃ a n f, r = some a ∧ mF μ a = some (.inl (t, n, .inl f)) ∧ vp_in i n ∧ mW μ ≤ a ∧ μ2 = m_set μ a (.inl (t, n, .inl (upd f i.toNatClampNeg x))) := by
  unfold sI at h
  split at h
  · rename_i a n f hq
    obtain ⟨h1, h2⟩ := aCS hq
    split at h
    · cases h
    · rename_i hi
      split at h
      · rename_i hw
        cases h
        exact ⟨_, _, _, h1, h2, hi, hw, rfl⟩
      · cases h
  · cases h
theorem sLS {μ μ2 : Mem} {r : Option Nat} {t : Nat} {i : Int32} {x : Int64} (h : sL μ r t i x = some μ2) : ∃ a n f, r = some a ∧ mF μ a = some (.inl (t, n, .inr (.inl f))) ∧ vp_in i n ∧ mW μ ≤ a ∧ μ2 = m_set μ a (.inl (t, n, .inr (.inl (vp_updL f i.toNatClampNeg x)))) := by
  unfold sL at h
  split at h
  · rename_i a n f hq
    obtain ⟨h1, h2⟩ := aCS hq
    split at h
    · cases h
    · rename_i hi
      split at h
      · rename_i hw
        cases h
        exact ⟨_, _, _, h1, h2, hi, hw, rfl⟩
      · cases h
  · cases h
theorem sRS {μ μ2 : Mem} {r : Option Nat} {t : Nat} {cs : List Nat} {i : Int32} {x : Option Nat} (h : sR μ r t cs i x = some μ2) : ∃ a n f, r = some a ∧ mF μ a = some (.inl (t, n, .inr (.inr (.inr (.inr f))))) ∧ vp_in i n ∧ mW μ ≤ a ∧ okS μ cs x = true ∧ μ2 = m_set μ a (.inl (t, n, .inr (.inr (.inr (.inr (va_up f i.toNatClampNeg x)))))) := by
  unfold sR at h
  split at h
  · rename_i a n f hq
    obtain ⟨h1, h2⟩ := aCS hq
    split at h
    · cases h
    · rename_i hi
      split at h
      · rename_i hw
        cases h
        exact ⟨_, _, _, h1, h2, hi, hw.1, hw.2, rfl⟩
      · cases h
  · cases h
def aLen (μ : Mem) (r : Option Nat) : Option Int32 := match r with
  | none => none
  | some a => if a = mE μ then some 0 else match mF μ a with
    | some (.inl o) => if o.1 < aty.length then some (Int32.ofNat o.2.1) else none
    | _ => none
def nI_ (μ : Mem) (t : Nat) (n : Int32) (B : Nat) : Option (Option Nat × Mem) := if n < 0 ∨ B < n.toNatClampNeg then none else some (some (mN μ), m_push μ (.inl (t, n.toNatClampNeg, .inl (fun _ => 0))))
def nL_ (μ : Mem) (t : Nat) (n : Int32) (B : Nat) : Option (Option Nat × Mem) := if n < 0 ∨ B < n.toNatClampNeg then none else some (some (mN μ), m_push μ (.inl (t, n.toNatClampNeg, .inr (.inl (fun _ => 0)))))
def nR_ (μ : Mem) (t : Nat) (n : Int32) (B : Nat) : Option (Option Nat × Mem) := if n < 0 ∨ B < n.toNatClampNeg then none else some (some (mN μ), m_push μ (.inl (t, n.toNatClampNeg, .inr (.inr (.inr (.inr (fun _ => none)))))))
/-! facts on the tables that the rows ask for -/
def FD (own : String) (index ci k : Nat) : Prop := ∃ (C : String) (T : u_T) (N : Nat) (ref : String), vwCl[ci]? = some (C, T, N) ∧ k < N ∧ (∀ w ∈ u_ws C T N, w ∈ GW) ∧ (ref = (T k).1 ∨ Cond.sameField ref (T k).1 (T k).2.1 (T k).2.2.1 ∈ GW) ∧ (Cond.fieldLink own index ref (T k).2.1 (T k).2.2.1 ∈ GW ∨ ∃ host, Cond.fieldLinkNest own index ref (T k).2.1 (T k).2.2.1 host ∈ NW)
/-- for a store: the field's type; fin: it is final (then its maker alone writes it) -/
def FP (own : String) (index ci k : Nat) (ty : FieldType) (fin : Bool) : Prop := ∃ (C : String) (T : u_T) (N : Nat) (ref : String) (ty0 : Nat → FieldType), vwCl[ci]? = some (C, T, N) ∧ k < N ∧ (∀ w ∈ u_ws C T N, w ∈ GW) ∧ (ref = (T k).1 ∨ Cond.sameField ref (T k).1 (T k).2.1 (T k).2.2.1 ∈ GW) ∧
  (∀ j, j < N → parseFieldDescriptor (T j).2.2.1 = some (ty0 j)) ∧ (∀ a, a < N → ∀ b, b < N → a ≠ b → (T a).2.1 ≠ (T b).2.1) ∧ ty0 k = ty ∧ (T k).2.2.2 = fin ∧ ((Cond.fieldLink own index ref (T k).2.1 (T k).2.2.1 ∈ GW ∧ (fin = true → (T k).1 = own)) ∨ (fin = false ∧ ∃ host, Cond.fieldLinkNest own index ref (T k).2.1 (T k).2.2.1 host ∈ NW))
def ND (own : String) (index ci N : Nat) (fs : List Value) : Prop := ∃ (C : String) (T : u_T) (ty : Nat → FieldType), vwCl[ci]? = some (C, T, N) ∧ (∀ w ∈ u_ws C T N, w ∈ GW) ∧ (∀ j, j < N → parseFieldDescriptor (T j).2.2.1 = some (ty j)) ∧ Cond.classLink own index C ∈ GW ∧ Cond.instantiable C N ∈ GW ∧ Cond.initialized C ∈ GW ∧ ∀ j, j < N → defaultValue (ty j) = vp_V fs j
/-- an object of kind ci may lie in an array over C -/
def AS (C : String) (ci : Nat) : Prop := ∃ (D : String) (T : u_T) (N : Nat), vwCl[ci]? = some (D, T, N) ∧ (D = C ∨ Cond.castable D C ∈ NW)
section
variable {X : CX} {cc : ByteArray} {nL pc : Nat} {own : String} {ret : Option FieldType} {lv : List (Nat × TV)} {st : List TV} {cells slots : Nat} {μ : Mem} {β : Type} {res : β}
theorem wm_get0 (E : EV X cc nL own ret) {index ci k a : Nat} {fs : List Value} {v : TV} (hf : FD own index ci k) (hc : mF μ a = some (.inr (ci, fs))) (hv : fs[k]? = some (tv v)) (hdg : decode cc pc = .ok (.getfield index, 3)) (kk : WM X nL (pc + 3) lv (v :: st) cells slots μ) : WM X nL pc lv (vR (some a) :: st) cells slots μ := by
  obtain ⟨G, ed, lo, p, l, e, R, s, m, args, below, meth, c, Q⟩ := X
  obtain ⟨hx, hb, hml, hown, hts, hN, hK, hO, hlo, hlk, hret⟩ := E
  obtain ⟨C, T, N, ref, hcl, hk, hin, hsm, hlk⟩ := hf
  intro H locs ls hw hl
  have hP : va_P G.1 vwCl [(a, .inr (ci, fs))] H := fun j q hj => by
    cases j with
    | zero => cases hj; exact hw.1.2 a _ hc
    | succ j => simp at hj
  have hsame : ∀ x, s.fieldFound? (T k).1 (T k).2.1 (T k).2.2.1 = some x → s.fieldFound? ref (T k).2.1 (T k).2.2.1 = some x := by
    rcases hsm with rfl | hsm
    · exact fun _ h => h
    · exact u_same (hts _ hsm)
  rcases hlk with hlk | ⟨host, hlk⟩
  · exact va_get hx hb hts hin hown hK.va hP 0 rfl hcl k hk (hts _ hlk) hsame hv hdg (kk H locs ls hw hl)
  · exact va_getN hx hb hts hin hown hK.va hP 0 rfl hcl k hk (va_Nw.use rfl (hN _ hlk)) hsame hv hdg (kk H locs ls hw hl)
theorem wm_gI (E : EV X cc nL own ret) {index ci k : Nat} {r : Option Nat} {F : Int32 → Option β} (hf : FD own index ci k) (h : b1 (gI μ r ci k) F = some res) (hdg : decode cc pc = .ok (.getfield index, 3)) (kk : ∀ x, F x = some res → WM X nL (pc + 3) lv (vI x :: st) cells slots μ) : WM X nL pc lv (vR r :: st) cells slots μ := by
  obtain ⟨x, h1, h2⟩ := b1S h
  obtain ⟨a, fs, rfl, hc, hv⟩ := gIS h1
  exact wm_get0 (v := vI x) E hf hc hv hdg (kk x h2)
theorem wm_gL (E : EV X cc nL own ret) {index ci k : Nat} {r : Option Nat} {F : Int64 → Option β} (hf : FD own index ci k) (h : b1 (gL μ r ci k) F = some res) (hdg : decode cc pc = .ok (.getfield index, 3)) (kk : ∀ x, F x = some res → WM X nL (pc + 3) lv (vL x :: st) cells slots μ) : WM X nL pc lv (vR r :: st) cells slots μ := by
  obtain ⟨x, h1, h2⟩ := b1S h
  obtain ⟨a, fs, rfl, hc, hv⟩ := gLS h1
  exact wm_get0 (v := vL x) E hf hc hv hdg (kk x h2)
theorem wm_gR (E : EV X cc nL own ret) {index ci k : Nat} {r : Option Nat} {F : Option Nat → Option β} (hf : FD own index ci k) (h : b1 (gR μ r ci k) F = some res) (hdg : decode cc pc = .ok (.getfield index, 3)) (kk : ∀ x, F x = some res → WM X nL (pc + 3) lv (vR x :: st) cells slots μ) : WM X nL pc lv (vR r :: st) cells slots μ := by
  obtain ⟨x, h1, h2⟩ := b1S h
  obtain ⟨a, fs, rfl, hc, hv⟩ := gRS h1
  exact wm_get0 (v := vR x) E hf hc hv hdg (kk x h2)
theorem wm_put0 (E : EV X cc nL own ret) {index ci k : Nat} {r : Option Nat} {v : TV} {ty : FieldType} {fin : Bool} {μ2 : Mem} (hf : FP own index ci k ty fin) (hfin : fin = true → X.2.2.2.2.2.2.2.2.2.2.2.1.name = "<init>") (hn : narrow ty (tv v) = tv v) (hfit : fits ty (tv v) = true) (h1 : pV μ r ci k v = some μ2) (hdg : decode cc pc = .ok (.putfield index, 3)) (kk : WM X nL (pc + 3) lv st cells slots μ2) : WM X nL pc lv (v :: vR r :: st) cells slots μ := by
  obtain ⟨a, fs, rfl, hc, ha, hl0, rfl⟩ := pVS h1
  obtain ⟨G, ed, lo, p, l, e, R, s, m, args, below, meth, c, Q⟩ := X
  obtain ⟨hx, hb, hml, hown, hts, hN, hK, hO, hlo, hlk, hret⟩ := E
  obtain ⟨C, T, N, ref, ty0, hcl, hk, hin, hsm, hty, hnm, htk, hfi, hlk⟩ := hf
  intro H locs ls hw hl
  obtain ⟨hM, hE, hW, hS⟩ := hw
  have hsame : ∀ x, s.fieldFound? (T k).1 (T k).2.1 (T k).2.2.1 = some x → s.fieldFound? ref (T k).2.1 (T k).2.2.1 = some x := by
    rcases hsm with rfl | hsm
    · exact fun _ h => h
    · exact u_same (hts _ hsm)
  have hd : parseFieldDescriptor (T k).2.2.1 = some ty := by rw [← htk]; exact hty k hk
  have hap := va_apart (own := own) hts hin ty0 hty hnm hK.va hcl
  obtain ⟨r, h1, cell, q1, q2, q3, q4⟩ := hM.2 a _ hc
  have hr : r = (C, T, N) := Option.some.inj (h1.symm.trans hcl)
  subst hr
  obtain ⟨hSl, hfc, kC, hkC, hkind⟩ := hK.1 ci _ hcl
  obtain ⟨cf, kf, fi, f, hi, hsl⟩ := hSl k hk
  have hlay := hts _ (hin _ (u_in_lay hk))
  unfold u_lay at hlay
  have hst := (u_facts hfc hkC (u_lays hts hin hk) hi).1
  have fin9 : ∀ H', H'[a]? = some (cell.setSlot f.slot (tv v)) → H'.size = H.size → (∀ q, q ≠ a → H'[q]? = H[q]?) → W p l e R s m args below meth c H' (locs ++ [⟨a, f.slot⟩]) cells slots Q (F0 m (pc + 3) ls (st.map tv)) := by
    intro H' e1 e2 e3
    rw [hsl] at e1 ⊢
    exact kk H' _ ls ⟨hM.set (e := .inr (ci, fs.set k (tv v))) ⟨_, hcl, t_OB.to (V := updV (vp_V fs) k (tv v)) ⟨_, e1, q2, q3, t_set q4 hap hk (tv v)⟩ (fun j _ => vp_updV_set hl0 (tv v) j)⟩ e2 e3, hE, hW, hS.put e2 e3 (by rw [← hW]; exact ha)⟩ hl
  rcases hlk with ⟨hlk, hdecl⟩ | ⟨hff, host, hlk⟩
  · cases fin with
    | false =>
      rw [if_neg (by rw [hfi]; decide)] at hlay
      have h6 := u_store hfc hkC hkind hlay hi hd hn hfit
      exact W.putK hx hb (f := f) ⟨hown, hts _ hlk, ⟨_, _, _, hsame _ hi⟩, hst⟩ (by rw [q2]; exact h6) q1 q3 (by rw [hsl]; exact k2_hasslot (q4 k hk)) rfl rfl hdg fin9
    | true =>
      rw [if_pos hfi] at hlay
      have hcf : m.cls = cf := by
        obtain ⟨_, _, c', _, _, _, -, -, hf', -, -, -, hown2, -⟩ := Cond.laysFinal_spec hlay
        have e1 : c' = cf := by have := hi.symm.trans hf'; simp at this; exact this.1.symm
        rw [hdecl rfl] at hown2
        rw [← e1]; exact Option.some.inj (hown.symm.trans hown2)
      have h6 := u_fits hfc hkC hkind (Or.inr hlay) hi hd hn hfit
      exact W.putFinK hx hb hown (hts _ hlk) (hsame _ hi) hst hcf (hfin rfl) (by rw [q2]; exact h6) q1 q3 (by rw [hsl]; exact k2_hasslot (q4 k hk)) rfl rfl hdg fin9
  · subst hff
    rw [if_neg (by rw [hfi]; decide)] at hlay
    have h6 := u_store hfc hkC hkind hlay hi hd hn hfit
    exact va_WputK hx hb hown (va_Nw.use rfl (hN _ hlk)) (hsame _ hi) hst (by rw [q2]; exact h6) q1 q3 (by rw [hsl]; exact k2_hasslot (q4 k hk)) rfl rfl hdg fin9
end
end
section
section
variable {X : CX} {cc : ByteArray} {nL pc : Nat} {own : String} {ret : Option FieldType} {lv : List (Nat × TV)} {st : List TV} {cells slots : Nat} {μ : Mem} {β : Type} {res : β}
theorem wm_pI (E : EV X cc nL own ret) {index ci k : Nat} {r : Option Nat} {x : Int32} {fin : Bool} {F : Mem → Option β} (hf : FP own index ci k .int fin) (hfin : fin = true → X.2.2.2.2.2.2.2.2.2.2.2.1.name = "<init>") (h : b1 (pV μ r ci k (vI x)) F = some res) (hdg : decode cc pc = .ok (.putfield index, 3)) (kk : ∀ μ2, F μ2 = some res → WM X nL (pc + 3) lv st cells slots μ2) : WM X nL pc lv (vI x :: vR r :: st) cells slots μ := by
  obtain ⟨μ2, h1, h2⟩ := b1S h
  exact wm_put0 E hf hfin rfl rfl h1 hdg (kk μ2 h2)
theorem wm_pL (E : EV X cc nL own ret) {index ci k : Nat} {r : Option Nat} {x : Int64} {fin : Bool} {F : Mem → Option β} (hf : FP own index ci k .long fin) (hfin : fin = true → X.2.2.2.2.2.2.2.2.2.2.2.1.name = "<init>") (h : b1 (pV μ r ci k (vL x)) F = some res) (hdg : decode cc pc = .ok (.putfield index, 3)) (kk : ∀ μ2, F μ2 = some res → WM X nL (pc + 3) lv st cells slots μ2) : WM X nL pc lv (vL x :: vR r :: st) cells slots μ := by
  obtain ⟨μ2, h1, h2⟩ := b1S h
  exact wm_put0 E hf hfin rfl rfl h1 hdg (kk μ2 h2)
theorem wm_pZ (E : EV X cc nL own ret) {index ci k : Nat} {r : Option Nat} {x : Int32} {fin : Bool} {F : Mem → Option β} (hf : FP own index ci k .boolean fin) (hfin : fin = true → X.2.2.2.2.2.2.2.2.2.2.2.1.name = "<init>") (h : b1 (pZ μ r ci k x) F = some res) (hdg : decode cc pc = .ok (.putfield index, 3)) (kk : ∀ μ2, F μ2 = some res → WM X nL (pc + 3) lv st cells slots μ2) : WM X nL pc lv (vI x :: vR r :: st) cells slots μ := by
  obtain ⟨μ2, h1, h2⟩ := b1S h
  unfold pZ at h1
  split at h1
  · rename_i hx
    rcases hx with rfl | rfl
    · exact wm_put0 E hf hfin rfl rfl h1 hdg (kk μ2 h2)
    · exact wm_put0 E hf hfin rfl rfl h1 hdg (kk μ2 h2)
  · cases h1
theorem wm_pR (E : EV X cc nL own ret) {index ci k : Nat} {r x : Option Nat} {ty : FieldType} {fin : Bool} {F : Mem → Option β} (hf : FP own index ci k ty fin) (hty : (∃ n, ty = .object n) ∨ ∃ t, ty = .array t) (hfin : fin = true → X.2.2.2.2.2.2.2.2.2.2.2.1.name = "<init>") (h : b1 (pV μ r ci k (vR x)) F = some res) (hdg : decode cc pc = .ok (.putfield index, 3)) (kk : ∀ μ2, F μ2 = some res → WM X nL (pc + 3) lv st cells slots μ2) : WM X nL pc lv (vR x :: vR r :: st) cells slots μ := by
  obtain ⟨μ2, h1, h2⟩ := b1S h
  refine wm_put0 E hf hfin ?_ ?_ h1 hdg (kk μ2 h2)
  · rcases hty with ⟨n, rfl⟩ | ⟨t, rfl⟩ <;> cases x <;> rfl
  · rcases hty with ⟨n, rfl⟩ | ⟨t, rfl⟩ <;> cases x <;> rfl
theorem wm_new (E : EV X cc nL own ret) {index ci N : Nat} {fs : List Value} {F : Option Nat → Mem → Option β} (hn : ND own index ci N fs) (h : b2 (nO μ ci fs) F = some res) (hc : cells + 1 ≤ (xR X).cells) (hs : slots + N ≤ (xR X).slots) (hdg : decode cc pc = .ok (.new index, 3)) (kk : ∀ x μ2, F x μ2 = some res → WM X nL (pc + 3) lv (vR x :: st) (cells + 1) (slots + N) μ2) : WM X nL pc lv st cells slots μ := by
  obtain ⟨x, μ2, h1, h2⟩ := b2S h
  have kk := kk x μ2 h2
  obtain ⟨rfl, rfl⟩ : some (mN μ) = x ∧ m_push μ (.inr (ci, fs)) = μ2 := by
    unfold nO at h1
    exact Prod.mk.inj (Option.some.inj h1)
  obtain ⟨G, ed, lo, p, l, e, R, s, m, args, below, meth, c, Q⟩ := X
  obtain ⟨hx, hb, hml, hown, hts, hN, hK, hO, hlo, hlk, hret⟩ := E
  obtain ⟨C, T, ty, hcl, hin, hty, hclink, hinst, hini, hfs⟩ := hn
  intro H locs ls hw hl
  obtain ⟨hM, hE, hW, hS⟩ := hw
  have hKn := hK.1 ci _ hcl
  refine W.newcK hx hb hown (hts _ hclink) (hts _ hinst) (hts _ hini) rfl hdg hc hs hKn.2.1 hM.1 fun H1 kC hkC e1 z1 o1 => ?_
  refine kk H1 locs ls ⟨hM.push (e := .inr (ci, fs)) ?_ (by rw [z1, hM.1]) (fun q hq => o1 q (by rw [← hM.1]; exact hq)), hE, hW, ⟨Nat.le_trans hS.1 (by rw [z1, hM.1]; omega), fun x h1 h2 => (o1 x (by rw [← hM.1]; exact Nat.lt_of_lt_of_le h1 hS.1)).trans (hS.2.1 x h1 h2), hS.2.2⟩⟩ hl
  rw [hM.1]
  exact ⟨_, hcl, (u_born ty hts hin hKn hkC e1 hty).to hfs⟩
/-! arrays -/
theorem wm_alen (E : EV X cc nL own ret) {r : Option Nat} {F : Int32 → Option β} (h : b1 (aLen μ r) F = some res) (hdg : decode cc pc = .ok (.arraylength, 1)) (kk : ∀ x, F x = some res → WM X nL (pc + 1) lv (vI x :: st) cells slots μ) : WM X nL pc lv (vR r :: st) cells slots μ := by
  obtain ⟨x, h1, h2⟩ := b1S h
  have kk := kk x h2
  unfold aLen at h1
  split at h1
  · cases h1
  · rename_i a
    obtain ⟨G, ed, lo, p, l, e, R, s, m, args, below, meth, c, Q⟩ := X
    obtain ⟨hx, hb, hml, hown, hts, hN, hK, hO, hlo, hlk, hret⟩ := E
    intro H locs ls hw hl
    obtain ⟨hM, hE, hW, hS⟩ := id hw
    split at h1
    · rename_i ha
      cases h1
      subst ha
      exact va_tlen hx hb (by rw [hE]; exact hO.2.1) hS (N := 0) rfl hdg (kk H locs ls hw hl)
    · split at h1
      · rename_i o ho
        split at h1
        · rename_i ht
          cases h1
          have hA := hK.2 o.1 _ (List.getElem?_eq_getElem ht)
          have hcell := hM.2 a _ ho
          obtain ⟨t, n, f⟩ := o
          have hsz : (vp_cell (G.2 t) (n, f)).slots.size = n := by
            match f with
            | .inl _ => exact arrV_size _ _ _
            | .inr (.inl _) => exact arrV_size _ _ _
            | .inr (.inr (.inl _)) => exact arrV_size _ _ _
            | .inr (.inr (.inr (.inl _))) => exact arrV_size _ _ _
            | .inr (.inr (.inr (.inr _))) => exact arrV_size _ _ _
          have harr : s.isArrayOf (vp_cell (G.2 t) (n, f)) aty[t] := by
            match f with
            | .inl g => exact hA.arr n (fun j => .int (g j))
            | .inr (.inl g) => exact hA.arr n (fun j => .long (g j))
            | .inr (.inr (.inl g)) => exact hA.arr n (fun j => .float (g j))
            | .inr (.inr (.inr (.inl g))) => exact hA.arr n (fun j => .double (g j))
            | .inr (.inr (.inr (.inr g))) => exact hA.arr n (fun j => va_rf (g j))
          exact W.alen (n := Int32.ofNat n) hx hb hcell harr (by rw [hsz]) rfl rfl hdg (kk H locs ls hw hl)
        · cases h1
      · cases h1
theorem wm_iald (E : EV X cc nL own ret) {r : Option Nat} {t : Nat} {i : Int32} {F : Int32 → Option β} (ht : aty[t]? = some .int) (h : b1 (aI μ r t i) F = some res) (hdg : decode cc pc = .ok (.iaload, 1)) (kk : ∀ x, F x = some res → WM X nL (pc + 1) lv (vI x :: st) cells slots μ) : WM X nL pc lv (vI i :: vR r :: st) cells slots μ := by
  obtain ⟨x, h1, h2⟩ := b1S h
  have kk := kk x h2
  obtain ⟨a, n, f, rfl, hc, hi, rfl⟩ := aIS h1
  obtain ⟨G, ed, lo, p, l, e, R, s, m, args, below, meth, c, Q⟩ := X
  obtain ⟨hx, hb, hml, hown, hts, hN, hK, hO, hlo, hlk, hret⟩ := E
  intro H locs ls hw hl
  have hlt : i.toNatClampNeg < n := Nat.not_le.mp fun q => hi (Or.inr q)
  exact W.iald (v := .int (f i.toNatClampNeg)) hx hb (hw.1.2 a _ hc) ((hK.2 t _ ht).arr n (fun j => .int (f j))) (fun q => by cases q) (by show ¬ (i < 0 ∨ (arrV _ _ _).slots.size ≤ _); rw [arrV_size]; exact hi) (by show (arrV _ _ _).slots[_]? = _; rw [arrV_read _ _ hlt]) rfl rfl hdg (kk H locs ls hw hl)
theorem wm_cald (E : EV X cc nL own ret) {r : Option Nat} {t : Nat} {i : Int32} {F : Int32 → Option β} (ht : aty[t]? = some .char) (h : b1 (aI μ r t i) F = some res) (hdg : decode cc pc = .ok (.caload, 1)) (kk : ∀ x, F x = some res → WM X nL (pc + 1) lv (vI x :: st) cells slots μ) : WM X nL pc lv (vI i :: vR r :: st) cells slots μ := by
  obtain ⟨x, h1, h2⟩ := b1S h
  have kk := kk x h2
  obtain ⟨a, n, f, rfl, hc, hi, rfl⟩ := aIS h1
  obtain ⟨G, ed, lo, p, l, e, R, s, m, args, below, meth, c, Q⟩ := X
  obtain ⟨hx, hb, hml, hown, hts, hN, hK, hO, hlo, hlk, hret⟩ := E
  intro H locs ls hw hl
  have hlt : i.toNatClampNeg < n := Nat.not_le.mp fun q => hi (Or.inr q)
  exact W.cald (v := .int (f i.toNatClampNeg)) hx hb (hw.1.2 a _ hc) ((hK.2 t _ ht).arr n (fun j => .int (f j))) (fun q => by cases q) (by show ¬ (i < 0 ∨ (arrV _ _ _).slots.size ≤ _); rw [arrV_size]; exact hi) (by show (arrV _ _ _).slots[_]? = _; rw [arrV_read _ _ hlt]) rfl rfl hdg (kk H locs ls hw hl)
theorem wm_zald (E : EV X cc nL own ret) {r : Option Nat} {t : Nat} {i : Int32} {F : Int32 → Option β} (ht : aty[t]? = some .boolean) (h : b1 (aI μ r t i) F = some res) (hdg : decode cc pc = .ok (.baload, 1)) (kk : ∀ x, F x = some res → WM X nL (pc + 1) lv (vI x :: st) cells slots μ) : WM X nL pc lv (vI i :: vR r :: st) cells slots μ := by
  obtain ⟨x, h1, h2⟩ := b1S h
  have kk := kk x h2
  obtain ⟨a, n, f, rfl, hc, hi, rfl⟩ := aIS h1
  obtain ⟨G, ed, lo, p, l, e, R, s, m, args, below, meth, c, Q⟩ := X
  obtain ⟨hx, hb, hml, hown, hts, hN, hK, hO, hlo, hlk, hret⟩ := E
  intro H locs ls hw hl
  have hlt : i.toNatClampNeg < n := Nat.not_le.mp fun q => hi (Or.inr q)
  exact W.zald (v := .int (f i.toNatClampNeg)) hx hb (hw.1.2 a _ hc) ((hK.2 t _ ht).arr n (fun j => .int (f j))) (fun q => by cases q) (by show ¬ (i < 0 ∨ (arrV _ _ _).slots.size ≤ _); rw [arrV_size]; exact hi) (by show (arrV _ _ _).slots[_]? = _; rw [arrV_read _ _ hlt]) rfl rfl hdg (kk H locs ls hw hl)
theorem wm_lald (E : EV X cc nL own ret) {r : Option Nat} {t : Nat} {i : Int32} {F : Int64 → Option β} (ht : aty[t]? = some .long) (h : b1 (aL μ r t i) F = some res) (hdg : decode cc pc = .ok (.laload, 1)) (kk : ∀ x, F x = some res → WM X nL (pc + 1) lv (vL x :: st) cells slots μ) : WM X nL pc lv (vI i :: vR r :: st) cells slots μ := by
  obtain ⟨x, h1, h2⟩ := b1S h
  have kk := kk x h2
  obtain ⟨a, n, f, rfl, hc, hi, rfl⟩ := aLS h1
  obtain ⟨G, ed, lo, p, l, e, R, s, m, args, below, meth, c, Q⟩ := X
  obtain ⟨hx, hb, hml, hown, hts, hN, hK, hO, hlo, hlk, hret⟩ := E
  intro H locs ls hw hl
  have hlt : i.toNatClampNeg < n := Nat.not_le.mp fun q => hi (Or.inr q)
  exact W.lald (v := .long (f i.toNatClampNeg)) hx hb (hw.1.2 a _ hc) ((hK.2 t _ ht).arr n (fun j => .long (f j))) (fun q => by cases q) (by show ¬ (i < 0 ∨ (arrV _ _ _).slots.size ≤ _); rw [arrV_size]; exact hi) (by show (arrV _ _ _).slots[_]? = _; rw [arrV_read _ _ hlt]) rfl rfl hdg (kk H locs ls hw hl)
theorem wm_aald (E : EV X cc nL own ret) {r : Option Nat} {t : Nat} {i : Int32} {ty : FieldType} {F : Option Nat → Option β} (ht : aty[t]? = some ty) (hty : ty.isReference = true) (h : b1 (aR μ r t i) F = some res) (hdg : decode cc pc = .ok (.aaload, 1)) (kk : ∀ x, F x = some res → WM X nL (pc + 1) lv (vR x :: st) cells slots μ) : WM X nL pc lv (vI i :: vR r :: st) cells slots μ := by
  obtain ⟨x, h1, h2⟩ := b1S h
  have kk := kk x h2
  obtain ⟨a, n, f, rfl, hc, hi, rfl⟩ := aRS h1
  obtain ⟨G, ed, lo, p, l, e, R, s, m, args, below, meth, c, Q⟩ := X
  obtain ⟨hx, hb, hml, hown, hts, hN, hK, hO, hlo, hlk, hret⟩ := E
  intro H locs ls hw hl
  have hlt : i.toNatClampNeg < n := Nat.not_le.mp fun q => hi (Or.inr q)
  exact W.aald (v := va_rf (f i.toNatClampNeg)) hx hb (hw.1.2 a _ hc) ((hK.2 t _ ht).arr n (fun j => va_rf (f j))) hty (fun q => by cases q) (by show ¬ (i < 0 ∨ (arrV _ _ _).slots.size ≤ _); rw [arrV_size]; exact hi) (by show (arrV _ _ _).slots[_]? = _; rw [arrV_read _ _ hlt]) rfl rfl hdg (kk H locs ls hw hl)
theorem wm_iast (E : EV X cc nL own ret) {r : Option Nat} {t : Nat} {i x : Int32} {F : Mem → Option β} (ht : aty[t]? = some .int) (h : b1 (sI μ r t i x) F = some res) (hdg : decode cc pc = .ok (.iastore, 1)) (kk : ∀ μ2, F μ2 = some res → WM X nL (pc + 1) lv st cells slots μ2) : WM X nL pc lv (vI x :: vI i :: vR r :: st) cells slots μ := by
  obtain ⟨μ2, h1, h2⟩ := b1S h
  have kk := kk μ2 h2
  obtain ⟨a, n, f, rfl, hc, hi, ha, rfl⟩ := sIS h1
  obtain ⟨G, ed, lo, p, l, e, R, s, m, args, below, meth, c, Q⟩ := X
  obtain ⟨hx, hb, hml, hown, hts, hN, hK, hO, hlo, hlk, hret⟩ := E
  intro H locs ls hw hl
  obtain ⟨hM, hE, hW, hS⟩ := hw
  refine W.iast hx hb (hM.2 a _ hc) ((hK.2 t _ ht).arr n (fun j => .int (f j))) (fun q => by cases q) (by show ¬ (i < 0 ∨ (arrV _ _ _).slots.size ≤ _); rw [arrV_size]; exact hi) rfl rfl hdg (fun H' e1 e2 e3 => ?_)
  refine kk H' _ ls ⟨hM.set (e := .inl (t, n, .inl (upd f i.toNatClampNeg x))) ?_ e2 e3, hE, hW, hS.put e2 e3 (by rw [← hW]; exact ha)⟩ hl
  show H'[a]? = some (vp_cell (G.2 t) (n, .inl (upd f i.toNatClampNeg x)))
  rw [e1]
  exact congrArg some (arr_store (G.2 t) n i.toNatClampNeg f x)
end
section
variable {X : CX} {cc : ByteArray} {nL pc : Nat} {own : String} {ret : Option FieldType} {lv : List (Nat × TV)} {st : List TV} {cells slots : Nat} {μ : Mem} {β : Type} {res : β}

theorem wm_cast (E : EV X cc nL own ret) {r : Option Nat} {t : Nat} {i : Int32} {x : Int32} {F : Mem → Option β} (ht : aty[t]? = some .char) (h : b1 (sI μ r t i (vp_nar .char x)) F = some res) (hdg : decode cc pc = .ok (.castore, 1)) (kk : ∀ μ2, F μ2 = some res → WM X nL (pc + 1) lv st cells slots μ2) : WM X nL pc lv (vI x :: vI i :: vR r :: st) cells slots μ := by
  obtain ⟨μ2, h1, h2⟩ := b1S h
  have kk := kk μ2 h2
  obtain ⟨a, n, f, rfl, hc, hi, ha, rfl⟩ := sIS h1
  obtain ⟨G, ed, lo, p, l, e, R, s, m, args, below, meth, c, Q⟩ := X
  obtain ⟨hx, hb, hml, hown, hts, hN, hK, hO, hlo, hlk, hret⟩ := E
  intro H locs ls hw hl
  obtain ⟨hM, hE, hW, hS⟩ := hw
  refine W.cast hx hb (hM.2 a _ hc) ((hK.2 t _ ht).arr n (fun j => .int (f j))) (fun q => by cases q) (by show ¬ (i < 0 ∨ (arrV _ _ _).slots.size ≤ _); rw [arrV_size]; exact hi) rfl rfl hdg (fun H' e1 e2 e3 => ?_)
  refine kk H' _ ls ⟨hM.set ?_ e2 e3, hE, hW, hS.put e2 e3 (by rw [← hW]; exact ha)⟩ hl
  show H'[a]? = some (vp_cell _ _)
  rw [e1]
  show some ((vp_cell (G.2 t) (n, _)).setSlot _ _) = some (vp_cell (G.2 t) (n, _))
  rw [vp_cell_i, vp_cell_i, arrV_store]
  congr 2
  funext q
  by_cases hq : q = i.toNatClampNeg
  · subst hq
    simp [updV, upd]
    first | rfl | skip
  · simp [updV, upd, hq]

theorem wm_zast (E : EV X cc nL own ret) {r : Option Nat} {t : Nat} {i : Int32} {x : Int32} {F : Mem → Option β} (ht : aty[t]? = some .boolean) (h : b1 (sI μ r t i (vp_nar .boolean x)) F = some res) (hdg : decode cc pc = .ok (.bastore, 1)) (kk : ∀ μ2, F μ2 = some res → WM X nL (pc + 1) lv st cells slots μ2) : WM X nL pc lv (vI x :: vI i :: vR r :: st) cells slots μ := by
  obtain ⟨μ2, h1, h2⟩ := b1S h
  have kk := kk μ2 h2
  obtain ⟨a, n, f, rfl, hc, hi, ha, rfl⟩ := sIS h1
  obtain ⟨G, ed, lo, p, l, e, R, s, m, args, below, meth, c, Q⟩ := X
  obtain ⟨hx, hb, hml, hown, hts, hN, hK, hO, hlo, hlk, hret⟩ := E
  intro H locs ls hw hl
  obtain ⟨hM, hE, hW, hS⟩ := hw
  refine W.zast hx hb (hM.2 a _ hc) ((hK.2 t _ ht).arr n (fun j => .int (f j))) (fun q => by cases q) (by show ¬ (i < 0 ∨ (arrV _ _ _).slots.size ≤ _); rw [arrV_size]; exact hi) rfl rfl hdg (fun H' e1 e2 e3 => ?_)
  refine kk H' _ ls ⟨hM.set ?_ e2 e3, hE, hW, hS.put e2 e3 (by rw [← hW]; exact ha)⟩ hl
  show H'[a]? = some (vp_cell _ _)
  rw [e1]
  show some ((vp_cell (G.2 t) (n, _)).setSlot _ _) = some (vp_cell (G.2 t) (n, _))
  rw [vp_cell_i, vp_cell_i, arrV_store]
  congr 2
  funext q
  by_cases hq : q = i.toNatClampNeg
  · subst hq
    simp [updV, upd]
    first | rfl | skip
  · simp [updV, upd, hq]

theorem wm_last (E : EV X cc nL own ret) {r : Option Nat} {t : Nat} {i : Int32} {x : Int64} {F : Mem → Option β} (ht : aty[t]? = some .long) (h : b1 (sL μ r t i x) F = some res) (hdg : decode cc pc = .ok (.lastore, 1)) (kk : ∀ μ2, F μ2 = some res → WM X nL (pc + 1) lv st cells slots μ2) : WM X nL pc lv (vL x :: vI i :: vR r :: st) cells slots μ := by
  obtain ⟨μ2, h1, h2⟩ := b1S h
  have kk := kk μ2 h2
  obtain ⟨a, n, f, rfl, hc, hi, ha, rfl⟩ := sLS h1
  obtain ⟨G, ed, lo, p, l, e, R, s, m, args, below, meth, c, Q⟩ := X
  obtain ⟨hx, hb, hml, hown, hts, hN, hK, hO, hlo, hlk, hret⟩ := E
  intro H locs ls hw hl
  obtain ⟨hM, hE, hW, hS⟩ := hw
  refine W.last hx hb (hM.2 a _ hc) ((hK.2 t _ ht).arr n (fun j => .long (f j))) (fun q => by cases q) (by show ¬ (i < 0 ∨ (arrV _ _ _).slots.size ≤ _); rw [arrV_size]; exact hi) rfl rfl hdg (fun H' e1 e2 e3 => ?_)
  refine kk H' _ ls ⟨hM.set ?_ e2 e3, hE, hW, hS.put e2 e3 (by rw [← hW]; exact ha)⟩ hl
  show H'[a]? = some (vp_cell _ _)
  rw [e1]
  show some ((vp_cell (G.2 t) (n, _)).setSlot _ _) = some (vp_cell (G.2 t) (n, _))
  rw [vp_cell_l, vp_cell_l, arrV_store]
  congr 2
  funext q
  by_cases hq : q = i.toNatClampNeg
  · subst hq
    simp [updV, vp_updL]
    
  · simp [updV, vp_updL, hq]

theorem wm_aast (E : EV X cc nL own ret) {r x : Option Nat} {t : Nat} {cs : List Nat} {i : Int32} {C : String} {F : Mem → Option β} (ht : aty[t]? = some (.object C)) (hcs : ∀ ci ∈ cs, AS C ci) (h : b1 (sR μ r t cs i x) F = some res) (hdg : decode cc pc = .ok (.aastore, 1)) (kk : ∀ μ2, F μ2 = some res → WM X nL (pc + 1) lv st cells slots μ2) : WM X nL pc lv (vR x :: vI i :: vR r :: st) cells slots μ := by
  obtain ⟨μ2, h1, h2⟩ := b1S h
  have kk := kk μ2 h2
  obtain ⟨a, n, f, rfl, hc, hi, ha, hok, rfl⟩ := sRS h1
  obtain ⟨G, ed, lo, p, l, e, R, s, m, args, below, meth, c, Q⟩ := X
  obtain ⟨hx, hb, hml, hown, hts, hN, hK, hO, hlo, hlk, hret⟩ := E
  intro H locs ls hw hl
  obtain ⟨hM, hE, hW, hS⟩ := hw
  have hlt : i.toNatClampNeg < n := Nat.not_le.mp fun q => hi (Or.inr q)
  have h0 : ¬ i < 0 := fun q => hi (Or.inl q)
  have fin9 : ∀ H' : Heap, H'[a]? = some ((vp_cell (G.2 t) (n, .inr (.inr (.inr (.inr f))))).setSlot i.toNatClampNeg (va_rf x)) → H'.size = H.size → (∀ q, q ≠ a → H'[q]? = H[q]?) → W p l e R s m args below meth c H' (locs ++ [⟨a, i.toNatClampNeg⟩]) cells slots Q (F0 m (pc + 1) ls (st.map tv)) := by
    intro H' e1 e2 e3
    refine kk H' _ ls ⟨hM.set ?_ e2 e3, hE, hW, hS.put e2 e3 (by rw [← hW]; exact ha)⟩ hl
    show H'[a]? = some (vp_cell _ _)
    rw [e1]
    show some ((vp_cell (G.2 t) (n, _)).setSlot _ _) = some (vp_cell (G.2 t) (n, _))
    rw [vp_cell_q, vp_cell_q, arrV_store]
    congr 2
    funext q
    by_cases hq : q = i.toNatClampNeg
    · subst hq
      simp [updV, va_up]
    · simp [updV, va_up, hq]
  cases x with
  | none => exact va_WaastN (C := C) hx hb (hM.2 a _ hc) ((hK.2 t _ ht).arr n (fun j => va_rf (f j))) (fun h => by cases h) (by show ¬ (i < 0 ∨ (arrV _ _ _).slots.size ≤ _); rw [arrV_size]; exact hi) rfl rfl hdg fin9
  | some v =>
    unfold okS at hok
    split at hok
    · rename_i hb; cases hb
    · rename_i v' hv'
      cases hv'
      split at hok
      · rename_i ov hov
        obtain ⟨D, T, N, hcl, hD⟩ := hcs ov.1 (List.contains_iff_mem.mp hok)
        obtain ⟨r', hr', cellV, g1, g2, g3, -⟩ := hM.2 v _ hov
        have hcls := (hK.1 ov.1 _ hcl).2
        obtain ⟨kA, comp, k1, k2, k3, k4⟩ := hK.2 t _ ht
        have k4 : s.vm.findClass C = some comp := k4
        obtain ⟨kE, hkE, -⟩ := Vm.findClass_spec k4
        obtain ⟨kC, hkC, -⟩ := hcls.2
        have has : s.vm.assignable (G.1.1 ov.1) comp = true := by
          rcases hD with rfl | hD
          · have : comp = G.1.1 ov.1 := Option.some.inj (k4.symm.trans hcls.1)
            rw [this]
            exact va_assign hcls
          · obtain ⟨c0, t1, f1, f2, f3⟩ := Cond.castable_spec (va_Nw.use (A := args) rfl (hN _ hD))
            cases hcls.1.symm.trans f1
            cases k4.symm.trans f2
            exact f3
        exact W.aast hx hb (hM.2 a _ hc) (fun q h => by cases h) (fun h => by cases h) k1 k2 rfl hkE ⟨h0, by show _ < (arrV _ _ _).slots.size; rw [arrV_size]; exact hlt⟩ g1 (fun q h => by rw [g3] at h; cases h) (by rw [g2]; exact hkC) (by rw [g2]; exact has) rfl rfl hdg fin9
      · cases hok

theorem wm_newi (E : EV X cc nL own ret) {atype : ArrayType} {t B : Nat} {n : Int32} {ty : FieldType} {F : Option Nat → Mem → Option β} (ht : aty[t]? = some ty) (hty : newarray.typeOf atype = ty) (hd : defaultValue ty = .int 0) (harr : Cond.arrayClass ty ∈ GW) (h : b2 (nI_ μ t n B) F = some res) (hB : B * componentBytes ty ≤ 536870912) (hc : cells + 1 ≤ (xR X).cells) (hs : slots + B ≤ (xR X).slots) (hdg : decode cc pc = .ok (.newarray atype, 2)) (kk : ∀ x μ2, F x μ2 = some res → WM X nL (pc + 2) lv (vR x :: st) (cells + 1) (slots + B) μ2) : WM X nL pc lv (vI n :: st) cells slots μ := by
  obtain ⟨x, μ2, h1, h2⟩ := b2S h
  have kk := kk x μ2 h2
  unfold nI_ at h1
  split at h1
  · cases h1
  rename_i hn
  obtain ⟨rfl, rfl⟩ := Prod.mk.inj (Option.some.inj h1)
  have hn0 : ¬ n < 0 := fun q => hn (Or.inl q)
  have hnB : n.toNatClampNeg ≤ B := Nat.not_lt.mp fun q => hn (Or.inr q)
  subst hty
  obtain ⟨G, ed, lo, p, l, e, R, s, m, args, below, meth, c, Q⟩ := X
  obtain ⟨hx, hb, hml, hown, hts, hN, hK, hO, hlo, hlk, hret⟩ := E
  intro H locs ls hw hl
  obtain ⟨hM, hE, hW, hS⟩ := hw
  refine va_newaK hx hb (hts _ harr) rfl hdg rfl hn0 rfl (Nat.le_trans (Nat.mul_le_mul_right _ hnB) hB) hc (Nat.le_trans (Nat.add_le_add_left hnB _) hs) hM.1 fun H1 cA e1 z1 o1 hAr hNm => ?_
  refine W.widen (Nat.le_refl _) (Nat.add_le_add_left hnB _) ?_
  refine kk H1 locs ls ⟨hM.push (e := .inl (t, n.toNatClampNeg, .inl (fun _ => 0))) ?_ (by rw [z1, hM.1]) (fun q hq => o1 q (by rw [← hM.1]; exact hq)), hE, hW, ⟨Nat.le_trans hS.1 (by rw [z1, hM.1]; omega), fun x h1 h2 => (o1 x (by rw [← hM.1]; exact Nat.lt_of_lt_of_le h1 hS.1)).trans (hS.2.1 x h1 h2), hS.2.2⟩⟩ hl
  obtain ⟨kA, comp, k1, k2, k3, k4⟩ := hK.2 t _ ht
  have hcA : cA = G.2 t := Option.some.inj (hNm.symm.trans k3)
  subst hcA
  rw [hM.1]
  show H1[mN μ]? = some (vp_cell (G.2 t) (n.toNatClampNeg, _))
  rw [e1, hd]
  rfl

theorem wm_newl (E : EV X cc nL own ret) {atype : ArrayType} {t B : Nat} {n : Int32} {ty : FieldType} {F : Option Nat → Mem → Option β} (ht : aty[t]? = some ty) (hty : newarray.typeOf atype = ty) (hd : defaultValue ty = .long 0) (harr : Cond.arrayClass ty ∈ GW) (h : b2 (nL_ μ t n B) F = some res) (hB : B * componentBytes ty ≤ 536870912) (hc : cells + 1 ≤ (xR X).cells) (hs : slots + B ≤ (xR X).slots) (hdg : decode cc pc = .ok (.newarray atype, 2)) (kk : ∀ x μ2, F x μ2 = some res → WM X nL (pc + 2) lv (vR x :: st) (cells + 1) (slots + B) μ2) : WM X nL pc lv (vI n :: st) cells slots μ := by
  obtain ⟨x, μ2, h1, h2⟩ := b2S h
  have kk := kk x μ2 h2
  unfold nL_ at h1
  split at h1
  · cases h1
  rename_i hn
  obtain ⟨rfl, rfl⟩ := Prod.mk.inj (Option.some.inj h1)
  have hn0 : ¬ n < 0 := fun q => hn (Or.inl q)
  have hnB : n.toNatClampNeg ≤ B := Nat.not_lt.mp fun q => hn (Or.inr q)
  subst hty
  obtain ⟨G, ed, lo, p, l, e, R, s, m, args, below, meth, c, Q⟩ := X
  obtain ⟨hx, hb, hml, hown, hts, hN, hK, hO, hlo, hlk, hret⟩ := E
  intro H locs ls hw hl
  obtain ⟨hM, hE, hW, hS⟩ := hw
  refine va_newaK hx hb (hts _ harr) rfl hdg rfl hn0 rfl (Nat.le_trans (Nat.mul_le_mul_right _ hnB) hB) hc (Nat.le_trans (Nat.add_le_add_left hnB _) hs) hM.1 fun H1 cA e1 z1 o1 hAr hNm => ?_
  refine W.widen (Nat.le_refl _) (Nat.add_le_add_left hnB _) ?_
  refine kk H1 locs ls ⟨hM.push (e := .inl (t, n.toNatClampNeg, .inr (.inl (fun _ => 0)))) ?_ (by rw [z1, hM.1]) (fun q hq => o1 q (by rw [← hM.1]; exact hq)), hE, hW, ⟨Nat.le_trans hS.1 (by rw [z1, hM.1]; omega), fun x h1 h2 => (o1 x (by rw [← hM.1]; exact Nat.lt_of_lt_of_le h1 hS.1)).trans (hS.2.1 x h1 h2), hS.2.2⟩⟩ hl
  obtain ⟨kA, comp, k1, k2, k3, k4⟩ := hK.2 t _ ht
  have hcA : cA = G.2 t := Option.some.inj (hNm.symm.trans k3)
  subst hcA
  rw [hM.1]
  show H1[mN μ]? = some (vp_cell (G.2 t) (n.toNatClampNeg, _))
  rw [e1, hd]
  rfl

theorem wm_newr (E : EV X cc nL own ret) {index t B : Nat} {n : Int32} {C : String} {F : Option Nat → Mem → Option β} (ht : aty[t]? = some (.object C)) (hcl : Cond.classLink own index C ∈ GW) (harr : Cond.arrayOver (.object C) ∈ NW) (h : b2 (nR_ μ t n B) F = some res) (hB : B * 4 ≤ 536870912) (hc : cells + 1 ≤ (xR X).cells) (hs : slots + B ≤ (xR X).slots) (hdg : decode cc pc = .ok (.anewarray index, 3)) (kk : ∀ x μ2, F x μ2 = some res → WM X nL (pc + 3) lv (vR x :: st) (cells + 1) (slots + B) μ2) : WM X nL pc lv (vI n :: st) cells slots μ := by
  obtain ⟨x, μ2, h1, h2⟩ := b2S h
  have kk := kk x μ2 h2
  unfold nR_ at h1
  split at h1
  · cases h1
  rename_i hn
  obtain ⟨rfl, rfl⟩ := Prod.mk.inj (Option.some.inj h1)
  have hn0 : ¬ n < 0 := fun q => hn (Or.inl q)
  have hnB : n.toNatClampNeg ≤ B := Nat.not_lt.mp fun q => hn (Or.inr q)
  obtain ⟨G, ed, lo, p, l, e, R, s, m, args, below, meth, c, Q⟩ := X
  obtain ⟨hx, hb, hml, hown, hts, hN, hK, hO, hlo, hlk, hret⟩ := E
  intro H locs ls hw hl
  obtain ⟨hM, hE, hW, hS⟩ := hw
  refine W.anew hx hb hown (hts _ hcl) (va_AO.use (hN _ harr)) rfl hdg rfl hn0 (Nat.le_trans (Nat.mul_le_mul_right _ hnB) hB) hc (Nat.le_trans (Nat.add_le_add_left hnB _) hs) fun cA kA comp f1 f2 f3 f4 => ?_
  generalize hH1 : H.push ({ cls := cA, slots := Array.replicate n.toNatClampNeg .null, vm := .none } : Cell) = H1
  have z1 : H1.size = H.size + 1 := by rw [← hH1, Array.size_push]
  have e1 : H1[H.size]? = some (arrV cA n.toNatClampNeg (fun _ => .null)) := by rw [← hH1, Array.getElem?_push_size, ← arrV_new]
  have o1 : ∀ q : Nat, q < H.size → H1[q]? = H[q]? := fun q hq => by rw [← hH1, Array.getElem?_push, if_neg (Nat.ne_of_lt hq)]
  refine W.widen (Nat.le_refl _) (Nat.add_le_add_left hnB _) ?_
  rw [hM.1]
  refine kk H1 locs ls ⟨hM.push (e := .inl (t, n.toNatClampNeg, .inr (.inr (.inr (.inr (fun _ => none)))))) ?_ z1 o1, hE, hW, ⟨Nat.le_trans hS.1 (by omega), fun x h1 h2 => (o1 x (Nat.lt_of_lt_of_le h1 hS.1)).trans (hS.2.1 x h1 h2), hS.2.2⟩⟩ hl
  obtain ⟨kA', comp', k1, k2, k3, k4⟩ := hK.2 t _ ht
  have hcA : cA = G.2 t := Option.some.inj (f1.symm.trans k3)
  subst hcA
  show H1[H.size]? = some (vp_cell (G.2 t) (n.toNatClampNeg, _))
  rw [e1]
  rfl

theorem wm_ckc (E : EV X cc nL own ret) {r : Option Nat} {index ci : Nat} {C : String} {T : u_T} {N : Nat} {F : Unit → Option β} (hcl : vwCl[ci]? = some (C, T, N)) (hlink : Cond.classLink own index C ∈ GW) (h : b1 (cK μ r ci) F = some res) (hdg : decode cc pc = .ok (.checkcast index, 3)) (kk : F () = some res → WM X nL (pc + 3) lv (vR r :: st) cells slots μ) : WM X nL pc lv (vR r :: st) cells slots μ := by
  obtain ⟨x, h1, h2⟩ := b1S h
  have kk := kk h2
  unfold cK at h1
  obtain ⟨G, ed, lo, p, l, e, R, s, m, args, below, meth, c, Q⟩ := X
  obtain ⟨hx, hb, hml, hown, hts, hN, hK, hO, hlo, hlk, hret⟩ := E
  intro H locs ls hw hl
  split at h1
  · rename_i hr
    subst hr
    exact lv_castN hx hb hdg (kk H locs ls hw hl)
  · obtain ⟨a, fs, rfl, hc⟩ := rcS h1
    obtain ⟨r', hr', cell, g1, g2, g3, -⟩ := hw.1.2 a _ hc
    have hcls := (hK.1 ci _ hcl).2
    exact va_castS hx hb hown (hts _ hlink) hcls ⟨cell, g1, by rw [g3]; rfl, by rw [g2]; exact hcls.1⟩ hdg (kk H locs ls hw hl)

theorem wm_iret {rt : FieldType} (E : EV X cc nL own (some .int)) {μ0 μ' : Mem} {mc ms : Nat} {x : Int32} {v : Option TV} (hQ : RQ X mc ms μ0 v μ') (hv : v = some (vI x)) (hμ : μ = μ')  (hc : cells ≤ mc) (hs : slots ≤ ms) (hdg : decode cc pc = .ok (.ireturn, 1)) : WM X nL pc lv [vI x] cells slots μ := by
  subst hv; subst hμ
  obtain ⟨G, ed, lo, p, l, e, R, s, m, args, below, meth, c, Q⟩ := X
  obtain ⟨hx, hb, hml, hown, hts, hN, hK, hO, hlo, hlk, hret⟩ := E
  obtain ⟨rfl, rfl, hq⟩ := hQ
  intro H locs ls hw hl
  obtain ⟨hM, hE, hW, hS⟩ := hw
  refine W.widen hc hs (W.mono hq (W.iret hx hb hret (fun t ht hWm => ⟨rfl, ⟨hN.warm hWm, hK.moved hWm.alike, ?_, ?_, ?_⟩, hS.F ht, hE, hW⟩) (fun q hq2 => hS.2.2 q hq2) hdg hlk))
  · rw [ht, hE, hW]; exact (hO.kept hS.2.1).moved hWm.alike
  · rw [ht, hW]; exact Nat.le_trans hlo hS.1
  · rw [ht]; exact hM

theorem wm_zret {rt : FieldType} (E : EV X cc nL own (some rt)) {μ0 μ' : Mem} {mc ms : Nat} {x : Int32} {v : Option TV} (hQ : RQ X mc ms μ0 v μ') (hv : v = some (vI x)) (hμ : μ = μ') (hn : narrow rt (.int x) = .int x) (hc : cells ≤ mc) (hs : slots ≤ ms) (hdg : decode cc pc = .ok (.ireturn, 1)) : WM X nL pc lv [vI x] cells slots μ := by
  subst hv; subst hμ
  obtain ⟨G, ed, lo, p, l, e, R, s, m, args, below, meth, c, Q⟩ := X
  obtain ⟨hx, hb, hml, hown, hts, hN, hK, hO, hlo, hlk, hret⟩ := E
  obtain ⟨rfl, rfl, hq⟩ := hQ
  intro H locs ls hw hl
  obtain ⟨hM, hE, hW, hS⟩ := hw
  refine W.widen hc hs (W.mono hq (W.zret hx hb hret hn (fun t ht hWm => ⟨rfl, ⟨hN.warm hWm, hK.moved hWm.alike, ?_, ?_, ?_⟩, hS.F ht, hE, hW⟩) (fun q hq2 => hS.2.2 q hq2) hdg hlk))
  · rw [ht, hE, hW]; exact (hO.kept hS.2.1).moved hWm.alike
  · rw [ht, hW]; exact Nat.le_trans hlo hS.1
  · rw [ht]; exact hM

theorem wm_lret {rt : FieldType} (E : EV X cc nL own (some .long)) {μ0 μ' : Mem} {mc ms : Nat} {x : Int64} {v : Option TV} (hQ : RQ X mc ms μ0 v μ') (hv : v = some (vL x)) (hμ : μ = μ')  (hc : cells ≤ mc) (hs : slots ≤ ms) (hdg : decode cc pc = .ok (.lreturn, 1)) : WM X nL pc lv [vL x] cells slots μ := by
  subst hv; subst hμ
  obtain ⟨G, ed, lo, p, l, e, R, s, m, args, below, meth, c, Q⟩ := X
  obtain ⟨hx, hb, hml, hown, hts, hN, hK, hO, hlo, hlk, hret⟩ := E
  obtain ⟨rfl, rfl, hq⟩ := hQ
  intro H locs ls hw hl
  obtain ⟨hM, hE, hW, hS⟩ := hw
  refine W.widen hc hs (W.mono hq (W.lret hx hb hret (fun t ht hWm => ⟨rfl, ⟨hN.warm hWm, hK.moved hWm.alike, ?_, ?_, ?_⟩, hS.F ht, hE, hW⟩) (fun q hq2 => hS.2.2 q hq2) hdg hlk))
  · rw [ht, hE, hW]; exact (hO.kept hS.2.1).moved hWm.alike
  · rw [ht, hW]; exact Nat.le_trans hlo hS.1
  · rw [ht]; exact hM

theorem wm_aret {rt : FieldType} (E : EV X cc nL own (some rt)) {μ0 μ' : Mem} {mc ms : Nat} {x : Option Nat} {v : Option TV} (hQ : RQ X mc ms μ0 v μ') (hv : v = some (vR x)) (hμ : μ = μ') (hrt : (∃ n, rt = .object n) ∨ ∃ t, rt = .array t) (hc : cells ≤ mc) (hs : slots ≤ ms) (hdg : decode cc pc = .ok (.areturn, 1)) : WM X nL pc lv [vR x] cells slots μ := by
  subst hv; subst hμ
  obtain ⟨G, ed, lo, p, l, e, R, s, m, args, below, meth, c, Q⟩ := X
  obtain ⟨hx, hb, hml, hown, hts, hN, hK, hO, hlo, hlk, hret⟩ := E
  obtain ⟨rfl, rfl, hq⟩ := hQ
  intro H locs ls hw hl
  obtain ⟨hM, hE, hW, hS⟩ := hw
  refine W.widen hc hs (W.mono hq (W.aret hx hb hret hrt (va_rf_or x) (fun t ht hWm => ⟨rfl, ⟨hN.warm hWm, hK.moved hWm.alike, ?_, ?_, ?_⟩, hS.F ht, hE, hW⟩) (fun q hq2 => hS.2.2 q hq2) hdg hlk))
  · rw [ht, hE, hW]; exact (hO.kept hS.2.1).moved hWm.alike
  · rw [ht, hW]; exact Nat.le_trans hlo hS.1
  · rw [ht]; exact hM

theorem wm_vret (E : EV X cc nL own none) {μ0 μ' : Mem} {mc ms : Nat} {v : Option TV} (hQ : RQ X mc ms μ0 v μ') (hv : v = none) (hμ : μ = μ') (hc : cells ≤ mc) (hs : slots ≤ ms) (hdg : decode cc pc = .ok (.return_, 1)) : WM X nL pc lv [] cells slots μ := by
  subst hv; subst hμ
  obtain ⟨G, ed, lo, p, l, e, R, s, m, args, below, meth, c, Q⟩ := X
  obtain ⟨hx, hb, hml, hown, hts, hN, hK, hO, hlo, hlk, hret⟩ := E
  obtain ⟨rfl, rfl, hq⟩ := hQ
  intro H locs ls hw hl
  obtain ⟨hM, hE, hW, hS⟩ := hw
  refine W.widen hc hs (W.mono hq (W.vret hx hb hret (fun t ht hWm => ⟨rfl, ⟨hN.warm hWm, hK.moved hWm.alike, ?_, ?_, ?_⟩, hS.F ht, hE, hW⟩) (fun q hq2 => hS.2.2 q hq2) hdg hlk))
  · rw [ht, hE, hW]; exact (hO.kept hS.2.1).moved hWm.alike
  · rw [ht, hW]; exact Nat.le_trans hlo hS.1
  · rw [ht]; exact hM

theorem wm_widen {k n : Nat} (h1 : cells ≤ k) (h2 : slots ≤ n) (kk : WM X nL pc lv st k n μ) : WM X nL pc lv st cells slots μ := by
  obtain ⟨G, ed, lo, p, l, e, R, s, m, args, below, meth, c, Q⟩ := X
  exact fun H locs ls hw hl => W.widen h1 h2 (kk H locs ls hw hl)
theorem wm_sub {lv' : List (Nat × TV)} (h : ∀ q ∈ lv', q ∈ lv) (kk : WM X nL pc lv' st cells slots μ) : WM X nL pc lv st cells slots μ := by
  obtain ⟨G, ed, lo, p, l, e, R, s, m, args, below, meth, c, Q⟩ := X
  refine fun H locs ls hw hl => kk H locs ls hw ⟨hl.1, hl.2.1, fun q hq => ?_⟩
  obtain ⟨z, hz, rfl⟩ := List.mem_map.mp hq
  exact hl.2.2 _ (List.mem_map.mpr ⟨z, h z hz, rfl⟩)

abbrev xl (X : CX) : Launch := X.2.2.2.2.1
theorem gw_ws {args : Array Value} {s : State} (hts : ∀ w ∈ GW, w.before args s = true) {y : MethodName} {bytes : ByteArray} {maxL : Nat} {r : Option FieldType} (hc : Cond.code y bytes maxL r ∈ GW) : GoodIn GW (Cond.code y bytes maxL r :: GW) := by
  intro w hw
  rcases List.mem_cons.mp hw with rfl | hw
  · exact ⟨hc, good_of_word (GW_good _ hc)⟩
  · exact ⟨hw, good_of_word (GW_good _ hw)⟩
theorem pc_blind {G : GG} {μ : Mem} {av : List TV} : FrameBlind (PC G μ av) := fun a U g mk q => ⟨q.1, WD.same (u := U) rfl rfl q.2⟩
theorem wd_at {G : GG} {ed lo : Nat} {s : State} {μ : Mem} {H : Heap} {locs : List Loc} (hN : NN s) (hK : KK G s) (hO : OO ed lo s s.heap) (hlo : lo ≤ s.heap.size) (hw : WK G ed lo s μ H locs) (U : State) (hU : U.heap = H) (hW : s.WarmedH U.vm) : WD G μ U := by
  obtain ⟨hM, rfl, rfl, hS⟩ := hw
  refine ⟨hN.warm hW, hK.moved hW.alike, ?_, ?_, ?_⟩
  · rw [hU]; exact (hO.kept hS.2.1).moved hW.alike
  · rw [hU]; exact Nat.le_trans hlo hS.1
  · rw [hU]; exact hM
/-- behind a call -/
theorem wm_after {p : Program} {l : Launch} {e : Env} {R : Room} {s : State} {m : MethodId} {args : Array Value} {below : List Frame} {meth : Method} {c : Code} {H : Heap} {locs : List Loc} {mc ms : Nat} {Q : State → Prop} {G : GG} {ed lo : Nat} {μ' : Mem} {v : Option TV} {a : Array Value} {ls : Array Slot} {st0 rest : List Value} (hw : WK G ed lo s μ H locs)
    (hr : va_Run p l e R s m args below meth c H locs cells slots mc ms (F0 m pc ls st0) rest (QC G μ μ' v a) (fun q => mW μ ≤ q))
    (kk : ∀ H1 locs1, WK G ed lo s μ' H1 locs1 → W p l e R s m args below meth c H1 locs1 (cells + mc) (slots + ms) Q (F0 m (pc + 3) ls ((v.map tv).toList ++ rest))) : W p l e R s m args below meth c H locs cells slots Q (F0 m pc ls st0) := by
  obtain ⟨hM, rfl, rfl, hS⟩ := hw
  intro T hT X
  obtain ⟨v1, st₀, t, T', L, h0, X', hL, e1, e2, ⟨hv, hWD, ⟨hz, hk⟩, hE, hW⟩, st⟩ := hr T hT X
  have hv1 : v1 = v.map tv := Outcome.returned.inj hv
  subst hv1
  rw [h0] at hz hk
  obtain ⟨t2, a1, b1⟩ := kk T'.heap (locs ++ L) ⟨by rw [e1]; exact hWD.2.2.2.2, hE, hW, ⟨Nat.le_trans hS.1 (by rw [e1]; exact hz), fun q h1 h2 => by rw [e1, hk q (Nat.lt_of_lt_of_le h1 hS.1) h2]; exact hS.2.1 q h1 h2, fun q hq => by
      rcases List.mem_append.mp hq with h | h
      · exact hS.2.2 q h
      · exact hL q h⟩⟩ T' rfl X'
  exact ⟨t2, st t2 a1, b1⟩
/-- a call's facts: nest: the entry names a private member of the nest -/
def LK (own : String) (index : Nat) (y : MethodName) (bytes : ByteArray) (maxL : Nat) (r : Option FieldType) (n : Nat) : Prop := Cond.code y bytes maxL r ∈ GW ∧ Cond.initialized y.cls ∈ GW ∧ (Cond.methodLink own index y ∈ GW ∨ ∃ host, Cond.methodLinkNest own index y host ∈ NW) ∧ (y.cls ≠ "java/lang/invoke/MethodHandle" ∧ y.cls ≠ "java/lang/invoke/VarHandle" ∧ (parseMethodDescriptor y.desc).map (fun d => d.parameters.length) = some n)
theorem lvsz {ls : Array Slot} {nL : Nat} {l : List (Nat × Value)} (h : lv_has ls nL l) : ls.size = nL := h.1
theorem cat_sum (st : List TV) (h : (st.map tcat).sum ≤ 8) : (List.map (fun v : Value => v.category) (st.map tv)).sum ≤ 8 := by
  rw [List.map_map]
  rw [show ((fun v : Value => v.category) ∘ tv) = tcat from funext fun v => (tcat_eq v).symm]
  exact h

theorem wm_cS (E : EV X cc nL own ret) {y : MethodName} {bytes : ByteArray} {maxL index n : Nat} {r' : Option FieldType} {fr mc ms lc : Nat} {As : List TV} {v : Option TV} {μ' : Mem} {st0 : List TV}  (hL : LK own index y bytes maxL r' n) (hsta : Cond.static y ∈ GW)
    (hM : CT (xl X) X.1 y bytes maxL r' fr mc ms lc μ As v μ') (hn : As.length = n) (hst : st0 = As.reverse ++ st) (hR : fr + 1 ≤ (xR X).frames ∧ 8 + (maxL + 11) + lc ≤ (xR X).locals) (hf : cells + mc ≤ (xR X).cells ∧ slots + ms ≤ (xR X).slots) (hsm : (st.map tcat).sum ≤ 8) (hdg : decode cc pc = .ok (.invokestatic index, 3))
    (kk : WM X nL (pc + 3) lv (v.toList ++ st) (cells + mc) (slots + ms) μ') : WM X nL pc lv st0 cells slots μ := by
  subst hst
  obtain ⟨hcode, hini, hlink, hd⟩ := hL
  obtain ⟨G, ed, lo, p, l, e, R, s, m, args, below, meth, c, Q⟩ := X
  obtain ⟨hx, hb, hml, hown, hts, hN, hK, hO, hlo, hlk, hret⟩ := E
  intro H locs ls hw hl
  have hG := gw_ws hts hcode
  have hkk : ∀ H1 locs1, WK G ed lo s μ' H1 locs1 → W p l e R s m args below meth c H1 locs1 (cells + mc) (slots + ms) Q (F0 m (pc + 3) ls ((v.map tv).toList ++ st.map tv)) := by
    intro H1 locs1 hw1
    have := kk H1 locs1 ls hw1 hl
    rw [List.map_append] at this
    cases v <;> exact this
  rcases hlink with hlink | ⟨host, hlink⟩
  · exact wm_after hw (va_runS (As := As.map tv) (rest := st.map tv) ⟨hx, hb, hml, hown, hts⟩ hM ⟨callB_of n hts hG rfl rfl rfl (hts _ hini) (hts _ hlink) hd hR, hts _ hsta⟩ ⟨pc_blind, fun U hU hW => ⟨rfl, wd_at hN hK hO hlo hw U hU hW⟩⟩ rfl (by rw [List.length_map]; exact hn) (lvsz hl) (by show (As.reverse ++ st).map tv = _; rw [List.map_append, List.map_reverse]) (lv_room (cat_sum st hsm)) hdg hf) hkk
  · exact wm_after hw (va_runSN (As := As.map tv) (rest := st.map tv) ⟨hx, hb, hml, hown, hts⟩ hM ⟨va_cnB n hts hG rfl rfl rfl (hN _ hlink) (hts _ hini) hd hR, hts _ hsta, trivial⟩ ⟨pc_blind, fun U hU hW => ⟨rfl, wd_at hN hK hO hlo hw U hU hW⟩⟩ rfl (by rw [List.length_map]; exact hn) (lvsz hl) (by show (As.reverse ++ st).map tv = _; rw [List.map_append, List.map_reverse]) (lv_room (cat_sum st hsm)) hdg hf) hkk

theorem wm_cV (E : EV X cc nL own ret) {y : MethodName} {bytes : ByteArray} {maxL index n : Nat} {r' : Option FieldType} {fr mc ms lc : Nat} {As : List TV} {v : Option TV} {μ' : Mem} {st0 : List TV} {r : Option Nat} {ci : Nat} {C : String} {T : u_T} {N : Nat} {u : Unit} (hL : LK own index y bytes maxL r' n) (hcl : vwCl[ci]? = some (C, T, N)) (hin : Cond.instanceMethod y ∈ GW) (hsel : Cond.selects C y y ∈ GW) (hrc : rc μ r ci = some u)
    (hM : CT (xl X) X.1 y bytes maxL r' fr mc ms lc μ (vR r :: As) v μ') (hn : As.length = n) (hst : st0 = As.reverse ++ vR r :: st) (hR : fr + 1 ≤ (xR X).frames ∧ 8 + (maxL + 11) + lc ≤ (xR X).locals) (hf : cells + mc ≤ (xR X).cells ∧ slots + ms ≤ (xR X).slots) (hsm : (st.map tcat).sum ≤ 8) (hdg : decode cc pc = .ok (.invokevirtual index, 3))
    (kk : WM X nL (pc + 3) lv (v.toList ++ st) (cells + mc) (slots + ms) μ') : WM X nL pc lv st0 cells slots μ := by
  subst hst
  obtain ⟨hcode, hini, hlink, hd⟩ := hL
  obtain ⟨G, ed, lo, p, l, e, R, s, m, args, below, meth, c, Q⟩ := X
  obtain ⟨hx, hb, hml, hown, hts, hN, hK, hO, hlo, hlk, hret⟩ := E
  obtain ⟨a, fs, rfl, hc⟩ := rcS hrc
  intro H locs ls hw hl
  have hG := gw_ws hts hcode
  have hkk : ∀ H1 locs1, WK G ed lo s μ' H1 locs1 → W p l e R s m args below meth c H1 locs1 (cells + mc) (slots + ms) Q (F0 m (pc + 3) ls ((v.map tv).toList ++ st.map tv)) := by
    intro H1 locs1 hw1
    have := kk H1 locs1 ls hw1 hl
    rw [List.map_append] at this
    cases v <;> exact this
  obtain ⟨rr, hr', cell, g1, g2, g3, -⟩ := hw.1.2 a _ hc
  have hcls := (hK.1 ci _ hcl).2
  have hrv : ∃ cellB : Cell, H[a]? = some cellB ∧ cellB.vm.isStatics = false ∧ s.vm.findClass C = some cellB.cls := ⟨cell, g1, by rw [g3]; rfl, by rw [g2]; exact hcls.1⟩
  rcases hlink with hlink | ⟨host, hlink⟩
  · exact wm_after hw (va_runV (C := C) (b := a) (As := As.map tv) (rest := st.map tv) ⟨hx, hb, hml, hown, hts⟩ hM ⟨callB_of n hts hG rfl rfl rfl (hts _ hini) (hts _ hlink) hd hR, hts _ hin, hts _ hsel⟩ ⟨pc_blind, hrv, fun U hU hW => ⟨rfl, wd_at hN hK hO hlo hw U hU hW⟩⟩ rfl (by rw [List.length_map]; exact hn) (lvsz hl) (by show (As.reverse ++ vR (some a) :: st).map tv = _; rw [List.map_append, List.map_reverse]; rfl) (lv_room (cat_sum st hsm)) hdg hf) hkk
  · exact wm_after hw (va_runVN (C := C) (b := a) (As := As.map tv) (rest := st.map tv) ⟨hx, hb, hml, hown, hts⟩ hM ⟨va_cnB n hts hG rfl rfl rfl (hN _ hlink) (hts _ hini) hd hR, hts _ hin, hts _ hsel⟩ ⟨pc_blind, hrv, fun U hU hW => ⟨rfl, wd_at hN hK hO hlo hw U hU hW⟩⟩ rfl (by rw [List.length_map]; exact hn) (lvsz hl) (by show (As.reverse ++ vR (some a) :: st).map tv = _; rw [List.map_append, List.map_reverse]; rfl) (lv_room (cat_sum st hsm)) hdg hf) hkk

theorem wm_cI (E : EV X cc nL own ret) {y : MethodName} {bytes : ByteArray} {maxL index n : Nat} {r' : Option FieldType} {fr mc ms lc : Nat} {As : List TV} {v : Option TV} {μ' : Mem} {st0 : List TV} {r : Option Nat} {ci : Nat} {u : Unit} (hL : LK own index y bytes maxL r' n) (hy1 : y.name = "<init>") (hr0 : r' = none) (hin : Cond.instanceMethod y ∈ GW) (hrc : rc μ r ci = some u)
    (hM : CT (xl X) X.1 y bytes maxL r' fr mc ms lc μ (vR r :: As) v μ') (hn : As.length = n) (hst : st0 = As.reverse ++ vR r :: st) (hR : fr + 1 ≤ (xR X).frames ∧ 8 + (maxL + 11) + lc ≤ (xR X).locals) (hf : cells + mc ≤ (xR X).cells ∧ slots + ms ≤ (xR X).slots) (hsm : (st.map tcat).sum ≤ 8) (hdg : decode cc pc = .ok (.invokespecial index, 3))
    (kk : WM X nL (pc + 3) lv (v.toList ++ st) (cells + mc) (slots + ms) μ') : WM X nL pc lv st0 cells slots μ := by
  subst hst
  obtain ⟨hcode, hini, hlink, hd⟩ := hL
  obtain ⟨G, ed, lo, p, l, e, R, s, m, args, below, meth, c, Q⟩ := X
  obtain ⟨hx, hb, hml, hown, hts, hN, hK, hO, hlo, hlk, hret⟩ := E
  obtain ⟨a, fs, rfl, hc⟩ := rcS hrc
  subst hr0
  intro H locs ls hw hl
  have hG := gw_ws hts hcode
  have hkk : ∀ H1 locs1, WK G ed lo s μ' H1 locs1 → W p l e R s m args below meth c H1 locs1 (cells + mc) (slots + ms) Q (F0 m (pc + 3) ls ((v.map tv).toList ++ st.map tv)) := by
    intro H1 locs1 hw1
    have := kk H1 locs1 ls hw1 hl
    rw [List.map_append] at this
    cases v <;> exact this
  rcases hlink with hlink | ⟨host, hlink⟩
  · exact wm_after hw (va_runI (b := a) (As := As.map tv) (rest := st.map tv) ⟨hx, hb, hml, hown, hts⟩ hM ⟨callB_of n hts hG rfl rfl rfl (hts _ hini) (hts _ hlink) hd hR, hy1, hts _ hin⟩ ⟨pc_blind, fun U hU hW => ⟨rfl, wd_at hN hK hO hlo hw U hU hW⟩⟩ rfl (by rw [List.length_map]; exact hn) (lvsz hl) (by show (As.reverse ++ vR (some a) :: st).map tv = _; rw [List.map_append, List.map_reverse]; rfl) (lv_room (cat_sum st hsm)) hdg hf) hkk
  · exact wm_after hw (va_runIN (b := a) (As := As.map tv) (rest := st.map tv) ⟨hx, hb, hml, hown, hts⟩ hM ⟨va_cnB n hts hG rfl rfl rfl (hN _ hlink) (hts _ hini) hd hR, hy1, hts _ hin⟩ ⟨pc_blind, fun U hU hW => ⟨rfl, wd_at hN hK hO hlo hw U hU hW⟩⟩ rfl (by rw [List.length_map]; exact hn) (lvsz hl) (by show (As.reverse ++ vR (some a) :: st).map tv = _; rw [List.map_append, List.map_reverse]; rfl) (lv_room (cat_sum st hsm)) hdg hf) hkk

end

def fu : Nat := 4096
def b0 {α β : Type} (a : α) (F : α → Option β) : Option β := F a
def gd {β : Type} (c : Prop) [Decidable c] (o : Option β) : Option β := if c then none else o
theorem gdS {β : Type} {c : Prop} [Decidable c] {o : Option β} {r : β} (h : gd c o = some r) : ¬ c ∧ o = some r := by
  unfold gd at h
  split at h
  · cases h
  · rename_i hc
    exact ⟨hc, h⟩
def okZ (x : Int32) : Bool := x == 0 || x == 1
theorem okZN {x : Int32} (h : ¬ ¬ okZ x = true) : narrow .boolean (.int x) = .int x := by
  have h : okZ x = true := Classical.not_not.mp h
  unfold okZ at h
  simp only [Bool.or_eq_true, beq_iff_eq] at h
  rcases h with rfl | rfl <;> rfl
def okC (x : Int32) : Bool := vp_nar .char x == x
theorem okCN {x : Int32} (h : ¬ ¬ okC x = true) : narrow .char (.int x) = .int x := by
  have h : okC x = true := Classical.not_not.mp h
  have h : vp_nar .char x = x := by
    unfold okC at h
    exact beq_iff_eq.mp h
  exact congrArg Value.int h
theorem rtM {α : Type} {x r : α} {μ μ' : Mem} (h : some (x, μ) = some (r, μ')) : μ = μ' := (Prod.mk.inj (Option.some.inj h)).2
theorem rtI {x r : Int32} {μ μ' : Mem} (h : some (x, μ) = some (r, μ')) : some (vI r) = some (vI x) := by rw [(Prod.mk.inj (Option.some.inj h)).1]
theorem rtL {x r : Int64} {μ μ' : Mem} (h : some (x, μ) = some (r, μ')) : some (vL r) = some (vL x) := by rw [(Prod.mk.inj (Option.some.inj h)).1]
theorem rtR {x r : Option Nat} {μ μ' : Mem} (h : some (x, μ) = some (r, μ')) : some (vR r) = some (vR x) := by rw [(Prod.mk.inj (Option.some.inj h)).1]
def OI (own : String) (index : Nat) : Prop := Cond.methodLink own index objectInit ∈ GW ∧ Cond.instanceMethod objectInit ∈ GW ∧ Cond.code objectInit ⟨#[0xb1]⟩ 1 none ∈ GW
section
variable {X : CX} {cc : ByteArray} {nL pc : Nat} {own : String} {ret : Option FieldType} {lv : List (Nat × TV)} {st : List TV} {cells slots : Nat} {μ : Mem} {β : Type} {res : β}
theorem wm_letI {e : Int32} {F : Int32 → Option β} (h : b0 e F = some res) (kk : ∀ z, F z = some res → WM X nL pc lv (vI z :: st) cells slots μ) : WM X nL pc lv (vI e :: st) cells slots μ := kk e h
theorem wm_letJ {e : Int64} {F : Int64 → Option β} (h : b0 e F = some res) (kk : ∀ z, F z = some res → WM X nL pc lv (vL z :: st) cells slots μ) : WM X nL pc lv (vL e :: st) cells slots μ := kk e h
theorem wm_letR {e : Option Nat} {F : Option Nat → Option β} (h : b0 e F = some res) (kk : ∀ z, F z = some res → WM X nL pc lv (vR z :: st) cells slots μ) : WM X nL pc lv (vR e :: st) cells slots μ := kk e h
theorem wm_pick {lv' : List (Nat × TV)} (ks : List Nat) (h : ks.filterMap (fun k => lv[k]?) = lv') (kk : WM X nL pc lv' st cells slots μ) : WM X nL pc lv st cells slots μ := by
  refine wm_sub (fun q hq => ?_) kk
  rw [← h] at hq
  obtain ⟨k, -, hk⟩ := List.mem_filterMap.mp hq
  exact List.mem_of_getElem? hk
theorem wm_obj (E : EV X cc nL own ret) {index : Nat} {r : Option Nat} {u : Unit} {ci : Nat} (hr : rc μ r ci = some u) (hO : OI own index) (hf : 1 ≤ (xR X).frames) (hs : 20 ≤ (xR X).locals) (hst : st.length = 0) (hdg : decode cc pc = .ok (.invokespecial index, 3)) (kk : WM X nL (pc + 3) lv st cells slots μ) : WM X nL pc lv (vR r :: st) cells slots μ := by
  obtain ⟨a, fs, rfl, hc⟩ := rcS hr
  cases st with
  | cons v t => cases hst
  | nil =>
    obtain ⟨G, ed, lo, p, l, e, R, s, m, args, below, meth, c, Q⟩ := X
    obtain ⟨hx, hb, hml, hown, hts, hN, hK, hO', hlo, hlk, hret⟩ := E
    obtain ⟨o1, o2, o3⟩ := hO
    intro H locs ls hw hl
    refine W.objInit hx hb hown (hts _ o1) (hts _ o2) (hts _ o3) rfl (by rw [hml]; exact hl.1) rfl hdg hf (Nat.le_trans (Nat.le_of_ble_eq_true rfl) hs) ?_
    exact kk H locs ls hw hl
theorem wm_gets (E : EV X cc nL own ret) {index : Nat} (hl : Cond.fieldLink own index "java/util/ArrayList" "DEFAULTCAPACITY_EMPTY_ELEMENTDATA" "[Ljava/lang/Object;" ∈ GW) (hdg : decode cc pc = .ok (.getstatic index, 3)) (kk : WM X nL (pc + 3) lv (vR (some (mE μ)) :: st) cells slots μ) : WM X nL pc lv st cells slots μ := by
  obtain ⟨G, ed, lo, p, l, e, R, s, m, args, below, meth, c, Q⟩ := X
  obtain ⟨hx, hb, hml, hown, hts, hN, hK, hO, hlo, hlk, hret⟩ := E
  intro H locs ls hw hl'
  have hE := hw.2.1
  refine va_gets hx hb hO.1 hw.2.2.2 hown (hts _ hl) (fun _ h => h) hdg ?_
  have := kk H locs ls hw hl'
  rw [hE] at this
  exact this
end
end
section
theorem ml_Ac_1 : Cond.methodLink "java/util/AbstractCollection" 1 objectInit ∈ GW := GW_of (tm1 (List.mem_of_getElem? (i := 54) (by decide +kernel))) rfl
theorem im_Obj : Cond.instanceMethod objectInit ∈ GW := GW_of (tm1 (List.mem_of_getElem? (i := 41) (by decide +kernel))) rfl
theorem co_Obj : Cond.code objectInit ⟨#[0xb1]⟩ 1 none ∈ GW := GW_of (tm1 (List.mem_of_getElem? (i := 42) (by decide +kernel))) rfl
theorem oi_Ac_1 : OI "java/util/AbstractCollection" 1 := ⟨ml_Ac_1, im_Obj, co_Obj⟩
theorem ml_Hi_3 : Cond.methodLink "PlaceFinder$Hits" 3 objectInit ∈ GW := GW_of (tm1 (List.mem_of_getElem? (i := 112) (by decide +kernel))) rfl
theorem oi_Hi_3 : OI "PlaceFinder$Hits" 3 := ⟨ml_Hi_3, im_Obj, co_Obj⟩
theorem ac_I : Cond.arrayClass .int ∈ GW := GW_of (tm1 (List.mem_of_getElem? (i := 104) (by decide +kernel))) rfl
theorem fl_Hi_9 : Cond.fieldLink "PlaceFinder$Hits" 9 "PlaceFinder$Hits" "numbers" "[I" ∈ GW := GW_of (tm1 (List.mem_of_getElem? (i := 113) (by decide +kernel))) rfl
theorem fp_Hi_9 : FP "PlaceFinder$Hits" 9 4 0 (.array .int) true := ⟨_, _, _, "PlaceFinder$Hits", t_Hi, rfl, by decide, uw_Hi, Or.inl rfl, t_Hi_ok, n_Hi, rfl, rfl, Or.inl ⟨fl_Hi_9, fun _ => rfl⟩⟩
theorem ac_J : Cond.arrayClass .long ∈ GW := GW_of (tm1 (List.mem_of_getElem? (i := 126) (by decide +kernel))) rfl
theorem fl_Hi_15 : Cond.fieldLink "PlaceFinder$Hits" 15 "PlaceFinder$Hits" "keys" "[J" ∈ GW := GW_of (tm1 (List.mem_of_getElem? (i := 115) (by decide +kernel))) rfl
theorem fp_Hi_15 : FP "PlaceFinder$Hits" 15 4 1 (.array .long) true := ⟨_, _, _, "PlaceFinder$Hits", t_Hi, rfl, by decide, uw_Hi, Or.inl rfl, t_Hi_ok, n_Hi, rfl, rfl, Or.inl ⟨fl_Hi_15, fun _ => rfl⟩⟩
theorem fl_Hi_19 : Cond.fieldLink "PlaceFinder$Hits" 19 "PlaceFinder$Hits" "count" "I" ∈ GW := GW_of (tm1 (List.mem_of_getElem? (i := 116) (by decide +kernel))) rfl
theorem fp_Hi_19 : FP "PlaceFinder$Hits" 19 4 2 .int false := ⟨_, _, _, "PlaceFinder$Hits", t_Hi, rfl, by decide, uw_Hi, Or.inl rfl, t_Hi_ok, n_Hi, rfl, rfl, Or.inl ⟨fl_Hi_19, fun _ => rfl⟩⟩
theorem ml_Ec_3 : Cond.methodLink "PlaceFinder$ErrorCounter" 3 objectInit ∈ GW := GW_of (tm1 (List.mem_of_getElem? (i := 132) (by decide +kernel))) rfl
theorem oi_Ec_3 : OI "PlaceFinder$ErrorCounter" 3 := ⟨ml_Ec_3, im_Obj, co_Obj⟩
theorem ml_Rs_1 : Cond.methodLink "PlaceFinder$RouteSearch" 1 objectInit ∈ GW := GW_of (tm1 (List.mem_of_getElem? (i := 144) (by decide +kernel))) rfl
theorem oi_Rs_1 : OI "PlaceFinder$RouteSearch" 1 := ⟨ml_Rs_1, im_Obj, co_Obj⟩
theorem fl_Wo_9 : Cond.fieldLink "PlaceFinder$Word" 9 "PlaceFinder$Word" "letters" "[C" ∈ GW := GW_of (tm1 (List.mem_of_getElem? (i := 175) (by decide +kernel))) rfl
theorem fd_Wo_9 : FD "PlaceFinder$Word" 9 10 0 := ⟨_, _, _, "PlaceFinder$Word", rfl, by decide, uw_Wo, Or.inl rfl, Or.inl fl_Wo_9⟩
theorem fl_Wo_19 : Cond.fieldLink "PlaceFinder$Word" 19 "PlaceFinder$Word" "size" "I" ∈ GW := GW_of (tm1 (List.mem_of_getElem? (i := 177) (by decide +kernel))) rfl
theorem fp_Wo_19 : FP "PlaceFinder$Word" 19 10 1 .int true := ⟨_, _, _, "PlaceFinder$Word", t_Wo, rfl, by decide, uw_Wo, Or.inl rfl, t_Wo_ok, n_Wo, rfl, rfl, Or.inl ⟨fl_Wo_19, fun _ => rfl⟩⟩
theorem co_Wo_joinedLetter : Cond.code y_Wo_joinedLetter prog_11_method_2_code 2 (some .char) ∈ GW := GW_of (tm1 (List.mem_of_getElem? (i := 174) (by decide +kernel))) rfl
theorem ii_Wo : Cond.initialized "PlaceFinder$Word" ∈ GW := GW_of (tm1 (List.mem_of_getElem? (i := 13) (by decide +kernel))) rfl
theorem ml_Wo_15 : Cond.methodLink "PlaceFinder$Word" 15 y_Wo_joinedLetter ∈ GW := GW_of (tm1 (List.mem_of_getElem? (i := 172) (by decide +kernel))) rfl
theorem lk_Wo_15 : LK "PlaceFinder$Word" 15 y_Wo_joinedLetter prog_11_method_2_code 2 (some .char) 2 := ⟨co_Wo_joinedLetter, ii_Wo, Or.inl ml_Wo_15, by decide +kernel⟩
theorem sc_Wo_joinedLetter : Cond.static y_Wo_joinedLetter ∈ GW := GW_of (tm1 (List.mem_of_getElem? (i := 173) (by decide +kernel))) rfl
theorem ml_Wo_3 : Cond.methodLink "PlaceFinder$Word" 3 objectInit ∈ GW := GW_of (tm1 (List.mem_of_getElem? (i := 171) (by decide +kernel))) rfl
theorem oi_Wo_3 : OI "PlaceFinder$Word" 3 := ⟨ml_Wo_3, im_Obj, co_Obj⟩
theorem ac_C : Cond.arrayClass .char ∈ GW := GW_of (tm1 (List.mem_of_getElem? (i := 125) (by decide +kernel))) rfl
theorem fp_Wo_9 : FP "PlaceFinder$Word" 9 10 0 (.array .char) true := ⟨_, _, _, "PlaceFinder$Word", t_Wo, rfl, by decide, uw_Wo, Or.inl rfl, t_Wo_ok, n_Wo, rfl, rfl, Or.inl ⟨fl_Wo_9, fun _ => rfl⟩⟩
theorem ml_Cn_1 : Cond.methodLink "PlaceFinder$Condition" 1 objectInit ∈ GW := GW_of (tm1 (List.mem_of_getElem? (i := 187) (by decide +kernel))) rfl
theorem oi_Cn_1 : OI "PlaceFinder$Condition" 1 := ⟨ml_Cn_1, im_Obj, co_Obj⟩
theorem fl_Cn_7 : Cond.fieldLink "PlaceFinder$Condition" 7 "PlaceFinder$Condition" "kind" "I" ∈ GW := GW_of (tm1 (List.mem_of_getElem? (i := 188) (by decide +kernel))) rfl
theorem fp_Cn_7 : FP "PlaceFinder$Condition" 7 1 0 .int true := ⟨_, _, _, "PlaceFinder$Condition", t_Cn, rfl, by decide, uw_Cn, Or.inl rfl, t_Cn_ok, n_Cn, rfl, rfl, Or.inl ⟨fl_Cn_7, fun _ => rfl⟩⟩
theorem fl_Cn_13 : Cond.fieldLink "PlaceFinder$Condition" 13 "PlaceFinder$Condition" "a" "I" ∈ GW := GW_of (tm1 (List.mem_of_getElem? (i := 190) (by decide +kernel))) rfl
theorem fp_Cn_13 : FP "PlaceFinder$Condition" 13 1 1 .int true := ⟨_, _, _, "PlaceFinder$Condition", t_Cn, rfl, by decide, uw_Cn, Or.inl rfl, t_Cn_ok, n_Cn, rfl, rfl, Or.inl ⟨fl_Cn_13, fun _ => rfl⟩⟩
theorem fl_Cn_16 : Cond.fieldLink "PlaceFinder$Condition" 16 "PlaceFinder$Condition" "b" "I" ∈ GW := GW_of (tm1 (List.mem_of_getElem? (i := 192) (by decide +kernel))) rfl
theorem fp_Cn_16 : FP "PlaceFinder$Condition" 16 1 2 .int true := ⟨_, _, _, "PlaceFinder$Condition", t_Cn, rfl, by decide, uw_Cn, Or.inl rfl, t_Cn_ok, n_Cn, rfl, rfl, Or.inl ⟨fl_Cn_16, fun _ => rfl⟩⟩
theorem fl_Cn_19 : Cond.fieldLink "PlaceFinder$Condition" 19 "PlaceFinder$Condition" "c" "I" ∈ GW := GW_of (tm1 (List.mem_of_getElem? (i := 194) (by decide +kernel))) rfl
theorem fp_Cn_19 : FP "PlaceFinder$Condition" 19 1 3 .int true := ⟨_, _, _, "PlaceFinder$Condition", t_Cn, rfl, by decide, uw_Cn, Or.inl rfl, t_Cn_ok, n_Cn, rfl, rfl, Or.inl ⟨fl_Cn_19, fun _ => rfl⟩⟩
theorem fl_Cn_22 : Cond.fieldLink "PlaceFinder$Condition" 22 "PlaceFinder$Condition" "word" "LPlaceFinder$Word;" ∈ GW := GW_of (tm1 (List.mem_of_getElem? (i := 196) (by decide +kernel))) rfl
theorem fp_Cn_22 : FP "PlaceFinder$Condition" 22 1 4 (.object "PlaceFinder$Word") true := ⟨_, _, _, "PlaceFinder$Condition", t_Cn, rfl, by decide, uw_Cn, Or.inl rfl, t_Cn_ok, n_Cn, rfl, rfl, Or.inl ⟨fl_Cn_22, fun _ => rfl⟩⟩
theorem fl_Al_48 : Cond.fieldLink "java/util/ArrayList" 48 "java/util/ArrayList" "size" "I" ∈ GW := GW_of (tm1 (List.mem_of_getElem? (i := 58) (by decide +kernel))) rfl
theorem fd_Al_48 : FD "java/util/ArrayList" 48 0 1 := ⟨_, _, _, "java/util/ArrayList", rfl, by decide, uw_Al, Or.inl rfl, Or.inl fl_Al_48⟩
theorem co_Ma_max : Cond.code y_Ma_max prog_23_method_65_code 2 (some .int) ∈ GW := GW_of (tm2 (List.mem_of_getElem? (i := 236) (by decide +kernel))) rfl
theorem ii_Ma : Cond.initialized "java/lang/Math" ∈ GW := GW_of (tm1 (List.mem_of_getElem? (i := 7) (by decide +kernel))) rfl
theorem co_Pr_checkIndex : Cond.code y_Pr_checkIndex prog_42_method_11_code 3 (some .int) ∈ GW := GW_of (tm2 (List.mem_of_getElem? (i := 58) (by decide +kernel))) rfl
theorem ii_Pr : Cond.initialized "jdk/internal/util/Preconditions" ∈ GW := GW_of (tm1 (List.mem_of_getElem? (i := 23) (by decide +kernel))) rfl
theorem fl_Al_9 : Cond.fieldLink "java/util/ArrayList" 9 "java/util/ArrayList" "elementData" "[Ljava/lang/Object;" ∈ GW := GW_of (tm1 (List.mem_of_getElem? (i := 57) (by decide +kernel))) rfl
theorem fd_Al_9 : FD "java/util/ArrayList" 9 0 0 := ⟨_, _, _, "java/util/ArrayList", rfl, by decide, uw_Al, Or.inl rfl, Or.inl fl_Al_9⟩
theorem fl_Co_9 : Cond.fieldLink "PlaceFinder$Corners" 9 "PlaceFinder$Corners" "size" "I" ∈ GW := GW_of (tm1 (List.mem_of_getElem? (i := 91) (by decide +kernel))) rfl
theorem fd_Co_9 : FD "PlaceFinder$Corners" 9 2 0 := ⟨_, _, _, "PlaceFinder$Corners", rfl, by decide, uw_Co, Or.inl rfl, Or.inl fl_Co_9⟩
theorem co_Co_following : Cond.code y_Co_following prog_3_method_4_code 2 (some .int) ∈ GW := GW_of (tm3 (List.mem_of_getElem? (i := 88) (by decide +kernel))) rfl
theorem ii_Co : Cond.initialized "PlaceFinder$Corners" ∈ GW := GW_of (tm1 (List.mem_of_getElem? (i := 5) (by decide +kernel))) rfl
theorem ml_Co_32 : Cond.methodLink "PlaceFinder$Corners" 32 y_Co_following ∈ GW := GW_of (tm3 (List.mem_of_getElem? (i := 85) (by decide +kernel))) rfl
theorem lk_Co_32 : LK "PlaceFinder$Corners" 32 y_Co_following prog_3_method_4_code 2 (some .int) 1 := ⟨co_Co_following, ii_Co, Or.inl ml_Co_32, by decide +kernel⟩
theorem im_Co_following : Cond.instanceMethod y_Co_following ∈ GW := GW_of (tm3 (List.mem_of_getElem? (i := 87) (by decide +kernel))) rfl
theorem sl_Co_following : Cond.selects "PlaceFinder$Corners" y_Co_following y_Co_following ∈ GW := GW_of (tm0 (List.mem_of_getElem? (i := 7) (by decide +kernel))) rfl
theorem fl_Co_21 : Cond.fieldLink "PlaceFinder$Corners" 21 "PlaceFinder$Corners" "xs" "[I" ∈ GW := GW_of (tm1 (List.mem_of_getElem? (i := 93) (by decide +kernel))) rfl
theorem fd_Co_21 : FD "PlaceFinder$Corners" 21 2 1 := ⟨_, _, _, "PlaceFinder$Corners", rfl, by decide, uw_Co, Or.inl rfl, Or.inl fl_Co_21⟩
theorem fl_Co_25 : Cond.fieldLink "PlaceFinder$Corners" 25 "PlaceFinder$Corners" "ys" "[I" ∈ GW := GW_of (tm1 (List.mem_of_getElem? (i := 95) (by decide +kernel))) rfl
theorem fd_Co_25 : FD "PlaceFinder$Corners" 25 2 2 := ⟨_, _, _, "PlaceFinder$Corners", rfl, by decide, uw_Co, Or.inl rfl, Or.inl fl_Co_25⟩
theorem co_Co_doubledSurface : Cond.code y_Co_doubledSurface prog_3_method_5_code 4 (some .int) ∈ GW := GW_of (tm3 (List.mem_of_getElem? (i := 84) (by decide +kernel))) rfl
theorem ml_Co_28 : Cond.methodLink "PlaceFinder$Corners" 28 y_Co_doubledSurface ∈ GW := GW_of (tm3 (List.mem_of_getElem? (i := 81) (by decide +kernel))) rfl
theorem lk_Co_28 : LK "PlaceFinder$Corners" 28 y_Co_doubledSurface prog_3_method_5_code 4 (some .int) 0 := ⟨co_Co_doubledSurface, ii_Co, Or.inl ml_Co_28, by decide +kernel⟩
theorem im_Co_doubledSurface : Cond.instanceMethod y_Co_doubledSurface ∈ GW := GW_of (tm3 (List.mem_of_getElem? (i := 83) (by decide +kernel))) rfl
theorem sl_Co_doubledSurface : Cond.selects "PlaceFinder$Corners" y_Co_doubledSurface y_Co_doubledSurface ∈ GW := GW_of (tm0 (List.mem_of_getElem? (i := 6) (by decide +kernel))) rfl
theorem fl_Pl_18 : Cond.fieldLink "PlaceFinder$Place" 18 "PlaceFinder$Place" "shapes" "Ljava/util/ArrayList;" ∈ GW := GW_of (tm2 (List.mem_of_getElem? (i := 194) (by decide +kernel))) rfl
theorem fd_Pl_18 : FD "PlaceFinder$Place" 18 7 3 := ⟨_, _, _, "PlaceFinder$Place", rfl, by decide, uw_Pl, Or.inl rfl, Or.inl fl_Pl_18⟩
theorem co_Al_size : Cond.code y_Al_size prog_33_method_8_code 1 (some .int) ∈ GW := GW_of (tm2 (List.mem_of_getElem? (i := 163) (by decide +kernel))) rfl
theorem ii_Al : Cond.initialized "java/util/ArrayList" ∈ GW := GW_of (tm1 (List.mem_of_getElem? (i := 4) (by decide +kernel))) rfl
theorem ml_Pl_38 : Cond.methodLink "PlaceFinder$Place" 38 y_Al_size ∈ GW := GW_of (tm3 (List.mem_of_getElem? (i := 94) (by decide +kernel))) rfl
theorem lk_Pl_38 : LK "PlaceFinder$Place" 38 y_Al_size prog_33_method_8_code 1 (some .int) 0 := ⟨co_Al_size, ii_Al, Or.inl ml_Pl_38, by decide +kernel⟩
theorem im_Al_size : Cond.instanceMethod y_Al_size ∈ GW := GW_of (tm2 (List.mem_of_getElem? (i := 161) (by decide +kernel))) rfl
theorem sl_Al_size : Cond.selects "java/util/ArrayList" y_Al_size y_Al_size ∈ GW := GW_of (tm2 (List.mem_of_getElem? (i := 162) (by decide +kernel))) rfl
theorem fl_Pl_22 : Cond.fieldLink "PlaceFinder$Place" 22 "PlaceFinder$Place" "shapeDays" "[I" ∈ GW := GW_of (tm2 (List.mem_of_getElem? (i := 195) (by decide +kernel))) rfl
theorem fd_Pl_22 : FD "PlaceFinder$Place" 22 7 4 := ⟨_, _, _, "PlaceFinder$Place", rfl, by decide, uw_Pl, Or.inl rfl, Or.inl fl_Pl_22⟩
theorem fl_P_40 : Cond.fieldLink "PlaceFinder" 40 "PlaceFinder" "typedCount" "I" ∈ GW := GW_of (tm1 (List.mem_of_getElem? (i := 215) (by decide +kernel))) rfl
theorem fd_P_40 : FD "PlaceFinder" 40 11 6 := ⟨_, _, _, "PlaceFinder", rfl, by decide, uw_P, Or.inl rfl, Or.inl fl_P_40⟩
theorem fl_P_36 : Cond.fieldLink "PlaceFinder" 36 "PlaceFinder" "typed" "[C" ∈ GW := GW_of (tm1 (List.mem_of_getElem? (i := 214) (by decide +kernel))) rfl
theorem fd_P_36 : FD "PlaceFinder" 36 11 5 := ⟨_, _, _, "PlaceFinder", rfl, by decide, uw_P, Or.inl rfl, Or.inl fl_P_36⟩
theorem fp_P_40 : FP "PlaceFinder" 40 11 6 .int false := ⟨_, _, _, "PlaceFinder", t_P, rfl, by decide, uw_P, Or.inl rfl, t_P_ok, n_P, rfl, rfl, Or.inl ⟨fl_P_40, fun _ => rfl⟩⟩
theorem co_P_isDay : Cond.code y_P_isDay prog_1_method_23_code 1 (some .boolean) ∈ GW := GW_of (tm3 (List.mem_of_getElem? (i := 71) (by decide +kernel))) rfl
theorem ii_P : Cond.initialized "PlaceFinder" ∈ GW := GW_of (tm1 (List.mem_of_getElem? (i := 1) (by decide +kernel))) rfl
theorem ml_P_128 : Cond.methodLink "PlaceFinder" 128 y_P_isDay ∈ GW := GW_of (tm3 (List.mem_of_getElem? (i := 69) (by decide +kernel))) rfl
theorem lk_P_128 : LK "PlaceFinder" 128 y_P_isDay prog_1_method_23_code 1 (some .boolean) 1 := ⟨co_P_isDay, ii_P, Or.inl ml_P_128, by decide +kernel⟩
theorem sc_P_isDay : Cond.static y_P_isDay ∈ GW := GW_of (tm3 (List.mem_of_getElem? (i := 70) (by decide +kernel))) rfl
theorem ml_Na_1 : Cond.methodLink "PlaceFinder$Name" 1 objectInit ∈ GW := GW_of (tm3 (List.mem_of_getElem? (i := 118) (by decide +kernel))) rfl
theorem oi_Na_1 : OI "PlaceFinder$Name" 1 := ⟨ml_Na_1, im_Obj, co_Obj⟩
theorem fl_Na_7 : Cond.fieldLink "PlaceFinder$Name" 7 "PlaceFinder$Name" "word" "LPlaceFinder$Word;" ∈ GW := GW_of (tm3 (List.mem_of_getElem? (i := 119) (by decide +kernel))) rfl
theorem fp_Na_7 : FP "PlaceFinder$Name" 7 6 0 (.object "PlaceFinder$Word") true := ⟨_, _, _, "PlaceFinder$Name", t_Na, rfl, by decide, uw_Na, Or.inl rfl, t_Na_ok, n_Na, rfl, rfl, Or.inl ⟨fl_Na_7, fun _ => rfl⟩⟩
theorem fl_Na_13 : Cond.fieldLink "PlaceFinder$Name" 13 "PlaceFinder$Name" "from" "I" ∈ GW := GW_of (tm3 (List.mem_of_getElem? (i := 121) (by decide +kernel))) rfl
theorem fp_Na_13 : FP "PlaceFinder$Name" 13 6 1 .int true := ⟨_, _, _, "PlaceFinder$Name", t_Na, rfl, by decide, uw_Na, Or.inl rfl, t_Na_ok, n_Na, rfl, rfl, Or.inl ⟨fl_Na_13, fun _ => rfl⟩⟩
theorem fl_Na_17 : Cond.fieldLink "PlaceFinder$Name" 17 "PlaceFinder$Name" "to" "I" ∈ GW := GW_of (tm3 (List.mem_of_getElem? (i := 122) (by decide +kernel))) rfl
theorem fp_Na_17 : FP "PlaceFinder$Name" 17 6 2 .int true := ⟨_, _, _, "PlaceFinder$Name", t_Na, rfl, by decide, uw_Na, Or.inl rfl, t_Na_ok, n_Na, rfl, rfl, Or.inl ⟨fl_Na_17, fun _ => rfl⟩⟩
theorem fl_Li_13 : Cond.fieldLink "PlaceFinder$Link" 13 "PlaceFinder$Link" "from" "I" ∈ GW := GW_of (tm3 (List.mem_of_getElem? (i := 180) (by decide +kernel))) rfl
theorem fd_Li_13 : FD "PlaceFinder$Link" 13 5 1 := ⟨_, _, _, "PlaceFinder$Link", rfl, by decide, uw_Li, Or.inl rfl, Or.inl fl_Li_13⟩
theorem fl_Li_17 : Cond.fieldLink "PlaceFinder$Link" 17 "PlaceFinder$Link" "to" "I" ∈ GW := GW_of (tm3 (List.mem_of_getElem? (i := 182) (by decide +kernel))) rfl
theorem fd_Li_17 : FD "PlaceFinder$Link" 17 5 2 := ⟨_, _, _, "PlaceFinder$Link", rfl, by decide, uw_Li, Or.inl rfl, Or.inl fl_Li_17⟩
theorem ml_Li_1 : Cond.methodLink "PlaceFinder$Link" 1 objectInit ∈ GW := GW_of (tm3 (List.mem_of_getElem? (i := 176) (by decide +kernel))) rfl
theorem oi_Li_1 : OI "PlaceFinder$Link" 1 := ⟨ml_Li_1, im_Obj, co_Obj⟩
theorem fl_Li_7 : Cond.fieldLink "PlaceFinder$Link" 7 "PlaceFinder$Link" "above" "LPlaceFinder$Place;" ∈ GW := GW_of (tm3 (List.mem_of_getElem? (i := 177) (by decide +kernel))) rfl
theorem fp_Li_7 : FP "PlaceFinder$Link" 7 5 0 (.object "PlaceFinder$Place") true := ⟨_, _, _, "PlaceFinder$Link", t_Li, rfl, by decide, uw_Li, Or.inl rfl, t_Li_ok, n_Li, rfl, rfl, Or.inl ⟨fl_Li_7, fun _ => rfl⟩⟩
theorem fp_Li_13 : FP "PlaceFinder$Link" 13 5 1 .int true := ⟨_, _, _, "PlaceFinder$Link", t_Li, rfl, by decide, uw_Li, Or.inl rfl, t_Li_ok, n_Li, rfl, rfl, Or.inl ⟨fl_Li_13, fun _ => rfl⟩⟩
theorem fp_Li_17 : FP "PlaceFinder$Link" 17 5 2 .int true := ⟨_, _, _, "PlaceFinder$Link", t_Li, rfl, by decide, uw_Li, Or.inl rfl, t_Li_ok, n_Li, rfl, rfl, Or.inl ⟨fl_Li_17, fun _ => rfl⟩⟩
theorem fl_Pl_9 : Cond.fieldLink "PlaceFinder$Place" 9 "PlaceFinder$Place" "removedFrom" "I" ∈ GW := GW_of (tm2 (List.mem_of_getElem? (i := 192) (by decide +kernel))) rfl
theorem fd_Pl_9 : FD "PlaceFinder$Place" 9 7 2 := ⟨_, _, _, "PlaceFinder$Place", rfl, by decide, uw_Pl, Or.inl rfl, Or.inl fl_Pl_9⟩
theorem as_Al_clear_35 : ∀ ci ∈ ([] : List Nat), AS "java/lang/Object" ci := fun _ h => nomatch h
theorem sf_Al_modCount : Cond.sameField "java/util/ArrayList" "java/util/AbstractList" "modCount" "I" ∈ GW := GW_of (tm1 (List.mem_of_getElem? (i := 61) (by decide +kernel))) rfl
theorem fl_Al_63 : Cond.fieldLink "java/util/ArrayList" 63 "java/util/ArrayList" "modCount" "I" ∈ GW := GW_of (tm1 (List.mem_of_getElem? (i := 60) (by decide +kernel))) rfl
theorem fd_Al_63 : FD "java/util/ArrayList" 63 0 2 := ⟨_, _, _, "java/util/ArrayList", rfl, by decide, uw_Al, Or.inr sf_Al_modCount, Or.inl fl_Al_63⟩
theorem fp_Al_63 : FP "java/util/ArrayList" 63 0 2 .int false := ⟨_, _, _, "java/util/ArrayList", t_Al, rfl, by decide, uw_Al, Or.inr sf_Al_modCount, t_Al_ok, n_Al, rfl, rfl, Or.inl ⟨fl_Al_63, fun _ => rfl⟩⟩
theorem fp_Al_48 : FP "java/util/ArrayList" 48 0 1 .int false := ⟨_, _, _, "java/util/ArrayList", t_Al, rfl, by decide, uw_Al, Or.inl rfl, t_Al_ok, n_Al, rfl, rfl, Or.inl ⟨fl_Al_48, fun _ => rfl⟩⟩
theorem fl_P_43 : Cond.fieldLink "PlaceFinder" 43 "PlaceFinder" "conditions" "Ljava/util/ArrayList;" ∈ GW := GW_of (tm1 (List.mem_of_getElem? (i := 216) (by decide +kernel))) rfl
theorem fd_P_43 : FD "PlaceFinder" 43 11 7 := ⟨_, _, _, "PlaceFinder", rfl, by decide, uw_P, Or.inl rfl, Or.inl fl_P_43⟩
theorem co_Al_clear : Cond.code y_Al_clear prog_33_method_40_code 4 none ∈ GW := GW_of (tm2 (List.mem_of_getElem? (i := 24) (by decide +kernel))) rfl
theorem ml_P_208 : Cond.methodLink "PlaceFinder" 208 y_Al_clear ∈ GW := GW_of (tm2 (List.mem_of_getElem? (i := 21) (by decide +kernel))) rfl
theorem lk_P_208 : LK "PlaceFinder" 208 y_Al_clear prog_33_method_40_code 4 none 0 := ⟨co_Al_clear, ii_Al, Or.inl ml_P_208, by decide +kernel⟩
theorem im_Al_clear : Cond.instanceMethod y_Al_clear ∈ GW := GW_of (tm2 (List.mem_of_getElem? (i := 22) (by decide +kernel))) rfl
theorem sl_Al_clear : Cond.selects "java/util/ArrayList" y_Al_clear y_Al_clear ∈ GW := GW_of (tm2 (List.mem_of_getElem? (i := 23) (by decide +kernel))) rfl
theorem co_Ma_min : Cond.code y_Ma_min prog_23_method_69_code 2 (some .int) ∈ GW := GW_of (tm1 (List.mem_of_getElem? (i := 87) (by decide +kernel))) rfl
theorem ml_Co_41 : Cond.methodLink "PlaceFinder$Corners" 41 y_Ma_min ∈ GW := GW_of (tm4 (List.mem_of_getElem? (i := 29) (by decide +kernel))) rfl
theorem lk_Co_41 : LK "PlaceFinder$Corners" 41 y_Ma_min prog_23_method_69_code 2 (some .int) 2 := ⟨co_Ma_min, ii_Ma, Or.inl ml_Co_41, by decide +kernel⟩
theorem sc_Ma_min : Cond.static y_Ma_min ∈ GW := GW_of (tm1 (List.mem_of_getElem? (i := 86) (by decide +kernel))) rfl
theorem ml_Co_55 : Cond.methodLink "PlaceFinder$Corners" 55 y_Ma_max ∈ GW := GW_of (tm4 (List.mem_of_getElem? (i := 30) (by decide +kernel))) rfl
theorem lk_Co_55 : LK "PlaceFinder$Corners" 55 y_Ma_max prog_23_method_65_code 2 (some .int) 2 := ⟨co_Ma_max, ii_Ma, Or.inl ml_Co_55, by decide +kernel⟩
theorem sc_Ma_max : Cond.static y_Ma_max ∈ GW := GW_of (tm2 (List.mem_of_getElem? (i := 235) (by decide +kernel))) rfl
theorem co_Co_isInBox : Cond.code y_Co_isInBox prog_3_method_10_code 5 (some .boolean) ∈ GW := GW_of (tm4 (List.mem_of_getElem? (i := 28) (by decide +kernel))) rfl
theorem ml_Co_51 : Cond.methodLink "PlaceFinder$Corners" 51 y_Co_isInBox ∈ GW := GW_of (tm4 (List.mem_of_getElem? (i := 25) (by decide +kernel))) rfl
theorem lk_Co_51 : LK "PlaceFinder$Corners" 51 y_Co_isInBox prog_3_method_10_code 5 (some .boolean) 4 := ⟨co_Co_isInBox, ii_Co, Or.inl ml_Co_51, by decide +kernel⟩
theorem im_Co_isInBox : Cond.instanceMethod y_Co_isInBox ∈ GW := GW_of (tm4 (List.mem_of_getElem? (i := 27) (by decide +kernel))) rfl
theorem sl_Co_isInBox : Cond.selects "PlaceFinder$Corners" y_Co_isInBox y_Co_isInBox ∈ GW := GW_of (tm0 (List.mem_of_getElem? (i := 14) (by decide +kernel))) rfl
theorem co_Co_hasInside : Cond.code y_Co_hasInside prog_3_method_9_code 8 (some .boolean) ∈ GW := GW_of (tm4 (List.mem_of_getElem? (i := 24) (by decide +kernel))) rfl
theorem ml_Co_47 : Cond.methodLink "PlaceFinder$Corners" 47 y_Co_hasInside ∈ GW := GW_of (tm4 (List.mem_of_getElem? (i := 21) (by decide +kernel))) rfl
theorem lk_Co_47 : LK "PlaceFinder$Corners" 47 y_Co_hasInside prog_3_method_9_code 8 (some .boolean) 2 := ⟨co_Co_hasInside, ii_Co, Or.inl ml_Co_47, by decide +kernel⟩
theorem im_Co_hasInside : Cond.instanceMethod y_Co_hasInside ∈ GW := GW_of (tm4 (List.mem_of_getElem? (i := 22) (by decide +kernel))) rfl
theorem sl_Co_hasInside : Cond.selects "PlaceFinder$Corners" y_Co_hasInside y_Co_hasInside ∈ GW := GW_of (tm4 (List.mem_of_getElem? (i := 23) (by decide +kernel))) rfl
theorem co_Co_squareFrom : Cond.code y_Co_squareFrom prog_3_method_7_code 6 (some .int) ∈ GW := GW_of (tm4 (List.mem_of_getElem? (i := 46) (by decide +kernel))) rfl
theorem ml_Co_37 : Cond.methodLink "PlaceFinder$Corners" 37 y_Co_squareFrom ∈ GW := GW_of (tm4 (List.mem_of_getElem? (i := 43) (by decide +kernel))) rfl
theorem lk_Co_37 : LK "PlaceFinder$Corners" 37 y_Co_squareFrom prog_3_method_7_code 6 (some .int) 3 := ⟨co_Co_squareFrom, ii_Co, Or.inl ml_Co_37, by decide +kernel⟩
theorem im_Co_squareFrom : Cond.instanceMethod y_Co_squareFrom ∈ GW := GW_of (tm4 (List.mem_of_getElem? (i := 44) (by decide +kernel))) rfl
theorem sl_Co_squareFrom : Cond.selects "PlaceFinder$Corners" y_Co_squareFrom y_Co_squareFrom ∈ GW := GW_of (tm4 (List.mem_of_getElem? (i := 45) (by decide +kernel))) rfl
theorem cn_Co_36 : Cond.constant "PlaceFinder$Corners" 36 1073741824 ∈ GW := GW_of (tm4 (List.mem_of_getElem? (i := 42) (by decide +kernel))) rfl
theorem fl_Rs_7 : Cond.fieldLink "PlaceFinder$RouteSearch" 7 "PlaceFinder$RouteSearch" "isFound" "Z" ∈ GW := GW_of (tm1 (List.mem_of_getElem? (i := 145) (by decide +kernel))) rfl
theorem fp_Rs_7 : FP "PlaceFinder$RouteSearch" 7 8 0 .boolean false := ⟨_, _, _, "PlaceFinder$RouteSearch", t_Rs, rfl, by decide, uw_Rs, Or.inl rfl, t_Rs_ok, n_Rs, rfl, rfl, Or.inl ⟨fl_Rs_7, fun _ => rfl⟩⟩
theorem fl_Rs_54 : Cond.fieldLink "PlaceFinder$RouteSearch" 54 "PlaceFinder$RouteSearch" "side" "I" ∈ GW := GW_of (tm1 (List.mem_of_getElem? (i := 146) (by decide +kernel))) rfl
theorem fp_Rs_54 : FP "PlaceFinder$RouteSearch" 54 8 1 .int false := ⟨_, _, _, "PlaceFinder$RouteSearch", t_Rs, rfl, by decide, uw_Rs, Or.inl rfl, t_Rs_ok, n_Rs, rfl, rfl, Or.inl ⟨fl_Rs_54, fun _ => rfl⟩⟩
theorem fl_Rs_57 : Cond.fieldLink "PlaceFinder$RouteSearch" 57 "PlaceFinder$RouteSearch" "along" "I" ∈ GW := GW_of (tm1 (List.mem_of_getElem? (i := 147) (by decide +kernel))) rfl
theorem fp_Rs_57 : FP "PlaceFinder$RouteSearch" 57 8 2 .int false := ⟨_, _, _, "PlaceFinder$RouteSearch", t_Rs, rfl, by decide, uw_Rs, Or.inl rfl, t_Rs_ok, n_Rs, rfl, rfl, Or.inl ⟨fl_Rs_57, fun _ => rfl⟩⟩
theorem fl_Rs_38 : Cond.fieldLink "PlaceFinder$RouteSearch" 38 "PlaceFinder$RouteSearch" "whole" "J" ∈ GW := GW_of (tm1 (List.mem_of_getElem? (i := 148) (by decide +kernel))) rfl
theorem fp_Rs_38 : FP "PlaceFinder$RouteSearch" 38 8 3 .long false := ⟨_, _, _, "PlaceFinder$RouteSearch", t_Rs, rfl, by decide, uw_Rs, Or.inl rfl, t_Rs_ok, n_Rs, rfl, rfl, Or.inl ⟨fl_Rs_38, fun _ => rfl⟩⟩
theorem fl_Rs_51 : Cond.fieldLink "PlaceFinder$RouteSearch" 51 "PlaceFinder$RouteSearch" "rest" "J" ∈ GW := GW_of (tm1 (List.mem_of_getElem? (i := 149) (by decide +kernel))) rfl
theorem fp_Rs_51 : FP "PlaceFinder$RouteSearch" 51 8 4 .long false := ⟨_, _, _, "PlaceFinder$RouteSearch", t_Rs, rfl, by decide, uw_Rs, Or.inl rfl, t_Rs_ok, n_Rs, rfl, rfl, Or.inl ⟨fl_Rs_51, fun _ => rfl⟩⟩
theorem fl_Rs_48 : Cond.fieldLink "PlaceFinder$RouteSearch" 48 "PlaceFinder$RouteSearch" "divisor" "J" ∈ GW := GW_of (tm1 (List.mem_of_getElem? (i := 150) (by decide +kernel))) rfl
theorem fp_Rs_48 : FP "PlaceFinder$RouteSearch" 48 8 5 .long false := ⟨_, _, _, "PlaceFinder$RouteSearch", t_Rs, rfl, by decide, uw_Rs, Or.inl rfl, t_Rs_ok, n_Rs, rfl, rfl, Or.inl ⟨fl_Rs_48, fun _ => rfl⟩⟩
theorem fd_Rs_54 : FD "PlaceFinder$RouteSearch" 54 8 1 := ⟨_, _, _, "PlaceFinder$RouteSearch", rfl, by decide, uw_Rs, Or.inl rfl, Or.inl fl_Rs_54⟩
theorem fd_Rs_57 : FD "PlaceFinder$RouteSearch" 57 8 2 := ⟨_, _, _, "PlaceFinder$RouteSearch", rfl, by decide, uw_Rs, Or.inl rfl, Or.inl fl_Rs_57⟩
theorem fd_Rs_7 : FD "PlaceFinder$RouteSearch" 7 8 0 := ⟨_, _, _, "PlaceFinder$RouteSearch", rfl, by decide, uw_Rs, Or.inl rfl, Or.inl fl_Rs_7⟩
theorem fd_Rs_38 : FD "PlaceFinder$RouteSearch" 38 8 3 := ⟨_, _, _, "PlaceFinder$RouteSearch", rfl, by decide, uw_Rs, Or.inl rfl, Or.inl fl_Rs_38⟩
theorem fd_Rs_48 : FD "PlaceFinder$RouteSearch" 48 8 5 := ⟨_, _, _, "PlaceFinder$RouteSearch", rfl, by decide, uw_Rs, Or.inl rfl, Or.inl fl_Rs_48⟩
theorem fd_Rs_51 : FD "PlaceFinder$RouteSearch" 51 8 4 := ⟨_, _, _, "PlaceFinder$RouteSearch", rfl, by decide, uw_Rs, Or.inl rfl, Or.inl fl_Rs_51⟩
theorem co_Lo_compare : Cond.code y_Lo_compare prog_22_method_42_code 4 (some .int) ∈ GW := GW_of (tm4 (List.mem_of_getElem? (i := 61) (by decide +kernel))) rfl
theorem ii_Lo : Cond.initialized "java/lang/Long" ∈ GW := GW_of (tm1 (List.mem_of_getElem? (i := 27) (by decide +kernel))) rfl
theorem ml_Rs_42 : Cond.methodLink "PlaceFinder$RouteSearch" 42 y_Lo_compare ∈ GW := GW_of (tm4 (List.mem_of_getElem? (i := 59) (by decide +kernel))) rfl
theorem lk_Rs_42 : LK "PlaceFinder$RouteSearch" 42 y_Lo_compare prog_22_method_42_code 4 (some .int) 2 := ⟨co_Lo_compare, ii_Lo, Or.inl ml_Rs_42, by decide +kernel⟩
theorem sc_Lo_compare : Cond.static y_Lo_compare ∈ GW := GW_of (tm4 (List.mem_of_getElem? (i := 60) (by decide +kernel))) rfl
theorem ml_Rs_34 : Cond.methodLink "PlaceFinder$RouteSearch" 34 y_Co_squareFrom ∈ GW := GW_of (tm4 (List.mem_of_getElem? (i := 62) (by decide +kernel))) rfl
theorem lk_Rs_34 : LK "PlaceFinder$RouteSearch" 34 y_Co_squareFrom prog_3_method_7_code 6 (some .int) 3 := ⟨co_Co_squareFrom, ii_Co, Or.inl ml_Rs_34, by decide +kernel⟩
theorem co_Rs_takeIfBetter : Cond.code y_Rs_takeIfBetter prog_9_method_4_code 10 none ∈ GW := GW_of (tm4 (List.mem_of_getElem? (i := 58) (by decide +kernel))) rfl
theorem ii_Rs : Cond.initialized "PlaceFinder$RouteSearch" ∈ GW := GW_of (tm1 (List.mem_of_getElem? (i := 11) (by decide +kernel))) rfl
theorem ml_Rs_30 : Cond.methodLink "PlaceFinder$RouteSearch" 30 y_Rs_takeIfBetter ∈ GW := GW_of (tm4 (List.mem_of_getElem? (i := 55) (by decide +kernel))) rfl
theorem lk_Rs_30 : LK "PlaceFinder$RouteSearch" 30 y_Rs_takeIfBetter prog_9_method_4_code 10 none 5 := ⟨co_Rs_takeIfBetter, ii_Rs, Or.inl ml_Rs_30, by decide +kernel⟩
theorem im_Rs_takeIfBetter : Cond.instanceMethod y_Rs_takeIfBetter ∈ GW := GW_of (tm4 (List.mem_of_getElem? (i := 57) (by decide +kernel))) rfl
theorem sl_Rs_takeIfBetter : Cond.selects "PlaceFinder$RouteSearch" y_Rs_takeIfBetter y_Rs_takeIfBetter ∈ GW := GW_of (tm0 (List.mem_of_getElem? (i := 16) (by decide +kernel))) rfl
theorem fl_Rs_19 : Cond.fieldLink "PlaceFinder$RouteSearch" 19 "PlaceFinder$Corners" "xs" "[I" ∈ GW := GW_of (tm1 (List.mem_of_getElem? (i := 94) (by decide +kernel))) rfl
theorem fd_Rs_19 : FD "PlaceFinder$RouteSearch" 19 2 1 := ⟨_, _, _, "PlaceFinder$Corners", rfl, by decide, uw_Co, Or.inl rfl, Or.inl fl_Rs_19⟩
theorem fl_Rs_23 : Cond.fieldLink "PlaceFinder$RouteSearch" 23 "PlaceFinder$Corners" "ys" "[I" ∈ GW := GW_of (tm1 (List.mem_of_getElem? (i := 96) (by decide +kernel))) rfl
theorem fd_Rs_23 : FD "PlaceFinder$RouteSearch" 23 2 2 := ⟨_, _, _, "PlaceFinder$Corners", rfl, by decide, uw_Co, Or.inl rfl, Or.inl fl_Rs_23⟩
theorem fl_Rs_13 : Cond.fieldLink "PlaceFinder$RouteSearch" 13 "PlaceFinder$Corners" "size" "I" ∈ GW := GW_of (tm1 (List.mem_of_getElem? (i := 92) (by decide +kernel))) rfl
theorem fd_Rs_13 : FD "PlaceFinder$RouteSearch" 13 2 0 := ⟨_, _, _, "PlaceFinder$Corners", rfl, by decide, uw_Co, Or.inl rfl, Or.inl fl_Rs_13⟩
theorem co_Rs_measure : Cond.code y_Rs_measure prog_9_method_3_code 13 none ∈ GW := GW_of (tm4 (List.mem_of_getElem? (i := 54) (by decide +kernel))) rfl
theorem ml_Rs_26 : Cond.methodLink "PlaceFinder$RouteSearch" 26 y_Rs_measure ∈ GW := GW_of (tm4 (List.mem_of_getElem? (i := 51) (by decide +kernel))) rfl
theorem lk_Rs_26 : LK "PlaceFinder$RouteSearch" 26 y_Rs_measure prog_9_method_3_code 13 none 4 := ⟨co_Rs_measure, ii_Rs, Or.inl ml_Rs_26, by decide +kernel⟩
theorem im_Rs_measure : Cond.instanceMethod y_Rs_measure ∈ GW := GW_of (tm4 (List.mem_of_getElem? (i := 53) (by decide +kernel))) rfl
theorem sl_Rs_measure : Cond.selects "PlaceFinder$RouteSearch" y_Rs_measure y_Rs_measure ∈ GW := GW_of (tm0 (List.mem_of_getElem? (i := 15) (by decide +kernel))) rfl
theorem fd_Na_13 : FD "PlaceFinder$Name" 13 6 1 := ⟨_, _, _, "PlaceFinder$Name", rfl, by decide, uw_Na, Or.inl rfl, Or.inl fl_Na_13⟩
theorem fd_Na_17 : FD "PlaceFinder$Name" 17 6 2 := ⟨_, _, _, "PlaceFinder$Name", rfl, by decide, uw_Na, Or.inl rfl, Or.inl fl_Na_17⟩
theorem cn_Wo_23 : Cond.constantLong "PlaceFinder$Word" 23 27 ∈ GW := GW_of (tm4 (List.mem_of_getElem? (i := 84) (by decide +kernel))) rfl
theorem fd_Wo_19 : FD "PlaceFinder$Word" 19 10 1 := ⟨_, _, _, "PlaceFinder$Word", rfl, by decide, uw_Wo, Or.inl rfl, Or.inl fl_Wo_19⟩
theorem fl_Ec_11 : Cond.fieldLink "PlaceFinder$ErrorCounter" 11 "PlaceFinder$ErrorCounter" "least" "[[I" ∈ GW := GW_of (tm1 (List.mem_of_getElem? (i := 135) (by decide +kernel))) rfl
theorem fd_Ec_11 : FD "PlaceFinder$ErrorCounter" 11 3 0 := ⟨_, _, _, "PlaceFinder$ErrorCounter", rfl, by decide, uw_Ec, Or.inl rfl, Or.inl fl_Ec_11⟩
theorem ml_Ec_30 : Cond.methodLink "PlaceFinder$ErrorCounter" 30 y_Ma_min ∈ GW := GW_of (tm4 (List.mem_of_getElem? (i := 97) (by decide +kernel))) rfl
theorem lk_Ec_30 : LK "PlaceFinder$ErrorCounter" 30 y_Ma_min prog_23_method_69_code 2 (some .int) 2 := ⟨co_Ma_min, ii_Ma, Or.inl ml_Ec_30, by decide +kernel⟩
theorem fl_Ec_16 : Cond.fieldLink "PlaceFinder$ErrorCounter" 16 "PlaceFinder$Word" "size" "I" ∈ GW := GW_of (tm1 (List.mem_of_getElem? (i := 178) (by decide +kernel))) rfl
theorem fd_Ec_16 : FD "PlaceFinder$ErrorCounter" 16 10 1 := ⟨_, _, _, "PlaceFinder$Word", rfl, by decide, uw_Wo, Or.inl rfl, Or.inl fl_Ec_16⟩
theorem fl_Ec_22 : Cond.fieldLink "PlaceFinder$ErrorCounter" 22 "PlaceFinder$Word" "letters" "[C" ∈ GW := GW_of (tm1 (List.mem_of_getElem? (i := 176) (by decide +kernel))) rfl
theorem fd_Ec_22 : FD "PlaceFinder$ErrorCounter" 22 10 0 := ⟨_, _, _, "PlaceFinder$Word", rfl, by decide, uw_Wo, Or.inl rfl, Or.inl fl_Ec_22⟩
theorem co_Ec_leastFor : Cond.code y_Ec_leastFor prog_4_method_3_code 9 (some .int) ∈ GW := GW_of (tm4 (List.mem_of_getElem? (i := 96) (by decide +kernel))) rfl
theorem ii_Ec : Cond.initialized "PlaceFinder$ErrorCounter" ∈ GW := GW_of (tm1 (List.mem_of_getElem? (i := 10) (by decide +kernel))) rfl
theorem ml_Ec_26 : Cond.methodLink "PlaceFinder$ErrorCounter" 26 y_Ec_leastFor ∈ GW := GW_of (tm4 (List.mem_of_getElem? (i := 93) (by decide +kernel))) rfl
theorem lk_Ec_26 : LK "PlaceFinder$ErrorCounter" 26 y_Ec_leastFor prog_4_method_3_code 9 (some .int) 4 := ⟨co_Ec_leastFor, ii_Ec, Or.inl ml_Ec_26, by decide +kernel⟩
theorem im_Ec_leastFor : Cond.instanceMethod y_Ec_leastFor ∈ GW := GW_of (tm4 (List.mem_of_getElem? (i := 95) (by decide +kernel))) rfl
theorem sl_Ec_leastFor : Cond.selects "PlaceFinder$ErrorCounter" y_Ec_leastFor y_Ec_leastFor ∈ GW := GW_of (tm0 (List.mem_of_getElem? (i := 19) (by decide +kernel))) rfl
theorem fl_P_69 : Cond.fieldLink "PlaceFinder" 69 "PlaceFinder" "routeSearch" "LPlaceFinder$RouteSearch;" ∈ GW := GW_of (tm1 (List.mem_of_getElem? (i := 220) (by decide +kernel))) rfl
theorem fd_P_69 : FD "PlaceFinder" 69 11 11 := ⟨_, _, _, "PlaceFinder", rfl, by decide, uw_P, Or.inl rfl, Or.inl fl_P_69⟩
theorem fl_P_32 : Cond.fieldLink "PlaceFinder" 32 "PlaceFinder" "currentRoute" "LPlaceFinder$Corners;" ∈ GW := GW_of (tm1 (List.mem_of_getElem? (i := 213) (by decide +kernel))) rfl
theorem fd_P_32 : FD "PlaceFinder" 32 11 4 := ⟨_, _, _, "PlaceFinder", rfl, by decide, uw_P, Or.inl rfl, Or.inl fl_P_32⟩
theorem co_Rs_start : Cond.code y_Rs_start prog_9_method_2_code 5 none ∈ GW := GW_of (tm4 (List.mem_of_getElem? (i := 50) (by decide +kernel))) rfl
theorem ml_P_372 : Cond.methodLink "PlaceFinder" 372 y_Rs_start ∈ GW := GW_of (tm4 (List.mem_of_getElem? (i := 47) (by decide +kernel))) rfl
theorem lk_P_372 : LK "PlaceFinder" 372 y_Rs_start prog_9_method_2_code 5 none 2 := ⟨co_Rs_start, ii_Rs, Or.inl ml_P_372, by decide +kernel⟩
theorem im_Rs_start : Cond.instanceMethod y_Rs_start ∈ GW := GW_of (tm4 (List.mem_of_getElem? (i := 48) (by decide +kernel))) rfl
theorem sl_Rs_start : Cond.selects "PlaceFinder$RouteSearch" y_Rs_start y_Rs_start ∈ GW := GW_of (tm4 (List.mem_of_getElem? (i := 49) (by decide +kernel))) rfl
theorem co_Rs_positionKey : Cond.code y_Rs_positionKey prog_9_method_6_code 1 (some .long) ∈ GW := GW_of (tm4 (List.mem_of_getElem? (i := 119) (by decide +kernel))) rfl
theorem ml_P_412 : Cond.methodLink "PlaceFinder" 412 y_Rs_positionKey ∈ GW := GW_of (tm4 (List.mem_of_getElem? (i := 116) (by decide +kernel))) rfl
theorem lk_P_412 : LK "PlaceFinder" 412 y_Rs_positionKey prog_9_method_6_code 1 (some .long) 0 := ⟨co_Rs_positionKey, ii_Rs, Or.inl ml_P_412, by decide +kernel⟩
theorem im_Rs_positionKey : Cond.instanceMethod y_Rs_positionKey ∈ GW := GW_of (tm4 (List.mem_of_getElem? (i := 117) (by decide +kernel))) rfl
theorem sl_Rs_positionKey : Cond.selects "PlaceFinder$RouteSearch" y_Rs_positionKey y_Rs_positionKey ∈ GW := GW_of (tm4 (List.mem_of_getElem? (i := 118) (by decide +kernel))) rfl
theorem fd_Hi_15 : FD "PlaceFinder$Hits" 15 4 1 := ⟨_, _, _, "PlaceFinder$Hits", rfl, by decide, uw_Hi, Or.inl rfl, Or.inl fl_Hi_15⟩
theorem fd_Hi_9 : FD "PlaceFinder$Hits" 9 4 0 := ⟨_, _, _, "PlaceFinder$Hits", rfl, by decide, uw_Hi, Or.inl rfl, Or.inl fl_Hi_9⟩
theorem fd_Hi_19 : FD "PlaceFinder$Hits" 19 4 2 := ⟨_, _, _, "PlaceFinder$Hits", rfl, by decide, uw_Hi, Or.inl rfl, Or.inl fl_Hi_19⟩
theorem ml_Hi_23 : Cond.methodLink "PlaceFinder$Hits" 23 y_Ma_min ∈ GW := GW_of (tm4 (List.mem_of_getElem? (i := 141) (by decide +kernel))) rfl
theorem lk_Hi_23 : LK "PlaceFinder$Hits" 23 y_Ma_min prog_23_method_69_code 2 (some .int) 2 := ⟨co_Ma_min, ii_Ma, Or.inl ml_Hi_23, by decide +kernel⟩
theorem fl_P_48 : Cond.fieldLink "PlaceFinder" 48 "PlaceFinder" "watches" "[LPlaceFinder$Watch;" ∈ GW := GW_of (tm1 (List.mem_of_getElem? (i := 217) (by decide +kernel))) rfl
theorem fd_P_48 : FD "PlaceFinder" 48 11 8 := ⟨_, _, _, "PlaceFinder", rfl, by decide, uw_P, Or.inl rfl, Or.inl fl_P_48⟩
theorem fl_Wa_16 : Cond.fieldLink "PlaceFinder$Watch" 16 "PlaceFinder$Watch" "toldPlaces" "I" ∈ GW := GW_of (tm4 (List.mem_of_getElem? (i := 228) (by decide +kernel))) rfl
theorem fd_Wa_16 : FD "PlaceFinder$Watch" 16 9 3 := ⟨_, _, _, "PlaceFinder$Watch", rfl, by decide, uw_Wa, Or.inl rfl, Or.inl fl_Wa_16⟩
theorem ml_M_1 : Cond.methodLink "PlaceFinderModel" 1 objectInit ∈ GW := GW_of (tm5 (List.mem_of_getElem? (i := 33) (by decide +kernel))) rfl
theorem oi_M_1 : OI "PlaceFinderModel" 1 := ⟨ml_M_1, im_Obj, co_Obj⟩
theorem fl_M_7 : Cond.fieldLink "PlaceFinderModel" 7 "PlaceFinderModel" "kind" "[I" ∈ GW := GW_of (tm5 (List.mem_of_getElem? (i := 36) (by decide +kernel))) rfl
theorem fp_M_7 : FP "PlaceFinderModel" 7 12 2 (.array .int) true := ⟨_, _, _, "PlaceFinderModel", t_M, rfl, by decide, uw_M, Or.inl rfl, t_M_ok, n_M, rfl, rfl, Or.inl ⟨fl_M_7, fun _ => rfl⟩⟩
theorem fl_M_13 : Cond.fieldLink "PlaceFinderModel" 13 "PlaceFinderModel" "gone" "[I" ∈ GW := GW_of (tm5 (List.mem_of_getElem? (i := 37) (by decide +kernel))) rfl
theorem fp_M_13 : FP "PlaceFinderModel" 13 12 3 (.array .int) true := ⟨_, _, _, "PlaceFinderModel", t_M, rfl, by decide, uw_M, Or.inl rfl, t_M_ok, n_M, rfl, rfl, Or.inl ⟨fl_M_13, fun _ => rfl⟩⟩
theorem fl_M_16 : Cond.fieldLink "PlaceFinderModel" 16 "PlaceFinderModel" "shapes" "[I" ∈ GW := GW_of (tm5 (List.mem_of_getElem? (i := 38) (by decide +kernel))) rfl
theorem fp_M_16 : FP "PlaceFinderModel" 16 12 4 (.array .int) true := ⟨_, _, _, "PlaceFinderModel", t_M, rfl, by decide, uw_M, Or.inl rfl, t_M_ok, n_M, rfl, rfl, Or.inl ⟨fl_M_16, fun _ => rfl⟩⟩
theorem fl_M_19 : Cond.fieldLink "PlaceFinderModel" 19 "PlaceFinderModel" "shapeDay" "[I" ∈ GW := GW_of (tm5 (List.mem_of_getElem? (i := 39) (by decide +kernel))) rfl
theorem fp_M_19 : FP "PlaceFinderModel" 19 12 5 (.array .int) true := ⟨_, _, _, "PlaceFinderModel", t_M, rfl, by decide, uw_M, Or.inl rfl, t_M_ok, n_M, rfl, rfl, Or.inl ⟨fl_M_19, fun _ => rfl⟩⟩
theorem fl_M_22 : Cond.fieldLink "PlaceFinderModel" 22 "PlaceFinderModel" "shapeSize" "[I" ∈ GW := GW_of (tm5 (List.mem_of_getElem? (i := 40) (by decide +kernel))) rfl
theorem fp_M_22 : FP "PlaceFinderModel" 22 12 6 (.array .int) true := ⟨_, _, _, "PlaceFinderModel", t_M, rfl, by decide, uw_M, Or.inl rfl, t_M_ok, n_M, rfl, rfl, Or.inl ⟨fl_M_22, fun _ => rfl⟩⟩
theorem fl_M_25 : Cond.fieldLink "PlaceFinderModel" 25 "PlaceFinderModel" "shapeX" "[I" ∈ GW := GW_of (tm5 (List.mem_of_getElem? (i := 41) (by decide +kernel))) rfl
theorem fp_M_25 : FP "PlaceFinderModel" 25 12 7 (.array .int) true := ⟨_, _, _, "PlaceFinderModel", t_M, rfl, by decide, uw_M, Or.inl rfl, t_M_ok, n_M, rfl, rfl, Or.inl ⟨fl_M_25, fun _ => rfl⟩⟩
theorem fl_M_28 : Cond.fieldLink "PlaceFinderModel" 28 "PlaceFinderModel" "shapeY" "[I" ∈ GW := GW_of (tm5 (List.mem_of_getElem? (i := 42) (by decide +kernel))) rfl
theorem fp_M_28 : FP "PlaceFinderModel" 28 12 8 (.array .int) true := ⟨_, _, _, "PlaceFinderModel", t_M, rfl, by decide, uw_M, Or.inl rfl, t_M_ok, n_M, rfl, rfl, Or.inl ⟨fl_M_28, fun _ => rfl⟩⟩
theorem fl_M_31 : Cond.fieldLink "PlaceFinderModel" 31 "PlaceFinderModel" "names" "[I" ∈ GW := GW_of (tm5 (List.mem_of_getElem? (i := 43) (by decide +kernel))) rfl
theorem fp_M_31 : FP "PlaceFinderModel" 31 12 9 (.array .int) true := ⟨_, _, _, "PlaceFinderModel", t_M, rfl, by decide, uw_M, Or.inl rfl, t_M_ok, n_M, rfl, rfl, Or.inl ⟨fl_M_31, fun _ => rfl⟩⟩
theorem fl_M_34 : Cond.fieldLink "PlaceFinderModel" 34 "PlaceFinderModel" "nameFrom" "[I" ∈ GW := GW_of (tm5 (List.mem_of_getElem? (i := 44) (by decide +kernel))) rfl
theorem fp_M_34 : FP "PlaceFinderModel" 34 12 10 (.array .int) true := ⟨_, _, _, "PlaceFinderModel", t_M, rfl, by decide, uw_M, Or.inl rfl, t_M_ok, n_M, rfl, rfl, Or.inl ⟨fl_M_34, fun _ => rfl⟩⟩
theorem fl_M_37 : Cond.fieldLink "PlaceFinderModel" 37 "PlaceFinderModel" "nameTo" "[I" ∈ GW := GW_of (tm5 (List.mem_of_getElem? (i := 45) (by decide +kernel))) rfl
theorem fp_M_37 : FP "PlaceFinderModel" 37 12 11 (.array .int) true := ⟨_, _, _, "PlaceFinderModel", t_M, rfl, by decide, uw_M, Or.inl rfl, t_M_ok, n_M, rfl, rfl, Or.inl ⟨fl_M_37, fun _ => rfl⟩⟩
theorem fl_M_40 : Cond.fieldLink "PlaceFinderModel" 40 "PlaceFinderModel" "nameLength" "[I" ∈ GW := GW_of (tm5 (List.mem_of_getElem? (i := 46) (by decide +kernel))) rfl
theorem fp_M_40 : FP "PlaceFinderModel" 40 12 12 (.array .int) true := ⟨_, _, _, "PlaceFinderModel", t_M, rfl, by decide, uw_M, Or.inl rfl, t_M_ok, n_M, rfl, rfl, Or.inl ⟨fl_M_40, fun _ => rfl⟩⟩
theorem fl_M_43 : Cond.fieldLink "PlaceFinderModel" 43 "PlaceFinderModel" "nameLetter" "[I" ∈ GW := GW_of (tm5 (List.mem_of_getElem? (i := 47) (by decide +kernel))) rfl
theorem fp_M_43 : FP "PlaceFinderModel" 43 12 13 (.array .int) true := ⟨_, _, _, "PlaceFinderModel", t_M, rfl, by decide, uw_M, Or.inl rfl, t_M_ok, n_M, rfl, rfl, Or.inl ⟨fl_M_43, fun _ => rfl⟩⟩
theorem fl_M_46 : Cond.fieldLink "PlaceFinderModel" 46 "PlaceFinderModel" "spans" "[I" ∈ GW := GW_of (tm5 (List.mem_of_getElem? (i := 48) (by decide +kernel))) rfl
theorem fp_M_46 : FP "PlaceFinderModel" 46 12 14 (.array .int) true := ⟨_, _, _, "PlaceFinderModel", t_M, rfl, by decide, uw_M, Or.inl rfl, t_M_ok, n_M, rfl, rfl, Or.inl ⟨fl_M_46, fun _ => rfl⟩⟩
theorem fl_M_49 : Cond.fieldLink "PlaceFinderModel" 49 "PlaceFinderModel" "spanParent" "[I" ∈ GW := GW_of (tm5 (List.mem_of_getElem? (i := 49) (by decide +kernel))) rfl
theorem fp_M_49 : FP "PlaceFinderModel" 49 12 15 (.array .int) true := ⟨_, _, _, "PlaceFinderModel", t_M, rfl, by decide, uw_M, Or.inl rfl, t_M_ok, n_M, rfl, rfl, Or.inl ⟨fl_M_49, fun _ => rfl⟩⟩
theorem fl_M_52 : Cond.fieldLink "PlaceFinderModel" 52 "PlaceFinderModel" "spanFrom" "[I" ∈ GW := GW_of (tm5 (List.mem_of_getElem? (i := 50) (by decide +kernel))) rfl
theorem fp_M_52 : FP "PlaceFinderModel" 52 12 16 (.array .int) true := ⟨_, _, _, "PlaceFinderModel", t_M, rfl, by decide, uw_M, Or.inl rfl, t_M_ok, n_M, rfl, rfl, Or.inl ⟨fl_M_52, fun _ => rfl⟩⟩
theorem fl_M_55 : Cond.fieldLink "PlaceFinderModel" 55 "PlaceFinderModel" "spanTo" "[I" ∈ GW := GW_of (tm5 (List.mem_of_getElem? (i := 51) (by decide +kernel))) rfl
theorem fp_M_55 : FP "PlaceFinderModel" 55 12 17 (.array .int) true := ⟨_, _, _, "PlaceFinderModel", t_M, rfl, by decide, uw_M, Or.inl rfl, t_M_ok, n_M, rfl, rfl, Or.inl ⟨fl_M_55, fun _ => rfl⟩⟩
theorem fl_M_58 : Cond.fieldLink "PlaceFinderModel" 58 "PlaceFinderModel" "cornerX" "[I" ∈ GW := GW_of (tm5 (List.mem_of_getElem? (i := 53) (by decide +kernel))) rfl
theorem fp_M_58 : FP "PlaceFinderModel" 58 12 19 (.array .int) true := ⟨_, _, _, "PlaceFinderModel", t_M, rfl, by decide, uw_M, Or.inl rfl, t_M_ok, n_M, rfl, rfl, Or.inl ⟨fl_M_58, fun _ => rfl⟩⟩
theorem fl_M_61 : Cond.fieldLink "PlaceFinderModel" 61 "PlaceFinderModel" "cornerY" "[I" ∈ GW := GW_of (tm5 (List.mem_of_getElem? (i := 54) (by decide +kernel))) rfl
theorem fp_M_61 : FP "PlaceFinderModel" 61 12 20 (.array .int) true := ⟨_, _, _, "PlaceFinderModel", t_M, rfl, by decide, uw_M, Or.inl rfl, t_M_ok, n_M, rfl, rfl, Or.inl ⟨fl_M_61, fun _ => rfl⟩⟩
theorem fl_M_64 : Cond.fieldLink "PlaceFinderModel" 64 "PlaceFinderModel" "typing" "[I" ∈ GW := GW_of (tm5 (List.mem_of_getElem? (i := 56) (by decide +kernel))) rfl
theorem fp_M_64 : FP "PlaceFinderModel" 64 12 22 (.array .int) true := ⟨_, _, _, "PlaceFinderModel", t_M, rfl, by decide, uw_M, Or.inl rfl, t_M_ok, n_M, rfl, rfl, Or.inl ⟨fl_M_64, fun _ => rfl⟩⟩
theorem fl_M_67 : Cond.fieldLink "PlaceFinderModel" 67 "PlaceFinderModel" "conditions" "[I" ∈ GW := GW_of (tm5 (List.mem_of_getElem? (i := 57) (by decide +kernel))) rfl
theorem fp_M_67 : FP "PlaceFinderModel" 67 12 23 (.array .int) true := ⟨_, _, _, "PlaceFinderModel", t_M, rfl, by decide, uw_M, Or.inl rfl, t_M_ok, n_M, rfl, rfl, Or.inl ⟨fl_M_67, fun _ => rfl⟩⟩
theorem fl_M_70 : Cond.fieldLink "PlaceFinderModel" 70 "PlaceFinderModel" "conditionKind" "[I" ∈ GW := GW_of (tm5 (List.mem_of_getElem? (i := 58) (by decide +kernel))) rfl
theorem fp_M_70 : FP "PlaceFinderModel" 70 12 24 (.array .int) true := ⟨_, _, _, "PlaceFinderModel", t_M, rfl, by decide, uw_M, Or.inl rfl, t_M_ok, n_M, rfl, rfl, Or.inl ⟨fl_M_70, fun _ => rfl⟩⟩
theorem fl_M_73 : Cond.fieldLink "PlaceFinderModel" 73 "PlaceFinderModel" "numberA" "[I" ∈ GW := GW_of (tm5 (List.mem_of_getElem? (i := 59) (by decide +kernel))) rfl
theorem fp_M_73 : FP "PlaceFinderModel" 73 12 25 (.array .int) true := ⟨_, _, _, "PlaceFinderModel", t_M, rfl, by decide, uw_M, Or.inl rfl, t_M_ok, n_M, rfl, rfl, Or.inl ⟨fl_M_73, fun _ => rfl⟩⟩
theorem fl_M_76 : Cond.fieldLink "PlaceFinderModel" 76 "PlaceFinderModel" "numberB" "[I" ∈ GW := GW_of (tm5 (List.mem_of_getElem? (i := 60) (by decide +kernel))) rfl
theorem fp_M_76 : FP "PlaceFinderModel" 76 12 26 (.array .int) true := ⟨_, _, _, "PlaceFinderModel", t_M, rfl, by decide, uw_M, Or.inl rfl, t_M_ok, n_M, rfl, rfl, Or.inl ⟨fl_M_76, fun _ => rfl⟩⟩
theorem fl_M_79 : Cond.fieldLink "PlaceFinderModel" 79 "PlaceFinderModel" "numberC" "[I" ∈ GW := GW_of (tm5 (List.mem_of_getElem? (i := 61) (by decide +kernel))) rfl
theorem fp_M_79 : FP "PlaceFinderModel" 79 12 27 (.array .int) true := ⟨_, _, _, "PlaceFinderModel", t_M, rfl, by decide, uw_M, Or.inl rfl, t_M_ok, n_M, rfl, rfl, Or.inl ⟨fl_M_79, fun _ => rfl⟩⟩
theorem fl_M_82 : Cond.fieldLink "PlaceFinderModel" 82 "PlaceFinderModel" "wordLength" "[I" ∈ GW := GW_of (tm5 (List.mem_of_getElem? (i := 62) (by decide +kernel))) rfl
theorem fp_M_82 : FP "PlaceFinderModel" 82 12 28 (.array .int) true := ⟨_, _, _, "PlaceFinderModel", t_M, rfl, by decide, uw_M, Or.inl rfl, t_M_ok, n_M, rfl, rfl, Or.inl ⟨fl_M_82, fun _ => rfl⟩⟩
theorem fl_M_85 : Cond.fieldLink "PlaceFinderModel" 85 "PlaceFinderModel" "wordLetter" "[I" ∈ GW := GW_of (tm5 (List.mem_of_getElem? (i := 63) (by decide +kernel))) rfl
theorem fp_M_85 : FP "PlaceFinderModel" 85 12 29 (.array .int) true := ⟨_, _, _, "PlaceFinderModel", t_M, rfl, by decide, uw_M, Or.inl rfl, t_M_ok, n_M, rfl, rfl, Or.inl ⟨fl_M_85, fun _ => rfl⟩⟩
theorem fl_M_88 : Cond.fieldLink "PlaceFinderModel" 88 "PlaceFinderModel" "routeSize" "[I" ∈ GW := GW_of (tm5 (List.mem_of_getElem? (i := 64) (by decide +kernel))) rfl
theorem fp_M_88 : FP "PlaceFinderModel" 88 12 30 (.array .int) true := ⟨_, _, _, "PlaceFinderModel", t_M, rfl, by decide, uw_M, Or.inl rfl, t_M_ok, n_M, rfl, rfl, Or.inl ⟨fl_M_88, fun _ => rfl⟩⟩
theorem fl_M_91 : Cond.fieldLink "PlaceFinderModel" 91 "PlaceFinderModel" "routeX" "[I" ∈ GW := GW_of (tm5 (List.mem_of_getElem? (i := 65) (by decide +kernel))) rfl
theorem fp_M_91 : FP "PlaceFinderModel" 91 12 31 (.array .int) true := ⟨_, _, _, "PlaceFinderModel", t_M, rfl, by decide, uw_M, Or.inl rfl, t_M_ok, n_M, rfl, rfl, Or.inl ⟨fl_M_91, fun _ => rfl⟩⟩
theorem fl_M_94 : Cond.fieldLink "PlaceFinderModel" 94 "PlaceFinderModel" "routeY" "[I" ∈ GW := GW_of (tm5 (List.mem_of_getElem? (i := 66) (by decide +kernel))) rfl
theorem fp_M_94 : FP "PlaceFinderModel" 94 12 32 (.array .int) true := ⟨_, _, _, "PlaceFinderModel", t_M, rfl, by decide, uw_M, Or.inl rfl, t_M_ok, n_M, rfl, rfl, Or.inl ⟨fl_M_94, fun _ => rfl⟩⟩
theorem fl_M_97 : Cond.fieldLink "PlaceFinderModel" 97 "PlaceFinderModel" "watchDay" "[I" ∈ GW := GW_of (tm5 (List.mem_of_getElem? (i := 67) (by decide +kernel))) rfl
theorem fp_M_97 : FP "PlaceFinderModel" 97 12 33 (.array .int) true := ⟨_, _, _, "PlaceFinderModel", t_M, rfl, by decide, uw_M, Or.inl rfl, t_M_ok, n_M, rfl, rfl, Or.inl ⟨fl_M_97, fun _ => rfl⟩⟩
theorem ac_Z : Cond.arrayClass .boolean ∈ GW := GW_of (tm5 (List.mem_of_getElem? (i := 200) (by decide +kernel))) rfl
theorem fl_M_100 : Cond.fieldLink "PlaceFinderModel" 100 "PlaceFinderModel" "isSet" "[Z" ∈ GW := GW_of (tm5 (List.mem_of_getElem? (i := 68) (by decide +kernel))) rfl
theorem fp_M_100 : FP "PlaceFinderModel" 100 12 34 (.array .boolean) true := ⟨_, _, _, "PlaceFinderModel", t_M, rfl, by decide, uw_M, Or.inl rfl, t_M_ok, n_M, rfl, rfl, Or.inl ⟨fl_M_100, fun _ => rfl⟩⟩
theorem fl_M_104 : Cond.fieldLink "PlaceFinderModel" 104 "PlaceFinderModel" "told" "[I" ∈ GW := GW_of (tm5 (List.mem_of_getElem? (i := 69) (by decide +kernel))) rfl
theorem fp_M_104 : FP "PlaceFinderModel" 104 12 35 (.array .int) true := ⟨_, _, _, "PlaceFinderModel", t_M, rfl, by decide, uw_M, Or.inl rfl, t_M_ok, n_M, rfl, rfl, Or.inl ⟨fl_M_104, fun _ => rfl⟩⟩
theorem fl_M_107 : Cond.fieldLink "PlaceFinderModel" 107 "PlaceFinderModel" "hits" "[I" ∈ GW := GW_of (tm5 (List.mem_of_getElem? (i := 71) (by decide +kernel))) rfl
theorem fp_M_107 : FP "PlaceFinderModel" 107 12 37 (.array .int) true := ⟨_, _, _, "PlaceFinderModel", t_M, rfl, by decide, uw_M, Or.inl rfl, t_M_ok, n_M, rfl, rfl, Or.inl ⟨fl_M_107, fun _ => rfl⟩⟩
theorem fl_M_110 : Cond.fieldLink "PlaceFinderModel" 110 "PlaceFinderModel" "fold" "[I" ∈ GW := GW_of (tm5 (List.mem_of_getElem? (i := 73) (by decide +kernel))) rfl
theorem fp_M_110 : FP "PlaceFinderModel" 110 12 39 (.array .int) true := ⟨_, _, _, "PlaceFinderModel", t_M, rfl, by decide, uw_M, Or.inl rfl, t_M_ok, n_M, rfl, rfl, Or.inl ⟨fl_M_110, fun _ => rfl⟩⟩
theorem fl_M_113 : Cond.fieldLink "PlaceFinderModel" 113 "PlaceFinderModel" "table" "[I" ∈ GW := GW_of (tm5 (List.mem_of_getElem? (i := 74) (by decide +kernel))) rfl
theorem fp_M_113 : FP "PlaceFinderModel" 113 12 40 (.array .int) true := ⟨_, _, _, "PlaceFinderModel", t_M, rfl, by decide, uw_M, Or.inl rfl, t_M_ok, n_M, rfl, rfl, Or.inl ⟨fl_M_113, fun _ => rfl⟩⟩
theorem fl_M_116 : Cond.fieldLink "PlaceFinderModel" 116 "PlaceFinderModel" "keyName" "[I" ∈ GW := GW_of (tm5 (List.mem_of_getElem? (i := 84) (by decide +kernel))) rfl
theorem fp_M_116 : FP "PlaceFinderModel" 116 12 50 (.array .int) true := ⟨_, _, _, "PlaceFinderModel", t_M, rfl, by decide, uw_M, Or.inl rfl, t_M_ok, n_M, rfl, rfl, Or.inl ⟨fl_M_116, fun _ => rfl⟩⟩
theorem fl_M_119 : Cond.fieldLink "PlaceFinderModel" 119 "PlaceFinderModel" "keySquare" "[I" ∈ GW := GW_of (tm5 (List.mem_of_getElem? (i := 85) (by decide +kernel))) rfl
theorem fp_M_119 : FP "PlaceFinderModel" 119 12 51 (.array .int) true := ⟨_, _, _, "PlaceFinderModel", t_M, rfl, by decide, uw_M, Or.inl rfl, t_M_ok, n_M, rfl, rfl, Or.inl ⟨fl_M_119, fun _ => rfl⟩⟩
theorem fl_M_122 : Cond.fieldLink "PlaceFinderModel" 122 "PlaceFinderModel" "keySide" "[I" ∈ GW := GW_of (tm5 (List.mem_of_getElem? (i := 86) (by decide +kernel))) rfl
theorem fp_M_122 : FP "PlaceFinderModel" 122 12 52 (.array .int) true := ⟨_, _, _, "PlaceFinderModel", t_M, rfl, by decide, uw_M, Or.inl rfl, t_M_ok, n_M, rfl, rfl, Or.inl ⟨fl_M_122, fun _ => rfl⟩⟩
theorem fl_M_125 : Cond.fieldLink "PlaceFinderModel" 125 "PlaceFinderModel" "keyUp" "[J" ∈ GW := GW_of (tm5 (List.mem_of_getElem? (i := 87) (by decide +kernel))) rfl
theorem fp_M_125 : FP "PlaceFinderModel" 125 12 53 (.array .long) true := ⟨_, _, _, "PlaceFinderModel", t_M, rfl, by decide, uw_M, Or.inl rfl, t_M_ok, n_M, rfl, rfl, Or.inl ⟨fl_M_125, fun _ => rfl⟩⟩
theorem fl_M_129 : Cond.fieldLink "PlaceFinderModel" 129 "PlaceFinderModel" "keyDown" "[J" ∈ GW := GW_of (tm5 (List.mem_of_getElem? (i := 88) (by decide +kernel))) rfl
theorem fp_M_129 : FP "PlaceFinderModel" 129 12 54 (.array .long) true := ⟨_, _, _, "PlaceFinderModel", t_M, rfl, by decide, uw_M, Or.inl rfl, t_M_ok, n_M, rfl, rfl, Or.inl ⟨fl_M_129, fun _ => rfl⟩⟩
theorem fl_M_132 : Cond.fieldLink "PlaceFinderModel" 132 "PlaceFinderModel" "code" "I" ∈ GW := GW_of (tm5 (List.mem_of_getElem? (i := 34) (by decide +kernel))) rfl
theorem fd_M_132 : FD "PlaceFinderModel" 132 12 0 := ⟨_, _, _, "PlaceFinderModel", rfl, by decide, uw_M, Or.inl rfl, Or.inl fl_M_132⟩
theorem fl_M_136 : Cond.fieldLink "PlaceFinderModel" 136 "PlaceFinderModel" "places" "I" ∈ GW := GW_of (tm5 (List.mem_of_getElem? (i := 35) (by decide +kernel))) rfl
theorem fd_M_136 : FD "PlaceFinderModel" 136 12 1 := ⟨_, _, _, "PlaceFinderModel", rfl, by decide, uw_M, Or.inl rfl, Or.inl fl_M_136⟩
theorem co_M_in : Cond.code y_M_in prog_13_method_3_code 3 (some .boolean) ∈ GW := GW_of (tm5 (List.mem_of_getElem? (i := 211) (by decide +kernel))) rfl
theorem ii_M : Cond.initialized "PlaceFinderModel" ∈ GW := GW_of (tm1 (List.mem_of_getElem? (i := 14) (by decide +kernel))) rfl
theorem ml_M_139 : Cond.methodLink "PlaceFinderModel" 139 y_M_in ∈ GW := GW_of (tm5 (List.mem_of_getElem? (i := 209) (by decide +kernel))) rfl
theorem lk_M_139 : LK "PlaceFinderModel" 139 y_M_in prog_13_method_3_code 3 (some .boolean) 3 := ⟨co_M_in, ii_M, Or.inl ml_M_139, by decide +kernel⟩
theorem sc_M_in : Cond.static y_M_in ∈ GW := GW_of (tm5 (List.mem_of_getElem? (i := 210) (by decide +kernel))) rfl
theorem co_M_isDay : Cond.code y_M_isDay prog_13_method_5_code 1 (some .boolean) ∈ GW := GW_of (tm5 (List.mem_of_getElem? (i := 229) (by decide +kernel))) rfl
theorem ml_M_143 : Cond.methodLink "PlaceFinderModel" 143 y_M_isDay ∈ GW := GW_of (tm5 (List.mem_of_getElem? (i := 227) (by decide +kernel))) rfl
theorem lk_M_143 : LK "PlaceFinderModel" 143 y_M_isDay prog_13_method_5_code 1 (some .boolean) 1 := ⟨co_M_isDay, ii_M, Or.inl ml_M_143, by decide +kernel⟩
theorem sc_M_isDay : Cond.static y_M_isDay ∈ GW := GW_of (tm5 (List.mem_of_getElem? (i := 228) (by decide +kernel))) rfl
theorem fp_M_132 : FP "PlaceFinderModel" 132 12 0 .int false := ⟨_, _, _, "PlaceFinderModel", t_M, rfl, by decide, uw_M, Or.inl rfl, t_M_ok, n_M, rfl, rfl, Or.inl ⟨fl_M_132, fun _ => rfl⟩⟩
theorem fd_M_7 : FD "PlaceFinderModel" 7 12 2 := ⟨_, _, _, "PlaceFinderModel", rfl, by decide, uw_M, Or.inl rfl, Or.inl fl_M_7⟩
theorem fd_M_13 : FD "PlaceFinderModel" 13 12 3 := ⟨_, _, _, "PlaceFinderModel", rfl, by decide, uw_M, Or.inl rfl, Or.inl fl_M_13⟩
theorem fp_M_136 : FP "PlaceFinderModel" 136 12 1 .int false := ⟨_, _, _, "PlaceFinderModel", t_M, rfl, by decide, uw_M, Or.inl rfl, t_M_ok, n_M, rfl, rfl, Or.inl ⟨fl_M_136, fun _ => rfl⟩⟩
theorem fd_M_58 : FD "PlaceFinderModel" 58 12 19 := ⟨_, _, _, "PlaceFinderModel", rfl, by decide, uw_M, Or.inl rfl, Or.inl fl_M_58⟩
theorem fl_M_151 : Cond.fieldLink "PlaceFinderModel" 151 "PlaceFinderModel" "corners" "I" ∈ GW := GW_of (tm5 (List.mem_of_getElem? (i := 52) (by decide +kernel))) rfl
theorem fd_M_151 : FD "PlaceFinderModel" 151 12 18 := ⟨_, _, _, "PlaceFinderModel", rfl, by decide, uw_M, Or.inl rfl, Or.inl fl_M_151⟩
theorem fd_M_61 : FD "PlaceFinderModel" 61 12 20 := ⟨_, _, _, "PlaceFinderModel", rfl, by decide, uw_M, Or.inl rfl, Or.inl fl_M_61⟩
theorem fp_M_151 : FP "PlaceFinderModel" 151 12 18 .int false := ⟨_, _, _, "PlaceFinderModel", t_M, rfl, by decide, uw_M, Or.inl rfl, t_M_ok, n_M, rfl, rfl, Or.inl ⟨fl_M_151, fun _ => rfl⟩⟩
theorem co_M_isAt : Cond.code y_M_isAt prog_13_method_7_code 2 (some .boolean) ∈ GW := GW_of (tm5 (List.mem_of_getElem? (i := 218) (by decide +kernel))) rfl
theorem ml_M_147 : Cond.methodLink "PlaceFinderModel" 147 y_M_isAt ∈ GW := GW_of (tm5 (List.mem_of_getElem? (i := 216) (by decide +kernel))) rfl
theorem lk_M_147 : LK "PlaceFinderModel" 147 y_M_isAt prog_13_method_7_code 2 (some .boolean) 2 := ⟨co_M_isAt, ii_M, Or.inl ml_M_147, by decide +kernel⟩
theorem sc_M_isAt : Cond.static y_M_isAt ∈ GW := GW_of (tm5 (List.mem_of_getElem? (i := 217) (by decide +kernel))) rfl
theorem fd_M_16 : FD "PlaceFinderModel" 16 12 4 := ⟨_, _, _, "PlaceFinderModel", rfl, by decide, uw_M, Or.inl rfl, Or.inl fl_M_16⟩
theorem fd_M_25 : FD "PlaceFinderModel" 25 12 7 := ⟨_, _, _, "PlaceFinderModel", rfl, by decide, uw_M, Or.inl rfl, Or.inl fl_M_25⟩
theorem fd_M_28 : FD "PlaceFinderModel" 28 12 8 := ⟨_, _, _, "PlaceFinderModel", rfl, by decide, uw_M, Or.inl rfl, Or.inl fl_M_28⟩
theorem fd_M_19 : FD "PlaceFinderModel" 19 12 5 := ⟨_, _, _, "PlaceFinderModel", rfl, by decide, uw_M, Or.inl rfl, Or.inl fl_M_19⟩
theorem fd_M_22 : FD "PlaceFinderModel" 22 12 6 := ⟨_, _, _, "PlaceFinderModel", rfl, by decide, uw_M, Or.inl rfl, Or.inl fl_M_22⟩
theorem co_M_isPlace : Cond.code y_M_isPlace prog_13_method_4_code 2 (some .boolean) ∈ GW := GW_of (tm5 (List.mem_of_getElem? (i := 226) (by decide +kernel))) rfl
theorem ml_M_154 : Cond.methodLink "PlaceFinderModel" 154 y_M_isPlace ∈ GW := GW_of (tm5 (List.mem_of_getElem? (i := 223) (by decide +kernel))) rfl
theorem lk_M_154 : LK "PlaceFinderModel" 154 y_M_isPlace prog_13_method_4_code 2 (some .boolean) 1 := ⟨co_M_isPlace, ii_M, Or.inl ml_M_154, by decide +kernel⟩
theorem im_M_isPlace : Cond.instanceMethod y_M_isPlace ∈ GW := GW_of (tm5 (List.mem_of_getElem? (i := 225) (by decide +kernel))) rfl
theorem sl_M_isPlace : Cond.selects "PlaceFinderModel" y_M_isPlace y_M_isPlace ∈ GW := GW_of (tm0 (List.mem_of_getElem? (i := 23) (by decide +kernel))) rfl
theorem co_M_isArea : Cond.code y_M_isArea prog_13_method_10_code 4 (some .boolean) ∈ GW := GW_of (tm5 (List.mem_of_getElem? (i := 233) (by decide +kernel))) rfl
theorem ml_M_157 : Cond.methodLink "PlaceFinderModel" 157 y_M_isArea ∈ GW := GW_of (tm5 (List.mem_of_getElem? (i := 230) (by decide +kernel))) rfl
theorem lk_M_157 : LK "PlaceFinderModel" 157 y_M_isArea prog_13_method_10_code 4 (some .boolean) 0 := ⟨co_M_isArea, ii_M, Or.inl ml_M_157, by decide +kernel⟩
theorem im_M_isArea : Cond.instanceMethod y_M_isArea ∈ GW := GW_of (tm5 (List.mem_of_getElem? (i := 232) (by decide +kernel))) rfl
theorem sl_M_isArea : Cond.selects "PlaceFinderModel" y_M_isArea y_M_isArea ∈ GW := GW_of (tm0 (List.mem_of_getElem? (i := 24) (by decide +kernel))) rfl
theorem fd_M_91 : FD "PlaceFinderModel" 91 12 31 := ⟨_, _, _, "PlaceFinderModel", rfl, by decide, uw_M, Or.inl rfl, Or.inl fl_M_91⟩
theorem fd_M_94 : FD "PlaceFinderModel" 94 12 32 := ⟨_, _, _, "PlaceFinderModel", rfl, by decide, uw_M, Or.inl rfl, Or.inl fl_M_94⟩
theorem fd_M_88 : FD "PlaceFinderModel" 88 12 30 := ⟨_, _, _, "PlaceFinderModel", rfl, by decide, uw_M, Or.inl rfl, Or.inl fl_M_88⟩
theorem co_M_shapeOf : Cond.code y_M_shapeOf prog_13_method_13_code 5 (some .int) ∈ GW := GW_of (tm6 (List.mem_of_getElem? (i := 5) (by decide +kernel))) rfl
theorem ml_M_161 : Cond.methodLink "PlaceFinderModel" 161 y_M_shapeOf ∈ GW := GW_of (tm6 (List.mem_of_getElem? (i := 2) (by decide +kernel))) rfl
theorem lk_M_161 : LK "PlaceFinderModel" 161 y_M_shapeOf prog_13_method_13_code 5 (some .int) 2 := ⟨co_M_shapeOf, ii_M, Or.inl ml_M_161, by decide +kernel⟩
theorem im_M_shapeOf : Cond.instanceMethod y_M_shapeOf ∈ GW := GW_of (tm6 (List.mem_of_getElem? (i := 4) (by decide +kernel))) rfl
theorem sl_M_shapeOf : Cond.selects "PlaceFinderModel" y_M_shapeOf y_M_shapeOf ∈ GW := GW_of (tm0 (List.mem_of_getElem? (i := 25) (by decide +kernel))) rfl
theorem co_M_turn : Cond.code y_M_turn prog_13_method_15_code 6 (some .int) ∈ GW := GW_of (tm6 (List.mem_of_getElem? (i := 12) (by decide +kernel))) rfl
theorem ml_M_165 : Cond.methodLink "PlaceFinderModel" 165 y_M_turn ∈ GW := GW_of (tm6 (List.mem_of_getElem? (i := 10) (by decide +kernel))) rfl
theorem lk_M_165 : LK "PlaceFinderModel" 165 y_M_turn prog_13_method_15_code 6 (some .int) 6 := ⟨co_M_turn, ii_M, Or.inl ml_M_165, by decide +kernel⟩
theorem sc_M_turn : Cond.static y_M_turn ∈ GW := GW_of (tm6 (List.mem_of_getElem? (i := 11) (by decide +kernel))) rfl
theorem co_M_liesIn : Cond.code y_M_liesIn prog_13_method_16_code 14 (some .boolean) ∈ GW := GW_of (tm6 (List.mem_of_getElem? (i := 9) (by decide +kernel))) rfl
theorem ml_M_169 : Cond.methodLink "PlaceFinderModel" 169 y_M_liesIn ∈ GW := GW_of (tm6 (List.mem_of_getElem? (i := 6) (by decide +kernel))) rfl
theorem lk_M_169 : LK "PlaceFinderModel" 169 y_M_liesIn prog_13_method_16_code 14 (some .boolean) 3 := ⟨co_M_liesIn, ii_M, Or.inl ml_M_169, by decide +kernel⟩
theorem im_M_liesIn : Cond.instanceMethod y_M_liesIn ∈ GW := GW_of (tm6 (List.mem_of_getElem? (i := 8) (by decide +kernel))) rfl
theorem sl_M_liesIn : Cond.selects "PlaceFinderModel" y_M_liesIn y_M_liesIn ∈ GW := GW_of (tm0 (List.mem_of_getElem? (i := 26) (by decide +kernel))) rfl
theorem fl_M_172 : Cond.fieldLink "PlaceFinderModel" 172 "PlaceFinderModel" "typed" "I" ∈ GW := GW_of (tm5 (List.mem_of_getElem? (i := 55) (by decide +kernel))) rfl
theorem fd_M_172 : FD "PlaceFinderModel" 172 12 21 := ⟨_, _, _, "PlaceFinderModel", rfl, by decide, uw_M, Or.inl rfl, Or.inl fl_M_172⟩
theorem fd_M_64 : FD "PlaceFinderModel" 64 12 22 := ⟨_, _, _, "PlaceFinderModel", rfl, by decide, uw_M, Or.inl rfl, Or.inl fl_M_64⟩
theorem fp_M_172 : FP "PlaceFinderModel" 172 12 21 .int false := ⟨_, _, _, "PlaceFinderModel", t_M, rfl, by decide, uw_M, Or.inl rfl, t_M_ok, n_M, rfl, rfl, Or.inl ⟨fl_M_172, fun _ => rfl⟩⟩
theorem co_M_typedAt : Cond.code y_M_typedAt prog_13_method_19_code 2 (some .int) ∈ GW := GW_of (tm6 (List.mem_of_getElem? (i := 32) (by decide +kernel))) rfl
theorem ml_M_175 : Cond.methodLink "PlaceFinderModel" 175 y_M_typedAt ∈ GW := GW_of (tm6 (List.mem_of_getElem? (i := 29) (by decide +kernel))) rfl
theorem lk_M_175 : LK "PlaceFinderModel" 175 y_M_typedAt prog_13_method_19_code 2 (some .int) 1 := ⟨co_M_typedAt, ii_M, Or.inl ml_M_175, by decide +kernel⟩
theorem im_M_typedAt : Cond.instanceMethod y_M_typedAt ∈ GW := GW_of (tm6 (List.mem_of_getElem? (i := 31) (by decide +kernel))) rfl
theorem sl_M_typedAt : Cond.selects "PlaceFinderModel" y_M_typedAt y_M_typedAt ∈ GW := GW_of (tm0 (List.mem_of_getElem? (i := 29) (by decide +kernel))) rfl
theorem fd_M_110 : FD "PlaceFinderModel" 110 12 39 := ⟨_, _, _, "PlaceFinderModel", rfl, by decide, uw_M, Or.inl rfl, Or.inl fl_M_110⟩
theorem fl_M_179 : Cond.fieldLink "PlaceFinderModel" 179 "PlaceFinderModel" "folded" "I" ∈ GW := GW_of (tm5 (List.mem_of_getElem? (i := 72) (by decide +kernel))) rfl
theorem fd_M_179 : FD "PlaceFinderModel" 179 12 38 := ⟨_, _, _, "PlaceFinderModel", rfl, by decide, uw_M, Or.inl rfl, Or.inl fl_M_179⟩
theorem fp_M_179 : FP "PlaceFinderModel" 179 12 38 .int false := ⟨_, _, _, "PlaceFinderModel", t_M, rfl, by decide, uw_M, Or.inl rfl, t_M_ok, n_M, rfl, rfl, Or.inl ⟨fl_M_179, fun _ => rfl⟩⟩
theorem co_M_pairAt : Cond.code y_M_pairAt prog_13_method_20_code 4 (some .int) ∈ GW := GW_of (tm6 (List.mem_of_getElem? (i := 28) (by decide +kernel))) rfl
theorem ml_M_182 : Cond.methodLink "PlaceFinderModel" 182 y_M_pairAt ∈ GW := GW_of (tm6 (List.mem_of_getElem? (i := 25) (by decide +kernel))) rfl
theorem lk_M_182 : LK "PlaceFinderModel" 182 y_M_pairAt prog_13_method_20_code 4 (some .int) 1 := ⟨co_M_pairAt, ii_M, Or.inl ml_M_182, by decide +kernel⟩
theorem im_M_pairAt : Cond.instanceMethod y_M_pairAt ∈ GW := GW_of (tm6 (List.mem_of_getElem? (i := 27) (by decide +kernel))) rfl
theorem sl_M_pairAt : Cond.selects "PlaceFinderModel" y_M_pairAt y_M_pairAt ∈ GW := GW_of (tm0 (List.mem_of_getElem? (i := 28) (by decide +kernel))) rfl
theorem fd_M_43 : FD "PlaceFinderModel" 43 12 13 := ⟨_, _, _, "PlaceFinderModel", rfl, by decide, uw_M, Or.inl rfl, Or.inl fl_M_43⟩
theorem fd_M_40 : FD "PlaceFinderModel" 40 12 12 := ⟨_, _, _, "PlaceFinderModel", rfl, by decide, uw_M, Or.inl rfl, Or.inl fl_M_40⟩
theorem co_M_classOf : Cond.code y_M_classOf prog_13_method_23_code 1 (some .int) ∈ GW := GW_of (tm6 (List.mem_of_getElem? (i := 39) (by decide +kernel))) rfl
theorem ml_M_185 : Cond.methodLink "PlaceFinderModel" 185 y_M_classOf ∈ GW := GW_of (tm6 (List.mem_of_getElem? (i := 37) (by decide +kernel))) rfl
theorem lk_M_185 : LK "PlaceFinderModel" 185 y_M_classOf prog_13_method_23_code 1 (some .int) 1 := ⟨co_M_classOf, ii_M, Or.inl ml_M_185, by decide +kernel⟩
theorem sc_M_classOf : Cond.static y_M_classOf ∈ GW := GW_of (tm6 (List.mem_of_getElem? (i := 38) (by decide +kernel))) rfl
theorem co_M_foldTyped : Cond.code y_M_foldTyped prog_13_method_21_code 4 none ∈ GW := GW_of (tm6 (List.mem_of_getElem? (i := 24) (by decide +kernel))) rfl
theorem ml_M_188 : Cond.methodLink "PlaceFinderModel" 188 y_M_foldTyped ∈ GW := GW_of (tm6 (List.mem_of_getElem? (i := 21) (by decide +kernel))) rfl
theorem lk_M_188 : LK "PlaceFinderModel" 188 y_M_foldTyped prog_13_method_21_code 4 none 0 := ⟨co_M_foldTyped, ii_M, Or.inl ml_M_188, by decide +kernel⟩
theorem im_M_foldTyped : Cond.instanceMethod y_M_foldTyped ∈ GW := GW_of (tm6 (List.mem_of_getElem? (i := 23) (by decide +kernel))) rfl
theorem sl_M_foldTyped : Cond.selects "PlaceFinderModel" y_M_foldTyped y_M_foldTyped ∈ GW := GW_of (tm0 (List.mem_of_getElem? (i := 27) (by decide +kernel))) rfl
theorem co_M_soundOf : Cond.code y_M_soundOf prog_13_method_24_code 5 (some .int) ∈ GW := GW_of (tm6 (List.mem_of_getElem? (i := 36) (by decide +kernel))) rfl
theorem ml_M_191 : Cond.methodLink "PlaceFinderModel" 191 y_M_soundOf ∈ GW := GW_of (tm6 (List.mem_of_getElem? (i := 33) (by decide +kernel))) rfl
theorem lk_M_191 : LK "PlaceFinderModel" 191 y_M_soundOf prog_13_method_24_code 5 (some .int) 0 := ⟨co_M_soundOf, ii_M, Or.inl ml_M_191, by decide +kernel⟩
theorem im_M_soundOf : Cond.instanceMethod y_M_soundOf ∈ GW := GW_of (tm6 (List.mem_of_getElem? (i := 35) (by decide +kernel))) rfl
theorem sl_M_soundOf : Cond.selects "PlaceFinderModel" y_M_soundOf y_M_soundOf ∈ GW := GW_of (tm0 (List.mem_of_getElem? (i := 30) (by decide +kernel))) rfl
theorem fd_M_31 : FD "PlaceFinderModel" 31 12 9 := ⟨_, _, _, "PlaceFinderModel", rfl, by decide, uw_M, Or.inl rfl, Or.inl fl_M_31⟩
theorem fd_M_34 : FD "PlaceFinderModel" 34 12 10 := ⟨_, _, _, "PlaceFinderModel", rfl, by decide, uw_M, Or.inl rfl, Or.inl fl_M_34⟩
theorem fd_M_37 : FD "PlaceFinderModel" 37 12 11 := ⟨_, _, _, "PlaceFinderModel", rfl, by decide, uw_M, Or.inl rfl, Or.inl fl_M_37⟩
theorem co_M_isSpan : Cond.code y_M_isSpan prog_13_method_6_code 2 (some .boolean) ∈ GW := GW_of (tm6 (List.mem_of_getElem? (i := 46) (by decide +kernel))) rfl
theorem ml_M_195 : Cond.methodLink "PlaceFinderModel" 195 y_M_isSpan ∈ GW := GW_of (tm6 (List.mem_of_getElem? (i := 44) (by decide +kernel))) rfl
theorem lk_M_195 : LK "PlaceFinderModel" 195 y_M_isSpan prog_13_method_6_code 2 (some .boolean) 2 := ⟨co_M_isSpan, ii_M, Or.inl ml_M_195, by decide +kernel⟩
theorem sc_M_isSpan : Cond.static y_M_isSpan ∈ GW := GW_of (tm6 (List.mem_of_getElem? (i := 45) (by decide +kernel))) rfl
theorem fd_M_113 : FD "PlaceFinderModel" 113 12 40 := ⟨_, _, _, "PlaceFinderModel", rfl, by decide, uw_M, Or.inl rfl, Or.inl fl_M_113⟩
theorem co_M_errorsTo : Cond.code y_M_errorsTo prog_13_method_27_code 9 (some .int) ∈ GW := GW_of (tm6 (List.mem_of_getElem? (i := 54) (by decide +kernel))) rfl
theorem ml_M_198 : Cond.methodLink "PlaceFinderModel" 198 y_M_errorsTo ∈ GW := GW_of (tm6 (List.mem_of_getElem? (i := 51) (by decide +kernel))) rfl
theorem lk_M_198 : LK "PlaceFinderModel" 198 y_M_errorsTo prog_13_method_27_code 9 (some .int) 3 := ⟨co_M_errorsTo, ii_M, Or.inl ml_M_198, by decide +kernel⟩
theorem im_M_errorsTo : Cond.instanceMethod y_M_errorsTo ∈ GW := GW_of (tm6 (List.mem_of_getElem? (i := 53) (by decide +kernel))) rfl
theorem sl_M_errorsTo : Cond.selects "PlaceFinderModel" y_M_errorsTo y_M_errorsTo ∈ GW := GW_of (tm0 (List.mem_of_getElem? (i := 31) (by decide +kernel))) rfl
theorem fd_M_46 : FD "PlaceFinderModel" 46 12 14 := ⟨_, _, _, "PlaceFinderModel", rfl, by decide, uw_M, Or.inl rfl, Or.inl fl_M_46⟩
theorem fd_M_52 : FD "PlaceFinderModel" 52 12 16 := ⟨_, _, _, "PlaceFinderModel", rfl, by decide, uw_M, Or.inl rfl, Or.inl fl_M_52⟩
theorem fd_M_55 : FD "PlaceFinderModel" 55 12 17 := ⟨_, _, _, "PlaceFinderModel", rfl, by decide, uw_M, Or.inl rfl, Or.inl fl_M_55⟩
theorem fd_M_49 : FD "PlaceFinderModel" 49 12 15 := ⟨_, _, _, "PlaceFinderModel", rfl, by decide, uw_M, Or.inl rfl, Or.inl fl_M_49⟩
theorem co_M_parentOf : Cond.code y_M_parentOf prog_13_method_29_code 5 (some .int) ∈ GW := GW_of (tm6 (List.mem_of_getElem? (i := 66) (by decide +kernel))) rfl
theorem ml_M_202 : Cond.methodLink "PlaceFinderModel" 202 y_M_parentOf ∈ GW := GW_of (tm6 (List.mem_of_getElem? (i := 63) (by decide +kernel))) rfl
theorem lk_M_202 : LK "PlaceFinderModel" 202 y_M_parentOf prog_13_method_29_code 5 (some .int) 2 := ⟨co_M_parentOf, ii_M, Or.inl ml_M_202, by decide +kernel⟩
theorem im_M_parentOf : Cond.instanceMethod y_M_parentOf ∈ GW := GW_of (tm6 (List.mem_of_getElem? (i := 65) (by decide +kernel))) rfl
theorem sl_M_parentOf : Cond.selects "PlaceFinderModel" y_M_parentOf y_M_parentOf ∈ GW := GW_of (tm0 (List.mem_of_getElem? (i := 33) (by decide +kernel))) rfl
theorem co_M_isAbove : Cond.code y_M_isAbove prog_13_method_30_code 6 (some .boolean) ∈ GW := GW_of (tm6 (List.mem_of_getElem? (i := 62) (by decide +kernel))) rfl
theorem ml_M_205 : Cond.methodLink "PlaceFinderModel" 205 y_M_isAbove ∈ GW := GW_of (tm6 (List.mem_of_getElem? (i := 59) (by decide +kernel))) rfl
theorem lk_M_205 : LK "PlaceFinderModel" 205 y_M_isAbove prog_13_method_30_code 6 (some .boolean) 3 := ⟨co_M_isAbove, ii_M, Or.inl ml_M_205, by decide +kernel⟩
theorem im_M_isAbove : Cond.instanceMethod y_M_isAbove ∈ GW := GW_of (tm6 (List.mem_of_getElem? (i := 61) (by decide +kernel))) rfl
theorem sl_M_isAbove : Cond.selects "PlaceFinderModel" y_M_isAbove y_M_isAbove ∈ GW := GW_of (tm0 (List.mem_of_getElem? (i := 32) (by decide +kernel))) rfl
theorem fd_M_67 : FD "PlaceFinderModel" 67 12 23 := ⟨_, _, _, "PlaceFinderModel", rfl, by decide, uw_M, Or.inl rfl, Or.inl fl_M_67⟩
theorem fd_M_85 : FD "PlaceFinderModel" 85 12 29 := ⟨_, _, _, "PlaceFinderModel", rfl, by decide, uw_M, Or.inl rfl, Or.inl fl_M_85⟩
theorem fd_M_70 : FD "PlaceFinderModel" 70 12 24 := ⟨_, _, _, "PlaceFinderModel", rfl, by decide, uw_M, Or.inl rfl, Or.inl fl_M_70⟩
theorem fd_M_73 : FD "PlaceFinderModel" 73 12 25 := ⟨_, _, _, "PlaceFinderModel", rfl, by decide, uw_M, Or.inl rfl, Or.inl fl_M_73⟩
theorem fd_M_76 : FD "PlaceFinderModel" 76 12 26 := ⟨_, _, _, "PlaceFinderModel", rfl, by decide, uw_M, Or.inl rfl, Or.inl fl_M_76⟩
theorem fd_M_79 : FD "PlaceFinderModel" 79 12 27 := ⟨_, _, _, "PlaceFinderModel", rfl, by decide, uw_M, Or.inl rfl, Or.inl fl_M_79⟩
theorem fd_M_82 : FD "PlaceFinderModel" 82 12 28 := ⟨_, _, _, "PlaceFinderModel", rfl, by decide, uw_M, Or.inl rfl, Or.inl fl_M_82⟩
theorem co_M_foldName : Cond.code y_M_foldName prog_13_method_22_code 3 none ∈ GW := GW_of (tm6 (List.mem_of_getElem? (i := 110) (by decide +kernel))) rfl
theorem ml_M_208 : Cond.methodLink "PlaceFinderModel" 208 y_M_foldName ∈ GW := GW_of (tm6 (List.mem_of_getElem? (i := 107) (by decide +kernel))) rfl
theorem lk_M_208 : LK "PlaceFinderModel" 208 y_M_foldName prog_13_method_22_code 3 none 1 := ⟨co_M_foldName, ii_M, Or.inl ml_M_208, by decide +kernel⟩
theorem im_M_foldName : Cond.instanceMethod y_M_foldName ∈ GW := GW_of (tm6 (List.mem_of_getElem? (i := 109) (by decide +kernel))) rfl
theorem sl_M_foldName : Cond.selects "PlaceFinderModel" y_M_foldName y_M_foldName ∈ GW := GW_of (tm0 (List.mem_of_getElem? (i := 39) (by decide +kernel))) rfl
theorem co_M_isOf : Cond.code y_M_isOf prog_13_method_37_code 3 (some .boolean) ∈ GW := GW_of (tm6 (List.mem_of_getElem? (i := 102) (by decide +kernel))) rfl
theorem ml_M_212 : Cond.methodLink "PlaceFinderModel" 212 y_M_isOf ∈ GW := GW_of (tm6 (List.mem_of_getElem? (i := 99) (by decide +kernel))) rfl
theorem lk_M_212 : LK "PlaceFinderModel" 212 y_M_isOf prog_13_method_37_code 3 (some .boolean) 2 := ⟨co_M_isOf, ii_M, Or.inl ml_M_212, by decide +kernel⟩
theorem im_M_isOf : Cond.instanceMethod y_M_isOf ∈ GW := GW_of (tm6 (List.mem_of_getElem? (i := 101) (by decide +kernel))) rfl
theorem sl_M_isOf : Cond.selects "PlaceFinderModel" y_M_isOf y_M_isOf ∈ GW := GW_of (tm0 (List.mem_of_getElem? (i := 37) (by decide +kernel))) rfl
theorem co_M_isNamed : Cond.code y_M_isNamed prog_13_method_36_code 7 (some .boolean) ∈ GW := GW_of (tm6 (List.mem_of_getElem? (i := 106) (by decide +kernel))) rfl
theorem ml_M_215 : Cond.methodLink "PlaceFinderModel" 215 y_M_isNamed ∈ GW := GW_of (tm6 (List.mem_of_getElem? (i := 103) (by decide +kernel))) rfl
theorem lk_M_215 : LK "PlaceFinderModel" 215 y_M_isNamed prog_13_method_36_code 7 (some .boolean) 2 := ⟨co_M_isNamed, ii_M, Or.inl ml_M_215, by decide +kernel⟩
theorem im_M_isNamed : Cond.instanceMethod y_M_isNamed ∈ GW := GW_of (tm6 (List.mem_of_getElem? (i := 105) (by decide +kernel))) rfl
theorem sl_M_isNamed : Cond.selects "PlaceFinderModel" y_M_isNamed y_M_isNamed ∈ GW := GW_of (tm0 (List.mem_of_getElem? (i := 38) (by decide +kernel))) rfl
theorem fl_M_225 : Cond.fieldLink "PlaceFinderModel" 225 "PlaceFinderModel" "farUp" "J" ∈ GW := GW_of (tm5 (List.mem_of_getElem? (i := 75) (by decide +kernel))) rfl
theorem fp_M_225 : FP "PlaceFinderModel" 225 12 41 .long false := ⟨_, _, _, "PlaceFinderModel", t_M, rfl, by decide, uw_M, Or.inl rfl, t_M_ok, n_M, rfl, rfl, Or.inl ⟨fl_M_225, fun _ => rfl⟩⟩
theorem fl_M_228 : Cond.fieldLink "PlaceFinderModel" 228 "PlaceFinderModel" "alongUp" "J" ∈ GW := GW_of (tm5 (List.mem_of_getElem? (i := 77) (by decide +kernel))) rfl
theorem fp_M_228 : FP "PlaceFinderModel" 228 12 43 .long false := ⟨_, _, _, "PlaceFinderModel", t_M, rfl, by decide, uw_M, Or.inl rfl, t_M_ok, n_M, rfl, rfl, Or.inl ⟨fl_M_228, fun _ => rfl⟩⟩
theorem fl_M_218 : Cond.fieldLink "PlaceFinderModel" 218 "PlaceFinderModel" "alongDown" "J" ∈ GW := GW_of (tm5 (List.mem_of_getElem? (i := 78) (by decide +kernel))) rfl
theorem fp_M_218 : FP "PlaceFinderModel" 218 12 44 .long false := ⟨_, _, _, "PlaceFinderModel", t_M, rfl, by decide, uw_M, Or.inl rfl, t_M_ok, n_M, rfl, rfl, Or.inl ⟨fl_M_218, fun _ => rfl⟩⟩
theorem fl_M_222 : Cond.fieldLink "PlaceFinderModel" 222 "PlaceFinderModel" "farDown" "J" ∈ GW := GW_of (tm5 (List.mem_of_getElem? (i := 76) (by decide +kernel))) rfl
theorem fp_M_222 : FP "PlaceFinderModel" 222 12 42 .long false := ⟨_, _, _, "PlaceFinderModel", t_M, rfl, by decide, uw_M, Or.inl rfl, t_M_ok, n_M, rfl, rfl, Or.inl ⟨fl_M_222, fun _ => rfl⟩⟩
theorem fd_M_228 : FD "PlaceFinderModel" 228 12 43 := ⟨_, _, _, "PlaceFinderModel", rfl, by decide, uw_M, Or.inl rfl, Or.inl fl_M_228⟩
theorem fd_M_218 : FD "PlaceFinderModel" 218 12 44 := ⟨_, _, _, "PlaceFinderModel", rfl, by decide, uw_M, Or.inl rfl, Or.inl fl_M_218⟩
theorem fl_M_244 : Cond.fieldLink "PlaceFinderModel" 244 "PlaceFinderModel" "placeUp" "J" ∈ GW := GW_of (tm5 (List.mem_of_getElem? (i := 81) (by decide +kernel))) rfl
theorem fd_M_244 : FD "PlaceFinderModel" 244 12 47 := ⟨_, _, _, "PlaceFinderModel", rfl, by decide, uw_M, Or.inl rfl, Or.inl fl_M_244⟩
theorem fl_M_247 : Cond.fieldLink "PlaceFinderModel" 247 "PlaceFinderModel" "placeDown" "J" ∈ GW := GW_of (tm5 (List.mem_of_getElem? (i := 82) (by decide +kernel))) rfl
theorem fd_M_247 : FD "PlaceFinderModel" 247 12 48 := ⟨_, _, _, "PlaceFinderModel", rfl, by decide, uw_M, Or.inl rfl, Or.inl fl_M_247⟩
theorem co_M_compareFractions : Cond.code y_M_compareFractions prog_13_method_41_code 21 (some .int) ∈ GW := GW_of (tm6 (List.mem_of_getElem? (i := 137) (by decide +kernel))) rfl
theorem ml_M_240 : Cond.methodLink "PlaceFinderModel" 240 y_M_compareFractions ∈ GW := GW_of (tm6 (List.mem_of_getElem? (i := 135) (by decide +kernel))) rfl
theorem lk_M_240 : LK "PlaceFinderModel" 240 y_M_compareFractions prog_13_method_41_code 21 (some .int) 4 := ⟨co_M_compareFractions, ii_M, Or.inl ml_M_240, by decide +kernel⟩
theorem sc_M_compareFractions : Cond.static y_M_compareFractions ∈ GW := GW_of (tm6 (List.mem_of_getElem? (i := 136) (by decide +kernel))) rfl
theorem fl_M_231 : Cond.fieldLink "PlaceFinderModel" 231 "PlaceFinderModel" "nearSide" "I" ∈ GW := GW_of (tm5 (List.mem_of_getElem? (i := 83) (by decide +kernel))) rfl
theorem fd_M_231 : FD "PlaceFinderModel" 231 12 49 := ⟨_, _, _, "PlaceFinderModel", rfl, by decide, uw_M, Or.inl rfl, Or.inl fl_M_231⟩
theorem fd_M_225 : FD "PlaceFinderModel" 225 12 41 := ⟨_, _, _, "PlaceFinderModel", rfl, by decide, uw_M, Or.inl rfl, Or.inl fl_M_225⟩
theorem fd_M_222 : FD "PlaceFinderModel" 222 12 42 := ⟨_, _, _, "PlaceFinderModel", rfl, by decide, uw_M, Or.inl rfl, Or.inl fl_M_222⟩
theorem fl_M_234 : Cond.fieldLink "PlaceFinderModel" 234 "PlaceFinderModel" "nearUp" "J" ∈ GW := GW_of (tm5 (List.mem_of_getElem? (i := 79) (by decide +kernel))) rfl
theorem fd_M_234 : FD "PlaceFinderModel" 234 12 45 := ⟨_, _, _, "PlaceFinderModel", rfl, by decide, uw_M, Or.inl rfl, Or.inl fl_M_234⟩
theorem fl_M_237 : Cond.fieldLink "PlaceFinderModel" 237 "PlaceFinderModel" "nearDown" "J" ∈ GW := GW_of (tm5 (List.mem_of_getElem? (i := 80) (by decide +kernel))) rfl
theorem fd_M_237 : FD "PlaceFinderModel" 237 12 46 := ⟨_, _, _, "PlaceFinderModel", rfl, by decide, uw_M, Or.inl rfl, Or.inl fl_M_237⟩
theorem co_M_measure : Cond.code y_M_measure prog_13_method_42_code 17 none ∈ GW := GW_of (tm6 (List.mem_of_getElem? (i := 130) (by decide +kernel))) rfl
theorem ml_M_250 : Cond.methodLink "PlaceFinderModel" 250 y_M_measure ∈ GW := GW_of (tm6 (List.mem_of_getElem? (i := 127) (by decide +kernel))) rfl
theorem lk_M_250 : LK "PlaceFinderModel" 250 y_M_measure prog_13_method_42_code 17 none 6 := ⟨co_M_measure, ii_M, Or.inl ml_M_250, by decide +kernel⟩
theorem im_M_measure : Cond.instanceMethod y_M_measure ∈ GW := GW_of (tm6 (List.mem_of_getElem? (i := 129) (by decide +kernel))) rfl
theorem sl_M_measure : Cond.selects "PlaceFinderModel" y_M_measure y_M_measure ∈ GW := GW_of (tm0 (List.mem_of_getElem? (i := 44) (by decide +kernel))) rfl
theorem co_M_isNearer : Cond.code y_M_isNearer prog_13_method_43_code 3 (some .boolean) ∈ GW := GW_of (tm6 (List.mem_of_getElem? (i := 134) (by decide +kernel))) rfl
theorem ml_M_254 : Cond.methodLink "PlaceFinderModel" 254 y_M_isNearer ∈ GW := GW_of (tm6 (List.mem_of_getElem? (i := 131) (by decide +kernel))) rfl
theorem lk_M_254 : LK "PlaceFinderModel" 254 y_M_isNearer prog_13_method_43_code 3 (some .boolean) 1 := ⟨co_M_isNearer, ii_M, Or.inl ml_M_254, by decide +kernel⟩
theorem im_M_isNearer : Cond.instanceMethod y_M_isNearer ∈ GW := GW_of (tm6 (List.mem_of_getElem? (i := 133) (by decide +kernel))) rfl
theorem sl_M_isNearer : Cond.selects "PlaceFinderModel" y_M_isNearer y_M_isNearer ∈ GW := GW_of (tm0 (List.mem_of_getElem? (i := 45) (by decide +kernel))) rfl
theorem fp_M_231 : FP "PlaceFinderModel" 231 12 49 .int false := ⟨_, _, _, "PlaceFinderModel", t_M, rfl, by decide, uw_M, Or.inl rfl, t_M_ok, n_M, rfl, rfl, Or.inl ⟨fl_M_231, fun _ => rfl⟩⟩
theorem fp_M_234 : FP "PlaceFinderModel" 234 12 45 .long false := ⟨_, _, _, "PlaceFinderModel", t_M, rfl, by decide, uw_M, Or.inl rfl, t_M_ok, n_M, rfl, rfl, Or.inl ⟨fl_M_234, fun _ => rfl⟩⟩
theorem fp_M_237 : FP "PlaceFinderModel" 237 12 46 .long false := ⟨_, _, _, "PlaceFinderModel", t_M, rfl, by decide, uw_M, Or.inl rfl, t_M_ok, n_M, rfl, rfl, Or.inl ⟨fl_M_237, fun _ => rfl⟩⟩
theorem fp_M_244 : FP "PlaceFinderModel" 244 12 47 .long false := ⟨_, _, _, "PlaceFinderModel", t_M, rfl, by decide, uw_M, Or.inl rfl, t_M_ok, n_M, rfl, rfl, Or.inl ⟨fl_M_244, fun _ => rfl⟩⟩
theorem fp_M_247 : FP "PlaceFinderModel" 247 12 48 .long false := ⟨_, _, _, "PlaceFinderModel", t_M, rfl, by decide, uw_M, Or.inl rfl, t_M_ok, n_M, rfl, rfl, Or.inl ⟨fl_M_247, fun _ => rfl⟩⟩
theorem co_M_nearest : Cond.code y_M_nearest prog_13_method_44_code 8 none ∈ GW := GW_of (tm6 (List.mem_of_getElem? (i := 126) (by decide +kernel))) rfl
theorem ml_M_257 : Cond.methodLink "PlaceFinderModel" 257 y_M_nearest ∈ GW := GW_of (tm6 (List.mem_of_getElem? (i := 123) (by decide +kernel))) rfl
theorem lk_M_257 : LK "PlaceFinderModel" 257 y_M_nearest prog_13_method_44_code 8 none 3 := ⟨co_M_nearest, ii_M, Or.inl ml_M_257, by decide +kernel⟩
theorem im_M_nearest : Cond.instanceMethod y_M_nearest ∈ GW := GW_of (tm6 (List.mem_of_getElem? (i := 125) (by decide +kernel))) rfl
theorem sl_M_nearest : Cond.selects "PlaceFinderModel" y_M_nearest y_M_nearest ∈ GW := GW_of (tm0 (List.mem_of_getElem? (i := 43) (by decide +kernel))) rfl
theorem co_M_isOnRoute : Cond.code y_M_isOnRoute prog_13_method_45_code 5 (some .boolean) ∈ GW := GW_of (tm6 (List.mem_of_getElem? (i := 122) (by decide +kernel))) rfl
theorem ml_M_274 : Cond.methodLink "PlaceFinderModel" 274 y_M_isOnRoute ∈ GW := GW_of (tm6 (List.mem_of_getElem? (i := 119) (by decide +kernel))) rfl
theorem lk_M_274 : LK "PlaceFinderModel" 274 y_M_isOnRoute prog_13_method_45_code 5 (some .boolean) 4 := ⟨co_M_isOnRoute, ii_M, Or.inl ml_M_274, by decide +kernel⟩
theorem im_M_isOnRoute : Cond.instanceMethod y_M_isOnRoute ∈ GW := GW_of (tm6 (List.mem_of_getElem? (i := 121) (by decide +kernel))) rfl
theorem sl_M_isOnRoute : Cond.selects "PlaceFinderModel" y_M_isOnRoute y_M_isOnRoute ∈ GW := GW_of (tm0 (List.mem_of_getElem? (i := 42) (by decide +kernel))) rfl
theorem co_M_square : Cond.code y_M_square prog_13_method_40_code 10 (some .int) ∈ GW := GW_of (tm6 (List.mem_of_getElem? (i := 118) (by decide +kernel))) rfl
theorem ml_M_270 : Cond.methodLink "PlaceFinderModel" 270 y_M_square ∈ GW := GW_of (tm6 (List.mem_of_getElem? (i := 115) (by decide +kernel))) rfl
theorem lk_M_270 : LK "PlaceFinderModel" 270 y_M_square prog_13_method_40_code 10 (some .int) 4 := ⟨co_M_square, ii_M, Or.inl ml_M_270, by decide +kernel⟩
theorem im_M_square : Cond.instanceMethod y_M_square ∈ GW := GW_of (tm6 (List.mem_of_getElem? (i := 117) (by decide +kernel))) rfl
theorem sl_M_square : Cond.selects "PlaceFinderModel" y_M_square y_M_square ∈ GW := GW_of (tm0 (List.mem_of_getElem? (i := 41) (by decide +kernel))) rfl
theorem co_M_isInside : Cond.code y_M_isInside prog_13_method_39_code 8 (some .boolean) ∈ GW := GW_of (tm6 (List.mem_of_getElem? (i := 114) (by decide +kernel))) rfl
theorem ml_M_267 : Cond.methodLink "PlaceFinderModel" 267 y_M_isInside ∈ GW := GW_of (tm6 (List.mem_of_getElem? (i := 111) (by decide +kernel))) rfl
theorem lk_M_267 : LK "PlaceFinderModel" 267 y_M_isInside prog_13_method_39_code 8 (some .boolean) 3 := ⟨co_M_isInside, ii_M, Or.inl ml_M_267, by decide +kernel⟩
theorem im_M_isInside : Cond.instanceMethod y_M_isInside ∈ GW := GW_of (tm6 (List.mem_of_getElem? (i := 113) (by decide +kernel))) rfl
theorem sl_M_isInside : Cond.selects "PlaceFinderModel" y_M_isInside y_M_isInside ∈ GW := GW_of (tm0 (List.mem_of_getElem? (i := 40) (by decide +kernel))) rfl
theorem co_M_hasName : Cond.code y_M_hasName prog_13_method_38_code 6 (some .boolean) ∈ GW := GW_of (tm6 (List.mem_of_getElem? (i := 98) (by decide +kernel))) rfl
theorem ml_M_264 : Cond.methodLink "PlaceFinderModel" 264 y_M_hasName ∈ GW := GW_of (tm6 (List.mem_of_getElem? (i := 95) (by decide +kernel))) rfl
theorem lk_M_264 : LK "PlaceFinderModel" 264 y_M_hasName prog_13_method_38_code 6 (some .boolean) 3 := ⟨co_M_hasName, ii_M, Or.inl ml_M_264, by decide +kernel⟩
theorem im_M_hasName : Cond.instanceMethod y_M_hasName ∈ GW := GW_of (tm6 (List.mem_of_getElem? (i := 97) (by decide +kernel))) rfl
theorem sl_M_hasName : Cond.selects "PlaceFinderModel" y_M_hasName y_M_hasName ∈ GW := GW_of (tm0 (List.mem_of_getElem? (i := 36) (by decide +kernel))) rfl
theorem co_M_isThere : Cond.code y_M_isThere prog_13_method_14_code 3 (some .boolean) ∈ GW := GW_of (tm6 (List.mem_of_getElem? (i := 94) (by decide +kernel))) rfl
theorem ml_M_261 : Cond.methodLink "PlaceFinderModel" 261 y_M_isThere ∈ GW := GW_of (tm6 (List.mem_of_getElem? (i := 91) (by decide +kernel))) rfl
theorem lk_M_261 : LK "PlaceFinderModel" 261 y_M_isThere prog_13_method_14_code 3 (some .boolean) 2 := ⟨co_M_isThere, ii_M, Or.inl ml_M_261, by decide +kernel⟩
theorem im_M_isThere : Cond.instanceMethod y_M_isThere ∈ GW := GW_of (tm6 (List.mem_of_getElem? (i := 93) (by decide +kernel))) rfl
theorem sl_M_isThere : Cond.selects "PlaceFinderModel" y_M_isThere y_M_isThere ∈ GW := GW_of (tm0 (List.mem_of_getElem? (i := 35) (by decide +kernel))) rfl
theorem fd_M_122 : FD "PlaceFinderModel" 122 12 52 := ⟨_, _, _, "PlaceFinderModel", rfl, by decide, uw_M, Or.inl rfl, Or.inl fl_M_122⟩
theorem fd_M_125 : FD "PlaceFinderModel" 125 12 53 := ⟨_, _, _, "PlaceFinderModel", rfl, by decide, uw_M, Or.inl rfl, Or.inl fl_M_125⟩
theorem fd_M_129 : FD "PlaceFinderModel" 129 12 54 := ⟨_, _, _, "PlaceFinderModel", rfl, by decide, uw_M, Or.inl rfl, Or.inl fl_M_129⟩
theorem co_M_firstCondition : Cond.code y_M_firstCondition prog_13_method_48_code 5 (some .int) ∈ GW := GW_of (tm6 (List.mem_of_getElem? (i := 145) (by decide +kernel))) rfl
theorem ml_M_278 : Cond.methodLink "PlaceFinderModel" 278 y_M_firstCondition ∈ GW := GW_of (tm6 (List.mem_of_getElem? (i := 142) (by decide +kernel))) rfl
theorem lk_M_278 : LK "PlaceFinderModel" 278 y_M_firstCondition prog_13_method_48_code 5 (some .int) 2 := ⟨co_M_firstCondition, ii_M, Or.inl ml_M_278, by decide +kernel⟩
theorem im_M_firstCondition : Cond.instanceMethod y_M_firstCondition ∈ GW := GW_of (tm6 (List.mem_of_getElem? (i := 144) (by decide +kernel))) rfl
theorem sl_M_firstCondition : Cond.selects "PlaceFinderModel" y_M_firstCondition y_M_firstCondition ∈ GW := GW_of (tm0 (List.mem_of_getElem? (i := 47) (by decide +kernel))) rfl
theorem fd_M_119 : FD "PlaceFinderModel" 119 12 51 := ⟨_, _, _, "PlaceFinderModel", rfl, by decide, uw_M, Or.inl rfl, Or.inl fl_M_119⟩
theorem fd_M_116 : FD "PlaceFinderModel" 116 12 50 := ⟨_, _, _, "PlaceFinderModel", rfl, by decide, uw_M, Or.inl rfl, Or.inl fl_M_116⟩
theorem co_M_compareWords : Cond.code y_M_compareWords prog_13_method_47_code 4 (some .int) ∈ GW := GW_of (tm6 (List.mem_of_getElem? (i := 149) (by decide +kernel))) rfl
theorem ml_M_281 : Cond.methodLink "PlaceFinderModel" 281 y_M_compareWords ∈ GW := GW_of (tm6 (List.mem_of_getElem? (i := 146) (by decide +kernel))) rfl
theorem lk_M_281 : LK "PlaceFinderModel" 281 y_M_compareWords prog_13_method_47_code 4 (some .int) 2 := ⟨co_M_compareWords, ii_M, Or.inl ml_M_281, by decide +kernel⟩
theorem im_M_compareWords : Cond.instanceMethod y_M_compareWords ∈ GW := GW_of (tm6 (List.mem_of_getElem? (i := 148) (by decide +kernel))) rfl
theorem sl_M_compareWords : Cond.selects "PlaceFinderModel" y_M_compareWords y_M_compareWords ∈ GW := GW_of (tm0 (List.mem_of_getElem? (i := 48) (by decide +kernel))) rfl
theorem fd_M_107 : FD "PlaceFinderModel" 107 12 37 := ⟨_, _, _, "PlaceFinderModel", rfl, by decide, uw_M, Or.inl rfl, Or.inl fl_M_107⟩
theorem fl_M_284 : Cond.fieldLink "PlaceFinderModel" 284 "PlaceFinderModel" "found" "I" ∈ GW := GW_of (tm5 (List.mem_of_getElem? (i := 70) (by decide +kernel))) rfl
theorem fd_M_284 : FD "PlaceFinderModel" 284 12 36 := ⟨_, _, _, "PlaceFinderModel", rfl, by decide, uw_M, Or.inl rfl, Or.inl fl_M_284⟩
theorem fp_M_284 : FP "PlaceFinderModel" 284 12 36 .int false := ⟨_, _, _, "PlaceFinderModel", t_M, rfl, by decide, uw_M, Or.inl rfl, t_M_ok, n_M, rfl, rfl, Or.inl ⟨fl_M_284, fun _ => rfl⟩⟩
theorem co_M_compareKeys : Cond.code y_M_compareKeys prog_13_method_50_code 6 (some .int) ∈ GW := GW_of (tm6 (List.mem_of_getElem? (i := 157) (by decide +kernel))) rfl
theorem ml_M_287 : Cond.methodLink "PlaceFinderModel" 287 y_M_compareKeys ∈ GW := GW_of (tm6 (List.mem_of_getElem? (i := 154) (by decide +kernel))) rfl
theorem lk_M_287 : LK "PlaceFinderModel" 287 y_M_compareKeys prog_13_method_50_code 6 (some .int) 3 := ⟨co_M_compareKeys, ii_M, Or.inl ml_M_287, by decide +kernel⟩
theorem im_M_compareKeys : Cond.instanceMethod y_M_compareKeys ∈ GW := GW_of (tm6 (List.mem_of_getElem? (i := 156) (by decide +kernel))) rfl
theorem sl_M_compareKeys : Cond.selects "PlaceFinderModel" y_M_compareKeys y_M_compareKeys ∈ GW := GW_of (tm0 (List.mem_of_getElem? (i := 50) (by decide +kernel))) rfl
theorem co_M_meets : Cond.code y_M_meets prog_13_method_46_code 9 (some .boolean) ∈ GW := GW_of (tm6 (List.mem_of_getElem? (i := 90) (by decide +kernel))) rfl
theorem ml_M_291 : Cond.methodLink "PlaceFinderModel" 291 y_M_meets ∈ GW := GW_of (tm6 (List.mem_of_getElem? (i := 87) (by decide +kernel))) rfl
theorem lk_M_291 : LK "PlaceFinderModel" 291 y_M_meets prog_13_method_46_code 9 (some .boolean) 3 := ⟨co_M_meets, ii_M, Or.inl ml_M_291, by decide +kernel⟩
theorem im_M_meets : Cond.instanceMethod y_M_meets ∈ GW := GW_of (tm6 (List.mem_of_getElem? (i := 89) (by decide +kernel))) rfl
theorem sl_M_meets : Cond.selects "PlaceFinderModel" y_M_meets y_M_meets ∈ GW := GW_of (tm0 (List.mem_of_getElem? (i := 34) (by decide +kernel))) rfl
theorem co_M_makeKeys : Cond.code y_M_makeKeys prog_13_method_49_code 7 none ∈ GW := GW_of (tm6 (List.mem_of_getElem? (i := 141) (by decide +kernel))) rfl
theorem ml_M_294 : Cond.methodLink "PlaceFinderModel" 294 y_M_makeKeys ∈ GW := GW_of (tm6 (List.mem_of_getElem? (i := 138) (by decide +kernel))) rfl
theorem lk_M_294 : LK "PlaceFinderModel" 294 y_M_makeKeys prog_13_method_49_code 7 none 3 := ⟨co_M_makeKeys, ii_M, Or.inl ml_M_294, by decide +kernel⟩
theorem im_M_makeKeys : Cond.instanceMethod y_M_makeKeys ∈ GW := GW_of (tm6 (List.mem_of_getElem? (i := 140) (by decide +kernel))) rfl
theorem sl_M_makeKeys : Cond.selects "PlaceFinderModel" y_M_makeKeys y_M_makeKeys ∈ GW := GW_of (tm0 (List.mem_of_getElem? (i := 46) (by decide +kernel))) rfl
theorem co_M_insert : Cond.code y_M_insert prog_13_method_51_code 4 none ∈ GW := GW_of (tm6 (List.mem_of_getElem? (i := 153) (by decide +kernel))) rfl
theorem ml_M_297 : Cond.methodLink "PlaceFinderModel" 297 y_M_insert ∈ GW := GW_of (tm6 (List.mem_of_getElem? (i := 150) (by decide +kernel))) rfl
theorem lk_M_297 : LK "PlaceFinderModel" 297 y_M_insert prog_13_method_51_code 4 none 2 := ⟨co_M_insert, ii_M, Or.inl ml_M_297, by decide +kernel⟩
theorem im_M_insert : Cond.instanceMethod y_M_insert ∈ GW := GW_of (tm6 (List.mem_of_getElem? (i := 152) (by decide +kernel))) rfl
theorem sl_M_insert : Cond.selects "PlaceFinderModel" y_M_insert y_M_insert ∈ GW := GW_of (tm0 (List.mem_of_getElem? (i := 49) (by decide +kernel))) rfl
theorem fd_M_97 : FD "PlaceFinderModel" 97 12 33 := ⟨_, _, _, "PlaceFinderModel", rfl, by decide, uw_M, Or.inl rfl, Or.inl fl_M_97⟩
theorem fd_M_100 : FD "PlaceFinderModel" 100 12 34 := ⟨_, _, _, "PlaceFinderModel", rfl, by decide, uw_M, Or.inl rfl, Or.inl fl_M_100⟩
theorem fd_M_104 : FD "PlaceFinderModel" 104 12 35 := ⟨_, _, _, "PlaceFinderModel", rfl, by decide, uw_M, Or.inl rfl, Or.inl fl_M_104⟩
theorem co_M_isWatch : Cond.code y_M_isWatch prog_13_method_56_code 2 (some .boolean) ∈ GW := GW_of (tm6 (List.mem_of_getElem? (i := 177) (by decide +kernel))) rfl
theorem ml_M_301 : Cond.methodLink "PlaceFinderModel" 301 y_M_isWatch ∈ GW := GW_of (tm6 (List.mem_of_getElem? (i := 174) (by decide +kernel))) rfl
theorem lk_M_301 : LK "PlaceFinderModel" 301 y_M_isWatch prog_13_method_56_code 2 (some .boolean) 1 := ⟨co_M_isWatch, ii_M, Or.inl ml_M_301, by decide +kernel⟩
theorem im_M_isWatch : Cond.instanceMethod y_M_isWatch ∈ GW := GW_of (tm6 (List.mem_of_getElem? (i := 176) (by decide +kernel))) rfl
theorem sl_M_isWatch : Cond.selects "PlaceFinderModel" y_M_isWatch y_M_isWatch ∈ GW := GW_of (tm0 (List.mem_of_getElem? (i := 51) (by decide +kernel))) rfl
end
