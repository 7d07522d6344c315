section
-- ===== PART A: goes FIRST, ahead of the names: the tables' words, and 'selects' of the private methods out of them =====
/-- a private method of a class that the tables say can be made, by its rows of tables_1 -/
def lw_okq (q : MethodName × Nat) : Prop := (q.1.cls ≠ "java/lang/invoke/MethodHandle" ∧ q.1.cls ≠ "java/lang/invoke/VarHandle") ∧ Cond.instantiable q.1.cls q.2 ∈ tables_1 ∧ Cond.privateMethod q.1 ∈ tables_1 ∧ Cond.instanceMethod q.1 ∈ tables_1
theorem lw_p0 : lw_okq (⟨"PlaceFinder$Word", "soundClass", "(I)I"⟩, 2) := ⟨⟨by decide +kernel, by decide +kernel⟩, List.mem_of_getElem? (i := 167) (by decide +kernel), List.mem_of_getElem? (i := 274) (by decide +kernel), List.mem_of_getElem? (i := 275) (by decide +kernel)⟩
theorem lw_p1 : lw_okq (⟨"java/lang/Throwable", "fillInStackTrace", "(I)Ljava/lang/Throwable;"⟩, 6) := ⟨⟨by decide +kernel, by decide +kernel⟩, List.mem_of_getElem? (i := 372) (by decide +kernel), List.mem_of_getElem? (i := 370) (by decide +kernel), List.mem_of_getElem? (i := 371) (by decide +kernel)⟩
theorem lw_p2 : lw_okq (⟨"java/util/ArrayList", "add", "(Ljava/lang/Object;[Ljava/lang/Object;I)V"⟩, 3) := ⟨⟨by decide +kernel, by decide +kernel⟩, List.mem_of_getElem? (i := 44) (by decide +kernel), List.mem_of_getElem? (i := 460) (by decide +kernel), List.mem_of_getElem? (i := 461) (by decide +kernel)⟩
theorem lw_p3 : lw_okq (⟨"java/util/ArrayList", "grow", "()[Ljava/lang/Object;"⟩, 3) := ⟨⟨by decide +kernel, by decide +kernel⟩, List.mem_of_getElem? (i := 44) (by decide +kernel), List.mem_of_getElem? (i := 464) (by decide +kernel), List.mem_of_getElem? (i := 465) (by decide +kernel)⟩
theorem lw_p4 : lw_okq (⟨"java/util/ArrayList", "grow", "(I)[Ljava/lang/Object;"⟩, 3) := ⟨⟨by decide +kernel, by decide +kernel⟩, List.mem_of_getElem? (i := 44) (by decide +kernel), List.mem_of_getElem? (i := 468) (by decide +kernel), List.mem_of_getElem? (i := 469) (by decide +kernel)⟩
theorem lw_p5 : lw_okq (⟨"PlaceFinder", "placeOf", "(I)LPlaceFinder$Place;"⟩, 13) := ⟨⟨by decide +kernel, by decide +kernel⟩, List.mem_of_getElem? (i := 36) (by decide +kernel), List.mem_of_getElem? (i := 534) (by decide +kernel), List.mem_of_getElem? (i := 535) (by decide +kernel)⟩
theorem lw_p6 : lw_okq (⟨"PlaceFinder$Corners", "doubledSurface", "()I"⟩, 3) := ⟨⟨by decide +kernel, by decide +kernel⟩, List.mem_of_getElem? (i := 70) (by decide +kernel), List.mem_of_getElem? (i := 562) (by decide +kernel), List.mem_of_getElem? (i := 563) (by decide +kernel)⟩
theorem lw_p7 : lw_okq (⟨"PlaceFinder$Corners", "following", "(I)I"⟩, 3) := ⟨⟨by decide +kernel, by decide +kernel⟩, List.mem_of_getElem? (i := 70) (by decide +kernel), List.mem_of_getElem? (i := 566) (by decide +kernel), List.mem_of_getElem? (i := 567) (by decide +kernel)⟩
theorem lw_p8 : lw_okq (⟨"PlaceFinder", "areCondition", "(IIII)Z"⟩, 13) := ⟨⟨by decide +kernel, by decide +kernel⟩, List.mem_of_getElem? (i := 36) (by decide +kernel), List.mem_of_getElem? (i := 691) (by decide +kernel), List.mem_of_getElem? (i := 692) (by decide +kernel)⟩
theorem lw_p9 : lw_okq (⟨"PlaceFinder", "firstNameCondition", "()LPlaceFinder$Condition;"⟩, 13) := ⟨⟨by decide +kernel, by decide +kernel⟩, List.mem_of_getElem? (i := 36) (by decide +kernel), List.mem_of_getElem? (i := 709) (by decide +kernel), List.mem_of_getElem? (i := 710) (by decide +kernel)⟩
theorem lw_p10 : lw_okq (⟨"PlaceFinder", "firstAround", "()LPlaceFinder$Condition;"⟩, 13) := ⟨⟨by decide +kernel, by decide +kernel⟩, List.mem_of_getElem? (i := 36) (by decide +kernel), List.mem_of_getElem? (i := 713) (by decide +kernel), List.mem_of_getElem? (i := 714) (by decide +kernel)⟩
theorem lw_p11 : lw_okq (⟨"PlaceFinder", "meets", "(LPlaceFinder$Place;Ljava/util/ArrayList;LPlaceFinder$Corners;I)Z"⟩, 13) := ⟨⟨by decide +kernel, by decide +kernel⟩, List.mem_of_getElem? (i := 36) (by decide +kernel), List.mem_of_getElem? (i := 721) (by decide +kernel), List.mem_of_getElem? (i := 722) (by decide +kernel)⟩
theorem lw_p12 : lw_okq (⟨"PlaceFinder", "fits", "(LPlaceFinder$Place;LPlaceFinder$Corners;LPlaceFinder$Condition;LPlaceFinder$Corners;I)Z"⟩, 13) := ⟨⟨by decide +kernel, by decide +kernel⟩, List.mem_of_getElem? (i := 36) (by decide +kernel), List.mem_of_getElem? (i := 730) (by decide +kernel), List.mem_of_getElem? (i := 731) (by decide +kernel)⟩
theorem lw_p13 : lw_okq (⟨"PlaceFinder", "liesInPlace", "(LPlaceFinder$Corners;II)Z"⟩, 13) := ⟨⟨by decide +kernel, by decide +kernel⟩, List.mem_of_getElem? (i := 36) (by decide +kernel), List.mem_of_getElem? (i := 734) (by decide +kernel), List.mem_of_getElem? (i := 735) (by decide +kernel)⟩
theorem lw_p14 : lw_okq (⟨"PlaceFinder$Corners", "isInBox", "(IIII)Z"⟩, 3) := ⟨⟨by decide +kernel, by decide +kernel⟩, List.mem_of_getElem? (i := 70) (by decide +kernel), List.mem_of_getElem? (i := 746) (by decide +kernel), List.mem_of_getElem? (i := 747) (by decide +kernel)⟩
theorem lw_p15 : lw_okq (⟨"PlaceFinder$RouteSearch", "measure", "(LPlaceFinder$Corners;III)V"⟩, 6) := ⟨⟨by decide +kernel, by decide +kernel⟩, List.mem_of_getElem? (i := 140) (by decide +kernel), List.mem_of_getElem? (i := 772) (by decide +kernel), List.mem_of_getElem? (i := 773) (by decide +kernel)⟩
def lw_privs_1 : List (MethodName × Nat) := [(⟨"PlaceFinder$Word", "soundClass", "(I)I"⟩, 2), (⟨"java/lang/Throwable", "fillInStackTrace", "(I)Ljava/lang/Throwable;"⟩, 6), (⟨"java/util/ArrayList", "add", "(Ljava/lang/Object;[Ljava/lang/Object;I)V"⟩, 3), (⟨"java/util/ArrayList", "grow", "()[Ljava/lang/Object;"⟩, 3), (⟨"java/util/ArrayList", "grow", "(I)[Ljava/lang/Object;"⟩, 3), (⟨"PlaceFinder", "placeOf", "(I)LPlaceFinder$Place;"⟩, 13), (⟨"PlaceFinder$Corners", "doubledSurface", "()I"⟩, 3), (⟨"PlaceFinder$Corners", "following", "(I)I"⟩, 3), (⟨"PlaceFinder", "areCondition", "(IIII)Z"⟩, 13), (⟨"PlaceFinder", "firstNameCondition", "()LPlaceFinder$Condition;"⟩, 13), (⟨"PlaceFinder", "firstAround", "()LPlaceFinder$Condition;"⟩, 13), (⟨"PlaceFinder", "meets", "(LPlaceFinder$Place;Ljava/util/ArrayList;LPlaceFinder$Corners;I)Z"⟩, 13), (⟨"PlaceFinder", "fits", "(LPlaceFinder$Place;LPlaceFinder$Corners;LPlaceFinder$Condition;LPlaceFinder$Corners;I)Z"⟩, 13), (⟨"PlaceFinder", "liesInPlace", "(LPlaceFinder$Corners;II)Z"⟩, 13), (⟨"PlaceFinder$Corners", "isInBox", "(IIII)Z"⟩, 3), (⟨"PlaceFinder$RouteSearch", "measure", "(LPlaceFinder$Corners;III)V"⟩, 6)]
theorem lw_r1 : ∀ q ∈ lw_privs_1, lw_okq q := List.forall_mem_cons.mpr ⟨lw_p0, List.forall_mem_cons.mpr ⟨lw_p1, List.forall_mem_cons.mpr ⟨lw_p2, List.forall_mem_cons.mpr ⟨lw_p3, List.forall_mem_cons.mpr ⟨lw_p4, List.forall_mem_cons.mpr ⟨lw_p5, List.forall_mem_cons.mpr ⟨lw_p6, List.forall_mem_cons.mpr ⟨lw_p7, List.forall_mem_cons.mpr ⟨lw_p8, List.forall_mem_cons.mpr ⟨lw_p9, List.forall_mem_cons.mpr ⟨lw_p10, List.forall_mem_cons.mpr ⟨lw_p11, List.forall_mem_cons.mpr ⟨lw_p12, List.forall_mem_cons.mpr ⟨lw_p13, List.forall_mem_cons.mpr ⟨lw_p14, List.forall_mem_cons.mpr ⟨lw_p15, fun _ h => absurd h List.not_mem_nil⟩⟩⟩⟩⟩⟩⟩⟩⟩⟩⟩⟩⟩⟩⟩⟩
theorem lw_p16 : lw_okq (⟨"PlaceFinder$RouteSearch", "takeIfBetter", "(IIJJJ)V"⟩, 6) := ⟨⟨by decide +kernel, by decide +kernel⟩, List.mem_of_getElem? (i := 140) (by decide +kernel), List.mem_of_getElem? (i := 776) (by decide +kernel), List.mem_of_getElem? (i := 777) (by decide +kernel)⟩
theorem lw_p17 : lw_okq (⟨"PlaceFinder", "leastName", "(LPlaceFinder$Place;LPlaceFinder$Condition;I)J"⟩, 13) := ⟨⟨by decide +kernel, by decide +kernel⟩, List.mem_of_getElem? (i := 36) (by decide +kernel), List.mem_of_getElem? (i := 788) (by decide +kernel), List.mem_of_getElem? (i := 789) (by decide +kernel)⟩
theorem lw_p18 : lw_okq (⟨"PlaceFinder", "wordFits", "(LPlaceFinder$Word;LPlaceFinder$Condition;)Z"⟩, 13) := ⟨⟨by decide +kernel, by decide +kernel⟩, List.mem_of_getElem? (i := 36) (by decide +kernel), List.mem_of_getElem? (i := 797) (by decide +kernel), List.mem_of_getElem? (i := 798) (by decide +kernel)⟩
theorem lw_p19 : lw_okq (⟨"PlaceFinder$ErrorCounter", "leastFor", "([CI[CI)I"⟩, 1) := ⟨⟨by decide +kernel, by decide +kernel⟩, List.mem_of_getElem? (i := 128) (by decide +kernel), List.mem_of_getElem? (i := 814) (by decide +kernel), List.mem_of_getElem? (i := 815) (by decide +kernel)⟩
theorem lw_p20 : lw_okq (⟨"PlaceFinder", "orderKey", "(LPlaceFinder$Place;ILPlaceFinder$Condition;LPlaceFinder$Condition;I)J"⟩, 13) := ⟨⟨by decide +kernel, by decide +kernel⟩, List.mem_of_getElem? (i := 36) (by decide +kernel), List.mem_of_getElem? (i := 822) (by decide +kernel), List.mem_of_getElem? (i := 823) (by decide +kernel)⟩
theorem lw_p21 : lw_okq (⟨"PlaceFinder", "routeKey", "(LPlaceFinder$Corners;)J"⟩, 13) := ⟨⟨by decide +kernel, by decide +kernel⟩, List.mem_of_getElem? (i := 36) (by decide +kernel), List.mem_of_getElem? (i := 833) (by decide +kernel), List.mem_of_getElem? (i := 834) (by decide +kernel)⟩
theorem lw_p22 : lw_okq (⟨"PlaceFinder", "watchOf", "(I)LPlaceFinder$Watch;"⟩, 13) := ⟨⟨by decide +kernel, by decide +kernel⟩, List.mem_of_getElem? (i := 36) (by decide +kernel), List.mem_of_getElem? (i := 967) (by decide +kernel), List.mem_of_getElem? (i := 968) (by decide +kernel)⟩
theorem lw_p23 : lw_okq (⟨"PlaceFinderModel", "isPlace", "(I)Z"⟩, 55) := ⟨⟨by decide +kernel, by decide +kernel⟩, List.mem_of_getElem? (i := 989) (by decide +kernel), List.mem_of_getElem? (i := 1184) (by decide +kernel), List.mem_of_getElem? (i := 1185) (by decide +kernel)⟩
theorem lw_p24 : lw_okq (⟨"PlaceFinderModel", "isArea", "()Z"⟩, 55) := ⟨⟨by decide +kernel, by decide +kernel⟩, List.mem_of_getElem? (i := 989) (by decide +kernel), List.mem_of_getElem? (i := 1191) (by decide +kernel), List.mem_of_getElem? (i := 1192) (by decide +kernel)⟩
theorem lw_p25 : lw_okq (⟨"PlaceFinderModel", "shapeOf", "(II)I"⟩, 55) := ⟨⟨by decide +kernel, by decide +kernel⟩, List.mem_of_getElem? (i := 989) (by decide +kernel), List.mem_of_getElem? (i := 1203) (by decide +kernel), List.mem_of_getElem? (i := 1204) (by decide +kernel)⟩
theorem lw_p26 : lw_okq (⟨"PlaceFinderModel", "liesIn", "(III)Z"⟩, 55) := ⟨⟨by decide +kernel, by decide +kernel⟩, List.mem_of_getElem? (i := 989) (by decide +kernel), List.mem_of_getElem? (i := 1207) (by decide +kernel), List.mem_of_getElem? (i := 1208) (by decide +kernel)⟩
theorem lw_p27 : lw_okq (⟨"PlaceFinderModel", "foldTyped", "()V"⟩, 55) := ⟨⟨by decide +kernel, by decide +kernel⟩, List.mem_of_getElem? (i := 989) (by decide +kernel), List.mem_of_getElem? (i := 1222) (by decide +kernel), List.mem_of_getElem? (i := 1223) (by decide +kernel)⟩
theorem lw_p28 : lw_okq (⟨"PlaceFinderModel", "pairAt", "(I)I"⟩, 55) := ⟨⟨by decide +kernel, by decide +kernel⟩, List.mem_of_getElem? (i := 989) (by decide +kernel), List.mem_of_getElem? (i := 1226) (by decide +kernel), List.mem_of_getElem? (i := 1227) (by decide +kernel)⟩
theorem lw_p29 : lw_okq (⟨"PlaceFinderModel", "typedAt", "(I)I"⟩, 55) := ⟨⟨by decide +kernel, by decide +kernel⟩, List.mem_of_getElem? (i := 989) (by decide +kernel), List.mem_of_getElem? (i := 1230) (by decide +kernel), List.mem_of_getElem? (i := 1231) (by decide +kernel)⟩
theorem lw_p30 : lw_okq (⟨"PlaceFinderModel", "soundOf", "()I"⟩, 55) := ⟨⟨by decide +kernel, by decide +kernel⟩, List.mem_of_getElem? (i := 989) (by decide +kernel), List.mem_of_getElem? (i := 1234) (by decide +kernel), List.mem_of_getElem? (i := 1235) (by decide +kernel)⟩
theorem lw_p31 : lw_okq (⟨"PlaceFinderModel", "errorsTo", "([III)I"⟩, 55) := ⟨⟨by decide +kernel, by decide +kernel⟩, List.mem_of_getElem? (i := 989) (by decide +kernel), List.mem_of_getElem? (i := 1252) (by decide +kernel), List.mem_of_getElem? (i := 1253) (by decide +kernel)⟩
def lw_privs_2 : List (MethodName × Nat) := [(⟨"PlaceFinder$RouteSearch", "takeIfBetter", "(IIJJJ)V"⟩, 6), (⟨"PlaceFinder", "leastName", "(LPlaceFinder$Place;LPlaceFinder$Condition;I)J"⟩, 13), (⟨"PlaceFinder", "wordFits", "(LPlaceFinder$Word;LPlaceFinder$Condition;)Z"⟩, 13), (⟨"PlaceFinder$ErrorCounter", "leastFor", "([CI[CI)I"⟩, 1), (⟨"PlaceFinder", "orderKey", "(LPlaceFinder$Place;ILPlaceFinder$Condition;LPlaceFinder$Condition;I)J"⟩, 13), (⟨"PlaceFinder", "routeKey", "(LPlaceFinder$Corners;)J"⟩, 13), (⟨"PlaceFinder", "watchOf", "(I)LPlaceFinder$Watch;"⟩, 13), (⟨"PlaceFinderModel", "isPlace", "(I)Z"⟩, 55), (⟨"PlaceFinderModel", "isArea", "()Z"⟩, 55), (⟨"PlaceFinderModel", "shapeOf", "(II)I"⟩, 55), (⟨"PlaceFinderModel", "liesIn", "(III)Z"⟩, 55), (⟨"PlaceFinderModel", "foldTyped", "()V"⟩, 55), (⟨"PlaceFinderModel", "pairAt", "(I)I"⟩, 55), (⟨"PlaceFinderModel", "typedAt", "(I)I"⟩, 55), (⟨"PlaceFinderModel", "soundOf", "()I"⟩, 55), (⟨"PlaceFinderModel", "errorsTo", "([III)I"⟩, 55)]
theorem lw_r2 : ∀ q ∈ lw_privs_2, lw_okq q := List.forall_mem_cons.mpr ⟨lw_p16, List.forall_mem_cons.mpr ⟨lw_p17, List.forall_mem_cons.mpr ⟨lw_p18, List.forall_mem_cons.mpr ⟨lw_p19, List.forall_mem_cons.mpr ⟨lw_p20, List.forall_mem_cons.mpr ⟨lw_p21, List.forall_mem_cons.mpr ⟨lw_p22, List.forall_mem_cons.mpr ⟨lw_p23, List.forall_mem_cons.mpr ⟨lw_p24, List.forall_mem_cons.mpr ⟨lw_p25, List.forall_mem_cons.mpr ⟨lw_p26, List.forall_mem_cons.mpr ⟨lw_p27, List.forall_mem_cons.mpr ⟨lw_p28, List.forall_mem_cons.mpr ⟨lw_p29, List.forall_mem_cons.mpr ⟨lw_p30, List.forall_mem_cons.mpr ⟨lw_p31, fun _ h => absurd h List.not_mem_nil⟩⟩⟩⟩⟩⟩⟩⟩⟩⟩⟩⟩⟩⟩⟩⟩
theorem lw_p32 : lw_okq (⟨"PlaceFinderModel", "isAbove", "(III)Z"⟩, 55) := ⟨⟨by decide +kernel, by decide +kernel⟩, List.mem_of_getElem? (i := 989) (by decide +kernel), List.mem_of_getElem? (i := 1260) (by decide +kernel), List.mem_of_getElem? (i := 1261) (by decide +kernel)⟩
theorem lw_p33 : lw_okq (⟨"PlaceFinderModel", "parentOf", "(II)I"⟩, 55) := ⟨⟨by decide +kernel, by decide +kernel⟩, List.mem_of_getElem? (i := 989) (by decide +kernel), List.mem_of_getElem? (i := 1264) (by decide +kernel), List.mem_of_getElem? (i := 1265) (by decide +kernel)⟩
theorem lw_p34 : lw_okq (⟨"PlaceFinderModel", "meets", "(III)Z"⟩, 55) := ⟨⟨by decide +kernel, by decide +kernel⟩, List.mem_of_getElem? (i := 989) (by decide +kernel), List.mem_of_getElem? (i := 1288) (by decide +kernel), List.mem_of_getElem? (i := 1289) (by decide +kernel)⟩
theorem lw_p35 : lw_okq (⟨"PlaceFinderModel", "isThere", "(II)Z"⟩, 55) := ⟨⟨by decide +kernel, by decide +kernel⟩, List.mem_of_getElem? (i := 989) (by decide +kernel), List.mem_of_getElem? (i := 1292) (by decide +kernel), List.mem_of_getElem? (i := 1293) (by decide +kernel)⟩
theorem lw_p36 : lw_okq (⟨"PlaceFinderModel", "hasName", "(III)Z"⟩, 55) := ⟨⟨by decide +kernel, by decide +kernel⟩, List.mem_of_getElem? (i := 989) (by decide +kernel), List.mem_of_getElem? (i := 1296) (by decide +kernel), List.mem_of_getElem? (i := 1297) (by decide +kernel)⟩
theorem lw_p37 : lw_okq (⟨"PlaceFinderModel", "isOf", "(II)Z"⟩, 55) := ⟨⟨by decide +kernel, by decide +kernel⟩, List.mem_of_getElem? (i := 989) (by decide +kernel), List.mem_of_getElem? (i := 1300) (by decide +kernel), List.mem_of_getElem? (i := 1301) (by decide +kernel)⟩
theorem lw_p38 : lw_okq (⟨"PlaceFinderModel", "isNamed", "(II)Z"⟩, 55) := ⟨⟨by decide +kernel, by decide +kernel⟩, List.mem_of_getElem? (i := 989) (by decide +kernel), List.mem_of_getElem? (i := 1304) (by decide +kernel), List.mem_of_getElem? (i := 1305) (by decide +kernel)⟩
theorem lw_p39 : lw_okq (⟨"PlaceFinderModel", "foldName", "(I)V"⟩, 55) := ⟨⟨by decide +kernel, by decide +kernel⟩, List.mem_of_getElem? (i := 989) (by decide +kernel), List.mem_of_getElem? (i := 1308) (by decide +kernel), List.mem_of_getElem? (i := 1309) (by decide +kernel)⟩
theorem lw_p40 : lw_okq (⟨"PlaceFinderModel", "isInside", "(III)Z"⟩, 55) := ⟨⟨by decide +kernel, by decide +kernel⟩, List.mem_of_getElem? (i := 989) (by decide +kernel), List.mem_of_getElem? (i := 1312) (by decide +kernel), List.mem_of_getElem? (i := 1313) (by decide +kernel)⟩
theorem lw_p41 : lw_okq (⟨"PlaceFinderModel", "square", "(IIII)I"⟩, 55) := ⟨⟨by decide +kernel, by decide +kernel⟩, List.mem_of_getElem? (i := 989) (by decide +kernel), List.mem_of_getElem? (i := 1316) (by decide +kernel), List.mem_of_getElem? (i := 1317) (by decide +kernel)⟩
theorem lw_p42 : lw_okq (⟨"PlaceFinderModel", "isOnRoute", "(IIII)Z"⟩, 55) := ⟨⟨by decide +kernel, by decide +kernel⟩, List.mem_of_getElem? (i := 989) (by decide +kernel), List.mem_of_getElem? (i := 1320) (by decide +kernel), List.mem_of_getElem? (i := 1321) (by decide +kernel)⟩
theorem lw_p43 : lw_okq (⟨"PlaceFinderModel", "nearest", "(III)V"⟩, 55) := ⟨⟨by decide +kernel, by decide +kernel⟩, List.mem_of_getElem? (i := 989) (by decide +kernel), List.mem_of_getElem? (i := 1324) (by decide +kernel), List.mem_of_getElem? (i := 1325) (by decide +kernel)⟩
theorem lw_p44 : lw_okq (⟨"PlaceFinderModel", "measure", "(IIIIII)V"⟩, 55) := ⟨⟨by decide +kernel, by decide +kernel⟩, List.mem_of_getElem? (i := 989) (by decide +kernel), List.mem_of_getElem? (i := 1328) (by decide +kernel), List.mem_of_getElem? (i := 1329) (by decide +kernel)⟩
theorem lw_p45 : lw_okq (⟨"PlaceFinderModel", "isNearer", "(I)Z"⟩, 55) := ⟨⟨by decide +kernel, by decide +kernel⟩, List.mem_of_getElem? (i := 989) (by decide +kernel), List.mem_of_getElem? (i := 1332) (by decide +kernel), List.mem_of_getElem? (i := 1333) (by decide +kernel)⟩
theorem lw_p46 : lw_okq (⟨"PlaceFinderModel", "makeKeys", "(III)V"⟩, 55) := ⟨⟨by decide +kernel, by decide +kernel⟩, List.mem_of_getElem? (i := 989) (by decide +kernel), List.mem_of_getElem? (i := 1339) (by decide +kernel), List.mem_of_getElem? (i := 1340) (by decide +kernel)⟩
theorem lw_p47 : lw_okq (⟨"PlaceFinderModel", "firstCondition", "(II)I"⟩, 55) := ⟨⟨by decide +kernel, by decide +kernel⟩, List.mem_of_getElem? (i := 989) (by decide +kernel), List.mem_of_getElem? (i := 1343) (by decide +kernel), List.mem_of_getElem? (i := 1344) (by decide +kernel)⟩
def lw_privs_3 : List (MethodName × Nat) := [(⟨"PlaceFinderModel", "isAbove", "(III)Z"⟩, 55), (⟨"PlaceFinderModel", "parentOf", "(II)I"⟩, 55), (⟨"PlaceFinderModel", "meets", "(III)Z"⟩, 55), (⟨"PlaceFinderModel", "isThere", "(II)Z"⟩, 55), (⟨"PlaceFinderModel", "hasName", "(III)Z"⟩, 55), (⟨"PlaceFinderModel", "isOf", "(II)Z"⟩, 55), (⟨"PlaceFinderModel", "isNamed", "(II)Z"⟩, 55), (⟨"PlaceFinderModel", "foldName", "(I)V"⟩, 55), (⟨"PlaceFinderModel", "isInside", "(III)Z"⟩, 55), (⟨"PlaceFinderModel", "square", "(IIII)I"⟩, 55), (⟨"PlaceFinderModel", "isOnRoute", "(IIII)Z"⟩, 55), (⟨"PlaceFinderModel", "nearest", "(III)V"⟩, 55), (⟨"PlaceFinderModel", "measure", "(IIIIII)V"⟩, 55), (⟨"PlaceFinderModel", "isNearer", "(I)Z"⟩, 55), (⟨"PlaceFinderModel", "makeKeys", "(III)V"⟩, 55), (⟨"PlaceFinderModel", "firstCondition", "(II)I"⟩, 55)]
theorem lw_r3 : ∀ q ∈ lw_privs_3, lw_okq q := List.forall_mem_cons.mpr ⟨lw_p32, List.forall_mem_cons.mpr ⟨lw_p33, List.forall_mem_cons.mpr ⟨lw_p34, List.forall_mem_cons.mpr ⟨lw_p35, List.forall_mem_cons.mpr ⟨lw_p36, List.forall_mem_cons.mpr ⟨lw_p37, List.forall_mem_cons.mpr ⟨lw_p38, List.forall_mem_cons.mpr ⟨lw_p39, List.forall_mem_cons.mpr ⟨lw_p40, List.forall_mem_cons.mpr ⟨lw_p41, List.forall_mem_cons.mpr ⟨lw_p42, List.forall_mem_cons.mpr ⟨lw_p43, List.forall_mem_cons.mpr ⟨lw_p44, List.forall_mem_cons.mpr ⟨lw_p45, List.forall_mem_cons.mpr ⟨lw_p46, List.forall_mem_cons.mpr ⟨lw_p47, fun _ h => absurd h List.not_mem_nil⟩⟩⟩⟩⟩⟩⟩⟩⟩⟩⟩⟩⟩⟩⟩⟩
theorem lw_p48 : lw_okq (⟨"PlaceFinderModel", "compareWords", "(II)I"⟩, 55) := ⟨⟨by decide +kernel, by decide +kernel⟩, List.mem_of_getElem? (i := 989) (by decide +kernel), List.mem_of_getElem? (i := 1347) (by decide +kernel), List.mem_of_getElem? (i := 1348) (by decide +kernel)⟩
theorem lw_p49 : lw_okq (⟨"PlaceFinderModel", "insert", "(II)V"⟩, 55) := ⟨⟨by decide +kernel, by decide +kernel⟩, List.mem_of_getElem? (i := 989) (by decide +kernel), List.mem_of_getElem? (i := 1351) (by decide +kernel), List.mem_of_getElem? (i := 1352) (by decide +kernel)⟩
theorem lw_p50 : lw_okq (⟨"PlaceFinderModel", "compareKeys", "(III)I"⟩, 55) := ⟨⟨by decide +kernel, by decide +kernel⟩, List.mem_of_getElem? (i := 989) (by decide +kernel), List.mem_of_getElem? (i := 1355) (by decide +kernel), List.mem_of_getElem? (i := 1356) (by decide +kernel)⟩
theorem lw_p51 : lw_okq (⟨"PlaceFinderModel", "isWatch", "(I)Z"⟩, 55) := ⟨⟨by decide +kernel, by decide +kernel⟩, List.mem_of_getElem? (i := 989) (by decide +kernel), List.mem_of_getElem? (i := 1375) (by decide +kernel), List.mem_of_getElem? (i := 1376) (by decide +kernel)⟩
def lw_privs_4 : List (MethodName × Nat) := [(⟨"PlaceFinderModel", "compareWords", "(II)I"⟩, 55), (⟨"PlaceFinderModel", "insert", "(II)V"⟩, 55), (⟨"PlaceFinderModel", "compareKeys", "(III)I"⟩, 55), (⟨"PlaceFinderModel", "isWatch", "(I)Z"⟩, 55)]
theorem lw_r4 : ∀ q ∈ lw_privs_4, lw_okq q := List.forall_mem_cons.mpr ⟨lw_p48, List.forall_mem_cons.mpr ⟨lw_p49, List.forall_mem_cons.mpr ⟨lw_p50, List.forall_mem_cons.mpr ⟨lw_p51, fun _ h => absurd h List.not_mem_nil⟩⟩⟩⟩
def lw_privs : List (MethodName × Nat) := lw_privs_1 ++ (lw_privs_2 ++ (lw_privs_3 ++ (lw_privs_4)))
def lw_tbl : List Cond := k2_sels lw_privs ++ tables_1
theorem lw_privs_ok : ∀ q ∈ lw_privs, lw_okq q := by
  show ∀ q ∈ lw_privs_1 ++ (lw_privs_2 ++ (lw_privs_3 ++ (lw_privs_4))), lw_okq q
  exact List.forall_mem_append.mpr ⟨lw_r1, List.forall_mem_append.mpr ⟨lw_r2, List.forall_mem_append.mpr ⟨lw_r3, lw_r4⟩⟩⟩
end
section
def T_Al : u_T := fun k => match k with
  | 0 => ("java/util/ArrayList", "elementData", "[Ljava/lang/Object;", false)
  | 1 => ("java/util/ArrayList", "size", "I", false)
  | _ => ("java/util/AbstractList", "modCount", "I", false)
def t_Al : Nat → FieldType := fun k => match k with
  | 0 => (.array (.object "java/lang/Object"))
  | 1 => .int
  | _ => .int
def T_Cn : u_T := fun k => match k with
  | 0 => ("PlaceFinder$Condition", "kind", "I", true)
  | 1 => ("PlaceFinder$Condition", "a", "I", true)
  | 2 => ("PlaceFinder$Condition", "b", "I", true)
  | 3 => ("PlaceFinder$Condition", "c", "I", true)
  | _ => ("PlaceFinder$Condition", "word", "LPlaceFinder$Word;", true)
def t_Cn : Nat → FieldType := fun k => match k with
  | 0 => .int
  | 1 => .int
  | 2 => .int
  | 3 => .int
  | _ => (.object "PlaceFinder$Word")
def T_Co : u_T := fun k => match k with
  | 0 => ("PlaceFinder$Corners", "size", "I", true)
  | 1 => ("PlaceFinder$Corners", "xs", "[I", true)
  | _ => ("PlaceFinder$Corners", "ys", "[I", true)
def t_Co : Nat → FieldType := fun k => match k with
  | 0 => .int
  | 1 => (.array .int)
  | _ => (.array .int)
def T_Ec : u_T := fun k => match k with
  | _ => ("PlaceFinder$ErrorCounter", "least", "[[I", true)
def t_Ec : Nat → FieldType := fun k => match k with
  | _ => (.array (.array .int))
def T_Hi : u_T := fun k => match k with
  | 0 => ("PlaceFinder$Hits", "numbers", "[I", true)
  | 1 => ("PlaceFinder$Hits", "keys", "[J", true)
  | _ => ("PlaceFinder$Hits", "count", "I", false)
def t_Hi : Nat → FieldType := fun k => match k with
  | 0 => (.array .int)
  | 1 => (.array .long)
  | _ => .int
def T_Li : u_T := fun k => match k with
  | 0 => ("PlaceFinder$Link", "above", "LPlaceFinder$Place;", true)
  | 1 => ("PlaceFinder$Link", "from", "I", true)
  | _ => ("PlaceFinder$Link", "to", "I", true)
def t_Li : Nat → FieldType := fun k => match k with
  | 0 => (.object "PlaceFinder$Place")
  | 1 => .int
  | _ => .int
def T_Na : u_T := fun k => match k with
  | 0 => ("PlaceFinder$Name", "word", "LPlaceFinder$Word;", true)
  | 1 => ("PlaceFinder$Name", "from", "I", true)
  | _ => ("PlaceFinder$Name", "to", "I", true)
def t_Na : Nat → FieldType := fun k => match k with
  | 0 => (.object "PlaceFinder$Word")
  | 1 => .int
  | _ => .int
def T_Pl : u_T := fun k => match k with
  | 0 => ("PlaceFinder$Place", "number", "I", true)
  | 1 => ("PlaceFinder$Place", "kind", "I", true)
  | 2 => ("PlaceFinder$Place", "removedFrom", "I", false)
  | 3 => ("PlaceFinder$Place", "shapes", "Ljava/util/ArrayList;", true)
  | 4 => ("PlaceFinder$Place", "shapeDays", "[I", true)
  | 5 => ("PlaceFinder$Place", "names", "Ljava/util/ArrayList;", true)
  | _ => ("PlaceFinder$Place", "links", "Ljava/util/ArrayList;", true)
def t_Pl : Nat → FieldType := fun k => match k with
  | 0 => .int
  | 1 => .int
  | 2 => .int
  | 3 => (.object "java/util/ArrayList")
  | 4 => (.array .int)
  | 5 => (.object "java/util/ArrayList")
  | _ => (.object "java/util/ArrayList")
def T_Rs : u_T := fun k => match k with
  | 0 => ("PlaceFinder$RouteSearch", "isFound", "Z", false)
  | 1 => ("PlaceFinder$RouteSearch", "side", "I", false)
  | 2 => ("PlaceFinder$RouteSearch", "along", "I", false)
  | 3 => ("PlaceFinder$RouteSearch", "whole", "J", false)
  | 4 => ("PlaceFinder$RouteSearch", "rest", "J", false)
  | _ => ("PlaceFinder$RouteSearch", "divisor", "J", false)
def t_Rs : Nat → FieldType := fun k => match k with
  | 0 => .boolean
  | 1 => .int
  | 2 => .int
  | 3 => .long
  | 4 => .long
  | _ => .long
def T_Wa : u_T := fun k => match k with
  | 0 => ("PlaceFinder$Watch", "conditions", "Ljava/util/ArrayList;", true)
  | 1 => ("PlaceFinder$Watch", "route", "LPlaceFinder$Corners;", true)
  | 2 => ("PlaceFinder$Watch", "day", "I", true)
  | _ => ("PlaceFinder$Watch", "toldPlaces", "I", false)
def t_Wa : Nat → FieldType := fun k => match k with
  | 0 => (.object "java/util/ArrayList")
  | 1 => (.object "PlaceFinder$Corners")
  | 2 => .int
  | _ => .int
def T_Wo : u_T := fun k => match k with
  | 0 => ("PlaceFinder$Word", "letters", "[C", true)
  | _ => ("PlaceFinder$Word", "size", "I", true)
def t_Wo : Nat → FieldType := fun k => match k with
  | 0 => (.array .char)
  | _ => .int
def T_P : u_T := fun k => match k with
  | 0 => ("PlaceFinder", "places", "Ljava/util/ArrayList;", true)
  | 1 => ("PlaceFinder", "cornerXs", "[I", true)
  | 2 => ("PlaceFinder", "cornerYs", "[I", true)
  | 3 => ("PlaceFinder", "cornerCount", "I", false)
  | 4 => ("PlaceFinder", "currentRoute", "LPlaceFinder$Corners;", false)
  | 5 => ("PlaceFinder", "typed", "[C", true)
  | 6 => ("PlaceFinder", "typedCount", "I", false)
  | 7 => ("PlaceFinder", "conditions", "Ljava/util/ArrayList;", true)
  | 8 => ("PlaceFinder", "watches", "[LPlaceFinder$Watch;", true)
  | 9 => ("PlaceFinder", "hits", "LPlaceFinder$Hits;", true)
  | 10 => ("PlaceFinder", "errorCounter", "LPlaceFinder$ErrorCounter;", true)
  | 11 => ("PlaceFinder", "routeSearch", "LPlaceFinder$RouteSearch;", true)
  | _ => ("PlaceFinder", "anyName", "LPlaceFinder$Condition;", true)
def t_P : Nat → FieldType := fun k => match k with
  | 0 => (.object "java/util/ArrayList")
  | 1 => (.array .int)
  | 2 => (.array .int)
  | 3 => .int
  | 4 => (.object "PlaceFinder$Corners")
  | 5 => (.array .char)
  | 6 => .int
  | 7 => (.object "java/util/ArrayList")
  | 8 => (.array (.object "PlaceFinder$Watch"))
  | 9 => (.object "PlaceFinder$Hits")
  | 10 => (.object "PlaceFinder$ErrorCounter")
  | 11 => (.object "PlaceFinder$RouteSearch")
  | _ => (.object "PlaceFinder$Condition")
def T_M : u_T := fun k => match k with
  | 0 => ("PlaceFinderModel", "code", "I", false)
  | 1 => ("PlaceFinderModel", "places", "I", false)
  | 2 => ("PlaceFinderModel", "kind", "[I", true)
  | 3 => ("PlaceFinderModel", "gone", "[I", true)
  | 4 => ("PlaceFinderModel", "shapes", "[I", true)
  | 5 => ("PlaceFinderModel", "shapeDay", "[I", true)
  | 6 => ("PlaceFinderModel", "shapeSize", "[I", true)
  | 7 => ("PlaceFinderModel", "shapeX", "[I", true)
  | 8 => ("PlaceFinderModel", "shapeY", "[I", true)
  | 9 => ("PlaceFinderModel", "names", "[I", true)
  | 10 => ("PlaceFinderModel", "nameFrom", "[I", true)
  | 11 => ("PlaceFinderModel", "nameTo", "[I", true)
  | 12 => ("PlaceFinderModel", "nameLength", "[I", true)
  | 13 => ("PlaceFinderModel", "nameLetter", "[I", true)
  | 14 => ("PlaceFinderModel", "spans", "[I", true)
  | 15 => ("PlaceFinderModel", "spanParent", "[I", true)
  | 16 => ("PlaceFinderModel", "spanFrom", "[I", true)
  | 17 => ("PlaceFinderModel", "spanTo", "[I", true)
  | 18 => ("PlaceFinderModel", "corners", "I", false)
  | 19 => ("PlaceFinderModel", "cornerX", "[I", true)
  | 20 => ("PlaceFinderModel", "cornerY", "[I", true)
  | 21 => ("PlaceFinderModel", "typed", "I", false)
  | 22 => ("PlaceFinderModel", "typing", "[I", true)
  | 23 => ("PlaceFinderModel", "conditions", "[I", true)
  | 24 => ("PlaceFinderModel", "conditionKind", "[I", true)
  | 25 => ("PlaceFinderModel", "numberA", "[I", true)
  | 26 => ("PlaceFinderModel", "numberB", "[I", true)
  | 27 => ("PlaceFinderModel", "numberC", "[I", true)
  | 28 => ("PlaceFinderModel", "wordLength", "[I", true)
  | 29 => ("PlaceFinderModel", "wordLetter", "[I", true)
  | 30 => ("PlaceFinderModel", "routeSize", "[I", true)
  | 31 => ("PlaceFinderModel", "routeX", "[I", true)
  | 32 => ("PlaceFinderModel", "routeY", "[I", true)
  | 33 => ("PlaceFinderModel", "watchDay", "[I", true)
  | 34 => ("PlaceFinderModel", "isSet", "[Z", true)
  | 35 => ("PlaceFinderModel", "told", "[I", true)
  | 36 => ("PlaceFinderModel", "found", "I", false)
  | 37 => ("PlaceFinderModel", "hits", "[I", true)
  | 38 => ("PlaceFinderModel", "folded", "I", false)
  | 39 => ("PlaceFinderModel", "fold", "[I", true)
  | 40 => ("PlaceFinderModel", "table", "[I", true)
  | 41 => ("PlaceFinderModel", "farUp", "J", false)
  | 42 => ("PlaceFinderModel", "farDown", "J", false)
  | 43 => ("PlaceFinderModel", "alongUp", "J", false)
  | 44 => ("PlaceFinderModel", "alongDown", "J", false)
  | 45 => ("PlaceFinderModel", "nearUp", "J", false)
  | 46 => ("PlaceFinderModel", "nearDown", "J", false)
  | 47 => ("PlaceFinderModel", "placeUp", "J", false)
  | 48 => ("PlaceFinderModel", "placeDown", "J", false)
  | 49 => ("PlaceFinderModel", "nearSide", "I", false)
  | 50 => ("PlaceFinderModel", "keyName", "[I", true)
  | 51 => ("PlaceFinderModel", "keySquare", "[I", true)
  | 52 => ("PlaceFinderModel", "keySide", "[I", true)
  | 53 => ("PlaceFinderModel", "keyUp", "[J", true)
  | _ => ("PlaceFinderModel", "keyDown", "[J", true)
def t_M : Nat → FieldType := fun k => match k with
  | 0 => .int
  | 1 => .int
  | 2 => (.array .int)
  | 3 => (.array .int)
  | 4 => (.array .int)
  | 5 => (.array .int)
  | 6 => (.array .int)
  | 7 => (.array .int)
  | 8 => (.array .int)
  | 9 => (.array .int)
  | 10 => (.array .int)
  | 11 => (.array .int)
  | 12 => (.array .int)
  | 13 => (.array .int)
  | 14 => (.array .int)
  | 15 => (.array .int)
  | 16 => (.array .int)
  | 17 => (.array .int)
  | 18 => .int
  | 19 => (.array .int)
  | 20 => (.array .int)
  | 21 => .int
  | 22 => (.array .int)
  | 23 => (.array .int)
  | 24 => (.array .int)
  | 25 => (.array .int)
  | 26 => (.array .int)
  | 27 => (.array .int)
  | 28 => (.array .int)
  | 29 => (.array .int)
  | 30 => (.array .int)
  | 31 => (.array .int)
  | 32 => (.array .int)
  | 33 => (.array .int)
  | 34 => (.array .boolean)
  | 35 => (.array .int)
  | 36 => .int
  | 37 => (.array .int)
  | 38 => .int
  | 39 => (.array .int)
  | 40 => (.array .int)
  | 41 => .long
  | 42 => .long
  | 43 => .long
  | 44 => .long
  | 45 => .long
  | 46 => .long
  | 47 => .long
  | 48 => .long
  | 49 => .int
  | 50 => (.array .int)
  | 51 => (.array .int)
  | 52 => (.array .int)
  | 53 => (.array .long)
  | _ => (.array .long)
abbrev vwCl : List vw_C := [("java/util/ArrayList", T_Al, 3), ("PlaceFinder$Condition", T_Cn, 5), ("PlaceFinder$Corners", T_Co, 3), ("PlaceFinder$ErrorCounter", T_Ec, 1), ("PlaceFinder$Hits", T_Hi, 3), ("PlaceFinder$Link", T_Li, 3), ("PlaceFinder$Name", T_Na, 3), ("PlaceFinder$Place", T_Pl, 7), ("PlaceFinder$RouteSearch", T_Rs, 6), ("PlaceFinder$Watch", T_Wa, 4), ("PlaceFinder$Word", T_Wo, 2), ("PlaceFinder", T_P, 13), ("PlaceFinderModel", T_M, 55)]
def aty : List FieldType := [.int, .long, .char, .boolean, (.object "java/lang/Object"), (.object "PlaceFinder$Watch"), (.array .int)]
abbrev y_P_init : MethodName := ⟨"PlaceFinder", "<init>", "()V"⟩
abbrev y_P_place : MethodName := ⟨"PlaceFinder", "place", "(I)I"⟩
abbrev y_P_corner : MethodName := ⟨"PlaceFinder", "corner", "(II)I"⟩
abbrev y_P_shape : MethodName := ⟨"PlaceFinder", "shape", "(II)V"⟩
abbrev y_P_route : MethodName := ⟨"PlaceFinder", "route", "()V"⟩
abbrev y_P_letter : MethodName := ⟨"PlaceFinder", "letter", "(I)Z"⟩
abbrev y_P_name : MethodName := ⟨"PlaceFinder", "name", "(III)V"⟩
abbrev y_P_parent : MethodName := ⟨"PlaceFinder", "parent", "(IIII)V"⟩
abbrev y_P_remove : MethodName := ⟨"PlaceFinder", "remove", "(II)V"⟩
abbrev y_P_condition : MethodName := ⟨"PlaceFinder", "condition", "(IIII)I"⟩
abbrev y_P_clear : MethodName := ⟨"PlaceFinder", "clear", "()V"⟩
abbrev y_P_find : MethodName := ⟨"PlaceFinder", "find", "(II)I"⟩
abbrev y_P_near : MethodName := ⟨"PlaceFinder", "near", "(IIIII)I"⟩
abbrev y_P_hit : MethodName := ⟨"PlaceFinder", "hit", "(I)I"⟩
abbrev y_P_chain : MethodName := ⟨"PlaceFinder", "chain", "(III)I"⟩
abbrev y_P_holds : MethodName := ⟨"PlaceFinder", "holds", "(IIII)I"⟩
abbrev y_P_sound : MethodName := ⟨"PlaceFinder", "sound", "()I"⟩
abbrev y_P_errors : MethodName := ⟨"PlaceFinder", "errors", "(II)I"⟩
abbrev y_P_watch : MethodName := ⟨"PlaceFinder", "watch", "(II)V"⟩
abbrev y_P_news : MethodName := ⟨"PlaceFinder", "news", "(I)I"⟩
abbrev y_P_told : MethodName := ⟨"PlaceFinder", "told", "(I)I"⟩
abbrev y_P_isKind : MethodName := ⟨"PlaceFinder", "isKind", "(I)Z"⟩
abbrev y_P_isDay : MethodName := ⟨"PlaceFinder", "isDay", "(I)Z"⟩
abbrev y_P_areSpan : MethodName := ⟨"PlaceFinder", "areSpan", "(II)Z"⟩
abbrev y_P_arePosition : MethodName := ⟨"PlaceFinder", "arePosition", "(II)Z"⟩
abbrev y_P_isDistance : MethodName := ⟨"PlaceFinder", "isDistance", "(I)Z"⟩
abbrev y_P_areCondition : MethodName := ⟨"PlaceFinder", "areCondition", "(IIII)Z"⟩
abbrev y_P_placeOf : MethodName := ⟨"PlaceFinder", "placeOf", "(I)LPlaceFinder$Place;"⟩
abbrev y_P_watchOf : MethodName := ⟨"PlaceFinder", "watchOf", "(I)LPlaceFinder$Watch;"⟩
abbrev y_P_comesTo : MethodName := ⟨"PlaceFinder", "comesTo", "(LPlaceFinder$Place;IIII)Z"⟩
abbrev y_P_meets : MethodName := ⟨"PlaceFinder", "meets", "(LPlaceFinder$Place;Ljava/util/ArrayList;LPlaceFinder$Corners;I)Z"⟩
abbrev y_P_fits : MethodName := ⟨"PlaceFinder", "fits", "(LPlaceFinder$Place;LPlaceFinder$Corners;LPlaceFinder$Condition;LPlaceFinder$Corners;I)Z"⟩
abbrev y_P_liesInPlace : MethodName := ⟨"PlaceFinder", "liesInPlace", "(LPlaceFinder$Corners;II)Z"⟩
abbrev y_P_isBelow : MethodName := ⟨"PlaceFinder", "isBelow", "(LPlaceFinder$Place;II)Z"⟩
abbrev y_P_leastName : MethodName := ⟨"PlaceFinder", "leastName", "(LPlaceFinder$Place;LPlaceFinder$Condition;I)J"⟩
abbrev y_P_wordFits : MethodName := ⟨"PlaceFinder", "wordFits", "(LPlaceFinder$Word;LPlaceFinder$Condition;)Z"⟩
abbrev y_P_firstNameCondition : MethodName := ⟨"PlaceFinder", "firstNameCondition", "()LPlaceFinder$Condition;"⟩
abbrev y_P_firstAround : MethodName := ⟨"PlaceFinder", "firstAround", "()LPlaceFinder$Condition;"⟩
abbrev y_P_orderKey : MethodName := ⟨"PlaceFinder", "orderKey", "(LPlaceFinder$Place;ILPlaceFinder$Condition;LPlaceFinder$Condition;I)J"⟩
abbrev y_P_routeKey : MethodName := ⟨"PlaceFinder", "routeKey", "(LPlaceFinder$Corners;)J"⟩
abbrev y_M_init : MethodName := ⟨"PlaceFinderModel", "<init>", "()V"⟩
abbrev y_M_thrown : MethodName := ⟨"PlaceFinderModel", "thrown", "()I"⟩
abbrev y_M_in : MethodName := ⟨"PlaceFinderModel", "in", "(III)Z"⟩
abbrev y_M_isPlace : MethodName := ⟨"PlaceFinderModel", "isPlace", "(I)Z"⟩
abbrev y_M_isDay : MethodName := ⟨"PlaceFinderModel", "isDay", "(I)Z"⟩
abbrev y_M_isSpan : MethodName := ⟨"PlaceFinderModel", "isSpan", "(II)Z"⟩
abbrev y_M_isAt : MethodName := ⟨"PlaceFinderModel", "isAt", "(II)Z"⟩
abbrev y_M_place : MethodName := ⟨"PlaceFinderModel", "place", "(I)I"⟩
abbrev y_M_corner : MethodName := ⟨"PlaceFinderModel", "corner", "(II)I"⟩
abbrev y_M_isArea : MethodName := ⟨"PlaceFinderModel", "isArea", "()Z"⟩
abbrev y_M_shape : MethodName := ⟨"PlaceFinderModel", "shape", "(II)V"⟩
abbrev y_M_route : MethodName := ⟨"PlaceFinderModel", "route", "()V"⟩
abbrev y_M_shapeOf : MethodName := ⟨"PlaceFinderModel", "shapeOf", "(II)I"⟩
abbrev y_M_isThere : MethodName := ⟨"PlaceFinderModel", "isThere", "(II)Z"⟩
abbrev y_M_turn : MethodName := ⟨"PlaceFinderModel", "turn", "(IIIIII)I"⟩
abbrev y_M_liesIn : MethodName := ⟨"PlaceFinderModel", "liesIn", "(III)Z"⟩
abbrev y_M_holds : MethodName := ⟨"PlaceFinderModel", "holds", "(IIII)I"⟩
abbrev y_M_letter : MethodName := ⟨"PlaceFinderModel", "letter", "(I)Z"⟩
abbrev y_M_typedAt : MethodName := ⟨"PlaceFinderModel", "typedAt", "(I)I"⟩
abbrev y_M_pairAt : MethodName := ⟨"PlaceFinderModel", "pairAt", "(I)I"⟩
abbrev y_M_foldTyped : MethodName := ⟨"PlaceFinderModel", "foldTyped", "()V"⟩
abbrev y_M_foldName : MethodName := ⟨"PlaceFinderModel", "foldName", "(I)V"⟩
abbrev y_M_classOf : MethodName := ⟨"PlaceFinderModel", "classOf", "(I)I"⟩
abbrev y_M_soundOf : MethodName := ⟨"PlaceFinderModel", "soundOf", "()I"⟩
abbrev y_M_sound : MethodName := ⟨"PlaceFinderModel", "sound", "()I"⟩
abbrev y_M_name : MethodName := ⟨"PlaceFinderModel", "name", "(III)V"⟩
abbrev y_M_errorsTo : MethodName := ⟨"PlaceFinderModel", "errorsTo", "([III)I"⟩
abbrev y_M_errors : MethodName := ⟨"PlaceFinderModel", "errors", "(II)I"⟩
abbrev y_M_parentOf : MethodName := ⟨"PlaceFinderModel", "parentOf", "(II)I"⟩
abbrev y_M_isAbove : MethodName := ⟨"PlaceFinderModel", "isAbove", "(III)Z"⟩
abbrev y_M_parent : MethodName := ⟨"PlaceFinderModel", "parent", "(IIII)V"⟩
abbrev y_M_remove : MethodName := ⟨"PlaceFinderModel", "remove", "(II)V"⟩
abbrev y_M_chain : MethodName := ⟨"PlaceFinderModel", "chain", "(III)I"⟩
abbrev y_M_condition : MethodName := ⟨"PlaceFinderModel", "condition", "(IIII)I"⟩
abbrev y_M_clear : MethodName := ⟨"PlaceFinderModel", "clear", "()V"⟩
abbrev y_M_isNamed : MethodName := ⟨"PlaceFinderModel", "isNamed", "(II)Z"⟩
abbrev y_M_isOf : MethodName := ⟨"PlaceFinderModel", "isOf", "(II)Z"⟩
abbrev y_M_hasName : MethodName := ⟨"PlaceFinderModel", "hasName", "(III)Z"⟩
abbrev y_M_isInside : MethodName := ⟨"PlaceFinderModel", "isInside", "(III)Z"⟩
abbrev y_M_square : MethodName := ⟨"PlaceFinderModel", "square", "(IIII)I"⟩
abbrev y_M_compareFractions : MethodName := ⟨"PlaceFinderModel", "compareFractions", "(JJJJ)I"⟩
abbrev y_M_measure : MethodName := ⟨"PlaceFinderModel", "measure", "(IIIIII)V"⟩
abbrev y_M_isNearer : MethodName := ⟨"PlaceFinderModel", "isNearer", "(I)Z"⟩
abbrev y_M_nearest : MethodName := ⟨"PlaceFinderModel", "nearest", "(III)V"⟩
abbrev y_M_isOnRoute : MethodName := ⟨"PlaceFinderModel", "isOnRoute", "(IIII)Z"⟩
abbrev y_M_meets : MethodName := ⟨"PlaceFinderModel", "meets", "(III)Z"⟩
abbrev y_M_compareWords : MethodName := ⟨"PlaceFinderModel", "compareWords", "(II)I"⟩
abbrev y_M_firstCondition : MethodName := ⟨"PlaceFinderModel", "firstCondition", "(II)I"⟩
abbrev y_M_makeKeys : MethodName := ⟨"PlaceFinderModel", "makeKeys", "(III)V"⟩
abbrev y_M_compareKeys : MethodName := ⟨"PlaceFinderModel", "compareKeys", "(III)I"⟩
abbrev y_M_insert : MethodName := ⟨"PlaceFinderModel", "insert", "(II)V"⟩
abbrev y_M_find : MethodName := ⟨"PlaceFinderModel", "find", "(II)I"⟩
abbrev y_M_near : MethodName := ⟨"PlaceFinderModel", "near", "(IIIII)I"⟩
abbrev y_M_hit : MethodName := ⟨"PlaceFinderModel", "hit", "(I)I"⟩
abbrev y_M_watch : MethodName := ⟨"PlaceFinderModel", "watch", "(II)V"⟩
abbrev y_M_isWatch : MethodName := ⟨"PlaceFinderModel", "isWatch", "(I)Z"⟩
abbrev y_M_news : MethodName := ⟨"PlaceFinderModel", "news", "(I)I"⟩
abbrev y_M_told : MethodName := ⟨"PlaceFinderModel", "told", "(I)I"⟩
abbrev y_Cn_init : MethodName := ⟨"PlaceFinder$Condition", "<init>", "(IIIILPlaceFinder$Word;)V"⟩
abbrev y_Co_init : MethodName := ⟨"PlaceFinder$Corners", "<init>", "([I[II)V"⟩
abbrev y_Co_isPoint : MethodName := ⟨"PlaceFinder$Corners", "isPoint", "()Z"⟩
abbrev y_Co_isArea : MethodName := ⟨"PlaceFinder$Corners", "isArea", "()Z"⟩
abbrev y_Co_following : MethodName := ⟨"PlaceFinder$Corners", "following", "(I)I"⟩
abbrev y_Co_doubledSurface : MethodName := ⟨"PlaceFinder$Corners", "doubledSurface", "()I"⟩
abbrev y_Co_squareTo : MethodName := ⟨"PlaceFinder$Corners", "squareTo", "(II)I"⟩
abbrev y_Co_squareFrom : MethodName := ⟨"PlaceFinder$Corners", "squareFrom", "(III)I"⟩
abbrev y_Co_hasAllInside : MethodName := ⟨"PlaceFinder$Corners", "hasAllInside", "(LPlaceFinder$Corners;)Z"⟩
abbrev y_Co_hasInside : MethodName := ⟨"PlaceFinder$Corners", "hasInside", "(II)Z"⟩
abbrev y_Co_isInBox : MethodName := ⟨"PlaceFinder$Corners", "isInBox", "(IIII)Z"⟩
abbrev y_Ec_init : MethodName := ⟨"PlaceFinder$ErrorCounter", "<init>", "()V"⟩
abbrev y_Ec_count : MethodName := ⟨"PlaceFinder$ErrorCounter", "count", "(LPlaceFinder$Word;LPlaceFinder$Word;)I"⟩
abbrev y_Ec_leastFor : MethodName := ⟨"PlaceFinder$ErrorCounter", "leastFor", "([CI[CI)I"⟩
abbrev y_Hi_init : MethodName := ⟨"PlaceFinder$Hits", "<init>", "()V"⟩
abbrev y_Hi_empty : MethodName := ⟨"PlaceFinder$Hits", "empty", "()V"⟩
abbrev y_Hi_add : MethodName := ⟨"PlaceFinder$Hits", "add", "(IJ)V"⟩
abbrev y_Hi_keepFirst : MethodName := ⟨"PlaceFinder$Hits", "keepFirst", "(I)V"⟩
abbrev y_Li_init : MethodName := ⟨"PlaceFinder$Link", "<init>", "(LPlaceFinder$Place;II)V"⟩
abbrev y_Li_isWithin : MethodName := ⟨"PlaceFinder$Link", "isWithin", "(II)Z"⟩
abbrev y_Na_init : MethodName := ⟨"PlaceFinder$Name", "<init>", "(LPlaceFinder$Word;II)V"⟩
abbrev y_Na_isOf : MethodName := ⟨"PlaceFinder$Name", "isOf", "(I)Z"⟩
abbrev y_Pl_init : MethodName := ⟨"PlaceFinder$Place", "<init>", "(II)V"⟩
abbrev y_Pl_takesShapeFrom : MethodName := ⟨"PlaceFinder$Place", "takesShapeFrom", "(I)Z"⟩
abbrev y_Pl_addShape : MethodName := ⟨"PlaceFinder$Place", "addShape", "(LPlaceFinder$Corners;I)V"⟩
abbrev y_Pl_shapeOn : MethodName := ⟨"PlaceFinder$Place", "shapeOn", "(I)LPlaceFinder$Corners;"⟩
abbrev y_Pl_isRemovedOn : MethodName := ⟨"PlaceFinder$Place", "isRemovedOn", "(I)Z"⟩
abbrev y_Pl_isThere : MethodName := ⟨"PlaceFinder$Place", "isThere", "(I)Z"⟩
abbrev y_Pl_squareTo : MethodName := ⟨"PlaceFinder$Place", "squareTo", "(III)I"⟩
abbrev y_Pl_isLinkedWithin : MethodName := ⟨"PlaceFinder$Place", "isLinkedWithin", "(II)Z"⟩
abbrev y_Pl_aboveOn : MethodName := ⟨"PlaceFinder$Place", "aboveOn", "(I)LPlaceFinder$Place;"⟩
abbrev y_Rs_init : MethodName := ⟨"PlaceFinder$RouteSearch", "<init>", "()V"⟩
abbrev y_Rs_start : MethodName := ⟨"PlaceFinder$RouteSearch", "start", "(LPlaceFinder$Corners;LPlaceFinder$Corners;)V"⟩
abbrev y_Rs_measure : MethodName := ⟨"PlaceFinder$RouteSearch", "measure", "(LPlaceFinder$Corners;III)V"⟩
abbrev y_Rs_takeIfBetter : MethodName := ⟨"PlaceFinder$RouteSearch", "takeIfBetter", "(IIJJJ)V"⟩
abbrev y_Rs_isWithin : MethodName := ⟨"PlaceFinder$RouteSearch", "isWithin", "(I)Z"⟩
abbrev y_Rs_positionKey : MethodName := ⟨"PlaceFinder$RouteSearch", "positionKey", "()J"⟩
abbrev y_Wa_init : MethodName := ⟨"PlaceFinder$Watch", "<init>", "(LPlaceFinder$Corners;I)V"⟩
abbrev y_Wa_hasTold : MethodName := ⟨"PlaceFinder$Watch", "hasTold", "(I)Z"⟩
abbrev y_Wo_init : MethodName := ⟨"PlaceFinder$Word", "<init>", "([CI)V"⟩
abbrev y_Wo_joinedLetter : MethodName := ⟨"PlaceFinder$Word", "joinedLetter", "(CC)C"⟩
abbrev y_Wo_rank : MethodName := ⟨"PlaceFinder$Word", "rank", "()J"⟩
abbrev y_Wo_beginsWith : MethodName := ⟨"PlaceFinder$Word", "beginsWith", "(LPlaceFinder$Word;)Z"⟩
abbrev y_Wo_soundCode : MethodName := ⟨"PlaceFinder$Word", "soundCode", "()I"⟩
abbrev y_Wo_soundClass : MethodName := ⟨"PlaceFinder$Word", "soundClass", "(I)I"⟩
abbrev y_L_place : MethodName := ⟨"PlaceFinderLaw", "place", "(LPlaceFinder;I[J)I"⟩
abbrev y_L_corner : MethodName := ⟨"PlaceFinderLaw", "corner", "(LPlaceFinder;II[J)I"⟩
abbrev y_L_shape : MethodName := ⟨"PlaceFinderLaw", "shape", "(LPlaceFinder;II)I"⟩
abbrev y_L_name : MethodName := ⟨"PlaceFinderLaw", "name", "(LPlaceFinder;III)I"⟩
abbrev y_L_parent : MethodName := ⟨"PlaceFinderLaw", "parent", "(LPlaceFinder;IIII)I"⟩
abbrev y_L_remove : MethodName := ⟨"PlaceFinderLaw", "remove", "(LPlaceFinder;II)I"⟩
abbrev y_L_condition : MethodName := ⟨"PlaceFinderLaw", "condition", "(LPlaceFinder;IIII[J)I"⟩
abbrev y_L_find : MethodName := ⟨"PlaceFinderLaw", "find", "(LPlaceFinder;II[J)I"⟩
abbrev y_L_near : MethodName := ⟨"PlaceFinderLaw", "near", "(LPlaceFinder;IIIII[J)I"⟩
abbrev y_L_hit : MethodName := ⟨"PlaceFinderLaw", "hit", "(LPlaceFinder;I[J)I"⟩
abbrev y_L_chain : MethodName := ⟨"PlaceFinderLaw", "chain", "(LPlaceFinder;III[J)I"⟩
abbrev y_L_holds : MethodName := ⟨"PlaceFinderLaw", "holds", "(LPlaceFinder;IIII[J)I"⟩
abbrev y_L_errors : MethodName := ⟨"PlaceFinderLaw", "errors", "(LPlaceFinder;II[J)I"⟩
abbrev y_L_watch : MethodName := ⟨"PlaceFinderLaw", "watch", "(LPlaceFinder;II)I"⟩
abbrev y_L_news : MethodName := ⟨"PlaceFinderLaw", "news", "(LPlaceFinder;I[J)I"⟩
abbrev y_L_told : MethodName := ⟨"PlaceFinderLaw", "told", "(LPlaceFinder;I[J)I"⟩
abbrev y_In_bitCount : MethodName := ⟨"java/lang/Integer", "bitCount", "(I)I"⟩
abbrev y_Lo_compare : MethodName := ⟨"java/lang/Long", "compare", "(JJ)I"⟩
abbrev y_Ma_max : MethodName := ⟨"java/lang/Math", "max", "(II)I"⟩
abbrev y_Ma_min : MethodName := ⟨"java/lang/Math", "min", "(II)I"⟩
abbrev y_Ma_min2 : MethodName := ⟨"java/lang/Math", "min", "(JJ)J"⟩
abbrev y_St_charAt : MethodName := ⟨"java/lang/String", "charAt", "(I)C"⟩
abbrev y_St_checkIndex : MethodName := ⟨"java/lang/String", "checkIndex", "(II)V"⟩
abbrev y_St_isLatin1 : MethodName := ⟨"java/lang/String", "isLatin1", "()Z"⟩
abbrev y_Sl_charAt : MethodName := ⟨"java/lang/StringLatin1", "charAt", "([BI)C"⟩
abbrev y_Sv_charAt : MethodName := ⟨"java/lang/StringUTF16", "charAt", "([BI)C"⟩
abbrev y_Sv_checkIndex : MethodName := ⟨"java/lang/StringUTF16", "checkIndex", "(I[B)V"⟩
abbrev y_Sv_getChar : MethodName := ⟨"java/lang/StringUTF16", "getChar", "([BI)C"⟩
abbrev y_Sv_length : MethodName := ⟨"java/lang/StringUTF16", "length", "([B)I"⟩
abbrev y_Ac_init : MethodName := ⟨"java/util/AbstractCollection", "<init>", "()V"⟩
abbrev y_Ab_init : MethodName := ⟨"java/util/AbstractList", "<init>", "()V"⟩
abbrev y_Al_init : MethodName := ⟨"java/util/ArrayList", "<init>", "()V"⟩
abbrev y_Al_add : MethodName := ⟨"java/util/ArrayList", "add", "(Ljava/lang/Object;)Z"⟩
abbrev y_Al_add2 : MethodName := ⟨"java/util/ArrayList", "add", "(Ljava/lang/Object;[Ljava/lang/Object;I)V"⟩
abbrev y_Al_clear : MethodName := ⟨"java/util/ArrayList", "clear", "()V"⟩
abbrev y_Al_elementData : MethodName := ⟨"java/util/ArrayList", "elementData", "(I)Ljava/lang/Object;"⟩
abbrev y_Al_get : MethodName := ⟨"java/util/ArrayList", "get", "(I)Ljava/lang/Object;"⟩
abbrev y_Al_grow : MethodName := ⟨"java/util/ArrayList", "grow", "()[Ljava/lang/Object;"⟩
abbrev y_Al_grow2 : MethodName := ⟨"java/util/ArrayList", "grow", "(I)[Ljava/lang/Object;"⟩
abbrev y_Al_size : MethodName := ⟨"java/util/ArrayList", "size", "()I"⟩
abbrev y_As_copyOf : MethodName := ⟨"java/util/Arrays", "copyOf", "([II)[I"⟩
abbrev y_As_copyOf2 : MethodName := ⟨"java/util/Arrays", "copyOf", "([Ljava/lang/Object;I)[Ljava/lang/Object;"⟩
abbrev y_As_copyOf3 : MethodName := ⟨"java/util/Arrays", "copyOf", "([Ljava/lang/Object;ILjava/lang/Class;)[Ljava/lang/Object;"⟩
abbrev y_Ob_checkIndex : MethodName := ⟨"java/util/Objects", "checkIndex", "(II)I"⟩
abbrev y_Su_hugeLength : MethodName := ⟨"jdk/internal/util/ArraysSupport", "hugeLength", "(II)I"⟩
abbrev y_Su_newLength : MethodName := ⟨"jdk/internal/util/ArraysSupport", "newLength", "(III)I"⟩
abbrev y_Pr_checkIndex : MethodName := ⟨"jdk/internal/util/Preconditions", "checkIndex", "(IILjava/util/function/BiFunction;)I"⟩
theorem tm0 {w : Cond} (h : w ∈ k2_sels lw_privs) : w ∈ lw_tbl := List.mem_append_left _ h
theorem tm1 {w : Cond} (h : w ∈ tables_1_1) : w ∈ lw_tbl := List.mem_append_right _ (show w ∈ tables_1 from List.mem_append_left _ h)
theorem tm2 {w : Cond} (h : w ∈ tables_1_2) : w ∈ lw_tbl := List.mem_append_right _ (show w ∈ tables_1 from List.mem_append_right _ (List.mem_append_left _ h))
theorem tm3 {w : Cond} (h : w ∈ tables_1_3) : w ∈ lw_tbl := List.mem_append_right _ (show w ∈ tables_1 from List.mem_append_right _ (List.mem_append_right _ (List.mem_append_left _ h)))
theorem tm4 {w : Cond} (h : w ∈ tables_1_4) : w ∈ lw_tbl := List.mem_append_right _ (show w ∈ tables_1 from List.mem_append_right _ (List.mem_append_right _ (List.mem_append_right _ (List.mem_append_left _ h))))
theorem tm5 {w : Cond} (h : w ∈ tables_1_5) : w ∈ lw_tbl := List.mem_append_right _ (show w ∈ tables_1 from List.mem_append_right _ (List.mem_append_right _ (List.mem_append_right _ (List.mem_append_right _ (List.mem_append_left _ h)))))
theorem tm6 {w : Cond} (h : w ∈ tables_1_6) : w ∈ lw_tbl := List.mem_append_right _ (show w ∈ tables_1 from List.mem_append_right _ (List.mem_append_right _ (List.mem_append_right _ (List.mem_append_right _ (List.mem_append_right _ (h))))))
def GW : List Cond := lw_tbl.filter goodWord
theorem GW_good : ∀ w ∈ GW, goodWord w = true := fun w h => (List.mem_filter.mp h).2
theorem GW_of {w : Cond} (h : w ∈ lw_tbl) (hg : goodWord w = true) : w ∈ GW := List.mem_filter.mpr ⟨h, hg⟩
/-- words that stay, of other forms -/
def nwOK (w : Cond) : Bool := match w with
  | .fieldLinkNest .. => true
  | .methodLinkNest .. => true
  | .castable .. => true
  | .declares .. => true
  | .arrayOver (.object _) => true
  | .arrayOver (.array .int) => true
  | _ => false
def NW : List Cond := lw_tbl.filter nwOK
theorem NW_of {w : Cond} (h : w ∈ lw_tbl) (hg : nwOK w = true) : w ∈ NW := List.mem_filter.mpr ⟨h, hg⟩
theorem aoa_moved {u U : State} (hvm : u.vm.Alike U.vm) (h : va_Nw (.arrayOver (.array .int)) u) : va_Nw (.arrayOver (.array .int)) U := by
  unfold va_Nw Cond.before Cond.holds at h ⊢
  simp only [Cond.value, beq_iff_eq] at h ⊢
  cases hc : u.vm.findClass (FieldType.array .int).toString with
  | none => simp [hc] at h
  | some comp =>
    simp only [hc, Option.bind_some, Option.bind_eq_some_iff, Option.map_eq_some_iff] at h
    obtain ⟨c, hi, k, hk, hb⟩ := h
    obtain ⟨k', hk', he⟩ := hvm.2.2 _ _ hk
    have hi' : (U.vm.classes.findIdx? fun (x : Class) => match x.kind with | .array component _ => component == comp | _ => false) = some c := by
      have e1 := va_idx_bare U.vm comp
      have e2 := va_idx_bare u.vm comp
      first | rw [hvm.bare_eq] at e2 | rw [← hvm.bare_eq] at e2
      exact (e1.symm.trans e2).trans hi
    have f1 : U.vm.findClass (FieldType.array .int).toString = some comp := by rw [hvm.findClass]; exact hc
    have hkk : k'.kind = k.kind := by rw [he]
    simp only [f1, Option.bind_some, Option.bind_eq_some_iff, Option.map_eq_some_iff]
    refine ⟨c, hi', k', hk', ?_⟩
    rw [hkk, hvm.findClass]
    exact hb
def NN (U : State) : Prop := ∀ w ∈ NW, va_Nw w U
theorem nw_warm {w : Cond} (hw : nwOK w = true) {s U : State} (hW : s.WarmedH U.vm) (h : va_Nw w s) : va_Nw w U := by
  unfold nwOK at hw
  split at hw
  · exact va_Nw.warmF hW h
  · exact va_Nw.warmM hW h
  · exact va_Nw.warmC hW h
  · exact va_Nw.warmD hW h
  · exact va_AO.moved hW.alike h
  · exact aoa_moved hW.alike h
  · cases hw
theorem nw_tab {w : Cond} (hw : nwOK w = true) {u U : State} (hvm : u.vm = U.vm) (h : va_Nw w u) : va_Nw w U := by
  unfold nwOK at hw
  split at hw
  · exact va_Nw.same rfl hvm h
  · exact va_Nw.same rfl hvm h
  · exact va_Nw.same rfl hvm h
  · exact va_Nw.same rfl hvm h
  · exact va_AO.moved (by rw [hvm]; exact Vm.Alike.refl _) h
  · exact aoa_moved (by rw [hvm]; exact Vm.Alike.refl _) h
  · cases hw
theorem NN.warm {s U : State} (hW : s.WarmedH U.vm) (h : NN s) : NN U := fun w hw => nw_warm (List.mem_filter.mp hw).2 hW (h w hw)
theorem NN.same {u U : State} (hvm : u.vm = U.vm) (h : NN u) : NN U := fun w hw => nw_tab (List.mem_filter.mp hw).2 hvm (h w hw)
/-- a static field that holds a reference or null, laid as the tables say -/
def ZL (C n d : String) (A : Nat → Prop) (U : State) (H : Heap) : Prop := ∃ (c : ClassId) (k : Class) (i : Nat) (f : Field) (a : Nat) (cell : Cell) (v : Value), U.vm.findClass C = some c ∧ U.fieldFound? C n d = some (c, k, i, f) ∧ f.isStatic = true ∧ k.statics = some a ∧ H[a]? = some cell ∧ cell.vm.isStatics = true ∧ cell.cls = c ∧ f.slot < cell.slots.size ∧ k.staticTypes[f.slot]? = some f.type ∧ cell.slots[f.slot]? = some v ∧ v.isRef = true ∧ ¬ A a
theorem ZL.moved {C n d : String} {A : Nat → Prop} {u U : State} {H : Heap} (hvm : u.vm.Alike U.vm) (h : ZL C n d A u H) : ZL C n d A U H := by
  obtain ⟨c, k, i, f, a, cell, v, h1, h2, h3, h4, h5, h6, h7, h8, h9, h10⟩ := h
  obtain ⟨k', hi', he⟩ := State.fieldFound?_setVm hvm h2
  exact ⟨c, k', i, f, a, cell, v, by rw [hvm.findClass]; exact h1, hi', h3, by rw [he]; exact h4, h5, h6, h7, h8, by rw [he]; exact h9, h10⟩
theorem ZL.kept {C n d : String} {A : Nat → Prop} {U : State} {H H1 : Heap} (h : ZL C n d A U H) (hq : ∀ a : Nat, a < H.size → ¬ A a → H1[a]? = H[a]?) : ZL C n d A U H1 := by
  obtain ⟨c, k, i, f, a, cell, v, h1, h2, h3, h4, h5, h6, h7, h8, h9, h10, h11, h12⟩ := h
  exact ⟨c, k, i, f, a, cell, v, h1, h2, h3, h4, by rw [hq a (Array.getElem?_eq_some_iff.mp h5).1 h12]; exact h5, h6, h7, h8, h9, h10, h11, h12⟩
theorem ZL.lays {C n d : String} {A : Nat → Prop} {U : State} {args : Array Value} (h : ZL C n d A U U.heap) : (Cond.laysStatic C n d).before args U = true := by
  obtain ⟨c, k, i, f, a, cell, v, h1, h2, h3, h4, h5, h6, h7, h8, h9, h10⟩ := h
  exact Cond.laysStatic_of (args := args) (first := U) (o := none) (idx := []) h1 h2 h3 h4 h5 h6 h7 h8 h9
theorem ZL.isRef {C n d : String} {A : Nat → Prop} {U : State} {args : Array Value} (h : ZL C n d A U U.heap) : (Cond.isRef (.static C n d)).before args U = true := by
  obtain ⟨c, k, i, f, a, cell, v, h1, h2, h3, h4, h5, h6, h7, h8, h9, h10, h11, -⟩ := h
  have he : (Term.static C n d).eval args U none [] U = some v := by
    simp [Term.eval, State.fieldNamed?, h2, h3, h4, h5, h6, h10]
  simp only [Cond.before, Cond.holds, Cond.value, he]
  cases v <;> simp_all [Value.isRef]
/-- the text of the sound kinds, as bytes -/
def scb : List Int32 := [48, 49, 50, 51, 48, 49, 50, 48, 48, 50, 50, 52, 53, 53, 48, 49, 50, 54, 50, 51, 48, 49, 48, 50, 48, 50]
/-- the texts that throwers load -/
def srefs : List (String × Nat × String) := [("PlaceFinder", 93, "no such kind"), ("PlaceFinder", 104, "there are thirty places"), ("PlaceFinder", 120, "no such coordinates"), ("PlaceFinder", 122, "there are eight corners"), ("PlaceFinder", 131, "no such place or day"), ("PlaceFinder", 140, "neither a point nor an area"), ("PlaceFinder", 145, "three shapes, or one of this day or a later one"), ("PlaceFinder", 154, "no such place or span, or nothing is typed"), ("PlaceFinder", 159, "it has two names"), ("PlaceFinder", 166, "no such places or span"), ("PlaceFinder", 173, "it has a parent for a day of the span"), ("PlaceFinder", 183, "it would be above itself, or it has four spans"), ("PlaceFinder", 193, "it is removed on that day already"), ("PlaceFinder", 202, "no such condition"), ("PlaceFinder", 204, "nothing is typed"), ("PlaceFinder", 206, "there are five conditions"), ("PlaceFinder", 211, "no such day or order"), ("PlaceFinder", 241, "no such coordinates, n, kind or day"), ("PlaceFinder", 259, "no such hit"), ("PlaceFinder", 265, "no such place or day, or i is below 0"), ("PlaceFinder", 273, "no such place, coordinates or day"), ("PlaceFinder", 287, "no such place or name, or nothing is typed"), ("PlaceFinder", 297, "no such watch or day"), ("PlaceFinder", 306, "no such watch, or it was not set")]
def SS (U : State) : Prop := ∀ q ∈ srefs, ∃ a, vk_R q.1 q.2.1 q.2.2 a U
def NC (C T : String) (U : State) : Prop := ∃ c t : ClassId, U.vm.findClass C = some c ∧ U.vm.findClass T = some t ∧ U.vm.assignable c t = false
theorem NC.moved {C T : String} {u U : State} (hvm : u.vm.Alike U.vm) (h : NC C T u) : NC C T U := by
  obtain ⟨c, t, h1, h2, h3⟩ := h
  exact ⟨c, t, by rw [hvm.findClass]; exact h1, by rw [hvm.findClass]; exact h2, by rw [hvm.assignable]; exact h3⟩
/-- pairs of which the first can't be cast to the second -/
def ncs : List (String × String) := [("java/lang/IllegalStateException", "java/lang/IllegalArgumentException"), ("java/lang/UnsupportedOperationException", "java/lang/IllegalArgumentException"), ("java/lang/IllegalStateException", "java/lang/UnsupportedOperationException")]
/-- (the empty element array, the mirror of Object[], the text's object, its bytes, the formatter) -/
abbrev HD : Type := Nat × Nat × Nat × Nat × Option Nat
def O1 (hd : HD) (A : Nat → Prop) (U : State) (H : Heap) : Prop :=
  va_Z "java/util/ArrayList" "DEFAULTCAPACITY_EMPTY_ELEMENTDATA" "[Ljava/lang/Object;" (.ref hd.1) A U H ∧ va_T (.object "java/lang/Object") hd.1 0 (fun _ => .null) A U H ∧ va_Mi "[Ljava/lang/Object;" hd.2.1 U ∧
  va_O "java/lang/String" hd.2.2.1 A U H ∧ va_OF "java/lang/String" "coder" "B" (.int 0) hd.2.2.1 A U H ∧ va_OF "java/lang/String" "value" "[B" (.ref hd.2.2.2.1) hd.2.2.1 A U H ∧ va_T .byte hd.2.2.2.1 26 (fun j => .int (scb.getD j 0)) A U H ∧ va_Z "java/lang/String" "COMPACT_STRINGS" "Z" (.int 1) A U H ∧
  ZL "java/lang/Throwable" "UNASSIGNED_STACK" "[Ljava/lang/StackTraceElement;" A U H ∧ ZL "java/lang/Throwable" "SUPPRESSED_SENTINEL" "Ljava/util/List;" A U H ∧ va_Z "jdk/internal/util/Preconditions" "SIOOBE_FORMATTER" "Ljava/util/function/BiFunction;" (va_rf hd.2.2.2.2) A U H
theorem O1.moved {hd : HD} {A : Nat → Prop} {u U : State} {H : Heap} (hvm : u.vm.Alike U.vm) (h : O1 hd A u H) : O1 hd A U H := by
  obtain ⟨h1, h2, h3, h4, h5, h6, h7, h8, h9, h10, h11⟩ := h
  exact ⟨h1.moved hvm, h2.moved hvm, h3.moved hvm, h4.moved hvm, h5.moved hvm, h6.moved hvm, h7.moved hvm, h8.moved hvm, h9.moved hvm, h10.moved hvm, h11.moved hvm⟩
theorem O1.kept {hd : HD} {A : Nat → Prop} {U : State} {H H1 : Heap} (h : O1 hd A U H) (hq : ∀ a : Nat, a < H.size → ¬ A a → H1[a]? = H[a]?) : O1 hd A U H1 := by
  obtain ⟨h1, h2, h3, h4, h5, h6, h7, h8, h9, h10, h11⟩ := h
  exact ⟨h1.kept hq, h2.kept hq, h3, h4.kept hq, h5.kept hq, h6.kept hq, h7.kept hq, h8.kept hq, h9.kept hq, h10.kept hq, h11.kept hq⟩
def OO (hd : HD) (lo : Nat) (U : State) (H : Heap) : Prop := O1 hd (fun q => lo ≤ q) U H ∧ vk_R "PlaceFinder$Word" 29 "01230120022455012623010202" hd.2.2.1 U ∧ SS U ∧ ∀ q ∈ ncs, NC q.1 q.2 U
theorem OO.kept {hd : HD} {lo : Nat} {U : State} {H H1 : Heap} (h : OO hd lo U H) (hq : ∀ a : Nat, a < H.size → ¬ lo ≤ a → H1[a]? = H[a]?) : OO hd lo U H1 := ⟨h.1.kept hq, h.2⟩
theorem OO.warm {hd : HD} {lo : Nat} {s U : State} {H : Heap} (hW : s.WarmedH U.vm) (h : OO hd lo s H) : OO hd lo U H := ⟨h.1.moved hW.alike, h.2.1.warm hW, fun q hq => by
  obtain ⟨a, ha⟩ := h.2.2.1 q hq
  exact ⟨a, ha.warm hW⟩, fun q hq => (h.2.2.2 q hq).moved hW.alike⟩
theorem OO.same {hd : HD} {lo : Nat} {u U : State} {H : Heap} (hvm : u.vm = U.vm) (h : OO hd lo u H) : OO hd lo U H := ⟨h.1.moved (by rw [hvm]; exact Vm.Alike.refl _), h.2.1.same hvm.symm, fun q hq => by
  obtain ⟨a, ha⟩ := h.2.2.1 q hq
  exact ⟨a, ha.same hvm.symm⟩, fun q hq => (h.2.2.2 q hq).moved (by rw [hvm]; exact Vm.Alike.refl _)⟩
theorem ZL.narrow {C n d : String} {A B : Nat → Prop} {U : State} {H : Heap} (h : ZL C n d A U H) (hAB : ∀ q, B q → A q) : ZL C n d B U H := by
  obtain ⟨c, k, i, f, a, cell, v, h1, h2, h3, h4, h5, h6, h7, h8, h9, h10, h11, h12⟩ := h
  exact ⟨c, k, i, f, a, cell, v, h1, h2, h3, h4, h5, h6, h7, h8, h9, h10, h11, fun z => h12 (hAB a z)⟩
theorem O1.narrow {hd : HD} {A B : Nat → Prop} {U : State} {H : Heap} (h : O1 hd A U H) (hAB : ∀ q, B q → A q) : O1 hd B U H := by
  obtain ⟨h1, h2, h3, h4, h5, h6, h7, h8, h9, h10, h11⟩ := h
  exact ⟨h1.narrow hAB, h2.narrow hAB, h3, h4.narrow hAB, h5.narrow hAB, h6.narrow hAB, h7.narrow hAB, h8.narrow hAB, h9.narrow hAB, h10.narrow hAB, h11.narrow hAB⟩
theorem OO.up {hd : HD} {lo lo' : Nat} {U : State} {H : Heap} (h : OO hd lo U H) (hl : lo ≤ lo') : OO hd lo' U H := ⟨h.1.narrow (fun _ hq => Nat.le_trans hl hq), h.2⟩
theorem n_Al : ∀ a, a < 3 → ∀ b, b < 3 → a ≠ b → (T_Al a).2.1 ≠ (T_Al b).2.1 := by decide +kernel
theorem t_Al_ok : ∀ k, k < 3 → parseFieldDescriptor (T_Al k).2.2.1 = some (t_Al k) := by decide +kernel
theorem uk_Al : ∀ k, k < 3 → u_lay "java/util/ArrayList" T_Al k ∈ GW := fun k hk => match k, hk with
  | 0, _ => GW_of (tm1 (List.mem_of_getElem? (i := 62) (by decide +kernel))) rfl
  | 1, _ => GW_of (tm1 (List.mem_of_getElem? (i := 64) (by decide +kernel))) rfl
  | 2, _ => GW_of (tm1 (List.mem_of_getElem? (i := 66) (by decide +kernel))) rfl
theorem uw_Al : ∀ w ∈ u_ws "java/util/ArrayList" T_Al 3, w ∈ GW := fun w hw => by
  obtain ⟨k, hk, rfl⟩ := List.mem_map.mp hw
  exact uk_Al k (List.mem_range.mp hk)
theorem n_Cn : ∀ a, a < 5 → ∀ b, b < 5 → a ≠ b → (T_Cn a).2.1 ≠ (T_Cn b).2.1 := by decide +kernel
theorem t_Cn_ok : ∀ k, k < 5 → parseFieldDescriptor (T_Cn k).2.2.1 = some (t_Cn k) := by decide +kernel
theorem uk_Cn : ∀ k, k < 5 → u_lay "PlaceFinder$Condition" T_Cn k ∈ GW := fun k hk => match k, hk with
  | 0, _ => GW_of (tm1 (List.mem_of_getElem? (i := 198) (by decide +kernel))) rfl
  | 1, _ => GW_of (tm1 (List.mem_of_getElem? (i := 200) (by decide +kernel))) rfl
  | 2, _ => GW_of (tm1 (List.mem_of_getElem? (i := 202) (by decide +kernel))) rfl
  | 3, _ => GW_of (tm1 (List.mem_of_getElem? (i := 204) (by decide +kernel))) rfl
  | 4, _ => GW_of (tm1 (List.mem_of_getElem? (i := 206) (by decide +kernel))) rfl
theorem uw_Cn : ∀ w ∈ u_ws "PlaceFinder$Condition" T_Cn 5, w ∈ GW := fun w hw => by
  obtain ⟨k, hk, rfl⟩ := List.mem_map.mp hw
  exact uk_Cn k (List.mem_range.mp hk)
theorem n_Co : ∀ a, a < 3 → ∀ b, b < 3 → a ≠ b → (T_Co a).2.1 ≠ (T_Co b).2.1 := by decide +kernel
theorem t_Co_ok : ∀ k, k < 3 → parseFieldDescriptor (T_Co k).2.2.1 = some (t_Co k) := by decide +kernel
theorem uk_Co : ∀ k, k < 3 → u_lay "PlaceFinder$Corners" T_Co k ∈ GW := fun k hk => match k, hk with
  | 0, _ => GW_of (tm1 (List.mem_of_getElem? (i := 97) (by decide +kernel))) rfl
  | 1, _ => GW_of (tm1 (List.mem_of_getElem? (i := 99) (by decide +kernel))) rfl
  | 2, _ => GW_of (tm1 (List.mem_of_getElem? (i := 101) (by decide +kernel))) rfl
theorem uw_Co : ∀ w ∈ u_ws "PlaceFinder$Corners" T_Co 3, w ∈ GW := fun w hw => by
  obtain ⟨k, hk, rfl⟩ := List.mem_map.mp hw
  exact uk_Co k (List.mem_range.mp hk)
theorem n_Ec : ∀ a, a < 1 → ∀ b, b < 1 → a ≠ b → (T_Ec a).2.1 ≠ (T_Ec b).2.1 := by decide +kernel
theorem t_Ec_ok : ∀ k, k < 1 → parseFieldDescriptor (T_Ec k).2.2.1 = some (t_Ec k) := by decide +kernel
theorem uk_Ec : ∀ k, k < 1 → u_lay "PlaceFinder$ErrorCounter" T_Ec k ∈ GW := fun k hk => match k, hk with
  | 0, _ => GW_of (tm1 (List.mem_of_getElem? (i := 136) (by decide +kernel))) rfl
theorem uw_Ec : ∀ w ∈ u_ws "PlaceFinder$ErrorCounter" T_Ec 1, w ∈ GW := fun w hw => by
  obtain ⟨k, hk, rfl⟩ := List.mem_map.mp hw
  exact uk_Ec k (List.mem_range.mp hk)
theorem n_Hi : ∀ a, a < 3 → ∀ b, b < 3 → a ≠ b → (T_Hi a).2.1 ≠ (T_Hi b).2.1 := by decide +kernel
theorem t_Hi_ok : ∀ k, k < 3 → parseFieldDescriptor (T_Hi k).2.2.1 = some (t_Hi k) := by decide +kernel
theorem uk_Hi : ∀ k, k < 3 → u_lay "PlaceFinder$Hits" T_Hi k ∈ GW := fun k hk => match k, hk with
  | 0, _ => GW_of (tm1 (List.mem_of_getElem? (i := 118) (by decide +kernel))) rfl
  | 1, _ => GW_of (tm1 (List.mem_of_getElem? (i := 120) (by decide +kernel))) rfl
  | 2, _ => GW_of (tm1 (List.mem_of_getElem? (i := 122) (by decide +kernel))) rfl
theorem uw_Hi : ∀ w ∈ u_ws "PlaceFinder$Hits" T_Hi 3, w ∈ GW := fun w hw => by
  obtain ⟨k, hk, rfl⟩ := List.mem_map.mp hw
  exact uk_Hi k (List.mem_range.mp hk)
theorem n_Li : ∀ a, a < 3 → ∀ b, b < 3 → a ≠ b → (T_Li a).2.1 ≠ (T_Li b).2.1 := by decide +kernel
theorem t_Li_ok : ∀ k, k < 3 → parseFieldDescriptor (T_Li k).2.2.1 = some (t_Li k) := by decide +kernel
theorem uk_Li : ∀ k, k < 3 → u_lay "PlaceFinder$Link" T_Li k ∈ GW := fun k hk => match k, hk with
  | 0, _ => GW_of (tm3 (List.mem_of_getElem? (i := 184) (by decide +kernel))) rfl
  | 1, _ => GW_of (tm3 (List.mem_of_getElem? (i := 186) (by decide +kernel))) rfl
  | 2, _ => GW_of (tm3 (List.mem_of_getElem? (i := 188) (by decide +kernel))) rfl
theorem uw_Li : ∀ w ∈ u_ws "PlaceFinder$Link" T_Li 3, w ∈ GW := fun w hw => by
  obtain ⟨k, hk, rfl⟩ := List.mem_map.mp hw
  exact uk_Li k (List.mem_range.mp hk)
theorem n_Na : ∀ a, a < 3 → ∀ b, b < 3 → a ≠ b → (T_Na a).2.1 ≠ (T_Na b).2.1 := by decide +kernel
theorem t_Na_ok : ∀ k, k < 3 → parseFieldDescriptor (T_Na k).2.2.1 = some (t_Na k) := by decide +kernel
theorem uk_Na : ∀ k, k < 3 → u_lay "PlaceFinder$Name" T_Na k ∈ GW := fun k hk => match k, hk with
  | 0, _ => GW_of (tm3 (List.mem_of_getElem? (i := 123) (by decide +kernel))) rfl
  | 1, _ => GW_of (tm3 (List.mem_of_getElem? (i := 125) (by decide +kernel))) rfl
  | 2, _ => GW_of (tm3 (List.mem_of_getElem? (i := 127) (by decide +kernel))) rfl
theorem uw_Na : ∀ w ∈ u_ws "PlaceFinder$Name" T_Na 3, w ∈ GW := fun w hw => by
  obtain ⟨k, hk, rfl⟩ := List.mem_map.mp hw
  exact uk_Na k (List.mem_range.mp hk)
theorem n_Pl : ∀ a, a < 7 → ∀ b, b < 7 → a ≠ b → (T_Pl a).2.1 ≠ (T_Pl b).2.1 := by decide +kernel
theorem t_Pl_ok : ∀ k, k < 7 → parseFieldDescriptor (T_Pl k).2.2.1 = some (t_Pl k) := by decide +kernel
theorem uk_Pl : ∀ k, k < 7 → u_lay "PlaceFinder$Place" T_Pl k ∈ GW := fun k hk => match k, hk with
  | 0, _ => GW_of (tm2 (List.mem_of_getElem? (i := 200) (by decide +kernel))) rfl
  | 1, _ => GW_of (tm2 (List.mem_of_getElem? (i := 202) (by decide +kernel))) rfl
  | 2, _ => GW_of (tm2 (List.mem_of_getElem? (i := 204) (by decide +kernel))) rfl
  | 3, _ => GW_of (tm2 (List.mem_of_getElem? (i := 206) (by decide +kernel))) rfl
  | 4, _ => GW_of (tm2 (List.mem_of_getElem? (i := 208) (by decide +kernel))) rfl
  | 5, _ => GW_of (tm2 (List.mem_of_getElem? (i := 210) (by decide +kernel))) rfl
  | 6, _ => GW_of (tm2 (List.mem_of_getElem? (i := 212) (by decide +kernel))) rfl
theorem uw_Pl : ∀ w ∈ u_ws "PlaceFinder$Place" T_Pl 7, w ∈ GW := fun w hw => by
  obtain ⟨k, hk, rfl⟩ := List.mem_map.mp hw
  exact uk_Pl k (List.mem_range.mp hk)
theorem n_Rs : ∀ a, a < 6 → ∀ b, b < 6 → a ≠ b → (T_Rs a).2.1 ≠ (T_Rs b).2.1 := by decide +kernel
theorem t_Rs_ok : ∀ k, k < 6 → parseFieldDescriptor (T_Rs k).2.2.1 = some (t_Rs k) := by decide +kernel
theorem uk_Rs : ∀ k, k < 6 → u_lay "PlaceFinder$RouteSearch" T_Rs k ∈ GW := fun k hk => match k, hk with
  | 0, _ => GW_of (tm1 (List.mem_of_getElem? (i := 151) (by decide +kernel))) rfl
  | 1, _ => GW_of (tm1 (List.mem_of_getElem? (i := 153) (by decide +kernel))) rfl
  | 2, _ => GW_of (tm1 (List.mem_of_getElem? (i := 155) (by decide +kernel))) rfl
  | 3, _ => GW_of (tm1 (List.mem_of_getElem? (i := 157) (by decide +kernel))) rfl
  | 4, _ => GW_of (tm1 (List.mem_of_getElem? (i := 159) (by decide +kernel))) rfl
  | 5, _ => GW_of (tm1 (List.mem_of_getElem? (i := 161) (by decide +kernel))) rfl
theorem uw_Rs : ∀ w ∈ u_ws "PlaceFinder$RouteSearch" T_Rs 6, w ∈ GW := fun w hw => by
  obtain ⟨k, hk, rfl⟩ := List.mem_map.mp hw
  exact uk_Rs k (List.mem_range.mp hk)
theorem n_Wa : ∀ a, a < 4 → ∀ b, b < 4 → a ≠ b → (T_Wa a).2.1 ≠ (T_Wa b).2.1 := by decide +kernel
theorem t_Wa_ok : ∀ k, k < 4 → parseFieldDescriptor (T_Wa k).2.2.1 = some (t_Wa k) := by decide +kernel
theorem uk_Wa : ∀ k, k < 4 → u_lay "PlaceFinder$Watch" T_Wa k ∈ GW := fun k hk => match k, hk with
  | 0, _ => GW_of (tm4 (List.mem_of_getElem? (i := 230) (by decide +kernel))) rfl
  | 1, _ => GW_of (tm4 (List.mem_of_getElem? (i := 232) (by decide +kernel))) rfl
  | 2, _ => GW_of (tm4 (List.mem_of_getElem? (i := 234) (by decide +kernel))) rfl
  | 3, _ => GW_of (tm4 (List.mem_of_getElem? (i := 236) (by decide +kernel))) rfl
theorem uw_Wa : ∀ w ∈ u_ws "PlaceFinder$Watch" T_Wa 4, w ∈ GW := fun w hw => by
  obtain ⟨k, hk, rfl⟩ := List.mem_map.mp hw
  exact uk_Wa k (List.mem_range.mp hk)
theorem n_Wo : ∀ a, a < 2 → ∀ b, b < 2 → a ≠ b → (T_Wo a).2.1 ≠ (T_Wo b).2.1 := by decide +kernel
theorem t_Wo_ok : ∀ k, k < 2 → parseFieldDescriptor (T_Wo k).2.2.1 = some (t_Wo k) := by decide +kernel
theorem uk_Wo : ∀ k, k < 2 → u_lay "PlaceFinder$Word" T_Wo k ∈ GW := fun k hk => match k, hk with
  | 0, _ => GW_of (tm1 (List.mem_of_getElem? (i := 179) (by decide +kernel))) rfl
  | 1, _ => GW_of (tm1 (List.mem_of_getElem? (i := 181) (by decide +kernel))) rfl
theorem uw_Wo : ∀ w ∈ u_ws "PlaceFinder$Word" T_Wo 2, w ∈ GW := fun w hw => by
  obtain ⟨k, hk, rfl⟩ := List.mem_map.mp hw
  exact uk_Wo k (List.mem_range.mp hk)
theorem n_P : ∀ a, a < 13 → ∀ b, b < 13 → a ≠ b → (T_P a).2.1 ≠ (T_P b).2.1 := by decide +kernel
theorem t_P_ok : ∀ k, k < 13 → parseFieldDescriptor (T_P k).2.2.1 = some (t_P k) := by decide +kernel
theorem uk_P : ∀ k, k < 13 → u_lay "PlaceFinder" T_P k ∈ GW := fun k hk => match k, hk with
  | 0, _ => GW_of (tm1 (List.mem_of_getElem? (i := 222) (by decide +kernel))) rfl
  | 1, _ => GW_of (tm1 (List.mem_of_getElem? (i := 224) (by decide +kernel))) rfl
  | 2, _ => GW_of (tm1 (List.mem_of_getElem? (i := 226) (by decide +kernel))) rfl
  | 3, _ => GW_of (tm1 (List.mem_of_getElem? (i := 228) (by decide +kernel))) rfl
  | 4, _ => GW_of (tm1 (List.mem_of_getElem? (i := 230) (by decide +kernel))) rfl
  | 5, _ => GW_of (tm1 (List.mem_of_getElem? (i := 232) (by decide +kernel))) rfl
  | 6, _ => GW_of (tm1 (List.mem_of_getElem? (i := 234) (by decide +kernel))) rfl
  | 7, _ => GW_of (tm1 (List.mem_of_getElem? (i := 236) (by decide +kernel))) rfl
  | 8, _ => GW_of (tm1 (List.mem_of_getElem? (i := 238) (by decide +kernel))) rfl
  | 9, _ => GW_of (tm2 (List.mem_of_getElem? (i := 0) (by decide +kernel))) rfl
  | 10, _ => GW_of (tm2 (List.mem_of_getElem? (i := 2) (by decide +kernel))) rfl
  | 11, _ => GW_of (tm2 (List.mem_of_getElem? (i := 4) (by decide +kernel))) rfl
  | 12, _ => GW_of (tm2 (List.mem_of_getElem? (i := 6) (by decide +kernel))) rfl
theorem uw_P : ∀ w ∈ u_ws "PlaceFinder" T_P 13, w ∈ GW := fun w hw => by
  obtain ⟨k, hk, rfl⟩ := List.mem_map.mp hw
  exact uk_P k (List.mem_range.mp hk)
theorem n_M : ∀ a, a < 55 → ∀ b, b < 55 → a ≠ b → (T_M a).2.1 ≠ (T_M b).2.1 := by decide +kernel
theorem t_M_ok : ∀ k, k < 55 → parseFieldDescriptor (T_M k).2.2.1 = some (t_M k) := by decide +kernel
theorem uk_M : ∀ k, k < 55 → u_lay "PlaceFinderModel" T_M k ∈ GW := fun k hk => match k, hk with
  | 0, _ => GW_of (tm5 (List.mem_of_getElem? (i := 89) (by decide +kernel))) rfl
  | 1, _ => GW_of (tm5 (List.mem_of_getElem? (i := 91) (by decide +kernel))) rfl
  | 2, _ => GW_of (tm5 (List.mem_of_getElem? (i := 93) (by decide +kernel))) rfl
  | 3, _ => GW_of (tm5 (List.mem_of_getElem? (i := 95) (by decide +kernel))) rfl
  | 4, _ => GW_of (tm5 (List.mem_of_getElem? (i := 97) (by decide +kernel))) rfl
  | 5, _ => GW_of (tm5 (List.mem_of_getElem? (i := 99) (by decide +kernel))) rfl
  | 6, _ => GW_of (tm5 (List.mem_of_getElem? (i := 101) (by decide +kernel))) rfl
  | 7, _ => GW_of (tm5 (List.mem_of_getElem? (i := 103) (by decide +kernel))) rfl
  | 8, _ => GW_of (tm5 (List.mem_of_getElem? (i := 105) (by decide +kernel))) rfl
  | 9, _ => GW_of (tm5 (List.mem_of_getElem? (i := 107) (by decide +kernel))) rfl
  | 10, _ => GW_of (tm5 (List.mem_of_getElem? (i := 109) (by decide +kernel))) rfl
  | 11, _ => GW_of (tm5 (List.mem_of_getElem? (i := 111) (by decide +kernel))) rfl
  | 12, _ => GW_of (tm5 (List.mem_of_getElem? (i := 113) (by decide +kernel))) rfl
  | 13, _ => GW_of (tm5 (List.mem_of_getElem? (i := 115) (by decide +kernel))) rfl
  | 14, _ => GW_of (tm5 (List.mem_of_getElem? (i := 117) (by decide +kernel))) rfl
  | 15, _ => GW_of (tm5 (List.mem_of_getElem? (i := 119) (by decide +kernel))) rfl
  | 16, _ => GW_of (tm5 (List.mem_of_getElem? (i := 121) (by decide +kernel))) rfl
  | 17, _ => GW_of (tm5 (List.mem_of_getElem? (i := 123) (by decide +kernel))) rfl
  | 18, _ => GW_of (tm5 (List.mem_of_getElem? (i := 125) (by decide +kernel))) rfl
  | 19, _ => GW_of (tm5 (List.mem_of_getElem? (i := 127) (by decide +kernel))) rfl
  | 20, _ => GW_of (tm5 (List.mem_of_getElem? (i := 129) (by decide +kernel))) rfl
  | 21, _ => GW_of (tm5 (List.mem_of_getElem? (i := 131) (by decide +kernel))) rfl
  | 22, _ => GW_of (tm5 (List.mem_of_getElem? (i := 133) (by decide +kernel))) rfl
  | 23, _ => GW_of (tm5 (List.mem_of_getElem? (i := 135) (by decide +kernel))) rfl
  | 24, _ => GW_of (tm5 (List.mem_of_getElem? (i := 137) (by decide +kernel))) rfl
  | 25, _ => GW_of (tm5 (List.mem_of_getElem? (i := 139) (by decide +kernel))) rfl
  | 26, _ => GW_of (tm5 (List.mem_of_getElem? (i := 141) (by decide +kernel))) rfl
  | 27, _ => GW_of (tm5 (List.mem_of_getElem? (i := 143) (by decide +kernel))) rfl
  | 28, _ => GW_of (tm5 (List.mem_of_getElem? (i := 145) (by decide +kernel))) rfl
  | 29, _ => GW_of (tm5 (List.mem_of_getElem? (i := 147) (by decide +kernel))) rfl
  | 30, _ => GW_of (tm5 (List.mem_of_getElem? (i := 149) (by decide +kernel))) rfl
  | 31, _ => GW_of (tm5 (List.mem_of_getElem? (i := 151) (by decide +kernel))) rfl
  | 32, _ => GW_of (tm5 (List.mem_of_getElem? (i := 153) (by decide +kernel))) rfl
  | 33, _ => GW_of (tm5 (List.mem_of_getElem? (i := 155) (by decide +kernel))) rfl
  | 34, _ => GW_of (tm5 (List.mem_of_getElem? (i := 157) (by decide +kernel))) rfl
  | 35, _ => GW_of (tm5 (List.mem_of_getElem? (i := 159) (by decide +kernel))) rfl
  | 36, _ => GW_of (tm5 (List.mem_of_getElem? (i := 161) (by decide +kernel))) rfl
  | 37, _ => GW_of (tm5 (List.mem_of_getElem? (i := 163) (by decide +kernel))) rfl
  | 38, _ => GW_of (tm5 (List.mem_of_getElem? (i := 165) (by decide +kernel))) rfl
  | 39, _ => GW_of (tm5 (List.mem_of_getElem? (i := 167) (by decide +kernel))) rfl
  | 40, _ => GW_of (tm5 (List.mem_of_getElem? (i := 169) (by decide +kernel))) rfl
  | 41, _ => GW_of (tm5 (List.mem_of_getElem? (i := 171) (by decide +kernel))) rfl
  | 42, _ => GW_of (tm5 (List.mem_of_getElem? (i := 173) (by decide +kernel))) rfl
  | 43, _ => GW_of (tm5 (List.mem_of_getElem? (i := 175) (by decide +kernel))) rfl
  | 44, _ => GW_of (tm5 (List.mem_of_getElem? (i := 177) (by decide +kernel))) rfl
  | 45, _ => GW_of (tm5 (List.mem_of_getElem? (i := 179) (by decide +kernel))) rfl
  | 46, _ => GW_of (tm5 (List.mem_of_getElem? (i := 181) (by decide +kernel))) rfl
  | 47, _ => GW_of (tm5 (List.mem_of_getElem? (i := 183) (by decide +kernel))) rfl
  | 48, _ => GW_of (tm5 (List.mem_of_getElem? (i := 185) (by decide +kernel))) rfl
  | 49, _ => GW_of (tm5 (List.mem_of_getElem? (i := 187) (by decide +kernel))) rfl
  | 50, _ => GW_of (tm5 (List.mem_of_getElem? (i := 189) (by decide +kernel))) rfl
  | 51, _ => GW_of (tm5 (List.mem_of_getElem? (i := 191) (by decide +kernel))) rfl
  | 52, _ => GW_of (tm5 (List.mem_of_getElem? (i := 193) (by decide +kernel))) rfl
  | 53, _ => GW_of (tm5 (List.mem_of_getElem? (i := 195) (by decide +kernel))) rfl
  | 54, _ => GW_of (tm5 (List.mem_of_getElem? (i := 197) (by decide +kernel))) rfl
  | k + 55, h => absurd h (Nat.not_lt.mpr (Nat.le_add_left 55 k))
theorem uw_M : ∀ w ∈ u_ws "PlaceFinderModel" T_M 55, w ∈ GW := fun w hw => by
  obtain ⟨k, hk, rfl⟩ := List.mem_map.mp hw
  exact uk_M k (List.mem_range.mp hk)
end
section
/-! the memory as a function: (empty element array of lists, write floor, size of the heap, cells) -/
abbrev ME : Type := (Nat × vp_A) ⊕ (Nat × List Value)
abbrev GG : Type := va_G × (Nat → ClassId)
abbrev Mem : Type := HD × Nat × Nat × (Nat → Option ME)
abbrev mE (μ : Mem) : HD := μ.1
abbrev mD (μ : Mem) : Nat := μ.1.1
abbrev mC (μ : Mem) : Nat := μ.1.2.1
abbrev mS (μ : Mem) : Nat := μ.1.2.2.1
abbrev mV (μ : Mem) : Nat := μ.1.2.2.2.1
abbrev mB (μ : Mem) : Option Nat := μ.1.2.2.2.2
abbrev mW (μ : Mem) : Nat := μ.2.1
abbrev mN (μ : Mem) : Nat := μ.2.2.1
abbrev mF (μ : Mem) : Nat → Option ME := μ.2.2.2
def m_set (μ : Mem) (a : Nat) (e : ME) : Mem := (mE μ, mW μ, mN μ, va_up (mF μ) a (some e))
def m_push (μ : Mem) (e : ME) : Mem := (mE μ, mW μ, mN μ + 1, va_up (mF μ) (mN μ) (some e))
/-- values with their kinds -/
abbrev TV : Type := Int32 ⊕ Int64 ⊕ Option Nat
abbrev vI (x : Int32) : TV := .inl x
abbrev vL (x : Int64) : TV := .inr (.inl x)
abbrev vR (x : Option Nat) : TV := .inr (.inr x)
def tv (v : TV) : Value := match v with
  | .inl x => .int x
  | .inr (.inl x) => .long x
  | .inr (.inr x) => va_rf x
def tcat (v : TV) : Nat := match v with
  | .inl _ => 1
  | .inr (.inl _) => 2
  | .inr (.inr _) => 1
theorem tcat_eq (v : TV) : tcat v = (tv v).category := by
  match v with
  | .inl _ => rfl
  | .inr (.inl _) => rfl
  | .inr (.inr none) => rfl
  | .inr (.inr (some _)) => rfl
abbrev tvl (lv : List (Nat × TV)) : List (Nat × Value) := lv.map (fun q => (q.1, tv q.2))
theorem tv_get {lv : List (Nat × TV)} {j i : Nat} {v : TV} (h : lv[j]? = some (i, v)) : (tvl lv)[j]? = some (i, tv v) := by
  rw [List.getElem?_map, h]; rfl
theorem tv_at {ls : Array Slot} {nL : Nat} {lv : List (Nat × TV)} (hl : lv_has ls nL (tvl lv)) {j i : Nat} {v : TV} (h : lv[j]? = some (i, v)) : ls[i]? = some (.val (tv v)) := lv_at hl j (tv_get h)
def tv_s1 (i : Nat) (v : TV) (lv : List (Nat × TV)) : List (Nat × TV) := (i, v) :: lv.filter (fun q => !(q.1 == i) && !(q.1 + 1 == i && tcat q.2 == 2))
def tv_s2 (i : Nat) (v : TV) (lv : List (Nat × TV)) : List (Nat × TV) := (i, v) :: lv.filter (fun q => !(q.1 == i) && (!(q.1 == i + 1) && !(q.1 + 1 == i && tcat q.2 == 2)))
theorem tv_filt (f : Nat × TV → Bool) (g : Nat × Value → Bool) (h : ∀ q, f q = g (q.1, tv q.2)) (lv : List (Nat × TV)) : (tvl lv).filter g = tvl (lv.filter f) := by
  induction lv with
  | nil => rfl
  | cons a r ih =>
    show List.filter g ((a.1, tv a.2) :: tvl r) = tvl (List.filter f (a :: r))
    rw [List.filter_cons, List.filter_cons, h a, ih]
    split <;> rfl
theorem tv_s1_eq (i : Nat) (v : TV) (lv : List (Nat × TV)) : (i, tv v) :: (tvl lv).filter (fun q => !(q.1 == i) && !(q.1 + 1 == i && q.2.category == 2)) = tvl (tv_s1 i v lv) := by
  rw [tv_filt (fun q => !(q.1 == i) && !(q.1 + 1 == i && tcat q.2 == 2)) _ (fun q => by rw [tcat_eq])]
  rfl
theorem tv_s2_eq (i : Nat) (v : TV) (lv : List (Nat × TV)) : (i, tv v) :: (tvl lv).filter (fun q => !(q.1 == i) && (!(q.1 == i + 1) && !(q.1 + 1 == i && q.2.category == 2))) = tvl (tv_s2 i v lv) := by
  rw [tv_filt (fun q => !(q.1 == i) && (!(q.1 == i + 1) && !(q.1 + 1 == i && tcat q.2 == 2))) _ (fun q => by rw [tcat_eq])]
  rfl
def tv_args : Nat → List TV → List (Nat × TV)
  | _, [] => []
  | i, v :: r => (i, v) :: tv_args (i + tcat v) r
theorem tv_args_eq (i : Nat) (av : List TV) : lv_args i (av.map tv) = tvl (tv_args i av) := by
  induction av generalizing i with
  | nil => rfl
  | cons v r ih =>
    show lv_args i (tv v :: r.map tv) = (i, tv v) :: tvl (tv_args (i + tcat v) r)
    rw [← ih, tcat_eq]
    match v with
    | .inl _ => rfl
    | .inr (.inl _) => rfl
    | .inr (.inr none) => rfl
    | .inr (.inr (some _)) => rfl
theorem tv_len (av : List TV) : (lg_sl (av.map tv)).length = (av.map tcat).sum := by
  induction av with
  | nil => rfl
  | cons v r ih =>
    have e : lg_sl ((v :: r).map tv) = lg_sl [tv v] ++ lg_sl (r.map tv) := by
      simp [lg_sl]
    rw [e, List.length_append, ih]
    show _ = tcat v + (r.map tcat).sum
    congr 1
    match v with
    | .inl _ => rfl
    | .inr (.inl _) => rfl
    | .inr (.inr none) => rfl
    | .inr (.inr (some _)) => rfl
/-! what the heap holds -/
def mm_E (G : GG) (e : ME) : va_E := match e with
  | .inl x => .inl (G.2 x.1, x.2)
  | .inr o => .inr o
def MM (G : GG) (μ : Mem) (H : Heap) : Prop := H.size = mN μ ∧ ∀ (a : Nat) (e : ME), mF μ a = some e → va_at G.1 vwCl (a, mm_E G e) H
theorem MM.set {G : GG} {μ : Mem} {H H1 : Heap} (h : MM G μ H) {a : Nat} {e : ME} (he : va_at G.1 vwCl (a, mm_E G e) H1) (hz : H1.size = H.size) (oq : ∀ q : Nat, q ≠ a → H1[q]? = H[q]?) : MM G (m_set μ a e) H1 := by
  refine ⟨hz.trans h.1, fun b d hb => ?_⟩
  by_cases hba : b = a
  · subst hba
    have hd : e = d := Option.some.inj ((va_up_self (mF μ) b (some e)).symm.trans hb)
    subst hd
    exact he
  · exact (h.2 b d ((va_up_ne (mF μ) (some e) hba).symm.trans hb)).kept (oq b hba)
theorem MM.push {G : GG} {μ : Mem} {H H1 : Heap} (h : MM G μ H) {e : ME} (he : va_at G.1 vwCl (H.size, mm_E G e) H1) (hz : H1.size = H.size + 1) (oq : ∀ q : Nat, q < H.size → H1[q]? = H[q]?) : MM G (m_push μ e) H1 := by
  refine ⟨by rw [hz, h.1]; rfl, fun b d hb => ?_⟩
  by_cases hba : b = mN μ
  · subst hba
    have hd : e = d := Option.some.inj ((va_up_self (mF μ) (mN μ) (some e)).symm.trans hb)
    subst hd
    rw [h.1] at he
    exact he
  · have h2 := h.2 b d ((va_up_ne (mF μ) (some e) hba).symm.trans hb)
    exact h2.kept (oq b h2.lt)
/-! the tables -/
def ka_comp (U : State) (comp : ClassId) (ty : FieldType) : Prop := match ty with
  | .object C => U.vm.findClass C = some comp
  | .array t => U.vm.findClass (FieldType.array t).toString = some comp
  | _ => True
def KA (cA : ClassId) (U : State) (ty : FieldType) : Prop := ∃ (kA : Class) (comp : ClassId), U.vm.classes[cA]? = some kA ∧ kA.kind = .array comp ty ∧ U.vm.findClass ("[" ++ ty.toString) = some cA ∧ ka_comp U comp ty
theorem KA.moved {u U : State} (hvm : u.vm.Alike U.vm) {cA : ClassId} {ty : FieldType} (h : KA cA u ty) : KA cA U ty := by
  obtain ⟨kA, comp, h1, h2, h3, h4⟩ := h
  obtain ⟨k', hk', he⟩ := hvm.2.2 _ _ h1
  refine ⟨k', comp, hk', by rw [he]; exact h2, by rw [hvm.findClass]; exact h3, ?_⟩
  cases ty with
  | object C => show U.vm.findClass _ = some comp; rw [hvm.findClass]; exact h4
  | array t => show U.vm.findClass _ = some comp; rw [hvm.findClass]; exact h4
  | _ => trivial
theorem KA.arr {U : State} {cA : ClassId} {ty : FieldType} (h : KA cA U ty) : ArrOfT U cA ty := by
  obtain ⟨kA, comp, h1, h2, h3, h4⟩ := h
  exact fun n z => ⟨fun k h => (by cases h), kA, h1, comp, h2⟩
def KK (G : GG) (U : State) : Prop := (∀ (c : Nat) (q : vw_C), vwCl[c]? = some q → u_Kn U q.1 q.2.1 q.2.2 (G.1.1 c) (G.1.2 c)) ∧ ∀ (t : Nat) (ty : FieldType), aty[t]? = some ty → KA (G.2 t) U ty
theorem KK.moved {G : GG} {u U : State} (hvm : u.vm.Alike U.vm) (h : KK G u) : KK G U := ⟨fun c q hq => u_Kn_moved hvm (h.1 c q hq), fun t ty ht => (h.2 t ty ht).moved hvm⟩
theorem KK.va {G : GG} {U : State} (h : KK G U) : va_K G.1 vwCl [] U := ⟨h.1, fun k q hk => by simp at hk⟩
/-- the walk's own state -/
def WK (G : GG) (ed : HD) (lo : Nat) (s : State) (μ : Mem) (H : Heap) (locs : List Loc) : Prop := MM G μ H ∧ mE μ = ed ∧ mW μ = lo ∧ va_S (fun q => lo ≤ q) s.heap H locs
abbrev CX : Type := GG × HD × Nat × Program × Launch × Env × Room × State × MethodId × Array Value × List Frame × Method × Code × (State → Prop)
def xR (X : CX) : Room := X.2.2.2.2.2.2.1
def WM (X : CX) (nL pc : Nat) (lv : List (Nat × TV)) (st : List TV) (cells slots : Nat) (μ : Mem) : Prop := match X with
  | (G, ed, lo, p, l, e, R, s, m, args, below, meth, c, Q) => ∀ (H : Heap) (locs : List Loc) (ls : Array Slot), WK G ed lo s μ H locs → lv_has ls nL (tvl lv) → W p l e R s m args below meth c H locs cells slots Q (F0 m pc ls (st.map tv))
def EV (X : CX) (cc : ByteArray) (nL : Nat) (own : String) (ret : Option FieldType) : Prop := match X with
  | (G, ed, lo, p, l, e, R, s, m, args, below, meth, c, Q) => p.tables.exec = Jvm.exec ∧ c.code = cc ∧ c.maxLocals = nL ∧ s.vm.findClass own = some m.cls ∧ (∀ w ∈ GW, w.before args s = true) ∧ NN s ∧ KK G s ∧ OO ed lo s s.heap ∧ lo ≤ s.heap.size ∧ meth.locks = false ∧ meth.sig.returnType = ret
/-! contracts -/
def WD (G : GG) (μ : Mem) (U : State) : Prop := NN U ∧ KK G U ∧ OO (mE μ) (mW μ) U U.heap ∧ mW μ ≤ U.heap.size ∧ MM G μ U.heap
def PC (G : GG) (μ : Mem) (av : List TV) : Array Value → State → Prop := fun v U => v = (av.map tv).toArray ∧ WD G μ U
def QC (G : GG) (μ μ' : Mem) (v : Option TV) : Array Value → State → Outcome → State → Prop := fun _ st oc t => oc = .returned (v.map tv) ∧ WD G μ' t ∧ va_F (fun q => mW μ ≤ q) st t ∧ mE μ' = mE μ ∧ mW μ' = mW μ
abbrev CT (l : Launch) (G : GG) (y : MethodName) (cc : ByteArray) (maxL : Nat) (ret : Option FieldType) (fr mc ms lc : Nat) (μ : Mem) (av : List TV) (v : Option TV) (μ' : Mem) : Prop :=
  Met l y (Cond.code y cc maxL ret :: GW) { frames := fr, cells := mc, slots := ms, locals := lc } (PC G μ av) (QC G μ μ' v) mc ms (fun q => mW μ ≤ q)
/-- the walk's end, for a method that returns -/
def RQ (X : CX) (mc ms : Nat) (μ : Mem) (v : Option TV) (μ' : Mem) : Prop := match X with
  | (G, ed, lo, p, l, e, R, s, m, args, below, meth, c, Q) => ed = mE μ ∧ lo = mW μ ∧ ∀ t, MQ below (QC G μ μ' v) args s mc ms (fun q => mW μ ≤ q) t → Q t
theorem W.mono {p : Program} {l : Launch} {e : Env} {R : Room} {s : State} {m : MethodId} {args : Array Value} {below : List Frame} {meth : Method} {c : Code} {H : Heap} {locs : List Loc} {cells slots : Nat} {Q Q' : State → Prop} {g : JFrame} (h : ∀ t, Q t → Q' t) (k : W p l e R s m args below meth c H locs cells slots Q g) : W p l e R s m args below meth c H locs cells slots Q' g := by
  intro T hT X
  obtain ⟨t, a, b⟩ := k T hT X
  exact ⟨t, a, h t b⟩
theorem WD.same {G : GG} {μ : Mem} {u U : State} (hvm : u.vm = U.vm) (hh : U.heap = u.heap) (h : WD G μ u) : WD G μ U := by
  obtain ⟨h0, h1, h2, h3, h4⟩ := h
  have ha : u.vm.Alike U.vm := by rw [hvm]; exact Vm.Alike.refl _
  exact ⟨h0.same hvm, h1.moved ha, by rw [hh]; exact h2.same hvm, by rw [hh]; exact h3, by rw [hh]; exact h4⟩
/-- from the walk to the contract -/
theorem wm_met {l : Launch} {G : GG} {y : MethodName} {cc : ByteArray} {maxL : Nat} {ret : Option FieldType} {fr mc ms lc : Nat} {μ : Mem} {av : List TV} {v : Option TV} {μ' : Mem} (hy : plainFor y = true) (hn : (av.map tcat).sum ≤ maxL) {lv : List (Nat × TV)} (hlv : tv_args 0 av = lv)
    (k : ∀ X : CX, EV X cc maxL y.cls ret → RQ X mc ms μ v μ' → xR X = { frames := fr, cells := mc, slots := ms, locals := lc } → X.2.2.2.2.2.2.2.2.2.2.2.1.name = y.name → WM X maxL 0 lv [] 0 0 μ) : CT l G y cc maxL ret fr mc ms lc μ av v μ' := by
  refine va_MetF (cc := cc) (maxL := maxL) (ret := ret) hy rfl ?_
  intro p e s m args below meth c s₁ B hml hv
  obtain ⟨rfl, hN, hK, hO, hlo, hM⟩ := hv
  have hts := atoms_spec (ws := Cond.code y cc maxL ret :: GW) B.pre
  have K := k (G, mE μ, mW μ, p, l, e, { frames := fr, cells := mc, slots := ms, locals := lc }, s, m, (av.map tv).toArray, below, meth, c, MQ below (QC G μ μ' v) (av.map tv).toArray s mc ms (fun q => mW μ ≤ q))
    ⟨B.exec, B.bytes, hml, findClass_of_methodNamed B.named, fun w hw => hts w (List.mem_cons_of_mem _ hw), hN, hK, hO, hlo, B.notSynchronized, B.returns⟩ ⟨rfl, rfl, fun _ h => h⟩ rfl
    (name_of_methodNamed B.named B.method).1
  rw [lg_entry_eq]
  have hl := lv_entry (av.map tv) (n := maxL) (by rw [tv_len]; exact hn)
  rw [tv_args_eq, hlv] at hl
  exact K s.heap [] _ ⟨hM, rfl, rfl, va_S.rf⟩ hl
end
section
section
variable {X : CX} {cc : ByteArray} {nL pc : Nat} {own : String} {ret : Option FieldType} {lv : List (Nat × TV)} {st : List TV} {cells slots : Nat} {μ : Mem}

theorem wm_iadd (E : EV X cc nL own ret) {x y : Int32} (hdg : decode cc pc = .ok (.iadd, 1))
    (k : WM X nL (pc + 1) lv ((vI (x + y)) :: st) cells slots μ) : WM X nL pc lv ((vI y) :: (vI x) :: st) cells slots μ := by
  obtain ⟨G, ed, lo, p, l, e, R, s, m, args, below, meth, c, Q⟩ := X
  obtain ⟨hx, hb, hml, hown, hts, hN, hK, hO, hlo, hlk, hret⟩ := E
  exact fun H locs ls hw hl => lv_iadd hx hb hdg (k H locs ls hw hl)

theorem wm_isub (E : EV X cc nL own ret) {x y : Int32} (hdg : decode cc pc = .ok (.isub, 1))
    (k : WM X nL (pc + 1) lv ((vI (x - y)) :: st) cells slots μ) : WM X nL pc lv ((vI y) :: (vI x) :: st) cells slots μ := by
  obtain ⟨G, ed, lo, p, l, e, R, s, m, args, below, meth, c, Q⟩ := X
  obtain ⟨hx, hb, hml, hown, hts, hN, hK, hO, hlo, hlk, hret⟩ := E
  exact fun H locs ls hw hl => lv_isub hx hb hdg (k H locs ls hw hl)

theorem wm_imul (E : EV X cc nL own ret) {x y : Int32} (hdg : decode cc pc = .ok (.imul, 1))
    (k : WM X nL (pc + 1) lv ((vI (x * y)) :: st) cells slots μ) : WM X nL pc lv ((vI y) :: (vI x) :: st) cells slots μ := by
  obtain ⟨G, ed, lo, p, l, e, R, s, m, args, below, meth, c, Q⟩ := X
  obtain ⟨hx, hb, hml, hown, hts, hN, hK, hO, hlo, hlk, hret⟩ := E
  exact fun H locs ls hw hl => lv_imul hx hb hdg (k H locs ls hw hl)

theorem wm_iand (E : EV X cc nL own ret) {x y : Int32} (hdg : decode cc pc = .ok (.iand, 1))
    (k : WM X nL (pc + 1) lv ((vI (x &&& y)) :: st) cells slots μ) : WM X nL pc lv ((vI y) :: (vI x) :: st) cells slots μ := by
  obtain ⟨G, ed, lo, p, l, e, R, s, m, args, below, meth, c, Q⟩ := X
  obtain ⟨hx, hb, hml, hown, hts, hN, hK, hO, hlo, hlk, hret⟩ := E
  exact fun H locs ls hw hl => lv_iand hx hb hdg (k H locs ls hw hl)

theorem wm_ior (E : EV X cc nL own ret) {x y : Int32} (hdg : decode cc pc = .ok (.ior, 1))
    (k : WM X nL (pc + 1) lv ((vI (x ||| y)) :: st) cells slots μ) : WM X nL pc lv ((vI y) :: (vI x) :: st) cells slots μ := by
  obtain ⟨G, ed, lo, p, l, e, R, s, m, args, below, meth, c, Q⟩ := X
  obtain ⟨hx, hb, hml, hown, hts, hN, hK, hO, hlo, hlk, hret⟩ := E
  exact fun H locs ls hw hl => lv_ior hx hb hdg (k H locs ls hw hl)

theorem wm_ixor (E : EV X cc nL own ret) {x y : Int32} (hdg : decode cc pc = .ok (.ixor, 1))
    (k : WM X nL (pc + 1) lv ((vI (x ^^^ y)) :: st) cells slots μ) : WM X nL pc lv ((vI y) :: (vI x) :: st) cells slots μ := by
  obtain ⟨G, ed, lo, p, l, e, R, s, m, args, below, meth, c, Q⟩ := X
  obtain ⟨hx, hb, hml, hown, hts, hN, hK, hO, hlo, hlk, hret⟩ := E
  exact fun H locs ls hw hl => lv_ixor hx hb hdg (k H locs ls hw hl)

theorem wm_ladd (E : EV X cc nL own ret) {x y : Int64} (hdg : decode cc pc = .ok (.ladd, 1))
    (k : WM X nL (pc + 1) lv ((vL (x + y)) :: st) cells slots μ) : WM X nL pc lv ((vL y) :: (vL x) :: st) cells slots μ := by
  obtain ⟨G, ed, lo, p, l, e, R, s, m, args, below, meth, c, Q⟩ := X
  obtain ⟨hx, hb, hml, hown, hts, hN, hK, hO, hlo, hlk, hret⟩ := E
  exact fun H locs ls hw hl => lv_ladd hx hb hdg (k H locs ls hw hl)

theorem wm_lsub (E : EV X cc nL own ret) {x y : Int64} (hdg : decode cc pc = .ok (.lsub, 1))
    (k : WM X nL (pc + 1) lv ((vL (x - y)) :: st) cells slots μ) : WM X nL pc lv ((vL y) :: (vL x) :: st) cells slots μ := by
  obtain ⟨G, ed, lo, p, l, e, R, s, m, args, below, meth, c, Q⟩ := X
  obtain ⟨hx, hb, hml, hown, hts, hN, hK, hO, hlo, hlk, hret⟩ := E
  exact fun H locs ls hw hl => lv_lsub hx hb hdg (k H locs ls hw hl)

theorem wm_lmul (E : EV X cc nL own ret) {x y : Int64} (hdg : decode cc pc = .ok (.lmul, 1))
    (k : WM X nL (pc + 1) lv ((vL (x * y)) :: st) cells slots μ) : WM X nL pc lv ((vL y) :: (vL x) :: st) cells slots μ := by
  obtain ⟨G, ed, lo, p, l, e, R, s, m, args, below, meth, c, Q⟩ := X
  obtain ⟨hx, hb, hml, hown, hts, hN, hK, hO, hlo, hlk, hret⟩ := E
  exact fun H locs ls hw hl => lv_lmul hx hb hdg (k H locs ls hw hl)

theorem wm_land (E : EV X cc nL own ret) {x y : Int64} (hdg : decode cc pc = .ok (.land, 1))
    (k : WM X nL (pc + 1) lv ((vL (x &&& y)) :: st) cells slots μ) : WM X nL pc lv ((vL y) :: (vL x) :: st) cells slots μ := by
  obtain ⟨G, ed, lo, p, l, e, R, s, m, args, below, meth, c, Q⟩ := X
  obtain ⟨hx, hb, hml, hown, hts, hN, hK, hO, hlo, hlk, hret⟩ := E
  exact fun H locs ls hw hl => lv_land hx hb hdg (k H locs ls hw hl)

theorem wm_lor (E : EV X cc nL own ret) {x y : Int64} (hdg : decode cc pc = .ok (.lor, 1))
    (k : WM X nL (pc + 1) lv ((vL (x ||| y)) :: st) cells slots μ) : WM X nL pc lv ((vL y) :: (vL x) :: st) cells slots μ := by
  obtain ⟨G, ed, lo, p, l, e, R, s, m, args, below, meth, c, Q⟩ := X
  obtain ⟨hx, hb, hml, hown, hts, hN, hK, hO, hlo, hlk, hret⟩ := E
  exact fun H locs ls hw hl => lv_lor hx hb hdg (k H locs ls hw hl)

theorem wm_lxor (E : EV X cc nL own ret) {x y : Int64} (hdg : decode cc pc = .ok (.lxor, 1))
    (k : WM X nL (pc + 1) lv ((vL (x ^^^ y)) :: st) cells slots μ) : WM X nL pc lv ((vL y) :: (vL x) :: st) cells slots μ := by
  obtain ⟨G, ed, lo, p, l, e, R, s, m, args, below, meth, c, Q⟩ := X
  obtain ⟨hx, hb, hml, hown, hts, hN, hK, hO, hlo, hlk, hret⟩ := E
  exact fun H locs ls hw hl => lv_lxor hx hb hdg (k H locs ls hw hl)

theorem wm_idiv (E : EV X cc nL own ret) {x y : Int32} (hdg : decode cc pc = .ok (.idiv, 1)) (hne : ¬ y = 0)
    (k : WM X nL (pc + 1) lv ((vI (x / y)) :: st) cells slots μ) : WM X nL pc lv ((vI y) :: (vI x) :: st) cells slots μ := by
  obtain ⟨G, ed, lo, p, l, e, R, s, m, args, below, meth, c, Q⟩ := X
  obtain ⟨hx, hb, hml, hown, hts, hN, hK, hO, hlo, hlk, hret⟩ := E
  exact fun H locs ls hw hl => lv_idiv hx hb hdg hne (k H locs ls hw hl)

theorem wm_irem (E : EV X cc nL own ret) {x y : Int32} (hdg : decode cc pc = .ok (.irem, 1)) (hne : ¬ y = 0)
    (k : WM X nL (pc + 1) lv ((vI (x - x / y * y)) :: st) cells slots μ) : WM X nL pc lv ((vI y) :: (vI x) :: st) cells slots μ := by
  obtain ⟨G, ed, lo, p, l, e, R, s, m, args, below, meth, c, Q⟩ := X
  obtain ⟨hx, hb, hml, hown, hts, hN, hK, hO, hlo, hlk, hret⟩ := E
  exact fun H locs ls hw hl => lv_irem hx hb hdg hne (k H locs ls hw hl)

theorem wm_ldiv (E : EV X cc nL own ret) {x y : Int64} (hdg : decode cc pc = .ok (.ldiv, 1)) (hne : ¬ y = 0)
    (k : WM X nL (pc + 1) lv ((vL (x / y)) :: st) cells slots μ) : WM X nL pc lv ((vL y) :: (vL x) :: st) cells slots μ := by
  obtain ⟨G, ed, lo, p, l, e, R, s, m, args, below, meth, c, Q⟩ := X
  obtain ⟨hx, hb, hml, hown, hts, hN, hK, hO, hlo, hlk, hret⟩ := E
  exact fun H locs ls hw hl => lv_ldiv hx hb hdg hne (k H locs ls hw hl)

theorem wm_lrem (E : EV X cc nL own ret) {x y : Int64} (hdg : decode cc pc = .ok (.lrem, 1)) (hne : ¬ y = 0)
    (k : WM X nL (pc + 1) lv ((vL (x - x / y * y)) :: st) cells slots μ) : WM X nL pc lv ((vL y) :: (vL x) :: st) cells slots μ := by
  obtain ⟨G, ed, lo, p, l, e, R, s, m, args, below, meth, c, Q⟩ := X
  obtain ⟨hx, hb, hml, hown, hts, hN, hK, hO, hlo, hlk, hret⟩ := E
  exact fun H locs ls hw hl => lv_lrem hx hb hdg hne (k H locs ls hw hl)

theorem wm_ineg (E : EV X cc nL own ret) {x : Int32} (hdg : decode cc pc = .ok (.ineg, 1))
    (k : WM X nL (pc + 1) lv ((vI (-x)) :: st) cells slots μ) : WM X nL pc lv ((vI x) :: st) cells slots μ := by
  obtain ⟨G, ed, lo, p, l, e, R, s, m, args, below, meth, c, Q⟩ := X
  obtain ⟨hx, hb, hml, hown, hts, hN, hK, hO, hlo, hlk, hret⟩ := E
  exact fun H locs ls hw hl => lv_ineg hx hb hdg (k H locs ls hw hl)

theorem wm_ishl (E : EV X cc nL own ret) {x y : Int32} (hdg : decode cc pc = .ok (.ishl, 1))
    (k : WM X nL (pc + 1) lv ((vI (x <<< (y &&& 31))) :: st) cells slots μ) : WM X nL pc lv ((vI y) :: (vI x) :: st) cells slots μ := by
  obtain ⟨G, ed, lo, p, l, e, R, s, m, args, below, meth, c, Q⟩ := X
  obtain ⟨hx, hb, hml, hown, hts, hN, hK, hO, hlo, hlk, hret⟩ := E
  exact fun H locs ls hw hl => lv_ishl hx hb hdg (k H locs ls hw hl)

theorem wm_ishr (E : EV X cc nL own ret) {x y : Int32} (hdg : decode cc pc = .ok (.ishr, 1))
    (k : WM X nL (pc + 1) lv ((vI (x >>> (y &&& 31))) :: st) cells slots μ) : WM X nL pc lv ((vI y) :: (vI x) :: st) cells slots μ := by
  obtain ⟨G, ed, lo, p, l, e, R, s, m, args, below, meth, c, Q⟩ := X
  obtain ⟨hx, hb, hml, hown, hts, hN, hK, hO, hlo, hlk, hret⟩ := E
  exact fun H locs ls hw hl => lv_ishr hx hb hdg (k H locs ls hw hl)

theorem wm_iushr (E : EV X cc nL own ret) {x y : Int32} (hdg : decode cc pc = .ok (.iushr, 1))
    (k : WM X nL (pc + 1) lv ((vI (x.toUInt32 >>> (y.toUInt32 &&& Int32.toUInt32 31)).toInt32) :: st) cells slots μ) : WM X nL pc lv ((vI y) :: (vI x) :: st) cells slots μ := by
  obtain ⟨G, ed, lo, p, l, e, R, s, m, args, below, meth, c, Q⟩ := X
  obtain ⟨hx, hb, hml, hown, hts, hN, hK, hO, hlo, hlk, hret⟩ := E
  exact fun H locs ls hw hl => lv_iushr hx hb hdg rfl (k H locs ls hw hl)

theorem wm_lshl (E : EV X cc nL own ret) {x : Int64} {y : Int32} (hdg : decode cc pc = .ok (.lshl, 1))
    (k : WM X nL (pc + 1) lv ((vL (x <<< (y.toInt64 &&& 63))) :: st) cells slots μ) : WM X nL pc lv ((vI y) :: (vL x) :: st) cells slots μ := by
  obtain ⟨G, ed, lo, p, l, e, R, s, m, args, below, meth, c, Q⟩ := X
  obtain ⟨hx, hb, hml, hown, hts, hN, hK, hO, hlo, hlk, hret⟩ := E
  exact fun H locs ls hw hl => lv_lshl hx hb hdg rfl (k H locs ls hw hl)

theorem wm_i2l (E : EV X cc nL own ret) {x : Int32} (hdg : decode cc pc = .ok (.i2l, 1))
    (k : WM X nL (pc + 1) lv ((vL x.toInt64) :: st) cells slots μ) : WM X nL pc lv ((vI x) :: st) cells slots μ := by
  obtain ⟨G, ed, lo, p, l, e, R, s, m, args, below, meth, c, Q⟩ := X
  obtain ⟨hx, hb, hml, hown, hts, hN, hK, hO, hlo, hlk, hret⟩ := E
  exact fun H locs ls hw hl => lv_i2l hx hb hdg rfl (k H locs ls hw hl)

theorem wm_l2i (E : EV X cc nL own ret) {x : Int64} (hdg : decode cc pc = .ok (.l2i, 1))
    (k : WM X nL (pc + 1) lv ((vI x.toInt32) :: st) cells slots μ) : WM X nL pc lv ((vL x) :: st) cells slots μ := by
  obtain ⟨G, ed, lo, p, l, e, R, s, m, args, below, meth, c, Q⟩ := X
  obtain ⟨hx, hb, hml, hown, hts, hN, hK, hO, hlo, hlk, hret⟩ := E
  exact fun H locs ls hw hl => lv_l2i hx hb hdg rfl (k H locs ls hw hl)

theorem wm_i2c (E : EV X cc nL own ret) {x : Int32} (hdg : decode cc pc = .ok (.i2c, 1))
    (k : WM X nL (pc + 1) lv ((vI (x.toUInt32 % 65536).toInt32) :: st) cells slots μ) : WM X nL pc lv ((vI x) :: st) cells slots μ := by
  obtain ⟨G, ed, lo, p, l, e, R, s, m, args, below, meth, c, Q⟩ := X
  obtain ⟨hx, hb, hml, hown, hts, hN, hK, hO, hlo, hlk, hret⟩ := E
  exact fun H locs ls hw hl => lv_i2c hx hb hdg rfl (k H locs ls hw hl)

theorem wm_lcmp (E : EV X cc nL own ret) {x y : Int64} (hdg : decode cc pc = .ok (.lcmp, 1))
    (k : WM X nL (pc + 1) lv ((vI (lg_cmp x y)) :: st) cells slots μ) : WM X nL pc lv ((vL y) :: (vL x) :: st) cells slots μ := by
  obtain ⟨G, ed, lo, p, l, e, R, s, m, args, below, meth, c, Q⟩ := X
  obtain ⟨hx, hb, hml, hown, hts, hN, hK, hO, hlo, hlk, hret⟩ := E
  exact fun H locs ls hw hl => W.lcmp hx hb hdg (k H locs ls hw hl)

theorem wm_iconst (E : EV X cc nL own ret) {n : Int} {x : Int32} (hdg : decode cc pc = .ok (.iconst n, 1)) (hv : Int32.ofInt n = x)
    (k : WM X nL (pc + 1) lv ((vI x) :: st) cells slots μ) : WM X nL pc lv (st) cells slots μ := by
  obtain ⟨G, ed, lo, p, l, e, R, s, m, args, below, meth, c, Q⟩ := X
  obtain ⟨hx, hb, hml, hown, hts, hN, hK, hO, hlo, hlk, hret⟩ := E
  exact fun H locs ls hw hl => lv_iconst hx hb hdg hv (k H locs ls hw hl)

theorem wm_bipush (E : EV X cc nL own ret) {n : Int} {x : Int32} (hdg : decode cc pc = .ok (.bipush n, 2)) (hv : (Int8.ofInt n).toInt32 = x)
    (k : WM X nL (pc + 2) lv ((vI x) :: st) cells slots μ) : WM X nL pc lv (st) cells slots μ := by
  obtain ⟨G, ed, lo, p, l, e, R, s, m, args, below, meth, c, Q⟩ := X
  obtain ⟨hx, hb, hml, hown, hts, hN, hK, hO, hlo, hlk, hret⟩ := E
  exact fun H locs ls hw hl => lv_bipush hx hb hdg hv (k H locs ls hw hl)

theorem wm_sipush (E : EV X cc nL own ret) {n : Int} {x : Int32} (hdg : decode cc pc = .ok (.sipush n, 3)) (hv : (Int16.ofInt n).toInt32 = x)
    (k : WM X nL (pc + 3) lv ((vI x) :: st) cells slots μ) : WM X nL pc lv (st) cells slots μ := by
  obtain ⟨G, ed, lo, p, l, e, R, s, m, args, below, meth, c, Q⟩ := X
  obtain ⟨hx, hb, hml, hown, hts, hN, hK, hO, hlo, hlk, hret⟩ := E
  exact fun H locs ls hw hl => lv_sipush hx hb hdg hv (k H locs ls hw hl)

theorem wm_lconst (E : EV X cc nL own ret) {n : Fin 2} {x : Int64} (hdg : decode cc pc = .ok (.lconst n, 1)) (hv : Int64.ofNat (n : Nat) = x)
    (k : WM X nL (pc + 1) lv ((vL x) :: st) cells slots μ) : WM X nL pc lv (st) cells slots μ := by
  obtain ⟨G, ed, lo, p, l, e, R, s, m, args, below, meth, c, Q⟩ := X
  obtain ⟨hx, hb, hml, hown, hts, hN, hK, hO, hlo, hlk, hret⟩ := E
  exact fun H locs ls hw hl => lv_lconst hx hb hdg hv (k H locs ls hw hl)

theorem wm_ldc (E : EV X cc nL own ret) {index : Nat} {x : Int32} (hc : Cond.constant own index x ∈ GW) (hdg : decode cc pc = .ok (.ldc index, 2))
    (k : WM X nL (pc + 2) lv ((vI x) :: st) cells slots μ) : WM X nL pc lv (st) cells slots μ := by
  obtain ⟨G, ed, lo, p, l, e, R, s, m, args, below, meth, c, Q⟩ := X
  obtain ⟨hx, hb, hml, hown, hts, hN, hK, hO, hlo, hlk, hret⟩ := E
  exact fun H locs ls hw hl => lv_ldc hx hb hown (hts _ hc) hdg (k H locs ls hw hl)

theorem wm_ldcw (E : EV X cc nL own ret) {index : Nat} {x : Int32} (hc : Cond.constant own index x ∈ GW) (hdg : decode cc pc = .ok (.ldc_w index, 3))
    (k : WM X nL (pc + 3) lv ((vI x) :: st) cells slots μ) : WM X nL pc lv (st) cells slots μ := by
  obtain ⟨G, ed, lo, p, l, e, R, s, m, args, below, meth, c, Q⟩ := X
  obtain ⟨hx, hb, hml, hown, hts, hN, hK, hO, hlo, hlk, hret⟩ := E
  exact fun H locs ls hw hl => lv_ldcw hx hb hown (hts _ hc) hdg (k H locs ls hw hl)

theorem wm_ldc2 (E : EV X cc nL own ret) {index : Nat} {x : Int64} (hc : Cond.constantLong own index x ∈ GW) (hdg : decode cc pc = .ok (.ldc2_w index, 3))
    (k : WM X nL (pc + 3) lv ((vL x) :: st) cells slots μ) : WM X nL pc lv (st) cells slots μ := by
  obtain ⟨G, ed, lo, p, l, e, R, s, m, args, below, meth, c, Q⟩ := X
  obtain ⟨hx, hb, hml, hown, hts, hN, hK, hO, hlo, hlk, hret⟩ := E
  exact fun H locs ls hw hl => lv_ldc2 hx hb hown (hts _ hc) hdg (k H locs ls hw hl)

theorem wm_null (E : EV X cc nL own ret)  (hdg : decode cc pc = .ok (.aconst_null, 1))
    (k : WM X nL (pc + 1) lv ((vR none) :: st) cells slots μ) : WM X nL pc lv (st) cells slots μ := by
  obtain ⟨G, ed, lo, p, l, e, R, s, m, args, below, meth, c, Q⟩ := X
  obtain ⟨hx, hb, hml, hown, hts, hN, hK, hO, hlo, hlk, hret⟩ := E
  exact fun H locs ls hw hl => lv_null hx hb hdg (k H locs ls hw hl)

theorem wm_dup (E : EV X cc nL own ret) {x : TV} (hdg : decode cc pc = .ok (.dup, 1)) (hc : tcat x = 1)
    (k : WM X nL (pc + 1) lv ((x) :: (x) :: st) cells slots μ) : WM X nL pc lv ((x) :: st) cells slots μ := by
  obtain ⟨G, ed, lo, p, l, e, R, s, m, args, below, meth, c, Q⟩ := X
  obtain ⟨hx, hb, hml, hown, hts, hN, hK, hO, hlo, hlk, hret⟩ := E
  exact fun H locs ls hw hl => lv_dup hx hb hdg (tcat_eq x ▸ hc) (k H locs ls hw hl)

theorem wm_pop (E : EV X cc nL own ret) {x : TV} (hdg : decode cc pc = .ok (.pop, 1)) (hc : tcat x = 1)
    (k : WM X nL (pc + 1) lv (st) cells slots μ) : WM X nL pc lv ((x) :: st) cells slots μ := by
  obtain ⟨G, ed, lo, p, l, e, R, s, m, args, below, meth, c, Q⟩ := X
  obtain ⟨hx, hb, hml, hown, hts, hN, hK, hO, hlo, hlk, hret⟩ := E
  exact fun H locs ls hw hl => lv_pop hx hb hdg (tcat_eq x ▸ hc) (k H locs ls hw hl)

theorem wm_dup_x1 (E : EV X cc nL own ret) {x y : TV} (hdg : decode cc pc = .ok (.dup_x1, 1)) (hc : tcat x = 1) (hd : tcat y = 1)
    (k : WM X nL (pc + 1) lv ((x) :: (y) :: (x) :: st) cells slots μ) : WM X nL pc lv ((x) :: (y) :: st) cells slots μ := by
  obtain ⟨G, ed, lo, p, l, e, R, s, m, args, below, meth, c, Q⟩ := X
  obtain ⟨hx, hb, hml, hown, hts, hN, hK, hO, hlo, hlk, hret⟩ := E
  exact fun H locs ls hw hl => lv_dup_x1 hx hb hdg (tcat_eq x ▸ hc) (tcat_eq y ▸ hd) (k H locs ls hw hl)

theorem wm_dup2_11 (E : EV X cc nL own ret) {x y : TV} (hdg : decode cc pc = .ok (.dup2, 1)) (hc : tcat x = 1) (hd : tcat y = 1)
    (k : WM X nL (pc + 1) lv ((x) :: (y) :: (x) :: (y) :: st) cells slots μ) : WM X nL pc lv ((x) :: (y) :: st) cells slots μ := by
  obtain ⟨G, ed, lo, p, l, e, R, s, m, args, below, meth, c, Q⟩ := X
  obtain ⟨hx, hb, hml, hown, hts, hN, hK, hO, hlo, hlk, hret⟩ := E
  exact fun H locs ls hw hl => lv_dup2_11 hx hb hdg (tcat_eq x ▸ hc) (tcat_eq y ▸ hd) (k H locs ls hw hl)

theorem wm_iload_n (E : EV X cc nL own ret) {z : Fin 4} {i j : Nat} {x : Int32} (hdg : decode cc pc = .ok (.iload_n z, 1)) (hi : (z : Nat) = i) (hj : lv[j]? = some (i, vI x))
    (k : WM X nL (pc + 1) lv ((vI x) :: st) cells slots μ) : WM X nL pc lv (st) cells slots μ := by
  obtain ⟨G, ed, lo, p, l, e, R, s, m, args, below, meth, c, Q⟩ := X
  obtain ⟨hx, hb, hml, hown, hts, hN, hK, hO, hlo, hlk, hret⟩ := E
  exact fun H locs ls hw hl => lv_iload_n hx hb hdg hi (tv_at hl hj) (k H locs ls hw hl)

theorem wm_iload (E : EV X cc nL own ret) {i j : Nat} {x : Int32} (hdg : decode cc pc = .ok (.iload i, 2)) (hj : lv[j]? = some (i, vI x))
    (k : WM X nL (pc + 2) lv ((vI x) :: st) cells slots μ) : WM X nL pc lv (st) cells slots μ := by
  obtain ⟨G, ed, lo, p, l, e, R, s, m, args, below, meth, c, Q⟩ := X
  obtain ⟨hx, hb, hml, hown, hts, hN, hK, hO, hlo, hlk, hret⟩ := E
  exact fun H locs ls hw hl => lv_iload hx hb hdg (tv_at hl hj) (k H locs ls hw hl)

theorem wm_lload_n (E : EV X cc nL own ret) {z : Fin 4} {i j : Nat} {x : Int64} (hdg : decode cc pc = .ok (.lload_n z, 1)) (hi : (z : Nat) = i) (hj : lv[j]? = some (i, vL x))
    (k : WM X nL (pc + 1) lv ((vL x) :: st) cells slots μ) : WM X nL pc lv (st) cells slots μ := by
  obtain ⟨G, ed, lo, p, l, e, R, s, m, args, below, meth, c, Q⟩ := X
  obtain ⟨hx, hb, hml, hown, hts, hN, hK, hO, hlo, hlk, hret⟩ := E
  exact fun H locs ls hw hl => lv_lload_n hx hb hdg hi (tv_at hl hj) (k H locs ls hw hl)

theorem wm_lload (E : EV X cc nL own ret) {i j : Nat} {x : Int64} (hdg : decode cc pc = .ok (.lload i, 2)) (hj : lv[j]? = some (i, vL x))
    (k : WM X nL (pc + 2) lv ((vL x) :: st) cells slots μ) : WM X nL pc lv (st) cells slots μ := by
  obtain ⟨G, ed, lo, p, l, e, R, s, m, args, below, meth, c, Q⟩ := X
  obtain ⟨hx, hb, hml, hown, hts, hN, hK, hO, hlo, hlk, hret⟩ := E
  exact fun H locs ls hw hl => lv_lload hx hb hdg (tv_at hl hj) (k H locs ls hw hl)

theorem wm_aload_n (E : EV X cc nL own ret) {z : Fin 4} {i j : Nat} {x : Option Nat} (hdg : decode cc pc = .ok (.aload_n z, 1)) (hi : (z : Nat) = i) (hj : lv[j]? = some (i, vR x))
    (k : WM X nL (pc + 1) lv ((vR x) :: st) cells slots μ) : WM X nL pc lv st cells slots μ := by
  obtain ⟨G, ed, lo, p, l, e, R, s, m, args, below, meth, c, Q⟩ := X
  obtain ⟨hx, hb, hml, hown, hts, hN, hK, hO, hlo, hlk, hret⟩ := E
  cases x with
  | none => exact fun H locs ls hw hl => lv_aload_nN hx hb hdg hi (tv_at hl hj) (k H locs ls hw hl)
  | some a => exact fun H locs ls hw hl => lv_aload_n hx hb hdg hi (tv_at hl hj) (k H locs ls hw hl)

theorem wm_aload (E : EV X cc nL own ret) {i j : Nat} {x : Option Nat} (hdg : decode cc pc = .ok (.aload i, 2)) (hj : lv[j]? = some (i, vR x))
    (k : WM X nL (pc + 2) lv ((vR x) :: st) cells slots μ) : WM X nL pc lv st cells slots μ := by
  obtain ⟨G, ed, lo, p, l, e, R, s, m, args, below, meth, c, Q⟩ := X
  obtain ⟨hx, hb, hml, hown, hts, hN, hK, hO, hlo, hlk, hret⟩ := E
  cases x with
  | none => exact fun H locs ls hw hl => lv_aloadN hx hb hdg (tv_at hl hj) (k H locs ls hw hl)
  | some a => exact fun H locs ls hw hl => lv_aload hx hb hdg (tv_at hl hj) (k H locs ls hw hl)

theorem wm_istore_n (E : EV X cc nL own ret) {z : Fin 4} {i : Nat} {x : Int32} (hdg : decode cc pc = .ok (.istore_n z, 1)) (hi : (z : Nat) = i) {lv' : List (Nat × TV)} (hn : i < nL) (hl' : tv_s1 i (vI x) lv = lv')
    (k : WM X nL (pc + 1) lv' st cells slots μ) : WM X nL pc lv ((vI x) :: st) cells slots μ := by
  obtain ⟨G, ed, lo, p, l, e, R, s, m, args, below, meth, c, Q⟩ := X
  obtain ⟨hx, hb, hml, hown, hts, hN, hK, hO, hlo, hlk, hret⟩ := E
  subst hl'
  exact fun H locs ls hw hl => lv_istore_n hx hb hdg hi hl hn (tv_s1_eq i (vI x) lv) (fun ls' hl' => k H locs ls' hw hl')

theorem wm_istore (E : EV X cc nL own ret) {i : Nat} {x : Int32} (hdg : decode cc pc = .ok (.istore i, 2)) {lv' : List (Nat × TV)} (hn : i < nL) (hl' : tv_s1 i (vI x) lv = lv')
    (k : WM X nL (pc + 2) lv' st cells slots μ) : WM X nL pc lv ((vI x) :: st) cells slots μ := by
  obtain ⟨G, ed, lo, p, l, e, R, s, m, args, below, meth, c, Q⟩ := X
  obtain ⟨hx, hb, hml, hown, hts, hN, hK, hO, hlo, hlk, hret⟩ := E
  subst hl'
  exact fun H locs ls hw hl => lv_istore hx hb hdg hl hn (tv_s1_eq i (vI x) lv) (fun ls' hl' => k H locs ls' hw hl')

theorem wm_lstore_n (E : EV X cc nL own ret) {z : Fin 4} {i : Nat} {x : Int64} (hdg : decode cc pc = .ok (.lstore_n z, 1)) (hi : (z : Nat) = i) {lv' : List (Nat × TV)} (hn : i + 1 < nL) (hl' : tv_s2 i (vL x) lv = lv')
    (k : WM X nL (pc + 1) lv' st cells slots μ) : WM X nL pc lv ((vL x) :: st) cells slots μ := by
  obtain ⟨G, ed, lo, p, l, e, R, s, m, args, below, meth, c, Q⟩ := X
  obtain ⟨hx, hb, hml, hown, hts, hN, hK, hO, hlo, hlk, hret⟩ := E
  subst hl'
  exact fun H locs ls hw hl => lv_lstore_n hx hb hdg hi hl hn (tv_s2_eq i (vL x) lv) (fun ls' hl' => k H locs ls' hw hl')

theorem wm_lstore (E : EV X cc nL own ret) {i : Nat} {x : Int64} (hdg : decode cc pc = .ok (.lstore i, 2)) {lv' : List (Nat × TV)} (hn : i + 1 < nL) (hl' : tv_s2 i (vL x) lv = lv')
    (k : WM X nL (pc + 2) lv' st cells slots μ) : WM X nL pc lv ((vL x) :: st) cells slots μ := by
  obtain ⟨G, ed, lo, p, l, e, R, s, m, args, below, meth, c, Q⟩ := X
  obtain ⟨hx, hb, hml, hown, hts, hN, hK, hO, hlo, hlk, hret⟩ := E
  subst hl'
  exact fun H locs ls hw hl => lv_lstore hx hb hdg hl hn (tv_s2_eq i (vL x) lv) (fun ls' hl' => k H locs ls' hw hl')

theorem wm_astore_n (E : EV X cc nL own ret) {z : Fin 4} {i : Nat} {x : Option Nat} (hdg : decode cc pc = .ok (.astore_n z, 1)) (hi : (z : Nat) = i) {lv' : List (Nat × TV)} (hn : i < nL) (hl' : tv_s1 i (vR x) lv = lv')
    (k : WM X nL (pc + 1) lv' st cells slots μ) : WM X nL pc lv ((vR x) :: st) cells slots μ := by
  obtain ⟨G, ed, lo, p, l, e, R, s, m, args, below, meth, c, Q⟩ := X
  obtain ⟨hx, hb, hml, hown, hts, hN, hK, hO, hlo, hlk, hret⟩ := E
  subst hl'
  cases x with
  | none => exact fun H locs ls hw hl => lv_astore_nN hx hb hdg hi hl hn (tv_s1_eq i (vR none) lv) (fun ls' hl' => k H locs ls' hw hl')
  | some a => exact fun H locs ls hw hl => lv_astore_n hx hb hdg hi hl hn (tv_s1_eq i (vR (some a)) lv) (fun ls' hl' => k H locs ls' hw hl')

theorem wm_astore (E : EV X cc nL own ret) {i : Nat} {x : Option Nat} (hdg : decode cc pc = .ok (.astore i, 2)) {lv' : List (Nat × TV)} (hn : i < nL) (hl' : tv_s1 i (vR x) lv = lv')
    (k : WM X nL (pc + 2) lv' st cells slots μ) : WM X nL pc lv ((vR x) :: st) cells slots μ := by
  obtain ⟨G, ed, lo, p, l, e, R, s, m, args, below, meth, c, Q⟩ := X
  obtain ⟨hx, hb, hml, hown, hts, hN, hK, hO, hlo, hlk, hret⟩ := E
  subst hl'
  cases x with
  | none => exact fun H locs ls hw hl => lv_astoreN hx hb hdg hl hn (tv_s1_eq i (vR none) lv) (fun ls' hl' => k H locs ls' hw hl')
  | some a => exact fun H locs ls hw hl => lv_astore hx hb hdg hl hn (tv_s1_eq i (vR (some a)) lv) (fun ls' hl' => k H locs ls' hw hl')

theorem wm_iinc (E : EV X cc nL own ret) {i j : Nat} {n : Int} {d x : Int32} (hdg : decode cc pc = .ok (.iinc i n, 3)) (hd : Int32.ofInt n = d) (hj : lv[j]? = some (i, vI x)) {lv' : List (Nat × TV)} (hn : i < nL) (hl' : tv_s1 i (vI (x + d)) lv = lv')
    (k : WM X nL (pc + 3) lv' st cells slots μ) : WM X nL pc lv st cells slots μ := by
  obtain ⟨G, ed, lo, p, l, e, R, s, m, args, below, meth, c, Q⟩ := X
  obtain ⟨hx, hb, hml, hown, hts, hN, hK, hO, hlo, hlk, hret⟩ := E
  subst hl'; subst hd
  exact fun H locs ls hw hl => lv_iinc hx hb hdg hl (tv_get hj) rfl hn (tv_s1_eq i (vI (x + Int32.ofInt n)) lv) (fun ls' hl' => k H locs ls' hw hl')

theorem wm_if_eq (E : EV X cc nL own ret) {x : Int32} {off : Int} {tgt : Nat} (hdg : decode cc pc = .ok (.ifCond .eq off, 3)) (ht : (pc : Int) + off = (tgt : Int))
    (kt : x = 0 → WM X nL tgt lv st cells slots μ) (kf : ¬ x = 0 → WM X nL (pc + 3) lv st cells slots μ) : WM X nL pc lv ((vI x) :: st) cells slots μ := by
  obtain ⟨G, ed, lo, p, l, e, R, s, m, args, below, meth, c, Q⟩ := X
  obtain ⟨hx, hb, hml, hown, hts, hN, hK, hO, hlo, hlk, hret⟩ := E
  exact fun H locs ls hw hl => lv_if_eq hx hb hdg ht (fun q => kt q H locs ls hw hl) (fun q => kf q H locs ls hw hl)

theorem wm_if_ne (E : EV X cc nL own ret) {x : Int32} {off : Int} {tgt : Nat} (hdg : decode cc pc = .ok (.ifCond .ne off, 3)) (ht : (pc : Int) + off = (tgt : Int))
    (kt : ¬ x = 0 → WM X nL tgt lv st cells slots μ) (kf : x = 0 → WM X nL (pc + 3) lv st cells slots μ) : WM X nL pc lv ((vI x) :: st) cells slots μ := by
  obtain ⟨G, ed, lo, p, l, e, R, s, m, args, below, meth, c, Q⟩ := X
  obtain ⟨hx, hb, hml, hown, hts, hN, hK, hO, hlo, hlk, hret⟩ := E
  exact fun H locs ls hw hl => lv_if_ne hx hb hdg ht (fun q => kt q H locs ls hw hl) (fun q => kf q H locs ls hw hl)

theorem wm_if_lt (E : EV X cc nL own ret) {x : Int32} {off : Int} {tgt : Nat} (hdg : decode cc pc = .ok (.ifCond .lt off, 3)) (ht : (pc : Int) + off = (tgt : Int))
    (kt : x < 0 → WM X nL tgt lv st cells slots μ) (kf : ¬ x < 0 → WM X nL (pc + 3) lv st cells slots μ) : WM X nL pc lv ((vI x) :: st) cells slots μ := by
  obtain ⟨G, ed, lo, p, l, e, R, s, m, args, below, meth, c, Q⟩ := X
  obtain ⟨hx, hb, hml, hown, hts, hN, hK, hO, hlo, hlk, hret⟩ := E
  exact fun H locs ls hw hl => lv_if_lt hx hb hdg ht (fun q => kt q H locs ls hw hl) (fun q => kf q H locs ls hw hl)

theorem wm_if_ge (E : EV X cc nL own ret) {x : Int32} {off : Int} {tgt : Nat} (hdg : decode cc pc = .ok (.ifCond .ge off, 3)) (ht : (pc : Int) + off = (tgt : Int))
    (kt : 0 ≤ x → WM X nL tgt lv st cells slots μ) (kf : ¬ 0 ≤ x → WM X nL (pc + 3) lv st cells slots μ) : WM X nL pc lv ((vI x) :: st) cells slots μ := by
  obtain ⟨G, ed, lo, p, l, e, R, s, m, args, below, meth, c, Q⟩ := X
  obtain ⟨hx, hb, hml, hown, hts, hN, hK, hO, hlo, hlk, hret⟩ := E
  exact fun H locs ls hw hl => lv_if_ge hx hb hdg ht (fun q => kt q H locs ls hw hl) (fun q => kf q H locs ls hw hl)

theorem wm_if_gt (E : EV X cc nL own ret) {x : Int32} {off : Int} {tgt : Nat} (hdg : decode cc pc = .ok (.ifCond .gt off, 3)) (ht : (pc : Int) + off = (tgt : Int))
    (kt : 0 < x → WM X nL tgt lv st cells slots μ) (kf : ¬ 0 < x → WM X nL (pc + 3) lv st cells slots μ) : WM X nL pc lv ((vI x) :: st) cells slots μ := by
  obtain ⟨G, ed, lo, p, l, e, R, s, m, args, below, meth, c, Q⟩ := X
  obtain ⟨hx, hb, hml, hown, hts, hN, hK, hO, hlo, hlk, hret⟩ := E
  exact fun H locs ls hw hl => lv_if_gt hx hb hdg ht (fun q => kt q H locs ls hw hl) (fun q => kf q H locs ls hw hl)

theorem wm_if_le (E : EV X cc nL own ret) {x : Int32} {off : Int} {tgt : Nat} (hdg : decode cc pc = .ok (.ifCond .le off, 3)) (ht : (pc : Int) + off = (tgt : Int))
    (kt : x ≤ 0 → WM X nL tgt lv st cells slots μ) (kf : ¬ x ≤ 0 → WM X nL (pc + 3) lv st cells slots μ) : WM X nL pc lv ((vI x) :: st) cells slots μ := by
  obtain ⟨G, ed, lo, p, l, e, R, s, m, args, below, meth, c, Q⟩ := X
  obtain ⟨hx, hb, hml, hown, hts, hN, hK, hO, hlo, hlk, hret⟩ := E
  exact fun H locs ls hw hl => lv_if_le hx hb hdg ht (fun q => kt q H locs ls hw hl) (fun q => kf q H locs ls hw hl)

theorem wm_icmp_eq (E : EV X cc nL own ret) {x y : Int32} {off : Int} {tgt : Nat} (hdg : decode cc pc = .ok (.if_icmp .eq off, 3)) (ht : (pc : Int) + off = (tgt : Int))
    (kt : x = y → WM X nL tgt lv st cells slots μ) (kf : ¬ x = y → WM X nL (pc + 3) lv st cells slots μ) : WM X nL pc lv ((vI y) :: (vI x) :: st) cells slots μ := by
  obtain ⟨G, ed, lo, p, l, e, R, s, m, args, below, meth, c, Q⟩ := X
  obtain ⟨hx, hb, hml, hown, hts, hN, hK, hO, hlo, hlk, hret⟩ := E
  exact fun H locs ls hw hl => lv_icmp_eq hx hb hdg ht (fun q => kt q H locs ls hw hl) (fun q => kf q H locs ls hw hl)

theorem wm_icmp_ne (E : EV X cc nL own ret) {x y : Int32} {off : Int} {tgt : Nat} (hdg : decode cc pc = .ok (.if_icmp .ne off, 3)) (ht : (pc : Int) + off = (tgt : Int))
    (kt : ¬ x = y → WM X nL tgt lv st cells slots μ) (kf : x = y → WM X nL (pc + 3) lv st cells slots μ) : WM X nL pc lv ((vI y) :: (vI x) :: st) cells slots μ := by
  obtain ⟨G, ed, lo, p, l, e, R, s, m, args, below, meth, c, Q⟩ := X
  obtain ⟨hx, hb, hml, hown, hts, hN, hK, hO, hlo, hlk, hret⟩ := E
  exact fun H locs ls hw hl => lv_icmp_ne hx hb hdg ht (fun q => kt q H locs ls hw hl) (fun q => kf q H locs ls hw hl)

theorem wm_icmp_lt (E : EV X cc nL own ret) {x y : Int32} {off : Int} {tgt : Nat} (hdg : decode cc pc = .ok (.if_icmp .lt off, 3)) (ht : (pc : Int) + off = (tgt : Int))
    (kt : x < y → WM X nL tgt lv st cells slots μ) (kf : ¬ x < y → WM X nL (pc + 3) lv st cells slots μ) : WM X nL pc lv ((vI y) :: (vI x) :: st) cells slots μ := by
  obtain ⟨G, ed, lo, p, l, e, R, s, m, args, below, meth, c, Q⟩ := X
  obtain ⟨hx, hb, hml, hown, hts, hN, hK, hO, hlo, hlk, hret⟩ := E
  exact fun H locs ls hw hl => lv_icmp_lt hx hb hdg ht (fun q => kt q H locs ls hw hl) (fun q => kf q H locs ls hw hl)

theorem wm_icmp_ge (E : EV X cc nL own ret) {x y : Int32} {off : Int} {tgt : Nat} (hdg : decode cc pc = .ok (.if_icmp .ge off, 3)) (ht : (pc : Int) + off = (tgt : Int))
    (kt : y ≤ x → WM X nL tgt lv st cells slots μ) (kf : ¬ y ≤ x → WM X nL (pc + 3) lv st cells slots μ) : WM X nL pc lv ((vI y) :: (vI x) :: st) cells slots μ := by
  obtain ⟨G, ed, lo, p, l, e, R, s, m, args, below, meth, c, Q⟩ := X
  obtain ⟨hx, hb, hml, hown, hts, hN, hK, hO, hlo, hlk, hret⟩ := E
  exact fun H locs ls hw hl => lv_icmp_ge hx hb hdg ht (fun q => kt q H locs ls hw hl) (fun q => kf q H locs ls hw hl)

theorem wm_icmp_gt (E : EV X cc nL own ret) {x y : Int32} {off : Int} {tgt : Nat} (hdg : decode cc pc = .ok (.if_icmp .gt off, 3)) (ht : (pc : Int) + off = (tgt : Int))
    (kt : y < x → WM X nL tgt lv st cells slots μ) (kf : ¬ y < x → WM X nL (pc + 3) lv st cells slots μ) : WM X nL pc lv ((vI y) :: (vI x) :: st) cells slots μ := by
  obtain ⟨G, ed, lo, p, l, e, R, s, m, args, below, meth, c, Q⟩ := X
  obtain ⟨hx, hb, hml, hown, hts, hN, hK, hO, hlo, hlk, hret⟩ := E
  exact fun H locs ls hw hl => lv_icmp_gt hx hb hdg ht (fun q => kt q H locs ls hw hl) (fun q => kf q H locs ls hw hl)

theorem wm_icmp_le (E : EV X cc nL own ret) {x y : Int32} {off : Int} {tgt : Nat} (hdg : decode cc pc = .ok (.if_icmp .le off, 3)) (ht : (pc : Int) + off = (tgt : Int))
    (kt : x ≤ y → WM X nL tgt lv st cells slots μ) (kf : ¬ x ≤ y → WM X nL (pc + 3) lv st cells slots μ) : WM X nL pc lv ((vI y) :: (vI x) :: st) cells slots μ := by
  obtain ⟨G, ed, lo, p, l, e, R, s, m, args, below, meth, c, Q⟩ := X
  obtain ⟨hx, hb, hml, hown, hts, hN, hK, hO, hlo, hlk, hret⟩ := E
  exact fun H locs ls hw hl => lv_icmp_le hx hb hdg ht (fun q => kt q H locs ls hw hl) (fun q => kf q H locs ls hw hl)

theorem wm_acmp_eq (E : EV X cc nL own ret) {x y : Option Nat} {off : Int} {tgt : Nat} (hdg : decode cc pc = .ok (.if_acmp .eq off, 3)) (ht : (pc : Int) + off = (tgt : Int))
    (kt : x = y → WM X nL tgt lv st cells slots μ) (kf : ¬ x = y → WM X nL (pc + 3) lv st cells slots μ) : WM X nL pc lv ((vR y) :: (vR x) :: st) cells slots μ := by
  obtain ⟨G, ed, lo, p, l, e, R, s, m, args, below, meth, c, Q⟩ := X
  obtain ⟨hx, hb, hml, hown, hts, hN, hK, hO, hlo, hlk, hret⟩ := E
  exact fun H locs ls hw hl => lv_acmp_eq hx hb hdg ht (fun q => kt q H locs ls hw hl) (fun q => kf q H locs ls hw hl)

theorem wm_acmp_ne (E : EV X cc nL own ret) {x y : Option Nat} {off : Int} {tgt : Nat} (hdg : decode cc pc = .ok (.if_acmp .ne off, 3)) (ht : (pc : Int) + off = (tgt : Int))
    (kt : ¬ x = y → WM X nL tgt lv st cells slots μ) (kf : x = y → WM X nL (pc + 3) lv st cells slots μ) : WM X nL pc lv ((vR y) :: (vR x) :: st) cells slots μ := by
  obtain ⟨G, ed, lo, p, l, e, R, s, m, args, below, meth, c, Q⟩ := X
  obtain ⟨hx, hb, hml, hown, hts, hN, hK, hO, hlo, hlk, hret⟩ := E
  exact fun H locs ls hw hl => lv_acmp_ne hx hb hdg ht (fun q => kt q H locs ls hw hl) (fun q => kf q H locs ls hw hl)

theorem wm_ifnull (E : EV X cc nL own ret) {x : Option Nat} {off : Int} {tgt : Nat} (hdg : decode cc pc = .ok (.ifnull off, 3)) (ht : (pc : Int) + off = (tgt : Int))
    (kt : x = none → WM X nL tgt lv st cells slots μ) (kf : ¬ x = none → WM X nL (pc + 3) lv st cells slots μ) : WM X nL pc lv ((vR x) :: st) cells slots μ := by
  obtain ⟨G, ed, lo, p, l, e, R, s, m, args, below, meth, c, Q⟩ := X
  obtain ⟨hx, hb, hml, hown, hts, hN, hK, hO, hlo, hlk, hret⟩ := E
  cases x with
  | none => exact fun H locs ls hw hl => lv_ifnullN hx hb hdg ht (kt rfl H locs ls hw hl)
  | some a => exact fun H locs ls hw hl => lv_ifnull hx hb hdg (kf (fun q => by cases q) H locs ls hw hl)

theorem wm_ifnonnull (E : EV X cc nL own ret) {x : Option Nat} {off : Int} {tgt : Nat} (hdg : decode cc pc = .ok (.ifnonnull off, 3)) (ht : (pc : Int) + off = (tgt : Int))
    (kt : ¬ x = none → WM X nL tgt lv st cells slots μ) (kf : x = none → WM X nL (pc + 3) lv st cells slots μ) : WM X nL pc lv ((vR x) :: st) cells slots μ := by
  obtain ⟨G, ed, lo, p, l, e, R, s, m, args, below, meth, c, Q⟩ := X
  obtain ⟨hx, hb, hml, hown, hts, hN, hK, hO, hlo, hlk, hret⟩ := E
  cases x with
  | none => exact fun H locs ls hw hl => lv_ifnonnullN hx hb hdg (kf rfl H locs ls hw hl)
  | some a => exact fun H locs ls hw hl => lv_ifnonnull hx hb hdg ht (kt (fun q => by cases q) H locs ls hw hl)

theorem wm_goto (E : EV X cc nL own ret) {off : Int} {tgt : Nat} (hdg : decode cc pc = .ok (.goto off, 3)) (ht : (pc : Int) + off = (tgt : Int)) (k : WM X nL tgt lv st cells slots μ) : WM X nL pc lv st cells slots μ := by
  obtain ⟨G, ed, lo, p, l, e, R, s, m, args, below, meth, c, Q⟩ := X
  obtain ⟨hx, hb, hml, hown, hts, hN, hK, hO, hlo, hlk, hret⟩ := E
  exact fun H locs ls hw hl => lv_goto hx hb hdg ht (k H locs ls hw hl)

theorem wm_tabIn (E : EV X cc nL own ret) {dflt lo hi : Int} {offs : Array Int} {len : Nat} {x : Int32} {off : Int} {tgt : Nat} (hdg : decode cc pc = .ok (.tableswitch dflt lo hi offs, len)) (v : Int) (hv : x.toInt = v) (h1 : ¬ v < lo) (h2 : ¬ hi < v) (ho : offs[(v - lo).toNat]? = some off) (ht : (pc : Int) + off = (tgt : Int)) (k : WM X nL tgt lv st cells slots μ) : WM X nL pc lv ((vI x) :: st) cells slots μ := by
  obtain ⟨G, ed, lo, p, l, e, R, s, m, args, below, meth, c, Q⟩ := X
  obtain ⟨hx, hb, hml, hown, hts, hN, hK, hO, hlo, hlk, hret⟩ := E
  subst hv
  exact fun H locs ls hw hl => lv_tableIn hx hb hdg h1 h2 ho ht (k H locs ls hw hl)

theorem wm_tabOut (E : EV X cc nL own ret) {dflt lo hi : Int} {offs : Array Int} {len : Nat} {x : Int32} {tgt : Nat} (hdg : decode cc pc = .ok (.tableswitch dflt lo hi offs, len)) (h : x.toInt < lo ∨ hi < x.toInt) (ht : (pc : Int) + dflt = (tgt : Int)) (k : WM X nL tgt lv st cells slots μ) : WM X nL pc lv ((vI x) :: st) cells slots μ := by
  obtain ⟨G, ed, lo, p, l, e, R, s, m, args, below, meth, c, Q⟩ := X
  obtain ⟨hx, hb, hml, hown, hts, hN, hK, hO, hlo, hlk, hret⟩ := E
  exact fun H locs ls hw hl => lv_tableOut hx hb hdg h ht (k H locs ls hw hl)

theorem wm_lookup (E : EV X cc nL own ret) {dflt : Int} {ps : Array (Int × Int)} {len : Nat} {x : Int32} {off : Int} {tgt : Nat} (hdg : decode cc pc = .ok (.lookupswitch dflt ps, len)) (hp : (ps.toList.zip (ps.toList.drop 1)).all (fun (a, next) => a.1 < next.1) = true) (ho : Op.lookupswitch.offset ps.toList dflt x.toInt = off) (ht : (pc : Int) + off = (tgt : Int)) (k : WM X nL tgt lv st cells slots μ) : WM X nL pc lv ((vI x) :: st) cells slots μ := by
  obtain ⟨G, ed, lo, p, l, e, R, s, m, args, below, meth, c, Q⟩ := X
  obtain ⟨hx, hb, hml, hown, hts, hN, hK, hO, hlo, hlk, hret⟩ := E
  exact fun H locs ls hw hl => lv_lookup hx hb hdg hp ho ht (k H locs ls hw hl)

end
end
section
/-! the mirror's operations -/
def b1 {α β : Type} (o : Option α) (F : α → Option β) : Option β := match o with
  | some x => F x
  | none => none
def b2 {α β : Type} (o : Option (α × Mem)) (F : α → Mem → Option β) : Option β := match o with
  | some x => F x.1 x.2
  | none => none
theorem b1S {α β : Type} {o : Option α} {F : α → Option β} {r : β} (h : b1 o F = some r) : ∃ x, o = some x ∧ F x = some r := by
  cases o with
  | none => cases h
  | some x => exact ⟨x, rfl, h⟩
theorem b2S {α β : Type} {o : Option (α × Mem)} {F : α → Mem → Option β} {r : β} (h : b2 o F = some r) : ∃ x μ, o = some (x, μ) ∧ F x μ = some r := by
  cases o with
  | none => cases h
  | some x => exact ⟨x.1, x.2, rfl, h⟩
def oC (μ : Mem) (r : Option Nat) (ci : Nat) : Option (Nat × List Value) := match r with
  | none => none
  | some a => match mF μ a with
    | some (.inr o) => if o.1 = ci then some (a, o.2) else none
    | _ => none
theorem oCS {μ : Mem} {r : Option Nat} {ci a : Nat} {fs : List Value} (h : oC μ r ci = some (a, fs)) : r = some a ∧ mF μ a = some (.inr (ci, fs)) := by
  unfold oC at h
  split at h
  · cases h
  · rename_i b
    split at h
    · rename_i o ho
      split at h
      · rename_i hc
        cases h
        exact ⟨rfl, by rw [ho, ← hc]⟩
      · cases h
    · cases h
def rc (μ : Mem) (r : Option Nat) (ci : Nat) : Option Unit := match oC μ r ci with
  | some _ => some ()
  | none => none
theorem rcS {μ : Mem} {r : Option Nat} {ci : Nat} {u : Unit} (h : rc μ r ci = some u) : ∃ a fs, r = some a ∧ mF μ a = some (.inr (ci, fs)) := by
  unfold rc at h
  split at h
  · rename_i q hq
    obtain ⟨h1, h2⟩ := oCS (a := q.1) (fs := q.2) hq
    exact ⟨_, _, h1, h2⟩
  · cases h
def cK (μ : Mem) (r : Option Nat) (ci : Nat) : Option Unit := if r = none then some () else rc μ r ci
def gI (μ : Mem) (r : Option Nat) (ci k : Nat) : Option Int32 := match oC μ r ci with
  | some q => (match q.2[k]? with
    | some (.int x) => some x
    | _ => none)
  | none => none
def gL (μ : Mem) (r : Option Nat) (ci k : Nat) : Option Int64 := match oC μ r ci with
  | some q => (match q.2[k]? with
    | some (.long x) => some x
    | _ => none)
  | none => none
def gR (μ : Mem) (r : Option Nat) (ci k : Nat) : Option (Option Nat) := match oC μ r ci with
  | some q => (match q.2[k]? with
    | some (.ref x) => some (some x)
    | some .null => some none
    | _ => none)
  | none => none
theorem gIS {μ : Mem} {r : Option Nat} {ci k : Nat} {x : Int32} (h : gI μ r ci k = some x) : ∃ a fs, r = some a ∧ mF μ a = some (.inr (ci, fs)) ∧ fs[k]? = some (.int x) := by
  unfold gI at h
  split at h
  · rename_i q hq
    obtain ⟨h1, h2⟩ := oCS (a := q.1) (fs := q.2) hq
    split at h
    · rename_i y hy
      cases h
      exact ⟨_, _, h1, h2, hy⟩
    · cases h
  · cases h
theorem gLS {μ : Mem} {r : Option Nat} {ci k : Nat} {x : Int64} (h : gL μ r ci k = some x) : ∃ a fs, r = some a ∧ mF μ a = some (.inr (ci, fs)) ∧ fs[k]? = some (.long x) := by
  unfold gL at h
  split at h
  · rename_i q hq
    obtain ⟨h1, h2⟩ := oCS (a := q.1) (fs := q.2) hq
    split at h
    · rename_i y hy
      cases h
      exact ⟨_, _, h1, h2, hy⟩
    · cases h
  · cases h
theorem gRS {μ : Mem} {r : Option Nat} {ci k : Nat} {x : Option Nat} (h : gR μ r ci k = some x) : ∃ a fs, r = some a ∧ mF μ a = some (.inr (ci, fs)) ∧ fs[k]? = some (va_rf x) := by
  unfold gR at h
  split at h
  · rename_i q hq
    obtain ⟨h1, h2⟩ := oCS (a := q.1) (fs := q.2) hq
    split at h
    · rename_i y hy
      cases h
      exact ⟨_, _, h1, h2, hy⟩
    · rename_i hy
      cases h
      exact ⟨_, _, h1, h2, hy⟩
    · cases h
  · cases h
def pV (μ : Mem) (r : Option Nat) (ci k : Nat) (v : TV) : Option Mem := match oC μ r ci with
  | some q => if mW μ ≤ q.1 ∧ k < q.2.length then some (m_set μ q.1 (.inr (ci, q.2.set k (tv v)))) else none
  | none => none
def pZ (μ : Mem) (r : Option Nat) (ci k : Nat) (x : Int32) : Option Mem := if x = 0 ∨ x = 1 then pV μ r ci k (vI x) else none
theorem pVS {μ μ2 : Mem} {r : Option Nat} {ci k : Nat} {v : TV} (h : pV μ r ci k v = some μ2) : ∃ a fs, r = some a ∧ mF μ a = some (.inr (ci, fs)) ∧ mW μ ≤ a ∧ k < fs.length ∧ μ2 = m_set μ a (.inr (ci, fs.set k (tv v))) := by
  unfold pV at h
  split at h
  · rename_i q hq
    obtain ⟨h1, h2⟩ := oCS (a := q.1) (fs := q.2) hq
    split at h
    · rename_i hc
      cases h
      exact ⟨_, _, h1, h2, hc.1, hc.2, rfl⟩
    · cases h
  · cases h
def rS (μ : Mem) (r : Option Nat) : Option Unit := if r = some (mS μ) then some () else none
theorem ifS {α : Type} {c : Prop} [Decidable c] {x : Option α} {y : α} (h : (if c then x else none) = some y) : c ∧ x = some y := by
  split at h
  · rename_i hc
    exact ⟨hc, h⟩
  · cases h
def nO (μ : Mem) (ci : Nat) (fs : List Value) : Option (Option Nat × Mem) := some (some (mN μ), m_push μ (.inr (ci, fs)))
def aC (μ : Mem) (r : Option Nat) (t : Nat) : Option (Nat × vp_A) := match r with
  | none => none
  | some a => match mF μ a with
    | some (.inl o) => if o.1 = t then some (a, o.2) else none
    | _ => none
theorem aCS {μ : Mem} {r : Option Nat} {t a : Nat} {x : vp_A} (h : aC μ r t = some (a, x)) : r = some a ∧ mF μ a = some (.inl (t, x)) := by
  unfold aC at h
  split at h
  · cases h
  · rename_i b
    split at h
    · rename_i o ho
      split at h
      · rename_i hc
        cases h
        exact ⟨rfl, by rw [ho, ← hc]⟩
      · cases h
    · cases h
def aI (μ : Mem) (r : Option Nat) (t : Nat) (i : Int32) : Option Int32 := match aC μ r t with
  | some (_, n, .inl f) => if i < 0 ∨ n ≤ i.toNatClampNeg then none else some (f i.toNatClampNeg)
  | _ => none
def aL (μ : Mem) (r : Option Nat) (t : Nat) (i : Int32) : Option Int64 := match aC μ r t with
  | some (_, n, .inr (.inl f)) => if i < 0 ∨ n ≤ i.toNatClampNeg then none else some (f i.toNatClampNeg)
  | _ => none
def aR (μ : Mem) (r : Option Nat) (t : Nat) (i : Int32) : Option (Option Nat) := match aC μ r t with
  | some (_, n, .inr (.inr (.inr (.inr f)))) => if i < 0 ∨ n ≤ i.toNatClampNeg then none else some (f i.toNatClampNeg)
  | _ => none
theorem aIS {μ : Mem} {r : Option Nat} {t : Nat} {i x : Int32} (h : aI μ r t i = some x) : ∃ a n f, r = some a ∧ mF μ a = some (.inl (t, n, .inl f)) ∧ vp_in i n ∧ x = f i.toNatClampNeg := by
  unfold aI at h
  split at h
  · rename_i a n f hq
    obtain ⟨h1, h2⟩ := aCS hq
    split at h
    · cases h
    · rename_i hi
      cases h
      exact ⟨_, _, _, h1, h2, hi, rfl⟩
  · cases h
theorem aLS {μ : Mem} {r : Option Nat} {t : Nat} {i : Int32} {x : Int64} (h : aL μ r t i = some x) : ∃ a n f, r = some a ∧ mF μ a = some (.inl (t, n, .inr (.inl f))) ∧ vp_in i n ∧ x = f i.toNatClampNeg := by
  unfold aL at h
  split at h
  · rename_i a n f hq
    obtain ⟨h1, h2⟩ := aCS hq
    split at h
    · cases h
    · rename_i hi
      cases h
      exact ⟨_, _, _, h1, h2, hi, rfl⟩
  · cases h
theorem aRS {μ : Mem} {r : Option Nat} {t : Nat} {i : Int32} {x : Option Nat} (h : aR μ r t i = some x) : ∃ a n f, r = some a ∧ mF μ a = some (.inl (t, n, .inr (.inr (.inr (.inr f))))) ∧ vp_in i n ∧ x = f i.toNatClampNeg := by
  unfold aR at h
  split at h
  · rename_i a n f hq
    obtain ⟨h1, h2⟩ := aCS hq
    split at h
    · cases h
    · rename_i hi
      cases h
      exact ⟨_, _, _, h1, h2, hi, rfl⟩
  · cases h
def sI (μ : Mem) (r : Option Nat) (t : Nat) (i x : Int32) : Option Mem := match aC μ r t with
  | some (a, n, .inl f) => if i < 0 ∨ n ≤ i.toNatClampNeg then none else if mW μ ≤ a then some (m_set μ a (.inl (t, n, .inl (upd f i.toNatClampNeg x)))) else none
  | _ => none
def sL (μ : Mem) (r : Option Nat) (t : Nat) (i : Int32) (x : Int64) : Option Mem := match aC μ r t with
  | some (a, n, .inr (.inl f)) => if i < 0 ∨ n ≤ i.toNatClampNeg then none else if mW μ ≤ a then some (m_set μ a (.inl (t, n, .inr (.inl (vp_updL f i.toNatClampNeg x))))) else none
  | _ => none
/-- which kinds of objects may be stored: cs -/
def okS (μ : Mem) (cs : List Nat) (x : Option Nat) : Bool := match x with
  | none => true
  | some b => (match mF μ b with
    | some (.inr o) => cs.contains o.1
    | _ => false)
def sR (μ : Mem) (r : Option Nat) (t : Nat) (cs : List Nat) (i : Int32) (x : Option Nat) : Option Mem := match aC μ r t with
  | some (a, n, .inr (.inr (.inr (.inr f)))) => if i < 0 ∨ n ≤ i.toNatClampNeg then none else if mW μ ≤ a ∧ okS μ cs x = true then some (m_set μ a (.inl (t, n, .inr (.inr (.inr (.inr (va_up f i.toNatClampNeg x))))))) else none
  | _ => none
theorem sIS {μ μ2 : Mem} {r : Option Nat} {t : Nat} {i x : Int32} (h : sI μ r t i x = some μ2) : ∃ a n f, r = some a ∧ mF μ a = some (.inl (t, n, .inl f)) ∧ vp_in i n ∧ mW μ ≤ a ∧ μ2 = m_set μ a (.inl (t, n, .inl (upd f i.toNatClampNeg x))) := by
  unfold sI at h
  split at h
  · rename_i a n f hq
    obtain ⟨h1, h2⟩ := aCS hq
    split at h
    · cases h
    · rename_i hi
      split at h
      · rename_i hw
        cases h
        exact ⟨_, _, _, h1, h2, hi, hw, rfl⟩
      · cases h
  · cases h
theorem sLS {μ μ2 : Mem} {r : Option Nat} {t : Nat} {i : Int32} {x : Int64} (h : sL μ r t i x = some μ2) : ∃ a n f, r = some a ∧ mF μ a = some (.inl (t, n, .inr (.inl f))) ∧ vp_in i n ∧ mW μ ≤ a ∧ μ2 = m_set μ a (.inl (t, n, .inr (.inl (vp_updL f i.toNatClampNeg x)))) := by
  unfold sL at h
  split at h
  · rename_i a n f hq
    obtain ⟨h1, h2⟩ := aCS hq
    split at h
    · cases h
    · rename_i hi
      split at h
      · rename_i hw
        cases h
        exact ⟨_, _, _, h1, h2, hi, hw, rfl⟩
      · cases h
  · cases h
theorem sRS {μ μ2 : Mem} {r : Option Nat} {t : Nat} {cs : List Nat} {i : Int32} {x : Option Nat} (h : sR μ r t cs i x = some μ2) : ∃ a n f, r = some a ∧ mF μ a = some (.inl (t, n, .inr (.inr (.inr (.inr f))))) ∧ vp_in i n ∧ mW μ ≤ a ∧ okS μ cs x = true ∧ μ2 = m_set μ a (.inl (t, n, .inr (.inr (.inr (.inr (va_up f i.toNatClampNeg x)))))) := by
  unfold sR at h
  split at h
  · rename_i a n f hq
    obtain ⟨h1, h2⟩ := aCS hq
    split at h
    · cases h
    · rename_i hi
      split at h
      · rename_i hw
        cases h
        exact ⟨_, _, _, h1, h2, hi, hw.1, hw.2, rfl⟩
      · cases h
  · cases h
def aLen (μ : Mem) (r : Option Nat) : Option Int32 := match r with
  | none => none
  | some a => if a = mD μ then some 0 else match mF μ a with
    | some (.inl o) => if o.1 < aty.length then some (Int32.ofNat o.2.1) else none
    | _ => none
def nI_ (μ : Mem) (t : Nat) (n : Int32) (B : Nat) : Option (Option Nat × Mem) := if n < 0 ∨ B < n.toNatClampNeg then none else some (some (mN μ), m_push μ (.inl (t, n.toNatClampNeg, .inl (fun _ => 0))))
def nL_ (μ : Mem) (t : Nat) (n : Int32) (B : Nat) : Option (Option Nat × Mem) := if n < 0 ∨ B < n.toNatClampNeg then none else some (some (mN μ), m_push μ (.inl (t, n.toNatClampNeg, .inr (.inl (fun _ => 0)))))
def nR_ (μ : Mem) (t : Nat) (n : Int32) (B : Nat) : Option (Option Nat × Mem) := if n < 0 ∨ B < n.toNatClampNeg then none else some (some (mN μ), m_push μ (.inl (t, n.toNatClampNeg, .inr (.inr (.inr (.inr (fun _ => none)))))))
/-! facts on the tables that the rows ask for -/
def FD (own : String) (index ci k : Nat) : Prop := ∃ (C : String) (T : u_T) (N : Nat) (ref : String), vwCl[ci]? = some (C, T, N) ∧ k < N ∧ (∀ w ∈ u_ws C T N, w ∈ GW) ∧ (ref = (T k).1 ∨ Cond.sameField ref (T k).1 (T k).2.1 (T k).2.2.1 ∈ GW) ∧ (Cond.fieldLink own index ref (T k).2.1 (T k).2.2.1 ∈ GW ∨ ∃ host, Cond.fieldLinkNest own index ref (T k).2.1 (T k).2.2.1 host ∈ NW)
/-- for a store: the field's type; fin: it is final (then its maker alone writes it) -/
def FP (own : String) (index ci k : Nat) (ty : FieldType) (fin : Bool) : Prop := ∃ (C : String) (T : u_T) (N : Nat) (ref : String) (ty0 : Nat → FieldType), vwCl[ci]? = some (C, T, N) ∧ k < N ∧ (∀ w ∈ u_ws C T N, w ∈ GW) ∧ (ref = (T k).1 ∨ Cond.sameField ref (T k).1 (T k).2.1 (T k).2.2.1 ∈ GW) ∧
  (∀ j, j < N → parseFieldDescriptor (T j).2.2.1 = some (ty0 j)) ∧ (∀ a, a < N → ∀ b, b < N → a ≠ b → (T a).2.1 ≠ (T b).2.1) ∧ ty0 k = ty ∧ (T k).2.2.2 = fin ∧ ((Cond.fieldLink own index ref (T k).2.1 (T k).2.2.1 ∈ GW ∧ (fin = true → (T k).1 = own)) ∨ (fin = false ∧ ∃ host, Cond.fieldLinkNest own index ref (T k).2.1 (T k).2.2.1 host ∈ NW))
def ND (own : String) (index ci N : Nat) (fs : List Value) : Prop := ∃ (C : String) (T : u_T) (ty : Nat → FieldType), vwCl[ci]? = some (C, T, N) ∧ (∀ w ∈ u_ws C T N, w ∈ GW) ∧ (∀ j, j < N → parseFieldDescriptor (T j).2.2.1 = some (ty j)) ∧ Cond.classLink own index C ∈ GW ∧ Cond.instantiable C N ∈ GW ∧ Cond.initialized C ∈ GW ∧ ∀ j, j < N → defaultValue (ty j) = vp_V fs j
/-- an object of kind ci may lie in an array over C -/
def AS (C : String) (ci : Nat) : Prop := ∃ (D : String) (T : u_T) (N : Nat), vwCl[ci]? = some (D, T, N) ∧ (D = C ∨ Cond.castable D C ∈ NW)
section
variable {X : CX} {cc : ByteArray} {nL pc : Nat} {own : String} {ret : Option FieldType} {lv : List (Nat × TV)} {st : List TV} {cells slots : Nat} {μ : Mem} {β : Type} {res : β}
theorem wm_get0 (E : EV X cc nL own ret) {index ci k a : Nat} {fs : List Value} {v : TV} (hf : FD own index ci k) (hc : mF μ a = some (.inr (ci, fs))) (hv : fs[k]? = some (tv v)) (hdg : decode cc pc = .ok (.getfield index, 3)) (kk : WM X nL (pc + 3) lv (v :: st) cells slots μ) : WM X nL pc lv (vR (some a) :: st) cells slots μ := by
  obtain ⟨G, ed, lo, p, l, e, R, s, m, args, below, meth, c, Q⟩ := X
  obtain ⟨hx, hb, hml, hown, hts, hN, hK, hO, hlo, hlk, hret⟩ := E
  obtain ⟨C, T, N, ref, hcl, hk, hin, hsm, hlk⟩ := hf
  intro H locs ls hw hl
  have hP : va_P G.1 vwCl [(a, .inr (ci, fs))] H := fun j q hj => by
    cases j with
    | zero => cases hj; exact hw.1.2 a _ hc
    | succ j => simp at hj
  have hsame : ∀ x, s.fieldFound? (T k).1 (T k).2.1 (T k).2.2.1 = some x → s.fieldFound? ref (T k).2.1 (T k).2.2.1 = some x := by
    rcases hsm with rfl | hsm
    · exact fun _ h => h
    · exact u_same (hts _ hsm)
  rcases hlk with hlk | ⟨host, hlk⟩
  · exact va_get hx hb hts hin hown hK.va hP 0 rfl hcl k hk (hts _ hlk) hsame hv hdg (kk H locs ls hw hl)
  · exact va_getN hx hb hts hin hown hK.va hP 0 rfl hcl k hk (va_Nw.use rfl (hN _ hlk)) hsame hv hdg (kk H locs ls hw hl)
theorem wm_gI (E : EV X cc nL own ret) {index ci k : Nat} {r : Option Nat} {F : Int32 → Option β} (hf : FD own index ci k) (h : b1 (gI μ r ci k) F = some res) (hdg : decode cc pc = .ok (.getfield index, 3)) (kk : ∀ x, F x = some res → WM X nL (pc + 3) lv (vI x :: st) cells slots μ) : WM X nL pc lv (vR r :: st) cells slots μ := by
  obtain ⟨x, h1, h2⟩ := b1S h
  obtain ⟨a, fs, rfl, hc, hv⟩ := gIS h1
  exact wm_get0 (v := vI x) E hf hc hv hdg (kk x h2)
theorem wm_gL (E : EV X cc nL own ret) {index ci k : Nat} {r : Option Nat} {F : Int64 → Option β} (hf : FD own index ci k) (h : b1 (gL μ r ci k) F = some res) (hdg : decode cc pc = .ok (.getfield index, 3)) (kk : ∀ x, F x = some res → WM X nL (pc + 3) lv (vL x :: st) cells slots μ) : WM X nL pc lv (vR r :: st) cells slots μ := by
  obtain ⟨x, h1, h2⟩ := b1S h
  obtain ⟨a, fs, rfl, hc, hv⟩ := gLS h1
  exact wm_get0 (v := vL x) E hf hc hv hdg (kk x h2)
theorem wm_gR (E : EV X cc nL own ret) {index ci k : Nat} {r : Option Nat} {F : Option Nat → Option β} (hf : FD own index ci k) (h : b1 (gR μ r ci k) F = some res) (hdg : decode cc pc = .ok (.getfield index, 3)) (kk : ∀ x, F x = some res → WM X nL (pc + 3) lv (vR x :: st) cells slots μ) : WM X nL pc lv (vR r :: st) cells slots μ := by
  obtain ⟨x, h1, h2⟩ := b1S h
  obtain ⟨a, fs, rfl, hc, hv⟩ := gRS h1
  exact wm_get0 (v := vR x) E hf hc hv hdg (kk x h2)
theorem wm_put0 (E : EV X cc nL own ret) {index ci k : Nat} {r : Option Nat} {v : TV} {ty : FieldType} {fin : Bool} {μ2 : Mem} (hf : FP own index ci k ty fin) (hfin : fin = true → X.2.2.2.2.2.2.2.2.2.2.2.1.name = "<init>") (hn : narrow ty (tv v) = tv v) (hfit : fits ty (tv v) = true) (h1 : pV μ r ci k v = some μ2) (hdg : decode cc pc = .ok (.putfield index, 3)) (kk : WM X nL (pc + 3) lv st cells slots μ2) : WM X nL pc lv (v :: vR r :: st) cells slots μ := by
  obtain ⟨a, fs, rfl, hc, ha, hl0, rfl⟩ := pVS h1
  obtain ⟨G, ed, lo, p, l, e, R, s, m, args, below, meth, c, Q⟩ := X
  obtain ⟨hx, hb, hml, hown, hts, hN, hK, hO, hlo, hlk, hret⟩ := E
  obtain ⟨C, T, N, ref, ty0, hcl, hk, hin, hsm, hty, hnm, htk, hfi, hlk⟩ := hf
  intro H locs ls hw hl
  obtain ⟨hM, hE, hW, hS⟩ := hw
  have hsame : ∀ x, s.fieldFound? (T k).1 (T k).2.1 (T k).2.2.1 = some x → s.fieldFound? ref (T k).2.1 (T k).2.2.1 = some x := by
    rcases hsm with rfl | hsm
    · exact fun _ h => h
    · exact u_same (hts _ hsm)
  have hd : parseFieldDescriptor (T k).2.2.1 = some ty := by rw [← htk]; exact hty k hk
  have hap := va_apart (own := own) hts hin ty0 hty hnm hK.va hcl
  obtain ⟨r, h1, cell, q1, q2, q3, q4⟩ := hM.2 a _ hc
  have hr : r = (C, T, N) := Option.some.inj (h1.symm.trans hcl)
  subst hr
  obtain ⟨hSl, hfc, kC, hkC, hkind⟩ := hK.1 ci _ hcl
  obtain ⟨cf, kf, fi, f, hi, hsl⟩ := hSl k hk
  have hlay := hts _ (hin _ (u_in_lay hk))
  unfold u_lay at hlay
  have hst := (u_facts hfc hkC (u_lays hts hin hk) hi).1
  have fin9 : ∀ H', H'[a]? = some (cell.setSlot f.slot (tv v)) → H'.size = H.size → (∀ q, q ≠ a → H'[q]? = H[q]?) → W p l e R s m args below meth c H' (locs ++ [⟨a, f.slot⟩]) cells slots Q (F0 m (pc + 3) ls (st.map tv)) := by
    intro H' e1 e2 e3
    rw [hsl] at e1 ⊢
    exact kk H' _ ls ⟨hM.set (e := .inr (ci, fs.set k (tv v))) ⟨_, hcl, t_OB.to (V := updV (vp_V fs) k (tv v)) ⟨_, e1, q2, q3, t_set q4 hap hk (tv v)⟩ (fun j _ => vp_updV_set hl0 (tv v) j)⟩ e2 e3, hE, hW, hS.put e2 e3 (by rw [← hW]; exact ha)⟩ hl
  rcases hlk with ⟨hlk, hdecl⟩ | ⟨hff, host, hlk⟩
  · cases fin with
    | false =>
      rw [if_neg (by rw [hfi]; decide)] at hlay
      have h6 := u_store hfc hkC hkind hlay hi hd hn hfit
      exact W.putK hx hb (f := f) ⟨hown, hts _ hlk, ⟨_, _, _, hsame _ hi⟩, hst⟩ (by rw [q2]; exact h6) q1 q3 (by rw [hsl]; exact k2_hasslot (q4 k hk)) rfl rfl hdg fin9
    | true =>
      rw [if_pos hfi] at hlay
      have hcf : m.cls = cf := by
        obtain ⟨_, _, c', _, _, _, -, -, hf', -, -, -, hown2, -⟩ := Cond.laysFinal_spec hlay
        have e1 : c' = cf := by have := hi.symm.trans hf'; simp at this; exact this.1.symm
        rw [hdecl rfl] at hown2
        rw [← e1]; exact Option.some.inj (hown.symm.trans hown2)
      have h6 := u_fits hfc hkC hkind (Or.inr hlay) hi hd hn hfit
      exact W.putFinK hx hb hown (hts _ hlk) (hsame _ hi) hst hcf (hfin rfl) (by rw [q2]; exact h6) q1 q3 (by rw [hsl]; exact k2_hasslot (q4 k hk)) rfl rfl hdg fin9
  · subst hff
    rw [if_neg (by rw [hfi]; decide)] at hlay
    have h6 := u_store hfc hkC hkind hlay hi hd hn hfit
    exact va_WputK hx hb hown (va_Nw.use rfl (hN _ hlk)) (hsame _ hi) hst (by rw [q2]; exact h6) q1 q3 (by rw [hsl]; exact k2_hasslot (q4 k hk)) rfl rfl hdg fin9
end
end
section
section
variable {X : CX} {cc : ByteArray} {nL pc : Nat} {own : String} {ret : Option FieldType} {lv : List (Nat × TV)} {st : List TV} {cells slots : Nat} {μ : Mem} {β : Type} {res : β}
theorem wm_pI (E : EV X cc nL own ret) {index ci k : Nat} {r : Option Nat} {x : Int32} {fin : Bool} {F : Mem → Option β} (hf : FP own index ci k .int fin) (hfin : fin = true → X.2.2.2.2.2.2.2.2.2.2.2.1.name = "<init>") (h : b1 (pV μ r ci k (vI x)) F = some res) (hdg : decode cc pc = .ok (.putfield index, 3)) (kk : ∀ μ2, F μ2 = some res → WM X nL (pc + 3) lv st cells slots μ2) : WM X nL pc lv (vI x :: vR r :: st) cells slots μ := by
  obtain ⟨μ2, h1, h2⟩ := b1S h
  exact wm_put0 E hf hfin rfl rfl h1 hdg (kk μ2 h2)
theorem wm_pL (E : EV X cc nL own ret) {index ci k : Nat} {r : Option Nat} {x : Int64} {fin : Bool} {F : Mem → Option β} (hf : FP own index ci k .long fin) (hfin : fin = true → X.2.2.2.2.2.2.2.2.2.2.2.1.name = "<init>") (h : b1 (pV μ r ci k (vL x)) F = some res) (hdg : decode cc pc = .ok (.putfield index, 3)) (kk : ∀ μ2, F μ2 = some res → WM X nL (pc + 3) lv st cells slots μ2) : WM X nL pc lv (vL x :: vR r :: st) cells slots μ := by
  obtain ⟨μ2, h1, h2⟩ := b1S h
  exact wm_put0 E hf hfin rfl rfl h1 hdg (kk μ2 h2)
theorem wm_pZ (E : EV X cc nL own ret) {index ci k : Nat} {r : Option Nat} {x : Int32} {fin : Bool} {F : Mem → Option β} (hf : FP own index ci k .boolean fin) (hfin : fin = true → X.2.2.2.2.2.2.2.2.2.2.2.1.name = "<init>") (h : b1 (pZ μ r ci k x) F = some res) (hdg : decode cc pc = .ok (.putfield index, 3)) (kk : ∀ μ2, F μ2 = some res → WM X nL (pc + 3) lv st cells slots μ2) : WM X nL pc lv (vI x :: vR r :: st) cells slots μ := by
  obtain ⟨μ2, h1, h2⟩ := b1S h
  unfold pZ at h1
  split at h1
  · rename_i hx
    rcases hx with rfl | rfl
    · exact wm_put0 E hf hfin rfl rfl h1 hdg (kk μ2 h2)
    · exact wm_put0 E hf hfin rfl rfl h1 hdg (kk μ2 h2)
  · cases h1
theorem wm_pR (E : EV X cc nL own ret) {index ci k : Nat} {r x : Option Nat} {ty : FieldType} {fin : Bool} {F : Mem → Option β} (hf : FP own index ci k ty fin) (hty : (∃ n, ty = .object n) ∨ ∃ t, ty = .array t) (hfin : fin = true → X.2.2.2.2.2.2.2.2.2.2.2.1.name = "<init>") (h : b1 (pV μ r ci k (vR x)) F = some res) (hdg : decode cc pc = .ok (.putfield index, 3)) (kk : ∀ μ2, F μ2 = some res → WM X nL (pc + 3) lv st cells slots μ2) : WM X nL pc lv (vR x :: vR r :: st) cells slots μ := by
  obtain ⟨μ2, h1, h2⟩ := b1S h
  refine wm_put0 E hf hfin ?_ ?_ h1 hdg (kk μ2 h2)
  · rcases hty with ⟨n, rfl⟩ | ⟨t, rfl⟩ <;> cases x <;> rfl
  · rcases hty with ⟨n, rfl⟩ | ⟨t, rfl⟩ <;> cases x <;> rfl
theorem wm_new (E : EV X cc nL own ret) {index ci N : Nat} {fs : List Value} {F : Option Nat → Mem → Option β} (hn : ND own index ci N fs) (h : b2 (nO μ ci fs) F = some res) (hc : cells + 1 ≤ (xR X).cells) (hs : slots + N ≤ (xR X).slots) (hdg : decode cc pc = .ok (.new index, 3)) (kk : ∀ x μ2, F x μ2 = some res → WM X nL (pc + 3) lv (vR x :: st) (cells + 1) (slots + N) μ2) : WM X nL pc lv st cells slots μ := by
  obtain ⟨x, μ2, h1, h2⟩ := b2S h
  have kk := kk x μ2 h2
  obtain ⟨rfl, rfl⟩ : some (mN μ) = x ∧ m_push μ (.inr (ci, fs)) = μ2 := by
    unfold nO at h1
    exact Prod.mk.inj (Option.some.inj h1)
  obtain ⟨G, ed, lo, p, l, e, R, s, m, args, below, meth, c, Q⟩ := X
  obtain ⟨hx, hb, hml, hown, hts, hN, hK, hO, hlo, hlk, hret⟩ := E
  obtain ⟨C, T, ty, hcl, hin, hty, hclink, hinst, hini, hfs⟩ := hn
  intro H locs ls hw hl
  obtain ⟨hM, hE, hW, hS⟩ := hw
  have hKn := hK.1 ci _ hcl
  refine W.newcK hx hb hown (hts _ hclink) (hts _ hinst) (hts _ hini) rfl hdg hc hs hKn.2.1 hM.1 fun H1 kC hkC e1 z1 o1 => ?_
  refine kk H1 locs ls ⟨hM.push (e := .inr (ci, fs)) ?_ (by rw [z1, hM.1]) (fun q hq => o1 q (by rw [← hM.1]; exact hq)), hE, hW, ⟨Nat.le_trans hS.1 (by rw [z1, hM.1]; omega), fun x h1 h2 => (o1 x (by rw [← hM.1]; exact Nat.lt_of_lt_of_le h1 hS.1)).trans (hS.2.1 x h1 h2), hS.2.2⟩⟩ hl
  rw [hM.1]
  exact ⟨_, hcl, (u_born ty hts hin hKn hkC e1 hty).to hfs⟩
/-! arrays -/
theorem wm_alen (E : EV X cc nL own ret) {r : Option Nat} {F : Int32 → Option β} (h : b1 (aLen μ r) F = some res) (hdg : decode cc pc = .ok (.arraylength, 1)) (kk : ∀ x, F x = some res → WM X nL (pc + 1) lv (vI x :: st) cells slots μ) : WM X nL pc lv (vR r :: st) cells slots μ := by
  obtain ⟨x, h1, h2⟩ := b1S h
  have kk := kk x h2
  unfold aLen at h1
  split at h1
  · cases h1
  · rename_i a
    obtain ⟨G, ed, lo, p, l, e, R, s, m, args, below, meth, c, Q⟩ := X
    obtain ⟨hx, hb, hml, hown, hts, hN, hK, hO, hlo, hlk, hret⟩ := E
    intro H locs ls hw hl
    obtain ⟨hM, hE, hW, hS⟩ := id hw
    split at h1
    · rename_i ha
      cases h1
      have hD : a = ed.1 := ha.trans (congrArg Prod.fst hE)
      subst hD
      exact va_tlen hx hb hO.1.2.1 hS (N := 0) rfl hdg (kk H locs ls hw hl)
    · split at h1
      · rename_i o ho
        split at h1
        · rename_i ht
          cases h1
          have hA := hK.2 o.1 _ (List.getElem?_eq_getElem ht)
          have hcell := hM.2 a _ ho
          obtain ⟨t, n, f⟩ := o
          have hsz : (vp_cell (G.2 t) (n, f)).slots.size = n := by
            match f with
            | .inl _ => exact arrV_size _ _ _
            | .inr (.inl _) => exact arrV_size _ _ _
            | .inr (.inr (.inl _)) => exact arrV_size _ _ _
            | .inr (.inr (.inr (.inl _))) => exact arrV_size _ _ _
            | .inr (.inr (.inr (.inr _))) => exact arrV_size _ _ _
          have harr : s.isArrayOf (vp_cell (G.2 t) (n, f)) aty[t] := by
            match f with
            | .inl g => exact hA.arr n (fun j => .int (g j))
            | .inr (.inl g) => exact hA.arr n (fun j => .long (g j))
            | .inr (.inr (.inl g)) => exact hA.arr n (fun j => .float (g j))
            | .inr (.inr (.inr (.inl g))) => exact hA.arr n (fun j => .double (g j))
            | .inr (.inr (.inr (.inr g))) => exact hA.arr n (fun j => va_rf (g j))
          exact W.alen (n := Int32.ofNat n) hx hb hcell harr (by rw [hsz]) rfl rfl hdg (kk H locs ls hw hl)
        · cases h1
      · cases h1
theorem wm_iald (E : EV X cc nL own ret) {r : Option Nat} {t : Nat} {i : Int32} {F : Int32 → Option β} (ht : aty[t]? = some .int) (h : b1 (aI μ r t i) F = some res) (hdg : decode cc pc = .ok (.iaload, 1)) (kk : ∀ x, F x = some res → WM X nL (pc + 1) lv (vI x :: st) cells slots μ) : WM X nL pc lv (vI i :: vR r :: st) cells slots μ := by
  obtain ⟨x, h1, h2⟩ := b1S h
  have kk := kk x h2
  obtain ⟨a, n, f, rfl, hc, hi, rfl⟩ := aIS h1
  obtain ⟨G, ed, lo, p, l, e, R, s, m, args, below, meth, c, Q⟩ := X
  obtain ⟨hx, hb, hml, hown, hts, hN, hK, hO, hlo, hlk, hret⟩ := E
  intro H locs ls hw hl
  have hlt : i.toNatClampNeg < n := Nat.not_le.mp fun q => hi (Or.inr q)
  exact W.iald (v := .int (f i.toNatClampNeg)) hx hb (hw.1.2 a _ hc) ((hK.2 t _ ht).arr n (fun j => .int (f j))) (fun q => by cases q) (by show ¬ (i < 0 ∨ (arrV _ _ _).slots.size ≤ _); rw [arrV_size]; exact hi) (by show (arrV _ _ _).slots[_]? = _; rw [arrV_read _ _ hlt]) rfl rfl hdg (kk H locs ls hw hl)
theorem wm_cald (E : EV X cc nL own ret) {r : Option Nat} {t : Nat} {i : Int32} {F : Int32 → Option β} (ht : aty[t]? = some .char) (h : b1 (aI μ r t i) F = some res) (hdg : decode cc pc = .ok (.caload, 1)) (kk : ∀ x, F x = some res → WM X nL (pc + 1) lv (vI x :: st) cells slots μ) : WM X nL pc lv (vI i :: vR r :: st) cells slots μ := by
  obtain ⟨x, h1, h2⟩ := b1S h
  have kk := kk x h2
  obtain ⟨a, n, f, rfl, hc, hi, rfl⟩ := aIS h1
  obtain ⟨G, ed, lo, p, l, e, R, s, m, args, below, meth, c, Q⟩ := X
  obtain ⟨hx, hb, hml, hown, hts, hN, hK, hO, hlo, hlk, hret⟩ := E
  intro H locs ls hw hl
  have hlt : i.toNatClampNeg < n := Nat.not_le.mp fun q => hi (Or.inr q)
  exact W.cald (v := .int (f i.toNatClampNeg)) hx hb (hw.1.2 a _ hc) ((hK.2 t _ ht).arr n (fun j => .int (f j))) (fun q => by cases q) (by show ¬ (i < 0 ∨ (arrV _ _ _).slots.size ≤ _); rw [arrV_size]; exact hi) (by show (arrV _ _ _).slots[_]? = _; rw [arrV_read _ _ hlt]) rfl rfl hdg (kk H locs ls hw hl)
theorem wm_zald (E : EV X cc nL own ret) {r : Option Nat} {t : Nat} {i : Int32} {F : Int32 → Option β} (ht : aty[t]? = some .boolean) (h : b1 (aI μ r t i) F = some res) (hdg : decode cc pc = .ok (.baload, 1)) (kk : ∀ x, F x = some res → WM X nL (pc + 1) lv (vI x :: st) cells slots μ) : WM X nL pc lv (vI i :: vR r :: st) cells slots μ := by
  obtain ⟨x, h1, h2⟩ := b1S h
  have kk := kk x h2
  obtain ⟨a, n, f, rfl, hc, hi, rfl⟩ := aIS h1
  obtain ⟨G, ed, lo, p, l, e, R, s, m, args, below, meth, c, Q⟩ := X
  obtain ⟨hx, hb, hml, hown, hts, hN, hK, hO, hlo, hlk, hret⟩ := E
  intro H locs ls hw hl
  have hlt : i.toNatClampNeg < n := Nat.not_le.mp fun q => hi (Or.inr q)
  exact W.zald (v := .int (f i.toNatClampNeg)) hx hb (hw.1.2 a _ hc) ((hK.2 t _ ht).arr n (fun j => .int (f j))) (fun q => by cases q) (by show ¬ (i < 0 ∨ (arrV _ _ _).slots.size ≤ _); rw [arrV_size]; exact hi) (by show (arrV _ _ _).slots[_]? = _; rw [arrV_read _ _ hlt]) rfl rfl hdg (kk H locs ls hw hl)
theorem wm_lald (E : EV X cc nL own ret) {r : Option Nat} {t : Nat} {i : Int32} {F : Int64 → Option β} (ht : aty[t]? = some .long) (h : b1 (aL μ r t i) F = some res) (hdg : decode cc pc = .ok (.laload, 1)) (kk : ∀ x, F x = some res → WM X nL (pc + 1) lv (vL x :: st) cells slots μ) : WM X nL pc lv (vI i :: vR r :: st) cells slots μ := by
  obtain ⟨x, h1, h2⟩ := b1S h
  have kk := kk x h2
  obtain ⟨a, n, f, rfl, hc, hi, rfl⟩ := aLS h1
  obtain ⟨G, ed, lo, p, l, e, R, s, m, args, below, meth, c, Q⟩ := X
  obtain ⟨hx, hb, hml, hown, hts, hN, hK, hO, hlo, hlk, hret⟩ := E
  intro H locs ls hw hl
  have hlt : i.toNatClampNeg < n := Nat.not_le.mp fun q => hi (Or.inr q)
  exact W.lald (v := .long (f i.toNatClampNeg)) hx hb (hw.1.2 a _ hc) ((hK.2 t _ ht).arr n (fun j => .long (f j))) (fun q => by cases q) (by show ¬ (i < 0 ∨ (arrV _ _ _).slots.size ≤ _); rw [arrV_size]; exact hi) (by show (arrV _ _ _).slots[_]? = _; rw [arrV_read _ _ hlt]) rfl rfl hdg (kk H locs ls hw hl)
theorem wm_aald (E : EV X cc nL own ret) {r : Option Nat} {t : Nat} {i : Int32} {ty : FieldType} {F : Option Nat → Option β} (ht : aty[t]? = some ty) (hty : ty.isReference = true) (h : b1 (aR μ r t i) F = some res) (hdg : decode cc pc = .ok (.aaload, 1)) (kk : ∀ x, F x = some res → WM X nL (pc + 1) lv (vR x :: st) cells slots μ) : WM X nL pc lv (vI i :: vR r :: st) cells slots μ := by
  obtain ⟨x, h1, h2⟩ := b1S h
  have kk := kk x h2
  obtain ⟨a, n, f, rfl, hc, hi, rfl⟩ := aRS h1
  obtain ⟨G, ed, lo, p, l, e, R, s, m, args, below, meth, c, Q⟩ := X
  obtain ⟨hx, hb, hml, hown, hts, hN, hK, hO, hlo, hlk, hret⟩ := E
  intro H locs ls hw hl
  have hlt : i.toNatClampNeg < n := Nat.not_le.mp fun q => hi (Or.inr q)
  exact W.aald (v := va_rf (f i.toNatClampNeg)) hx hb (hw.1.2 a _ hc) ((hK.2 t _ ht).arr n (fun j => va_rf (f j))) hty (fun q => by cases q) (by show ¬ (i < 0 ∨ (arrV _ _ _).slots.size ≤ _); rw [arrV_size]; exact hi) (by show (arrV _ _ _).slots[_]? = _; rw [arrV_read _ _ hlt]) rfl rfl hdg (kk H locs ls hw hl)
theorem wm_iast (E : EV X cc nL own ret) {r : Option Nat} {t : Nat} {i x : Int32} {F : Mem → Option β} (ht : aty[t]? = some .int) (h : b1 (sI μ r t i x) F = some res) (hdg : decode cc pc = .ok (.iastore, 1)) (kk : ∀ μ2, F μ2 = some res → WM X nL (pc + 1) lv st cells slots μ2) : WM X nL pc lv (vI x :: vI i :: vR r :: st) cells slots μ := by
  obtain ⟨μ2, h1, h2⟩ := b1S h
  have kk := kk μ2 h2
  obtain ⟨a, n, f, rfl, hc, hi, ha, rfl⟩ := sIS h1
  obtain ⟨G, ed, lo, p, l, e, R, s, m, args, below, meth, c, Q⟩ := X
  obtain ⟨hx, hb, hml, hown, hts, hN, hK, hO, hlo, hlk, hret⟩ := E
  intro H locs ls hw hl
  obtain ⟨hM, hE, hW, hS⟩ := hw
  refine W.iast hx hb (hM.2 a _ hc) ((hK.2 t _ ht).arr n (fun j => .int (f j))) (fun q => by cases q) (by show ¬ (i < 0 ∨ (arrV _ _ _).slots.size ≤ _); rw [arrV_size]; exact hi) rfl rfl hdg (fun H' e1 e2 e3 => ?_)
  refine kk H' _ ls ⟨hM.set (e := .inl (t, n, .inl (upd f i.toNatClampNeg x))) ?_ e2 e3, hE, hW, hS.put e2 e3 (by rw [← hW]; exact ha)⟩ hl
  show H'[a]? = some (vp_cell (G.2 t) (n, .inl (upd f i.toNatClampNeg x)))
  rw [e1]
  exact congrArg some (arr_store (G.2 t) n i.toNatClampNeg f x)
end
section
variable {X : CX} {cc : ByteArray} {nL pc : Nat} {own : String} {ret : Option FieldType} {lv : List (Nat × TV)} {st : List TV} {cells slots : Nat} {μ : Mem} {β : Type} {res : β}

theorem wm_cast (E : EV X cc nL own ret) {r : Option Nat} {t : Nat} {i : Int32} {x : Int32} {F : Mem → Option β} (ht : aty[t]? = some .char) (h : b1 (sI μ r t i (vp_nar .char x)) F = some res) (hdg : decode cc pc = .ok (.castore, 1)) (kk : ∀ μ2, F μ2 = some res → WM X nL (pc + 1) lv st cells slots μ2) : WM X nL pc lv (vI x :: vI i :: vR r :: st) cells slots μ := by
  obtain ⟨μ2, h1, h2⟩ := b1S h
  have kk := kk μ2 h2
  obtain ⟨a, n, f, rfl, hc, hi, ha, rfl⟩ := sIS h1
  obtain ⟨G, ed, lo, p, l, e, R, s, m, args, below, meth, c, Q⟩ := X
  obtain ⟨hx, hb, hml, hown, hts, hN, hK, hO, hlo, hlk, hret⟩ := E
  intro H locs ls hw hl
  obtain ⟨hM, hE, hW, hS⟩ := hw
  refine W.cast hx hb (hM.2 a _ hc) ((hK.2 t _ ht).arr n (fun j => .int (f j))) (fun q => by cases q) (by show ¬ (i < 0 ∨ (arrV _ _ _).slots.size ≤ _); rw [arrV_size]; exact hi) rfl rfl hdg (fun H' e1 e2 e3 => ?_)
  refine kk H' _ ls ⟨hM.set ?_ e2 e3, hE, hW, hS.put e2 e3 (by rw [← hW]; exact ha)⟩ hl
  show H'[a]? = some (vp_cell _ _)
  rw [e1]
  show some ((vp_cell (G.2 t) (n, _)).setSlot _ _) = some (vp_cell (G.2 t) (n, _))
  rw [vp_cell_i, vp_cell_i, arrV_store]
  congr 2
  funext q
  by_cases hq : q = i.toNatClampNeg
  · subst hq
    simp [updV, upd]
    first | rfl | skip
  · simp [updV, upd, hq]

theorem wm_zast (E : EV X cc nL own ret) {r : Option Nat} {t : Nat} {i : Int32} {x : Int32} {F : Mem → Option β} (ht : aty[t]? = some .boolean) (h : b1 (sI μ r t i (vp_nar .boolean x)) F = some res) (hdg : decode cc pc = .ok (.bastore, 1)) (kk : ∀ μ2, F μ2 = some res → WM X nL (pc + 1) lv st cells slots μ2) : WM X nL pc lv (vI x :: vI i :: vR r :: st) cells slots μ := by
  obtain ⟨μ2, h1, h2⟩ := b1S h
  have kk := kk μ2 h2
  obtain ⟨a, n, f, rfl, hc, hi, ha, rfl⟩ := sIS h1
  obtain ⟨G, ed, lo, p, l, e, R, s, m, args, below, meth, c, Q⟩ := X
  obtain ⟨hx, hb, hml, hown, hts, hN, hK, hO, hlo, hlk, hret⟩ := E
  intro H locs ls hw hl
  obtain ⟨hM, hE, hW, hS⟩ := hw
  refine W.zast hx hb (hM.2 a _ hc) ((hK.2 t _ ht).arr n (fun j => .int (f j))) (fun q => by cases q) (by show ¬ (i < 0 ∨ (arrV _ _ _).slots.size ≤ _); rw [arrV_size]; exact hi) rfl rfl hdg (fun H' e1 e2 e3 => ?_)
  refine kk H' _ ls ⟨hM.set ?_ e2 e3, hE, hW, hS.put e2 e3 (by rw [← hW]; exact ha)⟩ hl
  show H'[a]? = some (vp_cell _ _)
  rw [e1]
  show some ((vp_cell (G.2 t) (n, _)).setSlot _ _) = some (vp_cell (G.2 t) (n, _))
  rw [vp_cell_i, vp_cell_i, arrV_store]
  congr 2
  funext q
  by_cases hq : q = i.toNatClampNeg
  · subst hq
    simp [updV, upd]
    first | rfl | skip
  · simp [updV, upd, hq]

theorem wm_last (E : EV X cc nL own ret) {r : Option Nat} {t : Nat} {i : Int32} {x : Int64} {F : Mem → Option β} (ht : aty[t]? = some .long) (h : b1 (sL μ r t i x) F = some res) (hdg : decode cc pc = .ok (.lastore, 1)) (kk : ∀ μ2, F μ2 = some res → WM X nL (pc + 1) lv st cells slots μ2) : WM X nL pc lv (vL x :: vI i :: vR r :: st) cells slots μ := by
  obtain ⟨μ2, h1, h2⟩ := b1S h
  have kk := kk μ2 h2
  obtain ⟨a, n, f, rfl, hc, hi, ha, rfl⟩ := sLS h1
  obtain ⟨G, ed, lo, p, l, e, R, s, m, args, below, meth, c, Q⟩ := X
  obtain ⟨hx, hb, hml, hown, hts, hN, hK, hO, hlo, hlk, hret⟩ := E
  intro H locs ls hw hl
  obtain ⟨hM, hE, hW, hS⟩ := hw
  refine W.last hx hb (hM.2 a _ hc) ((hK.2 t _ ht).arr n (fun j => .long (f j))) (fun q => by cases q) (by show ¬ (i < 0 ∨ (arrV _ _ _).slots.size ≤ _); rw [arrV_size]; exact hi) rfl rfl hdg (fun H' e1 e2 e3 => ?_)
  refine kk H' _ ls ⟨hM.set ?_ e2 e3, hE, hW, hS.put e2 e3 (by rw [← hW]; exact ha)⟩ hl
  show H'[a]? = some (vp_cell _ _)
  rw [e1]
  show some ((vp_cell (G.2 t) (n, _)).setSlot _ _) = some (vp_cell (G.2 t) (n, _))
  rw [vp_cell_l, vp_cell_l, arrV_store]
  congr 2
  funext q
  by_cases hq : q = i.toNatClampNeg
  · subst hq
    simp [updV, vp_updL]
    
  · simp [updV, vp_updL, hq]

theorem wm_aast (E : EV X cc nL own ret) {r x : Option Nat} {t : Nat} {cs : List Nat} {i : Int32} {C : String} {F : Mem → Option β} (ht : aty[t]? = some (.object C)) (hcs : ∀ ci ∈ cs, AS C ci) (h : b1 (sR μ r t cs i x) F = some res) (hdg : decode cc pc = .ok (.aastore, 1)) (kk : ∀ μ2, F μ2 = some res → WM X nL (pc + 1) lv st cells slots μ2) : WM X nL pc lv (vR x :: vI i :: vR r :: st) cells slots μ := by
  obtain ⟨μ2, h1, h2⟩ := b1S h
  have kk := kk μ2 h2
  obtain ⟨a, n, f, rfl, hc, hi, ha, hok, rfl⟩ := sRS h1
  obtain ⟨G, ed, lo, p, l, e, R, s, m, args, below, meth, c, Q⟩ := X
  obtain ⟨hx, hb, hml, hown, hts, hN, hK, hO, hlo, hlk, hret⟩ := E
  intro H locs ls hw hl
  obtain ⟨hM, hE, hW, hS⟩ := hw
  have hlt : i.toNatClampNeg < n := Nat.not_le.mp fun q => hi (Or.inr q)
  have h0 : ¬ i < 0 := fun q => hi (Or.inl q)
  have fin9 : ∀ H' : Heap, H'[a]? = some ((vp_cell (G.2 t) (n, .inr (.inr (.inr (.inr f))))).setSlot i.toNatClampNeg (va_rf x)) → H'.size = H.size → (∀ q, q ≠ a → H'[q]? = H[q]?) → W p l e R s m args below meth c H' (locs ++ [⟨a, i.toNatClampNeg⟩]) cells slots Q (F0 m (pc + 1) ls (st.map tv)) := by
    intro H' e1 e2 e3
    refine kk H' _ ls ⟨hM.set ?_ e2 e3, hE, hW, hS.put e2 e3 (by rw [← hW]; exact ha)⟩ hl
    show H'[a]? = some (vp_cell _ _)
    rw [e1]
    show some ((vp_cell (G.2 t) (n, _)).setSlot _ _) = some (vp_cell (G.2 t) (n, _))
    rw [vp_cell_q, vp_cell_q, arrV_store]
    congr 2
    funext q
    by_cases hq : q = i.toNatClampNeg
    · subst hq
      simp [updV, va_up]
    · simp [updV, va_up, hq]
  cases x with
  | none => exact va_WaastN (C := C) hx hb (hM.2 a _ hc) ((hK.2 t _ ht).arr n (fun j => va_rf (f j))) (fun h => by cases h) (by show ¬ (i < 0 ∨ (arrV _ _ _).slots.size ≤ _); rw [arrV_size]; exact hi) rfl rfl hdg fin9
  | some v =>
    unfold okS at hok
    split at hok
    · rename_i hb; cases hb
    · rename_i v' hv'
      cases hv'
      split at hok
      · rename_i ov hov
        obtain ⟨D, T, N, hcl, hD⟩ := hcs ov.1 (List.contains_iff_mem.mp hok)
        obtain ⟨r', hr', cellV, g1, g2, g3, -⟩ := hM.2 v _ hov
        have hcls := (hK.1 ov.1 _ hcl).2
        obtain ⟨kA, comp, k1, k2, k3, k4⟩ := hK.2 t _ ht
        have k4 : s.vm.findClass C = some comp := k4
        obtain ⟨kE, hkE, -⟩ := Vm.findClass_spec k4
        obtain ⟨kC, hkC, -⟩ := hcls.2
        have has : s.vm.assignable (G.1.1 ov.1) comp = true := by
          rcases hD with rfl | hD
          · have : comp = G.1.1 ov.1 := Option.some.inj (k4.symm.trans hcls.1)
            rw [this]
            exact va_assign hcls
          · obtain ⟨c0, t1, f1, f2, f3⟩ := Cond.castable_spec (va_Nw.use (A := args) rfl (hN _ hD))
            cases hcls.1.symm.trans f1
            cases k4.symm.trans f2
            exact f3
        exact W.aast hx hb (hM.2 a _ hc) (fun q h => by cases h) (fun h => by cases h) k1 k2 rfl hkE ⟨h0, by show _ < (arrV _ _ _).slots.size; rw [arrV_size]; exact hlt⟩ g1 (fun q h => by rw [g3] at h; cases h) (by rw [g2]; exact hkC) (by rw [g2]; exact has) rfl rfl hdg fin9
      · cases hok

theorem wm_newi (E : EV X cc nL own ret) {atype : ArrayType} {t B : Nat} {n : Int32} {ty : FieldType} {F : Option Nat → Mem → Option β} (ht : aty[t]? = some ty) (hty : newarray.typeOf atype = ty) (hd : defaultValue ty = .int 0) (harr : Cond.arrayClass ty ∈ GW) (h : b2 (nI_ μ t n B) F = some res) (hB : B * componentBytes ty ≤ 536870912) (hc : cells + 1 ≤ (xR X).cells) (hs : slots + B ≤ (xR X).slots) (hdg : decode cc pc = .ok (.newarray atype, 2)) (kk : ∀ x μ2, F x μ2 = some res → WM X nL (pc + 2) lv (vR x :: st) (cells + 1) (slots + B) μ2) : WM X nL pc lv (vI n :: st) cells slots μ := by
  obtain ⟨x, μ2, h1, h2⟩ := b2S h
  have kk := kk x μ2 h2
  unfold nI_ at h1
  split at h1
  · cases h1
  rename_i hn
  obtain ⟨rfl, rfl⟩ := Prod.mk.inj (Option.some.inj h1)
  have hn0 : ¬ n < 0 := fun q => hn (Or.inl q)
  have hnB : n.toNatClampNeg ≤ B := Nat.not_lt.mp fun q => hn (Or.inr q)
  subst hty
  obtain ⟨G, ed, lo, p, l, e, R, s, m, args, below, meth, c, Q⟩ := X
  obtain ⟨hx, hb, hml, hown, hts, hN, hK, hO, hlo, hlk, hret⟩ := E
  intro H locs ls hw hl
  obtain ⟨hM, hE, hW, hS⟩ := hw
  refine va_newaK hx hb (hts _ harr) rfl hdg rfl hn0 rfl (Nat.le_trans (Nat.mul_le_mul_right _ hnB) hB) hc (Nat.le_trans (Nat.add_le_add_left hnB _) hs) hM.1 fun H1 cA e1 z1 o1 hAr hNm => ?_
  refine W.widen (Nat.le_refl _) (Nat.add_le_add_left hnB _) ?_
  refine kk H1 locs ls ⟨hM.push (e := .inl (t, n.toNatClampNeg, .inl (fun _ => 0))) ?_ (by rw [z1, hM.1]) (fun q hq => o1 q (by rw [← hM.1]; exact hq)), hE, hW, ⟨Nat.le_trans hS.1 (by rw [z1, hM.1]; omega), fun x h1 h2 => (o1 x (by rw [← hM.1]; exact Nat.lt_of_lt_of_le h1 hS.1)).trans (hS.2.1 x h1 h2), hS.2.2⟩⟩ hl
  obtain ⟨kA, comp, k1, k2, k3, k4⟩ := hK.2 t _ ht
  have hcA : cA = G.2 t := Option.some.inj (hNm.symm.trans k3)
  subst hcA
  rw [hM.1]
  show H1[mN μ]? = some (vp_cell (G.2 t) (n.toNatClampNeg, _))
  rw [e1, hd]
  rfl

theorem wm_newl (E : EV X cc nL own ret) {atype : ArrayType} {t B : Nat} {n : Int32} {ty : FieldType} {F : Option Nat → Mem → Option β} (ht : aty[t]? = some ty) (hty : newarray.typeOf atype = ty) (hd : defaultValue ty = .long 0) (harr : Cond.arrayClass ty ∈ GW) (h : b2 (nL_ μ t n B) F = some res) (hB : B * componentBytes ty ≤ 536870912) (hc : cells + 1 ≤ (xR X).cells) (hs : slots + B ≤ (xR X).slots) (hdg : decode cc pc = .ok (.newarray atype, 2)) (kk : ∀ x μ2, F x μ2 = some res → WM X nL (pc + 2) lv (vR x :: st) (cells + 1) (slots + B) μ2) : WM X nL pc lv (vI n :: st) cells slots μ := by
  obtain ⟨x, μ2, h1, h2⟩ := b2S h
  have kk := kk x μ2 h2
  unfold nL_ at h1
  split at h1
  · cases h1
  rename_i hn
  obtain ⟨rfl, rfl⟩ := Prod.mk.inj (Option.some.inj h1)
  have hn0 : ¬ n < 0 := fun q => hn (Or.inl q)
  have hnB : n.toNatClampNeg ≤ B := Nat.not_lt.mp fun q => hn (Or.inr q)
  subst hty
  obtain ⟨G, ed, lo, p, l, e, R, s, m, args, below, meth, c, Q⟩ := X
  obtain ⟨hx, hb, hml, hown, hts, hN, hK, hO, hlo, hlk, hret⟩ := E
  intro H locs ls hw hl
  obtain ⟨hM, hE, hW, hS⟩ := hw
  refine va_newaK hx hb (hts _ harr) rfl hdg rfl hn0 rfl (Nat.le_trans (Nat.mul_le_mul_right _ hnB) hB) hc (Nat.le_trans (Nat.add_le_add_left hnB _) hs) hM.1 fun H1 cA e1 z1 o1 hAr hNm => ?_
  refine W.widen (Nat.le_refl _) (Nat.add_le_add_left hnB _) ?_
  refine kk H1 locs ls ⟨hM.push (e := .inl (t, n.toNatClampNeg, .inr (.inl (fun _ => 0)))) ?_ (by rw [z1, hM.1]) (fun q hq => o1 q (by rw [← hM.1]; exact hq)), hE, hW, ⟨Nat.le_trans hS.1 (by rw [z1, hM.1]; omega), fun x h1 h2 => (o1 x (by rw [← hM.1]; exact Nat.lt_of_lt_of_le h1 hS.1)).trans (hS.2.1 x h1 h2), hS.2.2⟩⟩ hl
  obtain ⟨kA, comp, k1, k2, k3, k4⟩ := hK.2 t _ ht
  have hcA : cA = G.2 t := Option.some.inj (hNm.symm.trans k3)
  subst hcA
  rw [hM.1]
  show H1[mN μ]? = some (vp_cell (G.2 t) (n.toNatClampNeg, _))
  rw [e1, hd]
  rfl

theorem wm_newr (E : EV X cc nL own ret) {index t B : Nat} {n : Int32} {C : String} {F : Option Nat → Mem → Option β} (ht : aty[t]? = some (.object C)) (hcl : Cond.classLink own index C ∈ GW) (harr : Cond.arrayOver (.object C) ∈ NW) (h : b2 (nR_ μ t n B) F = some res) (hB : B * 4 ≤ 536870912) (hc : cells + 1 ≤ (xR X).cells) (hs : slots + B ≤ (xR X).slots) (hdg : decode cc pc = .ok (.anewarray index, 3)) (kk : ∀ x μ2, F x μ2 = some res → WM X nL (pc + 3) lv (vR x :: st) (cells + 1) (slots + B) μ2) : WM X nL pc lv (vI n :: st) cells slots μ := by
  obtain ⟨x, μ2, h1, h2⟩ := b2S h
  have kk := kk x μ2 h2
  unfold nR_ at h1
  split at h1
  · cases h1
  rename_i hn
  obtain ⟨rfl, rfl⟩ := Prod.mk.inj (Option.some.inj h1)
  have hn0 : ¬ n < 0 := fun q => hn (Or.inl q)
  have hnB : n.toNatClampNeg ≤ B := Nat.not_lt.mp fun q => hn (Or.inr q)
  obtain ⟨G, ed, lo, p, l, e, R, s, m, args, below, meth, c, Q⟩ := X
  obtain ⟨hx, hb, hml, hown, hts, hN, hK, hO, hlo, hlk, hret⟩ := E
  intro H locs ls hw hl
  obtain ⟨hM, hE, hW, hS⟩ := hw
  refine W.anew hx hb hown (hts _ hcl) (va_AO.use (hN _ harr)) rfl hdg rfl hn0 (Nat.le_trans (Nat.mul_le_mul_right _ hnB) hB) hc (Nat.le_trans (Nat.add_le_add_left hnB _) hs) fun cA kA comp f1 f2 f3 f4 => ?_
  generalize hH1 : H.push ({ cls := cA, slots := Array.replicate n.toNatClampNeg .null, vm := .none } : Cell) = H1
  have z1 : H1.size = H.size + 1 := by rw [← hH1, Array.size_push]
  have e1 : H1[H.size]? = some (arrV cA n.toNatClampNeg (fun _ => .null)) := by rw [← hH1, Array.getElem?_push_size, ← arrV_new]
  have o1 : ∀ q : Nat, q < H.size → H1[q]? = H[q]? := fun q hq => by rw [← hH1, Array.getElem?_push, if_neg (Nat.ne_of_lt hq)]
  refine W.widen (Nat.le_refl _) (Nat.add_le_add_left hnB _) ?_
  rw [hM.1]
  refine kk H1 locs ls ⟨hM.push (e := .inl (t, n.toNatClampNeg, .inr (.inr (.inr (.inr (fun _ => none)))))) ?_ z1 o1, hE, hW, ⟨Nat.le_trans hS.1 (by omega), fun x h1 h2 => (o1 x (Nat.lt_of_lt_of_le h1 hS.1)).trans (hS.2.1 x h1 h2), hS.2.2⟩⟩ hl
  obtain ⟨kA', comp', k1, k2, k3, k4⟩ := hK.2 t _ ht
  have hcA : cA = G.2 t := Option.some.inj (f1.symm.trans k3)
  subst hcA
  show H1[H.size]? = some (vp_cell (G.2 t) (n.toNatClampNeg, _))
  rw [e1]
  rfl

theorem wm_ckc (E : EV X cc nL own ret) {r : Option Nat} {index ci : Nat} {C : String} {T : u_T} {N : Nat} {F : Unit → Option β} (hcl : vwCl[ci]? = some (C, T, N)) (hlink : Cond.classLink own index C ∈ GW) (h : b1 (cK μ r ci) F = some res) (hdg : decode cc pc = .ok (.checkcast index, 3)) (kk : F () = some res → WM X nL (pc + 3) lv (vR r :: st) cells slots μ) : WM X nL pc lv (vR r :: st) cells slots μ := by
  obtain ⟨x, h1, h2⟩ := b1S h
  have kk := kk h2
  unfold cK at h1
  obtain ⟨G, ed, lo, p, l, e, R, s, m, args, below, meth, c, Q⟩ := X
  obtain ⟨hx, hb, hml, hown, hts, hN, hK, hO, hlo, hlk, hret⟩ := E
  intro H locs ls hw hl
  split at h1
  · rename_i hr
    subst hr
    exact lv_castN hx hb hdg (kk H locs ls hw hl)
  · obtain ⟨a, fs, rfl, hc⟩ := rcS h1
    obtain ⟨r', hr', cell, g1, g2, g3, -⟩ := hw.1.2 a _ hc
    have hcls := (hK.1 ci _ hcl).2
    exact va_castS hx hb hown (hts _ hlink) hcls ⟨cell, g1, by rw [g3]; rfl, by rw [g2]; exact hcls.1⟩ hdg (kk H locs ls hw hl)

theorem wm_iret {rt : FieldType} (E : EV X cc nL own (some .int)) {μ0 μ' : Mem} {mc ms : Nat} {x : Int32} {v : Option TV} (hQ : RQ X mc ms μ0 v μ') (hv : v = some (vI x)) (hμ : μ = μ')  (hc : cells ≤ mc) (hs : slots ≤ ms) (hdg : decode cc pc = .ok (.ireturn, 1)) : WM X nL pc lv [vI x] cells slots μ := by
  subst hv; subst hμ
  obtain ⟨G, ed, lo, p, l, e, R, s, m, args, below, meth, c, Q⟩ := X
  obtain ⟨hx, hb, hml, hown, hts, hN, hK, hO, hlo, hlk, hret⟩ := E
  obtain ⟨rfl, rfl, hq⟩ := hQ
  intro H locs ls hw hl
  obtain ⟨hM, hE, hW, hS⟩ := hw
  refine W.widen hc hs (W.mono hq (W.iret hx hb hret (fun t ht hWm => ⟨rfl, ⟨hN.warm hWm, hK.moved hWm.alike, ?_, ?_, ?_⟩, hS.F ht, hE, hW⟩) (fun q hq2 => hS.2.2 q hq2) hdg hlk))
  · rw [ht, hE, hW]; exact (hO.kept hS.2.1).warm hWm
  · rw [ht, hW]; exact Nat.le_trans hlo hS.1
  · rw [ht]; exact hM

theorem wm_zret {rt : FieldType} (E : EV X cc nL own (some rt)) {μ0 μ' : Mem} {mc ms : Nat} {x : Int32} {v : Option TV} (hQ : RQ X mc ms μ0 v μ') (hv : v = some (vI x)) (hμ : μ = μ') (hn : narrow rt (.int x) = .int x) (hc : cells ≤ mc) (hs : slots ≤ ms) (hdg : decode cc pc = .ok (.ireturn, 1)) : WM X nL pc lv [vI x] cells slots μ := by
  subst hv; subst hμ
  obtain ⟨G, ed, lo, p, l, e, R, s, m, args, below, meth, c, Q⟩ := X
  obtain ⟨hx, hb, hml, hown, hts, hN, hK, hO, hlo, hlk, hret⟩ := E
  obtain ⟨rfl, rfl, hq⟩ := hQ
  intro H locs ls hw hl
  obtain ⟨hM, hE, hW, hS⟩ := hw
  refine W.widen hc hs (W.mono hq (W.zret hx hb hret hn (fun t ht hWm => ⟨rfl, ⟨hN.warm hWm, hK.moved hWm.alike, ?_, ?_, ?_⟩, hS.F ht, hE, hW⟩) (fun q hq2 => hS.2.2 q hq2) hdg hlk))
  · rw [ht, hE, hW]; exact (hO.kept hS.2.1).warm hWm
  · rw [ht, hW]; exact Nat.le_trans hlo hS.1
  · rw [ht]; exact hM

theorem wm_lret {rt : FieldType} (E : EV X cc nL own (some .long)) {μ0 μ' : Mem} {mc ms : Nat} {x : Int64} {v : Option TV} (hQ : RQ X mc ms μ0 v μ') (hv : v = some (vL x)) (hμ : μ = μ')  (hc : cells ≤ mc) (hs : slots ≤ ms) (hdg : decode cc pc = .ok (.lreturn, 1)) : WM X nL pc lv [vL x] cells slots μ := by
  subst hv; subst hμ
  obtain ⟨G, ed, lo, p, l, e, R, s, m, args, below, meth, c, Q⟩ := X
  obtain ⟨hx, hb, hml, hown, hts, hN, hK, hO, hlo, hlk, hret⟩ := E
  obtain ⟨rfl, rfl, hq⟩ := hQ
  intro H locs ls hw hl
  obtain ⟨hM, hE, hW, hS⟩ := hw
  refine W.widen hc hs (W.mono hq (W.lret hx hb hret (fun t ht hWm => ⟨rfl, ⟨hN.warm hWm, hK.moved hWm.alike, ?_, ?_, ?_⟩, hS.F ht, hE, hW⟩) (fun q hq2 => hS.2.2 q hq2) hdg hlk))
  · rw [ht, hE, hW]; exact (hO.kept hS.2.1).warm hWm
  · rw [ht, hW]; exact Nat.le_trans hlo hS.1
  · rw [ht]; exact hM

theorem wm_aret {rt : FieldType} (E : EV X cc nL own (some rt)) {μ0 μ' : Mem} {mc ms : Nat} {x : Option Nat} {v : Option TV} (hQ : RQ X mc ms μ0 v μ') (hv : v = some (vR x)) (hμ : μ = μ') (hrt : (∃ n, rt = .object n) ∨ ∃ t, rt = .array t) (hc : cells ≤ mc) (hs : slots ≤ ms) (hdg : decode cc pc = .ok (.areturn, 1)) : WM X nL pc lv [vR x] cells slots μ := by
  subst hv; subst hμ
  obtain ⟨G, ed, lo, p, l, e, R, s, m, args, below, meth, c, Q⟩ := X
  obtain ⟨hx, hb, hml, hown, hts, hN, hK, hO, hlo, hlk, hret⟩ := E
  obtain ⟨rfl, rfl, hq⟩ := hQ
  intro H locs ls hw hl
  obtain ⟨hM, hE, hW, hS⟩ := hw
  refine W.widen hc hs (W.mono hq (W.aret hx hb hret hrt (va_rf_or x) (fun t ht hWm => ⟨rfl, ⟨hN.warm hWm, hK.moved hWm.alike, ?_, ?_, ?_⟩, hS.F ht, hE, hW⟩) (fun q hq2 => hS.2.2 q hq2) hdg hlk))
  · rw [ht, hE, hW]; exact (hO.kept hS.2.1).warm hWm
  · rw [ht, hW]; exact Nat.le_trans hlo hS.1
  · rw [ht]; exact hM

theorem wm_vret (E : EV X cc nL own none) {μ0 μ' : Mem} {mc ms : Nat} {v : Option TV} (hQ : RQ X mc ms μ0 v μ') (hv : v = none) (hμ : μ = μ') (hc : cells ≤ mc) (hs : slots ≤ ms) (hdg : decode cc pc = .ok (.return_, 1)) : WM X nL pc lv [] cells slots μ := by
  subst hv; subst hμ
  obtain ⟨G, ed, lo, p, l, e, R, s, m, args, below, meth, c, Q⟩ := X
  obtain ⟨hx, hb, hml, hown, hts, hN, hK, hO, hlo, hlk, hret⟩ := E
  obtain ⟨rfl, rfl, hq⟩ := hQ
  intro H locs ls hw hl
  obtain ⟨hM, hE, hW, hS⟩ := hw
  refine W.widen hc hs (W.mono hq (W.vret hx hb hret (fun t ht hWm => ⟨rfl, ⟨hN.warm hWm, hK.moved hWm.alike, ?_, ?_, ?_⟩, hS.F ht, hE, hW⟩) (fun q hq2 => hS.2.2 q hq2) hdg hlk))
  · rw [ht, hE, hW]; exact (hO.kept hS.2.1).warm hWm
  · rw [ht, hW]; exact Nat.le_trans hlo hS.1
  · rw [ht]; exact hM

theorem wm_widen {k n : Nat} (h1 : cells ≤ k) (h2 : slots ≤ n) (kk : WM X nL pc lv st k n μ) : WM X nL pc lv st cells slots μ := by
  obtain ⟨G, ed, lo, p, l, e, R, s, m, args, below, meth, c, Q⟩ := X
  exact fun H locs ls hw hl => W.widen h1 h2 (kk H locs ls hw hl)
theorem wm_sub {lv' : List (Nat × TV)} (h : ∀ q ∈ lv', q ∈ lv) (kk : WM X nL pc lv' st cells slots μ) : WM X nL pc lv st cells slots μ := by
  obtain ⟨G, ed, lo, p, l, e, R, s, m, args, below, meth, c, Q⟩ := X
  refine fun H locs ls hw hl => kk H locs ls hw ⟨hl.1, hl.2.1, fun q hq => ?_⟩
  obtain ⟨z, hz, rfl⟩ := List.mem_map.mp hq
  exact hl.2.2 _ (List.mem_map.mpr ⟨z, h z hz, rfl⟩)

abbrev xl (X : CX) : Launch := X.2.2.2.2.1
theorem gw_ws {args : Array Value} {s : State} (hts : ∀ w ∈ GW, w.before args s = true) {y : MethodName} {bytes : ByteArray} {maxL : Nat} {r : Option FieldType} (hc : Cond.code y bytes maxL r ∈ GW) : GoodIn GW (Cond.code y bytes maxL r :: GW) := by
  intro w hw
  rcases List.mem_cons.mp hw with rfl | hw
  · exact ⟨hc, good_of_word (GW_good _ hc)⟩
  · exact ⟨hw, good_of_word (GW_good _ hw)⟩
theorem pc_blind {G : GG} {μ : Mem} {av : List TV} : FrameBlind (PC G μ av) := fun a U g mk q => ⟨q.1, WD.same (u := U) rfl rfl q.2⟩
theorem wd_at {G : GG} {ed : HD} {lo : Nat} {s : State} {μ : Mem} {H : Heap} {locs : List Loc} (hN : NN s) (hK : KK G s) (hO : OO ed lo s s.heap) (hlo : lo ≤ s.heap.size) (hw : WK G ed lo s μ H locs) (U : State) (hU : U.heap = H) (hW : s.WarmedH U.vm) : WD G μ U := by
  obtain ⟨hM, rfl, rfl, hS⟩ := hw
  refine ⟨hN.warm hW, hK.moved hW.alike, ?_, ?_, ?_⟩
  · rw [hU]; exact (hO.kept hS.2.1).warm hW
  · rw [hU]; exact Nat.le_trans hlo hS.1
  · rw [hU]; exact hM
/-- behind a call -/
theorem wm_after {p : Program} {l : Launch} {e : Env} {R : Room} {s : State} {m : MethodId} {args : Array Value} {below : List Frame} {meth : Method} {c : Code} {H : Heap} {locs : List Loc} {mc ms : Nat} {Q : State → Prop} {G : GG} {ed : HD} {lo : Nat} {μ' : Mem} {v : Option TV} {a : Array Value} {ls : Array Slot} {st0 rest : List Value} (hw : WK G ed lo s μ H locs)
    (hr : va_Run p l e R s m args below meth c H locs cells slots mc ms (F0 m pc ls st0) rest (QC G μ μ' v a) (fun q => mW μ ≤ q))
    (kk : ∀ H1 locs1, WK G ed lo s μ' H1 locs1 → W p l e R s m args below meth c H1 locs1 (cells + mc) (slots + ms) Q (F0 m (pc + 3) ls ((v.map tv).toList ++ rest))) : W p l e R s m args below meth c H locs cells slots Q (F0 m pc ls st0) := by
  obtain ⟨hM, rfl, rfl, hS⟩ := hw
  intro T hT X
  obtain ⟨v1, st₀, t, T', L, h0, X', hL, e1, e2, ⟨hv, hWD, ⟨hz, hk⟩, hE, hW⟩, st⟩ := hr T hT X
  have hv1 : v1 = v.map tv := Outcome.returned.inj hv
  subst hv1
  rw [h0] at hz hk
  obtain ⟨t2, a1, b1⟩ := kk T'.heap (locs ++ L) ⟨by rw [e1]; exact hWD.2.2.2.2, hE, hW, ⟨Nat.le_trans hS.1 (by rw [e1]; exact hz), fun q h1 h2 => by rw [e1, hk q (Nat.lt_of_lt_of_le h1 hS.1) h2]; exact hS.2.1 q h1 h2, fun q hq => by
      rcases List.mem_append.mp hq with h | h
      · exact hS.2.2 q h
      · exact hL q h⟩⟩ T' rfl X'
  exact ⟨t2, st t2 a1, b1⟩
/-- a call's facts: nest: the entry names a private member of the nest -/
def LK (own : String) (index : Nat) (y : MethodName) (bytes : ByteArray) (maxL : Nat) (r : Option FieldType) (n : Nat) : Prop := Cond.code y bytes maxL r ∈ GW ∧ Cond.initialized y.cls ∈ GW ∧ (Cond.methodLink own index y ∈ GW ∨ ∃ host, Cond.methodLinkNest own index y host ∈ NW) ∧ (y.cls ≠ "java/lang/invoke/MethodHandle" ∧ y.cls ≠ "java/lang/invoke/VarHandle" ∧ (parseMethodDescriptor y.desc).map (fun d => d.parameters.length) = some n)
theorem lvsz {ls : Array Slot} {nL : Nat} {l : List (Nat × Value)} (h : lv_has ls nL l) : ls.size = nL := h.1
theorem cat_sum (st : List TV) (h : (st.map tcat).sum ≤ 8) : (List.map (fun v : Value => v.category) (st.map tv)).sum ≤ 8 := by
  rw [List.map_map]
  rw [show ((fun v : Value => v.category) ∘ tv) = tcat from funext fun v => (tcat_eq v).symm]
  exact h

theorem wm_cS (E : EV X cc nL own ret) {y : MethodName} {bytes : ByteArray} {maxL index n : Nat} {r' : Option FieldType} {fr mc ms lc : Nat} {As : List TV} {v : Option TV} {μ' : Mem} {st0 : List TV}  (hL : LK own index y bytes maxL r' n) (hsta : Cond.static y ∈ GW)
    (hM : CT (xl X) X.1 y bytes maxL r' fr mc ms lc μ As v μ') (hn : As.length = n) (hst : st0 = As.reverse ++ st) (hR : fr + 1 ≤ (xR X).frames ∧ 8 + (maxL + 11) + lc ≤ (xR X).locals) (hf : cells + mc ≤ (xR X).cells ∧ slots + ms ≤ (xR X).slots) (hsm : (st.map tcat).sum ≤ 8) (hdg : decode cc pc = .ok (.invokestatic index, 3))
    (kk : WM X nL (pc + 3) lv (v.toList ++ st) (cells + mc) (slots + ms) μ') : WM X nL pc lv st0 cells slots μ := by
  subst hst
  obtain ⟨hcode, hini, hlink, hd⟩ := hL
  obtain ⟨G, ed, lo, p, l, e, R, s, m, args, below, meth, c, Q⟩ := X
  obtain ⟨hx, hb, hml, hown, hts, hN, hK, hO, hlo, hlk, hret⟩ := E
  intro H locs ls hw hl
  have hG := gw_ws hts hcode
  have hkk : ∀ H1 locs1, WK G ed lo s μ' H1 locs1 → W p l e R s m args below meth c H1 locs1 (cells + mc) (slots + ms) Q (F0 m (pc + 3) ls ((v.map tv).toList ++ st.map tv)) := by
    intro H1 locs1 hw1
    have := kk H1 locs1 ls hw1 hl
    rw [List.map_append] at this
    cases v <;> exact this
  rcases hlink with hlink | ⟨host, hlink⟩
  · exact wm_after hw (va_runS (As := As.map tv) (rest := st.map tv) ⟨hx, hb, hml, hown, hts⟩ hM ⟨callB_of n hts hG rfl rfl rfl (hts _ hini) (hts _ hlink) hd hR, hts _ hsta⟩ ⟨pc_blind, fun U hU hW => ⟨rfl, wd_at hN hK hO hlo hw U hU hW⟩⟩ rfl (by rw [List.length_map]; exact hn) (lvsz hl) (by show (As.reverse ++ st).map tv = _; rw [List.map_append, List.map_reverse]) (lv_room (cat_sum st hsm)) hdg hf) hkk
  · exact wm_after hw (va_runSN (As := As.map tv) (rest := st.map tv) ⟨hx, hb, hml, hown, hts⟩ hM ⟨va_cnB n hts hG rfl rfl rfl (hN _ hlink) (hts _ hini) hd hR, hts _ hsta, trivial⟩ ⟨pc_blind, fun U hU hW => ⟨rfl, wd_at hN hK hO hlo hw U hU hW⟩⟩ rfl (by rw [List.length_map]; exact hn) (lvsz hl) (by show (As.reverse ++ st).map tv = _; rw [List.map_append, List.map_reverse]) (lv_room (cat_sum st hsm)) hdg hf) hkk

theorem wm_cV (E : EV X cc nL own ret) {y : MethodName} {bytes : ByteArray} {maxL index n : Nat} {r' : Option FieldType} {fr mc ms lc : Nat} {As : List TV} {v : Option TV} {μ' : Mem} {st0 : List TV} {r : Option Nat} {ci : Nat} {C : String} {T : u_T} {N : Nat} {u : Unit} (hL : LK own index y bytes maxL r' n) (hcl : vwCl[ci]? = some (C, T, N)) (hin : Cond.instanceMethod y ∈ GW) (hsel : Cond.selects C y y ∈ GW) (hrc : rc μ r ci = some u)
    (hM : CT (xl X) X.1 y bytes maxL r' fr mc ms lc μ (vR r :: As) v μ') (hn : As.length = n) (hst : st0 = As.reverse ++ vR r :: st) (hR : fr + 1 ≤ (xR X).frames ∧ 8 + (maxL + 11) + lc ≤ (xR X).locals) (hf : cells + mc ≤ (xR X).cells ∧ slots + ms ≤ (xR X).slots) (hsm : (st.map tcat).sum ≤ 8) (hdg : decode cc pc = .ok (.invokevirtual index, 3))
    (kk : WM X nL (pc + 3) lv (v.toList ++ st) (cells + mc) (slots + ms) μ') : WM X nL pc lv st0 cells slots μ := by
  subst hst
  obtain ⟨hcode, hini, hlink, hd⟩ := hL
  obtain ⟨G, ed, lo, p, l, e, R, s, m, args, below, meth, c, Q⟩ := X
  obtain ⟨hx, hb, hml, hown, hts, hN, hK, hO, hlo, hlk, hret⟩ := E
  obtain ⟨a, fs, rfl, hc⟩ := rcS hrc
  intro H locs ls hw hl
  have hG := gw_ws hts hcode
  have hkk : ∀ H1 locs1, WK G ed lo s μ' H1 locs1 → W p l e R s m args below meth c H1 locs1 (cells + mc) (slots + ms) Q (F0 m (pc + 3) ls ((v.map tv).toList ++ st.map tv)) := by
    intro H1 locs1 hw1
    have := kk H1 locs1 ls hw1 hl
    rw [List.map_append] at this
    cases v <;> exact this
  obtain ⟨rr, hr', cell, g1, g2, g3, -⟩ := hw.1.2 a _ hc
  have hcls := (hK.1 ci _ hcl).2
  have hrv : ∃ cellB : Cell, H[a]? = some cellB ∧ cellB.vm.isStatics = false ∧ s.vm.findClass C = some cellB.cls := ⟨cell, g1, by rw [g3]; rfl, by rw [g2]; exact hcls.1⟩
  rcases hlink with hlink | ⟨host, hlink⟩
  · exact wm_after hw (va_runV (C := C) (b := a) (As := As.map tv) (rest := st.map tv) ⟨hx, hb, hml, hown, hts⟩ hM ⟨callB_of n hts hG rfl rfl rfl (hts _ hini) (hts _ hlink) hd hR, hts _ hin, hts _ hsel⟩ ⟨pc_blind, hrv, fun U hU hW => ⟨rfl, wd_at hN hK hO hlo hw U hU hW⟩⟩ rfl (by rw [List.length_map]; exact hn) (lvsz hl) (by show (As.reverse ++ vR (some a) :: st).map tv = _; rw [List.map_append, List.map_reverse]; rfl) (lv_room (cat_sum st hsm)) hdg hf) hkk
  · exact wm_after hw (va_runVN (C := C) (b := a) (As := As.map tv) (rest := st.map tv) ⟨hx, hb, hml, hown, hts⟩ hM ⟨va_cnB n hts hG rfl rfl rfl (hN _ hlink) (hts _ hini) hd hR, hts _ hin, hts _ hsel⟩ ⟨pc_blind, hrv, fun U hU hW => ⟨rfl, wd_at hN hK hO hlo hw U hU hW⟩⟩ rfl (by rw [List.length_map]; exact hn) (lvsz hl) (by show (As.reverse ++ vR (some a) :: st).map tv = _; rw [List.map_append, List.map_reverse]; rfl) (lv_room (cat_sum st hsm)) hdg hf) hkk

theorem wm_cVs (E : EV X cc nL own ret) {y : MethodName} {bytes : ByteArray} {maxL index n : Nat} {r' : Option FieldType} {fr mc ms lc : Nat} {As : List TV} {v : Option TV} {μ' : Mem} {st0 : List TV} {r : Option Nat} {u : Unit} (hL : LK own index y bytes maxL r' n) (hin : Cond.instanceMethod y ∈ GW) (hsel : Cond.selects "java/lang/String" y y ∈ GW) (hrc : rS μ r = some u)
    (hM : CT (xl X) X.1 y bytes maxL r' fr mc ms lc μ (vR r :: As) v μ') (hn : As.length = n) (hst : st0 = As.reverse ++ vR r :: st) (hR : fr + 1 ≤ (xR X).frames ∧ 8 + (maxL + 11) + lc ≤ (xR X).locals) (hf : cells + mc ≤ (xR X).cells ∧ slots + ms ≤ (xR X).slots) (hsm : (st.map tcat).sum ≤ 8) (hdg : decode cc pc = .ok (.invokevirtual index, 3))
    (kk : WM X nL (pc + 3) lv (v.toList ++ st) (cells + mc) (slots + ms) μ') : WM X nL pc lv st0 cells slots μ := by
  subst hst
  obtain ⟨hcode, hini, hlink, hd⟩ := hL
  obtain ⟨G, ed, lo, p, l, e, R, s, m, args, below, meth, c, Q⟩ := X
  obtain ⟨hx, hb, hml, hown, hts, hN, hK, hO, hlo, hlk, hret⟩ := E
  obtain ⟨rfl, -⟩ := ifS hrc
  intro H locs ls hw hl
  have hG := gw_ws hts hcode
  have hkk : ∀ H1 locs1, WK G ed lo s μ' H1 locs1 → W p l e R s m args below meth c H1 locs1 (cells + mc) (slots + ms) Q (F0 m (pc + 3) ls ((v.map tv).toList ++ st.map tv)) := by
    intro H1 locs1 hw1
    have := kk H1 locs1 ls hw1 hl
    rw [List.map_append] at this
    cases v <;> exact this
  have hE : mS μ = ed.2.2.1 := congrArg (fun z : HD => z.2.2.1) hw.2.1
  obtain ⟨cell, g1, g2, g3, -⟩ := hO.1.2.2.2.1.kept hw.2.2.2.2.1
  have hrv : ∃ cellB : Cell, H[mS μ]? = some cellB ∧ cellB.vm.isStatics = false ∧ s.vm.findClass "java/lang/String" = some cellB.cls := by rw [hE]; exact ⟨cell, g1, g2, g3⟩
  rcases hlink with hlink | ⟨host, hlink⟩
  · exact wm_after hw (va_runV (C := "java/lang/String") (b := mS μ) (As := As.map tv) (rest := st.map tv) ⟨hx, hb, hml, hown, hts⟩ hM ⟨callB_of n hts hG rfl rfl rfl (hts _ hini) (hts _ hlink) hd hR, hts _ hin, hts _ hsel⟩ ⟨pc_blind, hrv, fun U hU hW => ⟨rfl, wd_at hN hK hO hlo hw U hU hW⟩⟩ rfl (by rw [List.length_map]; exact hn) (lvsz hl) (by show (As.reverse ++ vR (some (mS μ)) :: st).map tv = _; rw [List.map_append, List.map_reverse]; rfl) (lv_room (cat_sum st hsm)) hdg hf) hkk
  · exact wm_after hw (va_runVN (C := "java/lang/String") (b := mS μ) (As := As.map tv) (rest := st.map tv) ⟨hx, hb, hml, hown, hts⟩ hM ⟨va_cnB n hts hG rfl rfl rfl (hN _ hlink) (hts _ hini) hd hR, hts _ hin, hts _ hsel⟩ ⟨pc_blind, hrv, fun U hU hW => ⟨rfl, wd_at hN hK hO hlo hw U hU hW⟩⟩ rfl (by rw [List.length_map]; exact hn) (lvsz hl) (by show (As.reverse ++ vR (some (mS μ)) :: st).map tv = _; rw [List.map_append, List.map_reverse]; rfl) (lv_room (cat_sum st hsm)) hdg hf) hkk

theorem wm_cI (E : EV X cc nL own ret) {y : MethodName} {bytes : ByteArray} {maxL index n : Nat} {r' : Option FieldType} {fr mc ms lc : Nat} {As : List TV} {v : Option TV} {μ' : Mem} {st0 : List TV} {r : Option Nat} {ci : Nat} {u : Unit} (hL : LK own index y bytes maxL r' n) (hy1 : y.name = "<init>") (hr0 : r' = none) (hin : Cond.instanceMethod y ∈ GW) (hrc : rc μ r ci = some u)
    (hM : CT (xl X) X.1 y bytes maxL r' fr mc ms lc μ (vR r :: As) v μ') (hn : As.length = n) (hst : st0 = As.reverse ++ vR r :: st) (hR : fr + 1 ≤ (xR X).frames ∧ 8 + (maxL + 11) + lc ≤ (xR X).locals) (hf : cells + mc ≤ (xR X).cells ∧ slots + ms ≤ (xR X).slots) (hsm : (st.map tcat).sum ≤ 8) (hdg : decode cc pc = .ok (.invokespecial index, 3))
    (kk : WM X nL (pc + 3) lv (v.toList ++ st) (cells + mc) (slots + ms) μ') : WM X nL pc lv st0 cells slots μ := by
  subst hst
  obtain ⟨hcode, hini, hlink, hd⟩ := hL
  obtain ⟨G, ed, lo, p, l, e, R, s, m, args, below, meth, c, Q⟩ := X
  obtain ⟨hx, hb, hml, hown, hts, hN, hK, hO, hlo, hlk, hret⟩ := E
  obtain ⟨a, fs, rfl, hc⟩ := rcS hrc
  subst hr0
  intro H locs ls hw hl
  have hG := gw_ws hts hcode
  have hkk : ∀ H1 locs1, WK G ed lo s μ' H1 locs1 → W p l e R s m args below meth c H1 locs1 (cells + mc) (slots + ms) Q (F0 m (pc + 3) ls ((v.map tv).toList ++ st.map tv)) := by
    intro H1 locs1 hw1
    have := kk H1 locs1 ls hw1 hl
    rw [List.map_append] at this
    cases v <;> exact this
  rcases hlink with hlink | ⟨host, hlink⟩
  · exact wm_after hw (va_runI (b := a) (As := As.map tv) (rest := st.map tv) ⟨hx, hb, hml, hown, hts⟩ hM ⟨callB_of n hts hG rfl rfl rfl (hts _ hini) (hts _ hlink) hd hR, hy1, hts _ hin⟩ ⟨pc_blind, fun U hU hW => ⟨rfl, wd_at hN hK hO hlo hw U hU hW⟩⟩ rfl (by rw [List.length_map]; exact hn) (lvsz hl) (by show (As.reverse ++ vR (some a) :: st).map tv = _; rw [List.map_append, List.map_reverse]; rfl) (lv_room (cat_sum st hsm)) hdg hf) hkk
  · exact wm_after hw (va_runIN (b := a) (As := As.map tv) (rest := st.map tv) ⟨hx, hb, hml, hown, hts⟩ hM ⟨va_cnB n hts hG rfl rfl rfl (hN _ hlink) (hts _ hini) hd hR, hy1, hts _ hin⟩ ⟨pc_blind, fun U hU hW => ⟨rfl, wd_at hN hK hO hlo hw U hU hW⟩⟩ rfl (by rw [List.length_map]; exact hn) (lvsz hl) (by show (As.reverse ++ vR (some a) :: st).map tv = _; rw [List.map_append, List.map_reverse]; rfl) (lv_room (cat_sum st hsm)) hdg hf) hkk

end

def fu : Nat := 4096
def b0 {α β : Type} (a : α) (F : α → Option β) : Option β := F a
def gd {β : Type} (c : Prop) [Decidable c] (o : Option β) : Option β := if c then none else o
theorem gdS {β : Type} {c : Prop} [Decidable c] {o : Option β} {r : β} (h : gd c o = some r) : ¬ c ∧ o = some r := by
  unfold gd at h
  split at h
  · cases h
  · rename_i hc
    exact ⟨hc, h⟩
def okZ (x : Int32) : Bool := x == 0 || x == 1
theorem okZN {x : Int32} (h : ¬ ¬ okZ x = true) : narrow .boolean (.int x) = .int x := by
  have h : okZ x = true := Classical.not_not.mp h
  unfold okZ at h
  simp only [Bool.or_eq_true, beq_iff_eq] at h
  rcases h with rfl | rfl <;> rfl
def okC (x : Int32) : Bool := vp_nar .char x == x
theorem okCN {x : Int32} (h : ¬ ¬ okC x = true) : narrow .char (.int x) = .int x := by
  have h : okC x = true := Classical.not_not.mp h
  have h : vp_nar .char x = x := by
    unfold okC at h
    exact beq_iff_eq.mp h
  exact congrArg Value.int h
theorem rtM {α : Type} {x r : α} {μ μ' : Mem} (h : some (x, μ) = some (r, μ')) : μ = μ' := (Prod.mk.inj (Option.some.inj h)).2
theorem rtI {x r : Int32} {μ μ' : Mem} (h : some (x, μ) = some (r, μ')) : some (vI r) = some (vI x) := by rw [(Prod.mk.inj (Option.some.inj h)).1]
theorem rtL {x r : Int64} {μ μ' : Mem} (h : some (x, μ) = some (r, μ')) : some (vL r) = some (vL x) := by rw [(Prod.mk.inj (Option.some.inj h)).1]
theorem rtR {x r : Option Nat} {μ μ' : Mem} (h : some (x, μ) = some (r, μ')) : some (vR r) = some (vR x) := by rw [(Prod.mk.inj (Option.some.inj h)).1]
def OI (own : String) (index : Nat) : Prop := Cond.methodLink own index objectInit ∈ GW ∧ Cond.instanceMethod objectInit ∈ GW ∧ Cond.code objectInit ⟨#[0xb1]⟩ 1 none ∈ GW
section
variable {X : CX} {cc : ByteArray} {nL pc : Nat} {own : String} {ret : Option FieldType} {lv : List (Nat × TV)} {st : List TV} {cells slots : Nat} {μ : Mem} {β : Type} {res : β}
theorem wm_letI {e : Int32} {F : Int32 → Option β} (h : b0 e F = some res) (kk : ∀ z, F z = some res → WM X nL pc lv (vI z :: st) cells slots μ) : WM X nL pc lv (vI e :: st) cells slots μ := kk e h
theorem wm_letJ {e : Int64} {F : Int64 → Option β} (h : b0 e F = some res) (kk : ∀ z, F z = some res → WM X nL pc lv (vL z :: st) cells slots μ) : WM X nL pc lv (vL e :: st) cells slots μ := kk e h
theorem wm_letR {e : Option Nat} {F : Option Nat → Option β} (h : b0 e F = some res) (kk : ∀ z, F z = some res → WM X nL pc lv (vR z :: st) cells slots μ) : WM X nL pc lv (vR e :: st) cells slots μ := kk e h
theorem wm_pick {lv' : List (Nat × TV)} (ks : List Nat) (h : ks.filterMap (fun k => lv[k]?) = lv') (kk : WM X nL pc lv' st cells slots μ) : WM X nL pc lv st cells slots μ := by
  refine wm_sub (fun q hq => ?_) kk
  rw [← h] at hq
  obtain ⟨k, -, hk⟩ := List.mem_filterMap.mp hq
  exact List.mem_of_getElem? hk
theorem wm_obj (E : EV X cc nL own ret) {index : Nat} {r : Option Nat} {u : Unit} {ci : Nat} (hr : rc μ r ci = some u) (hO : OI own index) (hf : 1 ≤ (xR X).frames) (hs : 20 ≤ (xR X).locals) (hst : st.length = 0) (hdg : decode cc pc = .ok (.invokespecial index, 3)) (kk : WM X nL (pc + 3) lv st cells slots μ) : WM X nL pc lv (vR r :: st) cells slots μ := by
  obtain ⟨a, fs, rfl, hc⟩ := rcS hr
  cases st with
  | cons v t => cases hst
  | nil =>
    obtain ⟨G, ed, lo, p, l, e, R, s, m, args, below, meth, c, Q⟩ := X
    obtain ⟨hx, hb, hml, hown, hts, hN, hK, hO', hlo, hlk, hret⟩ := E
    obtain ⟨o1, o2, o3⟩ := hO
    intro H locs ls hw hl
    refine W.objInit hx hb hown (hts _ o1) (hts _ o2) (hts _ o3) rfl (by rw [hml]; exact hl.1) rfl hdg hf (Nat.le_trans (Nat.le_of_ble_eq_true rfl) hs) ?_
    exact kk H locs ls hw hl
theorem wm_gets (E : EV X cc nL own ret) {index : Nat} (hl : Cond.fieldLink own index "java/util/ArrayList" "DEFAULTCAPACITY_EMPTY_ELEMENTDATA" "[Ljava/lang/Object;" ∈ GW) (hdg : decode cc pc = .ok (.getstatic index, 3)) (kk : WM X nL (pc + 3) lv (vR (some (mD μ)) :: st) cells slots μ) : WM X nL pc lv st cells slots μ := by
  obtain ⟨G, ed, lo, p, l, e, R, s, m, args, below, meth, c, Q⟩ := X
  obtain ⟨hx, hb, hml, hown, hts, hN, hK, hO, hlo, hlk, hret⟩ := E
  intro H locs ls hw hl'
  have hE : mD μ = ed.1 := congrArg Prod.fst hw.2.1
  refine va_gets hx hb hO.1.1 hw.2.2.2 hown (hts _ hl) (fun _ h => h) hdg ?_
  have := kk H locs ls hw hl'
  rw [hE] at this
  exact this
end
end
section
def acI (μ : Mem) (r0 : Option Nat) (sp : Int32) (r1 : Option Nat) (dp n : Int32) (t : Nat) : Option Mem := match aC μ r0 t, aC μ r1 t with
  | some (_, n0, .inl f), some (a1, n1, .inl g) => if sp < 0 ∨ dp < 0 ∨ n < 0 ∨ n0 < sp.toNatClampNeg + n.toNatClampNeg ∨ n1 < dp.toNatClampNeg + n.toNatClampNeg ∨ a1 < mW μ then none else some (m_set μ a1 (.inl (t, n1, .inl (va_cpy f g sp.toNatClampNeg dp.toNatClampNeg n.toNatClampNeg))))
  | _, _ => none
theorem acIS {μ μ2 : Mem} {r0 r1 : Option Nat} {sp dp n : Int32} {t : Nat} (h : acI μ r0 sp r1 dp n t = some μ2) : ∃ a0 n0 f a1 n1 g, r0 = some a0 ∧ r1 = some a1 ∧ mF μ a0 = some (.inl (t, n0, .inl f)) ∧ mF μ a1 = some (.inl (t, n1, .inl g)) ∧ ¬ sp < 0 ∧ ¬ dp < 0 ∧ ¬ n < 0 ∧ sp.toNatClampNeg + n.toNatClampNeg ≤ n0 ∧ dp.toNatClampNeg + n.toNatClampNeg ≤ n1 ∧ mW μ ≤ a1 ∧ μ2 = m_set μ a1 (.inl (t, n1, .inl (va_cpy f g sp.toNatClampNeg dp.toNatClampNeg n.toNatClampNeg))) := by
  unfold acI at h
  split at h
  · rename_i a0 n0 f a1 n1 g h0 h1
    obtain ⟨q1, q2⟩ := aCS h0
    obtain ⟨q3, q4⟩ := aCS h1
    split at h
    · cases h
    · rename_i hn
      cases h
      simp only [not_or, Nat.not_lt] at hn
      exact ⟨a0, n0, f, a1, n1, g, q1, q3, q2, q4, hn.1, hn.2.1, hn.2.2.1, hn.2.2.2.1, hn.2.2.2.2.1, hn.2.2.2.2.2, rfl⟩
  · cases h
def acR (μ : Mem) (r0 : Option Nat) (sp : Int32) (r1 : Option Nat) (dp n : Int32) (t : Nat) (cs : List Nat) : Option Mem := match aC μ r0 t, aC μ r1 t with
  | some (_, n0, .inr (.inr (.inr (.inr f)))), some (a1, n1, .inr (.inr (.inr (.inr g)))) => if sp < 0 ∨ dp < 0 ∨ n < 0 ∨ n0 < sp.toNatClampNeg + n.toNatClampNeg ∨ n1 < dp.toNatClampNeg + n.toNatClampNeg ∨ a1 < mW μ ∨ ¬ (List.range n.toNatClampNeg).all (fun i => okS μ cs (f (sp.toNatClampNeg + i))) = true then none else some (m_set μ a1 (.inl (t, n1, .inr (.inr (.inr (.inr (va_cpy f g sp.toNatClampNeg dp.toNatClampNeg n.toNatClampNeg)))))))
  | _, _ => none
theorem acRS {μ μ2 : Mem} {r0 r1 : Option Nat} {sp dp n : Int32} {t : Nat} {cs : List Nat} (h : acR μ r0 sp r1 dp n t cs = some μ2) : ∃ a0 n0 f a1 n1 g, r0 = some a0 ∧ r1 = some a1 ∧ mF μ a0 = some (.inl (t, n0, .inr (.inr (.inr (.inr f))))) ∧ mF μ a1 = some (.inl (t, n1, .inr (.inr (.inr (.inr g))))) ∧ ¬ sp < 0 ∧ ¬ dp < 0 ∧ ¬ n < 0 ∧ sp.toNatClampNeg + n.toNatClampNeg ≤ n0 ∧ dp.toNatClampNeg + n.toNatClampNeg ≤ n1 ∧ mW μ ≤ a1 ∧ (∀ i, i < n.toNatClampNeg → okS μ cs (f (sp.toNatClampNeg + i)) = true) ∧ μ2 = m_set μ a1 (.inl (t, n1, .inr (.inr (.inr (.inr (va_cpy f g sp.toNatClampNeg dp.toNatClampNeg n.toNatClampNeg)))))) := by
  unfold acR at h
  split at h
  · rename_i a0 n0 f a1 n1 g h0 h1
    obtain ⟨q1, q2⟩ := aCS h0
    obtain ⟨q3, q4⟩ := aCS h1
    split at h
    · cases h
    · rename_i hn
      cases h
      simp only [not_or, Nat.not_lt, Classical.not_not] at hn
      exact ⟨a0, n0, f, a1, n1, g, q1, q3, q2, q4, hn.1, hn.2.1, hn.2.2.1, hn.2.2.2.1, hn.2.2.2.2.1, hn.2.2.2.2.2.1, fun i hi => List.all_eq_true.mp hn.2.2.2.2.2.2 i (List.mem_range.mpr hi), rfl⟩
  · cases h
def YC (own : String) (index : Nat) : Prop := Cond.methodLink own index arraycopyName ∈ GW ∧ Cond.native arraycopyName ∈ GW ∧ Cond.static arraycopyName ∈ GW ∧ Cond.initialized "java/lang/System" ∈ GW
def getCN : MethodName := ⟨"java/lang/Object", "getClass", "()Ljava/lang/Class;"⟩
def GC (own : String) (index : Nat) : Prop := Cond.methodLink own index getCN ∈ GW ∧ Cond.declares getCN ∈ NW ∧ Cond.selects "[Ljava/lang/Object;" getCN getCN ∈ GW ∧ Cond.instanceMethod getCN ∈ GW ∧ Cond.native getCN ∈ GW
theorem i32nn (z : Int32) (hz : ¬ z < 0) : z.toInt = (z.toNatClampNeg : Int) := by
  have hz0 : (0 : Int) ≤ z.toInt := by
    have := Int32.not_lt.mp hz
    simpa using Int32.le_iff_toInt_le.mp this
  show z.toInt = ((z.toInt.toNat : Nat) : Int)
  omega
section
variable {X : CX} {cc : ByteArray} {nL pc : Nat} {own : String} {ret : Option FieldType} {lv : List (Nat × TV)} {st : List TV} {cells slots : Nat} {μ : Mem} {β : Type} {res : β}
theorem wm_acI (E : EV X cc nL own ret) {index t : Nat} {r0 r1 : Option Nat} {sp dp n : Int32} {F : Mem → Option β} (hy : YC own index) (ht : aty[t]? = some .int) (h : b1 (acI μ r0 sp r1 dp n t) F = some res) (hf : 1 ≤ (xR X).frames) (hs : nativeFrameWords "java/lang/System" "arraycopy" 5 + 19 ≤ (xR X).locals) (hsm : (st.map tcat).sum ≤ 8) (hdg : decode cc pc = .ok (.invokestatic index, 3)) (kk : ∀ μ2, F μ2 = some res → WM X nL (pc + 3) lv st cells slots μ2) : WM X nL pc lv (vI n :: vI dp :: vR r1 :: vI sp :: vR r0 :: st) cells slots μ := by
  obtain ⟨μ2, e1, e2⟩ := b1S h
  have kk := kk μ2 e2
  obtain ⟨a0, n0, f, a, n1, g, rfl, rfl, hc0, hc1, h1, h2, h3, h4, h5, ha, rfl⟩ := acIS e1
  obtain ⟨G, ed, lo, p, l, e, R, s, m, args, below, meth, c, Q⟩ := X
  obtain ⟨hx, hb, hml, hown, hts, hN, hK, hO, hlo, hlk, hret⟩ := E
  obtain ⟨y1, y2, y3, y4⟩ := hy
  intro H locs ls hw hl
  obtain ⟨hM, hE, hW, hS⟩ := hw
  intro T hT X
  have hc0 : H[a0]? = some (vp_cell (G.2 t) (n0, .inl f)) := hM.2 a0 _ hc0
  have hc1 : H[a]? = some (vp_cell (G.2 t) (n1, .inl g)) := hM.2 a _ hc1
  obtain ⟨-, k0, hk0, cm0, hkk0⟩ := (hK.2 t _ ht).arr n0 (fun j => .int (f j))
  obtain ⟨-, k1, hk1, cm1, hkk1⟩ := (hK.2 t _ ht).arr n1 (fun j => .int (g j))
  have hcs := cat_sum st hsm
  obtain ⟨vm', X', step⟩ := X.arraycopy hx hown (hts _ y1) (hts _ y2) (hts _ y3) (hts _ y4) (src := a0) (dst := a) (cs := vp_cell (G.2 t) (n0, .inl f)) (cd := vp_cell (G.2 t) (n1, .inl g)) (srcPos := sp) (destPos := dp) (n := n) (by rw [hT]; exact hc0) (by rw [hT]; exact hc1)
    (fun _ h => by cases h) (fun _ h => by cases h) (fun h => by cases h) (fun h => by cases h) hk0 hk1 hkk0 hkk1 rfl h1 h2 h3
    (by rw [i32nn sp h1, i32nn n h3]; show ¬ _ > ((arrV (G.2 t) n0 (fun j => .int (f j))).slots.size : Int); rw [arrV_size]; omega)
    (by rw [i32nn dp h2, i32nn n h3]; show ¬ _ > ((arrV (G.2 t) n1 (fun j => .int (g j))).slots.size : Int); rw [arrV_size]; omega)
    (fun vm₁ _ i hi => by
      have e : (vp_cell (G.2 t) (n0, .inl f)).slots.getD (sp.toNatClampNeg + i) .null = .int (f (sp.toNatClampNeg + i)) := by
        show (arrV (G.2 t) n0 (fun j => .int (f j))).slots.getD _ _ = _
        rw [Array.getD_eq_getD_getElem?, arrV_read _ _ (by omega)]
        rfl
      rw [e]
      exact ⟨rfl, trivial⟩)
    (g := F0 m pc ls (.int n :: .int dp :: .ref a :: .int sp :: .ref a0 :: st.map tv)) rfl (by rw [hml]; exact hl.1) (rest := st.map tv) rfl (by rw [hb]; exact hdg) hf (by show 2 * 0 + _ + _ ≤ _; have hs' : nativeFrameWords "java/lang/System" "arraycopy" 5 + 19 ≤ R.locals := hs; omega)
  have e1 : copied (vp_cell (G.2 t) (n0, .inl f)) (vp_cell (G.2 t) (n1, .inl g)) sp dp n = vp_cell (G.2 t) (n1, .inl (va_cpy f g sp.toNatClampNeg dp.toNatClampNeg n.toNatClampNeg)) := va_copied (fun z => .int z) (G.2 t) (G.2 t) f g h4
  rw [e1] at X' step
  have hlt : a < H.size := (Array.getElem?_eq_some_iff.mp hc1).1
  have oq : ∀ q : Nat, q ≠ a → (H.setIfInBounds a (vp_cell (G.2 t) (n1, .inl (va_cpy f g sp.toNatClampNeg dp.toNatClampNeg n.toNatClampNeg))))[q]? = H[q]? := fun q hq => by simp [Array.getElem?_setIfInBounds, Ne.symm hq]
  obtain ⟨t9, a1, b1⟩ := kk _ _ ls ⟨hM.set (e := .inl (t, n1, .inl (va_cpy f g sp.toNatClampNeg dp.toNatClampNeg n.toNatClampNeg))) (show (H.setIfInBounds a _)[a]? = some _ by simp [Array.getElem?_setIfInBounds, hlt]) (by simp) oq, hE, hW, ⟨by simp; exact hS.1, fun q g1 g2 => by
      rw [oq q (fun e => g2 (by rw [e, ← hW]; exact ha))]
      exact hS.2.1 q g1 g2, fun q hq => by
      rcases List.mem_append.mp hq with h | h
      · exact hS.2.2 q h
      · obtain ⟨z, -, hz⟩ := List.mem_map.mp h
        rw [← hz, ← hW]
        exact ha⟩⟩ hl _ (by rw [← hT]; rfl) X'
  exact ⟨t9, step t9 a1, b1⟩
theorem wm_acR (E : EV X cc nL own ret) {index t : Nat} {C : String} {cs : List Nat} {r0 r1 : Option Nat} {sp dp n : Int32} {F : Mem → Option β} (hy : YC own index) (ht : aty[t]? = some (.object C)) (hcs : ∀ ci ∈ cs, AS C ci) (h : b1 (acR μ r0 sp r1 dp n t cs) F = some res) (hf : 1 ≤ (xR X).frames) (hs : nativeFrameWords "java/lang/System" "arraycopy" 5 + 19 ≤ (xR X).locals) (hsm : (st.map tcat).sum ≤ 8) (hdg : decode cc pc = .ok (.invokestatic index, 3)) (kk : ∀ μ2, F μ2 = some res → WM X nL (pc + 3) lv st cells slots μ2) : WM X nL pc lv (vI n :: vI dp :: vR r1 :: vI sp :: vR r0 :: st) cells slots μ := by
  obtain ⟨μ2, e1, e2⟩ := b1S h
  have kk := kk μ2 e2
  obtain ⟨a0, n0, f, a, n1, g, rfl, rfl, hc0, hc1, h1, h2, h3, h4, h5, ha, hok, rfl⟩ := acRS e1
  obtain ⟨G, ed, lo, p, l, e, R, s, m, args, below, meth, c, Q⟩ := X
  obtain ⟨hx, hb, hml, hown, hts, hN, hK, hO, hlo, hlk, hret⟩ := E
  obtain ⟨y1, y2, y3, y4⟩ := hy
  intro H locs ls hw hl
  obtain ⟨hM, hE, hW, hS⟩ := hw
  intro T hT X
  have hc0 : H[a0]? = some (vp_cell (G.2 t) (n0, .inr (.inr (.inr (.inr f))))) := hM.2 a0 _ hc0
  have hc1 : H[a]? = some (vp_cell (G.2 t) (n1, .inr (.inr (.inr (.inr g))))) := hM.2 a _ hc1
  obtain ⟨-, k0, hk0, cm0, hkk0⟩ := (hK.2 t _ ht).arr n0 (fun j => va_rf (f j))
  obtain ⟨-, k1, hk1, cm1, hkk1⟩ := (hK.2 t _ ht).arr n1 (fun j => va_rf (g j))
  have hsum := cat_sum st hsm
  obtain ⟨vm', X', step⟩ := X.arraycopy hx hown (hts _ y1) (hts _ y2) (hts _ y3) (hts _ y4) (src := a0) (dst := a) (cs := vp_cell (G.2 t) (n0, .inr (.inr (.inr (.inr f))))) (cd := vp_cell (G.2 t) (n1, .inr (.inr (.inr (.inr g))))) (srcPos := sp) (destPos := dp) (n := n) (by rw [hT]; exact hc0) (by rw [hT]; exact hc1)
    (fun _ h => by cases h) (fun _ h => by cases h) (fun h => by cases h) (fun h => by cases h) hk0 hk1 hkk0 hkk1 rfl h1 h2 h3
    (by rw [i32nn sp h1, i32nn n h3]; show ¬ _ > ((arrV (G.2 t) n0 (fun j => va_rf (f j))).slots.size : Int); rw [arrV_size]; omega)
    (by rw [i32nn dp h2, i32nn n h3]; show ¬ _ > ((arrV (G.2 t) n1 (fun j => va_rf (g j))).slots.size : Int); rw [arrV_size]; omega)
    (fun vm₁ hal i hi => by
      have e : (vp_cell (G.2 t) (n0, .inr (.inr (.inr (.inr f))))).slots.getD (sp.toNatClampNeg + i) .null = va_rf (f (sp.toNatClampNeg + i)) := by
        show (arrV (G.2 t) n0 (fun j => va_rf (f j))).slots.getD _ _ = _
        rw [Array.getD_eq_getD_getElem?, arrV_read _ _ (by omega)]
        rfl
      rw [e]
      have hk9 := hok i hi
      cases hy : f (sp.toNatClampNeg + i) with
      | none => exact ⟨rfl, trivial⟩
      | some y =>
        rw [hy] at hk9
        unfold okS at hk9
        split at hk9
        · rename_i hb9; cases hb9
        · rename_i v' hv'
          cases hv'
          split at hk9
          · rename_i ov hov
            obtain ⟨D, T9, N, hcl, hD⟩ := hcs ov.1 (List.contains_iff_mem.mp hk9)
            obtain ⟨r', hr', cellV, g1, g2, g3, -⟩ := hM.2 y _ hov
            have hcls := (hK.1 ov.1 _ hcl).2
            obtain ⟨kA, comp, k1', k2', k3', k4'⟩ := hK.2 t _ ht
            have k4' : s.vm.findClass C = some comp := k4'
            cases hk1.symm.trans k1'
            cases hkk1.symm.trans k2'
            obtain ⟨kE, hkE, -⟩ := Vm.findClass_spec k4'
            obtain ⟨kC, hkC, -⟩ := hcls.2
            have has : s.vm.assignable (G.1.1 ov.1) cm1 = true := by
              rcases hD with rfl | hD
              · have h9 : cm1 = G.1.1 ov.1 := Option.some.inj (k4'.symm.trans hcls.1)
                rw [h9]
                exact va_assign hcls
              · obtain ⟨c0, t1, f1, f2, f3⟩ := Cond.castable_spec (va_Nw.use (A := args) rfl (hN _ hD))
                cases hcls.1.symm.trans f1
                cases k4'.symm.trans f2
                exact f3
            obtain ⟨kC', hkC', -⟩ := hal.2.2 _ _ hkC
            obtain ⟨kE', hkE', -⟩ := hal.2.2 _ _ hkE
            refine ⟨rfl, cellV, (show T.heap[y]? = some cellV by rw [hT]; exact g1), (fun q h => by rw [g3] at h; cases h), ⟨kC', by rw [g2]; exact hkC'⟩, ⟨kE', hkE'⟩, ?_⟩
            show vm₁.assignable _ _ = true
            rw [hal.assignable, g2]
            exact has
          · cases hk9)
    (g := F0 m pc ls (.int n :: .int dp :: .ref a :: .int sp :: .ref a0 :: st.map tv)) rfl (by rw [hml]; exact hl.1) (rest := st.map tv) rfl (by rw [hb]; exact hdg) hf (by show 2 * 0 + _ + _ ≤ _; have hs' : nativeFrameWords "java/lang/System" "arraycopy" 5 + 19 ≤ R.locals := hs; omega)
  have e1 : copied (vp_cell (G.2 t) (n0, .inr (.inr (.inr (.inr f))))) (vp_cell (G.2 t) (n1, .inr (.inr (.inr (.inr g))))) sp dp n = vp_cell (G.2 t) (n1, .inr (.inr (.inr (.inr (va_cpy f g sp.toNatClampNeg dp.toNatClampNeg n.toNatClampNeg))))) := va_copied (fun z => va_rf z) (G.2 t) (G.2 t) f g h4
  rw [e1] at X' step
  have hlt : a < H.size := (Array.getElem?_eq_some_iff.mp hc1).1
  have oq : ∀ q : Nat, q ≠ a → (H.setIfInBounds a (vp_cell (G.2 t) (n1, .inr (.inr (.inr (.inr (va_cpy f g sp.toNatClampNeg dp.toNatClampNeg n.toNatClampNeg)))))))[q]? = H[q]? := fun q hq => by simp [Array.getElem?_setIfInBounds, Ne.symm hq]
  obtain ⟨t9, a1, b1⟩ := kk _ _ ls ⟨hM.set (e := .inl (t, n1, .inr (.inr (.inr (.inr (va_cpy f g sp.toNatClampNeg dp.toNatClampNeg n.toNatClampNeg)))))) (show (H.setIfInBounds a _)[a]? = some _ by simp [Array.getElem?_setIfInBounds, hlt]) (by simp) oq, hE, hW, ⟨by simp; exact hS.1, fun q g1 g2 => by
      rw [oq q (fun e => g2 (by rw [e, ← hW]; exact ha))]
      exact hS.2.1 q g1 g2, fun q hq => by
      rcases List.mem_append.mp hq with h | h
      · exact hS.2.2 q h
      · obtain ⟨z, -, hz⟩ := List.mem_map.mp h
        rw [← hz, ← hW]
        exact ha⟩⟩ hl _ (by rw [← hT]; rfl) X'
  exact ⟨t9, step t9 a1, b1⟩
theorem wm_ldM (E : EV X cc nL own ret) {index : Nat} (hl : Cond.classLink own index "[Ljava/lang/Object;" ∈ GW) (hdg : decode cc pc = .ok (.ldc index, 2)) (kk : WM X nL (pc + 2) lv (vR (some (mC μ)) :: st) cells slots μ) : WM X nL pc lv st cells slots μ := by
  obtain ⟨G, ed, lo, p, l, e, R, s, m, args, below, meth, c, Q⟩ := X
  obtain ⟨hx, hb, hml, hown, hts, hN, hK, hO, hlo, hlk, hret⟩ := E
  intro H locs ls hw hl'
  have hE : mC μ = ed.2.1 := congrArg (fun z : HD => z.2.1) hw.2.1
  refine va_ldcM hx hb hown (hts _ hl) hO.1.2.2.1 hdg ?_
  have := kk H locs ls hw hl'
  rw [hE] at this
  exact this
theorem wm_getC (E : EV X cc nL own ret) {index : Nat} {r : Option Nat} {u : Nat × vp_A} (hg : GC own index) (hr : aC μ r 4 = some u) (hf : 1 ≤ (xR X).frames) (hs : 22 ≤ (xR X).locals) (hsm : (st.map tcat).sum ≤ 8) (hdg : decode cc pc = .ok (.invokevirtual index, 3)) (kk : WM X nL (pc + 3) lv (vR (some (mC μ)) :: st) cells slots μ) : WM X nL pc lv (vR r :: st) cells slots μ := by
  obtain ⟨a, x⟩ := u
  obtain ⟨rfl, hc⟩ := aCS hr
  obtain ⟨G, ed, lo, p, l, e, R, s, m, args, below, meth, c, Q⟩ := X
  obtain ⟨hx, hb, hml, hown, hts, hN, hK, hO, hlo, hlk, hret⟩ := E
  obtain ⟨g1, g2, g3, g4, g5⟩ := hg
  intro H locs ls hw hl'
  have hE : mC μ = ed.2.1 := congrArg (fun z : HD => z.2.1) hw.2.1
  have hcell := hw.1.2 a _ hc
  obtain ⟨kA, comp, k1, k2, k3, k4⟩ := hK.2 4 (.object "java/lang/Object") rfl
  have hsum := cat_sum st hsm
  have hs' : 22 ≤ R.locals := hs
  refine va_getC (C := "[Ljava/lang/Object;") hx hb (by rw [hml]; exact hl'.1.symm) hown (hts _ g1) (va_Nw.use rfl (hN _ g2)) (hts _ g3) (hts _ g4) (hts _ g5) hO.1.2.2.1 ⟨vp_cell (G.2 4) x, hcell, ?_, ?_⟩ hf (by omega) hdg ?_
  · obtain ⟨n, f⟩ := x
    match f with
    | .inl _ => rfl
    | .inr (.inl _) => rfl
    | .inr (.inr (.inl _)) => rfl
    | .inr (.inr (.inr (.inl _))) => rfl
    | .inr (.inr (.inr (.inr _))) => rfl
  · have hcl : (vp_cell (G.2 4) x).cls = G.2 4 := by
      obtain ⟨n, f⟩ := x
      match f with
      | .inl _ => rfl
      | .inr (.inl _) => rfl
      | .inr (.inr (.inl _)) => rfl
      | .inr (.inr (.inr (.inl _))) => rfl
      | .inr (.inr (.inr (.inr _))) => rfl
    rw [hcl]
    exact k3
  · have := kk H locs ls hw hl'
    rw [hE] at this
    exact this
end
end
section
/-! a copy of an int array by clone; a cast to int[]; int[11][11]; the one text -/
def clI (μ : Mem) (r : Option Nat) (t B : Nat) : Option (Option Nat × Mem) := match aC μ r t with
  | some (_, n, .inl f) => if B < n then none else some (some (mN μ), m_push μ (.inl (t, n, .inl f)))
  | _ => none
theorem clIS {μ μ2 : Mem} {r x : Option Nat} {t B : Nat} (h : clI μ r t B = some (x, μ2)) : ∃ a n f, r = some a ∧ mF μ a = some (.inl (t, n, .inl f)) ∧ n ≤ B ∧ x = some (mN μ) ∧ μ2 = m_push μ (.inl (t, n, .inl f)) := by
  unfold clI at h
  split at h
  · rename_i a n f hq
    obtain ⟨h1, h2⟩ := aCS hq
    split at h
    · cases h
    · rename_i hn
      cases h
      exact ⟨a, n, f, h1, h2, Nat.not_lt.mp hn, rfl, rfl⟩
  · cases h
def cKA (μ : Mem) (r : Option Nat) (t : Nat) : Option Unit := match aC μ r t with
  | some _ => some ()
  | none => none
def oCloN : MethodName := ⟨"java/lang/Object", "clone", "()Ljava/lang/Object;"⟩
def iCloN : MethodName := ⟨"[I", "clone", "()Ljava/lang/Object;"⟩
def KL (own : String) (index : Nat) : Prop := Cond.methodLink own index iCloN ∈ GW ∧ Cond.sameMethod "[I" "java/lang/Object" "clone" "()Ljava/lang/Object;" ∈ GW ∧ Cond.native oCloN ∈ GW ∧ Cond.instanceMethod oCloN ∈ GW ∧ Cond.selects "[I" iCloN oCloN ∈ GW ∧ Cond.castable "[I" "java/lang/Cloneable" ∈ NW
/-- the rows of a table of n rows of k zeros -/
def rows (μ : Mem) (t : Nat) (k : Nat) : Nat → Mem
  | 0 => μ
  | n + 1 => m_push (rows μ t k n) (.inl (t, k, .inl (fun _ => 0)))
def nT_ (μ : Mem) (t t0 n k : Nat) : Option (Option Nat × Mem) := some (some (mN μ), rows (m_push μ (.inl (t, n, .inr (.inr (.inr (.inr (fun i => if i < n then some (mN μ + 1 + i) else none))))))) t0 k n)
theorem rows_N (μ : Mem) (t k n : Nat) : mN (rows μ t k n) = mN μ + n := by
  induction n with
  | zero => rfl
  | succ n ih => show mN (rows μ t k n) + 1 = _; rw [ih]; omega
theorem rows_E (μ : Mem) (t k n : Nat) : mE (rows μ t k n) = mE μ := by
  induction n with
  | zero => rfl
  | succ n ih => exact ih
theorem rows_W (μ : Mem) (t k n : Nat) : mW (rows μ t k n) = mW μ := by
  induction n with
  | zero => rfl
  | succ n ih => exact ih
theorem rows_F (μ : Mem) (t k n : Nat) (a : Nat) (e : ME) (h : mF (rows μ t k n) a = some e) : (mF μ a = some e) ∨ ∃ j, j < n ∧ a = mN μ + j ∧ e = .inl (t, k, .inl (fun _ => 0)) := by
  induction n with
  | zero => exact Or.inl h
  | succ n ih =>
    by_cases ha : a = mN (rows μ t k n)
    · subst ha
      have : (.inl (t, k, .inl (fun _ => 0)) : ME) = e := Option.some.inj ((va_up_self (mF (rows μ t k n)) _ _).symm.trans h)
      exact Or.inr ⟨n, Nat.lt_succ_self n, rows_N μ t k n, this.symm⟩
    · rcases ih ((va_up_ne (mF (rows μ t k n)) _ ha).symm.trans h) with h | ⟨j, h1, h2⟩
      · exact Or.inl h
      · exact Or.inr ⟨j, Nat.lt_succ_of_lt h1, h2⟩
theorem outer_eq (c : ClassId) (N h0 : Nat) (i : Nat) : Jvm.Free.Multi.outerC c N h0 i = arrV c N (fun j => if j < i then .ref (h0 + 1 + j) else .null) := by
  induction i with
  | zero =>
    have e : (fun j : Nat => if j < 0 then Value.ref (h0 + 1 + j) else .null) = fun _ => .null := by
      funext j
      simp
    rw [e, ← arrV_new]
    rfl
  | succ i ih =>
    show (Jvm.Free.Multi.outerC c N h0 i).setSlot i (.ref (h0 + 1 + i)) = _
    rw [ih, arrV_store]
    congr 1
    funext q
    by_cases hq : q = i
    · subst hq
      simp [updV]
    · have h1 : (q < i + 1) = (q < i) := propext ⟨fun h => Nat.lt_of_le_of_ne (Nat.le_of_lt_succ h) hq, fun h => Nat.lt_succ_of_lt h⟩
      simp only [updV, if_neg hq, h1]
def gSv (μ : Mem) (r : Option Nat) : Option (Option Nat) := if r = some (mS μ) then some (some (mV μ)) else none
def gSc (μ : Mem) (r : Option Nat) : Option Int32 := if r = some (mS μ) then some 0 else none
def aB (μ : Mem) (r : Option Nat) (i : Int32) : Option Int32 := if r = some (mV μ) then (if i < 0 ∨ 26 ≤ i.toNatClampNeg then none else some (scb.getD i.toNatClampNeg 0)) else none
def aLb (μ : Mem) (r : Option Nat) : Option Int32 := if r = some (mV μ) then some 26 else none
section
variable {X : CX} {cc : ByteArray} {nL pc : Nat} {own : String} {ret : Option FieldType} {lv : List (Nat × TV)} {st : List TV} {cells slots : Nat} {μ : Mem} {β : Type} {res : β}
theorem wm_cln (E : EV X cc nL own ret) {index t B : Nat} {r : Option Nat} {F : Option Nat → Mem → Option β} (hk : KL own index) (ht : aty[t]? = some .int) (h : b2 (clI μ r t B) F = some res) (hf : 1 ≤ (xR X).frames) (hs : 22 ≤ (xR X).locals) (hc : cells + 1 ≤ (xR X).cells) (hsl : slots + B ≤ (xR X).slots) (hsm : (st.map tcat).sum ≤ 8) (hdg : decode cc pc = .ok (.invokevirtual index, 3)) (kk : ∀ x μ2, F x μ2 = some res → WM X nL (pc + 3) lv (vR x :: st) (cells + 1) (slots + B) μ2) : WM X nL pc lv (vR r :: st) cells slots μ := by
  obtain ⟨x, μ2, e1, e2⟩ := b2S h
  have kk := kk x μ2 e2
  obtain ⟨a, n, f, rfl, hca, hnB, rfl, rfl⟩ := clIS e1
  obtain ⟨G, ed, lo, p, l, e, R, s, m, args, below, meth, c, Q⟩ := X
  obtain ⟨hx, hb, hml, hown, hts, hN, hK, hO, hlo, hlk, hret⟩ := E
  obtain ⟨y1, y2, y3, y4, y5, y6⟩ := hk
  intro H locs ls hw hl
  obtain ⟨hM, hE, hW, hS⟩ := hw
  have hsum := cat_sum st hsm
  have hs' : 22 ≤ R.locals := hs
  have hcell : H[a]? = some (vp_cell (G.2 t) (n, .inl f)) := hM.2 a _ hca
  obtain ⟨kA, comp, k1, k2, k3, k4⟩ := hK.2 t _ ht
  obtain ⟨c0, t0', f1, f2, f3⟩ := Cond.castable_spec (va_Nw.use (A := args) rfl (hN _ y6))
  have hnm : s.vm.findClass "[I" = some (G.2 t) := k3
  have hc0 : c0 = G.2 t := Option.some.inj (f1.symm.trans hnm)
  subst hc0
  intro T hT X
  obtain ⟨kT, hkT, heT⟩ := X.warmed.alike.2.2 _ _ k1
  obtain ⟨vm', X', st'⟩ := X.cloneArray hx hown (hts _ y1) (hts _ y2) (hts _ y3) (hts _ y4) (hts _ y5) (a := a) (cell := vp_cell (G.2 t) (n, .inl f)) (by rw [hT]; exact hcell) (fun k h => by cases h) (fun h => by cases h) hnm f2 f3
    (fun i v hv => by
      have hv : (arrV (G.2 t) n (fun j => .int (f j))).slots[i]? = some v := hv
      by_cases hi : i < n
      · rw [arrV_read _ _ hi] at hv
        cases hv
        have hk2 : kT.kind = .array comp .int := by rw [heT]; exact k2
        show T.fitsSlot (G.2 t) .none i (.int (f i)) = true
        simp [State.fitsSlot, State.slotType?, hkT, hk2, fits]
      · rw [Array.getElem?_eq_none (by rw [arrV_size]; omega)] at hv
        cases hv)
    (g := F0 m pc ls (.ref a :: st.map tv)) rfl (by rw [hml]; exact hl.1) (rest := st.map tv) rfl (by rw [hb]; exact hdg) hf (by show 2 * 0 + _ + 14 ≤ _; omega) hc (by show slots + (arrV (G.2 t) n (fun j => .int (f j))).slots.size ≤ _; rw [arrV_size]; exact Nat.le_trans (Nat.add_le_add_left hnB _) hsl) (hloader := Vm.clonesLoader_of_array k1 k2)
  have e9 : ({ cls := (vp_cell (G.2 t) (n, .inl f)).cls, slots := (vp_cell (G.2 t) (n, .inl f)).slots } : Cell) = vp_cell (G.2 t) (n, .inl f) := rfl
  have e8 : (vp_cell (G.2 t) (n, .inl f)).slots.size = n := arrV_size _ _ _
  rw [e9, e8] at X'
  rw [e9] at st'
  generalize hH1 : H.push (vp_cell (G.2 t) (n, .inl f)) = H1
  have z1 : H1.size = H.size + 1 := by rw [← hH1, Array.size_push]
  have q1 : H1[H.size]? = some (vp_cell (G.2 t) (n, .inl f)) := by rw [← hH1, Array.getElem?_push_size]
  have o1 : ∀ q : Nat, q < H.size → H1[q]? = H[q]? := fun q hq => by rw [← hH1, Array.getElem?_push, if_neg (Nat.ne_of_lt hq)]
  have K := W.widen (Nat.le_refl (cells + 1)) (Nat.add_le_add_left hnB slots) (kk H1 locs ls ⟨hM.push (e := .inl (t, n, .inl f)) q1 z1 o1, hE, hW, ⟨Nat.le_trans hS.1 (by omega), fun x h1 h2 => (o1 x (Nat.lt_of_lt_of_le h1 hS.1)).trans (hS.2.1 x h1 h2), hS.2.2⟩⟩ hl)
  obtain ⟨t9, b1, b2⟩ := K ((T.setVm vm').pushCell (vp_cell (G.2 t) (n, .inl f))) (by rw [← hH1, ← hT]; rfl) X'
  refine ⟨t9, st' t9 ?_, b2⟩
  rw [hT, hM.1]
  exact b1
theorem wm_ckA (E : EV X cc nL own ret) {index t : Nat} {r : Option Nat} {F : Unit → Option β} (ht : aty[t]? = some .int) (hlink : Cond.classLink own index "[I" ∈ GW) (h : b1 (cKA μ r t) F = some res) (hdg : decode cc pc = .ok (.checkcast index, 3)) (kk : F () = some res → WM X nL (pc + 3) lv (vR r :: st) cells slots μ) : WM X nL pc lv (vR r :: st) cells slots μ := by
  obtain ⟨x, h1, h2⟩ := b1S h
  have kk := kk h2
  unfold cKA at h1
  split at h1
  · rename_i o ho
    obtain ⟨a, x⟩ := o
    obtain ⟨rfl, hc⟩ := aCS ho
    obtain ⟨G, ed, lo, p, l, e, R, s, m, args, below, meth, c, Q⟩ := X
    obtain ⟨hx, hb, hml, hown, hts, hN, hK, hO, hlo, hlk, hret⟩ := E
    intro H locs ls hw hl
    have hP : va_P G.1 vwCl [(a, .inl (G.2 t, x))] H := fun j q hj => by
      cases j with
      | zero => cases hj; exact hw.1.2 a _ hc
      | succ j => simp at hj
    obtain ⟨kA, comp, k1, k2, k3, k4⟩ := hK.2 t _ ht
    exact va_castA (ws := [(a, .inl (G.2 t, x))]) hx hb hown (hts _ hlink) hP 0 rfl k3 hdg (kk H locs ls hw hl)
  · cases h1
theorem wm_mna (E : EV X cc nL own ret) {index t t0 : Nat} {F : Option Nat → Mem → Option β} (ht : aty[t]? = some (.array .int)) (ht0 : aty[t0]? = some .int) (hcl : Cond.classLink own index "[[I" ∈ GW) (hov : Cond.arrayOver (.array .int) ∈ NW) (hac : Cond.arrayClass .int ∈ GW) (h : b2 (nT_ μ t t0 11 11) F = some res) (hc : cells + 12 ≤ (xR X).cells) (hs : slots + 132 ≤ (xR X).slots) (hdg : decode cc pc = .ok (.multianewarray index 2, 4)) (kk : ∀ x μ2, F x μ2 = some res → WM X nL (pc + 4) lv (vR x :: st) (cells + 12) (slots + 132) μ2) : WM X nL pc lv (vI 11 :: vI 11 :: st) cells slots μ := by
  obtain ⟨x, μ2, e1, e2⟩ := b2S h
  have kk := kk x μ2 e2
  unfold nT_ at e1
  obtain ⟨rfl, rfl⟩ := Prod.mk.inj (Option.some.inj e1)
  obtain ⟨G, ed, lo, p, l, e, R, s, m, args, below, meth, c, Q⟩ := X
  obtain ⟨hx, hb, hml, hown, hts, hN, hK, hO, hlo, hlk, hret⟩ := E
  intro H locs ls hw hl
  obtain ⟨hM, hE, hW, hS⟩ := hw
  intro T hT Xs
  have hc' : cells + 12 ≤ R.cells := hc
  have hs' : slots + 132 ≤ R.slots := hs
  obtain ⟨vm₁, cA, comp, -, fA, fC, hOu, -, X', step⟩ := Xs.multianewarray2F hx (ty := .int) hown (hts _ hcl) (show (Cond.arrayOver (.array .int)).before args s = true from hN _ hov) (hts _ hac) (g := F0 m pc ls (.int 11 :: .int 11 :: st.map tv)) rfl (by rw [hb]; exact hdg) rfl (by decide) (by decide) (by decide) (by decide) (by decide) rfl rfl (by show cells + (1 + 11) ≤ _; omega) (by show slots + (11 + 11 * 11) ≤ _; omega)
  obtain ⟨kA, comp1, k1, k2, k3, k4⟩ := hK.2 t _ ht
  obtain ⟨kB, comp2, j1, j2, j3, j4⟩ := hK.2 t0 _ ht0
  have hcA : cA = G.2 t := Option.some.inj (fA.symm.trans k3)
  have hcB : comp = G.2 t0 := Option.some.inj (fC.symm.trans j3)
  subst hcA
  subst hcB
  have e11 : (11 : Int32).toNatClampNeg = 11 := by decide
  rw [e11] at X' step
  generalize hF : Jvm.Free.Multi.fill (T.setVm vm₁) (G.2 t) (G.2 t0) 11 11 (defaultValue .int) 11 = F9 at X' step
  have hTh : (T.setVm vm₁).heap = H := hT
  obtain ⟨f1, f2, -, -⟩ := Jvm.Free.Multi.fill_facts (T.setVm vm₁) (G.2 t) (G.2 t0) 11 11 (defaultValue .int) 11
  rw [hF, hTh] at f1 f2
  have hold : ∀ x : Nat, x < H.size → F9.heap[x]? = H[x]? := fun x hx => by
    have := Jvm.Free.Multi.fill_old (T.setVm vm₁) (G.2 t) (G.2 t0) 11 11 (defaultValue .int) (a := x) (by rw [hTh]; exact hx) 11
    rw [hF, hTh] at this
    exact this
  have hrow : ∀ j : Nat, j < 11 → F9.heap[H.size + 1 + j]? = some (vp_cell (G.2 t0) (11, .inl (fun _ => 0))) := fun j hj => by
    have := Jvm.Free.Multi.fill_inner (T.setVm vm₁) (G.2 t) (G.2 t0) 11 11 (defaultValue .int) 11 j hj
    rw [hF, hTh] at this
    rw [this]
    rfl
  have hout : Jvm.Free.Multi.outerC (G.2 t) 11 H.size 11 = vp_cell (G.2 t) (11, .inr (.inr (.inr (.inr (fun i => if i < 11 then some (H.size + 1 + i) else none))))) := by
    rw [outer_eq, vp_cell_q]
    congr 1
    funext j
    by_cases hj : j < 11
    · rw [if_pos hj, if_pos hj]
      rfl
    · rw [if_neg hj, if_neg hj]
      rfl
  rw [hout] at f2
  have hM2 : MM G (rows (m_push μ (.inl (t, 11, .inr (.inr (.inr (.inr (fun i => if i < 11 then some (mN μ + 1 + i) else none))))))) t0 11 11) F9.heap := by
    refine ⟨by rw [rows_N, f1, hM.1]; rfl, fun a e he => ?_⟩
    rcases rows_F _ _ _ _ _ _ he with he | ⟨j, hj, rfl, rfl⟩
    · by_cases ha : a = mN μ
      · subst ha
        have : (.inl (t, 11, .inr (.inr (.inr (.inr (fun i => if i < 11 then some (mN μ + 1 + i) else none))))) : ME) = e := Option.some.inj ((va_up_self (mF μ) _ _).symm.trans he)
        subst this
        show F9.heap[mN μ]? = some (vp_cell (G.2 t) (11, _))
        rw [← hM.1]
        exact f2
      · have h2 := hM.2 a e ((va_up_ne (mF μ) _ ha).symm.trans he)
        exact h2.kept (hold a h2.lt)
    · show F9.heap[mN μ + 1 + j]? = some (vp_cell (G.2 t0) (11, .inl (fun _ => 0)))
      rw [← hM.1]
      exact hrow j hj
  obtain ⟨t9, a1, b1⟩ := kk F9.heap locs ls ⟨hM2, by rw [rows_E]; exact hE, by rw [rows_W]; exact hW, ⟨Nat.le_trans hS.1 (by rw [f1]; omega), fun x h1 h2 => (hold x (Nat.lt_of_lt_of_le h1 hS.1)).trans (hS.2.1 x h1 h2), hS.2.2⟩⟩ hl F9 rfl X'
  refine ⟨t9, step t9 ?_, b1⟩
  rw [hT, hM.1]
  exact a1
theorem wm_gzC (E : EV X cc nL own ret) {index : Nat} (hl : Cond.fieldLink own index "java/lang/String" "COMPACT_STRINGS" "Z" ∈ GW) (hdg : decode cc pc = .ok (.getstatic index, 3)) (kk : WM X nL (pc + 3) lv (vI 1 :: st) cells slots μ) : WM X nL pc lv st cells slots μ := by
  obtain ⟨G, ed, lo, p, l, e, R, s, m, args, below, meth, c, Q⟩ := X
  obtain ⟨hx, hb, hml, hown, hts, hN, hK, hO, hlo, hlk, hret⟩ := E
  intro H locs ls hw hl'
  exact va_gets hx hb hO.1.2.2.2.2.2.2.2.1 hw.2.2.2 hown (hts _ hl) (fun _ h => h) hdg (kk H locs ls hw hl')
theorem wm_gzF (E : EV X cc nL own ret) {index : Nat} (hl : Cond.fieldLink own index "jdk/internal/util/Preconditions" "SIOOBE_FORMATTER" "Ljava/util/function/BiFunction;" ∈ GW) (hdg : decode cc pc = .ok (.getstatic index, 3)) (kk : WM X nL (pc + 3) lv (vR (mB μ) :: st) cells slots μ) : WM X nL pc lv st cells slots μ := by
  obtain ⟨G, ed, lo, p, l, e, R, s, m, args, below, meth, c, Q⟩ := X
  obtain ⟨hx, hb, hml, hown, hts, hN, hK, hO, hlo, hlk, hret⟩ := E
  intro H locs ls hw hl'
  have hE : mB μ = ed.2.2.2.2 := congrArg (fun z : HD => z.2.2.2.2) hw.2.1
  refine va_gets hx hb hO.1.2.2.2.2.2.2.2.2.2.2 hw.2.2.2 hown (hts _ hl) (fun _ h => h) hdg ?_
  have := kk H locs ls hw hl'
  rw [hE] at this
  exact this
theorem wm_ldS (E : EV X cc nL own ret) (ho : own = "PlaceFinder$Word") (hdg : decode cc pc = .ok (.ldc 29, 2)) (kk : WM X nL (pc + 2) lv (vR (some (mS μ)) :: st) cells slots μ) : WM X nL pc lv st cells slots μ := by
  subst ho
  obtain ⟨G, ed, lo, p, l, e, R, s, m, args, below, meth, c, Q⟩ := X
  obtain ⟨hx, hb, hml, hown, hts, hN, hK, hO, hlo, hlk, hret⟩ := E
  intro H locs ls hw hl'
  have hE : mS μ = ed.2.2.1 := congrArg (fun z : HD => z.2.2.1) hw.2.1
  refine va_ldcS hx hb hown hO.2.1 hdg ?_
  have := kk H locs ls hw hl'
  rw [hE] at this
  exact this
theorem wm_gSv (E : EV X cc nL own ret) {index : Nat} {r : Option Nat} {F : Option Nat → Option β} (hl : Cond.fieldLink own index "java/lang/String" "value" "[B" ∈ GW) (h : b1 (gSv μ r) F = some res) (hdg : decode cc pc = .ok (.getfield index, 3)) (kk : ∀ x, F x = some res → WM X nL (pc + 3) lv (vR x :: st) cells slots μ) : WM X nL pc lv (vR r :: st) cells slots μ := by
  obtain ⟨x, h1, h2⟩ := b1S h
  have kk := kk x h2
  obtain ⟨hr9, h3⟩ := ifS h1
  subst hr9
  cases h3
  obtain ⟨G, ed, lo, p, l, e, R, s, m, args, below, meth, c, Q⟩ := X
  obtain ⟨hx, hb, hml, hown, hts, hN, hK, hO, hlo, hlk, hret⟩ := E
  intro H locs ls hw hl'
  have hE : mS μ = ed.2.2.1 := congrArg (fun z : HD => z.2.2.1) hw.2.1
  have hE2 : mV μ = ed.2.2.2.1 := congrArg (fun z : HD => z.2.2.2.1) hw.2.1
  obtain ⟨cf, k, fi, f, cell, q1, q2, q3, q4, q5, q6⟩ := hO.1.2.2.2.2.2.1.kept hw.2.2.2.2.1
  have := kk H locs ls hw hl'
  rw [hE2] at this
  rw [hE]
  exact W.getf hx hb hown (hts _ hl) q1 q2 q3 q4 (v := .ref ed.2.2.2.1) q5 rfl rfl hdg this
theorem wm_gSc (E : EV X cc nL own ret) {index : Nat} {r : Option Nat} {F : Int32 → Option β} (hl : Cond.fieldLink own index "java/lang/String" "coder" "B" ∈ GW) (h : b1 (gSc μ r) F = some res) (hdg : decode cc pc = .ok (.getfield index, 3)) (kk : ∀ x, F x = some res → WM X nL (pc + 3) lv (vI x :: st) cells slots μ) : WM X nL pc lv (vR r :: st) cells slots μ := by
  obtain ⟨x, h1, h2⟩ := b1S h
  have kk := kk x h2
  obtain ⟨hr9, h3⟩ := ifS h1
  subst hr9
  cases h3
  obtain ⟨G, ed, lo, p, l, e, R, s, m, args, below, meth, c, Q⟩ := X
  obtain ⟨hx, hb, hml, hown, hts, hN, hK, hO, hlo, hlk, hret⟩ := E
  intro H locs ls hw hl'
  have hE : mS μ = ed.2.2.1 := congrArg (fun z : HD => z.2.2.1) hw.2.1
  obtain ⟨cf, k, fi, f, cell, q1, q2, q3, q4, q5, q6⟩ := hO.1.2.2.2.2.1.kept hw.2.2.2.2.1
  have := kk H locs ls hw hl'
  rw [hE]
  exact W.getf hx hb hown (hts _ hl) q1 q2 q3 q4 (v := .int 0) q5 rfl rfl hdg this
theorem wm_aB (E : EV X cc nL own ret) {r : Option Nat} {i : Int32} {F : Int32 → Option β} (h : b1 (aB μ r i) F = some res) (hdg : decode cc pc = .ok (.baload, 1)) (kk : ∀ x, F x = some res → WM X nL (pc + 1) lv (vI x :: st) cells slots μ) : WM X nL pc lv (vI i :: vR r :: st) cells slots μ := by
  obtain ⟨x, h1, h2⟩ := b1S h
  have kk := kk x h2
  obtain ⟨hr9, h3⟩ := ifS h1
  subst hr9
  split at h3
  · cases h3
  rename_i hi
  obtain ⟨G, ed, lo, p, l, e, R, s, m, args, below, meth, c, Q⟩ := X
  obtain ⟨hx, hb, hml, hown, hts, hN, hK, hO, hlo, hlk, hret⟩ := E
  intro H locs ls hw hl'
  have hE2 : mV μ = ed.2.2.2.1 := congrArg (fun z : HD => z.2.2.2.1) hw.2.1
  rw [hE2]
  exact va_tb hx hb hO.1.2.2.2.2.2.2.1 hw.2.2.2 hi (congrArg Value.int (Option.some.inj h3)) hdg (kk H locs ls hw hl')
theorem wm_aLb (E : EV X cc nL own ret) {r : Option Nat} {F : Int32 → Option β} (h : b1 (aLb μ r) F = some res) (hdg : decode cc pc = .ok (.arraylength, 1)) (kk : ∀ x, F x = some res → WM X nL (pc + 1) lv (vI x :: st) cells slots μ) : WM X nL pc lv (vR r :: st) cells slots μ := by
  obtain ⟨x, h1, h2⟩ := b1S h
  have kk := kk x h2
  obtain ⟨hr9, h3⟩ := ifS h1
  subst hr9
  cases h3
  obtain ⟨G, ed, lo, p, l, e, R, s, m, args, below, meth, c, Q⟩ := X
  obtain ⟨hx, hb, hml, hown, hts, hN, hK, hO, hlo, hlk, hret⟩ := E
  intro H locs ls hw hl'
  have hE2 : mV μ = ed.2.2.2.1 := congrArg (fun z : HD => z.2.2.2.1) hw.2.1
  rw [hE2]
  exact va_tlen hx hb hO.1.2.2.2.2.2.2.1 hw.2.2.2 (N := 26) rfl hdg (kk H locs ls hw hl')
end
end
section
/-! throws -/
def m_grow (μ : Mem) (N : Nat) : Mem := (mE μ, mW μ, N, mF μ)
def m_up (μ : Mem) : Mem := (mE μ, mN μ, mN μ, mF μ)
def LF (l : Launch) : Prop := ∀ e : Env, l.admits e → e.platform.stackTraces = false
/-- the method throws an E; nothing that was there has changed -/
def QX (G : GG) (μ : Mem) (E : String) (mc ms : Nat) : Array Value → State → Outcome → State → Prop := fun _ st oc t =>
  (∃ (a N : Nat) (ce : Cell), oc = .threw a ∧ mN μ ≤ N ∧ WD G (m_grow μ N) t ∧ t.heap[a]? = some ce ∧ ce.vm.isStatics = false ∧ t.vm.findClass E = some ce.cls ∧ va_F (fun q => mW μ ≤ q) st t) ∧ ∃ L, Jvm.Free.FrameEndT st oc t L mc ms ∧ ∀ q ∈ L, mW μ ≤ q.base
abbrev CZ (l : Launch) (G : GG) (y : MethodName) (cc : ByteArray) (maxL : Nat) (ret : Option FieldType) (fr mc ms lc : Nat) (μ : Mem) (av : List TV) (E : String) : Prop :=
  MetFree l y (headSpec (Cond.code y cc maxL ret :: GW) { frames := fr, cells := mc, slots := ms, locals := lc }) (PC G μ av) (fun _ _ _ _ _ => True) (QX G μ E mc ms)
def RX (X : CX) (mc ms : Nat) (μ : Mem) (E : String) : Prop := match X with
  | (G, ed, lo, p, l, e, R, s, m, args, below, meth, c, Q) => lo = mN μ ∧ LF l ∧ c.exceptionTable.isEmpty = true ∧ WD G μ s ∧ ∀ t o, t.status = .running → Ended t below o → QX G μ E mc ms args s o t → Q t
/-- the end of a method that may throw -/
def RQ2 (X : CX) (mc ms : Nat) (μ0 : Mem) (res : String ⊕ Option TV) (μ' : Mem) : Prop := match res with
  | .inl E => ∃ μs, RX X mc ms μs E
  | .inr v => RQ X mc ms μ0 v μ'
theorem wm_metX {l : Launch} {G : GG} {y : MethodName} {cc : ByteArray} {maxL : Nat} {ret : Option FieldType} {fr mc ms lc : Nat} {μ : Mem} {av : List TV} {Ex : String} (hl : LF l) (hy : plainFor y = true) (hn : (av.map tcat).sum ≤ maxL) {lv : List (Nat × TV)} (hlv : tv_args 0 av = lv)
    (k : ∀ X : CX, EV X cc maxL y.cls ret → RX X mc ms μ Ex → xR X = { frames := fr, cells := mc, slots := ms, locals := lc } → X.2.2.2.2.2.2.2.2.2.2.2.1.name = y.name → WM X maxL 0 lv [] 0 0 (m_up μ)) : CZ l G y cc maxL ret fr mc ms lc μ av Ex := by
  refine MetFree.of_bodySF (code := cc) (maxLocals := maxL) (ret := ret) hy ?_ ?_
  · intro args s m h hn
    obtain ⟨meth, c, h1, h2, h3, h4, h5, h6, -, -⟩ := Cond.code_spec hn (atoms_spec (ws := Cond.code y cc maxL ret :: GW) h _ List.mem_cons_self)
    exact ⟨meth, c, h1, h2, h3, h4, h5, h6⟩
  · intro p e s m args below meth c s₁ B hml hP _
    have hh0 : s₁.heap = s.heap := by rw [B.state]; rfl
    obtain ⟨rfl, hWD⟩ := hP
    obtain ⟨hN, hK, hO, hlo, hM⟩ := id hWD
    have hts := atoms_spec (ws := Cond.code y cc maxL ret :: GW) B.pre
    obtain ⟨meth', c', g1, g2, g3, g4, g5, g6, g7, g8⟩ := Cond.code_spec B.named (hts _ List.mem_cons_self)
    cases B.method.symm.trans g1
    cases (Stand.of_body B).code.symm.trans g2
    have hlo2 : mW μ ≤ mN μ := by rw [← hM.1]; exact hlo
    have K := k (G, mE μ, mN μ, p, l, e, { frames := fr, cells := mc, slots := ms, locals := lc }, s, m, (av.map tv).toArray, below, meth, c, fun t => ∃ o, t.status = .running ∧ Ended t below o ∧ QX G μ Ex mc ms (av.map tv).toArray s o t)
      ⟨B.exec, B.bytes, hml, findClass_of_methodNamed B.named, fun w hw => hts w (List.mem_cons_of_mem _ hw), hN, hK, hO.up hlo2, by rw [hM.1]; exact Nat.le_refl _, B.notSynchronized, B.returns⟩ ⟨rfl, hl, g7, hWD, fun t o h1 h2 h3 => ⟨o, h1, h2, h3⟩⟩ rfl
      (name_of_methodNamed B.named B.method).1
    rw [lg_entry_eq]
    have hl := lv_entry (av.map tv) (n := maxL) (by rw [tv_len]; exact hn)
    rw [tv_args_eq, hlv] at hl
    obtain ⟨t, a1, o, b1, b2, b3⟩ := K s.heap [] _ ⟨hM, rfl, rfl, va_S.rf⟩ hl s₁ hh0 (Stand.of_body B)
    exact ⟨t, o, a1, b1, b2, b3⟩
theorem sbn_old {s U : State} {L : List Loc} {k n : Nat} (h : s.sameButNew U L k n) (hL : ∀ x ∈ L, s.heap.size ≤ x.base) : ∀ a : Nat, a < s.heap.size → U.heap[a]? = s.heap[a]? := by
  intro a ha
  obtain ⟨c', h1, h2, h3, h4⟩ := h.2.2.2.2.2 a s.heap[a] (Array.getElem?_eq_getElem ha)
  have e : c'.slots = s.heap[a].slots := Array.ext_getElem? (fun i => h4 i (fun hm => by
    have := hL _ hm
    exact absurd ha (Nat.not_lt.mpr this)))
  rw [h1, Array.getElem?_eq_getElem ha, h2, e]
/-- the words of a throw -/
def OW (own : String) (ic : Nat) (cls : String) (names : List String) : Prop := ∀ a ∈ Bundle.ownAtoms own ic cls names, a ∈ GW ∨ a ∈ NW ∨ a = .isRef (.static "java/lang/Throwable" "UNASSIGNED_STACK" "[Ljava/lang/StackTraceElement;") ∨ a = .isRef (.static "java/lang/Throwable" "SUPPRESSED_SENTINEL" "Ljava/util/List;") ∨ a = .laysStatic "java/lang/Throwable" "UNASSIGNED_STACK" "[Ljava/lang/StackTraceElement;" ∨ a = .laysStatic "java/lang/Throwable" "SUPPRESSED_SENTINEL" "Ljava/util/List;"
def owOK (a : Cond) : Bool := (decide (a ∈ lw_tbl) && (goodWord a || (nwOK a && a.onTables))) || decide (a = .isRef (.static "java/lang/Throwable" "UNASSIGNED_STACK" "[Ljava/lang/StackTraceElement;")) || decide (a = .isRef (.static "java/lang/Throwable" "SUPPRESSED_SENTINEL" "Ljava/util/List;")) || decide (a = .laysStatic "java/lang/Throwable" "UNASSIGNED_STACK" "[Ljava/lang/StackTraceElement;") || decide (a = .laysStatic "java/lang/Throwable" "SUPPRESSED_SENTINEL" "Ljava/util/List;")
def nwT (a : Cond) : Bool := nwOK a && a.onTables
theorem OW_of {own : String} {ic : Nat} {cls : String} {names : List String} (h : (Bundle.ownAtoms own ic cls names).all owOK = true) : ∀ a ∈ Bundle.ownAtoms own ic cls names, a ∈ GW ∨ (a ∈ NW ∧ a.onTables = true) ∨ a = .isRef (.static "java/lang/Throwable" "UNASSIGNED_STACK" "[Ljava/lang/StackTraceElement;") ∨ a = .isRef (.static "java/lang/Throwable" "SUPPRESSED_SENTINEL" "Ljava/util/List;") ∨ a = .laysStatic "java/lang/Throwable" "UNASSIGNED_STACK" "[Ljava/lang/StackTraceElement;" ∨ a = .laysStatic "java/lang/Throwable" "SUPPRESSED_SENTINEL" "Ljava/util/List;" := by
  intro a ha
  have h1 := List.all_eq_true.mp h a ha
  simp only [owOK, Bool.or_eq_true, Bool.and_eq_true, decide_eq_true_eq] at h1
  rcases h1 with (((⟨h1, h2 | ⟨h2, h3⟩⟩ | h1) | h1) | h1) | h1
  · exact Or.inl (GW_of h1 h2)
  · exact Or.inr (Or.inl ⟨NW_of h1 h2, h3⟩)
  · exact Or.inr (Or.inr (Or.inl h1))
  · exact Or.inr (Or.inr (Or.inr (Or.inl h1)))
  · exact Or.inr (Or.inr (Or.inr (Or.inr (Or.inl h1))))
  · exact Or.inr (Or.inr (Or.inr (Or.inr (Or.inr h1))))
def TF (own : String) (iN iS iC : Nat) (cls : String) (names : List String) : Prop := Cond.classLink own iN cls ∈ GW ∧ Cond.instantiable cls 6 ∈ GW ∧ Cond.initialized cls ∈ GW ∧ (∃ tx, (own, iS, tx) ∈ srefs) ∧ Bundle.fit cls = true ∧ (∀ n ∈ names, Bundle.fit n = true) ∧ (Bundle.ownAtoms own iC cls names).all owOK = true
section
variable {X : CX} {cc : ByteArray} {nL pc : Nat} {own : String} {ret : Option FieldType} {lv : List (Nat × TV)} {st : List TV} {cells slots : Nat} {μ : Mem} {β : Type} {res : β}
theorem wm_throw (E : EV X cc nL own ret) {iN iS iC mc ms ln : Nat} {cls : String} {names : List String} {μs : Mem} (hT : TF own iN iS iC cls names) (hX : RX X mc ms μs cls) (hc : cells + 1 ≤ (xR X).cells ∧ cells + 1 ≤ mc) (hs : slots + 6 ≤ (xR X).slots ∧ slots + 6 ≤ ms) (hf : names.length + 3 < (xR X).frames) (hlc : 13 * (names.length + 1) + 60 ≤ (xR X).locals) (hsm : (st.map tcat).sum ≤ 8)
    (d0 : decode cc pc = .ok (.new iN, 3)) (d1 : decode cc (pc + 3) = .ok (.dup, 1)) (d2 : (ln = 2 ∧ decode cc (pc + 4) = .ok (.ldc iS, 2)) ∨ (ln = 3 ∧ decode cc (pc + 4) = .ok (.ldc_w iS, 3))) (d3 : decode cc (pc + 4 + ln) = .ok (.invokespecial iC, 3)) (d4 : decode cc (pc + 4 + ln + 3) = .ok (.athrow, 1)) : WM X nL pc lv st cells slots μ := by
  obtain ⟨G, ed, lo, p, l, e, R, s, m, args, below, meth, c, Q⟩ := X
  obtain ⟨hx, hb, hml, hown, hts, hN, hK, hO, hlo, hlk, hret⟩ := E
  obtain ⟨rfl, hl9, htab, hWD, hQ⟩ := hX
  obtain ⟨t1, t2, t3, ⟨tx, t4⟩, t5, t6, t7⟩ := hT
  intro H locs ls hw hl
  obtain ⟨hM, hE, hW, hS⟩ := hw
  obtain ⟨cX, kX, hfc, hkX, hkind, -⟩ := Cond.instantiable_spec (hts _ t2)
  obtain ⟨a9, hvk⟩ := hO.2.2.1 _ t4
  have hsz : s.heap.size = mN μs := hWD.2.2.2.2.1
  have hsum := cat_sum st hsm
  have hlc' : 13 * (names.length + 1) + 60 ≤ R.locals := hlc
  refine W.newcK hx hb hown (hts _ t1) (hts _ t2) (hts _ t3) rfl d0 hc.1 hs.1 hfc rfl fun H1 kC hkC e1 z1 o1 => ?_
  refine lv_dup hx hb d1 rfl ?_
  have kk : W p l e R s m args below meth c H1 locs (cells + 1) (slots + 6) Q (F0 m (pc + 4 + ln) ls (.ref a9 :: .ref H.size :: .ref H.size :: st.map tv)) := by
    intro T hT X
    have hws : ∀ a ∈ Bundle.ownAtoms own iC cls names, a.before args s = true := fun a ha => by
      rcases OW_of t7 a ha with h | ⟨h, h'⟩ | rfl | rfl | rfl | rfl
      · exact hts _ h
      · exact va_Nw.use h' (hN _ h)
      · exact hO.1.2.2.2.2.2.2.2.2.1.isRef
      · exact hO.1.2.2.2.2.2.2.2.2.2.1.isRef
      · exact hO.1.2.2.2.2.2.2.2.2.1.lays
      · exact hO.1.2.2.2.2.2.2.2.2.2.1.lays
    obtain ⟨U, hst, hrun, hend, hWm, hsame, ce, hce, hOC⟩ := X.ctorThrowS hx (hl9 e X.admits) (own := own) (cls := cls) (names := names) (ic := iC) hown t5 t6 hws
      (fun x hx cell hc => by
        have h1 : mN μs ≤ x.base := hS.2.2 x hx
        rw [Array.getElem?_eq_none (by rw [hsz]; exact h1)] at hc
        cases hc) hfc hkC (a := H.size) (by rw [hT]; exact e1) hS.1 (msg := .ref a9) rfl (g := F0 m (pc + 4 + ln) ls (.ref a9 :: .ref H.size :: .ref H.size :: st.map tv)) rfl (by rw [hml]; exact hl.1) rfl rfl (rest := st.map tv) rfl (by rw [hb]; exact d3) (by rw [hb]; exact d4)
      (fun x hx => by
        have h0 : c.exceptionTable.toList = [] := by
          have := Array.isEmpty_iff.mp htab
          rw [this]
        rw [h0] at hx
        cases hx) hf (by
          show 2 * 0 + ((Value.ref H.size :: st.map tv).map fun v => v.category).sum + _ ≤ _
          have e9 : ((Value.ref H.size :: st.map tv).map fun v => v.category).sum = 1 + ((st.map tv).map fun v => v.category).sum := rfl
          rw [e9]
          omega) hlk
    have hold := sbn_old hsame (fun x hx => by rw [hsz]; exact hS.2.2 x hx)
    have hge : s.heap.size ≤ U.heap.size := hsame.2.1
    refine ⟨U, hst, hQ U (.threw H.size) hrun hend ⟨⟨H.size, U.heap.size, ce, rfl, by rw [← hsz]; exact hge, ⟨hN.warm hWm, hK.moved hWm.alike, (hWD.2.2.1.kept (fun a ha _ => hold a ha)).warm hWm, Nat.le_trans hWD.2.2.2.1 hge, ⟨rfl, fun a e he => (hWD.2.2.2.2.2 a e he).kept (hold a (hWD.2.2.2.2.2 a e he).lt)⟩⟩, hce, by rw [hOC.vm]; rfl, by rw [hWm.alike.findClass]; exact hOC.cls, ⟨hge, fun q hq _ => hold q hq⟩⟩, locs, ⟨⟨_, rfl⟩, hWm, hsame.weaken (fun y hy _ => hy) hc.2 hs.2⟩, fun q hq => Nat.le_trans (by rw [← hsz]; exact hWD.2.2.2.1) (hS.2.2 q hq)⟩⟩
  rcases d2 with ⟨rfl, d2⟩ | ⟨rfl, d2⟩
  · exact va_ldcS hx hb hown hvk d2 kk
  · intro T hT X
    obtain ⟨t, b1, b2⟩ := kk T hT X
    exact ⟨t, X.ldcStringW hx hown (text := tx) (a := a9) hvk.1 hvk.2 (g := F0 m (pc + 4) ls (.ref H.size :: .ref H.size :: st.map tv)) rfl (by rw [hb]; exact d2) t b1, b2⟩
end
/-- the exceptions -/
def exN (k : Nat) : String := match k with
  | 0 => "java/lang/IllegalArgumentException"
  | 1 => "java/lang/IllegalStateException"
  | 2 => "java/lang/UnsupportedOperationException"
  | 3 => "java/lang/IndexOutOfBoundsException"
  | _ => "java/util/NoSuchElementException"
def exU : List String := ["java/lang/RuntimeException", "java/lang/Exception"]
def cvI (r : Nat ⊕ Int32) : String ⊕ Option TV := match r with
  | .inl k => .inl (exN k)
  | .inr x => .inr (some (vI x))
def cvV (r : Nat ⊕ Unit) : String ⊕ Option TV := match r with
  | .inl k => .inl (exN k)
  | .inr _ => .inr none
theorem rqI {X : CX} {mc ms : Nat} {μ0 μ μ' : Mem} {r : Nat ⊕ Int32} {x : Int32} (hQ : RQ2 X mc ms μ0 (cvI r) μ') (h : some ((.inr x : Nat ⊕ Int32), μ) = some (r, μ')) : RQ X mc ms μ0 (some (vI x)) μ := by
  cases h
  exact hQ
theorem rqV {X : CX} {mc ms : Nat} {μ0 μ μ' : Mem} {r : Nat ⊕ Unit} {x : Unit} (hQ : RQ2 X mc ms μ0 (cvV r) μ') (h : some ((.inr x : Nat ⊕ Unit), μ) = some (r, μ')) : RQ X mc ms μ0 none μ := by
  cases h
  exact hQ
theorem rqXI {X : CX} {mc ms : Nat} {μ0 μ μ' : Mem} {r : Nat ⊕ Int32} {k : Nat} (hQ : RQ2 X mc ms μ0 (cvI r) μ') (h : some ((.inl k : Nat ⊕ Int32), μ) = some (r, μ')) : ∃ μs, RX X mc ms μs (exN k) := by
  cases h
  exact hQ
theorem rqXV {X : CX} {mc ms : Nat} {μ0 μ μ' : Mem} {r : Nat ⊕ Unit} {k : Nat} (hQ : RQ2 X mc ms μ0 (cvV r) μ') (h : some ((.inl k : Nat ⊕ Unit), μ) = some (r, μ')) : ∃ μs, RX X mc ms μs (exN k) := by
  cases h
  exact hQ
def nrm {α : Type} (o : Option ((Nat ⊕ α) × Mem)) : Option (α × Mem) := match o with
  | some (.inr r, μ) => some (r, μ)
  | _ => none
theorem nrmS {α : Type} {o : Option ((Nat ⊕ α) × Mem)} {r : α} {μ : Mem} (h : nrm o = some (r, μ)) : o = some (.inr r, μ) := by
  unfold nrm at h
  split at h
  · cases h
    rfl
  · cases h
/-! methods with handlers -/
def QM (G : GG) (μ : Mem) (v : Option TV) (M : Mem → Prop) : Array Value → State → Outcome → State → Prop := fun a st oc t => ∃ μ', M μ' ∧ QC G μ μ' v a st oc t
abbrev CW (l : Launch) (G : GG) (y : MethodName) (cc : ByteArray) (maxL : Nat) (ret : Option FieldType) (hh : List (Nat × Nat × Nat × Nat)) (fr mc ms lc : Nat) (μ : Mem) (av : List TV) (v : Option TV) (M : Mem → Prop) : Prop :=
  Met l y (Cond.codeWith y cc maxL ret hh :: GW) { frames := fr, cells := mc, slots := ms, locals := lc } (PC G μ av) (QM G μ v M) mc ms (fun q => mW μ ≤ q)
def RQM (X : CX) (mc ms : Nat) (μ : Mem) (v : Option TV) (M : Mem → Prop) : Prop := match X with
  | (G, ed, lo, p, l, e, R, s, m, args, below, meth, c, Q) => ed = mE μ ∧ lo = mW μ ∧ ∀ t, MQ below (QM G μ v M) args s mc ms (fun q => mW μ ≤ q) t → Q t
theorem rqm {X : CX} {mc ms : Nat} {μ μ' : Mem} {v : Option TV} {M : Mem → Prop} (h : RQM X mc ms μ v M) (hm : M μ') : RQ X mc ms μ v μ' := by
  obtain ⟨G, ed, lo, p, l, e, R, s, m, args, below, meth, c, Q⟩ := X
  obtain ⟨h1, h2, h3⟩ := h
  refine ⟨h1, h2, fun t ht => h3 t ?_⟩
  obtain ⟨o, b1, b2, b3, b4⟩ := ht
  exact ⟨o, b1, b2, ⟨μ', hm, b3⟩, b4⟩
def TB (X : CX) (hh : List (Nat × Nat × Nat × Nat)) : Prop := match X with
  | (G, ed, lo, p, l, e, R, s, m, args, below, meth, c, Q) => c.exceptionTable.toList.map (fun h => (h.startPc, h.endPc, h.handlerPc, h.catchType)) = hh
theorem wm_metW {l : Launch} {G : GG} {y : MethodName} {cc : ByteArray} {maxL : Nat} {ret : Option FieldType} {hh : List (Nat × Nat × Nat × Nat)} {fr mc ms lc : Nat} {μ : Mem} {av : List TV} {v : Option TV} {M : Mem → Prop} (hy : plainName y.cls = true) (hn : (av.map tcat).sum ≤ maxL) {lv : List (Nat × TV)} (hlv : tv_args 0 av = lv)
    (k : ∀ X : CX, EV X cc maxL y.cls ret → RQM X mc ms μ v M → TB X hh → xl X = l → X.1 = G → xR X = { frames := fr, cells := mc, slots := ms, locals := lc } → X.2.2.2.2.2.2.2.2.2.2.2.1.name = y.name → WM X maxL 0 lv [] 0 0 μ) : CW l G y cc maxL ret hh fr mc ms lc μ av v M := by
  refine va_MetW (cc := cc) (maxL := maxL) (ret := ret) (hh := hh) hy rfl ?_
  intro p e s m args below meth c s₁ B hml hv
  obtain ⟨rfl, hN, hK, hO, hlo, hM⟩ := hv
  have hts := atoms_spec (ws := Cond.codeWith y cc maxL ret hh :: GW) B.pre
  obtain ⟨m9, meth', c', g0, g1, g2, g3, g4, g5, g6, g7, g8⟩ := Cond.codeWith_spec (hts _ List.mem_cons_self)
  cases B.named.symm.trans g0
  cases B.method.symm.trans g1
  cases (Stand.of_body B).code.symm.trans g2
  have K := k (G, mE μ, mW μ, p, l, e, { frames := fr, cells := mc, slots := ms, locals := lc }, s, m, (av.map tv).toArray, below, meth, c, MQ below (QM G μ v M) (av.map tv).toArray s mc ms (fun q => mW μ ≤ q))
    ⟨B.exec, B.bytes, hml, findClass_of_methodNamed B.named, fun w hw => hts w (List.mem_cons_of_mem _ hw), hN, hK, hO, hlo, B.notSynchronized, B.returns⟩ ⟨rfl, rfl, fun _ h => h⟩ g5 rfl rfl rfl
    (name_of_methodNamed B.named B.method).1
  rw [lg_entry_eq]
  have hl := lv_entry (av.map tv) (n := maxL) (by rw [tv_len]; exact hn)
  rw [tv_args_eq, hlv] at hl
  exact K s.heap [] _ ⟨hM, rfl, rfl, va_S.rf⟩ hl
/-- a row of the table that doesn't take the exception: it doesn't cover pc, or its class is another one -/
def PassR (own : String) (pc : Nat) (Ex : String) (z : Nat × Nat × Nat × Nat) : Prop := (¬ (z.1 ≤ pc ∧ pc < z.2.1)) ∨ (z.2.2.2 ≠ 0 ∧ ∃ nm, Cond.classLink own z.2.2.2 nm ∈ GW ∧ (Ex, nm) ∈ ncs)
def PostX (G : GG) (μ : Mem) (Ex : String) (mc ms : Nat) : Pt → Array Value → Addr → Pt → Prop := fun A a v B =>
  ∃ (g : JFrame) (mk : MethodId) (t : State) (L : List Loc), B.U.heap = t.heap ∧ B.U.vm = t.vm ∧ QX G μ Ex mc ms a (A.U.calling g mk a) (.threw v) t ∧ B.locs = A.locs ++ L ∧ (∀ q ∈ L, mW μ ≤ q.base) ∧ B.cells = A.cells + mc ∧ B.slots = A.slots + ms
theorem backT_of {l : Launch} {R : Room} {p : Program} {e : Env} {below : List Frame} {s : State} {sargs : Array Value} {y : MethodName} {len W : Nat} {ws : List Cond} {rm : Room} {G : GG} {μ : Mem} {av : List TV} {Ex : String} {mc ms : Nat} {bytes : ByteArray} {maxL : Nat} {ret : Option FieldType}
    (hM : MetFree l y (headSpec ws rm) (PC G μ av) (fun _ _ _ _ _ => True) (QX G μ Ex mc ms)) (hrc : rm.cells = mc) (hrs : rm.slots = ms)
    (hframes : rm.frames + 1 ≤ R.frames) (hlocals : W + (maxL + 11) + rm.locals ≤ R.locals)
    (hws : ∀ w ∈ ws, ∀ a' U, s.WarmedH U.vm → w.before a' U = true) (hcode : Cond.code y bytes maxL ret ∈ ws) (hinit : ∀ a' U, s.WarmedH U.vm → (Cond.initialized y.cls).before a' U = true) :
    Jvm.Free.BackT l R p e below s sargs y len W (PreOf R mc ms (PC G μ av)) (PostX G μ Ex mc ms) := by
  refine Jvm.Free.BackT.of_free (S := headSpec ws rm) (P := PC G μ av) (K := fun _ _ _ _ _ => True) (Q := QX G μ Ex mc ms) (bytes := bytes) (maxL := maxL) (ret := ret)
    (E := fun a st o t L k n => k = mc ∧ n = ms ∧ ∀ q ∈ L, mW μ ≤ q.base) hM hframes hlocals ?_ ?_ (fun _ _ _ _ _ _ _ _ _ => trivial) ?_ ?_
  · intro m meth c A a X hp
    exact ⟨atoms_intro fun w hw => hws w hw _ _ X.warmed, hws _ hcode _ _ X.warmed, hinit _ _ X.warmed, by rw [show (headSpec ws rm).room.cells = mc from hrc]; exact hp.1, by rw [show (headSpec ws rm).room.slots = ms from hrs]; exact hp.2.1⟩
  · intro m meth c A a g mk X hp
    exact pc_blind _ _ _ _ hp.2.2
  · intro a st o t hq
    obtain ⟨L, hF, hL⟩ := hq.2
    exact ⟨L, mc, ms, hF, rfl, rfl, hL⟩
  · intro m meth c A a g mk v t L k n X hp hq hF ⟨e1, e2, hL⟩
    subst e1; subst e2
    exact ⟨g, mk, t, L, rfl, rfl, hq, rfl, hL, rfl, rfl⟩
theorem tb_split {es : List ExceptionTableEntry} {pre post : List (Nat × Nat × Nat × Nat)} {x : Nat × Nat × Nat × Nat} (h : es.map (fun h => (h.startPc, h.endPc, h.handlerPc, h.catchType)) = pre ++ x :: post) : ∃ (a : List ExceptionTableEntry) (b : ExceptionTableEntry) (c : List ExceptionTableEntry), es = a ++ b :: c ∧ a.map (fun h => (h.startPc, h.endPc, h.handlerPc, h.catchType)) = pre ∧ (b.startPc, b.endPc, b.handlerPc, b.catchType) = x := by
  obtain ⟨a, l2, h1, h2, h3⟩ := List.map_eq_append_iff.mp h
  obtain ⟨b, c, h4, h5, -⟩ := List.map_eq_cons_iff.mp h3
  exact ⟨a, b, c, by rw [h1, h4], h2, h5⟩
section
variable {X : CX} {cc : ByteArray} {nL pc : Nat} {own : String} {ret : Option FieldType} {lv : List (Nat × TV)} {st : List TV} {cells slots : Nat} {μ : Mem} {β : Type} {res : β}
set_option maxHeartbeats 4000000 in
/-- a call that throws, and is caught here -/
theorem wm_cVX (E : EV X cc nL own ret) {y : MethodName} {bytes : ByteArray} {maxL index n : Nat} {r' : Option FieldType} {fr mc ms lc : Nat} {As : List TV} {Ex : String} {st0 : List TV} {r : Option Nat} {ci : Nat} {C : String} {T : u_T} {N : Nat} {u : Unit} {hh : List (Nat × Nat × Nat × Nat)} (hTB : TB X hh) (hL : LK own index y bytes maxL r' n) (hl1 : Cond.methodLink own index y ∈ GW) (hcl : vwCl[ci]? = some (C, T, N)) (hin : Cond.instanceMethod y ∈ GW) (hsel : Cond.selects C y y ∈ GW) (hrc : rc μ r ci = some u)
    (hM : CZ (xl X) X.1 y bytes maxL r' fr mc ms lc μ (vR r :: As) Ex) (hn : As.length = n) (hst : st0 = As.reverse ++ vR r :: st) (hR : fr + 1 ≤ (xR X).frames ∧ 8 + (maxL + 11) + lc ≤ (xR X).locals) (hf : cells + mc ≤ (xR X).cells ∧ slots + ms ≤ (xR X).slots) (hsm : (st.map tcat).sum ≤ 8) (hdg : decode cc pc = .ok (.invokevirtual index, 3))
    (pre : List (Nat × Nat × Nat × Nat)) (x : Nat × Nat × Nat × Nat) (post : List (Nat × Nat × Nat × Nat)) (hsp : hh = pre ++ x :: post) (hpass : ∀ z ∈ pre, PassR own pc Ex z) (hx9 : x.1 ≤ pc ∧ pc < x.2.1) (h0 : x.2.2.2 ≠ 0) (hlink9 : Cond.classLink own x.2.2.2 Ex ∈ GW) (hca : Cond.castable Ex Ex ∈ NW)
    (kk : ∀ (M a : Nat), mN μ ≤ M → WM X nL x.2.2.1 lv [vR (some a)] (cells + mc) (slots + ms) (m_grow μ M)) : WM X nL pc lv st0 cells slots μ := by
  subst hst
  obtain ⟨a, fs, rfl, hc⟩ := rcS hrc
  obtain ⟨hcode, hini, -, hd⟩ := hL
  obtain ⟨G, ed, lo, p, l, e, R, s, m, args, below, meth, c, Q⟩ := X
  obtain ⟨hx, hb, hml, hown, hts, hN, hK, hO, hlo, hlk, hret⟩ := E
  have hM : CZ l G y bytes maxL r' fr mc ms lc μ (vR (some a) :: As) Ex := hM
  have hTB : c.exceptionTable.toList.map (fun h => (h.startPc, h.endPc, h.handlerPc, h.catchType)) = hh := hTB
  intro H locs ls hw hl
  have hG := gw_ws hts hcode
  obtain ⟨rr, hr', cell, g1, g2, g3, -⟩ := hw.1.2 a _ hc
  have hcls := (hK.1 ci _ hcl).2
  have hpay := pay_in hts hG
  have hBk : Jvm.Free.BackT l R p e below s args y 3 8 (PreOf R mc ms (PC G μ (vR (some a) :: As))) (PostX G μ Ex mc ms) := backT_of (bytes := bytes) (maxL := maxL) (ret := r') hM rfl rfl hR.1 hR.2 hpay List.mem_cons_self (fun a' U hW => word_at hW (Or.inl (by first | rfl | simp [Cond.onTables, Cond.keeps, Cond.steady])) (hts _ hini))
  intro T hT X
  obtain ⟨mk, methM, hnamed, hmethM, hstM, habM⟩ := Cond.instanceMethod_spec (hts _ hin)
  obtain ⟨methM', cM, hmethM', -, -, -, -, -, -, hsigM⟩ := Cond.code_spec hnamed (hts _ hcode)
  cases hmethM.symm.trans hmethM'
  obtain ⟨c2, r2, m2, q1, q2, q3, q4, kP, hkP, hkPi⟩ := Cond.selects_spec (hts _ hsel)
  have hcellC : s.vm.findClass C = some cell.cls := by rw [g2]; exact hcls.1
  cases hcellC.symm.trans q1
  cases (State.methodFound?_of_named hnamed ⟨hd.1, hd.2.1⟩).symm.trans q2
  cases hnamed.symm.trans q3
  have hselP : selectMethod e.platform s.vm cell.cls mk = .method mk := by rw [Launch.admits_selectMethod X.admits]; exact q4
  have hlen : (As.map tv).length = methM.sig.parameters.length := by
    have h2 := hd.2.2
    rw [hsigM] at h2
    rw [List.length_map, hn]
    exact (Option.some.inj h2).symm
  have hsum := cat_sum st hsm
  have hstk : (F0 m pc ls ((As.reverse ++ vR (some a) :: st).map tv)).stack = (As.map tv).reverse ++ .ref a :: st.map tv := by
    show (As.reverse ++ vR (some a) :: st).map tv = _
    rw [List.map_append, List.map_reverse]
    rfl
  obtain ⟨vm₁, X₁, hstep₁⟩ := X.invokevirtual hx hown (hts _ hl1) hnamed hmethM hstM hkP hkPi ⟨hd.1, hd.2.1⟩ (a := a) (cell := cell) (by rw [hT]; exact g1)
    (fun z h => by rw [g3] at h; cases h) hselP hmethM habM hkP hkPi (g := F0 m pc ls ((As.reverse ++ vR (some a) :: st).map tv)) rfl (argsL := As.map tv) (rest := st.map tv) hlen hstk (by rw [hb]; exact hdg)
  have hpre : PreOf R mc ms (PC G μ (vR (some a) :: As)) ⟨T.setVm vm₁, locs, cells, slots⟩ (Value.ref a :: As.map tv).toArray := ⟨hf.1, hf.2, rfl, wd_at hN hK hO hlo hw (T.setVm vm₁) hT X₁.warmed⟩
  obtain ⟨v, ⟨U', l2, c2', s2'⟩, X', hpost, hsteps⟩ := hBk m meth c ⟨T.setVm vm₁, locs, cells, slots⟩ { F0 m pc ls ((As.reverse ++ vR (some a) :: st).map tv) with stack := st.map tv } (.invokevirtual index) mk (Value.ref a :: As.map tv).toArray X₁ rfl (hl.1.trans hml.symm) (by rw [hb]; exact hdg) (lv_room hsum) (X₁.named hnamed) hpre
  obtain ⟨g9, mk9, t, L, e1, e2, ⟨⟨a9, N9, ce, hoc, hN9, hWD9, hce, hst9, hfc9, hF9⟩, -⟩, h1, hL9, h2, h3⟩ := hpost
  dsimp only [Pt.U, Pt.locs, Pt.cells, Pt.slots] at X' e1 e2 h1 h2 h3 hsteps
  subst h1; subst h2; subst h3
  cases hoc
  obtain ⟨ta, tb, tc, es, ep, ex⟩ := tb_split (hTB.trans hsp)
  obtain ⟨cE, cE', f1, f2, f3⟩ := Cond.castable_spec (va_Nw.use (A := args) rfl (hN _ hca))
  cases f1.symm.trans f2
  have hceC : ce.cls = cE := by
    have hWs : s.vm.Alike U'.vm := X'.warmed.alike
    have : U'.vm.findClass Ex = some ce.cls := by rw [e2]; exact hfc9
    rw [hWs.findClass] at this
    exact Option.some.inj (this.symm.trans f1)
  subst ex
  obtain ⟨hend, hk0⟩ := X'.catches_of_link hown (x := tb) h0 (hts _ hlink9) f1 (thrown := ce.cls) (by rw [hceC]; exact f3)
  have hpl : e.platform.magicAccessors = ({} : Platform).magicAccessors := by rw [X.admits.platform]
  obtain ⟨vm', XV, stV⟩ := X'.thenCaughtThrough v (g := { F0 m pc ls ((As.reverse ++ vR (some a) :: st).map tv) with stack := st.map tv }) rfl (s₀ := T.setTop (F0 m pc ls ((As.reverse ++ vR (some a) :: st).map tv))) (hstep₁ _ fun acts => by rw [doInvoke_state]; exact hsteps) (cell := ce) (by rw [e1]; exact hce) hst9 hk0 ta tb tc es
    (fun z hz => by
      have hz' : (z.startPc, z.endPc, z.handlerPc, z.catchType) ∈ pre := by rw [← ep]; exact List.mem_map.mpr ⟨z, hz, rfl⟩
      rcases hpass _ hz' with h | ⟨h, nm, hl2, hnc⟩
      · left
        simp only [covers]
        simp only [not_and, Nat.not_lt] at h
        first | (by_cases h5 : z.startPc ≤ pc
                 · simp [F0, h5, h h5]
                 · simp [F0, h5]) | skip
      · right
        obtain ⟨c5, t5, n1, n2, n3⟩ := hO.2.2.2 _ hnc
        obtain ⟨c6, hc6, hcl6⟩ := Cond.classLink_spec hown (hts _ hl2) e.platform hpl
        cases hc6.symm.trans n2
        cases f1.symm.trans n1
        exact ⟨h, _, hcl6, by rw [hceC]; exact n3⟩)
    (by simp only [covers]; simp [F0, hx9.1, hx9.2]) hend
  obtain ⟨t9, b1, b2⟩ := kk N9 v hN9 (U'.setVm vm').heap (locs ++ L) ls ⟨(by show MM G (m_grow μ N9) U'.heap; rw [e1]; exact hWD9.2.2.2.2), hw.2.1, hw.2.2.1, ⟨(by
      show s.heap.size ≤ U'.heap.size
      rw [e1]
      have hz : H.size ≤ t.heap.size := by have := hF9.1; rw [show ((T.setVm vm₁).calling g9 mk9 (Value.ref a :: As.map tv).toArray).heap = H from hT] at this; exact this
      exact Nat.le_trans hw.2.2.2.1 hz), (fun q g1' g2' => by
      show U'.heap[q]? = _
      rw [e1]
      have hz := hF9.2 q
      rw [show ((T.setVm vm₁).calling g9 mk9 (Value.ref a :: As.map tv).toArray).heap = H from hT] at hz
      rw [hz (Nat.lt_of_lt_of_le g1' hw.2.2.2.1) (by rw [hw.2.2.1]; exact g2')]
      exact hw.2.2.2.2.1 q g1' g2'), fun q hq => by
      rcases List.mem_append.mp hq with h | h
      · exact hw.2.2.2.2.2 q h
      · show lo ≤ q.base
        rw [← hw.2.2.1]
        exact hL9 q h⟩⟩ hl (U'.setVm vm') rfl XV
  exact ⟨t9, stV.trans b1, b2⟩
end
end
