def T_Al : u_T := fun k => match k with
  | 0 => ("java/util/ArrayList", "elementData", "[Ljava/lang/Object;", false)
  | 1 => ("java/util/ArrayList", "size", "I", false)
  | _ => ("java/util/AbstractList", "modCount", "I", false)
def t_Al : Nat → FieldType := fun k => match k with
  | 0 => (.array (.object "java/lang/Object"))
  | 1 => .int
  | _ => .int
def T_Cn : u_T := fun k => match k with
  | 0 => ("PlaceFinder$Condition", "kind", "I", true)
  | 1 => ("PlaceFinder$Condition", "a", "I", true)
  | 2 => ("PlaceFinder$Condition", "b", "I", true)
  | 3 => ("PlaceFinder$Condition", "c", "I", true)
  | _ => ("PlaceFinder$Condition", "word", "LPlaceFinder$Word;", true)
def t_Cn : Nat → FieldType := fun k => match k with
  | 0 => .int
  | 1 => .int
  | 2 => .int
  | 3 => .int
  | _ => (.object "PlaceFinder$Word")
def T_Co : u_T := fun k => match k with
  | 0 => ("PlaceFinder$Corners", "size", "I", true)
  | 1 => ("PlaceFinder$Corners", "xs", "[I", true)
  | _ => ("PlaceFinder$Corners", "ys", "[I", true)
def t_Co : Nat → FieldType := fun k => match k with
  | 0 => .int
  | 1 => (.array .int)
  | _ => (.array .int)
def T_Ec : u_T := fun k => match k with
  | _ => ("PlaceFinder$ErrorCounter", "least", "[[I", true)
def t_Ec : Nat → FieldType := fun k => match k with
  | _ => (.array (.array .int))
def T_Hi : u_T := fun k => match k with
  | 0 => ("PlaceFinder$Hits", "numbers", "[I", true)
  | 1 => ("PlaceFinder$Hits", "keys", "[J", true)
  | _ => ("PlaceFinder$Hits", "count", "I", false)
def t_Hi : Nat → FieldType := fun k => match k with
  | 0 => (.array .int)
  | 1 => (.array .long)
  | _ => .int
def T_Li : u_T := fun k => match k with
  | 0 => ("PlaceFinder$Link", "above", "LPlaceFinder$Place;", true)
  | 1 => ("PlaceFinder$Link", "from", "I", true)
  | _ => ("PlaceFinder$Link", "to", "I", true)
def t_Li : Nat → FieldType := fun k => match k with
  | 0 => (.object "PlaceFinder$Place")
  | 1 => .int
  | _ => .int
def T_Na : u_T := fun k => match k with
  | 0 => ("PlaceFinder$Name", "word", "LPlaceFinder$Word;", true)
  | 1 => ("PlaceFinder$Name", "from", "I", true)
  | _ => ("PlaceFinder$Name", "to", "I", true)
def t_Na : Nat → FieldType := fun k => match k with
  | 0 => (.object "PlaceFinder$Word")
  | 1 => .int
  | _ => .int
def T_Pl : u_T := fun k => match k with
  | 0 => ("PlaceFinder$Place", "number", "I", true)
  | 1 => ("PlaceFinder$Place", "kind", "I", true)
  | 2 => ("PlaceFinder$Place", "removedFrom", "I", false)
  | 3 => ("PlaceFinder$Place", "shapes", "Ljava/util/ArrayList;", true)
  | 4 => ("PlaceFinder$Place", "shapeDays", "[I", true)
  | 5 => ("PlaceFinder$Place", "names", "Ljava/util/ArrayList;", true)
  | _ => ("PlaceFinder$Place", "links", "Ljava/util/ArrayList;", true)
def t_Pl : Nat → FieldType := fun k => match k with
  | 0 => .int
  | 1 => .int
  | 2 => .int
  | 3 => (.object "java/util/ArrayList")
  | 4 => (.array .int)
  | 5 => (.object "java/util/ArrayList")
  | _ => (.object "java/util/ArrayList")
def T_Rs : u_T := fun k => match k with
  | 0 => ("PlaceFinder$RouteSearch", "isFound", "Z", false)
  | 1 => ("PlaceFinder$RouteSearch", "side", "I", false)
  | 2 => ("PlaceFinder$RouteSearch", "along", "I", false)
  | 3 => ("PlaceFinder$RouteSearch", "whole", "J", false)
  | 4 => ("PlaceFinder$RouteSearch", "rest", "J", false)
  | _ => ("PlaceFinder$RouteSearch", "divisor", "J", false)
def t_Rs : Nat → FieldType := fun k => match k with
  | 0 => .boolean
  | 1 => .int
  | 2 => .int
  | 3 => .long
  | 4 => .long
  | _ => .long
def T_Wa : u_T := fun k => match k with
  | 0 => ("PlaceFinder$Watch", "conditions", "Ljava/util/ArrayList;", true)
  | 1 => ("PlaceFinder$Watch", "route", "LPlaceFinder$Corners;", true)
  | 2 => ("PlaceFinder$Watch", "day", "I", true)
  | _ => ("PlaceFinder$Watch", "toldPlaces", "I", false)
def t_Wa : Nat → FieldType := fun k => match k with
  | 0 => (.object "java/util/ArrayList")
  | 1 => (.object "PlaceFinder$Corners")
  | 2 => .int
  | _ => .int
def T_Wo : u_T := fun k => match k with
  | 0 => ("PlaceFinder$Word", "letters", "[C", true)
  | _ => ("PlaceFinder$Word", "size", "I", true)
def t_Wo : Nat → FieldType := fun k => match k with
  | 0 => (.array .char)
  | _ => .int
def T_P : u_T := fun k => match k with
  | 0 => ("PlaceFinder", "places", "Ljava/util/ArrayList;", true)
  | 1 => ("PlaceFinder", "cornerXs", "[I", true)
  | 2 => ("PlaceFinder", "cornerYs", "[I", true)
  | 3 => ("PlaceFinder", "cornerCount", "I", false)
  | 4 => ("PlaceFinder", "currentRoute", "LPlaceFinder$Corners;", false)
  | 5 => ("PlaceFinder", "typed", "[C", true)
  | 6 => ("PlaceFinder", "typedCount", "I", false)
  | 7 => ("PlaceFinder", "conditions", "Ljava/util/ArrayList;", true)
  | 8 => ("PlaceFinder", "watches", "[LPlaceFinder$Watch;", true)
  | 9 => ("PlaceFinder", "hits", "LPlaceFinder$Hits;", true)
  | 10 => ("PlaceFinder", "errorCounter", "LPlaceFinder$ErrorCounter;", true)
  | 11 => ("PlaceFinder", "routeSearch", "LPlaceFinder$RouteSearch;", true)
  | _ => ("PlaceFinder", "anyName", "LPlaceFinder$Condition;", true)
def t_P : Nat → FieldType := fun k => match k with
  | 0 => (.object "java/util/ArrayList")
  | 1 => (.array .int)
  | 2 => (.array .int)
  | 3 => .int
  | 4 => (.object "PlaceFinder$Corners")
  | 5 => (.array .char)
  | 6 => .int
  | 7 => (.object "java/util/ArrayList")
  | 8 => (.array (.object "PlaceFinder$Watch"))
  | 9 => (.object "PlaceFinder$Hits")
  | 10 => (.object "PlaceFinder$ErrorCounter")
  | 11 => (.object "PlaceFinder$RouteSearch")
  | _ => (.object "PlaceFinder$Condition")
def T_M : u_T := fun k => match k with
  | 0 => ("PlaceFinderModel", "code", "I", false)
  | 1 => ("PlaceFinderModel", "places", "I", false)
  | 2 => ("PlaceFinderModel", "kind", "[I", true)
  | 3 => ("PlaceFinderModel", "gone", "[I", true)
  | 4 => ("PlaceFinderModel", "shapes", "[I", true)
  | 5 => ("PlaceFinderModel", "shapeDay", "[I", true)
  | 6 => ("PlaceFinderModel", "shapeSize", "[I", true)
  | 7 => ("PlaceFinderModel", "shapeX", "[I", true)
  | 8 => ("PlaceFinderModel", "shapeY", "[I", true)
  | 9 => ("PlaceFinderModel", "names", "[I", true)
  | 10 => ("PlaceFinderModel", "nameFrom", "[I", true)
  | 11 => ("PlaceFinderModel", "nameTo", "[I", true)
  | 12 => ("PlaceFinderModel", "nameLength", "[I", true)
  | 13 => ("PlaceFinderModel", "nameLetter", "[I", true)
  | 14 => ("PlaceFinderModel", "spans", "[I", true)
  | 15 => ("PlaceFinderModel", "spanParent", "[I", true)
  | 16 => ("PlaceFinderModel", "spanFrom", "[I", true)
  | 17 => ("PlaceFinderModel", "spanTo", "[I", true)
  | 18 => ("PlaceFinderModel", "corners", "I", false)
  | 19 => ("PlaceFinderModel", "cornerX", "[I", true)
  | 20 => ("PlaceFinderModel", "cornerY", "[I", true)
  | 21 => ("PlaceFinderModel", "typed", "I", false)
  | 22 => ("PlaceFinderModel", "typing", "[I", true)
  | 23 => ("PlaceFinderModel", "conditions", "[I", true)
  | 24 => ("PlaceFinderModel", "conditionKind", "[I", true)
  | 25 => ("PlaceFinderModel", "numberA", "[I", true)
  | 26 => ("PlaceFinderModel", "numberB", "[I", true)
  | 27 => ("PlaceFinderModel", "numberC", "[I", true)
  | 28 => ("PlaceFinderModel", "wordLength", "[I", true)
  | 29 => ("PlaceFinderModel", "wordLetter", "[I", true)
  | 30 => ("PlaceFinderModel", "routeSize", "[I", true)
  | 31 => ("PlaceFinderModel", "routeX", "[I", true)
  | 32 => ("PlaceFinderModel", "routeY", "[I", true)
  | 33 => ("PlaceFinderModel", "watchDay", "[I", true)
  | 34 => ("PlaceFinderModel", "isSet", "[Z", true)
  | 35 => ("PlaceFinderModel", "told", "[I", true)
  | 36 => ("PlaceFinderModel", "found", "I", false)
  | 37 => ("PlaceFinderModel", "hits", "[I", true)
  | 38 => ("PlaceFinderModel", "folded", "I", false)
  | 39 => ("PlaceFinderModel", "fold", "[I", true)
  | 40 => ("PlaceFinderModel", "table", "[I", true)
  | 41 => ("PlaceFinderModel", "farUp", "J", false)
  | 42 => ("PlaceFinderModel", "farDown", "J", false)
  | 43 => ("PlaceFinderModel", "alongUp", "J", false)
  | 44 => ("PlaceFinderModel", "alongDown", "J", false)
  | 45 => ("PlaceFinderModel", "nearUp", "J", false)
  | 46 => ("PlaceFinderModel", "nearDown", "J", false)
  | 47 => ("PlaceFinderModel", "placeUp", "J", false)
  | 48 => ("PlaceFinderModel", "placeDown", "J", false)
  | 49 => ("PlaceFinderModel", "nearSide", "I", false)
  | 50 => ("PlaceFinderModel", "keyName", "[I", true)
  | 51 => ("PlaceFinderModel", "keySquare", "[I", true)
  | 52 => ("PlaceFinderModel", "keySide", "[I", true)
  | 53 => ("PlaceFinderModel", "keyUp", "[J", true)
  | _ => ("PlaceFinderModel", "keyDown", "[J", true)
def t_M : Nat → FieldType := fun k => match k with
  | 0 => .int
  | 1 => .int
  | 2 => (.array .int)
  | 3 => (.array .int)
  | 4 => (.array .int)
  | 5 => (.array .int)
  | 6 => (.array .int)
  | 7 => (.array .int)
  | 8 => (.array .int)
  | 9 => (.array .int)
  | 10 => (.array .int)
  | 11 => (.array .int)
  | 12 => (.array .int)
  | 13 => (.array .int)
  | 14 => (.array .int)
  | 15 => (.array .int)
  | 16 => (.array .int)
  | 17 => (.array .int)
  | 18 => .int
  | 19 => (.array .int)
  | 20 => (.array .int)
  | 21 => .int
  | 22 => (.array .int)
  | 23 => (.array .int)
  | 24 => (.array .int)
  | 25 => (.array .int)
  | 26 => (.array .int)
  | 27 => (.array .int)
  | 28 => (.array .int)
  | 29 => (.array .int)
  | 30 => (.array .int)
  | 31 => (.array .int)
  | 32 => (.array .int)
  | 33 => (.array .int)
  | 34 => (.array .boolean)
  | 35 => (.array .int)
  | 36 => .int
  | 37 => (.array .int)
  | 38 => .int
  | 39 => (.array .int)
  | 40 => (.array .int)
  | 41 => .long
  | 42 => .long
  | 43 => .long
  | 44 => .long
  | 45 => .long
  | 46 => .long
  | 47 => .long
  | 48 => .long
  | 49 => .int
  | 50 => (.array .int)
  | 51 => (.array .int)
  | 52 => (.array .int)
  | 53 => (.array .long)
  | _ => (.array .long)
abbrev vwCl : List vw_C := [("java/util/ArrayList", T_Al, 3), ("PlaceFinder$Condition", T_Cn, 5), ("PlaceFinder$Corners", T_Co, 3), ("PlaceFinder$ErrorCounter", T_Ec, 1), ("PlaceFinder$Hits", T_Hi, 3), ("PlaceFinder$Link", T_Li, 3), ("PlaceFinder$Name", T_Na, 3), ("PlaceFinder$Place", T_Pl, 7), ("PlaceFinder$RouteSearch", T_Rs, 6), ("PlaceFinder$Watch", T_Wa, 4), ("PlaceFinder$Word", T_Wo, 2), ("PlaceFinder", T_P, 13), ("PlaceFinderModel", T_M, 55)]
def aty : List FieldType := [.int, .long, .char, .boolean, (.object "java/lang/Object"), (.object "PlaceFinder$Watch"), (.array .int)]
abbrev y_P_init : MethodName := ⟨"PlaceFinder", "<init>", "()V"⟩
abbrev y_P_place : MethodName := ⟨"PlaceFinder", "place", "(I)I"⟩
abbrev y_P_corner : MethodName := ⟨"PlaceFinder", "corner", "(II)I"⟩
abbrev y_P_shape : MethodName := ⟨"PlaceFinder", "shape", "(II)V"⟩
abbrev y_P_route : MethodName := ⟨"PlaceFinder", "route", "()V"⟩
abbrev y_P_letter : MethodName := ⟨"PlaceFinder", "letter", "(I)Z"⟩
abbrev y_P_name : MethodName := ⟨"PlaceFinder", "name", "(III)V"⟩
abbrev y_P_parent : MethodName := ⟨"PlaceFinder", "parent", "(IIII)V"⟩
abbrev y_P_remove : MethodName := ⟨"PlaceFinder", "remove", "(II)V"⟩
abbrev y_P_condition : MethodName := ⟨"PlaceFinder", "condition", "(IIII)I"⟩
abbrev y_P_clear : MethodName := ⟨"PlaceFinder", "clear", "()V"⟩
abbrev y_P_find : MethodName := ⟨"PlaceFinder", "find", "(II)I"⟩
abbrev y_P_near : MethodName := ⟨"PlaceFinder", "near", "(IIIII)I"⟩
abbrev y_P_hit : MethodName := ⟨"PlaceFinder", "hit", "(I)I"⟩
abbrev y_P_chain : MethodName := ⟨"PlaceFinder", "chain", "(III)I"⟩
abbrev y_P_holds : MethodName := ⟨"PlaceFinder", "holds", "(IIII)I"⟩
abbrev y_P_sound : MethodName := ⟨"PlaceFinder", "sound", "()I"⟩
abbrev y_P_errors : MethodName := ⟨"PlaceFinder", "errors", "(II)I"⟩
abbrev y_P_watch : MethodName := ⟨"PlaceFinder", "watch", "(II)V"⟩
abbrev y_P_news : MethodName := ⟨"PlaceFinder", "news", "(I)I"⟩
abbrev y_P_told : MethodName := ⟨"PlaceFinder", "told", "(I)I"⟩
abbrev y_P_isKind : MethodName := ⟨"PlaceFinder", "isKind", "(I)Z"⟩
abbrev y_P_isDay : MethodName := ⟨"PlaceFinder", "isDay", "(I)Z"⟩
abbrev y_P_areSpan : MethodName := ⟨"PlaceFinder", "areSpan", "(II)Z"⟩
abbrev y_P_arePosition : MethodName := ⟨"PlaceFinder", "arePosition", "(II)Z"⟩
abbrev y_P_isDistance : MethodName := ⟨"PlaceFinder", "isDistance", "(I)Z"⟩
abbrev y_P_areCondition : MethodName := ⟨"PlaceFinder", "areCondition", "(IIII)Z"⟩
abbrev y_P_placeOf : MethodName := ⟨"PlaceFinder", "placeOf", "(I)LPlaceFinder$Place;"⟩
abbrev y_P_watchOf : MethodName := ⟨"PlaceFinder", "watchOf", "(I)LPlaceFinder$Watch;"⟩
abbrev y_P_comesTo : MethodName := ⟨"PlaceFinder", "comesTo", "(LPlaceFinder$Place;IIII)Z"⟩
abbrev y_P_meets : MethodName := ⟨"PlaceFinder", "meets", "(LPlaceFinder$Place;Ljava/util/ArrayList;LPlaceFinder$Corners;I)Z"⟩
abbrev y_P_fits : MethodName := ⟨"PlaceFinder", "fits", "(LPlaceFinder$Place;LPlaceFinder$Corners;LPlaceFinder$Condition;LPlaceFinder$Corners;I)Z"⟩
abbrev y_P_liesInPlace : MethodName := ⟨"PlaceFinder", "liesInPlace", "(LPlaceFinder$Corners;II)Z"⟩
abbrev y_P_isBelow : MethodName := ⟨"PlaceFinder", "isBelow", "(LPlaceFinder$Place;II)Z"⟩
abbrev y_P_leastName : MethodName := ⟨"PlaceFinder", "leastName", "(LPlaceFinder$Place;LPlaceFinder$Condition;I)J"⟩
abbrev y_P_wordFits : MethodName := ⟨"PlaceFinder", "wordFits", "(LPlaceFinder$Word;LPlaceFinder$Condition;)Z"⟩
abbrev y_P_firstNameCondition : MethodName := ⟨"PlaceFinder", "firstNameCondition", "()LPlaceFinder$Condition;"⟩
abbrev y_P_firstAround : MethodName := ⟨"PlaceFinder", "firstAround", "()LPlaceFinder$Condition;"⟩
abbrev y_P_orderKey : MethodName := ⟨"PlaceFinder", "orderKey", "(LPlaceFinder$Place;ILPlaceFinder$Condition;LPlaceFinder$Condition;I)J"⟩
abbrev y_P_routeKey : MethodName := ⟨"PlaceFinder", "routeKey", "(LPlaceFinder$Corners;)J"⟩
abbrev y_M_init : MethodName := ⟨"PlaceFinderModel", "<init>", "()V"⟩
abbrev y_M_thrown : MethodName := ⟨"PlaceFinderModel", "thrown", "()I"⟩
abbrev y_M_in : MethodName := ⟨"PlaceFinderModel", "in", "(III)Z"⟩
abbrev y_M_isPlace : MethodName := ⟨"PlaceFinderModel", "isPlace", "(I)Z"⟩
abbrev y_M_isDay : MethodName := ⟨"PlaceFinderModel", "isDay", "(I)Z"⟩
abbrev y_M_isSpan : MethodName := ⟨"PlaceFinderModel", "isSpan", "(II)Z"⟩
abbrev y_M_isAt : MethodName := ⟨"PlaceFinderModel", "isAt", "(II)Z"⟩
abbrev y_M_place : MethodName := ⟨"PlaceFinderModel", "place", "(I)I"⟩
abbrev y_M_corner : MethodName := ⟨"PlaceFinderModel", "corner", "(II)I"⟩
abbrev y_M_isArea : MethodName := ⟨"PlaceFinderModel", "isArea", "()Z"⟩
abbrev y_M_shape : MethodName := ⟨"PlaceFinderModel", "shape", "(II)V"⟩
abbrev y_M_route : MethodName := ⟨"PlaceFinderModel", "route", "()V"⟩
abbrev y_M_shapeOf : MethodName := ⟨"PlaceFinderModel", "shapeOf", "(II)I"⟩
abbrev y_M_isThere : MethodName := ⟨"PlaceFinderModel", "isThere", "(II)Z"⟩
abbrev y_M_turn : MethodName := ⟨"PlaceFinderModel", "turn", "(IIIIII)I"⟩
abbrev y_M_liesIn : MethodName := ⟨"PlaceFinderModel", "liesIn", "(III)Z"⟩
abbrev y_M_holds : MethodName := ⟨"PlaceFinderModel", "holds", "(IIII)I"⟩
abbrev y_M_letter : MethodName := ⟨"PlaceFinderModel", "letter", "(I)Z"⟩
abbrev y_M_typedAt : MethodName := ⟨"PlaceFinderModel", "typedAt", "(I)I"⟩
abbrev y_M_pairAt : MethodName := ⟨"PlaceFinderModel", "pairAt", "(I)I"⟩
abbrev y_M_foldTyped : MethodName := ⟨"PlaceFinderModel", "foldTyped", "()V"⟩
abbrev y_M_foldName : MethodName := ⟨"PlaceFinderModel", "foldName", "(I)V"⟩
abbrev y_M_classOf : MethodName := ⟨"PlaceFinderModel", "classOf", "(I)I"⟩
abbrev y_M_soundOf : MethodName := ⟨"PlaceFinderModel", "soundOf", "()I"⟩
abbrev y_M_sound : MethodName := ⟨"PlaceFinderModel", "sound", "()I"⟩
abbrev y_M_name : MethodName := ⟨"PlaceFinderModel", "name", "(III)V"⟩
abbrev y_M_errorsTo : MethodName := ⟨"PlaceFinderModel", "errorsTo", "([III)I"⟩
abbrev y_M_errors : MethodName := ⟨"PlaceFinderModel", "errors", "(II)I"⟩
abbrev y_M_parentOf : MethodName := ⟨"PlaceFinderModel", "parentOf", "(II)I"⟩
abbrev y_M_isAbove : MethodName := ⟨"PlaceFinderModel", "isAbove", "(III)Z"⟩
abbrev y_M_parent : MethodName := ⟨"PlaceFinderModel", "parent", "(IIII)V"⟩
abbrev y_M_remove : MethodName := ⟨"PlaceFinderModel", "remove", "(II)V"⟩
abbrev y_M_chain : MethodName := ⟨"PlaceFinderModel", "chain", "(III)I"⟩
abbrev y_M_condition : MethodName := ⟨"PlaceFinderModel", "condition", "(IIII)I"⟩
abbrev y_M_clear : MethodName := ⟨"PlaceFinderModel", "clear", "()V"⟩
abbrev y_M_isNamed : MethodName := ⟨"PlaceFinderModel", "isNamed", "(II)Z"⟩
abbrev y_M_isOf : MethodName := ⟨"PlaceFinderModel", "isOf", "(II)Z"⟩
abbrev y_M_hasName : MethodName := ⟨"PlaceFinderModel", "hasName", "(III)Z"⟩
abbrev y_M_isInside : MethodName := ⟨"PlaceFinderModel", "isInside", "(III)Z"⟩
abbrev y_M_square : MethodName := ⟨"PlaceFinderModel", "square", "(IIII)I"⟩
abbrev y_M_compareFractions : MethodName := ⟨"PlaceFinderModel", "compareFractions", "(JJJJ)I"⟩
abbrev y_M_measure : MethodName := ⟨"PlaceFinderModel", "measure", "(IIIIII)V"⟩
abbrev y_M_isNearer : MethodName := ⟨"PlaceFinderModel", "isNearer", "(I)Z"⟩
abbrev y_M_nearest : MethodName := ⟨"PlaceFinderModel", "nearest", "(III)V"⟩
abbrev y_M_isOnRoute : MethodName := ⟨"PlaceFinderModel", "isOnRoute", "(IIII)Z"⟩
abbrev y_M_meets : MethodName := ⟨"PlaceFinderModel", "meets", "(III)Z"⟩
abbrev y_M_compareWords : MethodName := ⟨"PlaceFinderModel", "compareWords", "(II)I"⟩
abbrev y_M_firstCondition : MethodName := ⟨"PlaceFinderModel", "firstCondition", "(II)I"⟩
abbrev y_M_makeKeys : MethodName := ⟨"PlaceFinderModel", "makeKeys", "(III)V"⟩
abbrev y_M_compareKeys : MethodName := ⟨"PlaceFinderModel", "compareKeys", "(III)I"⟩
abbrev y_M_insert : MethodName := ⟨"PlaceFinderModel", "insert", "(II)V"⟩
abbrev y_M_find : MethodName := ⟨"PlaceFinderModel", "find", "(II)I"⟩
abbrev y_M_near : MethodName := ⟨"PlaceFinderModel", "near", "(IIIII)I"⟩
abbrev y_M_hit : MethodName := ⟨"PlaceFinderModel", "hit", "(I)I"⟩
abbrev y_M_watch : MethodName := ⟨"PlaceFinderModel", "watch", "(II)V"⟩
abbrev y_M_isWatch : MethodName := ⟨"PlaceFinderModel", "isWatch", "(I)Z"⟩
abbrev y_M_news : MethodName := ⟨"PlaceFinderModel", "news", "(I)I"⟩
abbrev y_M_told : MethodName := ⟨"PlaceFinderModel", "told", "(I)I"⟩
abbrev y_Cn_init : MethodName := ⟨"PlaceFinder$Condition", "<init>", "(IIIILPlaceFinder$Word;)V"⟩
abbrev y_Co_init : MethodName := ⟨"PlaceFinder$Corners", "<init>", "([I[II)V"⟩
abbrev y_Co_isPoint : MethodName := ⟨"PlaceFinder$Corners", "isPoint", "()Z"⟩
abbrev y_Co_isArea : MethodName := ⟨"PlaceFinder$Corners", "isArea", "()Z"⟩
abbrev y_Co_following : MethodName := ⟨"PlaceFinder$Corners", "following", "(I)I"⟩
abbrev y_Co_doubledSurface : MethodName := ⟨"PlaceFinder$Corners", "doubledSurface", "()I"⟩
abbrev y_Co_squareTo : MethodName := ⟨"PlaceFinder$Corners", "squareTo", "(II)I"⟩
abbrev y_Co_squareFrom : MethodName := ⟨"PlaceFinder$Corners", "squareFrom", "(III)I"⟩
abbrev y_Co_hasAllInside : MethodName := ⟨"PlaceFinder$Corners", "hasAllInside", "(LPlaceFinder$Corners;)Z"⟩
abbrev y_Co_hasInside : MethodName := ⟨"PlaceFinder$Corners", "hasInside", "(II)Z"⟩
abbrev y_Co_isInBox : MethodName := ⟨"PlaceFinder$Corners", "isInBox", "(IIII)Z"⟩
abbrev y_Ec_init : MethodName := ⟨"PlaceFinder$ErrorCounter", "<init>", "()V"⟩
abbrev y_Ec_count : MethodName := ⟨"PlaceFinder$ErrorCounter", "count", "(LPlaceFinder$Word;LPlaceFinder$Word;)I"⟩
abbrev y_Ec_leastFor : MethodName := ⟨"PlaceFinder$ErrorCounter", "leastFor", "([CI[CI)I"⟩
abbrev y_Hi_init : MethodName := ⟨"PlaceFinder$Hits", "<init>", "()V"⟩
abbrev y_Hi_empty : MethodName := ⟨"PlaceFinder$Hits", "empty", "()V"⟩
abbrev y_Hi_add : MethodName := ⟨"PlaceFinder$Hits", "add", "(IJ)V"⟩
abbrev y_Hi_keepFirst : MethodName := ⟨"PlaceFinder$Hits", "keepFirst", "(I)V"⟩
abbrev y_Li_init : MethodName := ⟨"PlaceFinder$Link", "<init>", "(LPlaceFinder$Place;II)V"⟩
abbrev y_Li_isWithin : MethodName := ⟨"PlaceFinder$Link", "isWithin", "(II)Z"⟩
abbrev y_Na_init : MethodName := ⟨"PlaceFinder$Name", "<init>", "(LPlaceFinder$Word;II)V"⟩
abbrev y_Na_isOf : MethodName := ⟨"PlaceFinder$Name", "isOf", "(I)Z"⟩
abbrev y_Pl_init : MethodName := ⟨"PlaceFinder$Place", "<init>", "(II)V"⟩
abbrev y_Pl_takesShapeFrom : MethodName := ⟨"PlaceFinder$Place", "takesShapeFrom", "(I)Z"⟩
abbrev y_Pl_addShape : MethodName := ⟨"PlaceFinder$Place", "addShape", "(LPlaceFinder$Corners;I)V"⟩
abbrev y_Pl_shapeOn : MethodName := ⟨"PlaceFinder$Place", "shapeOn", "(I)LPlaceFinder$Corners;"⟩
abbrev y_Pl_isRemovedOn : MethodName := ⟨"PlaceFinder$Place", "isRemovedOn", "(I)Z"⟩
abbrev y_Pl_isThere : MethodName := ⟨"PlaceFinder$Place", "isThere", "(I)Z"⟩
abbrev y_Pl_squareTo : MethodName := ⟨"PlaceFinder$Place", "squareTo", "(III)I"⟩
abbrev y_Pl_isLinkedWithin : MethodName := ⟨"PlaceFinder$Place", "isLinkedWithin", "(II)Z"⟩
abbrev y_Pl_aboveOn : MethodName := ⟨"PlaceFinder$Place", "aboveOn", "(I)LPlaceFinder$Place;"⟩
abbrev y_Rs_init : MethodName := ⟨"PlaceFinder$RouteSearch", "<init>", "()V"⟩
abbrev y_Rs_start : MethodName := ⟨"PlaceFinder$RouteSearch", "start", "(LPlaceFinder$Corners;LPlaceFinder$Corners;)V"⟩
abbrev y_Rs_measure : MethodName := ⟨"PlaceFinder$RouteSearch", "measure", "(LPlaceFinder$Corners;III)V"⟩
abbrev y_Rs_takeIfBetter : MethodName := ⟨"PlaceFinder$RouteSearch", "takeIfBetter", "(IIJJJ)V"⟩
abbrev y_Rs_isWithin : MethodName := ⟨"PlaceFinder$RouteSearch", "isWithin", "(I)Z"⟩
abbrev y_Rs_positionKey : MethodName := ⟨"PlaceFinder$RouteSearch", "positionKey", "()J"⟩
abbrev y_Wa_init : MethodName := ⟨"PlaceFinder$Watch", "<init>", "(LPlaceFinder$Corners;I)V"⟩
abbrev y_Wa_hasTold : MethodName := ⟨"PlaceFinder$Watch", "hasTold", "(I)Z"⟩
abbrev y_Wo_init : MethodName := ⟨"PlaceFinder$Word", "<init>", "([CI)V"⟩
abbrev y_Wo_joinedLetter : MethodName := ⟨"PlaceFinder$Word", "joinedLetter", "(CC)C"⟩
abbrev y_Wo_rank : MethodName := ⟨"PlaceFinder$Word", "rank", "()J"⟩
abbrev y_Wo_beginsWith : MethodName := ⟨"PlaceFinder$Word", "beginsWith", "(LPlaceFinder$Word;)Z"⟩
abbrev y_Wo_soundCode : MethodName := ⟨"PlaceFinder$Word", "soundCode", "()I"⟩
abbrev y_Wo_soundClass : MethodName := ⟨"PlaceFinder$Word", "soundClass", "(I)I"⟩
abbrev y_L_place : MethodName := ⟨"PlaceFinderLaw", "place", "(LPlaceFinder;I[J)I"⟩
abbrev y_L_corner : MethodName := ⟨"PlaceFinderLaw", "corner", "(LPlaceFinder;II[J)I"⟩
abbrev y_L_shape : MethodName := ⟨"PlaceFinderLaw", "shape", "(LPlaceFinder;II)I"⟩
abbrev y_L_name : MethodName := ⟨"PlaceFinderLaw", "name", "(LPlaceFinder;III)I"⟩
abbrev y_L_parent : MethodName := ⟨"PlaceFinderLaw", "parent", "(LPlaceFinder;IIII)I"⟩
abbrev y_L_remove : MethodName := ⟨"PlaceFinderLaw", "remove", "(LPlaceFinder;II)I"⟩
abbrev y_L_condition : MethodName := ⟨"PlaceFinderLaw", "condition", "(LPlaceFinder;IIII[J)I"⟩
abbrev y_L_find : MethodName := ⟨"PlaceFinderLaw", "find", "(LPlaceFinder;II[J)I"⟩
abbrev y_L_near : MethodName := ⟨"PlaceFinderLaw", "near", "(LPlaceFinder;IIIII[J)I"⟩
abbrev y_L_hit : MethodName := ⟨"PlaceFinderLaw", "hit", "(LPlaceFinder;I[J)I"⟩
abbrev y_L_chain : MethodName := ⟨"PlaceFinderLaw", "chain", "(LPlaceFinder;III[J)I"⟩
abbrev y_L_holds : MethodName := ⟨"PlaceFinderLaw", "holds", "(LPlaceFinder;IIII[J)I"⟩
abbrev y_L_errors : MethodName := ⟨"PlaceFinderLaw", "errors", "(LPlaceFinder;II[J)I"⟩
abbrev y_L_watch : MethodName := ⟨"PlaceFinderLaw", "watch", "(LPlaceFinder;II)I"⟩
abbrev y_L_news : MethodName := ⟨"PlaceFinderLaw", "news", "(LPlaceFinder;I[J)I"⟩
abbrev y_L_told : MethodName := ⟨"PlaceFinderLaw", "told", "(LPlaceFinder;I[J)I"⟩
abbrev y_In_bitCount : MethodName := ⟨"java/lang/Integer", "bitCount", "(I)I"⟩
abbrev y_Lo_compare : MethodName := ⟨"java/lang/Long", "compare", "(JJ)I"⟩
abbrev y_Ma_max : MethodName := ⟨"java/lang/Math", "max", "(II)I"⟩
abbrev y_Ma_min : MethodName := ⟨"java/lang/Math", "min", "(II)I"⟩
abbrev y_Ma_min2 : MethodName := ⟨"java/lang/Math", "min", "(JJ)J"⟩
abbrev y_St_charAt : MethodName := ⟨"java/lang/String", "charAt", "(I)C"⟩
abbrev y_St_checkIndex : MethodName := ⟨"java/lang/String", "checkIndex", "(II)V"⟩
abbrev y_St_isLatin1 : MethodName := ⟨"java/lang/String", "isLatin1", "()Z"⟩
abbrev y_Sl_charAt : MethodName := ⟨"java/lang/StringLatin1", "charAt", "([BI)C"⟩
abbrev y_Sv_charAt : MethodName := ⟨"java/lang/StringUTF16", "charAt", "([BI)C"⟩
abbrev y_Sv_checkIndex : MethodName := ⟨"java/lang/StringUTF16", "checkIndex", "(I[B)V"⟩
abbrev y_Sv_getChar : MethodName := ⟨"java/lang/StringUTF16", "getChar", "([BI)C"⟩
abbrev y_Sv_length : MethodName := ⟨"java/lang/StringUTF16", "length", "([B)I"⟩
abbrev y_Ac_init : MethodName := ⟨"java/util/AbstractCollection", "<init>", "()V"⟩
abbrev y_Ab_init : MethodName := ⟨"java/util/AbstractList", "<init>", "()V"⟩
abbrev y_Al_init : MethodName := ⟨"java/util/ArrayList", "<init>", "()V"⟩
abbrev y_Al_add : MethodName := ⟨"java/util/ArrayList", "add", "(Ljava/lang/Object;)Z"⟩
abbrev y_Al_add2 : MethodName := ⟨"java/util/ArrayList", "add", "(Ljava/lang/Object;[Ljava/lang/Object;I)V"⟩
abbrev y_Al_clear : MethodName := ⟨"java/util/ArrayList", "clear", "()V"⟩
abbrev y_Al_elementData : MethodName := ⟨"java/util/ArrayList", "elementData", "(I)Ljava/lang/Object;"⟩
abbrev y_Al_get : MethodName := ⟨"java/util/ArrayList", "get", "(I)Ljava/lang/Object;"⟩
abbrev y_Al_grow : MethodName := ⟨"java/util/ArrayList", "grow", "()[Ljava/lang/Object;"⟩
abbrev y_Al_grow2 : MethodName := ⟨"java/util/ArrayList", "grow", "(I)[Ljava/lang/Object;"⟩
abbrev y_Al_size : MethodName := ⟨"java/util/ArrayList", "size", "()I"⟩
abbrev y_As_copyOf : MethodName := ⟨"java/util/Arrays", "copyOf", "([II)[I"⟩
abbrev y_As_copyOf2 : MethodName := ⟨"java/util/Arrays", "copyOf", "([Ljava/lang/Object;I)[Ljava/lang/Object;"⟩
abbrev y_As_copyOf3 : MethodName := ⟨"java/util/Arrays", "copyOf", "([Ljava/lang/Object;ILjava/lang/Class;)[Ljava/lang/Object;"⟩
abbrev y_Ob_checkIndex : MethodName := ⟨"java/util/Objects", "checkIndex", "(II)I"⟩
abbrev y_Su_hugeLength : MethodName := ⟨"jdk/internal/util/ArraysSupport", "hugeLength", "(II)I"⟩
abbrev y_Su_newLength : MethodName := ⟨"jdk/internal/util/ArraysSupport", "newLength", "(III)I"⟩
abbrev y_Pr_checkIndex : MethodName := ⟨"jdk/internal/util/Preconditions", "checkIndex", "(IILjava/util/function/BiFunction;)I"⟩
theorem tm0 {w : Cond} (h : w ∈ k2_sels lw_privs) : w ∈ lw_tbl := List.mem_append_left _ h
theorem tm1 {w : Cond} (h : w ∈ tables_1_1) : w ∈ lw_tbl := List.mem_append_right _ (show w ∈ tables_1 from List.mem_append_left _ h)
theorem tm2 {w : Cond} (h : w ∈ tables_1_2) : w ∈ lw_tbl := List.mem_append_right _ (show w ∈ tables_1 from List.mem_append_right _ (List.mem_append_left _ h))
theorem tm3 {w : Cond} (h : w ∈ tables_1_3) : w ∈ lw_tbl := List.mem_append_right _ (show w ∈ tables_1 from List.mem_append_right _ (List.mem_append_right _ (List.mem_append_left _ h)))
theorem tm4 {w : Cond} (h : w ∈ tables_1_4) : w ∈ lw_tbl := List.mem_append_right _ (show w ∈ tables_1 from List.mem_append_right _ (List.mem_append_right _ (List.mem_append_right _ (List.mem_append_left _ h))))
theorem tm5 {w : Cond} (h : w ∈ tables_1_5) : w ∈ lw_tbl := List.mem_append_right _ (show w ∈ tables_1 from List.mem_append_right _ (List.mem_append_right _ (List.mem_append_right _ (List.mem_append_right _ (List.mem_append_left _ h)))))
theorem tm6 {w : Cond} (h : w ∈ tables_1_6) : w ∈ lw_tbl := List.mem_append_right _ (show w ∈ tables_1 from List.mem_append_right _ (List.mem_append_right _ (List.mem_append_right _ (List.mem_append_right _ (List.mem_append_right _ (h))))))
def GW : List Cond := lw_tbl.filter goodWord
theorem GW_good : ∀ w ∈ GW, goodWord w = true := fun w h => (List.mem_filter.mp h).2
theorem GW_of {w : Cond} (h : w ∈ lw_tbl) (hg : goodWord w = true) : w ∈ GW := List.mem_filter.mpr ⟨h, hg⟩
/-- words that stay, of other forms -/
def nwOK (w : Cond) : Bool := match w with
  | .fieldLinkNest .. => true
  | .methodLinkNest .. => true
  | .castable .. => true
  | .declares .. => true
  | .arrayOver (.object _) => true
  | .arrayOver (.array .int) => true
  | _ => false
def NW : List Cond := lw_tbl.filter nwOK
theorem NW_of {w : Cond} (h : w ∈ lw_tbl) (hg : nwOK w = true) : w ∈ NW := List.mem_filter.mpr ⟨h, hg⟩
theorem aoa_moved {u U : State} (hvm : u.vm.Alike U.vm) (h : va_Nw (.arrayOver (.array .int)) u) : va_Nw (.arrayOver (.array .int)) U := by
  unfold va_Nw Cond.before Cond.holds at h ⊢
  simp only [Cond.value, beq_iff_eq] at h ⊢
  cases hc : u.vm.findClass (FieldType.array .int).toString with
  | none => simp [hc] at h
  | some comp =>
    simp only [hc, Option.bind_some, Option.bind_eq_some_iff, Option.map_eq_some_iff] at h
    obtain ⟨c, hi, k, hk, hb⟩ := h
    obtain ⟨k', hk', he⟩ := hvm.2.2 _ _ hk
    have hi' : (U.vm.classes.findIdx? fun (x : Class) => match x.kind with | .array component _ => component == comp | _ => false) = some c := by
      have e1 := va_idx_bare U.vm comp
      have e2 := va_idx_bare u.vm comp
      first | rw [hvm.bare_eq] at e2 | rw [← hvm.bare_eq] at e2
      exact (e1.symm.trans e2).trans hi
    have f1 : U.vm.findClass (FieldType.array .int).toString = some comp := by rw [hvm.findClass]; exact hc
    have hkk : k'.kind = k.kind := by rw [he]
    simp only [f1, Option.bind_some, Option.bind_eq_some_iff, Option.map_eq_some_iff]
    refine ⟨c, hi', k', hk', ?_⟩
    rw [hkk, hvm.findClass]
    exact hb
def NN (U : State) : Prop := ∀ w ∈ NW, va_Nw w U
theorem nw_warm {w : Cond} (hw : nwOK w = true) {s U : State} (hW : s.WarmedH U.vm) (h : va_Nw w s) : va_Nw w U := by
  unfold nwOK at hw
  split at hw
  · exact va_Nw.warmF hW h
  · exact va_Nw.warmM hW h
  · exact va_Nw.warmC hW h
  · exact va_Nw.warmD hW h
  · exact va_AO.moved hW.alike h
  · exact aoa_moved hW.alike h
  · cases hw
theorem nw_tab {w : Cond} (hw : nwOK w = true) {u U : State} (hvm : u.vm = U.vm) (h : va_Nw w u) : va_Nw w U := by
  unfold nwOK at hw
  split at hw
  · exact va_Nw.same rfl hvm h
  · exact va_Nw.same rfl hvm h
  · exact va_Nw.same rfl hvm h
  · exact va_Nw.same rfl hvm h
  · exact va_AO.moved (by rw [hvm]; exact Vm.Alike.refl _) h
  · exact aoa_moved (by rw [hvm]; exact Vm.Alike.refl _) h
  · cases hw
theorem NN.warm {s U : State} (hW : s.WarmedH U.vm) (h : NN s) : NN U := fun w hw => nw_warm (List.mem_filter.mp hw).2 hW (h w hw)
theorem NN.same {u U : State} (hvm : u.vm = U.vm) (h : NN u) : NN U := fun w hw => nw_tab (List.mem_filter.mp hw).2 hvm (h w hw)
/-- a static field that holds a reference or null, laid as the tables say -/
def ZL (C n d : String) (A : Nat → Prop) (U : State) (H : Heap) : Prop := ∃ (c : ClassId) (k : Class) (i : Nat) (f : Field) (a : Nat) (cell : Cell) (v : Value), U.vm.findClass C = some c ∧ U.fieldFound? C n d = some (c, k, i, f) ∧ f.isStatic = true ∧ k.statics = some a ∧ H[a]? = some cell ∧ cell.vm.isStatics = true ∧ cell.cls = c ∧ f.slot < cell.slots.size ∧ k.staticTypes[f.slot]? = some f.type ∧ cell.slots[f.slot]? = some v ∧ v.isRef = true ∧ ¬ A a
theorem ZL.moved {C n d : String} {A : Nat → Prop} {u U : State} {H : Heap} (hvm : u.vm.Alike U.vm) (h : ZL C n d A u H) : ZL C n d A U H := by
  obtain ⟨c, k, i, f, a, cell, v, h1, h2, h3, h4, h5, h6, h7, h8, h9, h10⟩ := h
  obtain ⟨k', hi', he⟩ := State.fieldFound?_setVm hvm h2
  exact ⟨c, k', i, f, a, cell, v, by rw [hvm.findClass]; exact h1, hi', h3, by rw [he]; exact h4, h5, h6, h7, h8, by rw [he]; exact h9, h10⟩
theorem ZL.kept {C n d : String} {A : Nat → Prop} {U : State} {H H1 : Heap} (h : ZL C n d A U H) (hq : ∀ a : Nat, a < H.size → ¬ A a → H1[a]? = H[a]?) : ZL C n d A U H1 := by
  obtain ⟨c, k, i, f, a, cell, v, h1, h2, h3, h4, h5, h6, h7, h8, h9, h10, h11, h12⟩ := h
  exact ⟨c, k, i, f, a, cell, v, h1, h2, h3, h4, by rw [hq a (Array.getElem?_eq_some_iff.mp h5).1 h12]; exact h5, h6, h7, h8, h9, h10, h11, h12⟩
theorem ZL.lays {C n d : String} {A : Nat → Prop} {U : State} {args : Array Value} (h : ZL C n d A U U.heap) : (Cond.laysStatic C n d).before args U = true := by
  obtain ⟨c, k, i, f, a, cell, v, h1, h2, h3, h4, h5, h6, h7, h8, h9, h10⟩ := h
  exact Cond.laysStatic_of (args := args) (first := U) (o := none) (idx := []) h1 h2 h3 h4 h5 h6 h7 h8 h9
theorem ZL.isRef {C n d : String} {A : Nat → Prop} {U : State} {args : Array Value} (h : ZL C n d A U U.heap) : (Cond.isRef (.static C n d)).before args U = true := by
  obtain ⟨c, k, i, f, a, cell, v, h1, h2, h3, h4, h5, h6, h7, h8, h9, h10, h11, -⟩ := h
  have he : (Term.static C n d).eval args U none [] U = some v := by
    simp [Term.eval, State.fieldNamed?, h2, h3, h4, h5, h6, h10]
  simp only [Cond.before, Cond.holds, Cond.value, he]
  cases v <;> simp_all [Value.isRef]
/-- the text of the sound kinds, as bytes -/
def scb : List Int32 := [48, 49, 50, 51, 48, 49, 50, 48, 48, 50, 50, 52, 53, 53, 48, 49, 50, 54, 50, 51, 48, 49, 48, 50, 48, 50]
/-- the texts that throwers load -/
def srefs : List (String × Nat × String) := [("PlaceFinder", 93, "no such kind"), ("PlaceFinder", 104, "there are thirty places"), ("PlaceFinder", 120, "no such coordinates"), ("PlaceFinder", 122, "there are eight corners"), ("PlaceFinder", 131, "no such place or day"), ("PlaceFinder", 140, "neither a point nor an area"), ("PlaceFinder", 145, "three shapes, or one of this day or a later one"), ("PlaceFinder", 154, "no such place or span, or nothing is typed"), ("PlaceFinder", 159, "it has two names"), ("PlaceFinder", 166, "no such places or span"), ("PlaceFinder", 173, "it has a parent for a day of the span"), ("PlaceFinder", 183, "it would be above itself, or it has four spans"), ("PlaceFinder", 193, "it is removed on that day already"), ("PlaceFinder", 202, "no such condition"), ("PlaceFinder", 204, "nothing is typed"), ("PlaceFinder", 206, "there are five conditions"), ("PlaceFinder", 211, "no such day or order"), ("PlaceFinder", 241, "no such coordinates, n, kind or day"), ("PlaceFinder", 259, "no such hit"), ("PlaceFinder", 265, "no such place or day, or i is below 0"), ("PlaceFinder", 273, "no such place, coordinates or day"), ("PlaceFinder", 287, "no such place or name, or nothing is typed"), ("PlaceFinder", 297, "no such watch or day"), ("PlaceFinder", 306, "no such watch, or it was not set")]
def SS (U : State) : Prop := ∀ q ∈ srefs, ∃ a, vk_R q.1 q.2.1 q.2.2 a U
def NC (C T : String) (U : State) : Prop := ∃ c t : ClassId, U.vm.findClass C = some c ∧ U.vm.findClass T = some t ∧ U.vm.assignable c t = false
theorem NC.moved {C T : String} {u U : State} (hvm : u.vm.Alike U.vm) (h : NC C T u) : NC C T U := by
  obtain ⟨c, t, h1, h2, h3⟩ := h
  exact ⟨c, t, by rw [hvm.findClass]; exact h1, by rw [hvm.findClass]; exact h2, by rw [hvm.assignable]; exact h3⟩
/-- pairs of which the first can't be cast to the second -/
def ncs : List (String × String) := [("java/lang/IllegalStateException", "java/lang/IllegalArgumentException"), ("java/lang/UnsupportedOperationException", "java/lang/IllegalArgumentException"), ("java/lang/IllegalStateException", "java/lang/UnsupportedOperationException")]
/-- (the empty element array, the mirror of Object[], the text's object, its bytes, the formatter) -/
abbrev HD : Type := Nat × Nat × Nat × Nat × Option Nat
def O1 (hd : HD) (A : Nat → Prop) (U : State) (H : Heap) : Prop :=
  va_Z "java/util/ArrayList" "DEFAULTCAPACITY_EMPTY_ELEMENTDATA" "[Ljava/lang/Object;" (.ref hd.1) A U H ∧ va_T (.object "java/lang/Object") hd.1 0 (fun _ => .null) A U H ∧ va_Mi "[Ljava/lang/Object;" hd.2.1 U ∧
  va_O "java/lang/String" hd.2.2.1 A U H ∧ va_OF "java/lang/String" "coder" "B" (.int 0) hd.2.2.1 A U H ∧ va_OF "java/lang/String" "value" "[B" (.ref hd.2.2.2.1) hd.2.2.1 A U H ∧ va_T .byte hd.2.2.2.1 26 (fun j => .int (scb.getD j 0)) A U H ∧ va_Z "java/lang/String" "COMPACT_STRINGS" "Z" (.int 1) A U H ∧
  ZL "java/lang/Throwable" "UNASSIGNED_STACK" "[Ljava/lang/StackTraceElement;" A U H ∧ ZL "java/lang/Throwable" "SUPPRESSED_SENTINEL" "Ljava/util/List;" A U H ∧ va_Z "jdk/internal/util/Preconditions" "SIOOBE_FORMATTER" "Ljava/util/function/BiFunction;" (va_rf hd.2.2.2.2) A U H
theorem O1.moved {hd : HD} {A : Nat → Prop} {u U : State} {H : Heap} (hvm : u.vm.Alike U.vm) (h : O1 hd A u H) : O1 hd A U H := by
  obtain ⟨h1, h2, h3, h4, h5, h6, h7, h8, h9, h10, h11⟩ := h
  exact ⟨h1.moved hvm, h2.moved hvm, h3.moved hvm, h4.moved hvm, h5.moved hvm, h6.moved hvm, h7.moved hvm, h8.moved hvm, h9.moved hvm, h10.moved hvm, h11.moved hvm⟩
theorem O1.kept {hd : HD} {A : Nat → Prop} {U : State} {H H1 : Heap} (h : O1 hd A U H) (hq : ∀ a : Nat, a < H.size → ¬ A a → H1[a]? = H[a]?) : O1 hd A U H1 := by
  obtain ⟨h1, h2, h3, h4, h5, h6, h7, h8, h9, h10, h11⟩ := h
  exact ⟨h1.kept hq, h2.kept hq, h3, h4.kept hq, h5.kept hq, h6.kept hq, h7.kept hq, h8.kept hq, h9.kept hq, h10.kept hq, h11.kept hq⟩
def OO (hd : HD) (lo : Nat) (U : State) (H : Heap) : Prop := O1 hd (fun q => lo ≤ q) U H ∧ vk_R "PlaceFinder$Word" 29 "01230120022455012623010202" hd.2.2.1 U ∧ SS U ∧ ∀ q ∈ ncs, NC q.1 q.2 U
theorem OO.kept {hd : HD} {lo : Nat} {U : State} {H H1 : Heap} (h : OO hd lo U H) (hq : ∀ a : Nat, a < H.size → ¬ lo ≤ a → H1[a]? = H[a]?) : OO hd lo U H1 := ⟨h.1.kept hq, h.2⟩
theorem OO.warm {hd : HD} {lo : Nat} {s U : State} {H : Heap} (hW : s.WarmedH U.vm) (h : OO hd lo s H) : OO hd lo U H := ⟨h.1.moved hW.alike, h.2.1.warm hW, fun q hq => by
  obtain ⟨a, ha⟩ := h.2.2.1 q hq
  exact ⟨a, ha.warm hW⟩, fun q hq => (h.2.2.2 q hq).moved hW.alike⟩
theorem OO.same {hd : HD} {lo : Nat} {u U : State} {H : Heap} (hvm : u.vm = U.vm) (h : OO hd lo u H) : OO hd lo U H := ⟨h.1.moved (by rw [hvm]; exact Vm.Alike.refl _), h.2.1.same hvm.symm, fun q hq => by
  obtain ⟨a, ha⟩ := h.2.2.1 q hq
  exact ⟨a, ha.same hvm.symm⟩, fun q hq => (h.2.2.2 q hq).moved (by rw [hvm]; exact Vm.Alike.refl _)⟩
theorem ZL.narrow {C n d : String} {A B : Nat → Prop} {U : State} {H : Heap} (h : ZL C n d A U H) (hAB : ∀ q, B q → A q) : ZL C n d B U H := by
  obtain ⟨c, k, i, f, a, cell, v, h1, h2, h3, h4, h5, h6, h7, h8, h9, h10, h11, h12⟩ := h
  exact ⟨c, k, i, f, a, cell, v, h1, h2, h3, h4, h5, h6, h7, h8, h9, h10, h11, fun z => h12 (hAB a z)⟩
theorem O1.narrow {hd : HD} {A B : Nat → Prop} {U : State} {H : Heap} (h : O1 hd A U H) (hAB : ∀ q, B q → A q) : O1 hd B U H := by
  obtain ⟨h1, h2, h3, h4, h5, h6, h7, h8, h9, h10, h11⟩ := h
  exact ⟨h1.narrow hAB, h2.narrow hAB, h3, h4.narrow hAB, h5.narrow hAB, h6.narrow hAB, h7.narrow hAB, h8.narrow hAB, h9.narrow hAB, h10.narrow hAB, h11.narrow hAB⟩
theorem OO.up {hd : HD} {lo lo' : Nat} {U : State} {H : Heap} (h : OO hd lo U H) (hl : lo ≤ lo') : OO hd lo' U H := ⟨h.1.narrow (fun _ hq => Nat.le_trans hl hq), h.2⟩
theorem n_Al : ∀ a, a < 3 → ∀ b, b < 3 → a ≠ b → (T_Al a).2.1 ≠ (T_Al b).2.1 := by decide +kernel
theorem t_Al_ok : ∀ k, k < 3 → parseFieldDescriptor (T_Al k).2.2.1 = some (t_Al k) := by decide +kernel
theorem uk_Al : ∀ k, k < 3 → u_lay "java/util/ArrayList" T_Al k ∈ GW := fun k hk => match k, hk with
  | 0, _ => GW_of (tm1 (List.mem_of_getElem? (i := 62) (by decide +kernel))) rfl
  | 1, _ => GW_of (tm1 (List.mem_of_getElem? (i := 64) (by decide +kernel))) rfl
  | 2, _ => GW_of (tm1 (List.mem_of_getElem? (i := 66) (by decide +kernel))) rfl
theorem uw_Al : ∀ w ∈ u_ws "java/util/ArrayList" T_Al 3, w ∈ GW := fun w hw => by
  obtain ⟨k, hk, rfl⟩ := List.mem_map.mp hw
  exact uk_Al k (List.mem_range.mp hk)
theorem n_Cn : ∀ a, a < 5 → ∀ b, b < 5 → a ≠ b → (T_Cn a).2.1 ≠ (T_Cn b).2.1 := by decide +kernel
theorem t_Cn_ok : ∀ k, k < 5 → parseFieldDescriptor (T_Cn k).2.2.1 = some (t_Cn k) := by decide +kernel
theorem uk_Cn : ∀ k, k < 5 → u_lay "PlaceFinder$Condition" T_Cn k ∈ GW := fun k hk => match k, hk with
  | 0, _ => GW_of (tm1 (List.mem_of_getElem? (i := 198) (by decide +kernel))) rfl
  | 1, _ => GW_of (tm1 (List.mem_of_getElem? (i := 200) (by decide +kernel))) rfl
  | 2, _ => GW_of (tm1 (List.mem_of_getElem? (i := 202) (by decide +kernel))) rfl
  | 3, _ => GW_of (tm1 (List.mem_of_getElem? (i := 204) (by decide +kernel))) rfl
  | 4, _ => GW_of (tm1 (List.mem_of_getElem? (i := 206) (by decide +kernel))) rfl
theorem uw_Cn : ∀ w ∈ u_ws "PlaceFinder$Condition" T_Cn 5, w ∈ GW := fun w hw => by
  obtain ⟨k, hk, rfl⟩ := List.mem_map.mp hw
  exact uk_Cn k (List.mem_range.mp hk)
theorem n_Co : ∀ a, a < 3 → ∀ b, b < 3 → a ≠ b → (T_Co a).2.1 ≠ (T_Co b).2.1 := by decide +kernel
theorem t_Co_ok : ∀ k, k < 3 → parseFieldDescriptor (T_Co k).2.2.1 = some (t_Co k) := by decide +kernel
theorem uk_Co : ∀ k, k < 3 → u_lay "PlaceFinder$Corners" T_Co k ∈ GW := fun k hk => match k, hk with
  | 0, _ => GW_of (tm1 (List.mem_of_getElem? (i := 97) (by decide +kernel))) rfl
  | 1, _ => GW_of (tm1 (List.mem_of_getElem? (i := 99) (by decide +kernel))) rfl
  | 2, _ => GW_of (tm1 (List.mem_of_getElem? (i := 101) (by decide +kernel))) rfl
theorem uw_Co : ∀ w ∈ u_ws "PlaceFinder$Corners" T_Co 3, w ∈ GW := fun w hw => by
  obtain ⟨k, hk, rfl⟩ := List.mem_map.mp hw
  exact uk_Co k (List.mem_range.mp hk)
theorem n_Ec : ∀ a, a < 1 → ∀ b, b < 1 → a ≠ b → (T_Ec a).2.1 ≠ (T_Ec b).2.1 := by decide +kernel
theorem t_Ec_ok : ∀ k, k < 1 → parseFieldDescriptor (T_Ec k).2.2.1 = some (t_Ec k) := by decide +kernel
theorem uk_Ec : ∀ k, k < 1 → u_lay "PlaceFinder$ErrorCounter" T_Ec k ∈ GW := fun k hk => match k, hk with
  | 0, _ => GW_of (tm1 (List.mem_of_getElem? (i := 136) (by decide +kernel))) rfl
theorem uw_Ec : ∀ w ∈ u_ws "PlaceFinder$ErrorCounter" T_Ec 1, w ∈ GW := fun w hw => by
  obtain ⟨k, hk, rfl⟩ := List.mem_map.mp hw
  exact uk_Ec k (List.mem_range.mp hk)
theorem n_Hi : ∀ a, a < 3 → ∀ b, b < 3 → a ≠ b → (T_Hi a).2.1 ≠ (T_Hi b).2.1 := by decide +kernel
theorem t_Hi_ok : ∀ k, k < 3 → parseFieldDescriptor (T_Hi k).2.2.1 = some (t_Hi k) := by decide +kernel
theorem uk_Hi : ∀ k, k < 3 → u_lay "PlaceFinder$Hits" T_Hi k ∈ GW := fun k hk => match k, hk with
  | 0, _ => GW_of (tm1 (List.mem_of_getElem? (i := 118) (by decide +kernel))) rfl
  | 1, _ => GW_of (tm1 (List.mem_of_getElem? (i := 120) (by decide +kernel))) rfl
  | 2, _ => GW_of (tm1 (List.mem_of_getElem? (i := 122) (by decide +kernel))) rfl
theorem uw_Hi : ∀ w ∈ u_ws "PlaceFinder$Hits" T_Hi 3, w ∈ GW := fun w hw => by
  obtain ⟨k, hk, rfl⟩ := List.mem_map.mp hw
  exact uk_Hi k (List.mem_range.mp hk)
theorem n_Li : ∀ a, a < 3 → ∀ b, b < 3 → a ≠ b → (T_Li a).2.1 ≠ (T_Li b).2.1 := by decide +kernel
theorem t_Li_ok : ∀ k, k < 3 → parseFieldDescriptor (T_Li k).2.2.1 = some (t_Li k) := by decide +kernel
theorem uk_Li : ∀ k, k < 3 → u_lay "PlaceFinder$Link" T_Li k ∈ GW := fun k hk => match k, hk with
  | 0, _ => GW_of (tm3 (List.mem_of_getElem? (i := 184) (by decide +kernel))) rfl
  | 1, _ => GW_of (tm3 (List.mem_of_getElem? (i := 186) (by decide +kernel))) rfl
  | 2, _ => GW_of (tm3 (List.mem_of_getElem? (i := 188) (by decide +kernel))) rfl
theorem uw_Li : ∀ w ∈ u_ws "PlaceFinder$Link" T_Li 3, w ∈ GW := fun w hw => by
  obtain ⟨k, hk, rfl⟩ := List.mem_map.mp hw
  exact uk_Li k (List.mem_range.mp hk)
theorem n_Na : ∀ a, a < 3 → ∀ b, b < 3 → a ≠ b → (T_Na a).2.1 ≠ (T_Na b).2.1 := by decide +kernel
theorem t_Na_ok : ∀ k, k < 3 → parseFieldDescriptor (T_Na k).2.2.1 = some (t_Na k) := by decide +kernel
theorem uk_Na : ∀ k, k < 3 → u_lay "PlaceFinder$Name" T_Na k ∈ GW := fun k hk => match k, hk with
  | 0, _ => GW_of (tm3 (List.mem_of_getElem? (i := 123) (by decide +kernel))) rfl
  | 1, _ => GW_of (tm3 (List.mem_of_getElem? (i := 125) (by decide +kernel))) rfl
  | 2, _ => GW_of (tm3 (List.mem_of_getElem? (i := 127) (by decide +kernel))) rfl
theorem uw_Na : ∀ w ∈ u_ws "PlaceFinder$Name" T_Na 3, w ∈ GW := fun w hw => by
  obtain ⟨k, hk, rfl⟩ := List.mem_map.mp hw
  exact uk_Na k (List.mem_range.mp hk)
theorem n_Pl : ∀ a, a < 7 → ∀ b, b < 7 → a ≠ b → (T_Pl a).2.1 ≠ (T_Pl b).2.1 := by decide +kernel
theorem t_Pl_ok : ∀ k, k < 7 → parseFieldDescriptor (T_Pl k).2.2.1 = some (t_Pl k) := by decide +kernel
theorem uk_Pl : ∀ k, k < 7 → u_lay "PlaceFinder$Place" T_Pl k ∈ GW := fun k hk => match k, hk with
  | 0, _ => GW_of (tm2 (List.mem_of_getElem? (i := 200) (by decide +kernel))) rfl
  | 1, _ => GW_of (tm2 (List.mem_of_getElem? (i := 202) (by decide +kernel))) rfl
  | 2, _ => GW_of (tm2 (List.mem_of_getElem? (i := 204) (by decide +kernel))) rfl
  | 3, _ => GW_of (tm2 (List.mem_of_getElem? (i := 206) (by decide +kernel))) rfl
  | 4, _ => GW_of (tm2 (List.mem_of_getElem? (i := 208) (by decide +kernel))) rfl
  | 5, _ => GW_of (tm2 (List.mem_of_getElem? (i := 210) (by decide +kernel))) rfl
  | 6, _ => GW_of (tm2 (List.mem_of_getElem? (i := 212) (by decide +kernel))) rfl
theorem uw_Pl : ∀ w ∈ u_ws "PlaceFinder$Place" T_Pl 7, w ∈ GW := fun w hw => by
  obtain ⟨k, hk, rfl⟩ := List.mem_map.mp hw
  exact uk_Pl k (List.mem_range.mp hk)
theorem n_Rs : ∀ a, a < 6 → ∀ b, b < 6 → a ≠ b → (T_Rs a).2.1 ≠ (T_Rs b).2.1 := by decide +kernel
theorem t_Rs_ok : ∀ k, k < 6 → parseFieldDescriptor (T_Rs k).2.2.1 = some (t_Rs k) := by decide +kernel
theorem uk_Rs : ∀ k, k < 6 → u_lay "PlaceFinder$RouteSearch" T_Rs k ∈ GW := fun k hk => match k, hk with
  | 0, _ => GW_of (tm1 (List.mem_of_getElem? (i := 151) (by decide +kernel))) rfl
  | 1, _ => GW_of (tm1 (List.mem_of_getElem? (i := 153) (by decide +kernel))) rfl
  | 2, _ => GW_of (tm1 (List.mem_of_getElem? (i := 155) (by decide +kernel))) rfl
  | 3, _ => GW_of (tm1 (List.mem_of_getElem? (i := 157) (by decide +kernel))) rfl
  | 4, _ => GW_of (tm1 (List.mem_of_getElem? (i := 159) (by decide +kernel))) rfl
  | 5, _ => GW_of (tm1 (List.mem_of_getElem? (i := 161) (by decide +kernel))) rfl
theorem uw_Rs : ∀ w ∈ u_ws "PlaceFinder$RouteSearch" T_Rs 6, w ∈ GW := fun w hw => by
  obtain ⟨k, hk, rfl⟩ := List.mem_map.mp hw
  exact uk_Rs k (List.mem_range.mp hk)
theorem n_Wa : ∀ a, a < 4 → ∀ b, b < 4 → a ≠ b → (T_Wa a).2.1 ≠ (T_Wa b).2.1 := by decide +kernel
theorem t_Wa_ok : ∀ k, k < 4 → parseFieldDescriptor (T_Wa k).2.2.1 = some (t_Wa k) := by decide +kernel
theorem uk_Wa : ∀ k, k < 4 → u_lay "PlaceFinder$Watch" T_Wa k ∈ GW := fun k hk => match k, hk with
  | 0, _ => GW_of (tm4 (List.mem_of_getElem? (i := 230) (by decide +kernel))) rfl
  | 1, _ => GW_of (tm4 (List.mem_of_getElem? (i := 232) (by decide +kernel))) rfl
  | 2, _ => GW_of (tm4 (List.mem_of_getElem? (i := 234) (by decide +kernel))) rfl
  | 3, _ => GW_of (tm4 (List.mem_of_getElem? (i := 236) (by decide +kernel))) rfl
theorem uw_Wa : ∀ w ∈ u_ws "PlaceFinder$Watch" T_Wa 4, w ∈ GW := fun w hw => by
  obtain ⟨k, hk, rfl⟩ := List.mem_map.mp hw
  exact uk_Wa k (List.mem_range.mp hk)
theorem n_Wo : ∀ a, a < 2 → ∀ b, b < 2 → a ≠ b → (T_Wo a).2.1 ≠ (T_Wo b).2.1 := by decide +kernel
theorem t_Wo_ok : ∀ k, k < 2 → parseFieldDescriptor (T_Wo k).2.2.1 = some (t_Wo k) := by decide +kernel
theorem uk_Wo : ∀ k, k < 2 → u_lay "PlaceFinder$Word" T_Wo k ∈ GW := fun k hk => match k, hk with
  | 0, _ => GW_of (tm1 (List.mem_of_getElem? (i := 179) (by decide +kernel))) rfl
  | 1, _ => GW_of (tm1 (List.mem_of_getElem? (i := 181) (by decide +kernel))) rfl
theorem uw_Wo : ∀ w ∈ u_ws "PlaceFinder$Word" T_Wo 2, w ∈ GW := fun w hw => by
  obtain ⟨k, hk, rfl⟩ := List.mem_map.mp hw
  exact uk_Wo k (List.mem_range.mp hk)
theorem n_P : ∀ a, a < 13 → ∀ b, b < 13 → a ≠ b → (T_P a).2.1 ≠ (T_P b).2.1 := by decide +kernel
theorem t_P_ok : ∀ k, k < 13 → parseFieldDescriptor (T_P k).2.2.1 = some (t_P k) := by decide +kernel
theorem uk_P : ∀ k, k < 13 → u_lay "PlaceFinder" T_P k ∈ GW := fun k hk => match k, hk with
  | 0, _ => GW_of (tm1 (List.mem_of_getElem? (i := 222) (by decide +kernel))) rfl
  | 1, _ => GW_of (tm1 (List.mem_of_getElem? (i := 224) (by decide +kernel))) rfl
  | 2, _ => GW_of (tm1 (List.mem_of_getElem? (i := 226) (by decide +kernel))) rfl
  | 3, _ => GW_of (tm1 (List.mem_of_getElem? (i := 228) (by decide +kernel))) rfl
  | 4, _ => GW_of (tm1 (List.mem_of_getElem? (i := 230) (by decide +kernel))) rfl
  | 5, _ => GW_of (tm1 (List.mem_of_getElem? (i := 232) (by decide +kernel))) rfl
  | 6, _ => GW_of (tm1 (List.mem_of_getElem? (i := 234) (by decide +kernel))) rfl
  | 7, _ => GW_of (tm1 (List.mem_of_getElem? (i := 236) (by decide +kernel))) rfl
  | 8, _ => GW_of (tm1 (List.mem_of_getElem? (i := 238) (by decide +kernel))) rfl
  | 9, _ => GW_of (tm2 (List.mem_of_getElem? (i := 0) (by decide +kernel))) rfl
  | 10, _ => GW_of (tm2 (List.mem_of_getElem? (i := 2) (by decide +kernel))) rfl
  | 11, _ => GW_of (tm2 (List.mem_of_getElem? (i := 4) (by decide +kernel))) rfl
  | 12, _ => GW_of (tm2 (List.mem_of_getElem? (i := 6) (by decide +kernel))) rfl
theorem uw_P : ∀ w ∈ u_ws "PlaceFinder" T_P 13, w ∈ GW := fun w hw => by
  obtain ⟨k, hk, rfl⟩ := List.mem_map.mp hw
  exact uk_P k (List.mem_range.mp hk)
theorem n_M : ∀ a, a < 55 → ∀ b, b < 55 → a ≠ b → (T_M a).2.1 ≠ (T_M b).2.1 := by decide +kernel
theorem t_M_ok : ∀ k, k < 55 → parseFieldDescriptor (T_M k).2.2.1 = some (t_M k) := by decide +kernel
theorem uk_M : ∀ k, k < 55 → u_lay "PlaceFinderModel" T_M k ∈ GW := fun k hk => match k, hk with
  | 0, _ => GW_of (tm5 (List.mem_of_getElem? (i := 89) (by decide +kernel))) rfl
  | 1, _ => GW_of (tm5 (List.mem_of_getElem? (i := 91) (by decide +kernel))) rfl
  | 2, _ => GW_of (tm5 (List.mem_of_getElem? (i := 93) (by decide +kernel))) rfl
  | 3, _ => GW_of (tm5 (List.mem_of_getElem? (i := 95) (by decide +kernel))) rfl
  | 4, _ => GW_of (tm5 (List.mem_of_getElem? (i := 97) (by decide +kernel))) rfl
  | 5, _ => GW_of (tm5 (List.mem_of_getElem? (i := 99) (by decide +kernel))) rfl
  | 6, _ => GW_of (tm5 (List.mem_of_getElem? (i := 101) (by decide +kernel))) rfl
  | 7, _ => GW_of (tm5 (List.mem_of_getElem? (i := 103) (by decide +kernel))) rfl
  | 8, _ => GW_of (tm5 (List.mem_of_getElem? (i := 105) (by decide +kernel))) rfl
  | 9, _ => GW_of (tm5 (List.mem_of_getElem? (i := 107) (by decide +kernel))) rfl
  | 10, _ => GW_of (tm5 (List.mem_of_getElem? (i := 109) (by decide +kernel))) rfl
  | 11, _ => GW_of (tm5 (List.mem_of_getElem? (i := 111) (by decide +kernel))) rfl
  | 12, _ => GW_of (tm5 (List.mem_of_getElem? (i := 113) (by decide +kernel))) rfl
  | 13, _ => GW_of (tm5 (List.mem_of_getElem? (i := 115) (by decide +kernel))) rfl
  | 14, _ => GW_of (tm5 (List.mem_of_getElem? (i := 117) (by decide +kernel))) rfl
  | 15, _ => GW_of (tm5 (List.mem_of_getElem? (i := 119) (by decide +kernel))) rfl
  | 16, _ => GW_of (tm5 (List.mem_of_getElem? (i := 121) (by decide +kernel))) rfl
  | 17, _ => GW_of (tm5 (List.mem_of_getElem? (i := 123) (by decide +kernel))) rfl
  | 18, _ => GW_of (tm5 (List.mem_of_getElem? (i := 125) (by decide +kernel))) rfl
  | 19, _ => GW_of (tm5 (List.mem_of_getElem? (i := 127) (by decide +kernel))) rfl
  | 20, _ => GW_of (tm5 (List.mem_of_getElem? (i := 129) (by decide +kernel))) rfl
  | 21, _ => GW_of (tm5 (List.mem_of_getElem? (i := 131) (by decide +kernel))) rfl
  | 22, _ => GW_of (tm5 (List.mem_of_getElem? (i := 133) (by decide +kernel))) rfl
  | 23, _ => GW_of (tm5 (List.mem_of_getElem? (i := 135) (by decide +kernel))) rfl
  | 24, _ => GW_of (tm5 (List.mem_of_getElem? (i := 137) (by decide +kernel))) rfl
  | 25, _ => GW_of (tm5 (List.mem_of_getElem? (i := 139) (by decide +kernel))) rfl
  | 26, _ => GW_of (tm5 (List.mem_of_getElem? (i := 141) (by decide +kernel))) rfl
  | 27, _ => GW_of (tm5 (List.mem_of_getElem? (i := 143) (by decide +kernel))) rfl
  | 28, _ => GW_of (tm5 (List.mem_of_getElem? (i := 145) (by decide +kernel))) rfl
  | 29, _ => GW_of (tm5 (List.mem_of_getElem? (i := 147) (by decide +kernel))) rfl
  | 30, _ => GW_of (tm5 (List.mem_of_getElem? (i := 149) (by decide +kernel))) rfl
  | 31, _ => GW_of (tm5 (List.mem_of_getElem? (i := 151) (by decide +kernel))) rfl
  | 32, _ => GW_of (tm5 (List.mem_of_getElem? (i := 153) (by decide +kernel))) rfl
  | 33, _ => GW_of (tm5 (List.mem_of_getElem? (i := 155) (by decide +kernel))) rfl
  | 34, _ => GW_of (tm5 (List.mem_of_getElem? (i := 157) (by decide +kernel))) rfl
  | 35, _ => GW_of (tm5 (List.mem_of_getElem? (i := 159) (by decide +kernel))) rfl
  | 36, _ => GW_of (tm5 (List.mem_of_getElem? (i := 161) (by decide +kernel))) rfl
  | 37, _ => GW_of (tm5 (List.mem_of_getElem? (i := 163) (by decide +kernel))) rfl
  | 38, _ => GW_of (tm5 (List.mem_of_getElem? (i := 165) (by decide +kernel))) rfl
  | 39, _ => GW_of (tm5 (List.mem_of_getElem? (i := 167) (by decide +kernel))) rfl
  | 40, _ => GW_of (tm5 (List.mem_of_getElem? (i := 169) (by decide +kernel))) rfl
  | 41, _ => GW_of (tm5 (List.mem_of_getElem? (i := 171) (by decide +kernel))) rfl
  | 42, _ => GW_of (tm5 (List.mem_of_getElem? (i := 173) (by decide +kernel))) rfl
  | 43, _ => GW_of (tm5 (List.mem_of_getElem? (i := 175) (by decide +kernel))) rfl
  | 44, _ => GW_of (tm5 (List.mem_of_getElem? (i := 177) (by decide +kernel))) rfl
  | 45, _ => GW_of (tm5 (List.mem_of_getElem? (i := 179) (by decide +kernel))) rfl
  | 46, _ => GW_of (tm5 (List.mem_of_getElem? (i := 181) (by decide +kernel))) rfl
  | 47, _ => GW_of (tm5 (List.mem_of_getElem? (i := 183) (by decide +kernel))) rfl
  | 48, _ => GW_of (tm5 (List.mem_of_getElem? (i := 185) (by decide +kernel))) rfl
  | 49, _ => GW_of (tm5 (List.mem_of_getElem? (i := 187) (by decide +kernel))) rfl
  | 50, _ => GW_of (tm5 (List.mem_of_getElem? (i := 189) (by decide +kernel))) rfl
  | 51, _ => GW_of (tm5 (List.mem_of_getElem? (i := 191) (by decide +kernel))) rfl
  | 52, _ => GW_of (tm5 (List.mem_of_getElem? (i := 193) (by decide +kernel))) rfl
  | 53, _ => GW_of (tm5 (List.mem_of_getElem? (i := 195) (by decide +kernel))) rfl
  | 54, _ => GW_of (tm5 (List.mem_of_getElem? (i := 197) (by decide +kernel))) rfl
  | k + 55, h => absurd h (Nat.not_lt.mpr (Nat.le_add_left 55 k))
theorem uw_M : ∀ w ∈ u_ws "PlaceFinderModel" T_M 55, w ∈ GW := fun w hw => by
  obtain ⟨k, hk, rfl⟩ := List.mem_map.mp hw
  exact uk_M k (List.mem_range.mp hk)
