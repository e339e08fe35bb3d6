theorem z_in0 {w : Cond} (h : w ∈ k2_sels lw_privs) : w ∈ lw_tbl := List.mem_append_left _ h
theorem z_in1 {w : Cond} (h : w ∈ tables_1_1) : w ∈ lw_tbl := List.mem_append_right _ (List.mem_append_left _ h)
theorem z_in2 {w : Cond} (h : w ∈ tables_1_2) : w ∈ lw_tbl := List.mem_append_right _ (List.mem_append_right _ (List.mem_append_left _ h))
theorem z_in3 {w : Cond} (h : w ∈ tables_1_3) : w ∈ lw_tbl := List.mem_append_right _ (List.mem_append_right _ (List.mem_append_right _ (List.mem_append_left _ h)))
theorem z_in4 {w : Cond} (h : w ∈ tables_1_4) : w ∈ lw_tbl := List.mem_append_right _ (List.mem_append_right _ (List.mem_append_right _ (List.mem_append_right _ (List.mem_append_left _ h))))
theorem z_in5 {w : Cond} (h : w ∈ tables_1_5) : w ∈ lw_tbl := List.mem_append_right _ (List.mem_append_right _ (List.mem_append_right _ (List.mem_append_right _ (List.mem_append_right _ (List.mem_append_left _ h)))))
theorem z_in6 {w : Cond} (h : w ∈ tables_1_6) : w ∈ lw_tbl := List.mem_append_right _ (List.mem_append_right _ (List.mem_append_right _ (List.mem_append_right _ (List.mem_append_right _ (List.mem_append_right _ (List.mem_append_left _ h))))))
theorem z_in7 {w : Cond} (h : w ∈ tables_1_7) : w ∈ lw_tbl := List.mem_append_right _ (List.mem_append_right _ (List.mem_append_right _ (List.mem_append_right _ (List.mem_append_right _ (List.mem_append_right _ (List.mem_append_right _ (List.mem_append_left _ h)))))))
theorem z_in8 {w : Cond} (h : w ∈ tables_1_8) : w ∈ lw_tbl := List.mem_append_right _ (List.mem_append_right _ (List.mem_append_right _ (List.mem_append_right _ (List.mem_append_right _ (List.mem_append_right _ (List.mem_append_right _ (List.mem_append_right _ (List.mem_append_left _ h))))))))
theorem z_in9 {w : Cond} (h : w ∈ tables_1_9) : w ∈ lw_tbl := List.mem_append_right _ (List.mem_append_right _ (List.mem_append_right _ (List.mem_append_right _ (List.mem_append_right _ (List.mem_append_right _ (List.mem_append_right _ (List.mem_append_right _ (List.mem_append_right _ h))))))))
theorem z_g1 {w : Cond} (i : Nat) (h : tables_1_1[i]? = some w) (hg : goodWord w = true) : w ∈ lw_good := List.mem_filter.mpr ⟨z_in1 (List.mem_of_getElem? h), hg⟩
theorem z_n1 {w : Cond} (i : Nat) (h : tables_1_1[i]? = some w) (hg : z_isN w = true) : w ∈ lw_nest := List.mem_filter.mpr ⟨z_in1 (List.mem_of_getElem? h), hg⟩
theorem z_g2 {w : Cond} (i : Nat) (h : tables_1_2[i]? = some w) (hg : goodWord w = true) : w ∈ lw_good := List.mem_filter.mpr ⟨z_in2 (List.mem_of_getElem? h), hg⟩
theorem z_n2 {w : Cond} (i : Nat) (h : tables_1_2[i]? = some w) (hg : z_isN w = true) : w ∈ lw_nest := List.mem_filter.mpr ⟨z_in2 (List.mem_of_getElem? h), hg⟩
theorem z_g3 {w : Cond} (i : Nat) (h : tables_1_3[i]? = some w) (hg : goodWord w = true) : w ∈ lw_good := List.mem_filter.mpr ⟨z_in3 (List.mem_of_getElem? h), hg⟩
theorem z_n3 {w : Cond} (i : Nat) (h : tables_1_3[i]? = some w) (hg : z_isN w = true) : w ∈ lw_nest := List.mem_filter.mpr ⟨z_in3 (List.mem_of_getElem? h), hg⟩
theorem z_g4 {w : Cond} (i : Nat) (h : tables_1_4[i]? = some w) (hg : goodWord w = true) : w ∈ lw_good := List.mem_filter.mpr ⟨z_in4 (List.mem_of_getElem? h), hg⟩
theorem z_n4 {w : Cond} (i : Nat) (h : tables_1_4[i]? = some w) (hg : z_isN w = true) : w ∈ lw_nest := List.mem_filter.mpr ⟨z_in4 (List.mem_of_getElem? h), hg⟩
theorem z_g5 {w : Cond} (i : Nat) (h : tables_1_5[i]? = some w) (hg : goodWord w = true) : w ∈ lw_good := List.mem_filter.mpr ⟨z_in5 (List.mem_of_getElem? h), hg⟩
theorem z_n5 {w : Cond} (i : Nat) (h : tables_1_5[i]? = some w) (hg : z_isN w = true) : w ∈ lw_nest := List.mem_filter.mpr ⟨z_in5 (List.mem_of_getElem? h), hg⟩
theorem z_g6 {w : Cond} (i : Nat) (h : tables_1_6[i]? = some w) (hg : goodWord w = true) : w ∈ lw_good := List.mem_filter.mpr ⟨z_in6 (List.mem_of_getElem? h), hg⟩
theorem z_n6 {w : Cond} (i : Nat) (h : tables_1_6[i]? = some w) (hg : z_isN w = true) : w ∈ lw_nest := List.mem_filter.mpr ⟨z_in6 (List.mem_of_getElem? h), hg⟩
theorem z_g7 {w : Cond} (i : Nat) (h : tables_1_7[i]? = some w) (hg : goodWord w = true) : w ∈ lw_good := List.mem_filter.mpr ⟨z_in7 (List.mem_of_getElem? h), hg⟩
theorem z_n7 {w : Cond} (i : Nat) (h : tables_1_7[i]? = some w) (hg : z_isN w = true) : w ∈ lw_nest := List.mem_filter.mpr ⟨z_in7 (List.mem_of_getElem? h), hg⟩
theorem z_g8 {w : Cond} (i : Nat) (h : tables_1_8[i]? = some w) (hg : goodWord w = true) : w ∈ lw_good := List.mem_filter.mpr ⟨z_in8 (List.mem_of_getElem? h), hg⟩
theorem z_n8 {w : Cond} (i : Nat) (h : tables_1_8[i]? = some w) (hg : z_isN w = true) : w ∈ lw_nest := List.mem_filter.mpr ⟨z_in8 (List.mem_of_getElem? h), hg⟩
theorem z_g9 {w : Cond} (i : Nat) (h : tables_1_9[i]? = some w) (hg : goodWord w = true) : w ∈ lw_good := List.mem_filter.mpr ⟨z_in9 (List.mem_of_getElem? h), hg⟩
theorem z_n9 {w : Cond} (i : Nat) (h : tables_1_9[i]? = some w) (hg : z_isN w = true) : w ∈ lw_nest := List.mem_filter.mpr ⟨z_in9 (List.mem_of_getElem? h), hg⟩
theorem z_g0 {w : Cond} (i : Nat) (h : (k2_sels lw_privs)[i]? = some w) (hg : goodWord w = true) : w ∈ lw_good := List.mem_filter.mpr ⟨z_in0 (List.mem_of_getElem? h), hg⟩
theorem wg_0 : Cond.selects "PatternHouse" ⟨"PatternHouse", "refuse", "(I)I"⟩ ⟨"PatternHouse", "refuse", "(I)I"⟩ ∈ lw_good := z_g0 0 rfl rfl
theorem wg_1 : Cond.selects "PatternHouse" ⟨"PatternHouse", "numberOn", "(III)I"⟩ ⟨"PatternHouse", "numberOn", "(III)I"⟩ ∈ lw_good := z_g0 1 rfl rfl
theorem wg_2 : Cond.selects "PatternHouse" ⟨"PatternHouse", "bodyOf", "(I)LPatternHouse$Body;"⟩ ⟨"PatternHouse", "bodyOf", "(I)LPatternHouse$Body;"⟩ ∈ lw_good := z_g0 2 rfl rfl
theorem wg_3 : Cond.selects "PatternHouse" ⟨"PatternHouse", "refuseApart", "(I)I"⟩ ⟨"PatternHouse", "refuseApart", "(I)I"⟩ ∈ lw_good := z_g0 3 rfl rfl
theorem wg_4 : Cond.selects "PatternHouse" ⟨"PatternHouse", "countsNow", "(LPatternHouse$Body;I)I"⟩ ⟨"PatternHouse", "countsNow", "(LPatternHouse$Body;I)I"⟩ ∈ lw_good := z_g0 4 rfl rfl
theorem wg_5 : Cond.selects "PatternHouse" ⟨"PatternHouse", "pieceOf", "(I)LPatternHouse$Piece;"⟩ ⟨"PatternHouse", "pieceOf", "(I)LPatternHouse$Piece;"⟩ ∈ lw_good := z_g0 5 rfl rfl
theorem wg_6 : Cond.selects "PatternHouse" ⟨"PatternHouse", "pieceWith", "(II)LPatternHouse$Piece;"⟩ ⟨"PatternHouse", "pieceWith", "(II)LPatternHouse$Piece;"⟩ ∈ lw_good := z_g0 6 rfl rfl
theorem wg_7 : Cond.selects "PatternHouse$RuleText" ⟨"PatternHouse$RuleText", "readSum", "(I)Z"⟩ ⟨"PatternHouse$RuleText", "readSum", "(I)Z"⟩ ∈ lw_good := z_g0 7 rfl rfl
theorem wg_8 : Cond.selects "PatternHouse$RuleText" ⟨"PatternHouse$RuleText", "readTerm", "(I)Z"⟩ ⟨"PatternHouse$RuleText", "readTerm", "(I)Z"⟩ ∈ lw_good := z_g0 8 rfl rfl
theorem wg_9 : Cond.selects "PatternHouse$RuleText" ⟨"PatternHouse$RuleText", "readUnit", "(I)Z"⟩ ⟨"PatternHouse$RuleText", "readUnit", "(I)Z"⟩ ∈ lw_good := z_g0 9 rfl rfl
theorem wg_10 : Cond.selects "PatternHouse$RuleText" ⟨"PatternHouse$RuleText", "next", "()I"⟩ ⟨"PatternHouse$RuleText", "next", "()I"⟩ ∈ lw_good := z_g0 10 rfl rfl
theorem wg_11 : Cond.selects "PatternHouse$RuleText" ⟨"PatternHouse$RuleText", "readNumber", "()Z"⟩ ⟨"PatternHouse$RuleText", "readNumber", "()Z"⟩ ∈ lw_good := z_g0 11 rfl rfl
theorem wg_12 : Cond.selects "PatternHouse$RuleText" ⟨"PatternHouse$RuleText", "emit", "(I)Z"⟩ ⟨"PatternHouse$RuleText", "emit", "(I)Z"⟩ ∈ lw_good := z_g0 12 rfl rfl
theorem wg_13 : Cond.selects "PatternHouse$RuleText" ⟨"PatternHouse$RuleText", "failHere", "()Z"⟩ ⟨"PatternHouse$RuleText", "failHere", "()Z"⟩ ∈ lw_good := z_g0 13 rfl rfl
theorem wg_14 : Cond.selects "PatternHouse$RuleText" ⟨"PatternHouse$RuleText", "readPoint", "(I)Z"⟩ ⟨"PatternHouse$RuleText", "readPoint", "(I)Z"⟩ ∈ lw_good := z_g0 14 rfl rfl
theorem wg_15 : Cond.selects "PatternHouse$RuleText" ⟨"PatternHouse$RuleText", "readBracket", "(I)Z"⟩ ⟨"PatternHouse$RuleText", "readBracket", "(I)Z"⟩ ∈ lw_good := z_g0 15 rfl rfl
theorem wg_16 : Cond.selects "PatternHouse$Drawing" ⟨"PatternHouse$Drawing", "nameOne", "(LPatternHouse$Piece;I)V"⟩ ⟨"PatternHouse$Drawing", "nameOne", "(LPatternHouse$Piece;I)V"⟩ ∈ lw_good := z_g0 16 rfl rfl
theorem wg_17 : Cond.selects "PatternHouse$Drawing" ⟨"PatternHouse$Drawing", "namedIn", "([I)I"⟩ ⟨"PatternHouse$Drawing", "namedIn", "([I)I"⟩ ∈ lw_good := z_g0 17 rfl rfl
theorem wg_18 : Cond.selects "PatternHouse$Body" ⟨"PatternHouse$Body", "alteredSpot", "(II)I"⟩ ⟨"PatternHouse$Body", "alteredSpot", "(II)I"⟩ ∈ lw_good := z_g0 18 rfl rfl
theorem wg_19 : Cond.selects "PatternHouse" ⟨"PatternHouse", "drawAt", "(II)V"⟩ ⟨"PatternHouse", "drawAt", "(II)V"⟩ ∈ lw_good := z_g0 19 rfl rfl
theorem wg_20 : Cond.selects "PatternHouse$Drawing" ⟨"PatternHouse$Drawing", "drawOne", "(LPatternHouse$Piece;)V"⟩ ⟨"PatternHouse$Drawing", "drawOne", "(LPatternHouse$Piece;)V"⟩ ∈ lw_good := z_g0 20 rfl rfl
theorem wg_21 : Cond.selects "PatternHouse$Drawing" ⟨"PatternHouse$Drawing", "takeFromRule", "(LPatternHouse$Rule;I)Z"⟩ ⟨"PatternHouse$Drawing", "takeFromRule", "(LPatternHouse$Rule;I)Z"⟩ ∈ lw_good := z_g0 21 rfl rfl
theorem wg_22 : Cond.selects "PatternHouse$Drawing" ⟨"PatternHouse$Drawing", "valueOf", "([I)J"⟩ ⟨"PatternHouse$Drawing", "valueOf", "([I)J"⟩ ∈ lw_good := z_g0 22 rfl rfl
theorem wg_23 : Cond.selects "PatternHouse$Drawing" ⟨"PatternHouse$Drawing", "unitOf", "(I)J"⟩ ⟨"PatternHouse$Drawing", "unitOf", "(I)J"⟩ ∈ lw_good := z_g0 23 rfl rfl
theorem wg_24 : Cond.selects "PatternHouse$Drawing" ⟨"PatternHouse$Drawing", "takeFromBlock", "(LPatternHouse$Piece;I)Z"⟩ ⟨"PatternHouse$Drawing", "takeFromBlock", "(LPatternHouse$Piece;I)Z"⟩ ∈ lw_good := z_g0 24 rfl rfl
theorem wg_25 : Cond.selects "PatternHouse" ⟨"PatternHouse", "drawFor", "(LPatternHouse$Body;)V"⟩ ⟨"PatternHouse", "drawFor", "(LPatternHouse$Body;)V"⟩ ∈ lw_good := z_g0 25 rfl rfl
theorem wg_26 : Cond.selects "PatternHouse" ⟨"PatternHouse", "seamOf", "(I)LPatternHouse$Seam;"⟩ ⟨"PatternHouse", "seamOf", "(I)LPatternHouse$Seam;"⟩ ∈ lw_good := z_g0 26 rfl rfl
theorem wg_27 : Cond.selects "PatternHouse" ⟨"PatternHouse", "seamRefused", "(III)I"⟩ ⟨"PatternHouse", "seamRefused", "(III)I"⟩ ∈ lw_good := z_g0 27 rfl rfl
theorem wg_28 : Cond.selects "PatternHouse" ⟨"PatternHouse", "measureSides", "(LPatternHouse$Seam;)Z"⟩ ⟨"PatternHouse", "measureSides", "(LPatternHouse$Seam;)Z"⟩ ∈ lw_good := z_g0 28 rfl rfl
theorem wg_29 : Cond.selects "PatternHouse$Seam" ⟨"PatternHouse$Seam", "isWell", "(I)Z"⟩ ⟨"PatternHouse$Seam", "isWell", "(I)Z"⟩ ∈ lw_good := z_g0 29 rfl rfl
theorem wg_30 : Cond.selects "PatternHouse" ⟨"PatternHouse", "isWrong", "(LPatternHouse$Seam;)Z"⟩ ⟨"PatternHouse", "isWrong", "(LPatternHouse$Seam;)Z"⟩ ∈ lw_good := z_g0 30 rfl rfl
theorem wg_31 : Cond.selects "PatternHouse$Conditions" ⟨"PatternHouse$Conditions", "solveOne", "(II)Z"⟩ ⟨"PatternHouse$Conditions", "solveOne", "(II)Z"⟩ ∈ lw_good := z_g0 31 rfl rfl
theorem wg_32 : Cond.selects "PatternHouse$Conditions" ⟨"PatternHouse$Conditions", "product", "(II)J"⟩ ⟨"PatternHouse$Conditions", "product", "(II)J"⟩ ∈ lw_good := z_g0 32 rfl rfl
theorem wg_33 : Cond.selects "PatternHouse$Conditions" ⟨"PatternHouse$Conditions", "setFraction", "(JJ)V"⟩ ⟨"PatternHouse$Conditions", "setFraction", "(JJ)V"⟩ ∈ lw_good := z_g0 33 rfl rfl
theorem wg_34 : Cond.selects "PatternHouse$Conditions" ⟨"PatternHouse$Conditions", "agree", "(JJ)Z"⟩ ⟨"PatternHouse$Conditions", "agree", "(JJ)Z"⟩ ∈ lw_good := z_g0 34 rfl rfl
theorem wg_35 : Cond.selects "PatternHouse$Shape" ⟨"PatternHouse$Shape", "spans", "(LPatternHouse$Drawing;LPatternHouse$Piece;I)Z"⟩ ⟨"PatternHouse$Shape", "spans", "(LPatternHouse$Drawing;LPatternHouse$Piece;I)Z"⟩ ∈ lw_good := z_g0 35 rfl rfl
theorem wg_36 : Cond.selects "PatternHouse$Shape" ⟨"PatternHouse$Shape", "cross", "(IIIII)V"⟩ ⟨"PatternHouse$Shape", "cross", "(IIIII)V"⟩ ∈ lw_good := z_g0 36 rfl rfl
theorem wg_37 : Cond.selects "PatternHouse$Shape" ⟨"PatternHouse$Shape", "moveHome", "()V"⟩ ⟨"PatternHouse$Shape", "moveHome", "()V"⟩ ∈ lw_good := z_g0 37 rfl rfl
theorem wg_38 : Cond.selects "PatternHouse$Shape" ⟨"PatternHouse$Shape", "turn", "()V"⟩ ⟨"PatternHouse$Shape", "turn", "()V"⟩ ∈ lw_good := z_g0 38 rfl rfl
theorem wg_39 : Cond.selects "PatternHouse" ⟨"PatternHouse", "layingRefused", "()I"⟩ ⟨"PatternHouse", "layingRefused", "()I"⟩ ∈ lw_good := z_g0 39 rfl rfl
theorem wg_40 : Cond.selects "PatternHouse" ⟨"PatternHouse", "shapesStand", "()Z"⟩ ⟨"PatternHouse", "shapesStand", "()Z"⟩ ∈ lw_good := z_g0 40 rfl rfl
theorem wg_41 : Cond.selects "PatternHouse$Laying" ⟨"PatternHouse$Laying", "layNext", "(III)V"⟩ ⟨"PatternHouse$Laying", "layNext", "(III)V"⟩ ∈ lw_good := z_g0 41 rfl rfl
theorem wg_42 : Cond.selects "PatternHouse$Laying" ⟨"PatternHouse$Laying", "keepBest", "(I)V"⟩ ⟨"PatternHouse$Laying", "keepBest", "(I)V"⟩ ∈ lw_good := z_g0 42 rfl rfl
theorem wg_43 : Cond.selects "PatternHouse$Laying" ⟨"PatternHouse$Laying", "findPlace", "(I)Z"⟩ ⟨"PatternHouse$Laying", "findPlace", "(I)Z"⟩ ∈ lw_good := z_g0 43 rfl rfl
theorem wg_44 : Cond.selects "PatternHouse$Laying" ⟨"PatternHouse$Laying", "isFree", "(I)Z"⟩ ⟨"PatternHouse$Laying", "isFree", "(I)Z"⟩ ∈ lw_good := z_g0 44 rfl rfl
theorem wg_45 : Cond.selects "PatternHouse$Laying" ⟨"PatternHouse$Laying", "cellsOf", "(I)[I"⟩ ⟨"PatternHouse$Laying", "cellsOf", "(I)[I"⟩ ∈ lw_good := z_g0 45 rfl rfl
theorem wg_46 : Cond.selects "PatternHouse$Laying" ⟨"PatternHouse$Laying", "flip", "(I)V"⟩ ⟨"PatternHouse$Laying", "flip", "(I)V"⟩ ∈ lw_good := z_g0 46 rfl rfl
theorem wg_47 : Cond.selects "PatternHouse$Laying" ⟨"PatternHouse$Laying", "liesWell", "(I)Z"⟩ ⟨"PatternHouse$Laying", "liesWell", "(I)Z"⟩ ∈ lw_good := z_g0 47 rfl rfl
theorem wg_48 : Cond.selects "PatternHouse" ⟨"PatternHouse", "editionOf", "(I)LPatternHouse$Edition;"⟩ ⟨"PatternHouse", "editionOf", "(I)LPatternHouse$Edition;"⟩ ∈ lw_good := z_g0 48 rfl rfl
theorem wg_49 : Cond.selects "PatternHouse" ⟨"PatternHouse", "agrees", "(LPatternHouse$Edition;I)Z"⟩ ⟨"PatternHouse", "agrees", "(LPatternHouse$Edition;I)Z"⟩ ∈ lw_good := z_g0 49 rfl rfl
theorem wg_50 : Cond.selects "PatternHouse$Season" ⟨"PatternHouse$Season", "tryMarker", "(II)V"⟩ ⟨"PatternHouse$Season", "tryMarker", "(II)V"⟩ ∈ lw_good := z_g0 50 rfl rfl
theorem wg_51 : Cond.selects "PatternHouse$Season" ⟨"PatternHouse$Season", "leastMore", "(I)I"⟩ ⟨"PatternHouse$Season", "leastMore", "(I)I"⟩ ∈ lw_good := z_g0 51 rfl rfl
theorem wg_52 : Cond.selects "PatternHouse$Season" ⟨"PatternHouse$Season", "leastFor", "(II)I"⟩ ⟨"PatternHouse$Season", "leastFor", "(II)I"⟩ ∈ lw_good := z_g0 52 rfl rfl
theorem wg_53 : Cond.selects "PatternHouse$Season" ⟨"PatternHouse$Season", "changeLacks", "(II)V"⟩ ⟨"PatternHouse$Season", "changeLacks", "(II)V"⟩ ∈ lw_good := z_g0 53 rfl rfl
theorem wg_54 : Cond.selects "PatternHouseModel" ⟨"PatternHouseModel", "refuse", "(I)I"⟩ ⟨"PatternHouseModel", "refuse", "(I)I"⟩ ∈ lw_good := z_g0 54 rfl rfl
theorem wg_55 : Cond.selects "PatternHouseModel" ⟨"PatternHouseModel", "tabledOn", "(III)I"⟩ ⟨"PatternHouseModel", "tabledOn", "(III)I"⟩ ∈ lw_good := z_g0 55 rfl rfl
theorem wg_56 : Cond.selects "PatternHouseModel" ⟨"PatternHouseModel", "isBody", "(I)Z"⟩ ⟨"PatternHouseModel", "isBody", "(I)Z"⟩ ∈ lw_good := z_g0 56 rfl rfl
theorem wg_57 : Cond.selects "PatternHouseModel" ⟨"PatternHouseModel", "refuseFar", "(I)I"⟩ ⟨"PatternHouseModel", "refuseFar", "(I)I"⟩ ∈ lw_good := z_g0 57 rfl rfl
theorem wg_58 : Cond.selects "PatternHouseModel" ⟨"PatternHouseModel", "measuredOf", "(II)I"⟩ ⟨"PatternHouseModel", "measuredOf", "(II)I"⟩ ∈ lw_good := z_g0 58 rfl rfl
theorem wg_59 : Cond.selects "PatternHouseModel" ⟨"PatternHouseModel", "isPiece", "(I)Z"⟩ ⟨"PatternHouseModel", "isPiece", "(I)Z"⟩ ∈ lw_good := z_g0 59 rfl rfl
theorem wg_60 : Cond.selects "PatternHouseModel" ⟨"PatternHouseModel", "isPoint", "(II)Z"⟩ ⟨"PatternHouseModel", "isPoint", "(II)Z"⟩ ∈ lw_good := z_g0 60 rfl rfl
theorem wg_61 : Cond.selects "PatternHouseModel" ⟨"PatternHouseModel", "readText", "()V"⟩ ⟨"PatternHouseModel", "readText", "()V"⟩ ∈ lw_good := z_g0 61 rfl rfl
theorem wg_62 : Cond.selects "PatternHouseModel" ⟨"PatternHouseModel", "readSum", "()I"⟩ ⟨"PatternHouseModel", "readSum", "()I"⟩ ∈ lw_good := z_g0 62 rfl rfl
theorem wg_63 : Cond.selects "PatternHouseModel" ⟨"PatternHouseModel", "readUnit", "()Z"⟩ ⟨"PatternHouseModel", "readUnit", "()Z"⟩ ∈ lw_good := z_g0 63 rfl rfl
theorem wg_64 : Cond.selects "PatternHouseModel" ⟨"PatternHouseModel", "here", "()I"⟩ ⟨"PatternHouseModel", "here", "()I"⟩ ∈ lw_good := z_g0 64 rfl rfl
theorem wg_65 : Cond.selects "PatternHouseModel" ⟨"PatternHouseModel", "opens", "(I)V"⟩ ⟨"PatternHouseModel", "opens", "(I)V"⟩ ∈ lw_good := z_g0 65 rfl rfl
theorem wg_66 : Cond.selects "PatternHouseModel" ⟨"PatternHouseModel", "push", "(J)V"⟩ ⟨"PatternHouseModel", "push", "(J)V"⟩ ∈ lw_good := z_g0 66 rfl rfl
theorem wg_67 : Cond.selects "PatternHouseModel" ⟨"PatternHouseModel", "readSign", "()Z"⟩ ⟨"PatternHouseModel", "readSign", "()Z"⟩ ∈ lw_good := z_g0 67 rfl rfl
theorem wg_68 : Cond.selects "PatternHouseModel" ⟨"PatternHouseModel", "workTimes", "()V"⟩ ⟨"PatternHouseModel", "workTimes", "()V"⟩ ∈ lw_good := z_g0 68 rfl rfl
theorem wg_69 : Cond.selects "PatternHouseModel" ⟨"PatternHouseModel", "topSign", "()I"⟩ ⟨"PatternHouseModel", "topSign", "()I"⟩ ∈ lw_good := z_g0 69 rfl rfl
theorem wg_70 : Cond.selects "PatternHouseModel" ⟨"PatternHouseModel", "work", "()V"⟩ ⟨"PatternHouseModel", "work", "()V"⟩ ∈ lw_good := z_g0 70 rfl rfl
theorem wg_71 : Cond.selects "PatternHouseModel" ⟨"PatternHouseModel", "workAll", "()V"⟩ ⟨"PatternHouseModel", "workAll", "()V"⟩ ∈ lw_good := z_g0 71 rfl rfl
theorem wg_72 : Cond.selects "PatternHouseModel" ⟨"PatternHouseModel", "wrongPoint", "(III)I"⟩ ⟨"PatternHouseModel", "wrongPoint", "(III)I"⟩ ∈ lw_good := z_g0 72 rfl rfl
theorem wg_73 : Cond.selects "PatternHouseModel" ⟨"PatternHouseModel", "ruleOn", "(III)I"⟩ ⟨"PatternHouseModel", "ruleOn", "(III)I"⟩ ∈ lw_good := z_g0 73 rfl rfl
theorem wg_74 : Cond.selects "PatternHouseModel" ⟨"PatternHouseModel", "readRule", "(I)V"⟩ ⟨"PatternHouseModel", "readRule", "(I)V"⟩ ∈ lw_good := z_g0 74 rfl rfl
theorem wg_75 : Cond.selects "PatternHouseModel" ⟨"PatternHouseModel", "wrongDrawn", "(III)I"⟩ ⟨"PatternHouseModel", "wrongDrawn", "(III)I"⟩ ∈ lw_good := z_g0 75 rfl rfl
theorem wg_76 : Cond.selects "PatternHouseModel" ⟨"PatternHouseModel", "draw", "(IIII)Z"⟩ ⟨"PatternHouseModel", "draw", "(IIII)Z"⟩ ∈ lw_good := z_g0 76 rfl rfl
theorem wg_77 : Cond.selects "PatternHouseModel" ⟨"PatternHouseModel", "drawOne", "(IIIIZ)Z"⟩ ⟨"PatternHouseModel", "drawOne", "(IIIIZ)Z"⟩ ∈ lw_good := z_g0 77 rfl rfl
theorem wg_78 : Cond.selects "PatternHouseModel" ⟨"PatternHouseModel", "drawFor", "(II)Z"⟩ ⟨"PatternHouseModel", "drawFor", "(II)Z"⟩ ∈ lw_good := z_g0 78 rfl rfl
theorem wg_79 : Cond.selects "PatternHouseModel" ⟨"PatternHouseModel", "lengthOf", "(III)I"⟩ ⟨"PatternHouseModel", "lengthOf", "(III)I"⟩ ∈ lw_good := z_g0 79 rfl rfl
theorem wg_80 : Cond.selects "PatternHouseModel" ⟨"PatternHouseModel", "findWays", "(I)V"⟩ ⟨"PatternHouseModel", "findWays", "(I)V"⟩ ∈ lw_good := z_g0 80 rfl rfl
theorem wg_81 : Cond.selects "PatternHouseModel" ⟨"PatternHouseModel", "areaOf", "(I)J"⟩ ⟨"PatternHouseModel", "areaOf", "(I)J"⟩ ∈ lw_good := z_g0 81 rfl rfl
theorem wg_82 : Cond.selects "PatternHouseModel" ⟨"PatternHouseModel", "isSeam", "(I)Z"⟩ ⟨"PatternHouseModel", "isSeam", "(I)Z"⟩ ∈ lw_good := z_g0 82 rfl rfl
theorem wg_83 : Cond.selects "PatternHouseModel" ⟨"PatternHouseModel", "wrongSeam", "(III)I"⟩ ⟨"PatternHouseModel", "wrongSeam", "(III)I"⟩ ∈ lw_good := z_g0 83 rfl rfl
theorem wg_84 : Cond.selects "PatternHouseModel" ⟨"PatternHouseModel", "doesMeet", "(I)Z"⟩ ⟨"PatternHouseModel", "doesMeet", "(I)Z"⟩ ∈ lw_good := z_g0 84 rfl rfl
theorem wg_85 : Cond.selects "PatternHouseModel" ⟨"PatternHouseModel", "lostOf", "(I)I"⟩ ⟨"PatternHouseModel", "lostOf", "(I)I"⟩ ∈ lw_good := z_g0 85 rfl rfl
theorem wg_86 : Cond.selects "PatternHouseModel" ⟨"PatternHouseModel", "findLeast", "()Z"⟩ ⟨"PatternHouseModel", "findLeast", "()Z"⟩ ∈ lw_good := z_g0 86 rfl rfl
theorem wg_87 : Cond.selects "PatternHouseModel" ⟨"PatternHouseModel", "product", "(II)J"⟩ ⟨"PatternHouseModel", "product", "(II)J"⟩ ∈ lw_good := z_g0 87 rfl rfl
theorem wg_88 : Cond.selects "PatternHouseModel" ⟨"PatternHouseModel", "leastOfOne", "(I)V"⟩ ⟨"PatternHouseModel", "leastOfOne", "(I)V"⟩ ∈ lw_good := z_g0 88 rfl rfl
theorem wg_89 : Cond.selects "PatternHouseModel" ⟨"PatternHouseModel", "findCells", "(I)I"⟩ ⟨"PatternHouseModel", "findCells", "(I)I"⟩ ∈ lw_good := z_g0 89 rfl rfl
theorem wg_90 : Cond.selects "PatternHouseModel" ⟨"PatternHouseModel", "isInside", "(JJ)Z"⟩ ⟨"PatternHouseModel", "isInside", "(JJ)Z"⟩ ∈ lw_good := z_g0 90 rfl rfl
theorem wg_91 : Cond.selects "PatternHouseModel" ⟨"PatternHouseModel", "shortestOr", "()I"⟩ ⟨"PatternHouseModel", "shortestOr", "()I"⟩ ∈ lw_good := z_g0 91 rfl rfl
theorem wg_92 : Cond.selects "PatternHouseModel" ⟨"PatternHouseModel", "findMarker", "()Z"⟩ ⟨"PatternHouseModel", "findMarker", "()Z"⟩ ∈ lw_good := z_g0 92 rfl rfl
theorem wg_93 : Cond.selects "PatternHouseModel" ⟨"PatternHouseModel", "findShortest", "()I"⟩ ⟨"PatternHouseModel", "findShortest", "()I"⟩ ∈ lw_good := z_g0 93 rfl rfl
theorem wg_94 : Cond.selects "PatternHouseModel" ⟨"PatternHouseModel", "findTurned", "()V"⟩ ⟨"PatternHouseModel", "findTurned", "()V"⟩ ∈ lw_good := z_g0 94 rfl rfl
theorem wg_95 : Cond.selects "PatternHouseModel" ⟨"PatternHouseModel", "findOrder", "(I)V"⟩ ⟨"PatternHouseModel", "findOrder", "(I)V"⟩ ∈ lw_good := z_g0 95 rfl rfl
theorem wg_96 : Cond.selects "PatternHouseModel" ⟨"PatternHouseModel", "clearCloth", "()V"⟩ ⟨"PatternHouseModel", "clearCloth", "()V"⟩ ∈ lw_good := z_g0 96 rfl rfl
theorem wg_97 : Cond.selects "PatternHouseModel" ⟨"PatternHouseModel", "layFirst", "(I)Z"⟩ ⟨"PatternHouseModel", "layFirst", "(I)Z"⟩ ∈ lw_good := z_g0 97 rfl rfl
theorem wg_98 : Cond.selects "PatternHouseModel" ⟨"PatternHouseModel", "canLie", "(IIII)Z"⟩ ⟨"PatternHouseModel", "canLie", "(IIII)Z"⟩ ∈ lw_good := z_g0 98 rfl rfl
theorem wg_99 : Cond.selects "PatternHouseModel" ⟨"PatternHouseModel", "lie", "(IIII)V"⟩ ⟨"PatternHouseModel", "lie", "(IIII)V"⟩ ∈ lw_good := z_g0 99 rfl rfl
theorem wg_100 : Cond.selects "PatternHouseModel" ⟨"PatternHouseModel", "longOf", "()I"⟩ ⟨"PatternHouseModel", "longOf", "()I"⟩ ∈ lw_good := z_g0 100 rfl rfl
theorem wg_101 : Cond.selects "PatternHouseModel" ⟨"PatternHouseModel", "isEdition", "(I)Z"⟩ ⟨"PatternHouseModel", "isEdition", "(I)Z"⟩ ∈ lw_good := z_g0 101 rfl rfl
theorem wg_102 : Cond.selects "PatternHouseModel" ⟨"PatternHouseModel", "agrees", "(II)Z"⟩ ⟨"PatternHouseModel", "agrees", "(II)Z"⟩ ∈ lw_good := z_g0 102 rfl rfl
theorem wg_103 : Cond.selects "PatternHouseModel" ⟨"PatternHouseModel", "findSeason", "()I"⟩ ⟨"PatternHouseModel", "findSeason", "()I"⟩ ∈ lw_good := z_g0 103 rfl rfl
theorem wg_104 : Cond.selects "PatternHouseModel" ⟨"PatternHouseModel", "allMet", "()Z"⟩ ⟨"PatternHouseModel", "allMet", "()Z"⟩ ∈ lw_good := z_g0 104 rfl rfl
theorem wg_105 : (Cond.initialized "PatternHouseLaw") ∈ lw_good := z_g1 0 rfl rfl
theorem wg_106 : (Cond.initialized "PatternHouse") ∈ lw_good := z_g1 1 rfl rfl
theorem wg_107 : (Cond.initialized "PatternHouse$RuleText") ∈ lw_good := z_g1 2 rfl rfl
theorem wg_108 : (Cond.initialized "PatternHouse$Drawing") ∈ lw_good := z_g1 3 rfl rfl
theorem wg_109 : (Cond.initialized "PatternHouse$Conditions") ∈ lw_good := z_g1 4 rfl rfl
theorem wg_110 : (Cond.initialized "PatternHouse$Laying") ∈ lw_good := z_g1 5 rfl rfl
theorem wg_111 : (Cond.initialized "PatternHouse$Shape") ∈ lw_good := z_g1 6 rfl rfl
theorem wg_112 : (Cond.initialized "PatternHouse$Season") ∈ lw_good := z_g1 7 rfl rfl
theorem wg_113 : (Cond.initialized "PatternHouseModel") ∈ lw_good := z_g1 8 rfl rfl
theorem wg_114 : (Cond.initialized "PatternHouse$Telling") ∈ lw_good := z_g1 9 rfl rfl
theorem wg_115 : (Cond.initialized "PatternHouse$Body") ∈ lw_good := z_g1 10 rfl rfl
theorem wg_116 : (Cond.initialized "PatternHouse$Piece") ∈ lw_good := z_g1 11 rfl rfl
theorem wg_117 : (Cond.initialized "PatternHouse$Rule") ∈ lw_good := z_g1 12 rfl rfl
theorem wg_118 : (Cond.initialized "java/util/Arrays") ∈ lw_good := z_g1 13 rfl rfl
theorem wg_119 : (Cond.initialized "java/lang/Math") ∈ lw_good := z_g1 14 rfl rfl
theorem wg_120 : (Cond.initialized "java/lang/System") ∈ lw_good := z_g1 15 rfl rfl
theorem wg_121 : (Cond.initialized "PatternHouse$Seam") ∈ lw_good := z_g1 16 rfl rfl
theorem wg_122 : (Cond.initialized "java/lang/Integer") ∈ lw_good := z_g1 17 rfl rfl
theorem wg_123 : (Cond.initialized "PatternHouse$Edition") ∈ lw_good := z_g1 18 rfl rfl
theorem wg_124 : (Cond.classLink "PatternHouseLaw" (7 : Nat) "PatternHouse") ∈ lw_good := z_g1 19 rfl rfl
theorem wg_125 : (Cond.instantiable "PatternHouse" (20 : Nat)) ∈ lw_good := z_g1 20 rfl rfl
theorem wg_126 : (Cond.methodLink "PatternHouseLaw" (9 : Nat) ({ cls := "PatternHouse", name := "<init>", desc := "()V" } : MethodName)) ∈ lw_good := z_g1 21 rfl rfl
theorem wg_127 : (Cond.instanceMethod ({ cls := "PatternHouse", name := "<init>", desc := "()V" } : MethodName)) ∈ lw_good := z_g1 22 rfl rfl
theorem wg_128 : (Cond.code ({ cls := "PatternHouse", name := "<init>", desc := "()V" } : MethodName) prog_1_method_1_code (1 : Nat) (Option.none : Option FieldType)) ∈ lw_good := z_g1 23 rfl rfl
theorem wg_129 : (Cond.methodLink "PatternHouse" (1 : Nat) ({ cls := "java/lang/Object", name := "<init>", desc := "()V" } : MethodName)) ∈ lw_good := z_g1 24 rfl rfl
theorem wg_130 : (Cond.instanceMethod ({ cls := "java/lang/Object", name := "<init>", desc := "()V" } : MethodName)) ∈ lw_good := z_g1 25 rfl rfl
theorem wg_131 : (Cond.code ({ cls := "java/lang/Object", name := "<init>", desc := "()V" } : MethodName) object_method_1_code (1 : Nat) (Option.none : Option FieldType)) ∈ lw_good := z_g1 26 rfl rfl
theorem wg_132 : (Cond.classLink "PatternHouse" (13 : Nat) "PatternHouse$Telling") ∈ lw_good := z_g1 27 rfl rfl
theorem wn_133 : (Cond.arrayOver (FieldType.object "PatternHouse$Telling")) ∈ lw_nest := z_n1 28 rfl rfl
theorem wg_134 : (Cond.classLink "PatternHouse" (19 : Nat) "PatternHouse$Body") ∈ lw_good := z_g1 29 rfl rfl
theorem wn_135 : (Cond.arrayOver (FieldType.object "PatternHouse$Body")) ∈ lw_nest := z_n1 30 rfl rfl
theorem wg_136 : (Cond.classLink "PatternHouse" (25 : Nat) "PatternHouse$Piece") ∈ lw_good := z_g1 31 rfl rfl
theorem wn_137 : (Cond.arrayOver (FieldType.object "PatternHouse$Piece")) ∈ lw_nest := z_n1 32 rfl rfl
theorem wg_138 : (Cond.classLink "PatternHouse" (31 : Nat) "PatternHouse$RuleText") ∈ lw_good := z_g1 33 rfl rfl
theorem wg_139 : (Cond.instantiable "PatternHouse$RuleText" (8 : Nat)) ∈ lw_good := z_g1 34 rfl rfl
theorem wn_140 : (Cond.methodLinkNest "PatternHouse" (33 : Nat) ({ cls := "PatternHouse$RuleText", name := "<init>", desc := "()V" } : MethodName) "PatternHouse") ∈ lw_nest := z_n1 35 rfl rfl
theorem wg_141 : (Cond.instanceMethod ({ cls := "PatternHouse$RuleText", name := "<init>", desc := "()V" } : MethodName)) ∈ lw_good := z_g1 36 rfl rfl
theorem wg_142 : (Cond.code ({ cls := "PatternHouse$RuleText", name := "<init>", desc := "()V" } : MethodName) prog_9_method_1_code (1 : Nat) (Option.none : Option FieldType)) ∈ lw_good := z_g1 37 rfl rfl
theorem wg_143 : (Cond.methodLink "PatternHouse$RuleText" (3 : Nat) ({ cls := "java/lang/Object", name := "<init>", desc := "()V" } : MethodName)) ∈ lw_good := z_g1 38 rfl rfl
theorem wg_144 : (Cond.fieldLink "PatternHouse$RuleText" (9 : Nat) "PatternHouse$RuleText" "bytes" "[I") ∈ lw_good := z_g1 39 rfl rfl
theorem wg_145 : (Cond.fieldLink "PatternHouse$RuleText" (18 : Nat) "PatternHouse$RuleText" "size" "I") ∈ lw_good := z_g1 40 rfl rfl
theorem wn_146 : (Cond.fieldLinkNest "PatternHouse" (154 : Nat) "PatternHouse$RuleText" "size" "I" "PatternHouse") ∈ lw_nest := z_n1 41 rfl rfl
theorem wg_147 : (Cond.fieldLink "PatternHouse$RuleText" (22 : Nat) "PatternHouse$RuleText" "fault" "I") ∈ lw_good := z_g1 42 rfl rfl
theorem wn_148 : (Cond.fieldLinkNest "PatternHouse" (170 : Nat) "PatternHouse$RuleText" "fault" "I" "PatternHouse") ∈ lw_nest := z_n1 43 rfl rfl
theorem wg_149 : (Cond.fieldLink "PatternHouse$RuleText" (25 : Nat) "PatternHouse$RuleText" "place" "I") ∈ lw_good := z_g1 44 rfl rfl
theorem wg_150 : (Cond.fieldLink "PatternHouse$RuleText" (28 : Nat) "PatternHouse$RuleText" "point" "I") ∈ lw_good := z_g1 45 rfl rfl
theorem wg_151 : (Cond.fieldLink "PatternHouse$RuleText" (15 : Nat) "PatternHouse$RuleText" "code" "[I") ∈ lw_good := z_g1 46 rfl rfl
theorem wg_152 : (Cond.fieldLink "PatternHouse$RuleText" (31 : Nat) "PatternHouse$RuleText" "codes" "I") ∈ lw_good := z_g1 47 rfl rfl
theorem wg_153 : (Cond.fieldLink "PatternHouse$RuleText" (46 : Nat) "PatternHouse$RuleText" "codesOfX" "I") ∈ lw_good := z_g1 48 rfl rfl
theorem wg_154 : (Cond.laysFinal "PatternHouse$RuleText" "PatternHouse$RuleText" "bytes" "[I") ∈ lw_good := z_g1 49 rfl rfl
theorem wg_156 : (Cond.lays "PatternHouse$RuleText" "PatternHouse$RuleText" "size" "I") ∈ lw_good := z_g1 51 rfl rfl
theorem wg_158 : (Cond.lays "PatternHouse$RuleText" "PatternHouse$RuleText" "fault" "I") ∈ lw_good := z_g1 53 rfl rfl
theorem wg_160 : (Cond.lays "PatternHouse$RuleText" "PatternHouse$RuleText" "place" "I") ∈ lw_good := z_g1 55 rfl rfl
theorem wg_162 : (Cond.lays "PatternHouse$RuleText" "PatternHouse$RuleText" "point" "I") ∈ lw_good := z_g1 57 rfl rfl
theorem wg_164 : (Cond.laysFinal "PatternHouse$RuleText" "PatternHouse$RuleText" "code" "[I") ∈ lw_good := z_g1 59 rfl rfl
theorem wg_166 : (Cond.lays "PatternHouse$RuleText" "PatternHouse$RuleText" "codes" "I") ∈ lw_good := z_g1 61 rfl rfl
theorem wg_168 : (Cond.lays "PatternHouse$RuleText" "PatternHouse$RuleText" "codesOfX" "I") ∈ lw_good := z_g1 63 rfl rfl
theorem wg_171 : (Cond.arrayClass FieldType.int) ∈ lw_good := z_g1 66 rfl rfl
theorem wg_172 : (Cond.classLink "PatternHouse" (38 : Nat) "PatternHouse$Drawing") ∈ lw_good := z_g1 67 rfl rfl
theorem wg_173 : (Cond.instantiable "PatternHouse$Drawing" (16 : Nat)) ∈ lw_good := z_g1 68 rfl rfl
theorem wn_174 : (Cond.methodLinkNest "PatternHouse" (40 : Nat) ({ cls := "PatternHouse$Drawing", name := "<init>", desc := "()V" } : MethodName) "PatternHouse") ∈ lw_nest := z_n1 69 rfl rfl
theorem wg_175 : (Cond.instanceMethod ({ cls := "PatternHouse$Drawing", name := "<init>", desc := "()V" } : MethodName)) ∈ lw_good := z_g1 70 rfl rfl
theorem wg_176 : (Cond.code ({ cls := "PatternHouse$Drawing", name := "<init>", desc := "()V" } : MethodName) prog_4_method_1_code (1 : Nat) (Option.none : Option FieldType)) ∈ lw_good := z_g1 71 rfl rfl
theorem wg_177 : (Cond.methodLink "PatternHouse$Drawing" (3 : Nat) ({ cls := "java/lang/Object", name := "<init>", desc := "()V" } : MethodName)) ∈ lw_good := z_g1 72 rfl rfl
theorem wg_178 : (Cond.classLink "PatternHouse$Drawing" (30 : Nat) "PatternHouse$Piece") ∈ lw_good := z_g1 73 rfl rfl
theorem wg_179 : (Cond.fieldLink "PatternHouse$Drawing" (52 : Nat) "PatternHouse$Drawing" "size" "I") ∈ lw_good := z_g1 74 rfl rfl
theorem wg_180 : (Cond.fieldLink "PatternHouse$Drawing" (56 : Nat) "PatternHouse$Drawing" "day" "I") ∈ lw_good := z_g1 75 rfl rfl
theorem wg_181 : (Cond.fieldLink "PatternHouse$Drawing" (59 : Nat) "PatternHouse$Drawing" "body" "LPatternHouse$Body;") ∈ lw_good := z_g1 76 rfl rfl
theorem wg_182 : (Cond.fieldLink "PatternHouse$Drawing" (9 : Nat) "PatternHouse$Drawing" "measures" "[I") ∈ lw_good := z_g1 77 rfl rfl
theorem wn_183 : (Cond.fieldLinkNest "PatternHouse" (439 : Nat) "PatternHouse$Drawing" "measures" "[I" "PatternHouse") ∈ lw_nest := z_n1 78 rfl rfl
theorem wg_184 : (Cond.fieldLink "PatternHouse$Drawing" (15 : Nat) "PatternHouse$Drawing" "states" "[I") ∈ lw_good := z_g1 79 rfl rfl
theorem wg_185 : (Cond.fieldLink "PatternHouse$Drawing" (18 : Nat) "PatternHouse$Drawing" "x" "[I") ∈ lw_good := z_g1 80 rfl rfl
theorem wg_186 : (Cond.fieldLink "PatternHouse$Drawing" (21 : Nat) "PatternHouse$Drawing" "y" "[I") ∈ lw_good := z_g1 81 rfl rfl
theorem wg_187 : (Cond.fieldLink "PatternHouse$Drawing" (24 : Nat) "PatternHouse$Drawing" "rawX" "[I") ∈ lw_good := z_g1 82 rfl rfl
theorem wg_188 : (Cond.fieldLink "PatternHouse$Drawing" (27 : Nat) "PatternHouse$Drawing" "rawY" "[I") ∈ lw_good := z_g1 83 rfl rfl
theorem wg_189 : (Cond.fieldLink "PatternHouse$Drawing" (32 : Nat) "PatternHouse$Drawing" "lineage" "[LPatternHouse$Piece;") ∈ lw_good := z_g1 84 rfl rfl
theorem wg_190 : (Cond.fieldLink "PatternHouse$Drawing" (36 : Nat) "PatternHouse$Drawing" "stack" "[J") ∈ lw_good := z_g1 85 rfl rfl
theorem wg_191 : (Cond.fieldLink "PatternHouse$Drawing" (40 : Nat) "PatternHouse$Drawing" "named" "[I") ∈ lw_good := z_g1 86 rfl rfl
theorem wg_192 : (Cond.fieldLink "PatternHouse$Drawing" (43 : Nat) "PatternHouse$Drawing" "ringX" "[I") ∈ lw_good := z_g1 87 rfl rfl
theorem wn_193 : (Cond.fieldLinkNest "PatternHouse$Shape" (43 : Nat) "PatternHouse$Drawing" "ringX" "[I" "PatternHouse") ∈ lw_nest := z_n1 88 rfl rfl
theorem wg_194 : (Cond.fieldLink "PatternHouse$Drawing" (46 : Nat) "PatternHouse$Drawing" "ringY" "[I") ∈ lw_good := z_g1 89 rfl rfl
theorem wn_195 : (Cond.fieldLinkNest "PatternHouse$Shape" (49 : Nat) "PatternHouse$Drawing" "ringY" "[I" "PatternHouse") ∈ lw_nest := z_n1 90 rfl rfl
theorem wg_196 : (Cond.fieldLink "PatternHouse$Drawing" (49 : Nat) "PatternHouse$Drawing" "ringAt" "[I") ∈ lw_good := z_g1 91 rfl rfl
theorem wn_197 : (Cond.fieldLinkNest "PatternHouse$Shape" (46 : Nat) "PatternHouse$Drawing" "ring" "I" "PatternHouse") ∈ lw_nest := z_n1 92 rfl rfl
theorem wg_198 : (Cond.fieldLink "PatternHouse$Drawing" (157 : Nat) "PatternHouse$Drawing" "ring" "I") ∈ lw_good := z_g1 93 rfl rfl
theorem wg_199 : (Cond.lays "PatternHouse$Drawing" "PatternHouse$Drawing" "size" "I") ∈ lw_good := z_g1 94 rfl rfl
theorem wg_201 : (Cond.lays "PatternHouse$Drawing" "PatternHouse$Drawing" "day" "I") ∈ lw_good := z_g1 96 rfl rfl
theorem wg_203 : (Cond.lays "PatternHouse$Drawing" "PatternHouse$Drawing" "body" "LPatternHouse$Body;") ∈ lw_good := z_g1 98 rfl rfl
theorem wg_205 : (Cond.laysFinal "PatternHouse$Drawing" "PatternHouse$Drawing" "measures" "[I") ∈ lw_good := z_g1 100 rfl rfl
theorem wg_207 : (Cond.laysFinal "PatternHouse$Drawing" "PatternHouse$Drawing" "states" "[I") ∈ lw_good := z_g1 102 rfl rfl
theorem wg_209 : (Cond.laysFinal "PatternHouse$Drawing" "PatternHouse$Drawing" "x" "[I") ∈ lw_good := z_g1 104 rfl rfl
theorem wg_211 : (Cond.laysFinal "PatternHouse$Drawing" "PatternHouse$Drawing" "y" "[I") ∈ lw_good := z_g1 106 rfl rfl
theorem wg_213 : (Cond.laysFinal "PatternHouse$Drawing" "PatternHouse$Drawing" "rawX" "[I") ∈ lw_good := z_g1 108 rfl rfl
theorem wg_215 : (Cond.laysFinal "PatternHouse$Drawing" "PatternHouse$Drawing" "rawY" "[I") ∈ lw_good := z_g1 110 rfl rfl
theorem wg_217 : (Cond.laysFinal "PatternHouse$Drawing" "PatternHouse$Drawing" "lineage" "[LPatternHouse$Piece;") ∈ lw_good := z_g1 112 rfl rfl
theorem wg_219 : (Cond.laysFinal "PatternHouse$Drawing" "PatternHouse$Drawing" "stack" "[J") ∈ lw_good := z_g1 114 rfl rfl
theorem wg_221 : (Cond.laysFinal "PatternHouse$Drawing" "PatternHouse$Drawing" "named" "[I") ∈ lw_good := z_g1 116 rfl rfl
theorem wg_223 : (Cond.laysFinal "PatternHouse$Drawing" "PatternHouse$Drawing" "ringX" "[I") ∈ lw_good := z_g1 118 rfl rfl
theorem wg_225 : (Cond.laysFinal "PatternHouse$Drawing" "PatternHouse$Drawing" "ringY" "[I") ∈ lw_good := z_g1 120 rfl rfl
theorem wg_227 : (Cond.laysFinal "PatternHouse$Drawing" "PatternHouse$Drawing" "ringAt" "[I") ∈ lw_good := z_g1 122 rfl rfl
theorem wg_229 : (Cond.lays "PatternHouse$Drawing" "PatternHouse$Drawing" "ring" "I") ∈ lw_good := z_g1 124 rfl rfl
theorem wg_232 : (Cond.arrayClass FieldType.long) ∈ lw_good := z_g1 127 rfl rfl
theorem wg_233 : (Cond.classLink "PatternHouse" (45 : Nat) "PatternHouse$Seam") ∈ lw_good := z_g1 128 rfl rfl
theorem wn_234 : (Cond.arrayOver (FieldType.object "PatternHouse$Seam")) ∈ lw_nest := z_n1 129 rfl rfl
theorem wg_235 : (Cond.classLink "PatternHouse" (51 : Nat) "PatternHouse$Conditions") ∈ lw_good := z_g1 130 rfl rfl
theorem wg_236 : (Cond.instantiable "PatternHouse$Conditions" (5 : Nat)) ∈ lw_good := z_g1 131 rfl rfl
theorem wn_237 : (Cond.methodLinkNest "PatternHouse" (53 : Nat) ({ cls := "PatternHouse$Conditions", name := "<init>", desc := "()V" } : MethodName) "PatternHouse") ∈ lw_nest := z_n1 132 rfl rfl
theorem wg_238 : (Cond.instanceMethod ({ cls := "PatternHouse$Conditions", name := "<init>", desc := "()V" } : MethodName)) ∈ lw_good := z_g1 133 rfl rfl
theorem wg_239 : (Cond.code ({ cls := "PatternHouse$Conditions", name := "<init>", desc := "()V" } : MethodName) prog_3_method_1_code (1 : Nat) (Option.none : Option FieldType)) ∈ lw_good := z_g1 134 rfl rfl
theorem wg_240 : (Cond.methodLink "PatternHouse$Conditions" (3 : Nat) ({ cls := "java/lang/Object", name := "<init>", desc := "()V" } : MethodName)) ∈ lw_good := z_g1 135 rfl rfl
theorem wg_241 : (Cond.fieldLink "PatternHouse$Conditions" (9 : Nat) "PatternHouse$Conditions" "rows" "[I") ∈ lw_good := z_g1 136 rfl rfl
theorem wg_242 : (Cond.fieldLink "PatternHouse$Conditions" (15 : Nat) "PatternHouse$Conditions" "sums" "[I") ∈ lw_good := z_g1 137 rfl rfl
theorem wg_243 : (Cond.fieldLink "PatternHouse$Conditions" (18 : Nat) "PatternHouse$Conditions" "number" "I") ∈ lw_good := z_g1 138 rfl rfl
theorem wn_244 : (Cond.fieldLinkNest "PatternHouse" (305 : Nat) "PatternHouse$Conditions" "number" "I" "PatternHouse") ∈ lw_nest := z_n1 139 rfl rfl
theorem wg_245 : (Cond.fieldLink "PatternHouse$Conditions" (22 : Nat) "PatternHouse$Conditions" "above" "J") ∈ lw_good := z_g1 140 rfl rfl
theorem wn_246 : (Cond.fieldLinkNest "PatternHouse" (314 : Nat) "PatternHouse$Conditions" "above" "J" "PatternHouse") ∈ lw_nest := z_n1 141 rfl rfl
theorem wg_247 : (Cond.fieldLink "PatternHouse$Conditions" (26 : Nat) "PatternHouse$Conditions" "below" "J") ∈ lw_good := z_g1 142 rfl rfl
theorem wn_248 : (Cond.fieldLinkNest "PatternHouse" (318 : Nat) "PatternHouse$Conditions" "below" "J" "PatternHouse") ∈ lw_nest := z_n1 143 rfl rfl
theorem wg_249 : (Cond.laysFinal "PatternHouse$Conditions" "PatternHouse$Conditions" "rows" "[I") ∈ lw_good := z_g1 144 rfl rfl
theorem wg_251 : (Cond.laysFinal "PatternHouse$Conditions" "PatternHouse$Conditions" "sums" "[I") ∈ lw_good := z_g1 146 rfl rfl
theorem wg_253 : (Cond.lays "PatternHouse$Conditions" "PatternHouse$Conditions" "number" "I") ∈ lw_good := z_g1 148 rfl rfl
theorem wg_255 : (Cond.lays "PatternHouse$Conditions" "PatternHouse$Conditions" "above" "J") ∈ lw_good := z_g1 150 rfl rfl
theorem wg_257 : (Cond.lays "PatternHouse$Conditions" "PatternHouse$Conditions" "below" "J") ∈ lw_good := z_g1 152 rfl rfl
theorem wg_260 : (Cond.classLink "PatternHouse" (58 : Nat) "PatternHouse$Laying") ∈ lw_good := z_g1 155 rfl rfl
theorem wg_261 : (Cond.instantiable "PatternHouse$Laying" (13 : Nat)) ∈ lw_good := z_g1 156 rfl rfl
theorem wg_262 : (Cond.methodLink "PatternHouse" (60 : Nat) ({ cls := "PatternHouse$Laying", name := "<init>", desc := "()V" } : MethodName)) ∈ lw_good := z_g1 157 rfl rfl
theorem wg_263 : (Cond.instanceMethod ({ cls := "PatternHouse$Laying", name := "<init>", desc := "()V" } : MethodName)) ∈ lw_good := z_g1 158 rfl rfl
theorem wg_264 : (Cond.code ({ cls := "PatternHouse$Laying", name := "<init>", desc := "()V" } : MethodName) prog_6_method_1_code (2 : Nat) (Option.none : Option FieldType)) ∈ lw_good := z_g1 159 rfl rfl
theorem wg_265 : (Cond.methodLink "PatternHouse$Laying" (3 : Nat) ({ cls := "java/lang/Object", name := "<init>", desc := "()V" } : MethodName)) ∈ lw_good := z_g1 160 rfl rfl
theorem wn_266 : (Cond.fieldLinkNest "PatternHouse$Laying" (9 : Nat) "PatternHouse" "CLOTH_AT_FIRST" "[I" "PatternHouse") ∈ lw_nest := z_n1 161 rfl rfl
theorem wg_268 : (Cond.methodLink "PatternHouse$Laying" (13 : Nat) ({ cls := "[I", name := "clone", desc := "()Ljava/lang/Object;" } : MethodName)) ∈ lw_good := z_g1 163 rfl rfl
theorem wg_269 : (Cond.sameMethod "[I" "java/lang/Object" "clone" "()Ljava/lang/Object;") ∈ lw_good := z_g1 164 rfl rfl
theorem wg_270 : (Cond.native ({ cls := "java/lang/Object", name := "clone", desc := "()Ljava/lang/Object;" } : MethodName)) ∈ lw_good := z_g1 165 rfl rfl
theorem wg_271 : (Cond.instanceMethod ({ cls := "java/lang/Object", name := "clone", desc := "()Ljava/lang/Object;" } : MethodName)) ∈ lw_good := z_g1 166 rfl rfl
theorem wg_272 : (Cond.selects "[I" ({ cls := "[I", name := "clone", desc := "()Ljava/lang/Object;" } : MethodName) ({ cls := "java/lang/Object", name := "clone", desc := "()Ljava/lang/Object;" } : MethodName)) ∈ lw_good := z_g1 167 rfl rfl
theorem wn_273 : (Cond.castable "[I" "java/lang/Cloneable") ∈ lw_nest := z_n1 168 rfl rfl
theorem wg_274 : (Cond.classLink "PatternHouse$Laying" (14 : Nat) "[I") ∈ lw_good := z_g1 169 rfl rfl
theorem wg_275 : (Cond.classLink "PatternHouse$Laying" (23 : Nat) "PatternHouse$Piece") ∈ lw_good := z_g1 170 rfl rfl
theorem wg_276 : (Cond.classLink "PatternHouse$Laying" (32 : Nat) "PatternHouse$Shape") ∈ lw_good := z_g1 171 rfl rfl
theorem wn_277 : (Cond.arrayOver (FieldType.object "PatternHouse$Shape")) ∈ lw_nest := z_n1 172 rfl rfl
theorem wg_278 : (Cond.instantiable "PatternHouse$Shape" (7 : Nat)) ∈ lw_good := z_g1 173 rfl rfl
theorem wn_279 : (Cond.methodLinkNest "PatternHouse$Laying" (56 : Nat) ({ cls := "PatternHouse$Shape", name := "<init>", desc := "()V" } : MethodName) "PatternHouse") ∈ lw_nest := z_n1 174 rfl rfl
theorem wg_280 : (Cond.instanceMethod ({ cls := "PatternHouse$Shape", name := "<init>", desc := "()V" } : MethodName)) ∈ lw_good := z_g1 175 rfl rfl
theorem wg_281 : (Cond.code ({ cls := "PatternHouse$Shape", name := "<init>", desc := "()V" } : MethodName) prog_12_method_1_code (1 : Nat) (Option.none : Option FieldType)) ∈ lw_good := z_g1 176 rfl rfl
theorem wg_282 : (Cond.methodLink "PatternHouse$Shape" (3 : Nat) ({ cls := "java/lang/Object", name := "<init>", desc := "()V" } : MethodName)) ∈ lw_good := z_g1 177 rfl rfl
theorem wg_283 : (Cond.fieldLink "PatternHouse$Shape" (9 : Nat) "PatternHouse$Shape" "columns" "[I") ∈ lw_good := z_g1 178 rfl rfl
theorem wn_284 : (Cond.fieldLinkNest "PatternHouse$Laying" (103 : Nat) "PatternHouse$Shape" "columns" "[I" "PatternHouse") ∈ lw_nest := z_n1 179 rfl rfl
theorem wg_285 : (Cond.fieldLink "PatternHouse$Shape" (15 : Nat) "PatternHouse$Shape" "turned" "[I") ∈ lw_good := z_g1 180 rfl rfl
theorem wn_286 : (Cond.fieldLinkNest "PatternHouse$Laying" (106 : Nat) "PatternHouse$Shape" "turned" "[I" "PatternHouse") ∈ lw_nest := z_n1 181 rfl rfl
theorem wg_287 : (Cond.fieldLink "PatternHouse$Shape" (83 : Nat) "PatternHouse$Shape" "wide" "I") ∈ lw_good := z_g1 182 rfl rfl
theorem wn_288 : (Cond.fieldLinkNest "PatternHouse$Laying" (94 : Nat) "PatternHouse$Shape" "wide" "I" "PatternHouse") ∈ lw_nest := z_n1 183 rfl rfl
theorem wg_289 : (Cond.fieldLink "PatternHouse$Shape" (86 : Nat) "PatternHouse$Shape" "high" "I") ∈ lw_good := z_g1 184 rfl rfl
theorem wn_290 : (Cond.fieldLinkNest "PatternHouse$Laying" (97 : Nat) "PatternHouse$Shape" "high" "I" "PatternHouse") ∈ lw_nest := z_n1 185 rfl rfl
theorem wg_291 : (Cond.fieldLink "PatternHouse$Shape" (24 : Nat) "PatternHouse$Shape" "cells" "I") ∈ lw_good := z_g1 186 rfl rfl
theorem wn_292 : (Cond.fieldLinkNest "PatternHouse$Laying" (67 : Nat) "PatternHouse$Shape" "cells" "I" "PatternHouse") ∈ lw_nest := z_n1 187 rfl rfl
theorem wg_293 : (Cond.fieldLink "PatternHouse$Shape" (55 : Nat) "PatternHouse$Shape" "leastX" "I") ∈ lw_good := z_g1 188 rfl rfl
theorem wg_294 : (Cond.fieldLink "PatternHouse$Shape" (52 : Nat) "PatternHouse$Shape" "leastY" "I") ∈ lw_good := z_g1 189 rfl rfl
theorem wg_295 : (Cond.laysFinal "PatternHouse$Shape" "PatternHouse$Shape" "columns" "[I") ∈ lw_good := z_g1 190 rfl rfl
theorem wg_297 : (Cond.laysFinal "PatternHouse$Shape" "PatternHouse$Shape" "turned" "[I") ∈ lw_good := z_g1 192 rfl rfl
theorem wg_299 : (Cond.lays "PatternHouse$Shape" "PatternHouse$Shape" "wide" "I") ∈ lw_good := z_g1 194 rfl rfl
theorem wg_301 : (Cond.lays "PatternHouse$Shape" "PatternHouse$Shape" "high" "I") ∈ lw_good := z_g1 196 rfl rfl
theorem wg_303 : (Cond.lays "PatternHouse$Shape" "PatternHouse$Shape" "cells" "I") ∈ lw_good := z_g1 198 rfl rfl
theorem wg_305 : (Cond.lays "PatternHouse$Shape" "PatternHouse$Shape" "leastX" "I") ∈ lw_good := z_g1 200 rfl rfl
theorem wg_307 : (Cond.lays "PatternHouse$Shape" "PatternHouse$Shape" "leastY" "I") ∈ lw_good := z_g1 202 rfl rfl
theorem wg_310 : (Cond.fieldLink "PatternHouse$Laying" (18 : Nat) "PatternHouse$Laying" "cloth" "[I") ∈ lw_good := z_g1 205 rfl rfl
theorem wn_311 : (Cond.fieldLinkNest "PatternHouse" (327 : Nat) "PatternHouse$Laying" "cloth" "[I" "PatternHouse") ∈ lw_nest := z_n1 206 rfl rfl
theorem wg_312 : (Cond.fieldLink "PatternHouse$Laying" (25 : Nat) "PatternHouse$Laying" "pieces" "[LPatternHouse$Piece;") ∈ lw_good := z_g1 207 rfl rfl
theorem wn_313 : (Cond.fieldLinkNest "PatternHouse" (470 : Nat) "PatternHouse$Laying" "pieces" "[LPatternHouse$Piece;" "PatternHouse") ∈ lw_nest := z_n1 208 rfl rfl
theorem wg_314 : (Cond.fieldLink "PatternHouse$Laying" (29 : Nat) "PatternHouse$Laying" "sizes" "[I") ∈ lw_good := z_g1 209 rfl rfl
theorem wn_315 : (Cond.fieldLinkNest "PatternHouse" (471 : Nat) "PatternHouse$Laying" "sizes" "[I" "PatternHouse") ∈ lw_nest := z_n1 210 rfl rfl
theorem wg_316 : (Cond.fieldLink "PatternHouse$Laying" (34 : Nat) "PatternHouse$Laying" "shapes" "[LPatternHouse$Shape;") ∈ lw_good := z_g1 211 rfl rfl
theorem wn_317 : (Cond.fieldLinkNest "PatternHouse" (474 : Nat) "PatternHouse$Laying" "shapes" "[LPatternHouse$Shape;" "PatternHouse") ∈ lw_nest := z_n1 212 rfl rfl
theorem wg_318 : (Cond.fieldLink "PatternHouse$Laying" (57 : Nat) "PatternHouse$Laying" "number" "I") ∈ lw_good := z_g1 213 rfl rfl
theorem wn_319 : (Cond.fieldLinkNest "PatternHouse" (334 : Nat) "PatternHouse$Laying" "number" "I" "PatternHouse") ∈ lw_nest := z_n1 214 rfl rfl
theorem wg_320 : (Cond.fieldLink "PatternHouse$Laying" (38 : Nat) "PatternHouse$Laying" "taken" "[I") ∈ lw_good := z_g1 215 rfl rfl
theorem wg_321 : (Cond.fieldLink "PatternHouse$Laying" (41 : Nat) "PatternHouse$Laying" "column" "[I") ∈ lw_good := z_g1 216 rfl rfl
theorem wg_322 : (Cond.fieldLink "PatternHouse$Laying" (44 : Nat) "PatternHouse$Laying" "across" "[I") ∈ lw_good := z_g1 217 rfl rfl
theorem wg_323 : (Cond.fieldLink "PatternHouse$Laying" (47 : Nat) "PatternHouse$Laying" "turn" "[I") ∈ lw_good := z_g1 218 rfl rfl
theorem wg_324 : (Cond.fieldLink "PatternHouse$Laying" (50 : Nat) "PatternHouse$Laying" "bestPlaces" "[I") ∈ lw_good := z_g1 219 rfl rfl
theorem wn_325 : (Cond.fieldLinkNest "PatternHouse" (347 : Nat) "PatternHouse$Laying" "bestPlaces" "[I" "PatternHouse") ∈ lw_nest := z_n1 220 rfl rfl
theorem wg_326 : (Cond.fieldLink "PatternHouse$Laying" (76 : Nat) "PatternHouse$Laying" "bestLong" "I") ∈ lw_good := z_g1 221 rfl rfl
theorem wn_327 : (Cond.fieldLinkNest "PatternHouse" (341 : Nat) "PatternHouse$Laying" "bestLong" "I" "PatternHouse") ∈ lw_nest := z_n1 222 rfl rfl
theorem wg_328 : (Cond.fieldLink "PatternHouse$Laying" (53 : Nat) "PatternHouse$Laying" "row" "[I") ∈ lw_good := z_g1 223 rfl rfl
theorem wn_329 : (Cond.fieldLinkNest "PatternHouse" (353 : Nat) "PatternHouse$Laying" "row" "[I" "PatternHouse") ∈ lw_nest := z_n1 224 rfl rfl
theorem wn_330 : (Cond.fieldLinkNest "PatternHouse" (350 : Nat) "PatternHouse$Laying" "rowSize" "I" "PatternHouse") ∈ lw_nest := z_n1 225 rfl rfl
theorem wg_331 : (Cond.laysFinal "PatternHouse$Laying" "PatternHouse$Laying" "cloth" "[I") ∈ lw_good := z_g1 226 rfl rfl
theorem wg_333 : (Cond.laysFinal "PatternHouse$Laying" "PatternHouse$Laying" "pieces" "[LPatternHouse$Piece;") ∈ lw_good := z_g1 228 rfl rfl
theorem wg_335 : (Cond.laysFinal "PatternHouse$Laying" "PatternHouse$Laying" "sizes" "[I") ∈ lw_good := z_g1 230 rfl rfl
theorem wg_337 : (Cond.laysFinal "PatternHouse$Laying" "PatternHouse$Laying" "shapes" "[LPatternHouse$Shape;") ∈ lw_good := z_g1 232 rfl rfl
theorem wg_339 : (Cond.lays "PatternHouse$Laying" "PatternHouse$Laying" "number" "I") ∈ lw_good := z_g1 234 rfl rfl
theorem wg_341 : (Cond.laysFinal "PatternHouse$Laying" "PatternHouse$Laying" "taken" "[I") ∈ lw_good := z_g1 236 rfl rfl
theorem wg_343 : (Cond.laysFinal "PatternHouse$Laying" "PatternHouse$Laying" "column" "[I") ∈ lw_good := z_g1 238 rfl rfl
theorem wg_345 : (Cond.laysFinal "PatternHouse$Laying" "PatternHouse$Laying" "across" "[I") ∈ lw_good := z_g2 0 rfl rfl
theorem wg_347 : (Cond.laysFinal "PatternHouse$Laying" "PatternHouse$Laying" "turn" "[I") ∈ lw_good := z_g2 2 rfl rfl
theorem wg_349 : (Cond.laysFinal "PatternHouse$Laying" "PatternHouse$Laying" "bestPlaces" "[I") ∈ lw_good := z_g2 4 rfl rfl
theorem wg_351 : (Cond.lays "PatternHouse$Laying" "PatternHouse$Laying" "bestLong" "I") ∈ lw_good := z_g2 6 rfl rfl
theorem wg_353 : (Cond.laysFinal "PatternHouse$Laying" "PatternHouse$Laying" "row" "[I") ∈ lw_good := z_g2 8 rfl rfl
theorem wg_355 : (Cond.lays "PatternHouse$Laying" "PatternHouse$Laying" "rowSize" "I") ∈ lw_good := z_g2 10 rfl rfl
theorem wg_358 : (Cond.classLink "PatternHouse" (65 : Nat) "PatternHouse$Shape") ∈ lw_good := z_g2 13 rfl rfl
theorem wn_359 : (Cond.methodLinkNest "PatternHouse" (67 : Nat) ({ cls := "PatternHouse$Shape", name := "<init>", desc := "()V" } : MethodName) "PatternHouse") ∈ lw_nest := z_n2 14 rfl rfl
theorem wg_360 : (Cond.classLink "PatternHouse" (72 : Nat) "PatternHouse$Edition") ∈ lw_good := z_g2 15 rfl rfl
theorem wn_361 : (Cond.arrayOver (FieldType.object "PatternHouse$Edition")) ∈ lw_nest := z_n2 16 rfl rfl
theorem wg_362 : (Cond.classLink "PatternHouse" (78 : Nat) "PatternHouse$Season") ∈ lw_good := z_g2 17 rfl rfl
theorem wg_363 : (Cond.instantiable "PatternHouse$Season" (8 : Nat)) ∈ lw_good := z_g2 18 rfl rfl
theorem wn_364 : (Cond.methodLinkNest "PatternHouse" (80 : Nat) ({ cls := "PatternHouse$Season", name := "<init>", desc := "()V" } : MethodName) "PatternHouse") ∈ lw_nest := z_n2 19 rfl rfl
theorem wg_365 : (Cond.instanceMethod ({ cls := "PatternHouse$Season", name := "<init>", desc := "()V" } : MethodName)) ∈ lw_good := z_g2 20 rfl rfl
theorem wg_366 : (Cond.code ({ cls := "PatternHouse$Season", name := "<init>", desc := "()V" } : MethodName) prog_11_method_1_code (1 : Nat) (Option.none : Option FieldType)) ∈ lw_good := z_g2 21 rfl rfl
theorem wg_367 : (Cond.methodLink "PatternHouse$Season" (3 : Nat) ({ cls := "java/lang/Object", name := "<init>", desc := "()V" } : MethodName)) ∈ lw_good := z_g2 22 rfl rfl
theorem wg_368 : (Cond.fieldLink "PatternHouse$Season" (9 : Nat) "PatternHouse$Season" "orders" "[I") ∈ lw_good := z_g2 23 rfl rfl
theorem wn_369 : (Cond.fieldLinkNest "PatternHouse" (414 : Nat) "PatternHouse$Season" "orders" "[I" "PatternHouse") ∈ lw_nest := z_n2 24 rfl rfl
theorem wg_370 : (Cond.fieldLink "PatternHouse$Season" (15 : Nat) "PatternHouse$Season" "counts" "[I") ∈ lw_good := z_g2 25 rfl rfl
theorem wg_371 : (Cond.fieldLink "PatternHouse$Season" (18 : Nat) "PatternHouse$Season" "cloths" "[I") ∈ lw_good := z_g2 26 rfl rfl
theorem wg_372 : (Cond.fieldLink "PatternHouse$Season" (30 : Nat) "PatternHouse$Season" "markers" "I") ∈ lw_good := z_g2 27 rfl rfl
theorem wn_373 : (Cond.fieldLinkNest "PatternHouse" (417 : Nat) "PatternHouse$Season" "markers" "I" "PatternHouse") ∈ lw_nest := z_n2 28 rfl rfl
theorem wg_374 : (Cond.fieldLink "PatternHouse$Season" (21 : Nat) "PatternHouse$Season" "lacks" "[I") ∈ lw_good := z_g2 29 rfl rfl
theorem wg_375 : (Cond.fieldLink "PatternHouse$Season" (24 : Nat) "PatternHouse$Season" "tried" "[I") ∈ lw_good := z_g2 30 rfl rfl
theorem wg_376 : (Cond.fieldLink "PatternHouse$Season" (27 : Nat) "PatternHouse$Season" "best" "[I") ∈ lw_good := z_g2 31 rfl rfl
theorem wn_377 : (Cond.fieldLinkNest "PatternHouse" (427 : Nat) "PatternHouse$Season" "best" "[I" "PatternHouse") ∈ lw_nest := z_n2 32 rfl rfl
theorem wg_378 : (Cond.fieldLink "PatternHouse$Season" (35 : Nat) "PatternHouse$Season" "bestCloth" "I") ∈ lw_good := z_g2 33 rfl rfl
theorem wn_379 : (Cond.fieldLinkNest "PatternHouse" (424 : Nat) "PatternHouse$Season" "bestCloth" "I" "PatternHouse") ∈ lw_nest := z_n2 34 rfl rfl
theorem wg_380 : (Cond.laysFinal "PatternHouse$Season" "PatternHouse$Season" "orders" "[I") ∈ lw_good := z_g2 35 rfl rfl
theorem wg_382 : (Cond.laysFinal "PatternHouse$Season" "PatternHouse$Season" "counts" "[I") ∈ lw_good := z_g2 37 rfl rfl
theorem wg_384 : (Cond.laysFinal "PatternHouse$Season" "PatternHouse$Season" "cloths" "[I") ∈ lw_good := z_g2 39 rfl rfl
theorem wg_386 : (Cond.lays "PatternHouse$Season" "PatternHouse$Season" "markers" "I") ∈ lw_good := z_g2 41 rfl rfl
theorem wg_388 : (Cond.laysFinal "PatternHouse$Season" "PatternHouse$Season" "lacks" "[I") ∈ lw_good := z_g2 43 rfl rfl
theorem wg_390 : (Cond.laysFinal "PatternHouse$Season" "PatternHouse$Season" "tried" "[I") ∈ lw_good := z_g2 45 rfl rfl
theorem wg_392 : (Cond.laysFinal "PatternHouse$Season" "PatternHouse$Season" "best" "[I") ∈ lw_good := z_g2 47 rfl rfl
theorem wg_394 : (Cond.lays "PatternHouse$Season" "PatternHouse$Season" "bestCloth" "I") ∈ lw_good := z_g2 49 rfl rfl
theorem wg_397 : (Cond.fieldLink "PatternHouse" (89 : Nat) "PatternHouse" "today" "I") ∈ lw_good := z_g2 52 rfl rfl
theorem wg_398 : (Cond.fieldLink "PatternHouse" (9 : Nat) "PatternHouse" "refusals" "[I") ∈ lw_good := z_g2 53 rfl rfl
theorem wg_399 : (Cond.fieldLink "PatternHouse" (15 : Nat) "PatternHouse" "numbers" "[LPatternHouse$Telling;") ∈ lw_good := z_g2 54 rfl rfl
theorem wg_400 : (Cond.fieldLink "PatternHouse" (21 : Nat) "PatternHouse" "bodies" "[LPatternHouse$Body;") ∈ lw_good := z_g2 55 rfl rfl
theorem wg_401 : (Cond.fieldLink "PatternHouse" (116 : Nat) "PatternHouse" "bodyCount" "I") ∈ lw_good := z_g2 56 rfl rfl
theorem wg_402 : (Cond.fieldLink "PatternHouse" (211 : Nat) "PatternHouse" "alteredCount" "I") ∈ lw_good := z_g2 57 rfl rfl
theorem wg_403 : (Cond.fieldLink "PatternHouse" (366 : Nat) "PatternHouse" "trialCount" "I") ∈ lw_good := z_g2 58 rfl rfl
theorem wg_404 : (Cond.fieldLink "PatternHouse" (27 : Nat) "PatternHouse" "pieces" "[LPatternHouse$Piece;") ∈ lw_good := z_g2 59 rfl rfl
theorem wg_405 : (Cond.fieldLink "PatternHouse" (144 : Nat) "PatternHouse" "pieceCount" "I") ∈ lw_good := z_g2 60 rfl rfl
theorem wg_406 : (Cond.fieldLink "PatternHouse" (164 : Nat) "PatternHouse" "ruleCount" "I") ∈ lw_good := z_g2 61 rfl rfl
theorem wg_407 : (Cond.fieldLink "PatternHouse" (34 : Nat) "PatternHouse" "text" "LPatternHouse$RuleText;") ∈ lw_good := z_g2 62 rfl rfl
theorem wg_408 : (Cond.fieldLink "PatternHouse" (41 : Nat) "PatternHouse" "drawing" "LPatternHouse$Drawing;") ∈ lw_good := z_g2 63 rfl rfl
theorem wg_409 : (Cond.fieldLink "PatternHouse" (47 : Nat) "PatternHouse" "seams" "[LPatternHouse$Seam;") ∈ lw_good := z_g2 64 rfl rfl
theorem wg_410 : (Cond.fieldLink "PatternHouse" (256 : Nat) "PatternHouse" "seamCount" "I") ∈ lw_good := z_g2 65 rfl rfl
theorem wg_411 : (Cond.fieldLink "PatternHouse" (54 : Nat) "PatternHouse" "conditions" "LPatternHouse$Conditions;") ∈ lw_good := z_g2 66 rfl rfl
theorem wg_412 : (Cond.fieldLink "PatternHouse" (61 : Nat) "PatternHouse" "laying" "LPatternHouse$Laying;") ∈ lw_good := z_g2 67 rfl rfl
theorem wg_413 : (Cond.fieldLink "PatternHouse" (68 : Nat) "PatternHouse" "shape" "LPatternHouse$Shape;") ∈ lw_good := z_g2 68 rfl rfl
theorem wg_414 : (Cond.fieldLink "PatternHouse" (74 : Nat) "PatternHouse" "editions" "[LPatternHouse$Edition;") ∈ lw_good := z_g2 69 rfl rfl
theorem wg_415 : (Cond.fieldLink "PatternHouse" (385 : Nat) "PatternHouse" "editionCount" "I") ∈ lw_good := z_g2 70 rfl rfl
theorem wg_416 : (Cond.fieldLink "PatternHouse" (81 : Nat) "PatternHouse" "plan" "LPatternHouse$Season;") ∈ lw_good := z_g2 71 rfl rfl
theorem wg_417 : (Cond.lays "PatternHouse" "PatternHouse" "today" "I") ∈ lw_good := z_g2 72 rfl rfl
theorem wg_419 : (Cond.laysFinal "PatternHouse" "PatternHouse" "refusals" "[I") ∈ lw_good := z_g2 74 rfl rfl
theorem wg_421 : (Cond.laysFinal "PatternHouse" "PatternHouse" "numbers" "[LPatternHouse$Telling;") ∈ lw_good := z_g2 76 rfl rfl
theorem wg_423 : (Cond.laysFinal "PatternHouse" "PatternHouse" "bodies" "[LPatternHouse$Body;") ∈ lw_good := z_g2 78 rfl rfl
theorem wg_425 : (Cond.lays "PatternHouse" "PatternHouse" "bodyCount" "I") ∈ lw_good := z_g2 80 rfl rfl
theorem wg_427 : (Cond.lays "PatternHouse" "PatternHouse" "alteredCount" "I") ∈ lw_good := z_g2 82 rfl rfl
theorem wg_429 : (Cond.lays "PatternHouse" "PatternHouse" "trialCount" "I") ∈ lw_good := z_g2 84 rfl rfl
theorem wg_431 : (Cond.laysFinal "PatternHouse" "PatternHouse" "pieces" "[LPatternHouse$Piece;") ∈ lw_good := z_g2 86 rfl rfl
theorem wg_433 : (Cond.lays "PatternHouse" "PatternHouse" "pieceCount" "I") ∈ lw_good := z_g2 88 rfl rfl
theorem wg_435 : (Cond.lays "PatternHouse" "PatternHouse" "ruleCount" "I") ∈ lw_good := z_g2 90 rfl rfl
theorem wg_437 : (Cond.laysFinal "PatternHouse" "PatternHouse" "text" "LPatternHouse$RuleText;") ∈ lw_good := z_g2 92 rfl rfl
theorem wg_439 : (Cond.laysFinal "PatternHouse" "PatternHouse" "drawing" "LPatternHouse$Drawing;") ∈ lw_good := z_g2 94 rfl rfl
theorem wg_441 : (Cond.laysFinal "PatternHouse" "PatternHouse" "seams" "[LPatternHouse$Seam;") ∈ lw_good := z_g2 96 rfl rfl
theorem wg_443 : (Cond.lays "PatternHouse" "PatternHouse" "seamCount" "I") ∈ lw_good := z_g2 98 rfl rfl
theorem wg_445 : (Cond.laysFinal "PatternHouse" "PatternHouse" "conditions" "LPatternHouse$Conditions;") ∈ lw_good := z_g2 100 rfl rfl
theorem wg_447 : (Cond.laysFinal "PatternHouse" "PatternHouse" "laying" "LPatternHouse$Laying;") ∈ lw_good := z_g2 102 rfl rfl
theorem wg_449 : (Cond.laysFinal "PatternHouse" "PatternHouse" "shape" "LPatternHouse$Shape;") ∈ lw_good := z_g2 104 rfl rfl
theorem wg_451 : (Cond.laysFinal "PatternHouse" "PatternHouse" "editions" "[LPatternHouse$Edition;") ∈ lw_good := z_g2 106 rfl rfl
theorem wg_453 : (Cond.lays "PatternHouse" "PatternHouse" "editionCount" "I") ∈ lw_good := z_g2 108 rfl rfl
theorem wg_455 : (Cond.laysFinal "PatternHouse" "PatternHouse" "plan" "LPatternHouse$Season;") ∈ lw_good := z_g2 110 rfl rfl
theorem wg_458 : (Cond.methodLink "PatternHouseLaw" (13 : Nat) ({ cls := "PatternHouse", name := "days", desc := "(I)I" } : MethodName)) ∈ lw_good := z_g2 113 rfl rfl
theorem wg_459 : (Cond.instanceMethod ({ cls := "PatternHouse", name := "days", desc := "(I)I" } : MethodName)) ∈ lw_good := z_g2 114 rfl rfl
theorem wg_460 : (Cond.selects "PatternHouse" ({ cls := "PatternHouse", name := "days", desc := "(I)I" } : MethodName) ({ cls := "PatternHouse", name := "days", desc := "(I)I" } : MethodName)) ∈ lw_good := z_g2 115 rfl rfl
theorem wg_461 : (Cond.code ({ cls := "PatternHouse", name := "days", desc := "(I)I" } : MethodName) prog_1_method_2_code (2 : Nat) (Option.some FieldType.int)) ∈ lw_good := z_g2 116 rfl rfl
theorem wg_462 : (Cond.methodLink "PatternHouse" (85 : Nat) ({ cls := "PatternHouse", name := "refuse", desc := "(I)I" } : MethodName)) ∈ lw_good := z_g2 117 rfl rfl
theorem wg_464 : (Cond.instanceMethod ({ cls := "PatternHouse", name := "refuse", desc := "(I)I" } : MethodName)) ∈ lw_good := z_g2 119 rfl rfl
theorem wg_465 : (Cond.code ({ cls := "PatternHouse", name := "refuse", desc := "(I)I" } : MethodName) prog_1_method_54_code (2 : Nat) (Option.some FieldType.int)) ∈ lw_good := z_g2 120 rfl rfl
theorem wg_466 : (Cond.methodLink "PatternHouseLaw" (18 : Nat) ({ cls := "PatternHouse", name := "table", desc := "(III)I" } : MethodName)) ∈ lw_good := z_g2 121 rfl rfl
theorem wg_467 : (Cond.instanceMethod ({ cls := "PatternHouse", name := "table", desc := "(III)I" } : MethodName)) ∈ lw_good := z_g2 122 rfl rfl
theorem wg_468 : (Cond.selects "PatternHouse" ({ cls := "PatternHouse", name := "table", desc := "(III)I" } : MethodName) ({ cls := "PatternHouse", name := "table", desc := "(III)I" } : MethodName)) ∈ lw_good := z_g2 123 rfl rfl
theorem wg_469 : (Cond.code ({ cls := "PatternHouse", name := "table", desc := "(III)I" } : MethodName) prog_1_method_3_code (8 : Nat) (Option.some FieldType.int)) ∈ lw_good := z_g2 124 rfl rfl
theorem wg_470 : (Cond.methodLink "PatternHouse" (93 : Nat) ({ cls := "PatternHouse", name := "isMeasure", desc := "(I)Z" } : MethodName)) ∈ lw_good := z_g2 125 rfl rfl
theorem wg_471 : (Cond.static ({ cls := "PatternHouse", name := "isMeasure", desc := "(I)Z" } : MethodName)) ∈ lw_good := z_g2 126 rfl rfl
theorem wg_472 : (Cond.code ({ cls := "PatternHouse", name := "isMeasure", desc := "(I)Z" } : MethodName) prog_1_method_58_code (1 : Nat) (Option.some FieldType.boolean)) ∈ lw_good := z_g2 127 rfl rfl
theorem wg_473 : (Cond.methodLink "PatternHouse" (97 : Nat) ({ cls := "PatternHouse", name := "isSize", desc := "(I)Z" } : MethodName)) ∈ lw_good := z_g2 128 rfl rfl
theorem wg_474 : (Cond.static ({ cls := "PatternHouse", name := "isSize", desc := "(I)Z" } : MethodName)) ∈ lw_good := z_g2 129 rfl rfl
theorem wg_475 : (Cond.code ({ cls := "PatternHouse", name := "isSize", desc := "(I)Z" } : MethodName) prog_1_method_59_code (1 : Nat) (Option.some FieldType.boolean)) ∈ lw_good := z_g2 130 rfl rfl
theorem wg_476 : (Cond.methodLink "PatternHouse" (100 : Nat) ({ cls := "PatternHouse", name := "outside", desc := "(III)I" } : MethodName)) ∈ lw_good := z_g2 131 rfl rfl
theorem wg_477 : (Cond.static ({ cls := "PatternHouse", name := "outside", desc := "(III)I" } : MethodName)) ∈ lw_good := z_g2 132 rfl rfl
theorem wg_478 : (Cond.code ({ cls := "PatternHouse", name := "outside", desc := "(III)I" } : MethodName) prog_1_method_56_code (3 : Nat) (Option.some FieldType.int)) ∈ lw_good := z_g2 133 rfl rfl
theorem wg_479 : (Cond.methodLink "PatternHouse" (104 : Nat) ({ cls := "PatternHouse", name := "numberOn", desc := "(III)I" } : MethodName)) ∈ lw_good := z_g2 134 rfl rfl
theorem wg_481 : (Cond.instanceMethod ({ cls := "PatternHouse", name := "numberOn", desc := "(III)I" } : MethodName)) ∈ lw_good := z_g2 136 rfl rfl
theorem wg_482 : (Cond.code ({ cls := "PatternHouse", name := "numberOn", desc := "(III)I" } : MethodName) prog_1_method_67_code (5 : Nat) (Option.some FieldType.int)) ∈ lw_good := z_g2 137 rfl rfl
theorem wg_483 : (Cond.instantiable "PatternHouse$Telling" (3 : Nat)) ∈ lw_good := z_g2 138 rfl rfl
theorem wg_484 : (Cond.methodLink "PatternHouse" (113 : Nat) ({ cls := "PatternHouse$Telling", name := "<init>", desc := "(IILPatternHouse$Telling;)V" } : MethodName)) ∈ lw_good := z_g2 139 rfl rfl
theorem wg_485 : (Cond.instanceMethod ({ cls := "PatternHouse$Telling", name := "<init>", desc := "(IILPatternHouse$Telling;)V" } : MethodName)) ∈ lw_good := z_g2 140 rfl rfl
theorem wg_486 : (Cond.code ({ cls := "PatternHouse$Telling", name := "<init>", desc := "(IILPatternHouse$Telling;)V" } : MethodName) prog_13_method_1_code (4 : Nat) (Option.none : Option FieldType)) ∈ lw_good := z_g2 141 rfl rfl
theorem wg_487 : (Cond.methodLink "PatternHouse$Telling" (1 : Nat) ({ cls := "java/lang/Object", name := "<init>", desc := "()V" } : MethodName)) ∈ lw_good := z_g2 142 rfl rfl
theorem wg_488 : (Cond.fieldLink "PatternHouse$Telling" (7 : Nat) "PatternHouse$Telling" "day" "I") ∈ lw_good := z_g2 143 rfl rfl
theorem wn_489 : (Cond.fieldLinkNest "PatternHouse" (107 : Nat) "PatternHouse$Telling" "day" "I" "PatternHouse") ∈ lw_nest := z_n2 144 rfl rfl
theorem wg_490 : (Cond.fieldLink "PatternHouse$Telling" (13 : Nat) "PatternHouse$Telling" "value" "I") ∈ lw_good := z_g2 145 rfl rfl
theorem wn_491 : (Cond.fieldLinkNest "PatternHouse" (110 : Nat) "PatternHouse$Telling" "value" "I" "PatternHouse") ∈ lw_nest := z_n2 146 rfl rfl
theorem wg_492 : (Cond.fieldLink "PatternHouse$Telling" (16 : Nat) "PatternHouse$Telling" "ahead" "LPatternHouse$Telling;") ∈ lw_good := z_g2 147 rfl rfl
theorem wn_493 : (Cond.fieldLinkNest "PatternHouse" (430 : Nat) "PatternHouse$Telling" "ahead" "LPatternHouse$Telling;" "PatternHouse") ∈ lw_nest := z_n2 148 rfl rfl
theorem wg_494 : (Cond.laysFinal "PatternHouse$Telling" "PatternHouse$Telling" "day" "I") ∈ lw_good := z_g2 149 rfl rfl
theorem wg_496 : (Cond.lays "PatternHouse$Telling" "PatternHouse$Telling" "value" "I") ∈ lw_good := z_g2 151 rfl rfl
theorem wg_498 : (Cond.laysFinal "PatternHouse$Telling" "PatternHouse$Telling" "ahead" "LPatternHouse$Telling;") ∈ lw_good := z_g2 153 rfl rfl
theorem wg_501 : (Cond.methodLink "PatternHouseLaw" (23 : Nat) ({ cls := "PatternHouse", name := "tabled", desc := "(III)I" } : MethodName)) ∈ lw_good := z_g2 156 rfl rfl
theorem wg_502 : (Cond.instanceMethod ({ cls := "PatternHouse", name := "tabled", desc := "(III)I" } : MethodName)) ∈ lw_good := z_g2 157 rfl rfl
theorem wg_503 : (Cond.selects "PatternHouse" ({ cls := "PatternHouse", name := "tabled", desc := "(III)I" } : MethodName) ({ cls := "PatternHouse", name := "tabled", desc := "(III)I" } : MethodName)) ∈ lw_good := z_g2 158 rfl rfl
theorem wg_504 : (Cond.code ({ cls := "PatternHouse", name := "tabled", desc := "(III)I" } : MethodName) prog_1_method_4_code (5 : Nat) (Option.some FieldType.int)) ∈ lw_good := z_g2 159 rfl rfl
theorem wg_505 : (Cond.methodLink "PatternHouseLaw" (27 : Nat) ({ cls := "PatternHouse", name := "body", desc := "(I)I" } : MethodName)) ∈ lw_good := z_g2 160 rfl rfl
theorem wg_506 : (Cond.instanceMethod ({ cls := "PatternHouse", name := "body", desc := "(I)I" } : MethodName)) ∈ lw_good := z_g2 161 rfl rfl
theorem wg_507 : (Cond.selects "PatternHouse" ({ cls := "PatternHouse", name := "body", desc := "(I)I" } : MethodName) ({ cls := "PatternHouse", name := "body", desc := "(I)I" } : MethodName)) ∈ lw_good := z_g2 162 rfl rfl
theorem wg_508 : (Cond.code ({ cls := "PatternHouse", name := "body", desc := "(I)I" } : MethodName) prog_1_method_5_code (2 : Nat) (Option.some FieldType.int)) ∈ lw_good := z_g2 163 rfl rfl
theorem wg_509 : (Cond.instantiable "PatternHouse$Body" (10 : Nat)) ∈ lw_good := z_g2 164 rfl rfl
theorem wg_510 : (Cond.methodLink "PatternHouse" (119 : Nat) ({ cls := "PatternHouse$Body", name := "<init>", desc := "(I)V" } : MethodName)) ∈ lw_good := z_g2 165 rfl rfl
theorem wg_511 : (Cond.instanceMethod ({ cls := "PatternHouse$Body", name := "<init>", desc := "(I)V" } : MethodName)) ∈ lw_good := z_g2 166 rfl rfl
theorem wg_512 : (Cond.code ({ cls := "PatternHouse$Body", name := "<init>", desc := "(I)V" } : MethodName) prog_2_method_1_code (3 : Nat) (Option.none : Option FieldType)) ∈ lw_good := z_g2 167 rfl rfl
theorem wg_513 : (Cond.methodLink "PatternHouse$Body" (3 : Nat) ({ cls := "java/lang/Object", name := "<init>", desc := "()V" } : MethodName)) ∈ lw_good := z_g2 168 rfl rfl
theorem wg_514 : (Cond.fieldLink "PatternHouse$Body" (33 : Nat) "PatternHouse$Body" "size" "I") ∈ lw_good := z_g2 169 rfl rfl
theorem wn_515 : (Cond.fieldLinkNest "PatternHouse" (434 : Nat) "PatternHouse$Body" "size" "I" "PatternHouse") ∈ lw_nest := z_n2 170 rfl rfl
theorem wg_516 : (Cond.fieldLink "PatternHouse$Body" (9 : Nat) "PatternHouse$Body" "told" "[I") ∈ lw_good := z_g2 171 rfl rfl
theorem wn_517 : (Cond.fieldLinkNest "PatternHouse" (129 : Nat) "PatternHouse$Body" "told" "[I" "PatternHouse") ∈ lw_nest := z_n2 172 rfl rfl
theorem wg_518 : (Cond.fieldLink "PatternHouse$Body" (15 : Nat) "PatternHouse$Body" "alteredKey" "[I") ∈ lw_good := z_g2 173 rfl rfl
theorem wg_519 : (Cond.fieldLink "PatternHouse$Body" (18 : Nat) "PatternHouse$Body" "alteredX" "[I") ∈ lw_good := z_g2 174 rfl rfl
theorem wg_520 : (Cond.fieldLink "PatternHouse$Body" (21 : Nat) "PatternHouse$Body" "alteredY" "[I") ∈ lw_good := z_g2 175 rfl rfl
theorem wg_521 : (Cond.fieldLink "PatternHouse$Body" (37 : Nat) "PatternHouse$Body" "altered" "I") ∈ lw_good := z_g2 176 rfl rfl
theorem wg_522 : (Cond.fieldLink "PatternHouse$Body" (24 : Nat) "PatternHouse$Body" "trialKey" "[I") ∈ lw_good := z_g2 177 rfl rfl
theorem wg_523 : (Cond.fieldLink "PatternHouse$Body" (27 : Nat) "PatternHouse$Body" "trialLeast" "[I") ∈ lw_good := z_g2 178 rfl rfl
theorem wg_524 : (Cond.fieldLink "PatternHouse$Body" (30 : Nat) "PatternHouse$Body" "trialMost" "[I") ∈ lw_good := z_g2 179 rfl rfl
theorem wg_525 : (Cond.fieldLink "PatternHouse$Body" (44 : Nat) "PatternHouse$Body" "trials" "I") ∈ lw_good := z_g2 180 rfl rfl
theorem wg_526 : (Cond.laysFinal "PatternHouse$Body" "PatternHouse$Body" "size" "I") ∈ lw_good := z_g2 181 rfl rfl
theorem wg_528 : (Cond.laysFinal "PatternHouse$Body" "PatternHouse$Body" "told" "[I") ∈ lw_good := z_g2 183 rfl rfl
theorem wg_530 : (Cond.laysFinal "PatternHouse$Body" "PatternHouse$Body" "alteredKey" "[I") ∈ lw_good := z_g2 185 rfl rfl
theorem wg_532 : (Cond.laysFinal "PatternHouse$Body" "PatternHouse$Body" "alteredX" "[I") ∈ lw_good := z_g2 187 rfl rfl
theorem wg_534 : (Cond.laysFinal "PatternHouse$Body" "PatternHouse$Body" "alteredY" "[I") ∈ lw_good := z_g2 189 rfl rfl
theorem wg_536 : (Cond.lays "PatternHouse$Body" "PatternHouse$Body" "altered" "I") ∈ lw_good := z_g2 191 rfl rfl
theorem wg_538 : (Cond.laysFinal "PatternHouse$Body" "PatternHouse$Body" "trialKey" "[I") ∈ lw_good := z_g2 193 rfl rfl
theorem wg_540 : (Cond.laysFinal "PatternHouse$Body" "PatternHouse$Body" "trialLeast" "[I") ∈ lw_good := z_g2 195 rfl rfl
theorem wg_542 : (Cond.laysFinal "PatternHouse$Body" "PatternHouse$Body" "trialMost" "[I") ∈ lw_good := z_g2 197 rfl rfl
theorem wg_544 : (Cond.lays "PatternHouse$Body" "PatternHouse$Body" "trials" "I") ∈ lw_good := z_g2 199 rfl rfl
theorem wg_547 : (Cond.methodLink "PatternHouseLaw" (31 : Nat) ({ cls := "PatternHouse", name := "measure", desc := "(III)I" } : MethodName)) ∈ lw_good := z_g2 202 rfl rfl
theorem wg_548 : (Cond.instanceMethod ({ cls := "PatternHouse", name := "measure", desc := "(III)I" } : MethodName)) ∈ lw_good := z_g2 203 rfl rfl
theorem wg_549 : (Cond.selects "PatternHouse" ({ cls := "PatternHouse", name := "measure", desc := "(III)I" } : MethodName) ({ cls := "PatternHouse", name := "measure", desc := "(III)I" } : MethodName)) ∈ lw_good := z_g2 204 rfl rfl
theorem wg_550 : (Cond.code ({ cls := "PatternHouse", name := "measure", desc := "(III)I" } : MethodName) prog_1_method_6_code (7 : Nat) (Option.some FieldType.int)) ∈ lw_good := z_g2 205 rfl rfl
theorem wg_551 : (Cond.methodLink "PatternHouse" (122 : Nat) ({ cls := "PatternHouse", name := "bodyOf", desc := "(I)LPatternHouse$Body;" } : MethodName)) ∈ lw_good := z_g2 206 rfl rfl
theorem wg_553 : (Cond.instanceMethod ({ cls := "PatternHouse", name := "bodyOf", desc := "(I)LPatternHouse$Body;" } : MethodName)) ∈ lw_good := z_g2 208 rfl rfl
theorem wg_554 : (Cond.code ({ cls := "PatternHouse", name := "bodyOf", desc := "(I)LPatternHouse$Body;" } : MethodName) prog_1_method_61_code (2 : Nat) (Option.some (FieldType.object "PatternHouse$Body"))) ∈ lw_good := z_g2 209 rfl rfl
theorem wg_555 : (Cond.methodLink "PatternHouse" (126 : Nat) ({ cls := "PatternHouse", name := "refuseApart", desc := "(I)I" } : MethodName)) ∈ lw_good := z_g2 210 rfl rfl
theorem wg_557 : (Cond.instanceMethod ({ cls := "PatternHouse", name := "refuseApart", desc := "(I)I" } : MethodName)) ∈ lw_good := z_g2 212 rfl rfl
theorem wg_558 : (Cond.code ({ cls := "PatternHouse", name := "refuseApart", desc := "(I)I" } : MethodName) prog_1_method_55_code (2 : Nat) (Option.some FieldType.int)) ∈ lw_good := z_g2 213 rfl rfl
theorem wg_559 : (Cond.constant "PatternHouse" (400 : Nat) (1000000000 : Int32)) ∈ lw_good := z_g2 214 rfl rfl
theorem wg_560 : (Cond.methodLink "PatternHouseLaw" (35 : Nat) ({ cls := "PatternHouse", name := "measured", desc := "(II)I" } : MethodName)) ∈ lw_good := z_g2 215 rfl rfl
theorem wg_561 : (Cond.instanceMethod ({ cls := "PatternHouse", name := "measured", desc := "(II)I" } : MethodName)) ∈ lw_good := z_g2 216 rfl rfl
theorem wg_562 : (Cond.selects "PatternHouse" ({ cls := "PatternHouse", name := "measured", desc := "(II)I" } : MethodName) ({ cls := "PatternHouse", name := "measured", desc := "(II)I" } : MethodName)) ∈ lw_good := z_g2 217 rfl rfl
theorem wg_563 : (Cond.code ({ cls := "PatternHouse", name := "measured", desc := "(II)I" } : MethodName) prog_1_method_7_code (4 : Nat) (Option.some FieldType.int)) ∈ lw_good := z_g2 218 rfl rfl
theorem wg_564 : (Cond.methodLink "PatternHouse" (132 : Nat) ({ cls := "PatternHouse", name := "countsNow", desc := "(LPatternHouse$Body;I)I" } : MethodName)) ∈ lw_good := z_g2 219 rfl rfl
theorem wg_566 : (Cond.instanceMethod ({ cls := "PatternHouse", name := "countsNow", desc := "(LPatternHouse$Body;I)I" } : MethodName)) ∈ lw_good := z_g2 221 rfl rfl
theorem wg_567 : (Cond.code ({ cls := "PatternHouse", name := "countsNow", desc := "(LPatternHouse$Body;I)I" } : MethodName) prog_1_method_68_code (4 : Nat) (Option.some FieldType.int)) ∈ lw_good := z_g2 222 rfl rfl
theorem wg_568 : (Cond.methodLink "PatternHouseLaw" (40 : Nat) ({ cls := "PatternHouse", name := "piece", desc := "(III)I" } : MethodName)) ∈ lw_good := z_g2 223 rfl rfl
theorem wg_569 : (Cond.instanceMethod ({ cls := "PatternHouse", name := "piece", desc := "(III)I" } : MethodName)) ∈ lw_good := z_g2 224 rfl rfl
theorem wg_570 : (Cond.selects "PatternHouse" ({ cls := "PatternHouse", name := "piece", desc := "(III)I" } : MethodName) ({ cls := "PatternHouse", name := "piece", desc := "(III)I" } : MethodName)) ∈ lw_good := z_g2 225 rfl rfl
theorem wg_571 : (Cond.code ({ cls := "PatternHouse", name := "piece", desc := "(III)I" } : MethodName) prog_1_method_8_code (6 : Nat) (Option.some FieldType.int)) ∈ lw_good := z_g2 226 rfl rfl
theorem wg_572 : (Cond.methodLink "PatternHouse" (136 : Nat) ({ cls := "PatternHouse", name := "pieceOf", desc := "(I)LPatternHouse$Piece;" } : MethodName)) ∈ lw_good := z_g2 227 rfl rfl
theorem wg_574 : (Cond.instanceMethod ({ cls := "PatternHouse", name := "pieceOf", desc := "(I)LPatternHouse$Piece;" } : MethodName)) ∈ lw_good := z_g2 229 rfl rfl
theorem wg_575 : (Cond.code ({ cls := "PatternHouse", name := "pieceOf", desc := "(I)LPatternHouse$Piece;" } : MethodName) prog_1_method_62_code (2 : Nat) (Option.some (FieldType.object "PatternHouse$Piece"))) ∈ lw_good := z_g2 230 rfl rfl
theorem wg_576 : (Cond.methodLink "PatternHouse" (140 : Nat) ({ cls := "PatternHouse$Piece", name := "lends", desc := "()Z" } : MethodName)) ∈ lw_good := z_g2 231 rfl rfl
theorem wg_577 : (Cond.instanceMethod ({ cls := "PatternHouse$Piece", name := "lends", desc := "()Z" } : MethodName)) ∈ lw_good := z_g2 232 rfl rfl
theorem wg_578 : (Cond.selects "PatternHouse$Piece" ({ cls := "PatternHouse$Piece", name := "lends", desc := "()Z" } : MethodName) ({ cls := "PatternHouse$Piece", name := "lends", desc := "()Z" } : MethodName)) ∈ lw_good := z_g2 233 rfl rfl
theorem wg_579 : (Cond.code ({ cls := "PatternHouse$Piece", name := "lends", desc := "()Z" } : MethodName) prog_7_method_2_code (1 : Nat) (Option.some FieldType.boolean)) ∈ lw_good := z_g2 234 rfl rfl
theorem wg_580 : (Cond.instantiable "PatternHouse$Piece" (11 : Nat)) ∈ lw_good := z_g2 235 rfl rfl
theorem wg_581 : (Cond.methodLink "PatternHouse" (147 : Nat) ({ cls := "PatternHouse$Piece", name := "<init>", desc := "(IIILPatternHouse$Piece;)V" } : MethodName)) ∈ lw_good := z_g2 236 rfl rfl
theorem wg_582 : (Cond.instanceMethod ({ cls := "PatternHouse$Piece", name := "<init>", desc := "(IIILPatternHouse$Piece;)V" } : MethodName)) ∈ lw_good := z_g2 237 rfl rfl
theorem wg_583 : (Cond.code ({ cls := "PatternHouse$Piece", name := "<init>", desc := "(IIILPatternHouse$Piece;)V" } : MethodName) prog_7_method_1_code (5 : Nat) (Option.none : Option FieldType)) ∈ lw_good := z_g2 238 rfl rfl
theorem wg_584 : (Cond.methodLink "PatternHouse$Piece" (3 : Nat) ({ cls := "java/lang/Object", name := "<init>", desc := "()V" } : MethodName)) ∈ lw_good := z_g2 239 rfl rfl
theorem wg_585 : (Cond.classLink "PatternHouse$Piece" (25 : Nat) "PatternHouse$Rule") ∈ lw_good := z_g3 0 rfl rfl
theorem wn_586 : (Cond.arrayOver (FieldType.object "PatternHouse$Rule")) ∈ lw_nest := z_n3 1 rfl rfl
theorem wg_587 : (Cond.fieldLink "PatternHouse$Piece" (9 : Nat) "PatternHouse$Piece" "number" "I") ∈ lw_good := z_g3 2 rfl rfl
theorem wn_588 : (Cond.fieldLinkNest "PatternHouse$Drawing" (69 : Nat) "PatternHouse$Piece" "number" "I" "PatternHouse") ∈ lw_nest := z_n3 3 rfl rfl
theorem wg_589 : (Cond.fieldLink "PatternHouse$Piece" (15 : Nat) "PatternHouse$Piece" "kind" "I") ∈ lw_good := z_g3 4 rfl rfl
theorem wn_590 : (Cond.fieldLinkNest "PatternHouse$Shape" (38 : Nat) "PatternHouse$Piece" "kind" "I" "PatternHouse") ∈ lw_nest := z_n3 5 rfl rfl
theorem wn_591 : (Cond.fieldLinkNest "PatternHouse$Drawing" (186 : Nat) "PatternHouse$Piece" "kind" "I" "PatternHouse") ∈ lw_nest := z_n3 6 rfl rfl
theorem wg_592 : (Cond.fieldLink "PatternHouse$Piece" (18 : Nat) "PatternHouse$Piece" "points" "I") ∈ lw_good := z_g3 7 rfl rfl
theorem wn_593 : (Cond.fieldLinkNest "PatternHouse$Drawing" (80 : Nat) "PatternHouse$Piece" "points" "I" "PatternHouse") ∈ lw_nest := z_n3 8 rfl rfl
theorem wn_594 : (Cond.fieldLinkNest "PatternHouse" (491 : Nat) "PatternHouse$Piece" "points" "I" "PatternHouse") ∈ lw_nest := z_n3 9 rfl rfl
theorem wg_595 : (Cond.fieldLink "PatternHouse$Piece" (21 : Nat) "PatternHouse$Piece" "block" "LPatternHouse$Piece;") ∈ lw_good := z_g3 10 rfl rfl
theorem wn_596 : (Cond.fieldLinkNest "PatternHouse$Drawing" (72 : Nat) "PatternHouse$Piece" "block" "LPatternHouse$Piece;" "PatternHouse") ∈ lw_nest := z_n3 11 rfl rfl
theorem wn_597 : (Cond.fieldLinkNest "PatternHouse" (150 : Nat) "PatternHouse$Piece" "withdrawn" "Z" "PatternHouse") ∈ lw_nest := z_n3 12 rfl rfl
theorem wg_598 : (Cond.fieldLink "PatternHouse$Piece" (27 : Nat) "PatternHouse$Piece" "rules" "[LPatternHouse$Rule;") ∈ lw_good := z_g3 13 rfl rfl
theorem wn_599 : (Cond.fieldLinkNest "PatternHouse" (173 : Nat) "PatternHouse$Piece" "rules" "[LPatternHouse$Rule;" "PatternHouse") ∈ lw_nest := z_n3 14 rfl rfl
theorem wg_600 : (Cond.fieldLink "PatternHouse$Piece" (31 : Nat) "PatternHouse$Piece" "gradeX" "[I") ∈ lw_good := z_g3 15 rfl rfl
theorem wn_601 : (Cond.fieldLinkNest "PatternHouse$Drawing" (95 : Nat) "PatternHouse$Piece" "gradeX" "[I" "PatternHouse") ∈ lw_nest := z_n3 16 rfl rfl
theorem wn_602 : (Cond.fieldLinkNest "PatternHouse" (201 : Nat) "PatternHouse$Piece" "gradeX" "[I" "PatternHouse") ∈ lw_nest := z_n3 17 rfl rfl
theorem wg_603 : (Cond.fieldLink "PatternHouse$Piece" (35 : Nat) "PatternHouse$Piece" "gradeY" "[I") ∈ lw_good := z_g3 18 rfl rfl
theorem wn_604 : (Cond.fieldLinkNest "PatternHouse$Drawing" (98 : Nat) "PatternHouse$Piece" "gradeY" "[I" "PatternHouse") ∈ lw_nest := z_n3 19 rfl rfl
theorem wn_605 : (Cond.fieldLinkNest "PatternHouse" (204 : Nat) "PatternHouse$Piece" "gradeY" "[I" "PatternHouse") ∈ lw_nest := z_n3 20 rfl rfl
theorem wg_606 : (Cond.fieldLink "PatternHouse$Piece" (38 : Nat) "PatternHouse$Piece" "curved" "[Z") ∈ lw_good := z_g3 21 rfl rfl
theorem wn_607 : (Cond.fieldLinkNest "PatternHouse$Drawing" (160 : Nat) "PatternHouse$Piece" "curved" "[Z" "PatternHouse") ∈ lw_nest := z_n3 22 rfl rfl
theorem wn_608 : (Cond.fieldLinkNest "PatternHouse" (218 : Nat) "PatternHouse$Piece" "curved" "[Z" "PatternHouse") ∈ lw_nest := z_n3 23 rfl rfl
theorem wg_609 : (Cond.fieldLink "PatternHouse$Piece" (42 : Nat) "PatternHouse$Piece" "kneeX" "[I") ∈ lw_good := z_g3 24 rfl rfl
theorem wn_610 : (Cond.fieldLinkNest "PatternHouse$Drawing" (164 : Nat) "PatternHouse$Piece" "kneeX" "[I" "PatternHouse") ∈ lw_nest := z_n3 25 rfl rfl
theorem wn_611 : (Cond.fieldLinkNest "PatternHouse" (222 : Nat) "PatternHouse$Piece" "kneeX" "[I" "PatternHouse") ∈ lw_nest := z_n3 26 rfl rfl
theorem wg_612 : (Cond.fieldLink "PatternHouse$Piece" (45 : Nat) "PatternHouse$Piece" "kneeY" "[I") ∈ lw_good := z_g3 27 rfl rfl
theorem wn_613 : (Cond.fieldLinkNest "PatternHouse$Drawing" (171 : Nat) "PatternHouse$Piece" "kneeY" "[I" "PatternHouse") ∈ lw_nest := z_n3 28 rfl rfl
theorem wn_614 : (Cond.fieldLinkNest "PatternHouse" (225 : Nat) "PatternHouse$Piece" "kneeY" "[I" "PatternHouse") ∈ lw_nest := z_n3 29 rfl rfl
theorem wg_615 : (Cond.laysFinal "PatternHouse$Piece" "PatternHouse$Piece" "number" "I") ∈ lw_good := z_g3 30 rfl rfl
theorem wg_617 : (Cond.laysFinal "PatternHouse$Piece" "PatternHouse$Piece" "kind" "I") ∈ lw_good := z_g3 32 rfl rfl
theorem wg_619 : (Cond.laysFinal "PatternHouse$Piece" "PatternHouse$Piece" "points" "I") ∈ lw_good := z_g3 34 rfl rfl
theorem wg_621 : (Cond.laysFinal "PatternHouse$Piece" "PatternHouse$Piece" "block" "LPatternHouse$Piece;") ∈ lw_good := z_g3 36 rfl rfl
theorem wg_623 : (Cond.lays "PatternHouse$Piece" "PatternHouse$Piece" "withdrawn" "Z") ∈ lw_good := z_g3 38 rfl rfl
theorem wg_625 : (Cond.laysFinal "PatternHouse$Piece" "PatternHouse$Piece" "rules" "[LPatternHouse$Rule;") ∈ lw_good := z_g3 40 rfl rfl
theorem wg_627 : (Cond.laysFinal "PatternHouse$Piece" "PatternHouse$Piece" "gradeX" "[I") ∈ lw_good := z_g3 42 rfl rfl
theorem wg_629 : (Cond.laysFinal "PatternHouse$Piece" "PatternHouse$Piece" "gradeY" "[I") ∈ lw_good := z_g3 44 rfl rfl
theorem wg_631 : (Cond.laysFinal "PatternHouse$Piece" "PatternHouse$Piece" "curved" "[Z") ∈ lw_good := z_g3 46 rfl rfl
theorem wg_633 : (Cond.laysFinal "PatternHouse$Piece" "PatternHouse$Piece" "kneeX" "[I") ∈ lw_good := z_g3 48 rfl rfl
theorem wg_635 : (Cond.laysFinal "PatternHouse$Piece" "PatternHouse$Piece" "kneeY" "[I") ∈ lw_good := z_g3 50 rfl rfl
theorem wg_638 : (Cond.arrayClass FieldType.boolean) ∈ lw_good := z_g3 53 rfl rfl
theorem wg_639 : (Cond.methodLink "PatternHouseLaw" (44 : Nat) ({ cls := "PatternHouse", name := "withdraw", desc := "(I)I" } : MethodName)) ∈ lw_good := z_g3 54 rfl rfl
theorem wg_640 : (Cond.instanceMethod ({ cls := "PatternHouse", name := "withdraw", desc := "(I)I" } : MethodName)) ∈ lw_good := z_g3 55 rfl rfl
theorem wg_641 : (Cond.selects "PatternHouse" ({ cls := "PatternHouse", name := "withdraw", desc := "(I)I" } : MethodName) ({ cls := "PatternHouse", name := "withdraw", desc := "(I)I" } : MethodName)) ∈ lw_good := z_g3 56 rfl rfl
theorem wg_642 : (Cond.code ({ cls := "PatternHouse", name := "withdraw", desc := "(I)I" } : MethodName) prog_1_method_9_code (3 : Nat) (Option.some FieldType.int)) ∈ lw_good := z_g3 57 rfl rfl
theorem wg_643 : (Cond.methodLink "PatternHouseLaw" (50 : Nat) ({ cls := "PatternHouse", name := "feed", desc := "(IJ)I" } : MethodName)) ∈ lw_good := z_g3 58 rfl rfl
theorem wg_644 : (Cond.instanceMethod ({ cls := "PatternHouse", name := "feed", desc := "(IJ)I" } : MethodName)) ∈ lw_good := z_g3 59 rfl rfl
theorem wg_645 : (Cond.selects "PatternHouse" ({ cls := "PatternHouse", name := "feed", desc := "(IJ)I" } : MethodName) ({ cls := "PatternHouse", name := "feed", desc := "(IJ)I" } : MethodName)) ∈ lw_good := z_g3 60 rfl rfl
theorem wg_646 : (Cond.code ({ cls := "PatternHouse", name := "feed", desc := "(IJ)I" } : MethodName) prog_1_method_10_code (5 : Nat) (Option.some FieldType.int)) ∈ lw_good := z_g3 61 rfl rfl
theorem wg_647 : (Cond.methodLink "PatternHouse" (157 : Nat) ({ cls := "PatternHouse$RuleText", name := "add", desc := "(I)V" } : MethodName)) ∈ lw_good := z_g3 62 rfl rfl
theorem wg_648 : (Cond.instanceMethod ({ cls := "PatternHouse$RuleText", name := "add", desc := "(I)V" } : MethodName)) ∈ lw_good := z_g3 63 rfl rfl
theorem wg_649 : (Cond.selects "PatternHouse$RuleText" ({ cls := "PatternHouse$RuleText", name := "add", desc := "(I)V" } : MethodName) ({ cls := "PatternHouse$RuleText", name := "add", desc := "(I)V" } : MethodName)) ∈ lw_good := z_g3 64 rfl rfl
theorem wg_650 : (Cond.code ({ cls := "PatternHouse$RuleText", name := "add", desc := "(I)V" } : MethodName) prog_9_method_2_code (2 : Nat) (Option.none : Option FieldType)) ∈ lw_good := z_g3 65 rfl rfl
theorem wg_651 : (Cond.methodLink "PatternHouseLaw" (55 : Nat) ({ cls := "PatternHouse", name := "rule", desc := "(III)I" } : MethodName)) ∈ lw_good := z_g3 66 rfl rfl
theorem wg_652 : (Cond.instanceMethod ({ cls := "PatternHouse", name := "rule", desc := "(III)I" } : MethodName)) ∈ lw_good := z_g3 67 rfl rfl
theorem wg_653 : (Cond.selects "PatternHouse" ({ cls := "PatternHouse", name := "rule", desc := "(III)I" } : MethodName) ({ cls := "PatternHouse", name := "rule", desc := "(III)I" } : MethodName)) ∈ lw_good := z_g3 68 rfl rfl
theorem wg_654 : (Cond.code ({ cls := "PatternHouse", name := "rule", desc := "(III)I" } : MethodName) prog_1_method_11_code (7 : Nat) (Option.some FieldType.int)) ∈ lw_good := z_g3 69 rfl rfl
theorem wg_655 : (Cond.methodLink "PatternHouse" (160 : Nat) ({ cls := "PatternHouse", name := "pieceWith", desc := "(II)LPatternHouse$Piece;" } : MethodName)) ∈ lw_good := z_g3 70 rfl rfl
theorem wg_657 : (Cond.instanceMethod ({ cls := "PatternHouse", name := "pieceWith", desc := "(II)LPatternHouse$Piece;" } : MethodName)) ∈ lw_good := z_g3 72 rfl rfl
theorem wg_658 : (Cond.code ({ cls := "PatternHouse", name := "pieceWith", desc := "(II)LPatternHouse$Piece;" } : MethodName) prog_1_method_63_code (4 : Nat) (Option.some (FieldType.object "PatternHouse$Piece"))) ∈ lw_good := z_g3 73 rfl rfl
theorem wg_659 : (Cond.methodLink "PatternHouse" (246 : Nat) ({ cls := "PatternHouse$Piece", name := "has", desc := "(I)Z" } : MethodName)) ∈ lw_good := z_g3 74 rfl rfl
theorem wg_660 : (Cond.instanceMethod ({ cls := "PatternHouse$Piece", name := "has", desc := "(I)Z" } : MethodName)) ∈ lw_good := z_g3 75 rfl rfl
theorem wg_661 : (Cond.selects "PatternHouse$Piece" ({ cls := "PatternHouse$Piece", name := "has", desc := "(I)Z" } : MethodName) ({ cls := "PatternHouse$Piece", name := "has", desc := "(I)Z" } : MethodName)) ∈ lw_good := z_g3 76 rfl rfl
theorem wg_662 : (Cond.code ({ cls := "PatternHouse$Piece", name := "has", desc := "(I)Z" } : MethodName) prog_7_method_3_code (2 : Nat) (Option.some FieldType.boolean)) ∈ lw_good := z_g3 77 rfl rfl
theorem wg_663 : (Cond.methodLink "PatternHouse" (167 : Nat) ({ cls := "PatternHouse$RuleText", name := "reads", desc := "(I)Z" } : MethodName)) ∈ lw_good := z_g3 78 rfl rfl
theorem wg_664 : (Cond.instanceMethod ({ cls := "PatternHouse$RuleText", name := "reads", desc := "(I)Z" } : MethodName)) ∈ lw_good := z_g3 79 rfl rfl
theorem wg_665 : (Cond.selects "PatternHouse$RuleText" ({ cls := "PatternHouse$RuleText", name := "reads", desc := "(I)Z" } : MethodName) ({ cls := "PatternHouse$RuleText", name := "reads", desc := "(I)Z" } : MethodName)) ∈ lw_good := z_g3 80 rfl rfl
theorem wg_666 : (Cond.code ({ cls := "PatternHouse$RuleText", name := "reads", desc := "(I)Z" } : MethodName) prog_9_method_3_code (2 : Nat) (Option.some FieldType.boolean)) ∈ lw_good := z_g3 81 rfl rfl
theorem wg_667 : (Cond.methodLink "PatternHouse$RuleText" (34 : Nat) ({ cls := "PatternHouse$RuleText", name := "readSum", desc := "(I)Z" } : MethodName)) ∈ lw_good := z_g3 82 rfl rfl
theorem wg_669 : (Cond.instanceMethod ({ cls := "PatternHouse$RuleText", name := "readSum", desc := "(I)Z" } : MethodName)) ∈ lw_good := z_g3 84 rfl rfl
theorem wg_670 : (Cond.code ({ cls := "PatternHouse$RuleText", name := "readSum", desc := "(I)Z" } : MethodName) prog_9_method_9_code (5 : Nat) (Option.some FieldType.boolean)) ∈ lw_good := z_g3 85 rfl rfl
theorem wg_671 : (Cond.methodLink "PatternHouse$RuleText" (55 : Nat) ({ cls := "PatternHouse$RuleText", name := "readTerm", desc := "(I)Z" } : MethodName)) ∈ lw_good := z_g3 86 rfl rfl
theorem wg_673 : (Cond.instanceMethod ({ cls := "PatternHouse$RuleText", name := "readTerm", desc := "(I)Z" } : MethodName)) ∈ lw_good := z_g3 88 rfl rfl
theorem wg_674 : (Cond.code ({ cls := "PatternHouse$RuleText", name := "readTerm", desc := "(I)Z" } : MethodName) prog_9_method_10_code (5 : Nat) (Option.some FieldType.boolean)) ∈ lw_good := z_g3 89 rfl rfl
theorem wg_675 : (Cond.methodLink "PatternHouse$RuleText" (61 : Nat) ({ cls := "PatternHouse$RuleText", name := "readUnit", desc := "(I)Z" } : MethodName)) ∈ lw_good := z_g3 90 rfl rfl
theorem wg_677 : (Cond.instanceMethod ({ cls := "PatternHouse$RuleText", name := "readUnit", desc := "(I)Z" } : MethodName)) ∈ lw_good := z_g3 92 rfl rfl
theorem wg_678 : (Cond.code ({ cls := "PatternHouse$RuleText", name := "readUnit", desc := "(I)Z" } : MethodName) prog_9_method_11_code (3 : Nat) (Option.some FieldType.boolean)) ∈ lw_good := z_g3 93 rfl rfl
theorem wg_679 : (Cond.methodLink "PatternHouse$RuleText" (38 : Nat) ({ cls := "PatternHouse$RuleText", name := "next", desc := "()I" } : MethodName)) ∈ lw_good := z_g3 94 rfl rfl
theorem wg_681 : (Cond.instanceMethod ({ cls := "PatternHouse$RuleText", name := "next", desc := "()I" } : MethodName)) ∈ lw_good := z_g3 96 rfl rfl
theorem wg_682 : (Cond.code ({ cls := "PatternHouse$RuleText", name := "next", desc := "()I" } : MethodName) prog_9_method_6_code (1 : Nat) (Option.some FieldType.int)) ∈ lw_good := z_g3 97 rfl rfl
theorem wg_683 : (Cond.methodLink "PatternHouse$RuleText" (64 : Nat) ({ cls := "PatternHouse$RuleText", name := "isDigit", desc := "(I)Z" } : MethodName)) ∈ lw_good := z_g3 98 rfl rfl
theorem wg_684 : (Cond.static ({ cls := "PatternHouse$RuleText", name := "isDigit", desc := "(I)Z" } : MethodName)) ∈ lw_good := z_g3 99 rfl rfl
theorem wg_685 : (Cond.code ({ cls := "PatternHouse$RuleText", name := "isDigit", desc := "(I)Z" } : MethodName) prog_9_method_15_code (1 : Nat) (Option.some FieldType.boolean)) ∈ lw_good := z_g3 100 rfl rfl
theorem wg_686 : (Cond.methodLink "PatternHouse$RuleText" (67 : Nat) ({ cls := "PatternHouse$RuleText", name := "readNumber", desc := "()Z" } : MethodName)) ∈ lw_good := z_g3 101 rfl rfl
theorem wg_688 : (Cond.instanceMethod ({ cls := "PatternHouse$RuleText", name := "readNumber", desc := "()Z" } : MethodName)) ∈ lw_good := z_g3 103 rfl rfl
theorem wg_689 : (Cond.code ({ cls := "PatternHouse$RuleText", name := "readNumber", desc := "()Z" } : MethodName) prog_9_method_12_code (3 : Nat) (Option.some FieldType.boolean)) ∈ lw_good := z_g3 104 rfl rfl
theorem wg_690 : (Cond.methodLink "PatternHouse$RuleText" (58 : Nat) ({ cls := "PatternHouse$RuleText", name := "emit", desc := "(I)Z" } : MethodName)) ∈ lw_good := z_g3 105 rfl rfl
theorem wg_692 : (Cond.instanceMethod ({ cls := "PatternHouse$RuleText", name := "emit", desc := "(I)Z" } : MethodName)) ∈ lw_good := z_g3 107 rfl rfl
theorem wg_693 : (Cond.code ({ cls := "PatternHouse$RuleText", name := "emit", desc := "(I)Z" } : MethodName) prog_9_method_8_code (2 : Nat) (Option.some FieldType.boolean)) ∈ lw_good := z_g3 108 rfl rfl
theorem wg_694 : (Cond.methodLink "PatternHouse$RuleText" (42 : Nat) ({ cls := "PatternHouse$RuleText", name := "failHere", desc := "()Z" } : MethodName)) ∈ lw_good := z_g3 109 rfl rfl
theorem wg_696 : (Cond.instanceMethod ({ cls := "PatternHouse$RuleText", name := "failHere", desc := "()Z" } : MethodName)) ∈ lw_good := z_g3 111 rfl rfl
theorem wg_697 : (Cond.code ({ cls := "PatternHouse$RuleText", name := "failHere", desc := "()Z" } : MethodName) prog_9_method_7_code (1 : Nat) (Option.some FieldType.boolean)) ∈ lw_good := z_g3 112 rfl rfl
theorem wg_698 : (Cond.methodLink "PatternHouse$RuleText" (70 : Nat) ({ cls := "PatternHouse$RuleText", name := "readPoint", desc := "(I)Z" } : MethodName)) ∈ lw_good := z_g3 113 rfl rfl
theorem wg_700 : (Cond.instanceMethod ({ cls := "PatternHouse$RuleText", name := "readPoint", desc := "(I)Z" } : MethodName)) ∈ lw_good := z_g3 115 rfl rfl
theorem wg_701 : (Cond.code ({ cls := "PatternHouse$RuleText", name := "readPoint", desc := "(I)Z" } : MethodName) prog_9_method_13_code (3 : Nat) (Option.some FieldType.boolean)) ∈ lw_good := z_g3 116 rfl rfl
theorem wg_702 : (Cond.methodLink "PatternHouse$RuleText" (73 : Nat) ({ cls := "PatternHouse$RuleText", name := "readBracket", desc := "(I)Z" } : MethodName)) ∈ lw_good := z_g3 117 rfl rfl
theorem wg_704 : (Cond.instanceMethod ({ cls := "PatternHouse$RuleText", name := "readBracket", desc := "(I)Z" } : MethodName)) ∈ lw_good := z_g3 119 rfl rfl
theorem wg_705 : (Cond.code ({ cls := "PatternHouse$RuleText", name := "readBracket", desc := "(I)Z" } : MethodName) prog_9_method_14_code (2 : Nat) (Option.some FieldType.boolean)) ∈ lw_good := z_g3 120 rfl rfl
theorem wg_706 : (Cond.classLink "PatternHouse" (177 : Nat) "PatternHouse$Rule") ∈ lw_good := z_g3 121 rfl rfl
theorem wg_707 : (Cond.instantiable "PatternHouse$Rule" (4 : Nat)) ∈ lw_good := z_g3 122 rfl rfl
theorem wg_708 : (Cond.methodLink "PatternHouse" (179 : Nat) ({ cls := "PatternHouse$RuleText", name := "codeOfX", desc := "()[I" } : MethodName)) ∈ lw_good := z_g3 123 rfl rfl
theorem wg_709 : (Cond.instanceMethod ({ cls := "PatternHouse$RuleText", name := "codeOfX", desc := "()[I" } : MethodName)) ∈ lw_good := z_g3 124 rfl rfl
theorem wg_710 : (Cond.selects "PatternHouse$RuleText" ({ cls := "PatternHouse$RuleText", name := "codeOfX", desc := "()[I" } : MethodName) ({ cls := "PatternHouse$RuleText", name := "codeOfX", desc := "()[I" } : MethodName)) ∈ lw_good := z_g3 125 rfl rfl
theorem wg_711 : (Cond.code ({ cls := "PatternHouse$RuleText", name := "codeOfX", desc := "()[I" } : MethodName) prog_9_method_4_code (1 : Nat) (Option.some (FieldType.array FieldType.int))) ∈ lw_good := z_g3 126 rfl rfl
theorem wg_712 : (Cond.methodLink "PatternHouse$RuleText" (49 : Nat) ({ cls := "java/util/Arrays", name := "copyOfRange", desc := "([III)[I" } : MethodName)) ∈ lw_good := z_g3 127 rfl rfl
theorem wg_713 : (Cond.static ({ cls := "java/util/Arrays", name := "copyOfRange", desc := "([III)[I" } : MethodName)) ∈ lw_good := z_g3 128 rfl rfl
theorem wg_714 : (Cond.code ({ cls := "java/util/Arrays", name := "copyOfRange", desc := "([III)[I" } : MethodName) prog_20_method_136_code (3 : Nat) (Option.some (FieldType.array FieldType.int))) ∈ lw_good := z_g3 129 rfl rfl
theorem wg_715 : (Cond.methodLink "java/util/Arrays" (351 : Nat) ({ cls := "java/util/Arrays", name := "copyOfRangeInt", desc := "([III)[I" } : MethodName)) ∈ lw_good := z_g3 130 rfl rfl
theorem wg_716 : (Cond.static ({ cls := "java/util/Arrays", name := "copyOfRangeInt", desc := "([III)[I" } : MethodName)) ∈ lw_good := z_g3 131 rfl rfl
theorem wg_717 : (Cond.code ({ cls := "java/util/Arrays", name := "copyOfRangeInt", desc := "([III)[I" } : MethodName) prog_20_method_137_code (5 : Nat) (Option.some (FieldType.array FieldType.int))) ∈ lw_good := z_g3 132 rfl rfl
theorem wg_718 : (Cond.methodLink "java/util/Arrays" (343 : Nat) ({ cls := "java/util/Arrays", name := "checkLength", desc := "(II)V" } : MethodName)) ∈ lw_good := z_g3 133 rfl rfl
theorem wg_719 : (Cond.static ({ cls := "java/util/Arrays", name := "checkLength", desc := "(II)V" } : MethodName)) ∈ lw_good := z_g3 134 rfl rfl
theorem wg_720 : (Cond.code ({ cls := "java/util/Arrays", name := "checkLength", desc := "(II)V" } : MethodName) prog_20_method_131_code (2 : Nat) (Option.none : Option FieldType)) ∈ lw_good := z_g3 135 rfl rfl
theorem wg_721 : (Cond.methodLink "java/util/Arrays" (304 : Nat) ({ cls := "java/lang/Math", name := "min", desc := "(II)I" } : MethodName)) ∈ lw_good := z_g3 136 rfl rfl
theorem wg_722 : (Cond.static ({ cls := "java/lang/Math", name := "min", desc := "(II)I" } : MethodName)) ∈ lw_good := z_g3 137 rfl rfl
theorem wg_723 : (Cond.code ({ cls := "java/lang/Math", name := "min", desc := "(II)I" } : MethodName) prog_18_method_69_code (2 : Nat) (Option.some FieldType.int)) ∈ lw_good := z_g3 138 rfl rfl
theorem wg_724 : (Cond.methodLink "java/util/Arrays" (150 : Nat) ({ cls := "java/lang/System", name := "arraycopy", desc := "(Ljava/lang/Object;ILjava/lang/Object;II)V" } : MethodName)) ∈ lw_good := z_g3 139 rfl rfl
theorem wg_725 : (Cond.static ({ cls := "java/lang/System", name := "arraycopy", desc := "(Ljava/lang/Object;ILjava/lang/Object;II)V" } : MethodName)) ∈ lw_good := z_g3 140 rfl rfl
theorem wg_726 : (Cond.native ({ cls := "java/lang/System", name := "arraycopy", desc := "(Ljava/lang/Object;ILjava/lang/Object;II)V" } : MethodName)) ∈ lw_good := z_g3 141 rfl rfl
theorem wg_727 : (Cond.methodLink "java/util/Arrays" (316 : Nat) ({ cls := "[I", name := "clone", desc := "()Ljava/lang/Object;" } : MethodName)) ∈ lw_good := z_g3 142 rfl rfl
theorem wg_728 : (Cond.classLink "java/util/Arrays" (317 : Nat) "[I") ∈ lw_good := z_g3 143 rfl rfl
theorem wg_729 : (Cond.methodLink "PatternHouse" (183 : Nat) ({ cls := "PatternHouse$RuleText", name := "codeOfY", desc := "()[I" } : MethodName)) ∈ lw_good := z_g3 144 rfl rfl
theorem wg_730 : (Cond.instanceMethod ({ cls := "PatternHouse$RuleText", name := "codeOfY", desc := "()[I" } : MethodName)) ∈ lw_good := z_g3 145 rfl rfl
theorem wg_731 : (Cond.selects "PatternHouse$RuleText" ({ cls := "PatternHouse$RuleText", name := "codeOfY", desc := "()[I" } : MethodName) ({ cls := "PatternHouse$RuleText", name := "codeOfY", desc := "()[I" } : MethodName)) ∈ lw_good := z_g3 146 rfl rfl
theorem wg_732 : (Cond.code ({ cls := "PatternHouse$RuleText", name := "codeOfY", desc := "()[I" } : MethodName) prog_9_method_5_code (1 : Nat) (Option.some (FieldType.array FieldType.int))) ∈ lw_good := z_g3 147 rfl rfl
theorem wg_733 : (Cond.methodLink "PatternHouse" (186 : Nat) ({ cls := "PatternHouse$Rule", name := "<init>", desc := "(I[I[ILPatternHouse$Rule;)V" } : MethodName)) ∈ lw_good := z_g3 148 rfl rfl
theorem wg_734 : (Cond.instanceMethod ({ cls := "PatternHouse$Rule", name := "<init>", desc := "(I[I[ILPatternHouse$Rule;)V" } : MethodName)) ∈ lw_good := z_g3 149 rfl rfl
theorem wg_735 : (Cond.code ({ cls := "PatternHouse$Rule", name := "<init>", desc := "(I[I[ILPatternHouse$Rule;)V" } : MethodName) prog_8_method_1_code (5 : Nat) (Option.none : Option FieldType)) ∈ lw_good := z_g3 150 rfl rfl
theorem wg_736 : (Cond.methodLink "PatternHouse$Rule" (1 : Nat) ({ cls := "java/lang/Object", name := "<init>", desc := "()V" } : MethodName)) ∈ lw_good := z_g3 151 rfl rfl
theorem wg_737 : (Cond.fieldLink "PatternHouse$Rule" (7 : Nat) "PatternHouse$Rule" "from" "I") ∈ lw_good := z_g3 152 rfl rfl
theorem wn_738 : (Cond.fieldLinkNest "PatternHouse$Piece" (48 : Nat) "PatternHouse$Rule" "from" "I" "PatternHouse") ∈ lw_nest := z_n3 153 rfl rfl
theorem wg_739 : (Cond.fieldLink "PatternHouse$Rule" (13 : Nat) "PatternHouse$Rule" "codeX" "[I") ∈ lw_good := z_g3 154 rfl rfl
theorem wn_740 : (Cond.fieldLinkNest "PatternHouse$Drawing" (107 : Nat) "PatternHouse$Rule" "codeX" "[I" "PatternHouse") ∈ lw_nest := z_n3 155 rfl rfl
theorem wg_741 : (Cond.fieldLink "PatternHouse$Rule" (17 : Nat) "PatternHouse$Rule" "codeY" "[I") ∈ lw_good := z_g3 156 rfl rfl
theorem wn_742 : (Cond.fieldLinkNest "PatternHouse$Drawing" (116 : Nat) "PatternHouse$Rule" "codeY" "[I" "PatternHouse") ∈ lw_nest := z_n3 157 rfl rfl
theorem wg_743 : (Cond.fieldLink "PatternHouse$Rule" (20 : Nat) "PatternHouse$Rule" "ahead" "LPatternHouse$Rule;") ∈ lw_good := z_g3 158 rfl rfl
theorem wn_744 : (Cond.fieldLinkNest "PatternHouse$Piece" (51 : Nat) "PatternHouse$Rule" "ahead" "LPatternHouse$Rule;" "PatternHouse") ∈ lw_nest := z_n3 159 rfl rfl
theorem wg_745 : (Cond.laysFinal "PatternHouse$Rule" "PatternHouse$Rule" "from" "I") ∈ lw_good := z_g3 160 rfl rfl
theorem wg_747 : (Cond.laysFinal "PatternHouse$Rule" "PatternHouse$Rule" "codeX" "[I") ∈ lw_good := z_g3 162 rfl rfl
theorem wg_749 : (Cond.laysFinal "PatternHouse$Rule" "PatternHouse$Rule" "codeY" "[I") ∈ lw_good := z_g3 164 rfl rfl
theorem wg_751 : (Cond.laysFinal "PatternHouse$Rule" "PatternHouse$Rule" "ahead" "LPatternHouse$Rule;") ∈ lw_good := z_g3 166 rfl rfl
theorem wg_754 : (Cond.methodLink "PatternHouseLaw" (59 : Nat) ({ cls := "PatternHouse", name := "quarrel", desc := "(III)I" } : MethodName)) ∈ lw_good := z_g3 169 rfl rfl
theorem wg_755 : (Cond.instanceMethod ({ cls := "PatternHouse", name := "quarrel", desc := "(III)I" } : MethodName)) ∈ lw_good := z_g3 170 rfl rfl
theorem wg_756 : (Cond.selects "PatternHouse" ({ cls := "PatternHouse", name := "quarrel", desc := "(III)I" } : MethodName) ({ cls := "PatternHouse", name := "quarrel", desc := "(III)I" } : MethodName)) ∈ lw_good := z_g3 171 rfl rfl
theorem wg_757 : (Cond.code ({ cls := "PatternHouse", name := "quarrel", desc := "(III)I" } : MethodName) prog_1_method_12_code (6 : Nat) (Option.some FieldType.int)) ∈ lw_good := z_g3 172 rfl rfl
theorem wg_758 : (Cond.methodLink "PatternHouse" (189 : Nat) ({ cls := "PatternHouse$Piece", name := "rulesAtOnce", desc := "(II)I" } : MethodName)) ∈ lw_good := z_g3 173 rfl rfl
theorem wg_759 : (Cond.instanceMethod ({ cls := "PatternHouse$Piece", name := "rulesAtOnce", desc := "(II)I" } : MethodName)) ∈ lw_good := z_g3 174 rfl rfl
theorem wg_760 : (Cond.selects "PatternHouse$Piece" ({ cls := "PatternHouse$Piece", name := "rulesAtOnce", desc := "(II)I" } : MethodName) ({ cls := "PatternHouse$Piece", name := "rulesAtOnce", desc := "(II)I" } : MethodName)) ∈ lw_good := z_g3 175 rfl rfl
theorem wg_761 : (Cond.code ({ cls := "PatternHouse$Piece", name := "rulesAtOnce", desc := "(II)I" } : MethodName) prog_7_method_5_code (6 : Nat) (Option.some FieldType.int)) ∈ lw_good := z_g3 176 rfl rfl
theorem wg_762 : (Cond.methodLink "PatternHouse$Piece" (55 : Nat) ({ cls := "PatternHouse$Piece", name := "ruleOn", desc := "(II)LPatternHouse$Rule;" } : MethodName)) ∈ lw_good := z_g3 177 rfl rfl
theorem wg_763 : (Cond.instanceMethod ({ cls := "PatternHouse$Piece", name := "ruleOn", desc := "(II)LPatternHouse$Rule;" } : MethodName)) ∈ lw_good := z_g3 178 rfl rfl
theorem wg_764 : (Cond.selects "PatternHouse$Piece" ({ cls := "PatternHouse$Piece", name := "ruleOn", desc := "(II)LPatternHouse$Rule;" } : MethodName) ({ cls := "PatternHouse$Piece", name := "ruleOn", desc := "(II)LPatternHouse$Rule;" } : MethodName)) ∈ lw_good := z_g3 179 rfl rfl
theorem wg_765 : (Cond.code ({ cls := "PatternHouse$Piece", name := "ruleOn", desc := "(II)LPatternHouse$Rule;" } : MethodName) prog_7_method_4_code (5 : Nat) (Option.some (FieldType.object "PatternHouse$Rule"))) ∈ lw_good := z_g3 180 rfl rfl
theorem wg_766 : (Cond.methodLink "PatternHouseLaw" (63 : Nat) ({ cls := "PatternHouse", name := "from", desc := "(III)I" } : MethodName)) ∈ lw_good := z_g3 181 rfl rfl
theorem wg_767 : (Cond.instanceMethod ({ cls := "PatternHouse", name := "from", desc := "(III)I" } : MethodName)) ∈ lw_good := z_g3 182 rfl rfl
theorem wg_768 : (Cond.selects "PatternHouse" ({ cls := "PatternHouse", name := "from", desc := "(III)I" } : MethodName) ({ cls := "PatternHouse", name := "from", desc := "(III)I" } : MethodName)) ∈ lw_good := z_g3 183 rfl rfl
theorem wg_769 : (Cond.code ({ cls := "PatternHouse", name := "from", desc := "(III)I" } : MethodName) prog_1_method_13_code (6 : Nat) (Option.some FieldType.int)) ∈ lw_good := z_g3 184 rfl rfl
theorem wg_770 : (Cond.methodLink "PatternHouse" (193 : Nat) ({ cls := "PatternHouse$Drawing", name := "comesFrom", desc := "(LPatternHouse$Piece;II)I" } : MethodName)) ∈ lw_good := z_g3 185 rfl rfl
theorem wg_771 : (Cond.instanceMethod ({ cls := "PatternHouse$Drawing", name := "comesFrom", desc := "(LPatternHouse$Piece;II)I" } : MethodName)) ∈ lw_good := z_g3 186 rfl rfl
theorem wg_772 : (Cond.selects "PatternHouse$Drawing" ({ cls := "PatternHouse$Drawing", name := "comesFrom", desc := "(LPatternHouse$Piece;II)I" } : MethodName) ({ cls := "PatternHouse$Drawing", name := "comesFrom", desc := "(LPatternHouse$Piece;II)I" } : MethodName)) ∈ lw_good := z_g3 187 rfl rfl
theorem wg_773 : (Cond.code ({ cls := "PatternHouse$Drawing", name := "comesFrom", desc := "(LPatternHouse$Piece;II)I" } : MethodName) prog_4_method_11_code (6 : Nat) (Option.some FieldType.int)) ∈ lw_good := z_g3 188 rfl rfl
theorem wg_774 : (Cond.methodLink "PatternHouse$Drawing" (63 : Nat) ({ cls := "java/util/Arrays", name := "fill", desc := "([II)V" } : MethodName)) ∈ lw_good := z_g3 189 rfl rfl
theorem wg_775 : (Cond.static ({ cls := "java/util/Arrays", name := "fill", desc := "([II)V" } : MethodName)) ∈ lw_good := z_g3 190 rfl rfl
theorem wg_776 : (Cond.code ({ cls := "java/util/Arrays", name := "fill", desc := "([II)V" } : MethodName) prog_20_method_103_code (4 : Nat) (Option.none : Option FieldType)) ∈ lw_good := z_g3 191 rfl rfl
theorem wg_777 : (Cond.methodLink "PatternHouse$Drawing" (145 : Nat) ({ cls := "PatternHouse$Drawing", name := "nameOne", desc := "(LPatternHouse$Piece;I)V" } : MethodName)) ∈ lw_good := z_g3 192 rfl rfl
theorem wg_779 : (Cond.instanceMethod ({ cls := "PatternHouse$Drawing", name := "nameOne", desc := "(LPatternHouse$Piece;I)V" } : MethodName)) ∈ lw_good := z_g3 194 rfl rfl
theorem wg_780 : (Cond.code ({ cls := "PatternHouse$Drawing", name := "nameOne", desc := "(LPatternHouse$Piece;I)V" } : MethodName) prog_4_method_12_code (5 : Nat) (Option.none : Option FieldType)) ∈ lw_good := z_g3 195 rfl rfl
theorem wg_781 : (Cond.methodLink "PatternHouse$Drawing" (83 : Nat) ({ cls := "PatternHouse$Piece", name := "ruleOn", desc := "(II)LPatternHouse$Rule;" } : MethodName)) ∈ lw_good := z_g3 196 rfl rfl
theorem wg_782 : (Cond.methodLink "PatternHouse$Drawing" (149 : Nat) ({ cls := "PatternHouse$Drawing", name := "namedIn", desc := "([I)I" } : MethodName)) ∈ lw_good := z_g3 197 rfl rfl
theorem wg_784 : (Cond.instanceMethod ({ cls := "PatternHouse$Drawing", name := "namedIn", desc := "([I)I" } : MethodName)) ∈ lw_good := z_g3 199 rfl rfl
theorem wg_785 : (Cond.code ({ cls := "PatternHouse$Drawing", name := "namedIn", desc := "([I)I" } : MethodName) prog_4_method_13_code (6 : Nat) (Option.some FieldType.int)) ∈ lw_good := z_g3 200 rfl rfl
theorem wg_786 : (Cond.methodLink "PatternHouse$Drawing" (153 : Nat) ({ cls := "PatternHouse$Drawing", name := "pointOf", desc := "(I)I" } : MethodName)) ∈ lw_good := z_g3 201 rfl rfl
theorem wg_787 : (Cond.static ({ cls := "PatternHouse$Drawing", name := "pointOf", desc := "(I)I" } : MethodName)) ∈ lw_good := z_g3 202 rfl rfl
theorem wg_788 : (Cond.code ({ cls := "PatternHouse$Drawing", name := "pointOf", desc := "(I)I" } : MethodName) prog_4_method_14_code (1 : Nat) (Option.some FieldType.int)) ∈ lw_good := z_g3 203 rfl rfl
theorem wg_789 : (Cond.methodLink "PatternHouseLaw" (67 : Nat) ({ cls := "PatternHouse", name := "grade", desc := "(IIII)I" } : MethodName)) ∈ lw_good := z_g3 204 rfl rfl
theorem wg_790 : (Cond.instanceMethod ({ cls := "PatternHouse", name := "grade", desc := "(IIII)I" } : MethodName)) ∈ lw_good := z_g3 205 rfl rfl
theorem wg_791 : (Cond.selects "PatternHouse" ({ cls := "PatternHouse", name := "grade", desc := "(IIII)I" } : MethodName) ({ cls := "PatternHouse", name := "grade", desc := "(IIII)I" } : MethodName)) ∈ lw_good := z_g3 206 rfl rfl
theorem wg_792 : (Cond.code ({ cls := "PatternHouse", name := "grade", desc := "(IIII)I" } : MethodName) prog_1_method_14_code (7 : Nat) (Option.some FieldType.int)) ∈ lw_good := z_g3 207 rfl rfl
theorem wg_793 : (Cond.methodLink "PatternHouse" (197 : Nat) ({ cls := "PatternHouse", name := "bothOutside", desc := "(IIII)I" } : MethodName)) ∈ lw_good := z_g3 208 rfl rfl
theorem wg_794 : (Cond.static ({ cls := "PatternHouse", name := "bothOutside", desc := "(IIII)I" } : MethodName)) ∈ lw_good := z_g3 209 rfl rfl
theorem wg_795 : (Cond.code ({ cls := "PatternHouse", name := "bothOutside", desc := "(IIII)I" } : MethodName) prog_1_method_57_code (4 : Nat) (Option.some FieldType.int)) ∈ lw_good := z_g3 210 rfl rfl
theorem wg_796 : (Cond.methodLink "PatternHouse" (297 : Nat) ({ cls := "java/lang/Math", name := "min", desc := "(II)I" } : MethodName)) ∈ lw_good := z_g3 211 rfl rfl
theorem wg_797 : (Cond.methodLink "PatternHouse" (302 : Nat) ({ cls := "java/lang/Math", name := "max", desc := "(II)I" } : MethodName)) ∈ lw_good := z_g3 212 rfl rfl
theorem wg_798 : (Cond.static ({ cls := "java/lang/Math", name := "max", desc := "(II)I" } : MethodName)) ∈ lw_good := z_g3 213 rfl rfl
theorem wg_799 : (Cond.code ({ cls := "java/lang/Math", name := "max", desc := "(II)I" } : MethodName) prog_18_method_65_code (2 : Nat) (Option.some FieldType.int)) ∈ lw_good := z_g3 214 rfl rfl
theorem wg_800 : (Cond.methodLink "PatternHouseLaw" (72 : Nat) ({ cls := "PatternHouse", name := "alter", desc := "(IIIII)I" } : MethodName)) ∈ lw_good := z_g3 215 rfl rfl
theorem wg_801 : (Cond.instanceMethod ({ cls := "PatternHouse", name := "alter", desc := "(IIIII)I" } : MethodName)) ∈ lw_good := z_g3 216 rfl rfl
theorem wg_802 : (Cond.selects "PatternHouse" ({ cls := "PatternHouse", name := "alter", desc := "(IIIII)I" } : MethodName) ({ cls := "PatternHouse", name := "alter", desc := "(IIIII)I" } : MethodName)) ∈ lw_good := z_g3 217 rfl rfl
theorem wg_803 : (Cond.code ({ cls := "PatternHouse", name := "alter", desc := "(IIIII)I" } : MethodName) prog_1_method_15_code (10 : Nat) (Option.some FieldType.int)) ∈ lw_good := z_g3 218 rfl rfl
theorem wg_804 : (Cond.methodLink "PatternHouse" (207 : Nat) ({ cls := "PatternHouse$Body", name := "isAltered", desc := "(II)Z" } : MethodName)) ∈ lw_good := z_g3 219 rfl rfl
theorem wg_805 : (Cond.instanceMethod ({ cls := "PatternHouse$Body", name := "isAltered", desc := "(II)Z" } : MethodName)) ∈ lw_good := z_g3 220 rfl rfl
theorem wg_806 : (Cond.selects "PatternHouse$Body" ({ cls := "PatternHouse$Body", name := "isAltered", desc := "(II)Z" } : MethodName) ({ cls := "PatternHouse$Body", name := "isAltered", desc := "(II)Z" } : MethodName)) ∈ lw_good := z_g3 221 rfl rfl
theorem wg_807 : (Cond.code ({ cls := "PatternHouse$Body", name := "isAltered", desc := "(II)Z" } : MethodName) prog_2_method_3_code (3 : Nat) (Option.some FieldType.boolean)) ∈ lw_good := z_g3 222 rfl rfl
theorem wg_808 : (Cond.methodLink "PatternHouse$Body" (40 : Nat) ({ cls := "PatternHouse$Body", name := "alteredSpot", desc := "(II)I" } : MethodName)) ∈ lw_good := z_g3 223 rfl rfl
theorem wg_810 : (Cond.instanceMethod ({ cls := "PatternHouse$Body", name := "alteredSpot", desc := "(II)I" } : MethodName)) ∈ lw_good := z_g3 225 rfl rfl
theorem wg_811 : (Cond.code ({ cls := "PatternHouse$Body", name := "alteredSpot", desc := "(II)I" } : MethodName) prog_2_method_2_code (5 : Nat) (Option.some FieldType.int)) ∈ lw_good := z_g3 226 rfl rfl
theorem wg_812 : (Cond.methodLink "PatternHouse" (214 : Nat) ({ cls := "PatternHouse$Body", name := "setAltered", desc := "(IIII)V" } : MethodName)) ∈ lw_good := z_g3 227 rfl rfl
theorem wg_813 : (Cond.instanceMethod ({ cls := "PatternHouse$Body", name := "setAltered", desc := "(IIII)V" } : MethodName)) ∈ lw_good := z_g3 228 rfl rfl
theorem wg_814 : (Cond.selects "PatternHouse$Body" ({ cls := "PatternHouse$Body", name := "setAltered", desc := "(IIII)V" } : MethodName) ({ cls := "PatternHouse$Body", name := "setAltered", desc := "(IIII)V" } : MethodName)) ∈ lw_good := z_g3 229 rfl rfl
theorem wg_815 : (Cond.code ({ cls := "PatternHouse$Body", name := "setAltered", desc := "(IIII)V" } : MethodName) prog_2_method_4_code (6 : Nat) (Option.none : Option FieldType)) ∈ lw_good := z_g3 230 rfl rfl
theorem wg_816 : (Cond.methodLink "PatternHouseLaw" (77 : Nat) ({ cls := "PatternHouse", name := "curve", desc := "(IIII)I" } : MethodName)) ∈ lw_good := z_g3 231 rfl rfl
theorem wg_817 : (Cond.instanceMethod ({ cls := "PatternHouse", name := "curve", desc := "(IIII)I" } : MethodName)) ∈ lw_good := z_g3 232 rfl rfl
theorem wg_818 : (Cond.selects "PatternHouse" ({ cls := "PatternHouse", name := "curve", desc := "(IIII)I" } : MethodName) ({ cls := "PatternHouse", name := "curve", desc := "(IIII)I" } : MethodName)) ∈ lw_good := z_g3 233 rfl rfl
theorem wg_819 : (Cond.code ({ cls := "PatternHouse", name := "curve", desc := "(IIII)I" } : MethodName) prog_1_method_16_code (7 : Nat) (Option.some FieldType.int)) ∈ lw_good := z_g3 234 rfl rfl
theorem wg_820 : (Cond.methodLink "PatternHouseLaw" (81 : Nat) ({ cls := "PatternHouse", name := "straight", desc := "(II)I" } : MethodName)) ∈ lw_good := z_g3 235 rfl rfl
theorem wg_821 : (Cond.instanceMethod ({ cls := "PatternHouse", name := "straight", desc := "(II)I" } : MethodName)) ∈ lw_good := z_g3 236 rfl rfl
theorem wg_822 : (Cond.selects "PatternHouse" ({ cls := "PatternHouse", name := "straight", desc := "(II)I" } : MethodName) ({ cls := "PatternHouse", name := "straight", desc := "(II)I" } : MethodName)) ∈ lw_good := z_g3 237 rfl rfl
theorem wg_823 : (Cond.code ({ cls := "PatternHouse", name := "straight", desc := "(II)I" } : MethodName) prog_1_method_17_code (4 : Nat) (Option.some FieldType.int)) ∈ lw_good := z_g3 238 rfl rfl
theorem wg_824 : (Cond.methodLink "PatternHouseLaw" (85 : Nat) ({ cls := "PatternHouse", name := "at", desc := "(IIIII)I" } : MethodName)) ∈ lw_good := z_g3 239 rfl rfl
theorem wg_825 : (Cond.instanceMethod ({ cls := "PatternHouse", name := "at", desc := "(IIIII)I" } : MethodName)) ∈ lw_good := z_g4 0 rfl rfl
theorem wg_826 : (Cond.selects "PatternHouse" ({ cls := "PatternHouse", name := "at", desc := "(IIIII)I" } : MethodName) ({ cls := "PatternHouse", name := "at", desc := "(IIIII)I" } : MethodName)) ∈ lw_good := z_g4 1 rfl rfl
theorem wg_827 : (Cond.code ({ cls := "PatternHouse", name := "at", desc := "(IIIII)I" } : MethodName) prog_1_method_18_code (8 : Nat) (Option.some FieldType.int)) ∈ lw_good := z_g4 2 rfl rfl
theorem wg_828 : (Cond.methodLink "PatternHouse" (228 : Nat) ({ cls := "PatternHouse", name := "isAxis", desc := "(I)Z" } : MethodName)) ∈ lw_good := z_g4 3 rfl rfl
theorem wg_829 : (Cond.static ({ cls := "PatternHouse", name := "isAxis", desc := "(I)Z" } : MethodName)) ∈ lw_good := z_g4 4 rfl rfl
theorem wg_830 : (Cond.code ({ cls := "PatternHouse", name := "isAxis", desc := "(I)Z" } : MethodName) prog_1_method_60_code (1 : Nat) (Option.some FieldType.boolean)) ∈ lw_good := z_g4 5 rfl rfl
theorem wg_831 : (Cond.methodLink "PatternHouse" (231 : Nat) ({ cls := "PatternHouse", name := "drawAt", desc := "(II)V" } : MethodName)) ∈ lw_good := z_g4 6 rfl rfl
theorem wg_833 : (Cond.instanceMethod ({ cls := "PatternHouse", name := "drawAt", desc := "(II)V" } : MethodName)) ∈ lw_good := z_g4 8 rfl rfl
theorem wg_834 : (Cond.code ({ cls := "PatternHouse", name := "drawAt", desc := "(II)V" } : MethodName) prog_1_method_69_code (4 : Nat) (Option.none : Option FieldType)) ∈ lw_good := z_g4 9 rfl rfl
theorem wg_835 : (Cond.methodLink "PatternHouse" (435 : Nat) ({ cls := "PatternHouse$Drawing", name := "begin", desc := "(IILPatternHouse$Body;)V" } : MethodName)) ∈ lw_good := z_g4 10 rfl rfl
theorem wg_836 : (Cond.instanceMethod ({ cls := "PatternHouse$Drawing", name := "begin", desc := "(IILPatternHouse$Body;)V" } : MethodName)) ∈ lw_good := z_g4 11 rfl rfl
theorem wg_837 : (Cond.selects "PatternHouse$Drawing" ({ cls := "PatternHouse$Drawing", name := "begin", desc := "(IILPatternHouse$Body;)V" } : MethodName) ({ cls := "PatternHouse$Drawing", name := "begin", desc := "(IILPatternHouse$Body;)V" } : MethodName)) ∈ lw_good := z_g4 12 rfl rfl
theorem wg_838 : (Cond.code ({ cls := "PatternHouse$Drawing", name := "begin", desc := "(IILPatternHouse$Body;)V" } : MethodName) prog_4_method_2_code (4 : Nat) (Option.none : Option FieldType)) ∈ lw_good := z_g4 13 rfl rfl
theorem wg_839 : (Cond.methodLink "PatternHouse" (235 : Nat) ({ cls := "PatternHouse$Drawing", name := "sound", desc := "(LPatternHouse$Piece;)Z" } : MethodName)) ∈ lw_good := z_g4 14 rfl rfl
theorem wg_840 : (Cond.instanceMethod ({ cls := "PatternHouse$Drawing", name := "sound", desc := "(LPatternHouse$Piece;)Z" } : MethodName)) ∈ lw_good := z_g4 15 rfl rfl
theorem wg_841 : (Cond.selects "PatternHouse$Drawing" ({ cls := "PatternHouse$Drawing", name := "sound", desc := "(LPatternHouse$Piece;)Z" } : MethodName) ({ cls := "PatternHouse$Drawing", name := "sound", desc := "(LPatternHouse$Piece;)Z" } : MethodName)) ∈ lw_good := z_g4 16 rfl rfl
theorem wg_842 : (Cond.code ({ cls := "PatternHouse$Drawing", name := "sound", desc := "(LPatternHouse$Piece;)Z" } : MethodName) prog_4_method_3_code (5 : Nat) (Option.some FieldType.boolean)) ∈ lw_good := z_g4 17 rfl rfl
theorem wg_843 : (Cond.methodLink "PatternHouse$Drawing" (76 : Nat) ({ cls := "PatternHouse$Drawing", name := "drawOne", desc := "(LPatternHouse$Piece;)V" } : MethodName)) ∈ lw_good := z_g4 18 rfl rfl
theorem wg_845 : (Cond.instanceMethod ({ cls := "PatternHouse$Drawing", name := "drawOne", desc := "(LPatternHouse$Piece;)V" } : MethodName)) ∈ lw_good := z_g4 20 rfl rfl
theorem wg_846 : (Cond.code ({ cls := "PatternHouse$Drawing", name := "drawOne", desc := "(LPatternHouse$Piece;)V" } : MethodName) prog_4_method_5_code (6 : Nat) (Option.none : Option FieldType)) ∈ lw_good := z_g4 21 rfl rfl
theorem wg_847 : (Cond.methodLink "PatternHouse$Drawing" (87 : Nat) ({ cls := "PatternHouse$Drawing", name := "takeFromRule", desc := "(LPatternHouse$Rule;I)Z" } : MethodName)) ∈ lw_good := z_g4 22 rfl rfl
theorem wg_849 : (Cond.instanceMethod ({ cls := "PatternHouse$Drawing", name := "takeFromRule", desc := "(LPatternHouse$Rule;I)Z" } : MethodName)) ∈ lw_good := z_g4 24 rfl rfl
theorem wg_850 : (Cond.code ({ cls := "PatternHouse$Drawing", name := "takeFromRule", desc := "(LPatternHouse$Rule;I)Z" } : MethodName) prog_4_method_6_code (7 : Nat) (Option.some FieldType.boolean)) ∈ lw_good := z_g4 25 rfl rfl
theorem wg_851 : (Cond.methodLink "PatternHouse$Drawing" (112 : Nat) ({ cls := "PatternHouse$Drawing", name := "valueOf", desc := "([I)J" } : MethodName)) ∈ lw_good := z_g4 26 rfl rfl
theorem wg_853 : (Cond.instanceMethod ({ cls := "PatternHouse$Drawing", name := "valueOf", desc := "([I)J" } : MethodName)) ∈ lw_good := z_g4 28 rfl rfl
theorem wg_854 : (Cond.code ({ cls := "PatternHouse$Drawing", name := "valueOf", desc := "([I)J" } : MethodName) prog_4_method_8_code (7 : Nat) (Option.some FieldType.long)) ∈ lw_good := z_g4 29 rfl rfl
theorem wg_855 : (Cond.constantLong "PatternHouse$Drawing" (119 : Nat) (-1152921504606846976 : Int64)) ∈ lw_good := z_g4 30 rfl rfl
theorem wg_856 : (Cond.methodLink "PatternHouse$Drawing" (129 : Nat) ({ cls := "PatternHouse$Drawing", name := "unitOf", desc := "(I)J" } : MethodName)) ∈ lw_good := z_g4 31 rfl rfl
theorem wg_858 : (Cond.instanceMethod ({ cls := "PatternHouse$Drawing", name := "unitOf", desc := "(I)J" } : MethodName)) ∈ lw_good := z_g4 33 rfl rfl
theorem wg_859 : (Cond.code ({ cls := "PatternHouse$Drawing", name := "unitOf", desc := "(I)J" } : MethodName) prog_4_method_9_code (3 : Nat) (Option.some FieldType.long)) ∈ lw_good := z_g4 34 rfl rfl
theorem wn_860 : (Cond.methodLinkNest "PatternHouse$Drawing" (133 : Nat) ({ cls := "PatternHouse", name := "rootOf", desc := "(J)J" } : MethodName) "PatternHouse") ∈ lw_nest := z_n4 35 rfl rfl
theorem wg_861 : (Cond.static ({ cls := "PatternHouse", name := "rootOf", desc := "(J)J" } : MethodName)) ∈ lw_good := z_g4 36 rfl rfl
theorem wg_862 : (Cond.code ({ cls := "PatternHouse", name := "rootOf", desc := "(J)J" } : MethodName) prog_1_method_77_code (8 : Nat) (Option.some FieldType.long)) ∈ lw_good := z_g4 37 rfl rfl
theorem wg_863 : (Cond.constantLong "PatternHouse" (495 : Nat) (1073741824 : Int64)) ∈ lw_good := z_g4 38 rfl rfl
theorem wg_864 : (Cond.methodLink "PatternHouse$Drawing" (137 : Nat) ({ cls := "PatternHouse$Drawing", name := "combine", desc := "(IJJ)J" } : MethodName)) ∈ lw_good := z_g4 39 rfl rfl
theorem wg_865 : (Cond.static ({ cls := "PatternHouse$Drawing", name := "combine", desc := "(IJJ)J" } : MethodName)) ∈ lw_good := z_g4 40 rfl rfl
theorem wg_866 : (Cond.code ({ cls := "PatternHouse$Drawing", name := "combine", desc := "(IJJ)J" } : MethodName) prog_4_method_10_code (5 : Nat) (Option.some FieldType.long)) ∈ lw_good := z_g4 41 rfl rfl
theorem wg_867 : (Cond.constantLong "PatternHouse$Drawing" (141 : Nat) (-1000000 : Int64)) ∈ lw_good := z_g4 42 rfl rfl
theorem wg_868 : (Cond.constantLong "PatternHouse$Drawing" (143 : Nat) (1000000 : Int64)) ∈ lw_good := z_g4 43 rfl rfl
theorem wg_869 : (Cond.methodLink "PatternHouse$Drawing" (91 : Nat) ({ cls := "PatternHouse$Drawing", name := "takeFromBlock", desc := "(LPatternHouse$Piece;I)Z" } : MethodName)) ∈ lw_good := z_g4 44 rfl rfl
theorem wg_871 : (Cond.instanceMethod ({ cls := "PatternHouse$Drawing", name := "takeFromBlock", desc := "(LPatternHouse$Piece;I)Z" } : MethodName)) ∈ lw_good := z_g4 46 rfl rfl
theorem wg_872 : (Cond.code ({ cls := "PatternHouse$Drawing", name := "takeFromBlock", desc := "(LPatternHouse$Piece;I)Z" } : MethodName) prog_4_method_7_code (3 : Nat) (Option.some FieldType.boolean)) ∈ lw_good := z_g4 47 rfl rfl
theorem wg_873 : (Cond.methodLink "PatternHouse$Drawing" (121 : Nat) ({ cls := "PatternHouse$Piece", name := "has", desc := "(I)Z" } : MethodName)) ∈ lw_good := z_g4 48 rfl rfl
theorem wg_874 : (Cond.methodLink "PatternHouse$Drawing" (125 : Nat) ({ cls := "PatternHouse$Drawing", name := "placeOf", desc := "(LPatternHouse$Piece;II)I" } : MethodName)) ∈ lw_good := z_g4 49 rfl rfl
theorem wg_875 : (Cond.instanceMethod ({ cls := "PatternHouse$Drawing", name := "placeOf", desc := "(LPatternHouse$Piece;II)I" } : MethodName)) ∈ lw_good := z_g4 50 rfl rfl
theorem wg_876 : (Cond.selects "PatternHouse$Drawing" ({ cls := "PatternHouse$Drawing", name := "placeOf", desc := "(LPatternHouse$Piece;II)I" } : MethodName) ({ cls := "PatternHouse$Drawing", name := "placeOf", desc := "(LPatternHouse$Piece;II)I" } : MethodName)) ∈ lw_good := z_g4 51 rfl rfl
theorem wg_877 : (Cond.code ({ cls := "PatternHouse$Drawing", name := "placeOf", desc := "(LPatternHouse$Piece;II)I" } : MethodName) prog_4_method_4_code (5 : Nat) (Option.some FieldType.int)) ∈ lw_good := z_g4 52 rfl rfl
theorem wg_878 : (Cond.methodLink "PatternHouse$Drawing" (101 : Nat) ({ cls := "PatternHouse$Body", name := "moveOf", desc := "(III)I" } : MethodName)) ∈ lw_good := z_g4 53 rfl rfl
theorem wg_879 : (Cond.instanceMethod ({ cls := "PatternHouse$Body", name := "moveOf", desc := "(III)I" } : MethodName)) ∈ lw_good := z_g4 54 rfl rfl
theorem wg_880 : (Cond.selects "PatternHouse$Body" ({ cls := "PatternHouse$Body", name := "moveOf", desc := "(III)I" } : MethodName) ({ cls := "PatternHouse$Body", name := "moveOf", desc := "(III)I" } : MethodName)) ∈ lw_good := z_g4 55 rfl rfl
theorem wg_881 : (Cond.code ({ cls := "PatternHouse$Body", name := "moveOf", desc := "(III)I" } : MethodName) prog_2_method_5_code (5 : Nat) (Option.some FieldType.int)) ∈ lw_good := z_g4 56 rfl rfl
theorem wg_882 : (Cond.methodLink "PatternHouse" (239 : Nat) ({ cls := "PatternHouse$Drawing", name := "placeOf", desc := "(LPatternHouse$Piece;II)I" } : MethodName)) ∈ lw_good := z_g4 57 rfl rfl
theorem wg_883 : (Cond.methodLink "PatternHouseLaw" (89 : Nat) ({ cls := "PatternHouse", name := "on", desc := "(IIII)I" } : MethodName)) ∈ lw_good := z_g4 58 rfl rfl
theorem wg_884 : (Cond.instanceMethod ({ cls := "PatternHouse", name := "on", desc := "(IIII)I" } : MethodName)) ∈ lw_good := z_g4 59 rfl rfl
theorem wg_885 : (Cond.selects "PatternHouse" ({ cls := "PatternHouse", name := "on", desc := "(IIII)I" } : MethodName) ({ cls := "PatternHouse", name := "on", desc := "(IIII)I" } : MethodName)) ∈ lw_good := z_g4 60 rfl rfl
theorem wg_886 : (Cond.code ({ cls := "PatternHouse", name := "on", desc := "(IIII)I" } : MethodName) prog_1_method_19_code (7 : Nat) (Option.some FieldType.int)) ∈ lw_good := z_g4 61 rfl rfl
theorem wg_887 : (Cond.methodLink "PatternHouse" (242 : Nat) ({ cls := "PatternHouse", name := "drawFor", desc := "(LPatternHouse$Body;)V" } : MethodName)) ∈ lw_good := z_g4 62 rfl rfl
theorem wg_889 : (Cond.instanceMethod ({ cls := "PatternHouse", name := "drawFor", desc := "(LPatternHouse$Body;)V" } : MethodName)) ∈ lw_good := z_g4 64 rfl rfl
theorem wg_890 : (Cond.code ({ cls := "PatternHouse", name := "drawFor", desc := "(LPatternHouse$Body;)V" } : MethodName) prog_1_method_70_code (3 : Nat) (Option.none : Option FieldType)) ∈ lw_good := z_g4 65 rfl rfl
theorem wg_891 : (Cond.methodLink "PatternHouseLaw" (93 : Nat) ({ cls := "PatternHouse", name := "length", desc := "(IIIII)I" } : MethodName)) ∈ lw_good := z_g4 66 rfl rfl
theorem wg_892 : (Cond.instanceMethod ({ cls := "PatternHouse", name := "length", desc := "(IIIII)I" } : MethodName)) ∈ lw_good := z_g4 67 rfl rfl
theorem wg_893 : (Cond.selects "PatternHouse" ({ cls := "PatternHouse", name := "length", desc := "(IIIII)I" } : MethodName) ({ cls := "PatternHouse", name := "length", desc := "(IIIII)I" } : MethodName)) ∈ lw_good := z_g4 68 rfl rfl
theorem wg_894 : (Cond.code ({ cls := "PatternHouse", name := "length", desc := "(IIIII)I" } : MethodName) prog_1_method_20_code (8 : Nat) (Option.some FieldType.int)) ∈ lw_good := z_g4 69 rfl rfl
theorem wg_895 : (Cond.methodLink "PatternHouse" (249 : Nat) ({ cls := "PatternHouse$Drawing", name := "lengthOf", desc := "(LPatternHouse$Piece;II)I" } : MethodName)) ∈ lw_good := z_g4 70 rfl rfl
theorem wg_896 : (Cond.instanceMethod ({ cls := "PatternHouse$Drawing", name := "lengthOf", desc := "(LPatternHouse$Piece;II)I" } : MethodName)) ∈ lw_good := z_g4 71 rfl rfl
theorem wg_897 : (Cond.selects "PatternHouse$Drawing" ({ cls := "PatternHouse$Drawing", name := "lengthOf", desc := "(LPatternHouse$Piece;II)I" } : MethodName) ({ cls := "PatternHouse$Drawing", name := "lengthOf", desc := "(LPatternHouse$Piece;II)I" } : MethodName)) ∈ lw_good := z_g4 72 rfl rfl
theorem wg_898 : (Cond.code ({ cls := "PatternHouse$Drawing", name := "lengthOf", desc := "(LPatternHouse$Piece;II)I" } : MethodName) prog_4_method_17_code (14 : Nat) (Option.some FieldType.int)) ∈ lw_good := z_g4 73 rfl rfl
theorem wg_899 : (Cond.methodLink "PatternHouse$Drawing" (180 : Nat) ({ cls := "PatternHouse$Drawing", name := "trace", desc := "(LPatternHouse$Piece;)V" } : MethodName)) ∈ lw_good := z_g4 74 rfl rfl
theorem wg_900 : (Cond.instanceMethod ({ cls := "PatternHouse$Drawing", name := "trace", desc := "(LPatternHouse$Piece;)V" } : MethodName)) ∈ lw_good := z_g4 75 rfl rfl
theorem wg_901 : (Cond.selects "PatternHouse$Drawing" ({ cls := "PatternHouse$Drawing", name := "trace", desc := "(LPatternHouse$Piece;)V" } : MethodName) ({ cls := "PatternHouse$Drawing", name := "trace", desc := "(LPatternHouse$Piece;)V" } : MethodName)) ∈ lw_good := z_g4 76 rfl rfl
theorem wg_902 : (Cond.code ({ cls := "PatternHouse$Drawing", name := "trace", desc := "(LPatternHouse$Piece;)V" } : MethodName) prog_4_method_15_code (6 : Nat) (Option.none : Option FieldType)) ∈ lw_good := z_g4 77 rfl rfl
theorem wg_903 : (Cond.methodLink "PatternHouse$Drawing" (167 : Nat) ({ cls := "PatternHouse$Drawing", name := "onLine", desc := "(IIII)I" } : MethodName)) ∈ lw_good := z_g4 78 rfl rfl
theorem wg_904 : (Cond.static ({ cls := "PatternHouse$Drawing", name := "onLine", desc := "(IIII)I" } : MethodName)) ∈ lw_good := z_g4 79 rfl rfl
theorem wg_905 : (Cond.code ({ cls := "PatternHouse$Drawing", name := "onLine", desc := "(IIII)I" } : MethodName) prog_4_method_16_code (6 : Nat) (Option.some FieldType.int)) ∈ lw_good := z_g4 80 rfl rfl
theorem wg_906 : (Cond.methodLink "PatternHouse$Drawing" (174 : Nat) ({ cls := "java/lang/Math", name := "floorDiv", desc := "(II)I" } : MethodName)) ∈ lw_good := z_g4 81 rfl rfl
theorem wg_907 : (Cond.static ({ cls := "java/lang/Math", name := "floorDiv", desc := "(II)I" } : MethodName)) ∈ lw_good := z_g4 82 rfl rfl
theorem wg_908 : (Cond.code ({ cls := "java/lang/Math", name := "floorDiv", desc := "(II)I" } : MethodName) prog_18_method_47_code (3 : Nat) (Option.some FieldType.int)) ∈ lw_good := z_g4 83 rfl rfl
theorem wg_909 : (Cond.methodLink "PatternHouseLaw" (97 : Nat) ({ cls := "PatternHouse", name := "lengthOn", desc := "(IIII)I" } : MethodName)) ∈ lw_good := z_g4 84 rfl rfl
theorem wg_910 : (Cond.instanceMethod ({ cls := "PatternHouse", name := "lengthOn", desc := "(IIII)I" } : MethodName)) ∈ lw_good := z_g4 85 rfl rfl
theorem wg_911 : (Cond.selects "PatternHouse" ({ cls := "PatternHouse", name := "lengthOn", desc := "(IIII)I" } : MethodName) ({ cls := "PatternHouse", name := "lengthOn", desc := "(IIII)I" } : MethodName)) ∈ lw_good := z_g4 86 rfl rfl
theorem wg_912 : (Cond.code ({ cls := "PatternHouse", name := "lengthOn", desc := "(IIII)I" } : MethodName) prog_1_method_21_code (7 : Nat) (Option.some FieldType.int)) ∈ lw_good := z_g4 87 rfl rfl
theorem wg_913 : (Cond.methodLink "PatternHouseLaw" (101 : Nat) ({ cls := "PatternHouse", name := "area", desc := "(III)J" } : MethodName)) ∈ lw_good := z_g4 88 rfl rfl
theorem wg_914 : (Cond.instanceMethod ({ cls := "PatternHouse", name := "area", desc := "(III)J" } : MethodName)) ∈ lw_good := z_g4 89 rfl rfl
theorem wg_915 : (Cond.selects "PatternHouse" ({ cls := "PatternHouse", name := "area", desc := "(III)J" } : MethodName) ({ cls := "PatternHouse", name := "area", desc := "(III)J" } : MethodName)) ∈ lw_good := z_g4 90 rfl rfl
theorem wg_916 : (Cond.code ({ cls := "PatternHouse", name := "area", desc := "(III)J" } : MethodName) prog_1_method_22_code (6 : Nat) (Option.some FieldType.long)) ∈ lw_good := z_g4 91 rfl rfl
theorem wg_917 : (Cond.methodLink "PatternHouse" (252 : Nat) ({ cls := "PatternHouse$Drawing", name := "areaOf", desc := "(LPatternHouse$Piece;)J" } : MethodName)) ∈ lw_good := z_g4 92 rfl rfl
theorem wg_918 : (Cond.instanceMethod ({ cls := "PatternHouse$Drawing", name := "areaOf", desc := "(LPatternHouse$Piece;)J" } : MethodName)) ∈ lw_good := z_g4 93 rfl rfl
theorem wg_919 : (Cond.selects "PatternHouse$Drawing" ({ cls := "PatternHouse$Drawing", name := "areaOf", desc := "(LPatternHouse$Piece;)J" } : MethodName) ({ cls := "PatternHouse$Drawing", name := "areaOf", desc := "(LPatternHouse$Piece;)J" } : MethodName)) ∈ lw_good := z_g4 94 rfl rfl
theorem wg_920 : (Cond.code ({ cls := "PatternHouse$Drawing", name := "areaOf", desc := "(LPatternHouse$Piece;)J" } : MethodName) prog_4_method_18_code (6 : Nat) (Option.some FieldType.long)) ∈ lw_good := z_g4 95 rfl rfl
theorem wg_921 : (Cond.methodLink "PatternHouse$Drawing" (183 : Nat) ({ cls := "java/lang/Math", name := "abs", desc := "(J)J" } : MethodName)) ∈ lw_good := z_g4 96 rfl rfl
theorem wg_922 : (Cond.static ({ cls := "java/lang/Math", name := "abs", desc := "(J)J" } : MethodName)) ∈ lw_good := z_g4 97 rfl rfl
theorem wg_923 : (Cond.code ({ cls := "java/lang/Math", name := "abs", desc := "(J)J" } : MethodName) prog_18_method_61_code (2 : Nat) (Option.some FieldType.long)) ∈ lw_good := z_g4 98 rfl rfl
theorem wg_924 : (Cond.constantLong "PatternHouse$Drawing" (189 : Nat) (2 : Int64)) ∈ lw_good := z_g4 99 rfl rfl
theorem wg_925 : (Cond.methodLink "PatternHouseLaw" (106 : Nat) ({ cls := "PatternHouse", name := "seam", desc := "(IIIIIIII)I" } : MethodName)) ∈ lw_good := z_g4 100 rfl rfl
theorem wg_926 : (Cond.instanceMethod ({ cls := "PatternHouse", name := "seam", desc := "(IIIIIIII)I" } : MethodName)) ∈ lw_good := z_g4 101 rfl rfl
theorem wg_927 : (Cond.selects "PatternHouse" ({ cls := "PatternHouse", name := "seam", desc := "(IIIIIIII)I" } : MethodName) ({ cls := "PatternHouse", name := "seam", desc := "(IIIIIIII)I" } : MethodName)) ∈ lw_good := z_g4 102 rfl rfl
theorem wg_928 : (Cond.code ({ cls := "PatternHouse", name := "seam", desc := "(IIIIIIII)I" } : MethodName) prog_1_method_23_code (13 : Nat) (Option.some FieldType.int)) ∈ lw_good := z_g4 103 rfl rfl
theorem wg_929 : (Cond.instantiable "PatternHouse$Seam" (14 : Nat)) ∈ lw_good := z_g4 104 rfl rfl
theorem wg_930 : (Cond.methodLink "PatternHouse" (259 : Nat) ({ cls := "PatternHouse$Seam", name := "<init>", desc := "(LPatternHouse$Piece;IIII)V" } : MethodName)) ∈ lw_good := z_g4 105 rfl rfl
theorem wg_931 : (Cond.instanceMethod ({ cls := "PatternHouse$Seam", name := "<init>", desc := "(LPatternHouse$Piece;IIII)V" } : MethodName)) ∈ lw_good := z_g4 106 rfl rfl
theorem wg_932 : (Cond.code ({ cls := "PatternHouse$Seam", name := "<init>", desc := "(LPatternHouse$Piece;IIII)V" } : MethodName) prog_10_method_1_code (6 : Nat) (Option.none : Option FieldType)) ∈ lw_good := z_g4 107 rfl rfl
theorem wg_933 : (Cond.methodLink "PatternHouse$Seam" (3 : Nat) ({ cls := "java/lang/Object", name := "<init>", desc := "()V" } : MethodName)) ∈ lw_good := z_g4 108 rfl rfl
theorem wg_934 : (Cond.fieldLink "PatternHouse$Seam" (18 : Nat) "PatternHouse$Seam" "one" "LPatternHouse$Piece;") ∈ lw_good := z_g4 109 rfl rfl
theorem wn_935 : (Cond.fieldLinkNest "PatternHouse" (445 : Nat) "PatternHouse$Seam" "one" "LPatternHouse$Piece;" "PatternHouse") ∈ lw_nest := z_n4 110 rfl rfl
theorem wg_936 : (Cond.fieldLink "PatternHouse$Seam" (22 : Nat) "PatternHouse$Seam" "a" "I") ∈ lw_good := z_g4 111 rfl rfl
theorem wn_937 : (Cond.fieldLinkNest "PatternHouse" (452 : Nat) "PatternHouse$Seam" "a" "I" "PatternHouse") ∈ lw_nest := z_n4 112 rfl rfl
theorem wg_938 : (Cond.fieldLink "PatternHouse$Seam" (26 : Nat) "PatternHouse$Seam" "b" "I") ∈ lw_good := z_g4 113 rfl rfl
theorem wn_939 : (Cond.fieldLinkNest "PatternHouse" (455 : Nat) "PatternHouse$Seam" "b" "I" "PatternHouse") ∈ lw_nest := z_n4 114 rfl rfl
theorem wg_940 : (Cond.fieldLink "PatternHouse$Seam" (29 : Nat) "PatternHouse$Seam" "least" "I") ∈ lw_good := z_g4 115 rfl rfl
theorem wg_941 : (Cond.fieldLink "PatternHouse$Seam" (32 : Nat) "PatternHouse$Seam" "most" "I") ∈ lw_good := z_g4 116 rfl rfl
theorem wg_942 : (Cond.fieldLink "PatternHouse$Seam" (35 : Nat) "PatternHouse$Seam" "other" "LPatternHouse$Piece;") ∈ lw_good := z_g4 117 rfl rfl
theorem wn_943 : (Cond.fieldLinkNest "PatternHouse" (449 : Nat) "PatternHouse$Seam" "other" "LPatternHouse$Piece;" "PatternHouse") ∈ lw_nest := z_n4 118 rfl rfl
theorem wg_944 : (Cond.fieldLink "PatternHouse$Seam" (38 : Nat) "PatternHouse$Seam" "c" "I") ∈ lw_good := z_g4 119 rfl rfl
theorem wn_945 : (Cond.fieldLinkNest "PatternHouse" (461 : Nat) "PatternHouse$Seam" "c" "I" "PatternHouse") ∈ lw_nest := z_n4 120 rfl rfl
theorem wg_946 : (Cond.fieldLink "PatternHouse$Seam" (41 : Nat) "PatternHouse$Seam" "e" "I") ∈ lw_good := z_g4 121 rfl rfl
theorem wn_947 : (Cond.fieldLinkNest "PatternHouse" (464 : Nat) "PatternHouse$Seam" "e" "I" "PatternHouse") ∈ lw_nest := z_n4 122 rfl rfl
theorem wg_948 : (Cond.fieldLink "PatternHouse$Seam" (61 : Nat) "PatternHouse$Seam" "gathered" "I") ∈ lw_good := z_g4 123 rfl rfl
theorem wn_949 : (Cond.fieldLinkNest "PatternHouse" (277 : Nat) "PatternHouse$Seam" "gathered" "I" "PatternHouse") ∈ lw_nest := z_n4 124 rfl rfl
theorem wg_950 : (Cond.fieldLink "PatternHouse$Seam" (9 : Nat) "PatternHouse$Seam" "notchP" "[I") ∈ lw_good := z_g4 125 rfl rfl
theorem wg_951 : (Cond.fieldLink "PatternHouse$Seam" (15 : Nat) "PatternHouse$Seam" "notchQ" "[I") ∈ lw_good := z_g4 126 rfl rfl
theorem wg_952 : (Cond.fieldLink "PatternHouse$Seam" (44 : Nat) "PatternHouse$Seam" "notches" "I") ∈ lw_good := z_g4 127 rfl rfl
theorem wn_953 : (Cond.fieldLinkNest "PatternHouse" (271 : Nat) "PatternHouse$Seam" "notches" "I" "PatternHouse") ∈ lw_nest := z_n4 128 rfl rfl
theorem wg_954 : (Cond.fieldLink "PatternHouse$Seam" (50 : Nat) "PatternHouse$Seam" "firstLength" "I") ∈ lw_good := z_g4 129 rfl rfl
theorem wn_955 : (Cond.fieldLinkNest "PatternHouse" (458 : Nat) "PatternHouse$Seam" "firstLength" "I" "PatternHouse") ∈ lw_nest := z_n4 130 rfl rfl
theorem wg_956 : (Cond.fieldLink "PatternHouse$Seam" (47 : Nat) "PatternHouse$Seam" "secondLength" "I") ∈ lw_good := z_g4 131 rfl rfl
theorem wn_957 : (Cond.fieldLinkNest "PatternHouse" (467 : Nat) "PatternHouse$Seam" "secondLength" "I" "PatternHouse") ∈ lw_nest := z_n4 132 rfl rfl
theorem wg_958 : (Cond.laysFinal "PatternHouse$Seam" "PatternHouse$Seam" "one" "LPatternHouse$Piece;") ∈ lw_good := z_g4 133 rfl rfl
theorem wg_960 : (Cond.laysFinal "PatternHouse$Seam" "PatternHouse$Seam" "a" "I") ∈ lw_good := z_g4 135 rfl rfl
theorem wg_962 : (Cond.laysFinal "PatternHouse$Seam" "PatternHouse$Seam" "b" "I") ∈ lw_good := z_g4 137 rfl rfl
theorem wg_964 : (Cond.laysFinal "PatternHouse$Seam" "PatternHouse$Seam" "least" "I") ∈ lw_good := z_g4 139 rfl rfl
theorem wg_966 : (Cond.laysFinal "PatternHouse$Seam" "PatternHouse$Seam" "most" "I") ∈ lw_good := z_g4 141 rfl rfl
theorem wg_968 : (Cond.lays "PatternHouse$Seam" "PatternHouse$Seam" "other" "LPatternHouse$Piece;") ∈ lw_good := z_g4 143 rfl rfl
theorem wg_970 : (Cond.lays "PatternHouse$Seam" "PatternHouse$Seam" "c" "I") ∈ lw_good := z_g4 145 rfl rfl
theorem wg_972 : (Cond.lays "PatternHouse$Seam" "PatternHouse$Seam" "e" "I") ∈ lw_good := z_g4 147 rfl rfl
theorem wg_974 : (Cond.lays "PatternHouse$Seam" "PatternHouse$Seam" "gathered" "I") ∈ lw_good := z_g4 149 rfl rfl
theorem wg_976 : (Cond.laysFinal "PatternHouse$Seam" "PatternHouse$Seam" "notchP" "[I") ∈ lw_good := z_g4 151 rfl rfl
theorem wg_978 : (Cond.laysFinal "PatternHouse$Seam" "PatternHouse$Seam" "notchQ" "[I") ∈ lw_good := z_g4 153 rfl rfl
theorem wg_980 : (Cond.lays "PatternHouse$Seam" "PatternHouse$Seam" "notches" "I") ∈ lw_good := z_g4 155 rfl rfl
theorem wg_982 : (Cond.lays "PatternHouse$Seam" "PatternHouse$Seam" "firstLength" "I") ∈ lw_good := z_g4 157 rfl rfl
theorem wg_984 : (Cond.lays "PatternHouse$Seam" "PatternHouse$Seam" "secondLength" "I") ∈ lw_good := z_g4 159 rfl rfl
theorem wg_987 : (Cond.methodLink "PatternHouse" (262 : Nat) ({ cls := "PatternHouse$Seam", name := "sewTo", desc := "(LPatternHouse$Piece;II)V" } : MethodName)) ∈ lw_good := z_g4 162 rfl rfl
theorem wg_988 : (Cond.instanceMethod ({ cls := "PatternHouse$Seam", name := "sewTo", desc := "(LPatternHouse$Piece;II)V" } : MethodName)) ∈ lw_good := z_g4 163 rfl rfl
theorem wg_989 : (Cond.selects "PatternHouse$Seam" ({ cls := "PatternHouse$Seam", name := "sewTo", desc := "(LPatternHouse$Piece;II)V" } : MethodName) ({ cls := "PatternHouse$Seam", name := "sewTo", desc := "(LPatternHouse$Piece;II)V" } : MethodName)) ∈ lw_good := z_g4 164 rfl rfl
theorem wg_990 : (Cond.code ({ cls := "PatternHouse$Seam", name := "sewTo", desc := "(LPatternHouse$Piece;II)V" } : MethodName) prog_10_method_2_code (4 : Nat) (Option.none : Option FieldType)) ∈ lw_good := z_g4 165 rfl rfl
theorem wg_991 : (Cond.methodLink "PatternHouseLaw" (111 : Nat) ({ cls := "PatternHouse", name := "notch", desc := "(III)I" } : MethodName)) ∈ lw_good := z_g4 166 rfl rfl
theorem wg_992 : (Cond.instanceMethod ({ cls := "PatternHouse", name := "notch", desc := "(III)I" } : MethodName)) ∈ lw_good := z_g4 167 rfl rfl
theorem wg_993 : (Cond.selects "PatternHouse" ({ cls := "PatternHouse", name := "notch", desc := "(III)I" } : MethodName) ({ cls := "PatternHouse", name := "notch", desc := "(III)I" } : MethodName)) ∈ lw_good := z_g4 168 rfl rfl
theorem wg_994 : (Cond.code ({ cls := "PatternHouse", name := "notch", desc := "(III)I" } : MethodName) prog_1_method_24_code (6 : Nat) (Option.some FieldType.int)) ∈ lw_good := z_g4 169 rfl rfl
theorem wg_995 : (Cond.methodLink "PatternHouse" (266 : Nat) ({ cls := "PatternHouse", name := "seamOf", desc := "(I)LPatternHouse$Seam;" } : MethodName)) ∈ lw_good := z_g4 170 rfl rfl
theorem wg_997 : (Cond.instanceMethod ({ cls := "PatternHouse", name := "seamOf", desc := "(I)LPatternHouse$Seam;" } : MethodName)) ∈ lw_good := z_g4 172 rfl rfl
theorem wg_998 : (Cond.code ({ cls := "PatternHouse", name := "seamOf", desc := "(I)LPatternHouse$Seam;" } : MethodName) prog_1_method_64_code (2 : Nat) (Option.some (FieldType.object "PatternHouse$Seam"))) ∈ lw_good := z_g4 173 rfl rfl
theorem wg_999 : (Cond.constant "PatternHouse" (270 : Nat) (99999 : Int32)) ∈ lw_good := z_g4 174 rfl rfl
theorem wg_1000 : (Cond.methodLink "PatternHouse" (274 : Nat) ({ cls := "PatternHouse$Seam", name := "addNotch", desc := "(II)I" } : MethodName)) ∈ lw_good := z_g4 175 rfl rfl
theorem wg_1001 : (Cond.instanceMethod ({ cls := "PatternHouse$Seam", name := "addNotch", desc := "(II)I" } : MethodName)) ∈ lw_good := z_g4 176 rfl rfl
theorem wg_1002 : (Cond.selects "PatternHouse$Seam" ({ cls := "PatternHouse$Seam", name := "addNotch", desc := "(II)I" } : MethodName) ({ cls := "PatternHouse$Seam", name := "addNotch", desc := "(II)I" } : MethodName)) ∈ lw_good := z_g4 177 rfl rfl
theorem wg_1003 : (Cond.code ({ cls := "PatternHouse$Seam", name := "addNotch", desc := "(II)I" } : MethodName) prog_10_method_3_code (3 : Nat) (Option.some FieldType.int)) ∈ lw_good := z_g4 178 rfl rfl
theorem wg_1004 : (Cond.methodLink "PatternHouseLaw" (115 : Nat) ({ cls := "PatternHouse", name := "gather", desc := "(II)I" } : MethodName)) ∈ lw_good := z_g4 179 rfl rfl
theorem wg_1005 : (Cond.instanceMethod ({ cls := "PatternHouse", name := "gather", desc := "(II)I" } : MethodName)) ∈ lw_good := z_g4 180 rfl rfl
theorem wg_1006 : (Cond.selects "PatternHouse" ({ cls := "PatternHouse", name := "gather", desc := "(II)I" } : MethodName) ({ cls := "PatternHouse", name := "gather", desc := "(II)I" } : MethodName)) ∈ lw_good := z_g4 181 rfl rfl
theorem wg_1007 : (Cond.code ({ cls := "PatternHouse", name := "gather", desc := "(II)I" } : MethodName) prog_1_method_25_code (6 : Nat) (Option.some FieldType.int)) ∈ lw_good := z_g4 182 rfl rfl
theorem wg_1008 : (Cond.methodLink "PatternHouseLaw" (119 : Nat) ({ cls := "PatternHouse", name := "ease", desc := "(III)I" } : MethodName)) ∈ lw_good := z_g4 183 rfl rfl
theorem wg_1009 : (Cond.instanceMethod ({ cls := "PatternHouse", name := "ease", desc := "(III)I" } : MethodName)) ∈ lw_good := z_g4 184 rfl rfl
theorem wg_1010 : (Cond.selects "PatternHouse" ({ cls := "PatternHouse", name := "ease", desc := "(III)I" } : MethodName) ({ cls := "PatternHouse", name := "ease", desc := "(III)I" } : MethodName)) ∈ lw_good := z_g4 185 rfl rfl
theorem wg_1011 : (Cond.code ({ cls := "PatternHouse", name := "ease", desc := "(III)I" } : MethodName) prog_1_method_26_code (5 : Nat) (Option.some FieldType.int)) ∈ lw_good := z_g4 186 rfl rfl
theorem wg_1012 : (Cond.methodLink "PatternHouse" (280 : Nat) ({ cls := "PatternHouse", name := "seamRefused", desc := "(III)I" } : MethodName)) ∈ lw_good := z_g4 187 rfl rfl
theorem wg_1014 : (Cond.instanceMethod ({ cls := "PatternHouse", name := "seamRefused", desc := "(III)I" } : MethodName)) ∈ lw_good := z_g4 189 rfl rfl
theorem wg_1015 : (Cond.code ({ cls := "PatternHouse", name := "seamRefused", desc := "(III)I" } : MethodName) prog_1_method_71_code (6 : Nat) (Option.some FieldType.int)) ∈ lw_good := z_g4 190 rfl rfl
theorem wg_1016 : (Cond.methodLink "PatternHouse" (442 : Nat) ({ cls := "PatternHouse", name := "measureSides", desc := "(LPatternHouse$Seam;)Z" } : MethodName)) ∈ lw_good := z_g4 191 rfl rfl
theorem wg_1018 : (Cond.instanceMethod ({ cls := "PatternHouse", name := "measureSides", desc := "(LPatternHouse$Seam;)Z" } : MethodName)) ∈ lw_good := z_g4 193 rfl rfl
theorem wg_1019 : (Cond.code ({ cls := "PatternHouse", name := "measureSides", desc := "(LPatternHouse$Seam;)Z" } : MethodName) prog_1_method_72_code (2 : Nat) (Option.some FieldType.boolean)) ∈ lw_good := z_g4 194 rfl rfl
theorem wg_1020 : (Cond.methodLink "PatternHouse" (283 : Nat) ({ cls := "PatternHouse$Seam", name := "easeDrawn", desc := "()I" } : MethodName)) ∈ lw_good := z_g4 195 rfl rfl
theorem wg_1021 : (Cond.instanceMethod ({ cls := "PatternHouse$Seam", name := "easeDrawn", desc := "()I" } : MethodName)) ∈ lw_good := z_g4 196 rfl rfl
theorem wg_1022 : (Cond.selects "PatternHouse$Seam" ({ cls := "PatternHouse$Seam", name := "easeDrawn", desc := "()I" } : MethodName) ({ cls := "PatternHouse$Seam", name := "easeDrawn", desc := "()I" } : MethodName)) ∈ lw_good := z_g4 197 rfl rfl
theorem wg_1023 : (Cond.code ({ cls := "PatternHouse$Seam", name := "easeDrawn", desc := "()I" } : MethodName) prog_10_method_4_code (1 : Nat) (Option.some FieldType.int)) ∈ lw_good := z_g4 198 rfl rfl
theorem wg_1024 : (Cond.methodLink "PatternHouseLaw" (123 : Nat) ({ cls := "PatternHouse", name := "meets", desc := "(III)I" } : MethodName)) ∈ lw_good := z_g4 199 rfl rfl
theorem wg_1025 : (Cond.instanceMethod ({ cls := "PatternHouse", name := "meets", desc := "(III)I" } : MethodName)) ∈ lw_good := z_g4 200 rfl rfl
theorem wg_1026 : (Cond.selects "PatternHouse" ({ cls := "PatternHouse", name := "meets", desc := "(III)I" } : MethodName) ({ cls := "PatternHouse", name := "meets", desc := "(III)I" } : MethodName)) ∈ lw_good := z_g4 201 rfl rfl
theorem wg_1027 : (Cond.code ({ cls := "PatternHouse", name := "meets", desc := "(III)I" } : MethodName) prog_1_method_27_code (5 : Nat) (Option.some FieldType.int)) ∈ lw_good := z_g4 202 rfl rfl
theorem wg_1028 : (Cond.methodLink "PatternHouse" (287 : Nat) ({ cls := "PatternHouse$Seam", name := "isMet", desc := "()Z" } : MethodName)) ∈ lw_good := z_g4 203 rfl rfl
theorem wg_1029 : (Cond.instanceMethod ({ cls := "PatternHouse$Seam", name := "isMet", desc := "()Z" } : MethodName)) ∈ lw_good := z_g4 204 rfl rfl
theorem wg_1030 : (Cond.selects "PatternHouse$Seam" ({ cls := "PatternHouse$Seam", name := "isMet", desc := "()Z" } : MethodName) ({ cls := "PatternHouse$Seam", name := "isMet", desc := "()Z" } : MethodName)) ∈ lw_good := z_g4 205 rfl rfl
theorem wg_1031 : (Cond.code ({ cls := "PatternHouse$Seam", name := "isMet", desc := "()Z" } : MethodName) prog_10_method_5_code (1 : Nat) (Option.some FieldType.boolean)) ∈ lw_good := z_g4 206 rfl rfl
theorem wg_1032 : (Cond.methodLink "PatternHouse$Seam" (53 : Nat) ({ cls := "PatternHouse$Seam", name := "easeDrawn", desc := "()I" } : MethodName)) ∈ lw_good := z_g4 207 rfl rfl
theorem wg_1033 : (Cond.methodLink "PatternHouseLaw" (127 : Nat) ({ cls := "PatternHouse", name := "lost", desc := "(III)I" } : MethodName)) ∈ lw_good := z_g4 208 rfl rfl
theorem wg_1034 : (Cond.instanceMethod ({ cls := "PatternHouse", name := "lost", desc := "(III)I" } : MethodName)) ∈ lw_good := z_g4 209 rfl rfl
theorem wg_1035 : (Cond.selects "PatternHouse" ({ cls := "PatternHouse", name := "lost", desc := "(III)I" } : MethodName) ({ cls := "PatternHouse", name := "lost", desc := "(III)I" } : MethodName)) ∈ lw_good := z_g4 210 rfl rfl
theorem wg_1036 : (Cond.code ({ cls := "PatternHouse", name := "lost", desc := "(III)I" } : MethodName) prog_1_method_28_code (5 : Nat) (Option.some FieldType.int)) ∈ lw_good := z_g4 211 rfl rfl
theorem wg_1037 : (Cond.methodLink "PatternHouse" (290 : Nat) ({ cls := "PatternHouse$Seam", name := "firstLost", desc := "()I" } : MethodName)) ∈ lw_good := z_g4 212 rfl rfl
theorem wg_1038 : (Cond.instanceMethod ({ cls := "PatternHouse$Seam", name := "firstLost", desc := "()I" } : MethodName)) ∈ lw_good := z_g4 213 rfl rfl
theorem wg_1039 : (Cond.selects "PatternHouse$Seam" ({ cls := "PatternHouse$Seam", name := "firstLost", desc := "()I" } : MethodName) ({ cls := "PatternHouse$Seam", name := "firstLost", desc := "()I" } : MethodName)) ∈ lw_good := z_g4 214 rfl rfl
theorem wg_1040 : (Cond.code ({ cls := "PatternHouse$Seam", name := "firstLost", desc := "()I" } : MethodName) prog_10_method_6_code (2 : Nat) (Option.some FieldType.int)) ∈ lw_good := z_g4 215 rfl rfl
theorem wg_1041 : (Cond.methodLink "PatternHouse$Seam" (57 : Nat) ({ cls := "PatternHouse$Seam", name := "isWell", desc := "(I)Z" } : MethodName)) ∈ lw_good := z_g4 216 rfl rfl
theorem wg_1043 : (Cond.instanceMethod ({ cls := "PatternHouse$Seam", name := "isWell", desc := "(I)Z" } : MethodName)) ∈ lw_good := z_g4 218 rfl rfl
theorem wg_1044 : (Cond.code ({ cls := "PatternHouse$Seam", name := "isWell", desc := "(I)Z" } : MethodName) prog_10_method_7_code (5 : Nat) (Option.some FieldType.boolean)) ∈ lw_good := z_g4 219 rfl rfl
theorem wg_1045 : (Cond.methodLink "PatternHouseLaw" (131 : Nat) ({ cls := "PatternHouse", name := "wrong", desc := "(I)I" } : MethodName)) ∈ lw_good := z_g4 220 rfl rfl
theorem wg_1046 : (Cond.instanceMethod ({ cls := "PatternHouse", name := "wrong", desc := "(I)I" } : MethodName)) ∈ lw_good := z_g4 221 rfl rfl
theorem wg_1047 : (Cond.selects "PatternHouse" ({ cls := "PatternHouse", name := "wrong", desc := "(I)I" } : MethodName) ({ cls := "PatternHouse", name := "wrong", desc := "(I)I" } : MethodName)) ∈ lw_good := z_g4 222 rfl rfl
theorem wg_1048 : (Cond.code ({ cls := "PatternHouse", name := "wrong", desc := "(I)I" } : MethodName) prog_1_method_29_code (5 : Nat) (Option.some FieldType.int)) ∈ lw_good := z_g4 223 rfl rfl
theorem wg_1049 : (Cond.methodLink "PatternHouse" (293 : Nat) ({ cls := "PatternHouse", name := "isWrong", desc := "(LPatternHouse$Seam;)Z" } : MethodName)) ∈ lw_good := z_g4 224 rfl rfl
theorem wg_1051 : (Cond.instanceMethod ({ cls := "PatternHouse", name := "isWrong", desc := "(LPatternHouse$Seam;)Z" } : MethodName)) ∈ lw_good := z_g4 226 rfl rfl
theorem wg_1052 : (Cond.code ({ cls := "PatternHouse", name := "isWrong", desc := "(LPatternHouse$Seam;)Z" } : MethodName) prog_1_method_73_code (2 : Nat) (Option.some FieldType.boolean)) ∈ lw_good := z_g4 227 rfl rfl
theorem wg_1053 : (Cond.methodLink "PatternHouseLaw" (135 : Nat) ({ cls := "PatternHouse", name := "condition", desc := "(IIIIIII)I" } : MethodName)) ∈ lw_good := z_g4 228 rfl rfl
theorem wg_1054 : (Cond.instanceMethod ({ cls := "PatternHouse", name := "condition", desc := "(IIIIIII)I" } : MethodName)) ∈ lw_good := z_g4 229 rfl rfl
theorem wg_1055 : (Cond.selects "PatternHouse" ({ cls := "PatternHouse", name := "condition", desc := "(IIIIIII)I" } : MethodName) ({ cls := "PatternHouse", name := "condition", desc := "(IIIIIII)I" } : MethodName)) ∈ lw_good := z_g4 230 rfl rfl
theorem wg_1056 : (Cond.code ({ cls := "PatternHouse", name := "condition", desc := "(IIIIIII)I" } : MethodName) prog_1_method_30_code (10 : Nat) (Option.some FieldType.int)) ∈ lw_good := z_g4 231 rfl rfl
theorem wg_1057 : (Cond.methodLink "PatternHouse" (308 : Nat) ({ cls := "PatternHouse$Conditions", name := "add", desc := "(IIIIIII)I" } : MethodName)) ∈ lw_good := z_g4 232 rfl rfl
theorem wg_1058 : (Cond.instanceMethod ({ cls := "PatternHouse$Conditions", name := "add", desc := "(IIIIIII)I" } : MethodName)) ∈ lw_good := z_g4 233 rfl rfl
theorem wg_1059 : (Cond.selects "PatternHouse$Conditions" ({ cls := "PatternHouse$Conditions", name := "add", desc := "(IIIIIII)I" } : MethodName) ({ cls := "PatternHouse$Conditions", name := "add", desc := "(IIIIIII)I" } : MethodName)) ∈ lw_good := z_g4 234 rfl rfl
theorem wg_1060 : (Cond.code ({ cls := "PatternHouse$Conditions", name := "add", desc := "(IIIIIII)I" } : MethodName) prog_3_method_2_code (9 : Nat) (Option.some FieldType.int)) ∈ lw_good := z_g4 235 rfl rfl
theorem wg_1061 : (Cond.methodLink "PatternHouseLaw" (140 : Nat) ({ cls := "PatternHouse", name := "free", desc := "()I" } : MethodName)) ∈ lw_good := z_g4 236 rfl rfl
theorem wg_1062 : (Cond.instanceMethod ({ cls := "PatternHouse", name := "free", desc := "()I" } : MethodName)) ∈ lw_good := z_g4 237 rfl rfl
theorem wg_1063 : (Cond.selects "PatternHouse" ({ cls := "PatternHouse", name := "free", desc := "()I" } : MethodName) ({ cls := "PatternHouse", name := "free", desc := "()I" } : MethodName)) ∈ lw_good := z_g4 238 rfl rfl
theorem wg_1064 : (Cond.code ({ cls := "PatternHouse", name := "free", desc := "()I" } : MethodName) prog_1_method_31_code (2 : Nat) (Option.some FieldType.int)) ∈ lw_good := z_g4 239 rfl rfl
theorem wg_1065 : (Cond.methodLink "PatternHouseLaw" (145 : Nat) ({ cls := "PatternHouse", name := "least", desc := "(II)J" } : MethodName)) ∈ lw_good := z_g5 0 rfl rfl
theorem wg_1066 : (Cond.instanceMethod ({ cls := "PatternHouse", name := "least", desc := "(II)J" } : MethodName)) ∈ lw_good := z_g5 1 rfl rfl
theorem wg_1067 : (Cond.selects "PatternHouse" ({ cls := "PatternHouse", name := "least", desc := "(II)J" } : MethodName) ({ cls := "PatternHouse", name := "least", desc := "(II)J" } : MethodName)) ∈ lw_good := z_g5 2 rfl rfl
theorem wg_1068 : (Cond.code ({ cls := "PatternHouse", name := "least", desc := "(II)J" } : MethodName) prog_1_method_32_code (3 : Nat) (Option.some FieldType.long)) ∈ lw_good := z_g5 3 rfl rfl
theorem wg_1069 : (Cond.methodLink "PatternHouse" (311 : Nat) ({ cls := "PatternHouse$Conditions", name := "solve", desc := "(I)Z" } : MethodName)) ∈ lw_good := z_g5 4 rfl rfl
theorem wg_1070 : (Cond.instanceMethod ({ cls := "PatternHouse$Conditions", name := "solve", desc := "(I)Z" } : MethodName)) ∈ lw_good := z_g5 5 rfl rfl
theorem wg_1071 : (Cond.selects "PatternHouse$Conditions" ({ cls := "PatternHouse$Conditions", name := "solve", desc := "(I)Z" } : MethodName) ({ cls := "PatternHouse$Conditions", name := "solve", desc := "(I)Z" } : MethodName)) ∈ lw_good := z_g5 6 rfl rfl
theorem wg_1072 : (Cond.code ({ cls := "PatternHouse$Conditions", name := "solve", desc := "(I)Z" } : MethodName) prog_3_method_3_code (14 : Nat) (Option.some FieldType.boolean)) ∈ lw_good := z_g5 7 rfl rfl
theorem wg_1073 : (Cond.methodLink "PatternHouse$Conditions" (29 : Nat) ({ cls := "PatternHouse$Conditions", name := "solveOne", desc := "(II)Z" } : MethodName)) ∈ lw_good := z_g5 8 rfl rfl
theorem wg_1075 : (Cond.instanceMethod ({ cls := "PatternHouse$Conditions", name := "solveOne", desc := "(II)Z" } : MethodName)) ∈ lw_good := z_g5 10 rfl rfl
theorem wg_1076 : (Cond.code ({ cls := "PatternHouse$Conditions", name := "solveOne", desc := "(II)Z" } : MethodName) prog_3_method_4_code (5 : Nat) (Option.some FieldType.boolean)) ∈ lw_good := z_g5 11 rfl rfl
theorem wg_1077 : (Cond.methodLink "PatternHouse$Conditions" (33 : Nat) ({ cls := "PatternHouse$Conditions", name := "product", desc := "(II)J" } : MethodName)) ∈ lw_good := z_g5 12 rfl rfl
theorem wg_1079 : (Cond.instanceMethod ({ cls := "PatternHouse$Conditions", name := "product", desc := "(II)J" } : MethodName)) ∈ lw_good := z_g5 14 rfl rfl
theorem wg_1080 : (Cond.code ({ cls := "PatternHouse$Conditions", name := "product", desc := "(II)J" } : MethodName) prog_3_method_6_code (6 : Nat) (Option.some FieldType.long)) ∈ lw_good := z_g5 15 rfl rfl
theorem wg_1081 : (Cond.methodLink "PatternHouse$Conditions" (41 : Nat) ({ cls := "PatternHouse$Conditions", name := "setFraction", desc := "(JJ)V" } : MethodName)) ∈ lw_good := z_g5 16 rfl rfl
theorem wg_1083 : (Cond.instanceMethod ({ cls := "PatternHouse$Conditions", name := "setFraction", desc := "(JJ)V" } : MethodName)) ∈ lw_good := z_g5 18 rfl rfl
theorem wg_1084 : (Cond.code ({ cls := "PatternHouse$Conditions", name := "setFraction", desc := "(JJ)V" } : MethodName) prog_3_method_7_code (12 : Nat) (Option.none : Option FieldType)) ∈ lw_good := z_g5 19 rfl rfl
theorem wg_1085 : (Cond.methodLink "PatternHouse$Conditions" (45 : Nat) ({ cls := "java/lang/Math", name := "abs", desc := "(J)J" } : MethodName)) ∈ lw_good := z_g5 20 rfl rfl
theorem wg_1086 : (Cond.methodLink "PatternHouse$Conditions" (37 : Nat) ({ cls := "PatternHouse$Conditions", name := "agree", desc := "(JJ)Z" } : MethodName)) ∈ lw_good := z_g5 21 rfl rfl
theorem wg_1088 : (Cond.instanceMethod ({ cls := "PatternHouse$Conditions", name := "agree", desc := "(JJ)Z" } : MethodName)) ∈ lw_good := z_g5 23 rfl rfl
theorem wg_1089 : (Cond.code ({ cls := "PatternHouse$Conditions", name := "agree", desc := "(JJ)Z" } : MethodName) prog_3_method_5_code (6 : Nat) (Option.some FieldType.boolean)) ∈ lw_good := z_g5 24 rfl rfl
theorem wg_1090 : (Cond.methodLink "PatternHouseLaw" (150 : Nat) ({ cls := "PatternHouse", name := "cloth", desc := "(II)I" } : MethodName)) ∈ lw_good := z_g5 25 rfl rfl
theorem wg_1091 : (Cond.instanceMethod ({ cls := "PatternHouse", name := "cloth", desc := "(II)I" } : MethodName)) ∈ lw_good := z_g5 26 rfl rfl
theorem wg_1092 : (Cond.selects "PatternHouse" ({ cls := "PatternHouse", name := "cloth", desc := "(II)I" } : MethodName) ({ cls := "PatternHouse", name := "cloth", desc := "(II)I" } : MethodName)) ∈ lw_good := z_g5 27 rfl rfl
theorem wg_1093 : (Cond.code ({ cls := "PatternHouse", name := "cloth", desc := "(II)I" } : MethodName) prog_1_method_33_code (5 : Nat) (Option.some FieldType.int)) ∈ lw_good := z_g5 28 rfl rfl
theorem wg_1094 : (Cond.fieldLink "PatternHouse" (321 : Nat) "PatternHouse" "CLOTH_LEAST" "[I") ∈ lw_good := z_g5 29 rfl rfl
theorem wg_1096 : (Cond.fieldLink "PatternHouse" (324 : Nat) "PatternHouse" "CLOTH_MOST" "[I") ∈ lw_good := z_g5 31 rfl rfl
theorem wg_1098 : (Cond.methodLink "PatternHouseLaw" (154 : Nat) ({ cls := "PatternHouse", name := "cells", desc := "(III)I" } : MethodName)) ∈ lw_good := z_g5 33 rfl rfl
theorem wg_1099 : (Cond.instanceMethod ({ cls := "PatternHouse", name := "cells", desc := "(III)I" } : MethodName)) ∈ lw_good := z_g5 34 rfl rfl
theorem wg_1100 : (Cond.selects "PatternHouse" ({ cls := "PatternHouse", name := "cells", desc := "(III)I" } : MethodName) ({ cls := "PatternHouse", name := "cells", desc := "(III)I" } : MethodName)) ∈ lw_good := z_g5 35 rfl rfl
theorem wg_1101 : (Cond.code ({ cls := "PatternHouse", name := "cells", desc := "(III)I" } : MethodName) prog_1_method_34_code (6 : Nat) (Option.some FieldType.int)) ∈ lw_good := z_g5 36 rfl rfl
theorem wg_1102 : (Cond.methodLink "PatternHouse" (330 : Nat) ({ cls := "PatternHouse$Shape", name := "cover", desc := "(LPatternHouse$Drawing;LPatternHouse$Piece;I)I" } : MethodName)) ∈ lw_good := z_g5 37 rfl rfl
theorem wg_1103 : (Cond.instanceMethod ({ cls := "PatternHouse$Shape", name := "cover", desc := "(LPatternHouse$Drawing;LPatternHouse$Piece;I)I" } : MethodName)) ∈ lw_good := z_g5 38 rfl rfl
theorem wg_1104 : (Cond.selects "PatternHouse$Shape" ({ cls := "PatternHouse$Shape", name := "cover", desc := "(LPatternHouse$Drawing;LPatternHouse$Piece;I)I" } : MethodName) ({ cls := "PatternHouse$Shape", name := "cover", desc := "(LPatternHouse$Drawing;LPatternHouse$Piece;I)I" } : MethodName)) ∈ lw_good := z_g5 39 rfl rfl
theorem wg_1105 : (Cond.code ({ cls := "PatternHouse$Shape", name := "cover", desc := "(LPatternHouse$Drawing;LPatternHouse$Piece;I)I" } : MethodName) prog_12_method_2_code (12 : Nat) (Option.some FieldType.int)) ∈ lw_good := z_g5 40 rfl rfl
theorem wg_1106 : (Cond.methodLink "PatternHouse$Shape" (18 : Nat) ({ cls := "java/util/Arrays", name := "fill", desc := "([II)V" } : MethodName)) ∈ lw_good := z_g5 41 rfl rfl
theorem wg_1107 : (Cond.methodLink "PatternHouse$Shape" (28 : Nat) ({ cls := "PatternHouse$Drawing", name := "trace", desc := "(LPatternHouse$Piece;)V" } : MethodName)) ∈ lw_good := z_g5 42 rfl rfl
theorem wg_1108 : (Cond.methodLink "PatternHouse$Shape" (34 : Nat) ({ cls := "PatternHouse$Shape", name := "spans", desc := "(LPatternHouse$Drawing;LPatternHouse$Piece;I)Z" } : MethodName)) ∈ lw_good := z_g5 43 rfl rfl
theorem wg_1110 : (Cond.instanceMethod ({ cls := "PatternHouse$Shape", name := "spans", desc := "(LPatternHouse$Drawing;LPatternHouse$Piece;I)Z" } : MethodName)) ∈ lw_good := z_g5 45 rfl rfl
theorem wg_1111 : (Cond.code ({ cls := "PatternHouse$Shape", name := "spans", desc := "(LPatternHouse$Drawing;LPatternHouse$Piece;I)Z" } : MethodName) prog_12_method_3_code (8 : Nat) (Option.some FieldType.boolean)) ∈ lw_good := z_g5 46 rfl rfl
theorem wg_1112 : (Cond.methodLink "PatternHouse$Shape" (68 : Nat) ({ cls := "java/lang/Math", name := "min", desc := "(II)I" } : MethodName)) ∈ lw_good := z_g5 47 rfl rfl
theorem wg_1113 : (Cond.methodLink "PatternHouse$Shape" (74 : Nat) ({ cls := "java/lang/Math", name := "max", desc := "(II)I" } : MethodName)) ∈ lw_good := z_g5 48 rfl rfl
theorem wg_1114 : (Cond.methodLink "PatternHouse$Shape" (58 : Nat) ({ cls := "PatternHouse$Shape", name := "cross", desc := "(IIIII)V" } : MethodName)) ∈ lw_good := z_g5 49 rfl rfl
theorem wg_1116 : (Cond.instanceMethod ({ cls := "PatternHouse$Shape", name := "cross", desc := "(IIIII)V" } : MethodName)) ∈ lw_good := z_g5 51 rfl rfl
theorem wg_1117 : (Cond.code ({ cls := "PatternHouse$Shape", name := "cross", desc := "(IIIII)V" } : MethodName) prog_12_method_4_code (14 : Nat) (Option.none : Option FieldType)) ∈ lw_good := z_g5 52 rfl rfl
theorem wg_1118 : (Cond.methodLink "PatternHouse$Shape" (62 : Nat) ({ cls := "PatternHouse$Shape", name := "moveHome", desc := "()V" } : MethodName)) ∈ lw_good := z_g5 53 rfl rfl
theorem wg_1120 : (Cond.instanceMethod ({ cls := "PatternHouse$Shape", name := "moveHome", desc := "()V" } : MethodName)) ∈ lw_good := z_g5 55 rfl rfl
theorem wg_1121 : (Cond.code ({ cls := "PatternHouse$Shape", name := "moveHome", desc := "()V" } : MethodName) prog_12_method_5_code (6 : Nat) (Option.none : Option FieldType)) ∈ lw_good := z_g5 56 rfl rfl
theorem wg_1122 : (Cond.methodLink "PatternHouse$Shape" (77 : Nat) ({ cls := "java/lang/Integer", name := "bitCount", desc := "(I)I" } : MethodName)) ∈ lw_good := z_g5 57 rfl rfl
theorem wg_1123 : (Cond.static ({ cls := "java/lang/Integer", name := "bitCount", desc := "(I)I" } : MethodName)) ∈ lw_good := z_g5 58 rfl rfl
theorem wg_1124 : (Cond.code ({ cls := "java/lang/Integer", name := "bitCount", desc := "(I)I" } : MethodName) prog_17_method_49_code (1 : Nat) (Option.some FieldType.int)) ∈ lw_good := z_g5 59 rfl rfl
theorem wg_1125 : (Cond.constant "java/lang/Integer" (265 : Nat) (1431655765 : Int32)) ∈ lw_good := z_g5 60 rfl rfl
theorem wg_1126 : (Cond.constant "java/lang/Integer" (266 : Nat) (858993459 : Int32)) ∈ lw_good := z_g5 61 rfl rfl
theorem wg_1127 : (Cond.constant "java/lang/Integer" (267 : Nat) (252645135 : Int32)) ∈ lw_good := z_g5 62 rfl rfl
theorem wg_1128 : (Cond.methodLink "PatternHouse$Shape" (65 : Nat) ({ cls := "PatternHouse$Shape", name := "turn", desc := "()V" } : MethodName)) ∈ lw_good := z_g5 63 rfl rfl
theorem wg_1130 : (Cond.instanceMethod ({ cls := "PatternHouse$Shape", name := "turn", desc := "()V" } : MethodName)) ∈ lw_good := z_g5 65 rfl rfl
theorem wg_1131 : (Cond.code ({ cls := "PatternHouse$Shape", name := "turn", desc := "()V" } : MethodName) prog_12_method_6_code (4 : Nat) (Option.none : Option FieldType)) ∈ lw_good := z_g5 66 rfl rfl
theorem wg_1132 : (Cond.methodLink "PatternHouseLaw" (158 : Nat) ({ cls := "PatternHouse", name := "lays", desc := "(II)I" } : MethodName)) ∈ lw_good := z_g5 67 rfl rfl
theorem wg_1133 : (Cond.instanceMethod ({ cls := "PatternHouse", name := "lays", desc := "(II)I" } : MethodName)) ∈ lw_good := z_g5 68 rfl rfl
theorem wg_1134 : (Cond.selects "PatternHouse" ({ cls := "PatternHouse", name := "lays", desc := "(II)I" } : MethodName) ({ cls := "PatternHouse", name := "lays", desc := "(II)I" } : MethodName)) ∈ lw_good := z_g5 69 rfl rfl
theorem wg_1135 : (Cond.code ({ cls := "PatternHouse", name := "lays", desc := "(II)I" } : MethodName) prog_1_method_35_code (4 : Nat) (Option.some FieldType.int)) ∈ lw_good := z_g5 70 rfl rfl
theorem wg_1136 : (Cond.methodLink "PatternHouse" (335 : Nat) ({ cls := "PatternHouse$Laying", name := "add", desc := "(LPatternHouse$Piece;I)I" } : MethodName)) ∈ lw_good := z_g5 71 rfl rfl
theorem wg_1137 : (Cond.instanceMethod ({ cls := "PatternHouse$Laying", name := "add", desc := "(LPatternHouse$Piece;I)I" } : MethodName)) ∈ lw_good := z_g5 72 rfl rfl
theorem wg_1138 : (Cond.selects "PatternHouse$Laying" ({ cls := "PatternHouse$Laying", name := "add", desc := "(LPatternHouse$Piece;I)I" } : MethodName) ({ cls := "PatternHouse$Laying", name := "add", desc := "(LPatternHouse$Piece;I)I" } : MethodName)) ∈ lw_good := z_g5 73 rfl rfl
theorem wg_1139 : (Cond.code ({ cls := "PatternHouse$Laying", name := "add", desc := "(LPatternHouse$Piece;I)I" } : MethodName) prog_6_method_2_code (3 : Nat) (Option.some FieldType.int)) ∈ lw_good := z_g5 74 rfl rfl
theorem wg_1140 : (Cond.methodLink "PatternHouseLaw" (162 : Nat) ({ cls := "PatternHouse", name := "clear", desc := "()I" } : MethodName)) ∈ lw_good := z_g5 75 rfl rfl
theorem wg_1141 : (Cond.instanceMethod ({ cls := "PatternHouse", name := "clear", desc := "()I" } : MethodName)) ∈ lw_good := z_g5 76 rfl rfl
theorem wg_1142 : (Cond.selects "PatternHouse" ({ cls := "PatternHouse", name := "clear", desc := "()I" } : MethodName) ({ cls := "PatternHouse", name := "clear", desc := "()I" } : MethodName)) ∈ lw_good := z_g5 77 rfl rfl
theorem wg_1143 : (Cond.code ({ cls := "PatternHouse", name := "clear", desc := "()I" } : MethodName) prog_1_method_36_code (2 : Nat) (Option.some FieldType.int)) ∈ lw_good := z_g5 78 rfl rfl
theorem wg_1144 : (Cond.methodLink "PatternHouseLaw" (166 : Nat) ({ cls := "PatternHouse", name := "shortest", desc := "(I)I" } : MethodName)) ∈ lw_good := z_g5 79 rfl rfl
theorem wg_1145 : (Cond.instanceMethod ({ cls := "PatternHouse", name := "shortest", desc := "(I)I" } : MethodName)) ∈ lw_good := z_g5 80 rfl rfl
theorem wg_1146 : (Cond.selects "PatternHouse" ({ cls := "PatternHouse", name := "shortest", desc := "(I)I" } : MethodName) ({ cls := "PatternHouse", name := "shortest", desc := "(I)I" } : MethodName)) ∈ lw_good := z_g5 81 rfl rfl
theorem wg_1147 : (Cond.code ({ cls := "PatternHouse", name := "shortest", desc := "(I)I" } : MethodName) prog_1_method_37_code (3 : Nat) (Option.some FieldType.int)) ∈ lw_good := z_g5 82 rfl rfl
theorem wg_1148 : (Cond.methodLink "PatternHouse" (338 : Nat) ({ cls := "PatternHouse", name := "layingRefused", desc := "()I" } : MethodName)) ∈ lw_good := z_g5 83 rfl rfl
theorem wg_1150 : (Cond.instanceMethod ({ cls := "PatternHouse", name := "layingRefused", desc := "()I" } : MethodName)) ∈ lw_good := z_g5 85 rfl rfl
theorem wg_1151 : (Cond.code ({ cls := "PatternHouse", name := "layingRefused", desc := "()I" } : MethodName) prog_1_method_75_code (1 : Nat) (Option.some FieldType.int)) ∈ lw_good := z_g5 86 rfl rfl
theorem wg_1152 : (Cond.methodLink "PatternHouse" (356 : Nat) ({ cls := "PatternHouse", name := "shapesStand", desc := "()Z" } : MethodName)) ∈ lw_good := z_g5 87 rfl rfl
theorem wg_1154 : (Cond.instanceMethod ({ cls := "PatternHouse", name := "shapesStand", desc := "()Z" } : MethodName)) ∈ lw_good := z_g5 89 rfl rfl
theorem wg_1155 : (Cond.code ({ cls := "PatternHouse", name := "shapesStand", desc := "()Z" } : MethodName) prog_1_method_74_code (3 : Nat) (Option.some FieldType.boolean)) ∈ lw_good := z_g5 90 rfl rfl
theorem wg_1156 : (Cond.methodLink "PatternHouse" (478 : Nat) ({ cls := "PatternHouse$Laying", name := "findShortest", desc := "()Z" } : MethodName)) ∈ lw_good := z_g5 91 rfl rfl
theorem wg_1157 : (Cond.instanceMethod ({ cls := "PatternHouse$Laying", name := "findShortest", desc := "()Z" } : MethodName)) ∈ lw_good := z_g5 92 rfl rfl
theorem wg_1158 : (Cond.selects "PatternHouse$Laying" ({ cls := "PatternHouse$Laying", name := "findShortest", desc := "()Z" } : MethodName) ({ cls := "PatternHouse$Laying", name := "findShortest", desc := "()Z" } : MethodName)) ∈ lw_good := z_g5 93 rfl rfl
theorem wg_1159 : (Cond.code ({ cls := "PatternHouse$Laying", name := "findShortest", desc := "()Z" } : MethodName) prog_6_method_4_code (1 : Nat) (Option.some FieldType.boolean)) ∈ lw_good := z_g5 94 rfl rfl
theorem wg_1160 : (Cond.methodLink "PatternHouse$Laying" (70 : Nat) ({ cls := "java/util/Arrays", name := "fill", desc := "([II)V" } : MethodName)) ∈ lw_good := z_g5 95 rfl rfl
theorem wg_1161 : (Cond.methodLink "PatternHouse$Laying" (79 : Nat) ({ cls := "PatternHouse$Laying", name := "layNext", desc := "(III)V" } : MethodName)) ∈ lw_good := z_g5 96 rfl rfl
theorem wg_1163 : (Cond.instanceMethod ({ cls := "PatternHouse$Laying", name := "layNext", desc := "(III)V" } : MethodName)) ∈ lw_good := z_g5 98 rfl rfl
theorem wg_1164 : (Cond.code ({ cls := "PatternHouse$Laying", name := "layNext", desc := "(III)V" } : MethodName) prog_6_method_5_code (5 : Nat) (Option.none : Option FieldType)) ∈ lw_good := z_g5 99 rfl rfl
theorem wg_1165 : (Cond.methodLink "PatternHouse$Laying" (83 : Nat) ({ cls := "PatternHouse$Laying", name := "keepBest", desc := "(I)V" } : MethodName)) ∈ lw_good := z_g5 100 rfl rfl
theorem wg_1167 : (Cond.instanceMethod ({ cls := "PatternHouse$Laying", name := "keepBest", desc := "(I)V" } : MethodName)) ∈ lw_good := z_g5 102 rfl rfl
theorem wg_1168 : (Cond.code ({ cls := "PatternHouse$Laying", name := "keepBest", desc := "(I)V" } : MethodName) prog_6_method_6_code (3 : Nat) (Option.none : Option FieldType)) ∈ lw_good := z_g5 103 rfl rfl
theorem wg_1169 : (Cond.methodLink "PatternHouse$Laying" (87 : Nat) ({ cls := "PatternHouse$Laying", name := "findPlace", desc := "(I)Z" } : MethodName)) ∈ lw_good := z_g5 104 rfl rfl
theorem wg_1171 : (Cond.instanceMethod ({ cls := "PatternHouse$Laying", name := "findPlace", desc := "(I)Z" } : MethodName)) ∈ lw_good := z_g5 106 rfl rfl
theorem wg_1172 : (Cond.code ({ cls := "PatternHouse$Laying", name := "findPlace", desc := "(I)Z" } : MethodName) prog_6_method_7_code (7 : Nat) (Option.some FieldType.boolean)) ∈ lw_good := z_g5 107 rfl rfl
theorem wg_1173 : (Cond.methodLink "PatternHouse$Laying" (61 : Nat) ({ cls := "java/lang/Math", name := "max", desc := "(II)I" } : MethodName)) ∈ lw_good := z_g5 108 rfl rfl
theorem wg_1174 : (Cond.methodLink "PatternHouse$Laying" (100 : Nat) ({ cls := "PatternHouse$Laying", name := "isFree", desc := "(I)Z" } : MethodName)) ∈ lw_good := z_g5 109 rfl rfl
theorem wg_1176 : (Cond.instanceMethod ({ cls := "PatternHouse$Laying", name := "isFree", desc := "(I)Z" } : MethodName)) ∈ lw_good := z_g5 111 rfl rfl
theorem wg_1177 : (Cond.code ({ cls := "PatternHouse$Laying", name := "isFree", desc := "(I)Z" } : MethodName) prog_6_method_9_code (4 : Nat) (Option.some FieldType.boolean)) ∈ lw_good := z_g5 112 rfl rfl
theorem wg_1178 : (Cond.methodLink "PatternHouse$Laying" (109 : Nat) ({ cls := "PatternHouse$Laying", name := "cellsOf", desc := "(I)[I" } : MethodName)) ∈ lw_good := z_g5 113 rfl rfl
theorem wg_1180 : (Cond.instanceMethod ({ cls := "PatternHouse$Laying", name := "cellsOf", desc := "(I)[I" } : MethodName)) ∈ lw_good := z_g5 115 rfl rfl
theorem wg_1181 : (Cond.code ({ cls := "PatternHouse$Laying", name := "cellsOf", desc := "(I)[I" } : MethodName) prog_6_method_8_code (2 : Nat) (Option.some (FieldType.array FieldType.int))) ∈ lw_good := z_g5 116 rfl rfl
theorem wg_1182 : (Cond.methodLink "PatternHouse$Laying" (91 : Nat) ({ cls := "PatternHouse$Laying", name := "flip", desc := "(I)V" } : MethodName)) ∈ lw_good := z_g5 117 rfl rfl
theorem wg_1184 : (Cond.instanceMethod ({ cls := "PatternHouse$Laying", name := "flip", desc := "(I)V" } : MethodName)) ∈ lw_good := z_g5 119 rfl rfl
theorem wg_1185 : (Cond.code ({ cls := "PatternHouse$Laying", name := "flip", desc := "(I)V" } : MethodName) prog_6_method_10_code (4 : Nat) (Option.none : Option FieldType)) ∈ lw_good := z_g5 120 rfl rfl
theorem wg_1186 : (Cond.methodLink "PatternHouse" (344 : Nat) ({ cls := "PatternHouse$Laying", name := "bound", desc := "()I" } : MethodName)) ∈ lw_good := z_g5 121 rfl rfl
theorem wg_1187 : (Cond.instanceMethod ({ cls := "PatternHouse$Laying", name := "bound", desc := "()I" } : MethodName)) ∈ lw_good := z_g5 122 rfl rfl
theorem wg_1188 : (Cond.selects "PatternHouse$Laying" ({ cls := "PatternHouse$Laying", name := "bound", desc := "()I" } : MethodName) ({ cls := "PatternHouse$Laying", name := "bound", desc := "()I" } : MethodName)) ∈ lw_good := z_g5 123 rfl rfl
theorem wg_1189 : (Cond.code ({ cls := "PatternHouse$Laying", name := "bound", desc := "()I" } : MethodName) prog_6_method_3_code (4 : Nat) (Option.some FieldType.int)) ∈ lw_good := z_g5 124 rfl rfl
theorem wg_1190 : (Cond.methodLink "PatternHouseLaw" (170 : Nat) ({ cls := "PatternHouse", name := "place", desc := "(II)I" } : MethodName)) ∈ lw_good := z_g5 125 rfl rfl
theorem wg_1191 : (Cond.instanceMethod ({ cls := "PatternHouse", name := "place", desc := "(II)I" } : MethodName)) ∈ lw_good := z_g5 126 rfl rfl
theorem wg_1192 : (Cond.selects "PatternHouse" ({ cls := "PatternHouse", name := "place", desc := "(II)I" } : MethodName) ({ cls := "PatternHouse", name := "place", desc := "(II)I" } : MethodName)) ∈ lw_good := z_g5 127 rfl rfl
theorem wg_1193 : (Cond.code ({ cls := "PatternHouse", name := "place", desc := "(II)I" } : MethodName) prog_1_method_38_code (4 : Nat) (Option.some FieldType.int)) ∈ lw_good := z_g5 128 rfl rfl
theorem wg_1194 : (Cond.methodLink "PatternHouseLaw" (174 : Nat) ({ cls := "PatternHouse", name := "put", desc := "(I)I" } : MethodName)) ∈ lw_good := z_g5 129 rfl rfl
theorem wg_1195 : (Cond.instanceMethod ({ cls := "PatternHouse", name := "put", desc := "(I)I" } : MethodName)) ∈ lw_good := z_g5 130 rfl rfl
theorem wg_1196 : (Cond.selects "PatternHouse" ({ cls := "PatternHouse", name := "put", desc := "(I)I" } : MethodName) ({ cls := "PatternHouse", name := "put", desc := "(I)I" } : MethodName)) ∈ lw_good := z_g5 131 rfl rfl
theorem wg_1197 : (Cond.code ({ cls := "PatternHouse", name := "put", desc := "(I)I" } : MethodName) prog_1_method_39_code (3 : Nat) (Option.some FieldType.int)) ∈ lw_good := z_g5 132 rfl rfl
theorem wg_1198 : (Cond.methodLink "PatternHouseLaw" (178 : Nat) ({ cls := "PatternHouse", name := "judge", desc := "()I" } : MethodName)) ∈ lw_good := z_g5 133 rfl rfl
theorem wg_1199 : (Cond.instanceMethod ({ cls := "PatternHouse", name := "judge", desc := "()I" } : MethodName)) ∈ lw_good := z_g5 134 rfl rfl
theorem wg_1200 : (Cond.selects "PatternHouse" ({ cls := "PatternHouse", name := "judge", desc := "()I" } : MethodName) ({ cls := "PatternHouse", name := "judge", desc := "()I" } : MethodName)) ∈ lw_good := z_g5 135 rfl rfl
theorem wg_1201 : (Cond.code ({ cls := "PatternHouse", name := "judge", desc := "()I" } : MethodName) prog_1_method_40_code (1 : Nat) (Option.some FieldType.int)) ∈ lw_good := z_g5 136 rfl rfl
theorem wg_1202 : (Cond.methodLink "PatternHouse" (359 : Nat) ({ cls := "PatternHouse$Laying", name := "judged", desc := "()I" } : MethodName)) ∈ lw_good := z_g5 137 rfl rfl
theorem wg_1203 : (Cond.instanceMethod ({ cls := "PatternHouse$Laying", name := "judged", desc := "()I" } : MethodName)) ∈ lw_good := z_g5 138 rfl rfl
theorem wg_1204 : (Cond.selects "PatternHouse$Laying" ({ cls := "PatternHouse$Laying", name := "judged", desc := "()I" } : MethodName) ({ cls := "PatternHouse$Laying", name := "judged", desc := "()I" } : MethodName)) ∈ lw_good := z_g5 139 rfl rfl
theorem wg_1205 : (Cond.code ({ cls := "PatternHouse$Laying", name := "judged", desc := "()I" } : MethodName) prog_6_method_11_code (3 : Nat) (Option.some FieldType.int)) ∈ lw_good := z_g5 140 rfl rfl
theorem wg_1206 : (Cond.methodLink "PatternHouse$Laying" (113 : Nat) ({ cls := "PatternHouse$Laying", name := "liesWell", desc := "(I)Z" } : MethodName)) ∈ lw_good := z_g5 141 rfl rfl
theorem wg_1208 : (Cond.instanceMethod ({ cls := "PatternHouse$Laying", name := "liesWell", desc := "(I)Z" } : MethodName)) ∈ lw_good := z_g5 143 rfl rfl
theorem wg_1209 : (Cond.code ({ cls := "PatternHouse$Laying", name := "liesWell", desc := "(I)Z" } : MethodName) prog_6_method_12_code (2 : Nat) (Option.some FieldType.boolean)) ∈ lw_good := z_g5 144 rfl rfl
theorem wg_1210 : (Cond.methodLink "PatternHouseLaw" (182 : Nat) ({ cls := "PatternHouse", name := "cut", desc := "(IIZ)I" } : MethodName)) ∈ lw_good := z_g5 145 rfl rfl
theorem wg_1211 : (Cond.instanceMethod ({ cls := "PatternHouse", name := "cut", desc := "(IIZ)I" } : MethodName)) ∈ lw_good := z_g5 146 rfl rfl
theorem wg_1212 : (Cond.selects "PatternHouse" ({ cls := "PatternHouse", name := "cut", desc := "(IIZ)I" } : MethodName) ({ cls := "PatternHouse", name := "cut", desc := "(IIZ)I" } : MethodName)) ∈ lw_good := z_g5 147 rfl rfl
theorem wg_1213 : (Cond.code ({ cls := "PatternHouse", name := "cut", desc := "(IIZ)I" } : MethodName) prog_1_method_41_code (8 : Nat) (Option.some FieldType.int)) ∈ lw_good := z_g5 148 rfl rfl
theorem wg_1214 : (Cond.constant "PatternHouse" (362 : Nat) (-99999 : Int32)) ∈ lw_good := z_g5 149 rfl rfl
theorem wg_1215 : (Cond.methodLink "PatternHouse" (363 : Nat) ({ cls := "java/lang/Math", name := "abs", desc := "(I)I" } : MethodName)) ∈ lw_good := z_g5 150 rfl rfl
theorem wg_1216 : (Cond.static ({ cls := "java/lang/Math", name := "abs", desc := "(I)I" } : MethodName)) ∈ lw_good := z_g5 151 rfl rfl
theorem wg_1217 : (Cond.code ({ cls := "java/lang/Math", name := "abs", desc := "(I)I" } : MethodName) prog_18_method_59_code (1 : Nat) (Option.some FieldType.int)) ∈ lw_good := z_g5 152 rfl rfl
theorem wg_1218 : (Cond.methodLink "PatternHouseLaw" (187 : Nat) ({ cls := "PatternHouse", name := "trial", desc := "(IIIIII)I" } : MethodName)) ∈ lw_good := z_g5 153 rfl rfl
theorem wg_1219 : (Cond.instanceMethod ({ cls := "PatternHouse", name := "trial", desc := "(IIIIII)I" } : MethodName)) ∈ lw_good := z_g5 154 rfl rfl
theorem wg_1220 : (Cond.selects "PatternHouse" ({ cls := "PatternHouse", name := "trial", desc := "(IIIIII)I" } : MethodName) ({ cls := "PatternHouse", name := "trial", desc := "(IIIIII)I" } : MethodName)) ∈ lw_good := z_g5 155 rfl rfl
theorem wg_1221 : (Cond.code ({ cls := "PatternHouse", name := "trial", desc := "(IIIIII)I" } : MethodName) prog_1_method_42_code (9 : Nat) (Option.some FieldType.int)) ∈ lw_good := z_g5 156 rfl rfl
theorem wg_1222 : (Cond.methodLink "PatternHouse" (369 : Nat) ({ cls := "PatternHouse", name := "trialKey", desc := "(III)I" } : MethodName)) ∈ lw_good := z_g5 157 rfl rfl
theorem wg_1223 : (Cond.static ({ cls := "PatternHouse", name := "trialKey", desc := "(III)I" } : MethodName)) ∈ lw_good := z_g5 158 rfl rfl
theorem wg_1224 : (Cond.code ({ cls := "PatternHouse", name := "trialKey", desc := "(III)I" } : MethodName) prog_1_method_66_code (3 : Nat) (Option.some FieldType.int)) ∈ lw_good := z_g5 159 rfl rfl
theorem wg_1225 : (Cond.methodLink "PatternHouse" (372 : Nat) ({ cls := "PatternHouse$Body", name := "addTrial", desc := "(III)V" } : MethodName)) ∈ lw_good := z_g5 160 rfl rfl
theorem wg_1226 : (Cond.instanceMethod ({ cls := "PatternHouse$Body", name := "addTrial", desc := "(III)V" } : MethodName)) ∈ lw_good := z_g5 161 rfl rfl
theorem wg_1227 : (Cond.selects "PatternHouse$Body" ({ cls := "PatternHouse$Body", name := "addTrial", desc := "(III)V" } : MethodName) ({ cls := "PatternHouse$Body", name := "addTrial", desc := "(III)V" } : MethodName)) ∈ lw_good := z_g5 162 rfl rfl
theorem wg_1228 : (Cond.code ({ cls := "PatternHouse$Body", name := "addTrial", desc := "(III)V" } : MethodName) prog_2_method_6_code (4 : Nat) (Option.none : Option FieldType)) ∈ lw_good := z_g5 163 rfl rfl
theorem wg_1229 : (Cond.methodLink "PatternHouseLaw" (192 : Nat) ({ cls := "PatternHouse", name := "said", desc := "(IIIII)I" } : MethodName)) ∈ lw_good := z_g5 164 rfl rfl
theorem wg_1230 : (Cond.instanceMethod ({ cls := "PatternHouse", name := "said", desc := "(IIIII)I" } : MethodName)) ∈ lw_good := z_g5 165 rfl rfl
theorem wg_1231 : (Cond.selects "PatternHouse" ({ cls := "PatternHouse", name := "said", desc := "(IIIII)I" } : MethodName) ({ cls := "PatternHouse", name := "said", desc := "(IIIII)I" } : MethodName)) ∈ lw_good := z_g5 166 rfl rfl
theorem wg_1232 : (Cond.code ({ cls := "PatternHouse", name := "said", desc := "(IIIII)I" } : MethodName) prog_1_method_43_code (12 : Nat) (Option.some FieldType.int)) ∈ lw_good := z_g5 167 rfl rfl
theorem wg_1233 : (Cond.methodLink "PatternHouse" (376 : Nat) ({ cls := "PatternHouse$Body", name := "hasTrial", desc := "(I)Z" } : MethodName)) ∈ lw_good := z_g5 168 rfl rfl
theorem wg_1234 : (Cond.instanceMethod ({ cls := "PatternHouse$Body", name := "hasTrial", desc := "(I)Z" } : MethodName)) ∈ lw_good := z_g5 169 rfl rfl
theorem wg_1235 : (Cond.selects "PatternHouse$Body" ({ cls := "PatternHouse$Body", name := "hasTrial", desc := "(I)Z" } : MethodName) ({ cls := "PatternHouse$Body", name := "hasTrial", desc := "(I)Z" } : MethodName)) ∈ lw_good := z_g5 170 rfl rfl
theorem wg_1236 : (Cond.code ({ cls := "PatternHouse$Body", name := "hasTrial", desc := "(I)Z" } : MethodName) prog_2_method_7_code (3 : Nat) (Option.some FieldType.boolean)) ∈ lw_good := z_g5 171 rfl rfl
theorem wg_1237 : (Cond.methodLink "PatternHouse" (379 : Nat) ({ cls := "PatternHouse$Body", name := "leastSaid", desc := "(I)I" } : MethodName)) ∈ lw_good := z_g5 172 rfl rfl
theorem wg_1238 : (Cond.instanceMethod ({ cls := "PatternHouse$Body", name := "leastSaid", desc := "(I)I" } : MethodName)) ∈ lw_good := z_g5 173 rfl rfl
theorem wg_1239 : (Cond.selects "PatternHouse$Body" ({ cls := "PatternHouse$Body", name := "leastSaid", desc := "(I)I" } : MethodName) ({ cls := "PatternHouse$Body", name := "leastSaid", desc := "(I)I" } : MethodName)) ∈ lw_good := z_g5 174 rfl rfl
theorem wg_1240 : (Cond.code ({ cls := "PatternHouse$Body", name := "leastSaid", desc := "(I)I" } : MethodName) prog_2_method_8_code (4 : Nat) (Option.some FieldType.int)) ∈ lw_good := z_g5 175 rfl rfl
theorem wg_1241 : (Cond.constant "PatternHouse$Body" (47 : Nat) (-99999 : Int32)) ∈ lw_good := z_g5 176 rfl rfl
theorem wg_1242 : (Cond.methodLink "PatternHouse$Body" (48 : Nat) ({ cls := "java/lang/Math", name := "max", desc := "(II)I" } : MethodName)) ∈ lw_good := z_g5 177 rfl rfl
theorem wg_1243 : (Cond.methodLink "PatternHouse" (382 : Nat) ({ cls := "PatternHouse$Body", name := "mostSaid", desc := "(I)I" } : MethodName)) ∈ lw_good := z_g5 178 rfl rfl
theorem wg_1244 : (Cond.instanceMethod ({ cls := "PatternHouse$Body", name := "mostSaid", desc := "(I)I" } : MethodName)) ∈ lw_good := z_g5 179 rfl rfl
theorem wg_1245 : (Cond.selects "PatternHouse$Body" ({ cls := "PatternHouse$Body", name := "mostSaid", desc := "(I)I" } : MethodName) ({ cls := "PatternHouse$Body", name := "mostSaid", desc := "(I)I" } : MethodName)) ∈ lw_good := z_g5 180 rfl rfl
theorem wg_1246 : (Cond.code ({ cls := "PatternHouse$Body", name := "mostSaid", desc := "(I)I" } : MethodName) prog_2_method_9_code (4 : Nat) (Option.some FieldType.int)) ∈ lw_good := z_g5 181 rfl rfl
theorem wg_1247 : (Cond.constant "PatternHouse$Body" (53 : Nat) (199998 : Int32)) ∈ lw_good := z_g5 182 rfl rfl
theorem wg_1248 : (Cond.methodLink "PatternHouse$Body" (54 : Nat) ({ cls := "java/lang/Math", name := "min", desc := "(II)I" } : MethodName)) ∈ lw_good := z_g5 183 rfl rfl
theorem wg_1249 : (Cond.methodLink "PatternHouseLaw" (196 : Nat) ({ cls := "PatternHouse", name := "edition", desc := "()I" } : MethodName)) ∈ lw_good := z_g5 184 rfl rfl
theorem wg_1250 : (Cond.instanceMethod ({ cls := "PatternHouse", name := "edition", desc := "()I" } : MethodName)) ∈ lw_good := z_g5 185 rfl rfl
theorem wg_1251 : (Cond.selects "PatternHouse" ({ cls := "PatternHouse", name := "edition", desc := "()I" } : MethodName) ({ cls := "PatternHouse", name := "edition", desc := "()I" } : MethodName)) ∈ lw_good := z_g5 186 rfl rfl
theorem wg_1252 : (Cond.code ({ cls := "PatternHouse", name := "edition", desc := "()I" } : MethodName) prog_1_method_44_code (1 : Nat) (Option.some FieldType.int)) ∈ lw_good := z_g5 187 rfl rfl
theorem wg_1253 : (Cond.instantiable "PatternHouse$Edition" (8 : Nat)) ∈ lw_good := z_g5 188 rfl rfl
theorem wg_1254 : (Cond.methodLink "PatternHouse" (388 : Nat) ({ cls := "PatternHouse$Edition", name := "<init>", desc := "(I)V" } : MethodName)) ∈ lw_good := z_g5 189 rfl rfl
theorem wg_1255 : (Cond.instanceMethod ({ cls := "PatternHouse$Edition", name := "<init>", desc := "(I)V" } : MethodName)) ∈ lw_good := z_g5 190 rfl rfl
theorem wg_1256 : (Cond.code ({ cls := "PatternHouse$Edition", name := "<init>", desc := "(I)V" } : MethodName) prog_5_method_1_code (2 : Nat) (Option.none : Option FieldType)) ∈ lw_good := z_g5 191 rfl rfl
theorem wg_1257 : (Cond.methodLink "PatternHouse$Edition" (3 : Nat) ({ cls := "java/lang/Object", name := "<init>", desc := "()V" } : MethodName)) ∈ lw_good := z_g5 192 rfl rfl
theorem wg_1258 : (Cond.classLink "PatternHouse$Edition" (9 : Nat) "PatternHouse$Piece") ∈ lw_good := z_g5 193 rfl rfl
theorem wg_1259 : (Cond.fieldLink "PatternHouse$Edition" (30 : Nat) "PatternHouse$Edition" "day" "I") ∈ lw_good := z_g5 194 rfl rfl
theorem wn_1260 : (Cond.fieldLinkNest "PatternHouse" (393 : Nat) "PatternHouse$Edition" "day" "I" "PatternHouse") ∈ lw_nest := z_n5 195 rfl rfl
theorem wg_1261 : (Cond.fieldLink "PatternHouse$Edition" (11 : Nat) "PatternHouse$Edition" "pieces" "[LPatternHouse$Piece;") ∈ lw_good := z_g5 196 rfl rfl
theorem wn_1262 : (Cond.fieldLinkNest "PatternHouse" (484 : Nat) "PatternHouse$Edition" "pieces" "[LPatternHouse$Piece;" "PatternHouse") ∈ lw_nest := z_n5 197 rfl rfl
theorem wg_1263 : (Cond.fieldLink "PatternHouse$Edition" (17 : Nat) "PatternHouse$Edition" "sizes" "[I") ∈ lw_good := z_g5 198 rfl rfl
theorem wn_1264 : (Cond.fieldLinkNest "PatternHouse" (494 : Nat) "PatternHouse$Edition" "sizes" "[I" "PatternHouse") ∈ lw_nest := z_n5 199 rfl rfl
theorem wg_1265 : (Cond.fieldLink "PatternHouse$Edition" (34 : Nat) "PatternHouse$Edition" "held" "I") ∈ lw_good := z_g5 200 rfl rfl
theorem wn_1266 : (Cond.fieldLinkNest "PatternHouse" (394 : Nat) "PatternHouse$Edition" "held" "I" "PatternHouse") ∈ lw_nest := z_n5 201 rfl rfl
theorem wg_1267 : (Cond.fieldLink "PatternHouse$Edition" (21 : Nat) "PatternHouse$Edition" "wordOf" "[I") ∈ lw_good := z_g5 202 rfl rfl
theorem wn_1268 : (Cond.fieldLinkNest "PatternHouse" (481 : Nat) "PatternHouse$Edition" "wordOf" "[I" "PatternHouse") ∈ lw_nest := z_n5 203 rfl rfl
theorem wg_1269 : (Cond.fieldLink "PatternHouse$Edition" (24 : Nat) "PatternHouse$Edition" "wordWhat" "[I") ∈ lw_good := z_g5 204 rfl rfl
theorem wn_1270 : (Cond.fieldLinkNest "PatternHouse" (488 : Nat) "PatternHouse$Edition" "wordWhat" "[I" "PatternHouse") ∈ lw_nest := z_n5 205 rfl rfl
theorem wg_1271 : (Cond.fieldLink "PatternHouse$Edition" (27 : Nat) "PatternHouse$Edition" "wordSays" "[I") ∈ lw_good := z_g5 206 rfl rfl
theorem wn_1272 : (Cond.fieldLinkNest "PatternHouse" (485 : Nat) "PatternHouse$Edition" "wordSays" "[I" "PatternHouse") ∈ lw_nest := z_n5 207 rfl rfl
theorem wg_1273 : (Cond.fieldLink "PatternHouse$Edition" (37 : Nat) "PatternHouse$Edition" "words" "I") ∈ lw_good := z_g5 208 rfl rfl
theorem wn_1274 : (Cond.fieldLinkNest "PatternHouse" (401 : Nat) "PatternHouse$Edition" "words" "I" "PatternHouse") ∈ lw_nest := z_n5 209 rfl rfl
theorem wg_1275 : (Cond.laysFinal "PatternHouse$Edition" "PatternHouse$Edition" "day" "I") ∈ lw_good := z_g5 210 rfl rfl
theorem wg_1277 : (Cond.laysFinal "PatternHouse$Edition" "PatternHouse$Edition" "pieces" "[LPatternHouse$Piece;") ∈ lw_good := z_g5 212 rfl rfl
theorem wg_1279 : (Cond.laysFinal "PatternHouse$Edition" "PatternHouse$Edition" "sizes" "[I") ∈ lw_good := z_g5 214 rfl rfl
theorem wg_1281 : (Cond.lays "PatternHouse$Edition" "PatternHouse$Edition" "held" "I") ∈ lw_good := z_g5 216 rfl rfl
theorem wg_1283 : (Cond.laysFinal "PatternHouse$Edition" "PatternHouse$Edition" "wordOf" "[I") ∈ lw_good := z_g5 218 rfl rfl
theorem wg_1285 : (Cond.laysFinal "PatternHouse$Edition" "PatternHouse$Edition" "wordWhat" "[I") ∈ lw_good := z_g5 220 rfl rfl
theorem wg_1287 : (Cond.laysFinal "PatternHouse$Edition" "PatternHouse$Edition" "wordSays" "[I") ∈ lw_good := z_g5 222 rfl rfl
theorem wg_1289 : (Cond.lays "PatternHouse$Edition" "PatternHouse$Edition" "words" "I") ∈ lw_good := z_g5 224 rfl rfl
theorem wg_1292 : (Cond.methodLink "PatternHouseLaw" (200 : Nat) ({ cls := "PatternHouse", name := "holds", desc := "(II)I" } : MethodName)) ∈ lw_good := z_g5 227 rfl rfl
theorem wg_1293 : (Cond.instanceMethod ({ cls := "PatternHouse", name := "holds", desc := "(II)I" } : MethodName)) ∈ lw_good := z_g5 228 rfl rfl
theorem wg_1294 : (Cond.selects "PatternHouse" ({ cls := "PatternHouse", name := "holds", desc := "(II)I" } : MethodName) ({ cls := "PatternHouse", name := "holds", desc := "(II)I" } : MethodName)) ∈ lw_good := z_g5 229 rfl rfl
theorem wg_1295 : (Cond.code ({ cls := "PatternHouse", name := "holds", desc := "(II)I" } : MethodName) prog_1_method_45_code (5 : Nat) (Option.some FieldType.int)) ∈ lw_good := z_g5 230 rfl rfl
theorem wg_1296 : (Cond.methodLink "PatternHouse" (389 : Nat) ({ cls := "PatternHouse", name := "editionOf", desc := "(I)LPatternHouse$Edition;" } : MethodName)) ∈ lw_good := z_g5 231 rfl rfl
theorem wg_1298 : (Cond.instanceMethod ({ cls := "PatternHouse", name := "editionOf", desc := "(I)LPatternHouse$Edition;" } : MethodName)) ∈ lw_good := z_g5 233 rfl rfl
theorem wg_1299 : (Cond.code ({ cls := "PatternHouse", name := "editionOf", desc := "(I)LPatternHouse$Edition;" } : MethodName) prog_1_method_65_code (2 : Nat) (Option.some (FieldType.object "PatternHouse$Edition"))) ∈ lw_good := z_g5 234 rfl rfl
theorem wg_1300 : (Cond.methodLink "PatternHouse" (397 : Nat) ({ cls := "PatternHouse$Edition", name := "addPiece", desc := "(LPatternHouse$Piece;I)I" } : MethodName)) ∈ lw_good := z_g5 235 rfl rfl
theorem wg_1301 : (Cond.instanceMethod ({ cls := "PatternHouse$Edition", name := "addPiece", desc := "(LPatternHouse$Piece;I)I" } : MethodName)) ∈ lw_good := z_g5 236 rfl rfl
theorem wg_1302 : (Cond.selects "PatternHouse$Edition" ({ cls := "PatternHouse$Edition", name := "addPiece", desc := "(LPatternHouse$Piece;I)I" } : MethodName) ({ cls := "PatternHouse$Edition", name := "addPiece", desc := "(LPatternHouse$Piece;I)I" } : MethodName)) ∈ lw_good := z_g5 237 rfl rfl
theorem wg_1303 : (Cond.code ({ cls := "PatternHouse$Edition", name := "addPiece", desc := "(LPatternHouse$Piece;I)I" } : MethodName) prog_5_method_2_code (3 : Nat) (Option.some FieldType.int)) ∈ lw_good := z_g5 238 rfl rfl
theorem wg_1304 : (Cond.methodLink "PatternHouseLaw" (204 : Nat) ({ cls := "PatternHouse", name := "word", desc := "(IIII)I" } : MethodName)) ∈ lw_good := z_g5 239 rfl rfl
theorem wg_1305 : (Cond.instanceMethod ({ cls := "PatternHouse", name := "word", desc := "(IIII)I" } : MethodName)) ∈ lw_good := z_g6 0 rfl rfl
theorem wg_1306 : (Cond.selects "PatternHouse" ({ cls := "PatternHouse", name := "word", desc := "(IIII)I" } : MethodName) ({ cls := "PatternHouse", name := "word", desc := "(IIII)I" } : MethodName)) ∈ lw_good := z_g6 1 rfl rfl
theorem wg_1307 : (Cond.code ({ cls := "PatternHouse", name := "word", desc := "(IIII)I" } : MethodName) prog_1_method_46_code (7 : Nat) (Option.some FieldType.int)) ∈ lw_good := z_g6 2 rfl rfl
theorem wg_1308 : (Cond.methodLink "PatternHouse" (404 : Nat) ({ cls := "PatternHouse$Edition", name := "addWord", desc := "(III)I" } : MethodName)) ∈ lw_good := z_g6 3 rfl rfl
theorem wg_1309 : (Cond.instanceMethod ({ cls := "PatternHouse$Edition", name := "addWord", desc := "(III)I" } : MethodName)) ∈ lw_good := z_g6 4 rfl rfl
theorem wg_1310 : (Cond.selects "PatternHouse$Edition" ({ cls := "PatternHouse$Edition", name := "addWord", desc := "(III)I" } : MethodName) ({ cls := "PatternHouse$Edition", name := "addWord", desc := "(III)I" } : MethodName)) ∈ lw_good := z_g6 5 rfl rfl
theorem wg_1311 : (Cond.code ({ cls := "PatternHouse$Edition", name := "addWord", desc := "(III)I" } : MethodName) prog_5_method_3_code (4 : Nat) (Option.some FieldType.int)) ∈ lw_good := z_g6 6 rfl rfl
theorem wg_1312 : (Cond.methodLink "PatternHouseLaw" (208 : Nat) ({ cls := "PatternHouse", name := "firstWrong", desc := "(I)I" } : MethodName)) ∈ lw_good := z_g6 7 rfl rfl
theorem wg_1313 : (Cond.instanceMethod ({ cls := "PatternHouse", name := "firstWrong", desc := "(I)I" } : MethodName)) ∈ lw_good := z_g6 8 rfl rfl
theorem wg_1314 : (Cond.selects "PatternHouse" ({ cls := "PatternHouse", name := "firstWrong", desc := "(I)I" } : MethodName) ({ cls := "PatternHouse", name := "firstWrong", desc := "(I)I" } : MethodName)) ∈ lw_good := z_g6 9 rfl rfl
theorem wg_1315 : (Cond.code ({ cls := "PatternHouse", name := "firstWrong", desc := "(I)I" } : MethodName) prog_1_method_47_code (4 : Nat) (Option.some FieldType.int)) ∈ lw_good := z_g6 10 rfl rfl
theorem wg_1316 : (Cond.methodLink "PatternHouse" (407 : Nat) ({ cls := "PatternHouse", name := "agrees", desc := "(LPatternHouse$Edition;I)Z" } : MethodName)) ∈ lw_good := z_g6 11 rfl rfl
theorem wg_1318 : (Cond.instanceMethod ({ cls := "PatternHouse", name := "agrees", desc := "(LPatternHouse$Edition;I)Z" } : MethodName)) ∈ lw_good := z_g6 13 rfl rfl
theorem wg_1319 : (Cond.code ({ cls := "PatternHouse", name := "agrees", desc := "(LPatternHouse$Edition;I)Z" } : MethodName) prog_1_method_76_code (6 : Nat) (Option.some FieldType.boolean)) ∈ lw_good := z_g6 14 rfl rfl
theorem wg_1320 : (Cond.methodLink "PatternHouseLaw" (212 : Nat) ({ cls := "PatternHouse", name := "fault", desc := "(I)I" } : MethodName)) ∈ lw_good := z_g6 15 rfl rfl
theorem wg_1321 : (Cond.instanceMethod ({ cls := "PatternHouse", name := "fault", desc := "(I)I" } : MethodName)) ∈ lw_good := z_g6 16 rfl rfl
theorem wg_1322 : (Cond.selects "PatternHouse" ({ cls := "PatternHouse", name := "fault", desc := "(I)I" } : MethodName) ({ cls := "PatternHouse", name := "fault", desc := "(I)I" } : MethodName)) ∈ lw_good := z_g6 17 rfl rfl
theorem wg_1323 : (Cond.code ({ cls := "PatternHouse", name := "fault", desc := "(I)I" } : MethodName) prog_1_method_48_code (5 : Nat) (Option.some FieldType.int)) ∈ lw_good := z_g6 18 rfl rfl
theorem wg_1324 : (Cond.methodLink "PatternHouse" (411 : Nat) ({ cls := "PatternHouse$Edition", name := "holdsFrom", desc := "(LPatternHouse$Piece;)Z" } : MethodName)) ∈ lw_good := z_g6 19 rfl rfl
theorem wg_1325 : (Cond.instanceMethod ({ cls := "PatternHouse$Edition", name := "holdsFrom", desc := "(LPatternHouse$Piece;)Z" } : MethodName)) ∈ lw_good := z_g6 20 rfl rfl
theorem wg_1326 : (Cond.selects "PatternHouse$Edition" ({ cls := "PatternHouse$Edition", name := "holdsFrom", desc := "(LPatternHouse$Piece;)Z" } : MethodName) ({ cls := "PatternHouse$Edition", name := "holdsFrom", desc := "(LPatternHouse$Piece;)Z" } : MethodName)) ∈ lw_good := z_g6 21 rfl rfl
theorem wg_1327 : (Cond.code ({ cls := "PatternHouse$Edition", name := "holdsFrom", desc := "(LPatternHouse$Piece;)Z" } : MethodName) prog_5_method_4_code (3 : Nat) (Option.some FieldType.boolean)) ∈ lw_good := z_g6 22 rfl rfl
theorem wg_1328 : (Cond.methodLink "PatternHouse$Edition" (40 : Nat) ({ cls := "PatternHouse$Piece", name := "isOrComesFrom", desc := "(LPatternHouse$Piece;)Z" } : MethodName)) ∈ lw_good := z_g6 23 rfl rfl
theorem wg_1329 : (Cond.instanceMethod ({ cls := "PatternHouse$Piece", name := "isOrComesFrom", desc := "(LPatternHouse$Piece;)Z" } : MethodName)) ∈ lw_good := z_g6 24 rfl rfl
theorem wg_1330 : (Cond.selects "PatternHouse$Piece" ({ cls := "PatternHouse$Piece", name := "isOrComesFrom", desc := "(LPatternHouse$Piece;)Z" } : MethodName) ({ cls := "PatternHouse$Piece", name := "isOrComesFrom", desc := "(LPatternHouse$Piece;)Z" } : MethodName)) ∈ lw_good := z_g6 25 rfl rfl
theorem wg_1331 : (Cond.code ({ cls := "PatternHouse$Piece", name := "isOrComesFrom", desc := "(LPatternHouse$Piece;)Z" } : MethodName) prog_7_method_6_code (3 : Nat) (Option.some FieldType.boolean)) ∈ lw_good := z_g6 26 rfl rfl
theorem wg_1332 : (Cond.methodLink "PatternHouseLaw" (216 : Nat) ({ cls := "PatternHouse", name := "order", desc := "(II)I" } : MethodName)) ∈ lw_good := z_g6 27 rfl rfl
theorem wg_1333 : (Cond.instanceMethod ({ cls := "PatternHouse", name := "order", desc := "(II)I" } : MethodName)) ∈ lw_good := z_g6 28 rfl rfl
theorem wg_1334 : (Cond.selects "PatternHouse" ({ cls := "PatternHouse", name := "order", desc := "(II)I" } : MethodName) ({ cls := "PatternHouse", name := "order", desc := "(II)I" } : MethodName)) ∈ lw_good := z_g6 29 rfl rfl
theorem wg_1335 : (Cond.code ({ cls := "PatternHouse", name := "order", desc := "(II)I" } : MethodName) prog_1_method_49_code (5 : Nat) (Option.some FieldType.int)) ∈ lw_good := z_g6 30 rfl rfl
theorem wg_1336 : (Cond.methodLink "PatternHouseLaw" (220 : Nat) ({ cls := "PatternHouse", name := "marker", desc := "(II)I" } : MethodName)) ∈ lw_good := z_g6 31 rfl rfl
theorem wg_1337 : (Cond.instanceMethod ({ cls := "PatternHouse", name := "marker", desc := "(II)I" } : MethodName)) ∈ lw_good := z_g6 32 rfl rfl
theorem wg_1338 : (Cond.selects "PatternHouse" ({ cls := "PatternHouse", name := "marker", desc := "(II)I" } : MethodName) ({ cls := "PatternHouse", name := "marker", desc := "(II)I" } : MethodName)) ∈ lw_good := z_g6 33 rfl rfl
theorem wg_1339 : (Cond.code ({ cls := "PatternHouse", name := "marker", desc := "(II)I" } : MethodName) prog_1_method_50_code (3 : Nat) (Option.some FieldType.int)) ∈ lw_good := z_g6 34 rfl rfl
theorem wg_1340 : (Cond.methodLink "PatternHouse" (420 : Nat) ({ cls := "PatternHouse$Season", name := "add", desc := "(II)I" } : MethodName)) ∈ lw_good := z_g6 35 rfl rfl
theorem wg_1341 : (Cond.instanceMethod ({ cls := "PatternHouse$Season", name := "add", desc := "(II)I" } : MethodName)) ∈ lw_good := z_g6 36 rfl rfl
theorem wg_1342 : (Cond.selects "PatternHouse$Season" ({ cls := "PatternHouse$Season", name := "add", desc := "(II)I" } : MethodName) ({ cls := "PatternHouse$Season", name := "add", desc := "(II)I" } : MethodName)) ∈ lw_good := z_g6 37 rfl rfl
theorem wg_1343 : (Cond.code ({ cls := "PatternHouse$Season", name := "add", desc := "(II)I" } : MethodName) prog_11_method_2_code (5 : Nat) (Option.some FieldType.int)) ∈ lw_good := z_g6 38 rfl rfl
theorem wg_1344 : (Cond.methodLink "PatternHouseLaw" (224 : Nat) ({ cls := "PatternHouse", name := "season", desc := "()I" } : MethodName)) ∈ lw_good := z_g6 39 rfl rfl
theorem wg_1345 : (Cond.instanceMethod ({ cls := "PatternHouse", name := "season", desc := "()I" } : MethodName)) ∈ lw_good := z_g6 40 rfl rfl
theorem wg_1346 : (Cond.selects "PatternHouse" ({ cls := "PatternHouse", name := "season", desc := "()I" } : MethodName) ({ cls := "PatternHouse", name := "season", desc := "()I" } : MethodName)) ∈ lw_good := z_g6 41 rfl rfl
theorem wg_1347 : (Cond.code ({ cls := "PatternHouse", name := "season", desc := "()I" } : MethodName) prog_1_method_51_code (1 : Nat) (Option.some FieldType.int)) ∈ lw_good := z_g6 42 rfl rfl
theorem wg_1348 : (Cond.methodLink "PatternHouse" (422 : Nat) ({ cls := "PatternHouse$Season", name := "solve", desc := "()Z" } : MethodName)) ∈ lw_good := z_g6 43 rfl rfl
theorem wg_1349 : (Cond.instanceMethod ({ cls := "PatternHouse$Season", name := "solve", desc := "()Z" } : MethodName)) ∈ lw_good := z_g6 44 rfl rfl
theorem wg_1350 : (Cond.selects "PatternHouse$Season" ({ cls := "PatternHouse$Season", name := "solve", desc := "()Z" } : MethodName) ({ cls := "PatternHouse$Season", name := "solve", desc := "()Z" } : MethodName)) ∈ lw_good := z_g6 45 rfl rfl
theorem wg_1351 : (Cond.code ({ cls := "PatternHouse$Season", name := "solve", desc := "()Z" } : MethodName) prog_11_method_3_code (1 : Nat) (Option.some FieldType.boolean)) ∈ lw_good := z_g6 46 rfl rfl
theorem wg_1352 : (Cond.constant "PatternHouse$Season" (34 : Nat) (1000000000 : Int32)) ∈ lw_good := z_g6 47 rfl rfl
theorem wg_1353 : (Cond.methodLink "PatternHouse$Season" (38 : Nat) ({ cls := "java/lang/System", name := "arraycopy", desc := "(Ljava/lang/Object;ILjava/lang/Object;II)V" } : MethodName)) ∈ lw_good := z_g6 48 rfl rfl
theorem wg_1354 : (Cond.methodLink "PatternHouse$Season" (44 : Nat) ({ cls := "PatternHouse$Season", name := "tryMarker", desc := "(II)V" } : MethodName)) ∈ lw_good := z_g6 49 rfl rfl
theorem wg_1356 : (Cond.instanceMethod ({ cls := "PatternHouse$Season", name := "tryMarker", desc := "(II)V" } : MethodName)) ∈ lw_good := z_g6 51 rfl rfl
theorem wg_1357 : (Cond.code ({ cls := "PatternHouse$Season", name := "tryMarker", desc := "(II)V" } : MethodName) prog_11_method_4_code (4 : Nat) (Option.none : Option FieldType)) ∈ lw_good := z_g6 52 rfl rfl
theorem wg_1358 : (Cond.methodLink "PatternHouse$Season" (48 : Nat) ({ cls := "PatternHouse$Season", name := "leastMore", desc := "(I)I" } : MethodName)) ∈ lw_good := z_g6 53 rfl rfl
theorem wg_1360 : (Cond.instanceMethod ({ cls := "PatternHouse$Season", name := "leastMore", desc := "(I)I" } : MethodName)) ∈ lw_good := z_g6 55 rfl rfl
theorem wg_1361 : (Cond.code ({ cls := "PatternHouse$Season", name := "leastMore", desc := "(I)I" } : MethodName) prog_11_method_6_code (4 : Nat) (Option.some FieldType.int)) ∈ lw_good := z_g6 56 rfl rfl
theorem wg_1362 : (Cond.methodLink "PatternHouse$Season" (55 : Nat) ({ cls := "PatternHouse$Season", name := "leastFor", desc := "(II)I" } : MethodName)) ∈ lw_good := z_g6 57 rfl rfl
theorem wg_1364 : (Cond.instanceMethod ({ cls := "PatternHouse$Season", name := "leastFor", desc := "(II)I" } : MethodName)) ∈ lw_good := z_g6 59 rfl rfl
theorem wg_1365 : (Cond.code ({ cls := "PatternHouse$Season", name := "leastFor", desc := "(II)I" } : MethodName) prog_11_method_7_code (7 : Nat) (Option.some FieldType.int)) ∈ lw_good := z_g6 60 rfl rfl
theorem wg_1366 : (Cond.methodLink "PatternHouse$Season" (64 : Nat) ({ cls := "java/lang/Math", name := "min", desc := "(II)I" } : MethodName)) ∈ lw_good := z_g6 61 rfl rfl
theorem wg_1367 : (Cond.methodLink "PatternHouse$Season" (59 : Nat) ({ cls := "java/lang/Math", name := "max", desc := "(II)I" } : MethodName)) ∈ lw_good := z_g6 62 rfl rfl
theorem wg_1368 : (Cond.methodLink "PatternHouse$Season" (52 : Nat) ({ cls := "PatternHouse$Season", name := "changeLacks", desc := "(II)V" } : MethodName)) ∈ lw_good := z_g6 63 rfl rfl
theorem wg_1370 : (Cond.instanceMethod ({ cls := "PatternHouse$Season", name := "changeLacks", desc := "(II)V" } : MethodName)) ∈ lw_good := z_g6 65 rfl rfl
theorem wg_1371 : (Cond.code ({ cls := "PatternHouse$Season", name := "changeLacks", desc := "(II)V" } : MethodName) prog_11_method_5_code (4 : Nat) (Option.none : Option FieldType)) ∈ lw_good := z_g6 66 rfl rfl
theorem wg_1372 : (Cond.methodLink "PatternHouseLaw" (228 : Nat) ({ cls := "PatternHouse", name := "often", desc := "(I)I" } : MethodName)) ∈ lw_good := z_g6 67 rfl rfl
theorem wg_1373 : (Cond.instanceMethod ({ cls := "PatternHouse", name := "often", desc := "(I)I" } : MethodName)) ∈ lw_good := z_g6 68 rfl rfl
theorem wg_1374 : (Cond.selects "PatternHouse" ({ cls := "PatternHouse", name := "often", desc := "(I)I" } : MethodName) ({ cls := "PatternHouse", name := "often", desc := "(I)I" } : MethodName)) ∈ lw_good := z_g6 69 rfl rfl
theorem wg_1375 : (Cond.code ({ cls := "PatternHouse", name := "often", desc := "(I)I" } : MethodName) prog_1_method_52_code (2 : Nat) (Option.some FieldType.int)) ∈ lw_good := z_g6 70 rfl rfl
theorem wg_1376 : (Cond.methodLink "PatternHouseLaw" (232 : Nat) ({ cls := "PatternHouse", name := "count", desc := "(I)I" } : MethodName)) ∈ lw_good := z_g6 71 rfl rfl
theorem wg_1377 : (Cond.instanceMethod ({ cls := "PatternHouse", name := "count", desc := "(I)I" } : MethodName)) ∈ lw_good := z_g6 72 rfl rfl
theorem wg_1378 : (Cond.selects "PatternHouse" ({ cls := "PatternHouse", name := "count", desc := "(I)I" } : MethodName) ({ cls := "PatternHouse", name := "count", desc := "(I)I" } : MethodName)) ∈ lw_good := z_g6 73 rfl rfl
theorem wg_1379 : (Cond.code ({ cls := "PatternHouse", name := "count", desc := "(I)I" } : MethodName) prog_1_method_53_code (2 : Nat) (Option.some FieldType.int)) ∈ lw_good := z_g6 74 rfl rfl
theorem wg_1380 : (Cond.classLink "PatternHouseLaw" (10 : Nat) "PatternHouseModel") ∈ lw_good := z_g6 75 rfl rfl
theorem wg_1381 : (Cond.instantiable "PatternHouseModel" (129 : Nat)) ∈ lw_good := z_g6 76 rfl rfl
theorem wg_1382 : (Cond.methodLink "PatternHouseLaw" (12 : Nat) ({ cls := "PatternHouseModel", name := "<init>", desc := "()V" } : MethodName)) ∈ lw_good := z_g6 77 rfl rfl
theorem wg_1383 : (Cond.instanceMethod ({ cls := "PatternHouseModel", name := "<init>", desc := "()V" } : MethodName)) ∈ lw_good := z_g6 78 rfl rfl
theorem wg_1384 : (Cond.code ({ cls := "PatternHouseModel", name := "<init>", desc := "()V" } : MethodName) prog_15_method_1_code (1 : Nat) (Option.none : Option FieldType)) ∈ lw_good := z_g6 79 rfl rfl
theorem wg_1385 : (Cond.methodLink "PatternHouseModel" (1 : Nat) ({ cls := "java/lang/Object", name := "<init>", desc := "()V" } : MethodName)) ∈ lw_good := z_g6 80 rfl rfl
theorem wg_1386 : (Cond.fieldLink "PatternHouseModel" (312 : Nat) "PatternHouseModel" "day" "I") ∈ lw_good := z_g6 81 rfl rfl
theorem wg_1387 : (Cond.fieldLink "PatternHouseModel" (315 : Nat) "PatternHouseModel" "tables" "I") ∈ lw_good := z_g6 82 rfl rfl
theorem wg_1388 : (Cond.fieldLink "PatternHouseModel" (7 : Nat) "PatternHouseModel" "tabMeasure" "[I") ∈ lw_good := z_g6 83 rfl rfl
theorem wg_1389 : (Cond.fieldLink "PatternHouseModel" (13 : Nat) "PatternHouseModel" "tabSize" "[I") ∈ lw_good := z_g6 84 rfl rfl
theorem wg_1390 : (Cond.fieldLink "PatternHouseModel" (16 : Nat) "PatternHouseModel" "tabValue" "[I") ∈ lw_good := z_g6 85 rfl rfl
theorem wg_1391 : (Cond.fieldLink "PatternHouseModel" (19 : Nat) "PatternHouseModel" "tabDay" "[I") ∈ lw_good := z_g6 86 rfl rfl
theorem wg_1392 : (Cond.fieldLink "PatternHouseModel" (297 : Nat) "PatternHouseModel" "bodies" "I") ∈ lw_good := z_g6 87 rfl rfl
theorem wg_1393 : (Cond.fieldLink "PatternHouseModel" (22 : Nat) "PatternHouseModel" "bodySize" "[I") ∈ lw_good := z_g6 88 rfl rfl
theorem wg_1394 : (Cond.fieldLink "PatternHouseModel" (25 : Nat) "PatternHouseModel" "bodyMeasure" "[I") ∈ lw_good := z_g6 89 rfl rfl
theorem wg_1395 : (Cond.fieldLink "PatternHouseModel" (301 : Nat) "PatternHouseModel" "pieces" "I") ∈ lw_good := z_g6 90 rfl rfl
theorem wg_1396 : (Cond.fieldLink "PatternHouseModel" (28 : Nat) "PatternHouseModel" "kind" "[I") ∈ lw_good := z_g6 91 rfl rfl
theorem wg_1397 : (Cond.fieldLink "PatternHouseModel" (31 : Nat) "PatternHouseModel" "points" "[I") ∈ lw_good := z_g6 92 rfl rfl
theorem wg_1398 : (Cond.fieldLink "PatternHouseModel" (34 : Nat) "PatternHouseModel" "block" "[I") ∈ lw_good := z_g6 93 rfl rfl
theorem wg_1399 : (Cond.fieldLink "PatternHouseModel" (37 : Nat) "PatternHouseModel" "isGone" "[Z") ∈ lw_good := z_g6 94 rfl rfl
theorem wg_1400 : (Cond.fieldLink "PatternHouseModel" (41 : Nat) "PatternHouseModel" "gradeX" "[I") ∈ lw_good := z_g6 95 rfl rfl
theorem wg_1401 : (Cond.fieldLink "PatternHouseModel" (44 : Nat) "PatternHouseModel" "gradeY" "[I") ∈ lw_good := z_g6 96 rfl rfl
theorem wg_1402 : (Cond.fieldLink "PatternHouseModel" (47 : Nat) "PatternHouseModel" "isCurved" "[Z") ∈ lw_good := z_g6 97 rfl rfl
theorem wg_1403 : (Cond.fieldLink "PatternHouseModel" (50 : Nat) "PatternHouseModel" "kneeX" "[I") ∈ lw_good := z_g6 98 rfl rfl
theorem wg_1404 : (Cond.fieldLink "PatternHouseModel" (53 : Nat) "PatternHouseModel" "kneeY" "[I") ∈ lw_good := z_g6 99 rfl rfl
theorem wg_1405 : (Cond.fieldLink "PatternHouseModel" (56 : Nat) "PatternHouseModel" "refused" "[I") ∈ lw_good := z_g6 100 rfl rfl
theorem wg_1406 : (Cond.fieldLink "PatternHouseModel" (59 : Nat) "PatternHouseModel" "text" "[I") ∈ lw_good := z_g6 101 rfl rfl
theorem wg_1407 : (Cond.fieldLink "PatternHouseModel" (343 : Nat) "PatternHouseModel" "textMany" "I") ∈ lw_good := z_g6 102 rfl rfl
theorem wg_1408 : (Cond.fieldLink "PatternHouseModel" (449 : Nat) "PatternHouseModel" "rules" "I") ∈ lw_good := z_g6 103 rfl rfl
theorem wg_1409 : (Cond.fieldLink "PatternHouseModel" (62 : Nat) "PatternHouseModel" "ruleText" "[I") ∈ lw_good := z_g6 104 rfl rfl
theorem wg_1410 : (Cond.fieldLink "PatternHouseModel" (65 : Nat) "PatternHouseModel" "ruleMany" "[I") ∈ lw_good := z_g6 105 rfl rfl
theorem wg_1411 : (Cond.fieldLink "PatternHouseModel" (68 : Nat) "PatternHouseModel" "rulePiece" "[I") ∈ lw_good := z_g6 106 rfl rfl
theorem wg_1412 : (Cond.fieldLink "PatternHouseModel" (71 : Nat) "PatternHouseModel" "rulePoint" "[I") ∈ lw_good := z_g6 107 rfl rfl
theorem wg_1413 : (Cond.fieldLink "PatternHouseModel" (74 : Nat) "PatternHouseModel" "ruleFrom" "[I") ∈ lw_good := z_g6 108 rfl rfl
theorem wg_1414 : (Cond.fieldLink "PatternHouseModel" (354 : Nat) "PatternHouseModel" "isRule" "Z") ∈ lw_good := z_g6 109 rfl rfl
theorem wg_1415 : (Cond.fieldLink "PatternHouseModel" (358 : Nat) "PatternHouseModel" "base" "I") ∈ lw_good := z_g6 110 rfl rfl
theorem wg_1416 : (Cond.fieldLink "PatternHouseModel" (351 : Nat) "PatternHouseModel" "end" "I") ∈ lw_good := z_g6 111 rfl rfl
theorem wg_1417 : (Cond.fieldLink "PatternHouseModel" (348 : Nat) "PatternHouseModel" "at" "I") ∈ lw_good := z_g6 112 rfl rfl
theorem wg_1418 : (Cond.fieldLink "PatternHouseModel" (411 : Nat) "PatternHouseModel" "ofPoint" "I") ∈ lw_good := z_g6 113 rfl rfl
theorem wg_1419 : (Cond.fieldLink "PatternHouseModel" (395 : Nat) "PatternHouseModel" "isBad" "Z") ∈ lw_good := z_g6 114 rfl rfl
theorem wg_1420 : (Cond.fieldLink "PatternHouseModel" (368 : Nat) "PatternHouseModel" "isBroken" "Z") ∈ lw_good := z_g6 115 rfl rfl
theorem wg_1421 : (Cond.fieldLink "PatternHouseModel" (77 : Nat) "PatternHouseModel" "rawX" "[I") ∈ lw_good := z_g6 116 rfl rfl
theorem wg_1422 : (Cond.fieldLink "PatternHouseModel" (80 : Nat) "PatternHouseModel" "rawY" "[I") ∈ lw_good := z_g6 117 rfl rfl
theorem wg_1423 : (Cond.fieldLink "PatternHouseModel" (83 : Nat) "PatternHouseModel" "measures" "[I") ∈ lw_good := z_g6 118 rfl rfl
theorem wg_1424 : (Cond.fieldLink "PatternHouseModel" (405 : Nat) "PatternHouseModel" "namedMeasures" "I") ∈ lw_good := z_g6 119 rfl rfl
theorem wg_1425 : (Cond.fieldLink "PatternHouseModel" (414 : Nat) "PatternHouseModel" "namedPoints" "I") ∈ lw_good := z_g6 120 rfl rfl
theorem wg_1426 : (Cond.fieldLink "PatternHouseModel" (86 : Nat) "PatternHouseModel" "values" "[J") ∈ lw_good := z_g6 121 rfl rfl
theorem wg_1427 : (Cond.fieldLink "PatternHouseModel" (375 : Nat) "PatternHouseModel" "valueMany" "I") ∈ lw_good := z_g6 122 rfl rfl
theorem wg_1428 : (Cond.fieldLink "PatternHouseModel" (90 : Nat) "PatternHouseModel" "signs" "[I") ∈ lw_good := z_g6 123 rfl rfl
theorem wg_1429 : (Cond.fieldLink "PatternHouseModel" (361 : Nat) "PatternHouseModel" "signMany" "I") ∈ lw_good := z_g6 124 rfl rfl
theorem wg_1430 : (Cond.fieldLink "PatternHouseModel" (392 : Nat) "PatternHouseModel" "deep" "I") ∈ lw_good := z_g6 125 rfl rfl
theorem wg_1431 : (Cond.fieldLink "PatternHouseModel" (426 : Nat) "PatternHouseModel" "isOver" "Z") ∈ lw_good := z_g6 126 rfl rfl
theorem wg_1432 : (Cond.fieldLink "PatternHouseModel" (439 : Nat) "PatternHouseModel" "workedX" "I") ∈ lw_good := z_g6 127 rfl rfl
theorem wg_1433 : (Cond.fieldLink "PatternHouseModel" (442 : Nat) "PatternHouseModel" "workedY" "I") ∈ lw_good := z_g6 128 rfl rfl
theorem wg_1434 : (Cond.fieldLink "PatternHouseModel" (93 : Nat) "PatternHouseModel" "comes" "[I") ∈ lw_good := z_g6 129 rfl rfl
theorem wg_1435 : (Cond.fieldLink "PatternHouseModel" (464 : Nat) "PatternHouseModel" "alters" "I") ∈ lw_good := z_g6 130 rfl rfl
theorem wg_1436 : (Cond.fieldLink "PatternHouseModel" (96 : Nat) "PatternHouseModel" "altPoint" "[I") ∈ lw_good := z_g6 131 rfl rfl
theorem wg_1437 : (Cond.fieldLink "PatternHouseModel" (99 : Nat) "PatternHouseModel" "altBody" "[I") ∈ lw_good := z_g6 132 rfl rfl
theorem wg_1438 : (Cond.fieldLink "PatternHouseModel" (102 : Nat) "PatternHouseModel" "altX" "[I") ∈ lw_good := z_g6 133 rfl rfl
theorem wg_1439 : (Cond.fieldLink "PatternHouseModel" (105 : Nat) "PatternHouseModel" "altY" "[I") ∈ lw_good := z_g6 134 rfl rfl
theorem wg_1440 : (Cond.fieldLink "PatternHouseModel" (108 : Nat) "PatternHouseModel" "drawnX" "[I") ∈ lw_good := z_g6 135 rfl rfl
theorem wg_1441 : (Cond.fieldLink "PatternHouseModel" (111 : Nat) "PatternHouseModel" "drawnY" "[I") ∈ lw_good := z_g6 136 rfl rfl
theorem wg_1442 : (Cond.fieldLink "PatternHouseModel" (467 : Nat) "PatternHouseModel" "drawnMany" "I") ∈ lw_good := z_g6 137 rfl rfl
theorem wg_1443 : (Cond.fieldLink "PatternHouseModel" (114 : Nat) "PatternHouseModel" "chain" "[I") ∈ lw_good := z_g6 138 rfl rfl
theorem wg_1444 : (Cond.fieldLink "PatternHouseModel" (117 : Nat) "PatternHouseModel" "nodeX" "[I") ∈ lw_good := z_g6 139 rfl rfl
theorem wg_1445 : (Cond.fieldLink "PatternHouseModel" (120 : Nat) "PatternHouseModel" "nodeY" "[I") ∈ lw_good := z_g6 140 rfl rfl
theorem wg_1446 : (Cond.fieldLink "PatternHouseModel" (123 : Nat) "PatternHouseModel" "nodeOf" "[I") ∈ lw_good := z_g6 141 rfl rfl
theorem wg_1447 : (Cond.fieldLink "PatternHouseModel" (478 : Nat) "PatternHouseModel" "nodes" "I") ∈ lw_good := z_g6 142 rfl rfl
theorem wg_1448 : (Cond.fieldLink "PatternHouseModel" (508 : Nat) "PatternHouseModel" "seams" "I") ∈ lw_good := z_g6 143 rfl rfl
theorem wg_1449 : (Cond.fieldLink "PatternHouseModel" (126 : Nat) "PatternHouseModel" "seamOne" "[I") ∈ lw_good := z_g6 144 rfl rfl
theorem wg_1450 : (Cond.fieldLink "PatternHouseModel" (129 : Nat) "PatternHouseModel" "seamA" "[I") ∈ lw_good := z_g6 145 rfl rfl
theorem wg_1451 : (Cond.fieldLink "PatternHouseModel" (132 : Nat) "PatternHouseModel" "seamB" "[I") ∈ lw_good := z_g6 146 rfl rfl
theorem wg_1452 : (Cond.fieldLink "PatternHouseModel" (135 : Nat) "PatternHouseModel" "seamOther" "[I") ∈ lw_good := z_g6 147 rfl rfl
theorem wg_1453 : (Cond.fieldLink "PatternHouseModel" (138 : Nat) "PatternHouseModel" "seamC" "[I") ∈ lw_good := z_g6 148 rfl rfl
theorem wg_1454 : (Cond.fieldLink "PatternHouseModel" (141 : Nat) "PatternHouseModel" "seamE" "[I") ∈ lw_good := z_g6 149 rfl rfl
theorem wg_1455 : (Cond.fieldLink "PatternHouseModel" (144 : Nat) "PatternHouseModel" "seamLeast" "[I") ∈ lw_good := z_g6 150 rfl rfl
theorem wg_1456 : (Cond.fieldLink "PatternHouseModel" (147 : Nat) "PatternHouseModel" "seamMost" "[I") ∈ lw_good := z_g6 151 rfl rfl
theorem wg_1457 : (Cond.fieldLink "PatternHouseModel" (150 : Nat) "PatternHouseModel" "gathers" "[I") ∈ lw_good := z_g6 152 rfl rfl
theorem wg_1458 : (Cond.fieldLink "PatternHouseModel" (153 : Nat) "PatternHouseModel" "notches" "[I") ∈ lw_good := z_g6 153 rfl rfl
theorem wg_1459 : (Cond.fieldLink "PatternHouseModel" (156 : Nat) "PatternHouseModel" "notchP" "[I") ∈ lw_good := z_g6 154 rfl rfl
theorem wg_1460 : (Cond.fieldLink "PatternHouseModel" (159 : Nat) "PatternHouseModel" "notchQ" "[I") ∈ lw_good := z_g6 155 rfl rfl
theorem wg_1461 : (Cond.fieldLink "PatternHouseModel" (515 : Nat) "PatternHouseModel" "firstLong" "I") ∈ lw_good := z_g6 156 rfl rfl
theorem wg_1462 : (Cond.fieldLink "PatternHouseModel" (518 : Nat) "PatternHouseModel" "otherLong" "I") ∈ lw_good := z_g6 157 rfl rfl
theorem wg_1463 : (Cond.fieldLink "PatternHouseModel" (530 : Nat) "PatternHouseModel" "conditions" "I") ∈ lw_good := z_g6 158 rfl rfl
theorem wg_1464 : (Cond.fieldLink "PatternHouseModel" (162 : Nat) "PatternHouseModel" "coefficients" "[I") ∈ lw_good := z_g6 159 rfl rfl
theorem wg_1465 : (Cond.fieldLink "PatternHouseModel" (165 : Nat) "PatternHouseModel" "sums" "[I") ∈ lw_good := z_g6 160 rfl rfl
theorem wg_1466 : (Cond.fieldLink "PatternHouseModel" (168 : Nat) "PatternHouseModel" "leastTop" "[J") ∈ lw_good := z_g6 161 rfl rfl
theorem wg_1467 : (Cond.fieldLink "PatternHouseModel" (537 : Nat) "PatternHouseModel" "leastBelow" "J") ∈ lw_good := z_g6 162 rfl rfl
theorem wg_1468 : (Cond.fieldLink "PatternHouseModel" (171 : Nat) "PatternHouseModel" "cloths" "[I") ∈ lw_good := z_g6 163 rfl rfl
theorem wg_1469 : (Cond.fieldLink "PatternHouseModel" (174 : Nat) "PatternHouseModel" "columns" "[I") ∈ lw_good := z_g6 164 rfl rfl
theorem wg_1470 : (Cond.fieldLink "PatternHouseModel" (560 : Nat) "PatternHouseModel" "wide" "I") ∈ lw_good := z_g6 165 rfl rfl
theorem wg_1471 : (Cond.fieldLink "PatternHouseModel" (563 : Nat) "PatternHouseModel" "high" "I") ∈ lw_good := z_g6 166 rfl rfl
theorem wg_1472 : (Cond.fieldLink "PatternHouseModel" (177 : Nat) "PatternHouseModel" "endX" "[I") ∈ lw_good := z_g6 167 rfl rfl
theorem wg_1473 : (Cond.fieldLink "PatternHouseModel" (180 : Nat) "PatternHouseModel" "endY" "[I") ∈ lw_good := z_g6 168 rfl rfl
theorem wg_1474 : (Cond.fieldLink "PatternHouseModel" (553 : Nat) "PatternHouseModel" "ends" "I") ∈ lw_good := z_g6 169 rfl rfl
theorem wg_1475 : (Cond.fieldLink "PatternHouseModel" (573 : Nat) "PatternHouseModel" "markMany" "I") ∈ lw_good := z_g6 170 rfl rfl
theorem wg_1476 : (Cond.fieldLink "PatternHouseModel" (183 : Nat) "PatternHouseModel" "markPiece" "[I") ∈ lw_good := z_g6 171 rfl rfl
theorem wg_1477 : (Cond.fieldLink "PatternHouseModel" (186 : Nat) "PatternHouseModel" "markSize" "[I") ∈ lw_good := z_g6 172 rfl rfl
theorem wg_1478 : (Cond.fieldLink "PatternHouseModel" (189 : Nat) "PatternHouseModel" "markColumns" "[I") ∈ lw_good := z_g6 173 rfl rfl
theorem wg_1479 : (Cond.fieldLink "PatternHouseModel" (192 : Nat) "PatternHouseModel" "markWide" "[I") ∈ lw_good := z_g6 174 rfl rfl
theorem wg_1480 : (Cond.fieldLink "PatternHouseModel" (195 : Nat) "PatternHouseModel" "markHigh" "[I") ∈ lw_good := z_g6 175 rfl rfl
theorem wg_1481 : (Cond.fieldLink "PatternHouseModel" (198 : Nat) "PatternHouseModel" "markCells" "[I") ∈ lw_good := z_g6 176 rfl rfl
theorem wg_1482 : (Cond.fieldLink "PatternHouseModel" (201 : Nat) "PatternHouseModel" "taken" "[I") ∈ lw_good := z_g6 177 rfl rfl
theorem wg_1483 : (Cond.fieldLink "PatternHouseModel" (204 : Nat) "PatternHouseModel" "atColumn" "[I") ∈ lw_good := z_g6 178 rfl rfl
theorem wg_1484 : (Cond.fieldLink "PatternHouseModel" (207 : Nat) "PatternHouseModel" "atRow" "[I") ∈ lw_good := z_g6 179 rfl rfl
theorem wg_1485 : (Cond.fieldLink "PatternHouseModel" (210 : Nat) "PatternHouseModel" "atTurn" "[I") ∈ lw_good := z_g6 180 rfl rfl
theorem wg_1486 : (Cond.fieldLink "PatternHouseModel" (213 : Nat) "PatternHouseModel" "bestColumn" "[I") ∈ lw_good := z_g6 181 rfl rfl
theorem wg_1487 : (Cond.fieldLink "PatternHouseModel" (216 : Nat) "PatternHouseModel" "bestRow" "[I") ∈ lw_good := z_g6 182 rfl rfl
theorem wg_1488 : (Cond.fieldLink "PatternHouseModel" (219 : Nat) "PatternHouseModel" "bestTurn" "[I") ∈ lw_good := z_g6 183 rfl rfl
theorem wg_1489 : (Cond.fieldLink "PatternHouseModel" (222 : Nat) "PatternHouseModel" "turned" "[I") ∈ lw_good := z_g6 184 rfl rfl
theorem wg_1490 : (Cond.fieldLink "PatternHouseModel" (225 : Nat) "PatternHouseModel" "order" "[I") ∈ lw_good := z_g6 185 rfl rfl
theorem wg_1491 : (Cond.fieldLink "PatternHouseModel" (228 : Nat) "PatternHouseModel" "bytes" "[I") ∈ lw_good := z_g6 186 rfl rfl
theorem wg_1492 : (Cond.fieldLink "PatternHouseModel" (613 : Nat) "PatternHouseModel" "byteMany" "I") ∈ lw_good := z_g6 187 rfl rfl
theorem wg_1493 : (Cond.fieldLink "PatternHouseModel" (619 : Nat) "PatternHouseModel" "trials" "I") ∈ lw_good := z_g6 188 rfl rfl
theorem wg_1494 : (Cond.fieldLink "PatternHouseModel" (231 : Nat) "PatternHouseModel" "triPiece" "[I") ∈ lw_good := z_g6 189 rfl rfl
theorem wg_1495 : (Cond.fieldLink "PatternHouseModel" (234 : Nat) "PatternHouseModel" "triBody" "[I") ∈ lw_good := z_g6 190 rfl rfl
theorem wg_1496 : (Cond.fieldLink "PatternHouseModel" (237 : Nat) "PatternHouseModel" "triA" "[I") ∈ lw_good := z_g6 191 rfl rfl
theorem wg_1497 : (Cond.fieldLink "PatternHouseModel" (240 : Nat) "PatternHouseModel" "triB" "[I") ∈ lw_good := z_g6 192 rfl rfl
theorem wg_1498 : (Cond.fieldLink "PatternHouseModel" (243 : Nat) "PatternHouseModel" "triLow" "[I") ∈ lw_good := z_g6 193 rfl rfl
theorem wg_1499 : (Cond.fieldLink "PatternHouseModel" (246 : Nat) "PatternHouseModel" "triHigh" "[I") ∈ lw_good := z_g6 194 rfl rfl
theorem wg_1500 : (Cond.fieldLink "PatternHouseModel" (622 : Nat) "PatternHouseModel" "editions" "I") ∈ lw_good := z_g6 195 rfl rfl
theorem wg_1501 : (Cond.fieldLink "PatternHouseModel" (249 : Nat) "PatternHouseModel" "editionDay" "[I") ∈ lw_good := z_g6 196 rfl rfl
theorem wg_1502 : (Cond.fieldLink "PatternHouseModel" (252 : Nat) "PatternHouseModel" "holdMany" "[I") ∈ lw_good := z_g6 197 rfl rfl
theorem wg_1503 : (Cond.fieldLink "PatternHouseModel" (255 : Nat) "PatternHouseModel" "holdPiece" "[I") ∈ lw_good := z_g6 198 rfl rfl
theorem wg_1504 : (Cond.fieldLink "PatternHouseModel" (258 : Nat) "PatternHouseModel" "holdSize" "[I") ∈ lw_good := z_g6 199 rfl rfl
theorem wg_1505 : (Cond.fieldLink "PatternHouseModel" (261 : Nat) "PatternHouseModel" "wordMany" "[I") ∈ lw_good := z_g6 200 rfl rfl
theorem wg_1506 : (Cond.fieldLink "PatternHouseModel" (264 : Nat) "PatternHouseModel" "wordOf" "[I") ∈ lw_good := z_g6 201 rfl rfl
theorem wg_1507 : (Cond.fieldLink "PatternHouseModel" (267 : Nat) "PatternHouseModel" "wordWhat" "[I") ∈ lw_good := z_g6 202 rfl rfl
theorem wg_1508 : (Cond.fieldLink "PatternHouseModel" (270 : Nat) "PatternHouseModel" "wordNumber" "[I") ∈ lw_good := z_g6 203 rfl rfl
theorem wg_1509 : (Cond.fieldLink "PatternHouseModel" (273 : Nat) "PatternHouseModel" "orders" "[I") ∈ lw_good := z_g6 204 rfl rfl
theorem wg_1510 : (Cond.fieldLink "PatternHouseModel" (633 : Nat) "PatternHouseModel" "markers" "I") ∈ lw_good := z_g6 205 rfl rfl
theorem wg_1511 : (Cond.fieldLink "PatternHouseModel" (276 : Nat) "PatternHouseModel" "markerCounts" "[I") ∈ lw_good := z_g6 206 rfl rfl
theorem wg_1512 : (Cond.fieldLink "PatternHouseModel" (279 : Nat) "PatternHouseModel" "markerCloth" "[I") ∈ lw_good := z_g6 207 rfl rfl
theorem wg_1513 : (Cond.fieldLink "PatternHouseModel" (282 : Nat) "PatternHouseModel" "cuts" "[I") ∈ lw_good := z_g6 208 rfl rfl
theorem wg_1514 : (Cond.fieldLink "PatternHouseModel" (285 : Nat) "PatternHouseModel" "bestCuts" "[I") ∈ lw_good := z_g6 209 rfl rfl
theorem wg_1515 : (Cond.lays "PatternHouseModel" "PatternHouseModel" "day" "I") ∈ lw_good := z_g6 210 rfl rfl
theorem wg_1517 : (Cond.lays "PatternHouseModel" "PatternHouseModel" "tables" "I") ∈ lw_good := z_g6 212 rfl rfl
theorem wg_1519 : (Cond.laysFinal "PatternHouseModel" "PatternHouseModel" "tabMeasure" "[I") ∈ lw_good := z_g6 214 rfl rfl
theorem wg_1521 : (Cond.laysFinal "PatternHouseModel" "PatternHouseModel" "tabSize" "[I") ∈ lw_good := z_g6 216 rfl rfl
theorem wg_1523 : (Cond.laysFinal "PatternHouseModel" "PatternHouseModel" "tabValue" "[I") ∈ lw_good := z_g6 218 rfl rfl
theorem wg_1525 : (Cond.laysFinal "PatternHouseModel" "PatternHouseModel" "tabDay" "[I") ∈ lw_good := z_g6 220 rfl rfl
theorem wg_1527 : (Cond.lays "PatternHouseModel" "PatternHouseModel" "bodies" "I") ∈ lw_good := z_g6 222 rfl rfl
theorem wg_1529 : (Cond.laysFinal "PatternHouseModel" "PatternHouseModel" "bodySize" "[I") ∈ lw_good := z_g6 224 rfl rfl
theorem wg_1531 : (Cond.laysFinal "PatternHouseModel" "PatternHouseModel" "bodyMeasure" "[I") ∈ lw_good := z_g6 226 rfl rfl
theorem wg_1533 : (Cond.lays "PatternHouseModel" "PatternHouseModel" "pieces" "I") ∈ lw_good := z_g6 228 rfl rfl
theorem wg_1535 : (Cond.laysFinal "PatternHouseModel" "PatternHouseModel" "kind" "[I") ∈ lw_good := z_g6 230 rfl rfl
theorem wg_1537 : (Cond.laysFinal "PatternHouseModel" "PatternHouseModel" "points" "[I") ∈ lw_good := z_g6 232 rfl rfl
theorem wg_1539 : (Cond.laysFinal "PatternHouseModel" "PatternHouseModel" "block" "[I") ∈ lw_good := z_g6 234 rfl rfl
theorem wg_1541 : (Cond.laysFinal "PatternHouseModel" "PatternHouseModel" "isGone" "[Z") ∈ lw_good := z_g6 236 rfl rfl
theorem wg_1543 : (Cond.laysFinal "PatternHouseModel" "PatternHouseModel" "gradeX" "[I") ∈ lw_good := z_g6 238 rfl rfl
theorem wg_1545 : (Cond.laysFinal "PatternHouseModel" "PatternHouseModel" "gradeY" "[I") ∈ lw_good := z_g7 0 rfl rfl
theorem wg_1547 : (Cond.laysFinal "PatternHouseModel" "PatternHouseModel" "isCurved" "[Z") ∈ lw_good := z_g7 2 rfl rfl
theorem wg_1549 : (Cond.laysFinal "PatternHouseModel" "PatternHouseModel" "kneeX" "[I") ∈ lw_good := z_g7 4 rfl rfl
theorem wg_1551 : (Cond.laysFinal "PatternHouseModel" "PatternHouseModel" "kneeY" "[I") ∈ lw_good := z_g7 6 rfl rfl
theorem wg_1553 : (Cond.laysFinal "PatternHouseModel" "PatternHouseModel" "refused" "[I") ∈ lw_good := z_g7 8 rfl rfl
theorem wg_1555 : (Cond.laysFinal "PatternHouseModel" "PatternHouseModel" "text" "[I") ∈ lw_good := z_g7 10 rfl rfl
theorem wg_1557 : (Cond.lays "PatternHouseModel" "PatternHouseModel" "textMany" "I") ∈ lw_good := z_g7 12 rfl rfl
theorem wg_1559 : (Cond.lays "PatternHouseModel" "PatternHouseModel" "rules" "I") ∈ lw_good := z_g7 14 rfl rfl
theorem wg_1561 : (Cond.laysFinal "PatternHouseModel" "PatternHouseModel" "ruleText" "[I") ∈ lw_good := z_g7 16 rfl rfl
theorem wg_1563 : (Cond.laysFinal "PatternHouseModel" "PatternHouseModel" "ruleMany" "[I") ∈ lw_good := z_g7 18 rfl rfl
theorem wg_1565 : (Cond.laysFinal "PatternHouseModel" "PatternHouseModel" "rulePiece" "[I") ∈ lw_good := z_g7 20 rfl rfl
theorem wg_1567 : (Cond.laysFinal "PatternHouseModel" "PatternHouseModel" "rulePoint" "[I") ∈ lw_good := z_g7 22 rfl rfl
theorem wg_1569 : (Cond.laysFinal "PatternHouseModel" "PatternHouseModel" "ruleFrom" "[I") ∈ lw_good := z_g7 24 rfl rfl
theorem wg_1571 : (Cond.lays "PatternHouseModel" "PatternHouseModel" "isRule" "Z") ∈ lw_good := z_g7 26 rfl rfl
theorem wg_1573 : (Cond.lays "PatternHouseModel" "PatternHouseModel" "base" "I") ∈ lw_good := z_g7 28 rfl rfl
theorem wg_1575 : (Cond.lays "PatternHouseModel" "PatternHouseModel" "end" "I") ∈ lw_good := z_g7 30 rfl rfl
theorem wg_1577 : (Cond.lays "PatternHouseModel" "PatternHouseModel" "at" "I") ∈ lw_good := z_g7 32 rfl rfl
theorem wg_1579 : (Cond.lays "PatternHouseModel" "PatternHouseModel" "ofPoint" "I") ∈ lw_good := z_g7 34 rfl rfl
theorem wg_1581 : (Cond.lays "PatternHouseModel" "PatternHouseModel" "isBad" "Z") ∈ lw_good := z_g7 36 rfl rfl
theorem wg_1583 : (Cond.lays "PatternHouseModel" "PatternHouseModel" "isBroken" "Z") ∈ lw_good := z_g7 38 rfl rfl
theorem wg_1585 : (Cond.laysFinal "PatternHouseModel" "PatternHouseModel" "rawX" "[I") ∈ lw_good := z_g7 40 rfl rfl
theorem wg_1587 : (Cond.laysFinal "PatternHouseModel" "PatternHouseModel" "rawY" "[I") ∈ lw_good := z_g7 42 rfl rfl
theorem wg_1589 : (Cond.laysFinal "PatternHouseModel" "PatternHouseModel" "measures" "[I") ∈ lw_good := z_g7 44 rfl rfl
theorem wg_1591 : (Cond.lays "PatternHouseModel" "PatternHouseModel" "namedMeasures" "I") ∈ lw_good := z_g7 46 rfl rfl
theorem wg_1593 : (Cond.lays "PatternHouseModel" "PatternHouseModel" "namedPoints" "I") ∈ lw_good := z_g7 48 rfl rfl
theorem wg_1595 : (Cond.laysFinal "PatternHouseModel" "PatternHouseModel" "values" "[J") ∈ lw_good := z_g7 50 rfl rfl
theorem wg_1597 : (Cond.lays "PatternHouseModel" "PatternHouseModel" "valueMany" "I") ∈ lw_good := z_g7 52 rfl rfl
theorem wg_1599 : (Cond.laysFinal "PatternHouseModel" "PatternHouseModel" "signs" "[I") ∈ lw_good := z_g7 54 rfl rfl
theorem wg_1601 : (Cond.lays "PatternHouseModel" "PatternHouseModel" "signMany" "I") ∈ lw_good := z_g7 56 rfl rfl
theorem wg_1603 : (Cond.lays "PatternHouseModel" "PatternHouseModel" "deep" "I") ∈ lw_good := z_g7 58 rfl rfl
theorem wg_1605 : (Cond.lays "PatternHouseModel" "PatternHouseModel" "isOver" "Z") ∈ lw_good := z_g7 60 rfl rfl
theorem wg_1607 : (Cond.lays "PatternHouseModel" "PatternHouseModel" "workedX" "I") ∈ lw_good := z_g7 62 rfl rfl
theorem wg_1609 : (Cond.lays "PatternHouseModel" "PatternHouseModel" "workedY" "I") ∈ lw_good := z_g7 64 rfl rfl
theorem wg_1611 : (Cond.laysFinal "PatternHouseModel" "PatternHouseModel" "comes" "[I") ∈ lw_good := z_g7 66 rfl rfl
theorem wg_1613 : (Cond.lays "PatternHouseModel" "PatternHouseModel" "alters" "I") ∈ lw_good := z_g7 68 rfl rfl
theorem wg_1615 : (Cond.laysFinal "PatternHouseModel" "PatternHouseModel" "altPoint" "[I") ∈ lw_good := z_g7 70 rfl rfl
theorem wg_1617 : (Cond.laysFinal "PatternHouseModel" "PatternHouseModel" "altBody" "[I") ∈ lw_good := z_g7 72 rfl rfl
theorem wg_1619 : (Cond.laysFinal "PatternHouseModel" "PatternHouseModel" "altX" "[I") ∈ lw_good := z_g7 74 rfl rfl
theorem wg_1621 : (Cond.laysFinal "PatternHouseModel" "PatternHouseModel" "altY" "[I") ∈ lw_good := z_g7 76 rfl rfl
theorem wg_1623 : (Cond.laysFinal "PatternHouseModel" "PatternHouseModel" "drawnX" "[I") ∈ lw_good := z_g7 78 rfl rfl
theorem wg_1625 : (Cond.laysFinal "PatternHouseModel" "PatternHouseModel" "drawnY" "[I") ∈ lw_good := z_g7 80 rfl rfl
theorem wg_1627 : (Cond.lays "PatternHouseModel" "PatternHouseModel" "drawnMany" "I") ∈ lw_good := z_g7 82 rfl rfl
theorem wg_1629 : (Cond.laysFinal "PatternHouseModel" "PatternHouseModel" "chain" "[I") ∈ lw_good := z_g7 84 rfl rfl
theorem wg_1631 : (Cond.laysFinal "PatternHouseModel" "PatternHouseModel" "nodeX" "[I") ∈ lw_good := z_g7 86 rfl rfl
theorem wg_1633 : (Cond.laysFinal "PatternHouseModel" "PatternHouseModel" "nodeY" "[I") ∈ lw_good := z_g7 88 rfl rfl
theorem wg_1635 : (Cond.laysFinal "PatternHouseModel" "PatternHouseModel" "nodeOf" "[I") ∈ lw_good := z_g7 90 rfl rfl
theorem wg_1637 : (Cond.lays "PatternHouseModel" "PatternHouseModel" "nodes" "I") ∈ lw_good := z_g7 92 rfl rfl
theorem wg_1639 : (Cond.lays "PatternHouseModel" "PatternHouseModel" "seams" "I") ∈ lw_good := z_g7 94 rfl rfl
theorem wg_1641 : (Cond.laysFinal "PatternHouseModel" "PatternHouseModel" "seamOne" "[I") ∈ lw_good := z_g7 96 rfl rfl
theorem wg_1643 : (Cond.laysFinal "PatternHouseModel" "PatternHouseModel" "seamA" "[I") ∈ lw_good := z_g7 98 rfl rfl
theorem wg_1645 : (Cond.laysFinal "PatternHouseModel" "PatternHouseModel" "seamB" "[I") ∈ lw_good := z_g7 100 rfl rfl
theorem wg_1647 : (Cond.laysFinal "PatternHouseModel" "PatternHouseModel" "seamOther" "[I") ∈ lw_good := z_g7 102 rfl rfl
theorem wg_1649 : (Cond.laysFinal "PatternHouseModel" "PatternHouseModel" "seamC" "[I") ∈ lw_good := z_g7 104 rfl rfl
theorem wg_1651 : (Cond.laysFinal "PatternHouseModel" "PatternHouseModel" "seamE" "[I") ∈ lw_good := z_g7 106 rfl rfl
theorem wg_1653 : (Cond.laysFinal "PatternHouseModel" "PatternHouseModel" "seamLeast" "[I") ∈ lw_good := z_g7 108 rfl rfl
theorem wg_1655 : (Cond.laysFinal "PatternHouseModel" "PatternHouseModel" "seamMost" "[I") ∈ lw_good := z_g7 110 rfl rfl
theorem wg_1657 : (Cond.laysFinal "PatternHouseModel" "PatternHouseModel" "gathers" "[I") ∈ lw_good := z_g7 112 rfl rfl
theorem wg_1659 : (Cond.laysFinal "PatternHouseModel" "PatternHouseModel" "notches" "[I") ∈ lw_good := z_g7 114 rfl rfl
theorem wg_1661 : (Cond.laysFinal "PatternHouseModel" "PatternHouseModel" "notchP" "[I") ∈ lw_good := z_g7 116 rfl rfl
theorem wg_1663 : (Cond.laysFinal "PatternHouseModel" "PatternHouseModel" "notchQ" "[I") ∈ lw_good := z_g7 118 rfl rfl
theorem wg_1665 : (Cond.lays "PatternHouseModel" "PatternHouseModel" "firstLong" "I") ∈ lw_good := z_g7 120 rfl rfl
theorem wg_1667 : (Cond.lays "PatternHouseModel" "PatternHouseModel" "otherLong" "I") ∈ lw_good := z_g7 122 rfl rfl
theorem wg_1669 : (Cond.lays "PatternHouseModel" "PatternHouseModel" "conditions" "I") ∈ lw_good := z_g7 124 rfl rfl
theorem wg_1671 : (Cond.laysFinal "PatternHouseModel" "PatternHouseModel" "coefficients" "[I") ∈ lw_good := z_g7 126 rfl rfl
theorem wg_1673 : (Cond.laysFinal "PatternHouseModel" "PatternHouseModel" "sums" "[I") ∈ lw_good := z_g7 128 rfl rfl
theorem wg_1675 : (Cond.laysFinal "PatternHouseModel" "PatternHouseModel" "leastTop" "[J") ∈ lw_good := z_g7 130 rfl rfl
theorem wg_1677 : (Cond.lays "PatternHouseModel" "PatternHouseModel" "leastBelow" "J") ∈ lw_good := z_g7 132 rfl rfl
theorem wg_1679 : (Cond.laysFinal "PatternHouseModel" "PatternHouseModel" "cloths" "[I") ∈ lw_good := z_g7 134 rfl rfl
theorem wg_1681 : (Cond.laysFinal "PatternHouseModel" "PatternHouseModel" "columns" "[I") ∈ lw_good := z_g7 136 rfl rfl
theorem wg_1683 : (Cond.lays "PatternHouseModel" "PatternHouseModel" "wide" "I") ∈ lw_good := z_g7 138 rfl rfl
theorem wg_1685 : (Cond.lays "PatternHouseModel" "PatternHouseModel" "high" "I") ∈ lw_good := z_g7 140 rfl rfl
theorem wg_1687 : (Cond.laysFinal "PatternHouseModel" "PatternHouseModel" "endX" "[I") ∈ lw_good := z_g7 142 rfl rfl
theorem wg_1689 : (Cond.laysFinal "PatternHouseModel" "PatternHouseModel" "endY" "[I") ∈ lw_good := z_g7 144 rfl rfl
theorem wg_1691 : (Cond.lays "PatternHouseModel" "PatternHouseModel" "ends" "I") ∈ lw_good := z_g7 146 rfl rfl
theorem wg_1693 : (Cond.lays "PatternHouseModel" "PatternHouseModel" "markMany" "I") ∈ lw_good := z_g7 148 rfl rfl
theorem wg_1695 : (Cond.laysFinal "PatternHouseModel" "PatternHouseModel" "markPiece" "[I") ∈ lw_good := z_g7 150 rfl rfl
theorem wg_1697 : (Cond.laysFinal "PatternHouseModel" "PatternHouseModel" "markSize" "[I") ∈ lw_good := z_g7 152 rfl rfl
theorem wg_1699 : (Cond.laysFinal "PatternHouseModel" "PatternHouseModel" "markColumns" "[I") ∈ lw_good := z_g7 154 rfl rfl
theorem wg_1701 : (Cond.laysFinal "PatternHouseModel" "PatternHouseModel" "markWide" "[I") ∈ lw_good := z_g7 156 rfl rfl
theorem wg_1703 : (Cond.laysFinal "PatternHouseModel" "PatternHouseModel" "markHigh" "[I") ∈ lw_good := z_g7 158 rfl rfl
theorem wg_1705 : (Cond.laysFinal "PatternHouseModel" "PatternHouseModel" "markCells" "[I") ∈ lw_good := z_g7 160 rfl rfl
theorem wg_1707 : (Cond.laysFinal "PatternHouseModel" "PatternHouseModel" "taken" "[I") ∈ lw_good := z_g7 162 rfl rfl
theorem wg_1709 : (Cond.laysFinal "PatternHouseModel" "PatternHouseModel" "atColumn" "[I") ∈ lw_good := z_g7 164 rfl rfl
theorem wg_1711 : (Cond.laysFinal "PatternHouseModel" "PatternHouseModel" "atRow" "[I") ∈ lw_good := z_g7 166 rfl rfl
theorem wg_1713 : (Cond.laysFinal "PatternHouseModel" "PatternHouseModel" "atTurn" "[I") ∈ lw_good := z_g7 168 rfl rfl
theorem wg_1715 : (Cond.laysFinal "PatternHouseModel" "PatternHouseModel" "bestColumn" "[I") ∈ lw_good := z_g7 170 rfl rfl
theorem wg_1717 : (Cond.laysFinal "PatternHouseModel" "PatternHouseModel" "bestRow" "[I") ∈ lw_good := z_g7 172 rfl rfl
theorem wg_1719 : (Cond.laysFinal "PatternHouseModel" "PatternHouseModel" "bestTurn" "[I") ∈ lw_good := z_g7 174 rfl rfl
theorem wg_1721 : (Cond.laysFinal "PatternHouseModel" "PatternHouseModel" "turned" "[I") ∈ lw_good := z_g7 176 rfl rfl
theorem wg_1723 : (Cond.laysFinal "PatternHouseModel" "PatternHouseModel" "order" "[I") ∈ lw_good := z_g7 178 rfl rfl
theorem wg_1725 : (Cond.laysFinal "PatternHouseModel" "PatternHouseModel" "bytes" "[I") ∈ lw_good := z_g7 180 rfl rfl
theorem wg_1727 : (Cond.lays "PatternHouseModel" "PatternHouseModel" "byteMany" "I") ∈ lw_good := z_g7 182 rfl rfl
theorem wg_1729 : (Cond.lays "PatternHouseModel" "PatternHouseModel" "trials" "I") ∈ lw_good := z_g7 184 rfl rfl
theorem wg_1731 : (Cond.laysFinal "PatternHouseModel" "PatternHouseModel" "triPiece" "[I") ∈ lw_good := z_g7 186 rfl rfl
theorem wg_1733 : (Cond.laysFinal "PatternHouseModel" "PatternHouseModel" "triBody" "[I") ∈ lw_good := z_g7 188 rfl rfl
theorem wg_1735 : (Cond.laysFinal "PatternHouseModel" "PatternHouseModel" "triA" "[I") ∈ lw_good := z_g7 190 rfl rfl
theorem wg_1737 : (Cond.laysFinal "PatternHouseModel" "PatternHouseModel" "triB" "[I") ∈ lw_good := z_g7 192 rfl rfl
theorem wg_1739 : (Cond.laysFinal "PatternHouseModel" "PatternHouseModel" "triLow" "[I") ∈ lw_good := z_g7 194 rfl rfl
theorem wg_1741 : (Cond.laysFinal "PatternHouseModel" "PatternHouseModel" "triHigh" "[I") ∈ lw_good := z_g7 196 rfl rfl
theorem wg_1743 : (Cond.lays "PatternHouseModel" "PatternHouseModel" "editions" "I") ∈ lw_good := z_g7 198 rfl rfl
theorem wg_1745 : (Cond.laysFinal "PatternHouseModel" "PatternHouseModel" "editionDay" "[I") ∈ lw_good := z_g7 200 rfl rfl
theorem wg_1747 : (Cond.laysFinal "PatternHouseModel" "PatternHouseModel" "holdMany" "[I") ∈ lw_good := z_g7 202 rfl rfl
theorem wg_1749 : (Cond.laysFinal "PatternHouseModel" "PatternHouseModel" "holdPiece" "[I") ∈ lw_good := z_g7 204 rfl rfl
theorem wg_1751 : (Cond.laysFinal "PatternHouseModel" "PatternHouseModel" "holdSize" "[I") ∈ lw_good := z_g7 206 rfl rfl
theorem wg_1753 : (Cond.laysFinal "PatternHouseModel" "PatternHouseModel" "wordMany" "[I") ∈ lw_good := z_g7 208 rfl rfl
theorem wg_1755 : (Cond.laysFinal "PatternHouseModel" "PatternHouseModel" "wordOf" "[I") ∈ lw_good := z_g7 210 rfl rfl
theorem wg_1757 : (Cond.laysFinal "PatternHouseModel" "PatternHouseModel" "wordWhat" "[I") ∈ lw_good := z_g7 212 rfl rfl
theorem wg_1759 : (Cond.laysFinal "PatternHouseModel" "PatternHouseModel" "wordNumber" "[I") ∈ lw_good := z_g7 214 rfl rfl
theorem wg_1761 : (Cond.laysFinal "PatternHouseModel" "PatternHouseModel" "orders" "[I") ∈ lw_good := z_g7 216 rfl rfl
theorem wg_1763 : (Cond.lays "PatternHouseModel" "PatternHouseModel" "markers" "I") ∈ lw_good := z_g7 218 rfl rfl
theorem wg_1765 : (Cond.laysFinal "PatternHouseModel" "PatternHouseModel" "markerCounts" "[I") ∈ lw_good := z_g7 220 rfl rfl
theorem wg_1767 : (Cond.laysFinal "PatternHouseModel" "PatternHouseModel" "markerCloth" "[I") ∈ lw_good := z_g7 222 rfl rfl
theorem wg_1769 : (Cond.laysFinal "PatternHouseModel" "PatternHouseModel" "cuts" "[I") ∈ lw_good := z_g7 224 rfl rfl
theorem wg_1771 : (Cond.laysFinal "PatternHouseModel" "PatternHouseModel" "bestCuts" "[I") ∈ lw_good := z_g7 226 rfl rfl
theorem wg_1774 : (Cond.methodLink "PatternHouseLaw" (17 : Nat) ({ cls := "PatternHouseModel", name := "days", desc := "(I)I" } : MethodName)) ∈ lw_good := z_g7 229 rfl rfl
theorem wg_1775 : (Cond.instanceMethod ({ cls := "PatternHouseModel", name := "days", desc := "(I)I" } : MethodName)) ∈ lw_good := z_g7 230 rfl rfl
theorem wg_1776 : (Cond.selects "PatternHouseModel" ({ cls := "PatternHouseModel", name := "days", desc := "(I)I" } : MethodName) ({ cls := "PatternHouseModel", name := "days", desc := "(I)I" } : MethodName)) ∈ lw_good := z_g7 231 rfl rfl
theorem wg_1777 : (Cond.code ({ cls := "PatternHouseModel", name := "days", desc := "(I)I" } : MethodName) prog_15_method_12_code (2 : Nat) (Option.some FieldType.int)) ∈ lw_good := z_g7 232 rfl rfl
theorem wg_1778 : (Cond.methodLink "PatternHouseModel" (308 : Nat) ({ cls := "PatternHouseModel", name := "refuse", desc := "(I)I" } : MethodName)) ∈ lw_good := z_g7 233 rfl rfl
theorem wg_1780 : (Cond.instanceMethod ({ cls := "PatternHouseModel", name := "refuse", desc := "(I)I" } : MethodName)) ∈ lw_good := z_g7 235 rfl rfl
theorem wg_1781 : (Cond.code ({ cls := "PatternHouseModel", name := "refuse", desc := "(I)I" } : MethodName) prog_15_method_4_code (2 : Nat) (Option.some FieldType.int)) ∈ lw_good := z_g7 236 rfl rfl
theorem wg_1782 : (Cond.methodLink "PatternHouseLaw" (22 : Nat) ({ cls := "PatternHouseModel", name := "table", desc := "(III)I" } : MethodName)) ∈ lw_good := z_g7 237 rfl rfl
theorem wg_1783 : (Cond.instanceMethod ({ cls := "PatternHouseModel", name := "table", desc := "(III)I" } : MethodName)) ∈ lw_good := z_g7 238 rfl rfl
theorem wg_1784 : (Cond.selects "PatternHouseModel" ({ cls := "PatternHouseModel", name := "table", desc := "(III)I" } : MethodName) ({ cls := "PatternHouseModel", name := "table", desc := "(III)I" } : MethodName)) ∈ lw_good := z_g7 239 rfl rfl
theorem wg_1785 : (Cond.code ({ cls := "PatternHouseModel", name := "table", desc := "(III)I" } : MethodName) prog_15_method_14_code (5 : Nat) (Option.some FieldType.int)) ∈ lw_good := z_g8 0 rfl rfl
theorem wg_1786 : (Cond.methodLink "PatternHouseModel" (318 : Nat) ({ cls := "PatternHouseModel", name := "isMeasure", desc := "(I)Z" } : MethodName)) ∈ lw_good := z_g8 1 rfl rfl
theorem wg_1787 : (Cond.static ({ cls := "PatternHouseModel", name := "isMeasure", desc := "(I)Z" } : MethodName)) ∈ lw_good := z_g8 2 rfl rfl
theorem wg_1788 : (Cond.code ({ cls := "PatternHouseModel", name := "isMeasure", desc := "(I)Z" } : MethodName) prog_15_method_6_code (1 : Nat) (Option.some FieldType.boolean)) ∈ lw_good := z_g8 3 rfl rfl
theorem wg_1789 : (Cond.constantLong "PatternHouseModel" (289 : Nat) (7 : Int64)) ∈ lw_good := z_g8 4 rfl rfl
theorem wg_1790 : (Cond.methodLink "PatternHouseModel" (291 : Nat) ({ cls := "PatternHouseModel", name := "in", desc := "(JJJ)Z" } : MethodName)) ∈ lw_good := z_g8 5 rfl rfl
theorem wg_1791 : (Cond.static ({ cls := "PatternHouseModel", name := "in", desc := "(JJJ)Z" } : MethodName)) ∈ lw_good := z_g8 6 rfl rfl
theorem wg_1792 : (Cond.code ({ cls := "PatternHouseModel", name := "in", desc := "(JJJ)Z" } : MethodName) prog_15_method_3_code (6 : Nat) (Option.some FieldType.boolean)) ∈ lw_good := z_g8 7 rfl rfl
theorem wg_1793 : (Cond.methodLink "PatternHouseModel" (321 : Nat) ({ cls := "PatternHouseModel", name := "isSize", desc := "(I)Z" } : MethodName)) ∈ lw_good := z_g8 8 rfl rfl
theorem wg_1794 : (Cond.static ({ cls := "PatternHouseModel", name := "isSize", desc := "(I)Z" } : MethodName)) ∈ lw_good := z_g8 9 rfl rfl
theorem wg_1795 : (Cond.code ({ cls := "PatternHouseModel", name := "isSize", desc := "(I)Z" } : MethodName) prog_15_method_7_code (1 : Nat) (Option.some FieldType.boolean)) ∈ lw_good := z_g8 10 rfl rfl
theorem wg_1796 : (Cond.constantLong "PatternHouseModel" (295 : Nat) (10 : Int64)) ∈ lw_good := z_g8 11 rfl rfl
theorem wg_1797 : (Cond.methodLink "PatternHouseModel" (324 : Nat) ({ cls := "PatternHouseModel", name := "bounds", desc := "(III)I" } : MethodName)) ∈ lw_good := z_g8 12 rfl rfl
theorem wg_1798 : (Cond.static ({ cls := "PatternHouseModel", name := "bounds", desc := "(III)I" } : MethodName)) ∈ lw_good := z_g8 13 rfl rfl
theorem wg_1799 : (Cond.code ({ cls := "PatternHouseModel", name := "bounds", desc := "(III)I" } : MethodName) prog_15_method_11_code (3 : Nat) (Option.some FieldType.int)) ∈ lw_good := z_g8 14 rfl rfl
theorem wg_1800 : (Cond.methodLink "PatternHouseModel" (328 : Nat) ({ cls := "PatternHouseModel", name := "tabledOn", desc := "(III)I" } : MethodName)) ∈ lw_good := z_g8 15 rfl rfl
theorem wg_1802 : (Cond.instanceMethod ({ cls := "PatternHouseModel", name := "tabledOn", desc := "(III)I" } : MethodName)) ∈ lw_good := z_g8 17 rfl rfl
theorem wg_1803 : (Cond.code ({ cls := "PatternHouseModel", name := "tabledOn", desc := "(III)I" } : MethodName) prog_15_method_13_code (6 : Nat) (Option.some FieldType.int)) ∈ lw_good := z_g8 18 rfl rfl
theorem wg_1804 : (Cond.methodLink "PatternHouseLaw" (26 : Nat) ({ cls := "PatternHouseModel", name := "tabled", desc := "(III)I" } : MethodName)) ∈ lw_good := z_g8 19 rfl rfl
theorem wg_1805 : (Cond.instanceMethod ({ cls := "PatternHouseModel", name := "tabled", desc := "(III)I" } : MethodName)) ∈ lw_good := z_g8 20 rfl rfl
theorem wg_1806 : (Cond.selects "PatternHouseModel" ({ cls := "PatternHouseModel", name := "tabled", desc := "(III)I" } : MethodName) ({ cls := "PatternHouseModel", name := "tabled", desc := "(III)I" } : MethodName)) ∈ lw_good := z_g8 21 rfl rfl
theorem wg_1807 : (Cond.code ({ cls := "PatternHouseModel", name := "tabled", desc := "(III)I" } : MethodName) prog_15_method_15_code (4 : Nat) (Option.some FieldType.int)) ∈ lw_good := z_g8 22 rfl rfl
theorem wg_1808 : (Cond.methodLink "PatternHouseLaw" (30 : Nat) ({ cls := "PatternHouseModel", name := "body", desc := "(I)I" } : MethodName)) ∈ lw_good := z_g8 23 rfl rfl
theorem wg_1809 : (Cond.instanceMethod ({ cls := "PatternHouseModel", name := "body", desc := "(I)I" } : MethodName)) ∈ lw_good := z_g8 24 rfl rfl
theorem wg_1810 : (Cond.selects "PatternHouseModel" ({ cls := "PatternHouseModel", name := "body", desc := "(I)I" } : MethodName) ({ cls := "PatternHouseModel", name := "body", desc := "(I)I" } : MethodName)) ∈ lw_good := z_g8 25 rfl rfl
theorem wg_1811 : (Cond.code ({ cls := "PatternHouseModel", name := "body", desc := "(I)I" } : MethodName) prog_15_method_16_code (3 : Nat) (Option.some FieldType.int)) ∈ lw_good := z_g8 26 rfl rfl
theorem wg_1812 : (Cond.methodLink "PatternHouseLaw" (34 : Nat) ({ cls := "PatternHouseModel", name := "measure", desc := "(III)I" } : MethodName)) ∈ lw_good := z_g8 27 rfl rfl
theorem wg_1813 : (Cond.instanceMethod ({ cls := "PatternHouseModel", name := "measure", desc := "(III)I" } : MethodName)) ∈ lw_good := z_g8 28 rfl rfl
theorem wg_1814 : (Cond.selects "PatternHouseModel" ({ cls := "PatternHouseModel", name := "measure", desc := "(III)I" } : MethodName) ({ cls := "PatternHouseModel", name := "measure", desc := "(III)I" } : MethodName)) ∈ lw_good := z_g8 29 rfl rfl
theorem wg_1815 : (Cond.code ({ cls := "PatternHouseModel", name := "measure", desc := "(III)I" } : MethodName) prog_15_method_17_code (5 : Nat) (Option.some FieldType.int)) ∈ lw_good := z_g8 30 rfl rfl
theorem wg_1816 : (Cond.methodLink "PatternHouseModel" (331 : Nat) ({ cls := "PatternHouseModel", name := "isBody", desc := "(I)Z" } : MethodName)) ∈ lw_good := z_g8 31 rfl rfl
theorem wg_1818 : (Cond.instanceMethod ({ cls := "PatternHouseModel", name := "isBody", desc := "(I)Z" } : MethodName)) ∈ lw_good := z_g8 33 rfl rfl
theorem wg_1819 : (Cond.code ({ cls := "PatternHouseModel", name := "isBody", desc := "(I)Z" } : MethodName) prog_15_method_8_code (2 : Nat) (Option.some FieldType.boolean)) ∈ lw_good := z_g8 34 rfl rfl
theorem wg_1820 : (Cond.methodLink "PatternHouseModel" (334 : Nat) ({ cls := "PatternHouseModel", name := "refuseFar", desc := "(I)I" } : MethodName)) ∈ lw_good := z_g8 35 rfl rfl
theorem wg_1822 : (Cond.instanceMethod ({ cls := "PatternHouseModel", name := "refuseFar", desc := "(I)I" } : MethodName)) ∈ lw_good := z_g8 37 rfl rfl
theorem wg_1823 : (Cond.code ({ cls := "PatternHouseModel", name := "refuseFar", desc := "(I)I" } : MethodName) prog_15_method_5_code (2 : Nat) (Option.some FieldType.int)) ∈ lw_good := z_g8 38 rfl rfl
theorem wg_1824 : (Cond.constant "PatternHouseModel" (288 : Nat) (1000000000 : Int32)) ∈ lw_good := z_g8 39 rfl rfl
theorem wg_1825 : (Cond.methodLink "PatternHouseLaw" (39 : Nat) ({ cls := "PatternHouseModel", name := "measured", desc := "(II)I" } : MethodName)) ∈ lw_good := z_g8 40 rfl rfl
theorem wg_1826 : (Cond.instanceMethod ({ cls := "PatternHouseModel", name := "measured", desc := "(II)I" } : MethodName)) ∈ lw_good := z_g8 41 rfl rfl
theorem wg_1827 : (Cond.selects "PatternHouseModel" ({ cls := "PatternHouseModel", name := "measured", desc := "(II)I" } : MethodName) ({ cls := "PatternHouseModel", name := "measured", desc := "(II)I" } : MethodName)) ∈ lw_good := z_g8 42 rfl rfl
theorem wg_1828 : (Cond.code ({ cls := "PatternHouseModel", name := "measured", desc := "(II)I" } : MethodName) prog_15_method_19_code (3 : Nat) (Option.some FieldType.int)) ∈ lw_good := z_g8 43 rfl rfl
theorem wg_1829 : (Cond.methodLink "PatternHouseModel" (337 : Nat) ({ cls := "PatternHouseModel", name := "measuredOf", desc := "(II)I" } : MethodName)) ∈ lw_good := z_g8 44 rfl rfl
theorem wg_1831 : (Cond.instanceMethod ({ cls := "PatternHouseModel", name := "measuredOf", desc := "(II)I" } : MethodName)) ∈ lw_good := z_g8 46 rfl rfl
theorem wg_1832 : (Cond.code ({ cls := "PatternHouseModel", name := "measuredOf", desc := "(II)I" } : MethodName) prog_15_method_18_code (4 : Nat) (Option.some FieldType.int)) ∈ lw_good := z_g8 47 rfl rfl
theorem wg_1833 : (Cond.methodLink "PatternHouseLaw" (43 : Nat) ({ cls := "PatternHouseModel", name := "piece", desc := "(III)I" } : MethodName)) ∈ lw_good := z_g8 48 rfl rfl
theorem wg_1834 : (Cond.instanceMethod ({ cls := "PatternHouseModel", name := "piece", desc := "(III)I" } : MethodName)) ∈ lw_good := z_g8 49 rfl rfl
theorem wg_1835 : (Cond.selects "PatternHouseModel" ({ cls := "PatternHouseModel", name := "piece", desc := "(III)I" } : MethodName) ({ cls := "PatternHouseModel", name := "piece", desc := "(III)I" } : MethodName)) ∈ lw_good := z_g8 50 rfl rfl
theorem wg_1836 : (Cond.code ({ cls := "PatternHouseModel", name := "piece", desc := "(III)I" } : MethodName) prog_15_method_20_code (4 : Nat) (Option.some FieldType.int)) ∈ lw_good := z_g8 51 rfl rfl
theorem wg_1837 : (Cond.constantLong "PatternHouseModel" (341 : Nat) (3 : Int64)) ∈ lw_good := z_g8 52 rfl rfl
theorem wg_1838 : (Cond.methodLink "PatternHouseModel" (304 : Nat) ({ cls := "PatternHouseModel", name := "isPiece", desc := "(I)Z" } : MethodName)) ∈ lw_good := z_g8 53 rfl rfl
theorem wg_1840 : (Cond.instanceMethod ({ cls := "PatternHouseModel", name := "isPiece", desc := "(I)Z" } : MethodName)) ∈ lw_good := z_g8 55 rfl rfl
theorem wg_1841 : (Cond.code ({ cls := "PatternHouseModel", name := "isPiece", desc := "(I)Z" } : MethodName) prog_15_method_9_code (2 : Nat) (Option.some FieldType.boolean)) ∈ lw_good := z_g8 56 rfl rfl
theorem wg_1842 : (Cond.methodLink "PatternHouseLaw" (47 : Nat) ({ cls := "PatternHouseModel", name := "withdraw", desc := "(I)I" } : MethodName)) ∈ lw_good := z_g8 57 rfl rfl
theorem wg_1843 : (Cond.instanceMethod ({ cls := "PatternHouseModel", name := "withdraw", desc := "(I)I" } : MethodName)) ∈ lw_good := z_g8 58 rfl rfl
theorem wg_1844 : (Cond.selects "PatternHouseModel" ({ cls := "PatternHouseModel", name := "withdraw", desc := "(I)I" } : MethodName) ({ cls := "PatternHouseModel", name := "withdraw", desc := "(I)I" } : MethodName)) ∈ lw_good := z_g8 59 rfl rfl
theorem wg_1845 : (Cond.code ({ cls := "PatternHouseModel", name := "withdraw", desc := "(I)I" } : MethodName) prog_15_method_21_code (2 : Nat) (Option.some FieldType.int)) ∈ lw_good := z_g8 60 rfl rfl
theorem wg_1846 : (Cond.methodLink "PatternHouseLaw" (54 : Nat) ({ cls := "PatternHouseModel", name := "feed", desc := "(IJ)I" } : MethodName)) ∈ lw_good := z_g8 61 rfl rfl
theorem wg_1847 : (Cond.instanceMethod ({ cls := "PatternHouseModel", name := "feed", desc := "(IJ)I" } : MethodName)) ∈ lw_good := z_g8 62 rfl rfl
theorem wg_1848 : (Cond.selects "PatternHouseModel" ({ cls := "PatternHouseModel", name := "feed", desc := "(IJ)I" } : MethodName) ({ cls := "PatternHouseModel", name := "feed", desc := "(IJ)I" } : MethodName)) ∈ lw_good := z_g8 63 rfl rfl
theorem wg_1849 : (Cond.code ({ cls := "PatternHouseModel", name := "feed", desc := "(IJ)I" } : MethodName) prog_15_method_22_code (5 : Nat) (Option.some FieldType.int)) ∈ lw_good := z_g8 64 rfl rfl
theorem wg_1850 : (Cond.constantLong "PatternHouseModel" (346 : Nat) (255 : Int64)) ∈ lw_good := z_g8 65 rfl rfl
theorem wg_1851 : (Cond.methodLink "PatternHouseLaw" (58 : Nat) ({ cls := "PatternHouseModel", name := "rule", desc := "(III)I" } : MethodName)) ∈ lw_good := z_g8 66 rfl rfl
theorem wg_1852 : (Cond.instanceMethod ({ cls := "PatternHouseModel", name := "rule", desc := "(III)I" } : MethodName)) ∈ lw_good := z_g8 67 rfl rfl
theorem wg_1853 : (Cond.selects "PatternHouseModel" ({ cls := "PatternHouseModel", name := "rule", desc := "(III)I" } : MethodName) ({ cls := "PatternHouseModel", name := "rule", desc := "(III)I" } : MethodName)) ∈ lw_good := z_g8 68 rfl rfl
theorem wg_1854 : (Cond.code ({ cls := "PatternHouseModel", name := "rule", desc := "(III)I" } : MethodName) prog_15_method_36_code (5 : Nat) (Option.some FieldType.int)) ∈ lw_good := z_g8 69 rfl rfl
theorem wg_1855 : (Cond.methodLink "PatternHouseModel" (445 : Nat) ({ cls := "PatternHouseModel", name := "isPoint", desc := "(II)Z" } : MethodName)) ∈ lw_good := z_g8 70 rfl rfl
theorem wg_1857 : (Cond.instanceMethod ({ cls := "PatternHouseModel", name := "isPoint", desc := "(II)Z" } : MethodName)) ∈ lw_good := z_g8 72 rfl rfl
theorem wg_1858 : (Cond.code ({ cls := "PatternHouseModel", name := "isPoint", desc := "(II)Z" } : MethodName) prog_15_method_10_code (3 : Nat) (Option.some FieldType.boolean)) ∈ lw_good := z_g8 73 rfl rfl
theorem wg_1859 : (Cond.methodLink "PatternHouseModel" (452 : Nat) ({ cls := "PatternHouseModel", name := "readText", desc := "()V" } : MethodName)) ∈ lw_good := z_g8 74 rfl rfl
theorem wg_1861 : (Cond.instanceMethod ({ cls := "PatternHouseModel", name := "readText", desc := "()V" } : MethodName)) ∈ lw_good := z_g8 76 rfl rfl
theorem wg_1862 : (Cond.code ({ cls := "PatternHouseModel", name := "readText", desc := "()V" } : MethodName) prog_15_method_35_code (1 : Nat) (Option.none : Option FieldType)) ∈ lw_good := z_g8 77 rfl rfl
theorem wg_1863 : (Cond.methodLink "PatternHouseModel" (436 : Nat) ({ cls := "PatternHouseModel", name := "readSum", desc := "()I" } : MethodName)) ∈ lw_good := z_g8 78 rfl rfl
theorem wg_1865 : (Cond.instanceMethod ({ cls := "PatternHouseModel", name := "readSum", desc := "()I" } : MethodName)) ∈ lw_good := z_g8 80 rfl rfl
theorem wg_1866 : (Cond.code ({ cls := "PatternHouseModel", name := "readSum", desc := "()I" } : MethodName) prog_15_method_34_code (2 : Nat) (Option.some FieldType.int)) ∈ lw_good := z_g8 81 rfl rfl
theorem wg_1867 : (Cond.methodLink "PatternHouseModel" (429 : Nat) ({ cls := "PatternHouseModel", name := "readUnit", desc := "()Z" } : MethodName)) ∈ lw_good := z_g8 82 rfl rfl
theorem wg_1869 : (Cond.instanceMethod ({ cls := "PatternHouseModel", name := "readUnit", desc := "()Z" } : MethodName)) ∈ lw_good := z_g8 84 rfl rfl
theorem wg_1870 : (Cond.code ({ cls := "PatternHouseModel", name := "readUnit", desc := "()Z" } : MethodName) prog_15_method_32_code (5 : Nat) (Option.some FieldType.boolean)) ∈ lw_good := z_g8 85 rfl rfl
theorem wg_1871 : (Cond.methodLink "PatternHouseModel" (398 : Nat) ({ cls := "PatternHouseModel", name := "here", desc := "()I" } : MethodName)) ∈ lw_good := z_g8 86 rfl rfl
theorem wg_1873 : (Cond.instanceMethod ({ cls := "PatternHouseModel", name := "here", desc := "()I" } : MethodName)) ∈ lw_good := z_g8 88 rfl rfl
theorem wg_1874 : (Cond.code ({ cls := "PatternHouseModel", name := "here", desc := "()I" } : MethodName) prog_15_method_23_code (1 : Nat) (Option.some FieldType.int)) ∈ lw_good := z_g8 89 rfl rfl
theorem wg_1875 : (Cond.methodLink "PatternHouseModel" (401 : Nat) ({ cls := "PatternHouseModel", name := "opens", desc := "(I)V" } : MethodName)) ∈ lw_good := z_g8 90 rfl rfl
theorem wg_1877 : (Cond.instanceMethod ({ cls := "PatternHouseModel", name := "opens", desc := "(I)V" } : MethodName)) ∈ lw_good := z_g8 92 rfl rfl
theorem wg_1878 : (Cond.code ({ cls := "PatternHouseModel", name := "opens", desc := "(I)V" } : MethodName) prog_15_method_31_code (2 : Nat) (Option.none : Option FieldType)) ∈ lw_good := z_g8 93 rfl rfl
theorem wg_1879 : (Cond.methodLink "PatternHouseModel" (378 : Nat) ({ cls := "PatternHouseModel", name := "push", desc := "(J)V" } : MethodName)) ∈ lw_good := z_g8 94 rfl rfl
theorem wg_1881 : (Cond.instanceMethod ({ cls := "PatternHouseModel", name := "push", desc := "(J)V" } : MethodName)) ∈ lw_good := z_g8 96 rfl rfl
theorem wg_1882 : (Cond.code ({ cls := "PatternHouseModel", name := "push", desc := "(J)V" } : MethodName) prog_15_method_27_code (3 : Nat) (Option.none : Option FieldType)) ∈ lw_good := z_g8 97 rfl rfl
theorem wg_1883 : (Cond.constantLong "PatternHouseModel" (371 : Nat) (-1000000 : Int64)) ∈ lw_good := z_g8 98 rfl rfl
theorem wg_1884 : (Cond.constantLong "PatternHouseModel" (373 : Nat) (1000000 : Int64)) ∈ lw_good := z_g8 99 rfl rfl
theorem wg_1885 : (Cond.methodLink "PatternHouseModel" (408 : Nat) ({ cls := "PatternHouseModel", name := "isDigit", desc := "(I)Z" } : MethodName)) ∈ lw_good := z_g8 100 rfl rfl
theorem wg_1886 : (Cond.static ({ cls := "PatternHouseModel", name := "isDigit", desc := "(I)Z" } : MethodName)) ∈ lw_good := z_g8 101 rfl rfl
theorem wg_1887 : (Cond.code ({ cls := "PatternHouseModel", name := "isDigit", desc := "(I)Z" } : MethodName) prog_15_method_24_code (1 : Nat) (Option.some FieldType.boolean)) ∈ lw_good := z_g8 102 rfl rfl
theorem wg_1888 : (Cond.constantLong "PatternHouseModel" (417 : Nat) (48 : Int64)) ∈ lw_good := z_g8 103 rfl rfl
theorem wg_1889 : (Cond.methodLink "PatternHouseModel" (433 : Nat) ({ cls := "PatternHouseModel", name := "readSign", desc := "()Z" } : MethodName)) ∈ lw_good := z_g8 104 rfl rfl
theorem wg_1891 : (Cond.instanceMethod ({ cls := "PatternHouseModel", name := "readSign", desc := "()Z" } : MethodName)) ∈ lw_good := z_g8 106 rfl rfl
theorem wg_1892 : (Cond.code ({ cls := "PatternHouseModel", name := "readSign", desc := "()Z" } : MethodName) prog_15_method_33_code (5 : Nat) (Option.some FieldType.boolean)) ∈ lw_good := z_g8 107 rfl rfl
theorem wg_1893 : (Cond.methodLink "PatternHouseModel" (389 : Nat) ({ cls := "PatternHouseModel", name := "workTimes", desc := "()V" } : MethodName)) ∈ lw_good := z_g8 108 rfl rfl
theorem wg_1895 : (Cond.instanceMethod ({ cls := "PatternHouseModel", name := "workTimes", desc := "()V" } : MethodName)) ∈ lw_good := z_g8 110 rfl rfl
theorem wg_1896 : (Cond.code ({ cls := "PatternHouseModel", name := "workTimes", desc := "()V" } : MethodName) prog_15_method_29_code (1 : Nat) (Option.none : Option FieldType)) ∈ lw_good := z_g8 111 rfl rfl
theorem wg_1897 : (Cond.methodLink "PatternHouseModel" (382 : Nat) ({ cls := "PatternHouseModel", name := "topSign", desc := "()I" } : MethodName)) ∈ lw_good := z_g8 112 rfl rfl
theorem wg_1899 : (Cond.instanceMethod ({ cls := "PatternHouseModel", name := "topSign", desc := "()I" } : MethodName)) ∈ lw_good := z_g8 114 rfl rfl
theorem wg_1900 : (Cond.code ({ cls := "PatternHouseModel", name := "topSign", desc := "()I" } : MethodName) prog_15_method_25_code (1 : Nat) (Option.some FieldType.int)) ∈ lw_good := z_g8 115 rfl rfl
theorem wg_1901 : (Cond.methodLink "PatternHouseModel" (386 : Nat) ({ cls := "PatternHouseModel", name := "work", desc := "()V" } : MethodName)) ∈ lw_good := z_g8 116 rfl rfl
theorem wg_1903 : (Cond.instanceMethod ({ cls := "PatternHouseModel", name := "work", desc := "()V" } : MethodName)) ∈ lw_good := z_g8 118 rfl rfl
theorem wg_1904 : (Cond.code ({ cls := "PatternHouseModel", name := "work", desc := "()V" } : MethodName) prog_15_method_28_code (6 : Nat) (Option.none : Option FieldType)) ∈ lw_good := z_g8 119 rfl rfl
theorem wg_1905 : (Cond.methodLink "PatternHouseModel" (419 : Nat) ({ cls := "PatternHouseModel", name := "workAll", desc := "()V" } : MethodName)) ∈ lw_good := z_g8 120 rfl rfl
theorem wg_1907 : (Cond.instanceMethod ({ cls := "PatternHouseModel", name := "workAll", desc := "()V" } : MethodName)) ∈ lw_good := z_g8 122 rfl rfl
theorem wg_1908 : (Cond.code ({ cls := "PatternHouseModel", name := "workAll", desc := "()V" } : MethodName) prog_15_method_30_code (1 : Nat) (Option.none : Option FieldType)) ∈ lw_good := z_g8 123 rfl rfl
theorem wg_1909 : (Cond.methodLink "PatternHouseModel" (422 : Nat) ({ cls := "PatternHouseModel", name := "rootOf", desc := "(J)J" } : MethodName)) ∈ lw_good := z_g8 124 rfl rfl
theorem wg_1910 : (Cond.static ({ cls := "PatternHouseModel", name := "rootOf", desc := "(J)J" } : MethodName)) ∈ lw_good := z_g8 125 rfl rfl
theorem wg_1911 : (Cond.code ({ cls := "PatternHouseModel", name := "rootOf", desc := "(J)J" } : MethodName) prog_15_method_26_code (8 : Nat) (Option.some FieldType.long)) ∈ lw_good := z_g8 126 rfl rfl
theorem wg_1912 : (Cond.constantLong "PatternHouseModel" (364 : Nat) (3000000000 : Int64)) ∈ lw_good := z_g8 127 rfl rfl
theorem wg_1913 : (Cond.constantLong "PatternHouseModel" (366 : Nat) (2 : Int64)) ∈ lw_good := z_g8 128 rfl rfl
theorem wg_1914 : (Cond.methodLink "PatternHouseLaw" (62 : Nat) ({ cls := "PatternHouseModel", name := "quarrel", desc := "(III)I" } : MethodName)) ∈ lw_good := z_g8 129 rfl rfl
theorem wg_1915 : (Cond.instanceMethod ({ cls := "PatternHouseModel", name := "quarrel", desc := "(III)I" } : MethodName)) ∈ lw_good := z_g8 130 rfl rfl
theorem wg_1916 : (Cond.selects "PatternHouseModel" ({ cls := "PatternHouseModel", name := "quarrel", desc := "(III)I" } : MethodName) ({ cls := "PatternHouseModel", name := "quarrel", desc := "(III)I" } : MethodName)) ∈ lw_good := z_g8 131 rfl rfl
theorem wg_1917 : (Cond.code ({ cls := "PatternHouseModel", name := "quarrel", desc := "(III)I" } : MethodName) prog_15_method_39_code (8 : Nat) (Option.some FieldType.int)) ∈ lw_good := z_g8 132 rfl rfl
theorem wg_1918 : (Cond.methodLink "PatternHouseModel" (455 : Nat) ({ cls := "PatternHouseModel", name := "wrongPoint", desc := "(III)I" } : MethodName)) ∈ lw_good := z_g8 133 rfl rfl
theorem wg_1920 : (Cond.instanceMethod ({ cls := "PatternHouseModel", name := "wrongPoint", desc := "(III)I" } : MethodName)) ∈ lw_good := z_g8 135 rfl rfl
theorem wg_1921 : (Cond.code ({ cls := "PatternHouseModel", name := "wrongPoint", desc := "(III)I" } : MethodName) prog_15_method_38_code (4 : Nat) (Option.some FieldType.int)) ∈ lw_good := z_g8 136 rfl rfl
theorem wg_1922 : (Cond.methodLink "PatternHouseModel" (458 : Nat) ({ cls := "PatternHouseModel", name := "ruleOn", desc := "(III)I" } : MethodName)) ∈ lw_good := z_g8 137 rfl rfl
theorem wg_1924 : (Cond.instanceMethod ({ cls := "PatternHouseModel", name := "ruleOn", desc := "(III)I" } : MethodName)) ∈ lw_good := z_g8 139 rfl rfl
theorem wg_1925 : (Cond.code ({ cls := "PatternHouseModel", name := "ruleOn", desc := "(III)I" } : MethodName) prog_15_method_37_code (7 : Nat) (Option.some FieldType.int)) ∈ lw_good := z_g8 140 rfl rfl
theorem wg_1926 : (Cond.methodLink "PatternHouseLaw" (66 : Nat) ({ cls := "PatternHouseModel", name := "from", desc := "(III)I" } : MethodName)) ∈ lw_good := z_g8 141 rfl rfl
theorem wg_1927 : (Cond.instanceMethod ({ cls := "PatternHouseModel", name := "from", desc := "(III)I" } : MethodName)) ∈ lw_good := z_g8 142 rfl rfl
theorem wg_1928 : (Cond.selects "PatternHouseModel" ({ cls := "PatternHouseModel", name := "from", desc := "(III)I" } : MethodName) ({ cls := "PatternHouseModel", name := "from", desc := "(III)I" } : MethodName)) ∈ lw_good := z_g8 143 rfl rfl
theorem wg_1929 : (Cond.code ({ cls := "PatternHouseModel", name := "from", desc := "(III)I" } : MethodName) prog_15_method_41_code (10 : Nat) (Option.some FieldType.int)) ∈ lw_good := z_g8 144 rfl rfl
theorem wg_1930 : (Cond.methodLink "PatternHouseModel" (461 : Nat) ({ cls := "PatternHouseModel", name := "readRule", desc := "(I)V" } : MethodName)) ∈ lw_good := z_g8 145 rfl rfl
theorem wg_1932 : (Cond.instanceMethod ({ cls := "PatternHouseModel", name := "readRule", desc := "(I)V" } : MethodName)) ∈ lw_good := z_g8 147 rfl rfl
theorem wg_1933 : (Cond.code ({ cls := "PatternHouseModel", name := "readRule", desc := "(I)V" } : MethodName) prog_15_method_40_code (2 : Nat) (Option.none : Option FieldType)) ∈ lw_good := z_g8 148 rfl rfl
theorem wg_1934 : (Cond.methodLink "PatternHouseLaw" (71 : Nat) ({ cls := "PatternHouseModel", name := "grade", desc := "(IIII)I" } : MethodName)) ∈ lw_good := z_g8 149 rfl rfl
theorem wg_1935 : (Cond.instanceMethod ({ cls := "PatternHouseModel", name := "grade", desc := "(IIII)I" } : MethodName)) ∈ lw_good := z_g8 150 rfl rfl
theorem wg_1936 : (Cond.selects "PatternHouseModel" ({ cls := "PatternHouseModel", name := "grade", desc := "(IIII)I" } : MethodName) ({ cls := "PatternHouseModel", name := "grade", desc := "(IIII)I" } : MethodName)) ∈ lw_good := z_g8 151 rfl rfl
theorem wg_1937 : (Cond.code ({ cls := "PatternHouseModel", name := "grade", desc := "(IIII)I" } : MethodName) prog_15_method_42_code (5 : Nat) (Option.some FieldType.int)) ∈ lw_good := z_g8 152 rfl rfl
theorem wg_1938 : (Cond.methodLink "PatternHouseLaw" (76 : Nat) ({ cls := "PatternHouseModel", name := "alter", desc := "(IIIII)I" } : MethodName)) ∈ lw_good := z_g8 153 rfl rfl
theorem wg_1939 : (Cond.instanceMethod ({ cls := "PatternHouseModel", name := "alter", desc := "(IIIII)I" } : MethodName)) ∈ lw_good := z_g8 154 rfl rfl
theorem wg_1940 : (Cond.selects "PatternHouseModel" ({ cls := "PatternHouseModel", name := "alter", desc := "(IIIII)I" } : MethodName) ({ cls := "PatternHouseModel", name := "alter", desc := "(IIIII)I" } : MethodName)) ∈ lw_good := z_g8 155 rfl rfl
theorem wg_1941 : (Cond.code ({ cls := "PatternHouseModel", name := "alter", desc := "(IIIII)I" } : MethodName) prog_15_method_43_code (7 : Nat) (Option.some FieldType.int)) ∈ lw_good := z_g8 156 rfl rfl
theorem wg_1942 : (Cond.methodLink "PatternHouseLaw" (80 : Nat) ({ cls := "PatternHouseModel", name := "curve", desc := "(IIII)I" } : MethodName)) ∈ lw_good := z_g8 157 rfl rfl
theorem wg_1943 : (Cond.instanceMethod ({ cls := "PatternHouseModel", name := "curve", desc := "(IIII)I" } : MethodName)) ∈ lw_good := z_g8 158 rfl rfl
theorem wg_1944 : (Cond.selects "PatternHouseModel" ({ cls := "PatternHouseModel", name := "curve", desc := "(IIII)I" } : MethodName) ({ cls := "PatternHouseModel", name := "curve", desc := "(IIII)I" } : MethodName)) ∈ lw_good := z_g8 159 rfl rfl
theorem wg_1945 : (Cond.code ({ cls := "PatternHouseModel", name := "curve", desc := "(IIII)I" } : MethodName) prog_15_method_44_code (5 : Nat) (Option.some FieldType.int)) ∈ lw_good := z_g8 160 rfl rfl
theorem wg_1946 : (Cond.methodLink "PatternHouseLaw" (84 : Nat) ({ cls := "PatternHouseModel", name := "straight", desc := "(II)I" } : MethodName)) ∈ lw_good := z_g8 161 rfl rfl
theorem wg_1947 : (Cond.instanceMethod ({ cls := "PatternHouseModel", name := "straight", desc := "(II)I" } : MethodName)) ∈ lw_good := z_g8 162 rfl rfl
theorem wg_1948 : (Cond.selects "PatternHouseModel" ({ cls := "PatternHouseModel", name := "straight", desc := "(II)I" } : MethodName) ({ cls := "PatternHouseModel", name := "straight", desc := "(II)I" } : MethodName)) ∈ lw_good := z_g8 163 rfl rfl
theorem wg_1949 : (Cond.code ({ cls := "PatternHouseModel", name := "straight", desc := "(II)I" } : MethodName) prog_15_method_45_code (4 : Nat) (Option.some FieldType.int)) ∈ lw_good := z_g8 164 rfl rfl
theorem wg_1950 : (Cond.methodLink "PatternHouseLaw" (88 : Nat) ({ cls := "PatternHouseModel", name := "at", desc := "(IIIII)I" } : MethodName)) ∈ lw_good := z_g8 165 rfl rfl
theorem wg_1951 : (Cond.instanceMethod ({ cls := "PatternHouseModel", name := "at", desc := "(IIIII)I" } : MethodName)) ∈ lw_good := z_g8 166 rfl rfl
theorem wg_1952 : (Cond.selects "PatternHouseModel" ({ cls := "PatternHouseModel", name := "at", desc := "(IIIII)I" } : MethodName) ({ cls := "PatternHouseModel", name := "at", desc := "(IIIII)I" } : MethodName)) ∈ lw_good := z_g8 167 rfl rfl
theorem wg_1953 : (Cond.code ({ cls := "PatternHouseModel", name := "at", desc := "(IIIII)I" } : MethodName) prog_15_method_54_code (7 : Nat) (Option.some FieldType.int)) ∈ lw_good := z_g8 168 rfl rfl
theorem wg_1954 : (Cond.methodLink "PatternHouseModel" (495 : Nat) ({ cls := "PatternHouseModel", name := "wrongDrawn", desc := "(III)I" } : MethodName)) ∈ lw_good := z_g8 169 rfl rfl
theorem wg_1956 : (Cond.instanceMethod ({ cls := "PatternHouseModel", name := "wrongDrawn", desc := "(III)I" } : MethodName)) ∈ lw_good := z_g8 171 rfl rfl
theorem wg_1957 : (Cond.code ({ cls := "PatternHouseModel", name := "wrongDrawn", desc := "(III)I" } : MethodName) prog_15_method_53_code (5 : Nat) (Option.some FieldType.int)) ∈ lw_good := z_g8 172 rfl rfl
theorem wg_1958 : (Cond.methodLink "PatternHouseModel" (491 : Nat) ({ cls := "PatternHouseModel", name := "draw", desc := "(IIII)Z" } : MethodName)) ∈ lw_good := z_g8 173 rfl rfl
theorem wg_1960 : (Cond.instanceMethod ({ cls := "PatternHouseModel", name := "draw", desc := "(IIII)Z" } : MethodName)) ∈ lw_good := z_g8 175 rfl rfl
theorem wg_1961 : (Cond.code ({ cls := "PatternHouseModel", name := "draw", desc := "(IIII)Z" } : MethodName) prog_15_method_46_code (9 : Nat) (Option.some FieldType.boolean)) ∈ lw_good := z_g8 176 rfl rfl
theorem wg_1962 : (Cond.methodLink "PatternHouseModel" (470 : Nat) ({ cls := "PatternHouseModel", name := "drawOne", desc := "(IIIIZ)Z" } : MethodName)) ∈ lw_good := z_g8 177 rfl rfl
theorem wg_1964 : (Cond.instanceMethod ({ cls := "PatternHouseModel", name := "drawOne", desc := "(IIIIZ)Z" } : MethodName)) ∈ lw_good := z_g8 179 rfl rfl
theorem wg_1965 : (Cond.code ({ cls := "PatternHouseModel", name := "drawOne", desc := "(IIIIZ)Z" } : MethodName) prog_15_method_47_code (10 : Nat) (Option.some FieldType.boolean)) ∈ lw_good := z_g8 180 rfl rfl
theorem wg_1966 : (Cond.methodLink "PatternHouseLaw" (92 : Nat) ({ cls := "PatternHouseModel", name := "on", desc := "(IIII)I" } : MethodName)) ∈ lw_good := z_g8 181 rfl rfl
theorem wg_1967 : (Cond.instanceMethod ({ cls := "PatternHouseModel", name := "on", desc := "(IIII)I" } : MethodName)) ∈ lw_good := z_g8 182 rfl rfl
theorem wg_1968 : (Cond.selects "PatternHouseModel" ({ cls := "PatternHouseModel", name := "on", desc := "(IIII)I" } : MethodName) ({ cls := "PatternHouseModel", name := "on", desc := "(IIII)I" } : MethodName)) ∈ lw_good := z_g8 183 rfl rfl
theorem wg_1969 : (Cond.code ({ cls := "PatternHouseModel", name := "on", desc := "(IIII)I" } : MethodName) prog_15_method_56_code (5 : Nat) (Option.some FieldType.int)) ∈ lw_good := z_g8 184 rfl rfl
theorem wg_1970 : (Cond.methodLink "PatternHouseModel" (498 : Nat) ({ cls := "PatternHouseModel", name := "drawFor", desc := "(II)Z" } : MethodName)) ∈ lw_good := z_g8 185 rfl rfl
theorem wg_1972 : (Cond.instanceMethod ({ cls := "PatternHouseModel", name := "drawFor", desc := "(II)Z" } : MethodName)) ∈ lw_good := z_g8 187 rfl rfl
theorem wg_1973 : (Cond.code ({ cls := "PatternHouseModel", name := "drawFor", desc := "(II)Z" } : MethodName) prog_15_method_55_code (3 : Nat) (Option.some FieldType.boolean)) ∈ lw_good := z_g8 188 rfl rfl
theorem wg_1974 : (Cond.methodLink "PatternHouseLaw" (96 : Nat) ({ cls := "PatternHouseModel", name := "length", desc := "(IIIII)I" } : MethodName)) ∈ lw_good := z_g8 189 rfl rfl
theorem wg_1975 : (Cond.instanceMethod ({ cls := "PatternHouseModel", name := "length", desc := "(IIIII)I" } : MethodName)) ∈ lw_good := z_g8 190 rfl rfl
theorem wg_1976 : (Cond.selects "PatternHouseModel" ({ cls := "PatternHouseModel", name := "length", desc := "(IIIII)I" } : MethodName) ({ cls := "PatternHouseModel", name := "length", desc := "(IIIII)I" } : MethodName)) ∈ lw_good := z_g8 191 rfl rfl
theorem wg_1977 : (Cond.code ({ cls := "PatternHouseModel", name := "length", desc := "(IIIII)I" } : MethodName) prog_15_method_57_code (7 : Nat) (Option.some FieldType.int)) ∈ lw_good := z_g8 192 rfl rfl
theorem wg_1978 : (Cond.methodLink "PatternHouseModel" (501 : Nat) ({ cls := "PatternHouseModel", name := "lengthOf", desc := "(III)I" } : MethodName)) ∈ lw_good := z_g8 193 rfl rfl
theorem wg_1980 : (Cond.instanceMethod ({ cls := "PatternHouseModel", name := "lengthOf", desc := "(III)I" } : MethodName)) ∈ lw_good := z_g8 195 rfl rfl
theorem wg_1981 : (Cond.code ({ cls := "PatternHouseModel", name := "lengthOf", desc := "(III)I" } : MethodName) prog_15_method_51_code (12 : Nat) (Option.some FieldType.int)) ∈ lw_good := z_g8 196 rfl rfl
theorem wg_1982 : (Cond.methodLink "PatternHouseModel" (488 : Nat) ({ cls := "PatternHouseModel", name := "findWays", desc := "(I)V" } : MethodName)) ∈ lw_good := z_g8 197 rfl rfl
theorem wg_1984 : (Cond.instanceMethod ({ cls := "PatternHouseModel", name := "findWays", desc := "(I)V" } : MethodName)) ∈ lw_good := z_g8 199 rfl rfl
theorem wg_1985 : (Cond.code ({ cls := "PatternHouseModel", name := "findWays", desc := "(I)V" } : MethodName) prog_15_method_50_code (15 : Nat) (Option.none : Option FieldType)) ∈ lw_good := z_g8 200 rfl rfl
theorem wg_1986 : (Cond.methodLink "PatternHouseModel" (481 : Nat) ({ cls := "PatternHouseModel", name := "halfDown", desc := "(I)I" } : MethodName)) ∈ lw_good := z_g8 201 rfl rfl
theorem wg_1987 : (Cond.static ({ cls := "PatternHouseModel", name := "halfDown", desc := "(I)I" } : MethodName)) ∈ lw_good := z_g8 202 rfl rfl
theorem wg_1988 : (Cond.code ({ cls := "PatternHouseModel", name := "halfDown", desc := "(I)I" } : MethodName) prog_15_method_48_code (1 : Nat) (Option.some FieldType.int)) ∈ lw_good := z_g8 203 rfl rfl
theorem wg_1989 : (Cond.methodLink "PatternHouseModel" (484 : Nat) ({ cls := "PatternHouseModel", name := "downBy64", desc := "(J)I" } : MethodName)) ∈ lw_good := z_g8 204 rfl rfl
theorem wg_1990 : (Cond.static ({ cls := "PatternHouseModel", name := "downBy64", desc := "(J)I" } : MethodName)) ∈ lw_good := z_g8 205 rfl rfl
theorem wg_1991 : (Cond.code ({ cls := "PatternHouseModel", name := "downBy64", desc := "(J)I" } : MethodName) prog_15_method_49_code (2 : Nat) (Option.some FieldType.int)) ∈ lw_good := z_g8 206 rfl rfl
theorem wg_1992 : (Cond.constantLong "PatternHouseModel" (474 : Nat) (64 : Int64)) ∈ lw_good := z_g8 207 rfl rfl
theorem wg_1993 : (Cond.constantLong "PatternHouseModel" (476 : Nat) (63 : Int64)) ∈ lw_good := z_g8 208 rfl rfl
theorem wg_1994 : (Cond.methodLink "PatternHouseLaw" (100 : Nat) ({ cls := "PatternHouseModel", name := "lengthOn", desc := "(IIII)I" } : MethodName)) ∈ lw_good := z_g8 209 rfl rfl
theorem wg_1995 : (Cond.instanceMethod ({ cls := "PatternHouseModel", name := "lengthOn", desc := "(IIII)I" } : MethodName)) ∈ lw_good := z_g8 210 rfl rfl
theorem wg_1996 : (Cond.selects "PatternHouseModel" ({ cls := "PatternHouseModel", name := "lengthOn", desc := "(IIII)I" } : MethodName) ({ cls := "PatternHouseModel", name := "lengthOn", desc := "(IIII)I" } : MethodName)) ∈ lw_good := z_g8 211 rfl rfl
theorem wg_1997 : (Cond.code ({ cls := "PatternHouseModel", name := "lengthOn", desc := "(IIII)I" } : MethodName) prog_15_method_58_code (5 : Nat) (Option.some FieldType.int)) ∈ lw_good := z_g8 212 rfl rfl
theorem wg_1998 : (Cond.methodLink "PatternHouseLaw" (105 : Nat) ({ cls := "PatternHouseModel", name := "area", desc := "(III)J" } : MethodName)) ∈ lw_good := z_g8 213 rfl rfl
theorem wg_1999 : (Cond.instanceMethod ({ cls := "PatternHouseModel", name := "area", desc := "(III)J" } : MethodName)) ∈ lw_good := z_g8 214 rfl rfl
theorem wg_2000 : (Cond.selects "PatternHouseModel" ({ cls := "PatternHouseModel", name := "area", desc := "(III)J" } : MethodName) ({ cls := "PatternHouseModel", name := "area", desc := "(III)J" } : MethodName)) ∈ lw_good := z_g8 215 rfl rfl
theorem wg_2001 : (Cond.code ({ cls := "PatternHouseModel", name := "area", desc := "(III)J" } : MethodName) prog_15_method_59_code (5 : Nat) (Option.some FieldType.long)) ∈ lw_good := z_g8 216 rfl rfl
theorem wg_2002 : (Cond.methodLink "PatternHouseModel" (504 : Nat) ({ cls := "PatternHouseModel", name := "areaOf", desc := "(I)J" } : MethodName)) ∈ lw_good := z_g8 217 rfl rfl
theorem wg_2004 : (Cond.instanceMethod ({ cls := "PatternHouseModel", name := "areaOf", desc := "(I)J" } : MethodName)) ∈ lw_good := z_g8 219 rfl rfl
theorem wg_2005 : (Cond.code ({ cls := "PatternHouseModel", name := "areaOf", desc := "(I)J" } : MethodName) prog_15_method_52_code (5 : Nat) (Option.some FieldType.long)) ∈ lw_good := z_g8 220 rfl rfl
theorem wg_2006 : (Cond.methodLink "PatternHouseLaw" (110 : Nat) ({ cls := "PatternHouseModel", name := "seam", desc := "(IIIIIIII)I" } : MethodName)) ∈ lw_good := z_g8 221 rfl rfl
theorem wg_2007 : (Cond.instanceMethod ({ cls := "PatternHouseModel", name := "seam", desc := "(IIIIIIII)I" } : MethodName)) ∈ lw_good := z_g8 222 rfl rfl
theorem wg_2008 : (Cond.selects "PatternHouseModel" ({ cls := "PatternHouseModel", name := "seam", desc := "(IIIIIIII)I" } : MethodName) ({ cls := "PatternHouseModel", name := "seam", desc := "(IIIIIIII)I" } : MethodName)) ∈ lw_good := z_g8 223 rfl rfl
theorem wg_2009 : (Cond.code ({ cls := "PatternHouseModel", name := "seam", desc := "(IIIIIIII)I" } : MethodName) prog_15_method_60_code (9 : Nat) (Option.some FieldType.int)) ∈ lw_good := z_g8 224 rfl rfl
theorem wg_2010 : (Cond.methodLink "PatternHouseLaw" (114 : Nat) ({ cls := "PatternHouseModel", name := "notch", desc := "(III)I" } : MethodName)) ∈ lw_good := z_g8 225 rfl rfl
theorem wg_2011 : (Cond.instanceMethod ({ cls := "PatternHouseModel", name := "notch", desc := "(III)I" } : MethodName)) ∈ lw_good := z_g8 226 rfl rfl
theorem wg_2012 : (Cond.selects "PatternHouseModel" ({ cls := "PatternHouseModel", name := "notch", desc := "(III)I" } : MethodName) ({ cls := "PatternHouseModel", name := "notch", desc := "(III)I" } : MethodName)) ∈ lw_good := z_g8 227 rfl rfl
theorem wg_2013 : (Cond.code ({ cls := "PatternHouseModel", name := "notch", desc := "(III)I" } : MethodName) prog_15_method_62_code (4 : Nat) (Option.some FieldType.int)) ∈ lw_good := z_g8 228 rfl rfl
theorem wg_2014 : (Cond.methodLink "PatternHouseModel" (511 : Nat) ({ cls := "PatternHouseModel", name := "isSeam", desc := "(I)Z" } : MethodName)) ∈ lw_good := z_g8 229 rfl rfl
theorem wg_2016 : (Cond.instanceMethod ({ cls := "PatternHouseModel", name := "isSeam", desc := "(I)Z" } : MethodName)) ∈ lw_good := z_g8 231 rfl rfl
theorem wg_2017 : (Cond.code ({ cls := "PatternHouseModel", name := "isSeam", desc := "(I)Z" } : MethodName) prog_15_method_61_code (2 : Nat) (Option.some FieldType.boolean)) ∈ lw_good := z_g8 232 rfl rfl
theorem wg_2018 : (Cond.constant "PatternHouseModel" (514 : Nat) (99999 : Int32)) ∈ lw_good := z_g8 233 rfl rfl
theorem wg_2019 : (Cond.methodLink "PatternHouseLaw" (118 : Nat) ({ cls := "PatternHouseModel", name := "gather", desc := "(II)I" } : MethodName)) ∈ lw_good := z_g8 234 rfl rfl
theorem wg_2020 : (Cond.instanceMethod ({ cls := "PatternHouseModel", name := "gather", desc := "(II)I" } : MethodName)) ∈ lw_good := z_g8 235 rfl rfl
theorem wg_2021 : (Cond.selects "PatternHouseModel" ({ cls := "PatternHouseModel", name := "gather", desc := "(II)I" } : MethodName) ({ cls := "PatternHouseModel", name := "gather", desc := "(II)I" } : MethodName)) ∈ lw_good := z_g8 236 rfl rfl
theorem wg_2022 : (Cond.code ({ cls := "PatternHouseModel", name := "gather", desc := "(II)I" } : MethodName) prog_15_method_63_code (4 : Nat) (Option.some FieldType.int)) ∈ lw_good := z_g8 237 rfl rfl
theorem wg_2023 : (Cond.methodLink "PatternHouseLaw" (122 : Nat) ({ cls := "PatternHouseModel", name := "ease", desc := "(III)I" } : MethodName)) ∈ lw_good := z_g8 238 rfl rfl
theorem wg_2024 : (Cond.instanceMethod ({ cls := "PatternHouseModel", name := "ease", desc := "(III)I" } : MethodName)) ∈ lw_good := z_g8 239 rfl rfl
theorem wg_2025 : (Cond.selects "PatternHouseModel" ({ cls := "PatternHouseModel", name := "ease", desc := "(III)I" } : MethodName) ({ cls := "PatternHouseModel", name := "ease", desc := "(III)I" } : MethodName)) ∈ lw_good := z_g9 0 rfl rfl
theorem wg_2026 : (Cond.code ({ cls := "PatternHouseModel", name := "ease", desc := "(III)I" } : MethodName) prog_15_method_65_code (5 : Nat) (Option.some FieldType.int)) ∈ lw_good := z_g9 1 rfl rfl
theorem wg_2027 : (Cond.methodLink "PatternHouseModel" (521 : Nat) ({ cls := "PatternHouseModel", name := "wrongSeam", desc := "(III)I" } : MethodName)) ∈ lw_good := z_g9 2 rfl rfl
theorem wg_2029 : (Cond.instanceMethod ({ cls := "PatternHouseModel", name := "wrongSeam", desc := "(III)I" } : MethodName)) ∈ lw_good := z_g9 4 rfl rfl
theorem wg_2030 : (Cond.code ({ cls := "PatternHouseModel", name := "wrongSeam", desc := "(III)I" } : MethodName) prog_15_method_64_code (5 : Nat) (Option.some FieldType.int)) ∈ lw_good := z_g9 5 rfl rfl
theorem wg_2031 : (Cond.methodLink "PatternHouseLaw" (126 : Nat) ({ cls := "PatternHouseModel", name := "meets", desc := "(III)I" } : MethodName)) ∈ lw_good := z_g9 6 rfl rfl
theorem wg_2032 : (Cond.instanceMethod ({ cls := "PatternHouseModel", name := "meets", desc := "(III)I" } : MethodName)) ∈ lw_good := z_g9 7 rfl rfl
theorem wg_2033 : (Cond.selects "PatternHouseModel" ({ cls := "PatternHouseModel", name := "meets", desc := "(III)I" } : MethodName) ({ cls := "PatternHouseModel", name := "meets", desc := "(III)I" } : MethodName)) ∈ lw_good := z_g9 8 rfl rfl
theorem wg_2034 : (Cond.code ({ cls := "PatternHouseModel", name := "meets", desc := "(III)I" } : MethodName) prog_15_method_67_code (5 : Nat) (Option.some FieldType.int)) ∈ lw_good := z_g9 9 rfl rfl
theorem wg_2035 : (Cond.methodLink "PatternHouseModel" (524 : Nat) ({ cls := "PatternHouseModel", name := "doesMeet", desc := "(I)Z" } : MethodName)) ∈ lw_good := z_g9 10 rfl rfl
theorem wg_2037 : (Cond.instanceMethod ({ cls := "PatternHouseModel", name := "doesMeet", desc := "(I)Z" } : MethodName)) ∈ lw_good := z_g9 12 rfl rfl
theorem wg_2038 : (Cond.code ({ cls := "PatternHouseModel", name := "doesMeet", desc := "(I)Z" } : MethodName) prog_15_method_66_code (2 : Nat) (Option.some FieldType.boolean)) ∈ lw_good := z_g9 13 rfl rfl
theorem wg_2039 : (Cond.methodLink "PatternHouseLaw" (130 : Nat) ({ cls := "PatternHouseModel", name := "lost", desc := "(III)I" } : MethodName)) ∈ lw_good := z_g9 14 rfl rfl
theorem wg_2040 : (Cond.instanceMethod ({ cls := "PatternHouseModel", name := "lost", desc := "(III)I" } : MethodName)) ∈ lw_good := z_g9 15 rfl rfl
theorem wg_2041 : (Cond.selects "PatternHouseModel" ({ cls := "PatternHouseModel", name := "lost", desc := "(III)I" } : MethodName) ({ cls := "PatternHouseModel", name := "lost", desc := "(III)I" } : MethodName)) ∈ lw_good := z_g9 16 rfl rfl
theorem wg_2042 : (Cond.code ({ cls := "PatternHouseModel", name := "lost", desc := "(III)I" } : MethodName) prog_15_method_69_code (5 : Nat) (Option.some FieldType.int)) ∈ lw_good := z_g9 17 rfl rfl
theorem wg_2043 : (Cond.methodLink "PatternHouseModel" (527 : Nat) ({ cls := "PatternHouseModel", name := "lostOf", desc := "(I)I" } : MethodName)) ∈ lw_good := z_g9 18 rfl rfl
theorem wg_2045 : (Cond.instanceMethod ({ cls := "PatternHouseModel", name := "lostOf", desc := "(I)I" } : MethodName)) ∈ lw_good := z_g9 20 rfl rfl
theorem wg_2046 : (Cond.code ({ cls := "PatternHouseModel", name := "lostOf", desc := "(I)I" } : MethodName) prog_15_method_68_code (9 : Nat) (Option.some FieldType.int)) ∈ lw_good := z_g9 21 rfl rfl
theorem wg_2047 : (Cond.methodLink "PatternHouseLaw" (134 : Nat) ({ cls := "PatternHouseModel", name := "wrong", desc := "(I)I" } : MethodName)) ∈ lw_good := z_g9 22 rfl rfl
theorem wg_2048 : (Cond.instanceMethod ({ cls := "PatternHouseModel", name := "wrong", desc := "(I)I" } : MethodName)) ∈ lw_good := z_g9 23 rfl rfl
theorem wg_2049 : (Cond.selects "PatternHouseModel" ({ cls := "PatternHouseModel", name := "wrong", desc := "(I)I" } : MethodName) ({ cls := "PatternHouseModel", name := "wrong", desc := "(I)I" } : MethodName)) ∈ lw_good := z_g9 24 rfl rfl
theorem wg_2050 : (Cond.code ({ cls := "PatternHouseModel", name := "wrong", desc := "(I)I" } : MethodName) prog_15_method_70_code (4 : Nat) (Option.some FieldType.int)) ∈ lw_good := z_g9 25 rfl rfl
theorem wg_2051 : (Cond.methodLink "PatternHouseLaw" (139 : Nat) ({ cls := "PatternHouseModel", name := "condition", desc := "(IIIIIII)I" } : MethodName)) ∈ lw_good := z_g9 26 rfl rfl
theorem wg_2052 : (Cond.instanceMethod ({ cls := "PatternHouseModel", name := "condition", desc := "(IIIIIII)I" } : MethodName)) ∈ lw_good := z_g9 27 rfl rfl
theorem wg_2053 : (Cond.selects "PatternHouseModel" ({ cls := "PatternHouseModel", name := "condition", desc := "(IIIIIII)I" } : MethodName) ({ cls := "PatternHouseModel", name := "condition", desc := "(IIIIIII)I" } : MethodName)) ∈ lw_good := z_g9 28 rfl rfl
theorem wg_2054 : (Cond.code ({ cls := "PatternHouseModel", name := "condition", desc := "(IIIIIII)I" } : MethodName) prog_15_method_71_code (9 : Nat) (Option.some FieldType.int)) ∈ lw_good := z_g9 29 rfl rfl
theorem wg_2055 : (Cond.methodLink "PatternHouseLaw" (144 : Nat) ({ cls := "PatternHouseModel", name := "free", desc := "()I" } : MethodName)) ∈ lw_good := z_g9 30 rfl rfl
theorem wg_2056 : (Cond.instanceMethod ({ cls := "PatternHouseModel", name := "free", desc := "()I" } : MethodName)) ∈ lw_good := z_g9 31 rfl rfl
theorem wg_2057 : (Cond.selects "PatternHouseModel" ({ cls := "PatternHouseModel", name := "free", desc := "()I" } : MethodName) ({ cls := "PatternHouseModel", name := "free", desc := "()I" } : MethodName)) ∈ lw_good := z_g9 32 rfl rfl
theorem wg_2058 : (Cond.code ({ cls := "PatternHouseModel", name := "free", desc := "()I" } : MethodName) prog_15_method_72_code (2 : Nat) (Option.some FieldType.int)) ∈ lw_good := z_g9 33 rfl rfl
theorem wg_2059 : (Cond.methodLink "PatternHouseLaw" (149 : Nat) ({ cls := "PatternHouseModel", name := "least", desc := "(II)J" } : MethodName)) ∈ lw_good := z_g9 34 rfl rfl
theorem wg_2060 : (Cond.instanceMethod ({ cls := "PatternHouseModel", name := "least", desc := "(II)J" } : MethodName)) ∈ lw_good := z_g9 35 rfl rfl
theorem wg_2061 : (Cond.selects "PatternHouseModel" ({ cls := "PatternHouseModel", name := "least", desc := "(II)J" } : MethodName) ({ cls := "PatternHouseModel", name := "least", desc := "(II)J" } : MethodName)) ∈ lw_good := z_g9 36 rfl rfl
theorem wg_2062 : (Cond.code ({ cls := "PatternHouseModel", name := "least", desc := "(II)J" } : MethodName) prog_15_method_77_code (5 : Nat) (Option.some FieldType.long)) ∈ lw_good := z_g9 37 rfl rfl
theorem wg_2063 : (Cond.constantLong "PatternHouseModel" (544 : Nat) (5 : Int64)) ∈ lw_good := z_g9 38 rfl rfl
theorem wg_2064 : (Cond.methodLink "PatternHouseModel" (546 : Nat) ({ cls := "PatternHouseModel", name := "findLeast", desc := "()Z" } : MethodName)) ∈ lw_good := z_g9 39 rfl rfl
theorem wg_2066 : (Cond.instanceMethod ({ cls := "PatternHouseModel", name := "findLeast", desc := "()Z" } : MethodName)) ∈ lw_good := z_g9 41 rfl rfl
theorem wg_2067 : (Cond.code ({ cls := "PatternHouseModel", name := "findLeast", desc := "()Z" } : MethodName) prog_15_method_75_code (15 : Nat) (Option.some FieldType.boolean)) ∈ lw_good := z_g9 42 rfl rfl
theorem wg_2068 : (Cond.methodLink "PatternHouseModel" (533 : Nat) ({ cls := "PatternHouseModel", name := "product", desc := "(II)J" } : MethodName)) ∈ lw_good := z_g9 43 rfl rfl
theorem wg_2070 : (Cond.instanceMethod ({ cls := "PatternHouseModel", name := "product", desc := "(II)J" } : MethodName)) ∈ lw_good := z_g9 45 rfl rfl
theorem wg_2071 : (Cond.code ({ cls := "PatternHouseModel", name := "product", desc := "(II)J" } : MethodName) prog_15_method_73_code (6 : Nat) (Option.some FieldType.long)) ∈ lw_good := z_g9 46 rfl rfl
theorem wg_2072 : (Cond.methodLink "PatternHouseModel" (541 : Nat) ({ cls := "PatternHouseModel", name := "leastOfOne", desc := "(I)V" } : MethodName)) ∈ lw_good := z_g9 47 rfl rfl
theorem wg_2074 : (Cond.instanceMethod ({ cls := "PatternHouseModel", name := "leastOfOne", desc := "(I)V" } : MethodName)) ∈ lw_good := z_g9 49 rfl rfl
theorem wg_2075 : (Cond.code ({ cls := "PatternHouseModel", name := "leastOfOne", desc := "(I)V" } : MethodName) prog_15_method_74_code (5 : Nat) (Option.none : Option FieldType)) ∈ lw_good := z_g9 50 rfl rfl
theorem wg_2076 : (Cond.methodLink "PatternHouseModel" (549 : Nat) ({ cls := "PatternHouseModel", name := "divisor", desc := "(JJ)J" } : MethodName)) ∈ lw_good := z_g9 51 rfl rfl
theorem wg_2077 : (Cond.static ({ cls := "PatternHouseModel", name := "divisor", desc := "(JJ)J" } : MethodName)) ∈ lw_good := z_g9 52 rfl rfl
theorem wg_2078 : (Cond.code ({ cls := "PatternHouseModel", name := "divisor", desc := "(JJ)J" } : MethodName) prog_15_method_76_code (10 : Nat) (Option.some FieldType.long)) ∈ lw_good := z_g9 53 rfl rfl
theorem wg_2079 : (Cond.methodLink "PatternHouseLaw" (153 : Nat) ({ cls := "PatternHouseModel", name := "cloth", desc := "(II)I" } : MethodName)) ∈ lw_good := z_g9 54 rfl rfl
theorem wg_2080 : (Cond.instanceMethod ({ cls := "PatternHouseModel", name := "cloth", desc := "(II)I" } : MethodName)) ∈ lw_good := z_g9 55 rfl rfl
theorem wg_2081 : (Cond.selects "PatternHouseModel" ({ cls := "PatternHouseModel", name := "cloth", desc := "(II)I" } : MethodName) ({ cls := "PatternHouseModel", name := "cloth", desc := "(II)I" } : MethodName)) ∈ lw_good := z_g9 56 rfl rfl
theorem wg_2082 : (Cond.code ({ cls := "PatternHouseModel", name := "cloth", desc := "(II)I" } : MethodName) prog_15_method_78_code (4 : Nat) (Option.some FieldType.int)) ∈ lw_good := z_g9 57 rfl rfl
theorem wg_2083 : (Cond.methodLink "PatternHouseLaw" (157 : Nat) ({ cls := "PatternHouseModel", name := "cells", desc := "(III)I" } : MethodName)) ∈ lw_good := z_g9 58 rfl rfl
theorem wg_2084 : (Cond.instanceMethod ({ cls := "PatternHouseModel", name := "cells", desc := "(III)I" } : MethodName)) ∈ lw_good := z_g9 59 rfl rfl
theorem wg_2085 : (Cond.selects "PatternHouseModel" ({ cls := "PatternHouseModel", name := "cells", desc := "(III)I" } : MethodName) ({ cls := "PatternHouseModel", name := "cells", desc := "(III)I" } : MethodName)) ∈ lw_good := z_g9 60 rfl rfl
theorem wg_2086 : (Cond.code ({ cls := "PatternHouseModel", name := "cells", desc := "(III)I" } : MethodName) prog_15_method_82_code (5 : Nat) (Option.some FieldType.int)) ∈ lw_good := z_g9 61 rfl rfl
theorem wg_2087 : (Cond.methodLink "PatternHouseModel" (570 : Nat) ({ cls := "PatternHouseModel", name := "findCells", desc := "(I)I" } : MethodName)) ∈ lw_good := z_g9 62 rfl rfl
theorem wg_2089 : (Cond.instanceMethod ({ cls := "PatternHouseModel", name := "findCells", desc := "(I)I" } : MethodName)) ∈ lw_good := z_g9 64 rfl rfl
theorem wg_2090 : (Cond.code ({ cls := "PatternHouseModel", name := "findCells", desc := "(I)I" } : MethodName) prog_15_method_81_code (12 : Nat) (Option.some FieldType.int)) ∈ lw_good := z_g9 65 rfl rfl
theorem wg_2091 : (Cond.methodLink "PatternHouseModel" (566 : Nat) ({ cls := "PatternHouseModel", name := "isInside", desc := "(JJ)Z" } : MethodName)) ∈ lw_good := z_g9 66 rfl rfl
theorem wg_2093 : (Cond.instanceMethod ({ cls := "PatternHouseModel", name := "isInside", desc := "(JJ)Z" } : MethodName)) ∈ lw_good := z_g9 68 rfl rfl
theorem wg_2094 : (Cond.code ({ cls := "PatternHouseModel", name := "isInside", desc := "(JJ)Z" } : MethodName) prog_15_method_80_code (9 : Nat) (Option.some FieldType.boolean)) ∈ lw_good := z_g9 69 rfl rfl
theorem wg_2095 : (Cond.methodLink "PatternHouseModel" (556 : Nat) ({ cls := "PatternHouseModel", name := "crosses", desc := "(JJJJJJ)Z" } : MethodName)) ∈ lw_good := z_g9 70 rfl rfl
theorem wg_2096 : (Cond.static ({ cls := "PatternHouseModel", name := "crosses", desc := "(JJJJJJ)Z" } : MethodName)) ∈ lw_good := z_g9 71 rfl rfl
theorem wg_2097 : (Cond.code ({ cls := "PatternHouseModel", name := "crosses", desc := "(JJJJJJ)Z" } : MethodName) prog_15_method_79_code (14 : Nat) (Option.some FieldType.boolean)) ∈ lw_good := z_g9 72 rfl rfl
theorem wg_2098 : (Cond.methodLink "PatternHouseLaw" (161 : Nat) ({ cls := "PatternHouseModel", name := "lays", desc := "(II)I" } : MethodName)) ∈ lw_good := z_g9 73 rfl rfl
theorem wg_2099 : (Cond.instanceMethod ({ cls := "PatternHouseModel", name := "lays", desc := "(II)I" } : MethodName)) ∈ lw_good := z_g9 74 rfl rfl
theorem wg_2100 : (Cond.selects "PatternHouseModel" ({ cls := "PatternHouseModel", name := "lays", desc := "(II)I" } : MethodName) ({ cls := "PatternHouseModel", name := "lays", desc := "(II)I" } : MethodName)) ∈ lw_good := z_g9 75 rfl rfl
theorem wg_2101 : (Cond.code ({ cls := "PatternHouseModel", name := "lays", desc := "(II)I" } : MethodName) prog_15_method_83_code (3 : Nat) (Option.some FieldType.int)) ∈ lw_good := z_g9 76 rfl rfl
theorem wg_2102 : (Cond.methodLink "PatternHouseLaw" (165 : Nat) ({ cls := "PatternHouseModel", name := "clear", desc := "()I" } : MethodName)) ∈ lw_good := z_g9 77 rfl rfl
theorem wg_2103 : (Cond.instanceMethod ({ cls := "PatternHouseModel", name := "clear", desc := "()I" } : MethodName)) ∈ lw_good := z_g9 78 rfl rfl
theorem wg_2104 : (Cond.selects "PatternHouseModel" ({ cls := "PatternHouseModel", name := "clear", desc := "()I" } : MethodName) ({ cls := "PatternHouseModel", name := "clear", desc := "()I" } : MethodName)) ∈ lw_good := z_g9 79 rfl rfl
theorem wg_2105 : (Cond.code ({ cls := "PatternHouseModel", name := "clear", desc := "()I" } : MethodName) prog_15_method_84_code (2 : Nat) (Option.some FieldType.int)) ∈ lw_good := z_g9 80 rfl rfl
theorem wg_2106 : (Cond.methodLink "PatternHouseLaw" (169 : Nat) ({ cls := "PatternHouseModel", name := "shortest", desc := "(I)I" } : MethodName)) ∈ lw_good := z_g9 81 rfl rfl
theorem wg_2107 : (Cond.instanceMethod ({ cls := "PatternHouseModel", name := "shortest", desc := "(I)I" } : MethodName)) ∈ lw_good := z_g9 82 rfl rfl
theorem wg_2108 : (Cond.selects "PatternHouseModel" ({ cls := "PatternHouseModel", name := "shortest", desc := "(I)I" } : MethodName) ({ cls := "PatternHouseModel", name := "shortest", desc := "(I)I" } : MethodName)) ∈ lw_good := z_g9 83 rfl rfl
theorem wg_2109 : (Cond.code ({ cls := "PatternHouseModel", name := "shortest", desc := "(I)I" } : MethodName) prog_15_method_97_code (5 : Nat) (Option.some FieldType.int)) ∈ lw_good := z_g9 84 rfl rfl
theorem wg_2110 : (Cond.methodLink "PatternHouseModel" (610 : Nat) ({ cls := "PatternHouseModel", name := "shortestOr", desc := "()I" } : MethodName)) ∈ lw_good := z_g9 85 rfl rfl
theorem wg_2112 : (Cond.instanceMethod ({ cls := "PatternHouseModel", name := "shortestOr", desc := "()I" } : MethodName)) ∈ lw_good := z_g9 87 rfl rfl
theorem wg_2113 : (Cond.code ({ cls := "PatternHouseModel", name := "shortestOr", desc := "()I" } : MethodName) prog_15_method_96_code (2 : Nat) (Option.some FieldType.int)) ∈ lw_good := z_g9 88 rfl rfl
theorem wg_2114 : (Cond.methodLink "PatternHouseModel" (604 : Nat) ({ cls := "PatternHouseModel", name := "findMarker", desc := "()Z" } : MethodName)) ∈ lw_good := z_g9 89 rfl rfl
theorem wg_2116 : (Cond.instanceMethod ({ cls := "PatternHouseModel", name := "findMarker", desc := "()Z" } : MethodName)) ∈ lw_good := z_g9 91 rfl rfl
theorem wg_2117 : (Cond.code ({ cls := "PatternHouseModel", name := "findMarker", desc := "()Z" } : MethodName) prog_15_method_85_code (4 : Nat) (Option.some FieldType.boolean)) ∈ lw_good := z_g9 92 rfl rfl
theorem wg_2118 : (Cond.methodLink "PatternHouseModel" (607 : Nat) ({ cls := "PatternHouseModel", name := "findShortest", desc := "()I" } : MethodName)) ∈ lw_good := z_g9 93 rfl rfl
theorem wg_2120 : (Cond.instanceMethod ({ cls := "PatternHouseModel", name := "findShortest", desc := "()I" } : MethodName)) ∈ lw_good := z_g9 95 rfl rfl
theorem wg_2121 : (Cond.code ({ cls := "PatternHouseModel", name := "findShortest", desc := "()I" } : MethodName) prog_15_method_95_code (5 : Nat) (Option.some FieldType.int)) ∈ lw_good := z_g9 96 rfl rfl
theorem wg_2122 : (Cond.methodLink "PatternHouseModel" (586 : Nat) ({ cls := "PatternHouseModel", name := "findTurned", desc := "()V" } : MethodName)) ∈ lw_good := z_g9 97 rfl rfl
theorem wg_2124 : (Cond.instanceMethod ({ cls := "PatternHouseModel", name := "findTurned", desc := "()V" } : MethodName)) ∈ lw_good := z_g9 99 rfl rfl
theorem wg_2125 : (Cond.code ({ cls := "PatternHouseModel", name := "findTurned", desc := "()V" } : MethodName) prog_15_method_87_code (3 : Nat) (Option.none : Option FieldType)) ∈ lw_good := z_g9 100 rfl rfl
theorem wg_2126 : (Cond.methodLink "PatternHouseModel" (576 : Nat) ({ cls := "PatternHouseModel", name := "turnedOver", desc := "(II)I" } : MethodName)) ∈ lw_good := z_g9 101 rfl rfl
theorem wg_2127 : (Cond.static ({ cls := "PatternHouseModel", name := "turnedOver", desc := "(II)I" } : MethodName)) ∈ lw_good := z_g9 102 rfl rfl
theorem wg_2128 : (Cond.code ({ cls := "PatternHouseModel", name := "turnedOver", desc := "(II)I" } : MethodName) prog_15_method_86_code (4 : Nat) (Option.some FieldType.int)) ∈ lw_good := z_g9 103 rfl rfl
theorem wg_2129 : (Cond.methodLink "PatternHouseModel" (589 : Nat) ({ cls := "PatternHouseModel", name := "ways", desc := "(I)I" } : MethodName)) ∈ lw_good := z_g9 104 rfl rfl
theorem wg_2130 : (Cond.static ({ cls := "PatternHouseModel", name := "ways", desc := "(I)I" } : MethodName)) ∈ lw_good := z_g9 105 rfl rfl
theorem wg_2131 : (Cond.code ({ cls := "PatternHouseModel", name := "ways", desc := "(I)I" } : MethodName) prog_15_method_94_code (1 : Nat) (Option.some FieldType.int)) ∈ lw_good := z_g9 106 rfl rfl
theorem wg_2132 : (Cond.methodLink "PatternHouseModel" (592 : Nat) ({ cls := "PatternHouseModel", name := "findOrder", desc := "(I)V" } : MethodName)) ∈ lw_good := z_g9 107 rfl rfl
theorem wg_2134 : (Cond.instanceMethod ({ cls := "PatternHouseModel", name := "findOrder", desc := "(I)V" } : MethodName)) ∈ lw_good := z_g9 109 rfl rfl
theorem wg_2135 : (Cond.code ({ cls := "PatternHouseModel", name := "findOrder", desc := "(I)V" } : MethodName) prog_15_method_93_code (8 : Nat) (Option.none : Option FieldType)) ∈ lw_good := z_g9 110 rfl rfl
theorem wg_2136 : (Cond.methodLink "PatternHouseModel" (595 : Nat) ({ cls := "PatternHouseModel", name := "clearCloth", desc := "()V" } : MethodName)) ∈ lw_good := z_g9 111 rfl rfl
theorem wg_2138 : (Cond.instanceMethod ({ cls := "PatternHouseModel", name := "clearCloth", desc := "()V" } : MethodName)) ∈ lw_good := z_g9 113 rfl rfl
theorem wg_2139 : (Cond.code ({ cls := "PatternHouseModel", name := "clearCloth", desc := "()V" } : MethodName) prog_15_method_91_code (2 : Nat) (Option.none : Option FieldType)) ∈ lw_good := z_g9 114 rfl rfl
theorem wg_2140 : (Cond.methodLink "PatternHouseModel" (598 : Nat) ({ cls := "PatternHouseModel", name := "layFirst", desc := "(I)Z" } : MethodName)) ∈ lw_good := z_g9 115 rfl rfl
theorem wg_2142 : (Cond.instanceMethod ({ cls := "PatternHouseModel", name := "layFirst", desc := "(I)Z" } : MethodName)) ∈ lw_good := z_g9 117 rfl rfl
theorem wg_2143 : (Cond.code ({ cls := "PatternHouseModel", name := "layFirst", desc := "(I)Z" } : MethodName) prog_15_method_90_code (5 : Nat) (Option.some FieldType.boolean)) ∈ lw_good := z_g9 118 rfl rfl
theorem wg_2144 : (Cond.methodLink "PatternHouseModel" (579 : Nat) ({ cls := "PatternHouseModel", name := "canLie", desc := "(IIII)Z" } : MethodName)) ∈ lw_good := z_g9 119 rfl rfl
theorem wg_2146 : (Cond.instanceMethod ({ cls := "PatternHouseModel", name := "canLie", desc := "(IIII)Z" } : MethodName)) ∈ lw_good := z_g9 121 rfl rfl
theorem wg_2147 : (Cond.code ({ cls := "PatternHouseModel", name := "canLie", desc := "(IIII)Z" } : MethodName) prog_15_method_88_code (6 : Nat) (Option.some FieldType.boolean)) ∈ lw_good := z_g9 122 rfl rfl
theorem wg_2148 : (Cond.methodLink "PatternHouseModel" (582 : Nat) ({ cls := "PatternHouseModel", name := "lie", desc := "(IIII)V" } : MethodName)) ∈ lw_good := z_g9 123 rfl rfl
theorem wg_2150 : (Cond.instanceMethod ({ cls := "PatternHouseModel", name := "lie", desc := "(IIII)V" } : MethodName)) ∈ lw_good := z_g9 125 rfl rfl
theorem wg_2151 : (Cond.code ({ cls := "PatternHouseModel", name := "lie", desc := "(IIII)V" } : MethodName) prog_15_method_89_code (6 : Nat) (Option.none : Option FieldType)) ∈ lw_good := z_g9 126 rfl rfl
theorem wg_2152 : (Cond.methodLink "PatternHouseModel" (601 : Nat) ({ cls := "PatternHouseModel", name := "longOf", desc := "()I" } : MethodName)) ∈ lw_good := z_g9 127 rfl rfl
theorem wg_2154 : (Cond.instanceMethod ({ cls := "PatternHouseModel", name := "longOf", desc := "()I" } : MethodName)) ∈ lw_good := z_g9 129 rfl rfl
theorem wg_2155 : (Cond.code ({ cls := "PatternHouseModel", name := "longOf", desc := "()I" } : MethodName) prog_15_method_92_code (3 : Nat) (Option.some FieldType.int)) ∈ lw_good := z_g9 130 rfl rfl
theorem wg_2156 : (Cond.methodLink "PatternHouseLaw" (173 : Nat) ({ cls := "PatternHouseModel", name := "place", desc := "(II)I" } : MethodName)) ∈ lw_good := z_g9 131 rfl rfl
theorem wg_2157 : (Cond.instanceMethod ({ cls := "PatternHouseModel", name := "place", desc := "(II)I" } : MethodName)) ∈ lw_good := z_g9 132 rfl rfl
theorem wg_2158 : (Cond.selects "PatternHouseModel" ({ cls := "PatternHouseModel", name := "place", desc := "(II)I" } : MethodName) ({ cls := "PatternHouseModel", name := "place", desc := "(II)I" } : MethodName)) ∈ lw_good := z_g9 133 rfl rfl
theorem wg_2159 : (Cond.code ({ cls := "PatternHouseModel", name := "place", desc := "(II)I" } : MethodName) prog_15_method_98_code (4 : Nat) (Option.some FieldType.int)) ∈ lw_good := z_g9 134 rfl rfl
theorem wg_2160 : (Cond.methodLink "PatternHouseLaw" (177 : Nat) ({ cls := "PatternHouseModel", name := "put", desc := "(I)I" } : MethodName)) ∈ lw_good := z_g9 135 rfl rfl
theorem wg_2161 : (Cond.instanceMethod ({ cls := "PatternHouseModel", name := "put", desc := "(I)I" } : MethodName)) ∈ lw_good := z_g9 136 rfl rfl
theorem wg_2162 : (Cond.selects "PatternHouseModel" ({ cls := "PatternHouseModel", name := "put", desc := "(I)I" } : MethodName) ({ cls := "PatternHouseModel", name := "put", desc := "(I)I" } : MethodName)) ∈ lw_good := z_g9 137 rfl rfl
theorem wg_2163 : (Cond.code ({ cls := "PatternHouseModel", name := "put", desc := "(I)I" } : MethodName) prog_15_method_99_code (2 : Nat) (Option.some FieldType.int)) ∈ lw_good := z_g9 138 rfl rfl
theorem wg_2164 : (Cond.methodLink "PatternHouseLaw" (181 : Nat) ({ cls := "PatternHouseModel", name := "judge", desc := "()I" } : MethodName)) ∈ lw_good := z_g9 139 rfl rfl
theorem wg_2165 : (Cond.instanceMethod ({ cls := "PatternHouseModel", name := "judge", desc := "()I" } : MethodName)) ∈ lw_good := z_g9 140 rfl rfl
theorem wg_2166 : (Cond.selects "PatternHouseModel" ({ cls := "PatternHouseModel", name := "judge", desc := "()I" } : MethodName) ({ cls := "PatternHouseModel", name := "judge", desc := "()I" } : MethodName)) ∈ lw_good := z_g9 141 rfl rfl
theorem wg_2167 : (Cond.code ({ cls := "PatternHouseModel", name := "judge", desc := "()I" } : MethodName) prog_15_method_100_code (2 : Nat) (Option.some FieldType.int)) ∈ lw_good := z_g9 142 rfl rfl
theorem wg_2168 : (Cond.methodLink "PatternHouseLaw" (186 : Nat) ({ cls := "PatternHouseModel", name := "cut", desc := "(IIZ)I" } : MethodName)) ∈ lw_good := z_g9 143 rfl rfl
theorem wg_2169 : (Cond.instanceMethod ({ cls := "PatternHouseModel", name := "cut", desc := "(IIZ)I" } : MethodName)) ∈ lw_good := z_g9 144 rfl rfl
theorem wg_2170 : (Cond.selects "PatternHouseModel" ({ cls := "PatternHouseModel", name := "cut", desc := "(IIZ)I" } : MethodName) ({ cls := "PatternHouseModel", name := "cut", desc := "(IIZ)I" } : MethodName)) ∈ lw_good := z_g9 145 rfl rfl
theorem wg_2171 : (Cond.code ({ cls := "PatternHouseModel", name := "cut", desc := "(IIZ)I" } : MethodName) prog_15_method_101_code (7 : Nat) (Option.some FieldType.int)) ∈ lw_good := z_g9 146 rfl rfl
theorem wg_2172 : (Cond.constant "PatternHouseModel" (616 : Nat) (-99999 : Int32)) ∈ lw_good := z_g9 147 rfl rfl
theorem wg_2173 : (Cond.constantLong "PatternHouseModel" (617 : Nat) (100 : Int64)) ∈ lw_good := z_g9 148 rfl rfl
theorem wg_2174 : (Cond.methodLink "PatternHouseLaw" (191 : Nat) ({ cls := "PatternHouseModel", name := "trial", desc := "(IIIIII)I" } : MethodName)) ∈ lw_good := z_g9 149 rfl rfl
theorem wg_2175 : (Cond.instanceMethod ({ cls := "PatternHouseModel", name := "trial", desc := "(IIIIII)I" } : MethodName)) ∈ lw_good := z_g9 150 rfl rfl
theorem wg_2176 : (Cond.selects "PatternHouseModel" ({ cls := "PatternHouseModel", name := "trial", desc := "(IIIIII)I" } : MethodName) ({ cls := "PatternHouseModel", name := "trial", desc := "(IIIIII)I" } : MethodName)) ∈ lw_good := z_g9 151 rfl rfl
theorem wg_2177 : (Cond.code ({ cls := "PatternHouseModel", name := "trial", desc := "(IIIIII)I" } : MethodName) prog_15_method_102_code (7 : Nat) (Option.some FieldType.int)) ∈ lw_good := z_g9 152 rfl rfl
theorem wg_2178 : (Cond.methodLink "PatternHouseLaw" (195 : Nat) ({ cls := "PatternHouseModel", name := "said", desc := "(IIIII)I" } : MethodName)) ∈ lw_good := z_g9 153 rfl rfl
theorem wg_2179 : (Cond.instanceMethod ({ cls := "PatternHouseModel", name := "said", desc := "(IIIII)I" } : MethodName)) ∈ lw_good := z_g9 154 rfl rfl
theorem wg_2180 : (Cond.selects "PatternHouseModel" ({ cls := "PatternHouseModel", name := "said", desc := "(IIIII)I" } : MethodName) ({ cls := "PatternHouseModel", name := "said", desc := "(IIIII)I" } : MethodName)) ∈ lw_good := z_g9 155 rfl rfl
theorem wg_2181 : (Cond.code ({ cls := "PatternHouseModel", name := "said", desc := "(IIIII)I" } : MethodName) prog_15_method_103_code (10 : Nat) (Option.some FieldType.int)) ∈ lw_good := z_g9 156 rfl rfl
theorem wg_2182 : (Cond.methodLink "PatternHouseLaw" (199 : Nat) ({ cls := "PatternHouseModel", name := "edition", desc := "()I" } : MethodName)) ∈ lw_good := z_g9 157 rfl rfl
theorem wg_2183 : (Cond.instanceMethod ({ cls := "PatternHouseModel", name := "edition", desc := "()I" } : MethodName)) ∈ lw_good := z_g9 158 rfl rfl
theorem wg_2184 : (Cond.selects "PatternHouseModel" ({ cls := "PatternHouseModel", name := "edition", desc := "()I" } : MethodName) ({ cls := "PatternHouseModel", name := "edition", desc := "()I" } : MethodName)) ∈ lw_good := z_g9 159 rfl rfl
theorem wg_2185 : (Cond.code ({ cls := "PatternHouseModel", name := "edition", desc := "()I" } : MethodName) prog_15_method_104_code (1 : Nat) (Option.some FieldType.int)) ∈ lw_good := z_g9 160 rfl rfl
theorem wg_2186 : (Cond.methodLink "PatternHouseLaw" (203 : Nat) ({ cls := "PatternHouseModel", name := "holds", desc := "(II)I" } : MethodName)) ∈ lw_good := z_g9 161 rfl rfl
theorem wg_2187 : (Cond.instanceMethod ({ cls := "PatternHouseModel", name := "holds", desc := "(II)I" } : MethodName)) ∈ lw_good := z_g9 162 rfl rfl
theorem wg_2188 : (Cond.selects "PatternHouseModel" ({ cls := "PatternHouseModel", name := "holds", desc := "(II)I" } : MethodName) ({ cls := "PatternHouseModel", name := "holds", desc := "(II)I" } : MethodName)) ∈ lw_good := z_g9 163 rfl rfl
theorem wg_2189 : (Cond.code ({ cls := "PatternHouseModel", name := "holds", desc := "(II)I" } : MethodName) prog_15_method_105_code (5 : Nat) (Option.some FieldType.int)) ∈ lw_good := z_g9 164 rfl rfl
theorem wg_2190 : (Cond.methodLink "PatternHouseLaw" (207 : Nat) ({ cls := "PatternHouseModel", name := "word", desc := "(IIII)I" } : MethodName)) ∈ lw_good := z_g9 165 rfl rfl
theorem wg_2191 : (Cond.instanceMethod ({ cls := "PatternHouseModel", name := "word", desc := "(IIII)I" } : MethodName)) ∈ lw_good := z_g9 166 rfl rfl
theorem wg_2192 : (Cond.selects "PatternHouseModel" ({ cls := "PatternHouseModel", name := "word", desc := "(IIII)I" } : MethodName) ({ cls := "PatternHouseModel", name := "word", desc := "(IIII)I" } : MethodName)) ∈ lw_good := z_g9 167 rfl rfl
theorem wg_2193 : (Cond.code ({ cls := "PatternHouseModel", name := "word", desc := "(IIII)I" } : MethodName) prog_15_method_107_code (6 : Nat) (Option.some FieldType.int)) ∈ lw_good := z_g9 168 rfl rfl
theorem wg_2194 : (Cond.methodLink "PatternHouseModel" (625 : Nat) ({ cls := "PatternHouseModel", name := "isEdition", desc := "(I)Z" } : MethodName)) ∈ lw_good := z_g9 169 rfl rfl
theorem wg_2196 : (Cond.instanceMethod ({ cls := "PatternHouseModel", name := "isEdition", desc := "(I)Z" } : MethodName)) ∈ lw_good := z_g9 171 rfl rfl
theorem wg_2197 : (Cond.code ({ cls := "PatternHouseModel", name := "isEdition", desc := "(I)Z" } : MethodName) prog_15_method_106_code (2 : Nat) (Option.some FieldType.boolean)) ∈ lw_good := z_g9 172 rfl rfl
theorem wg_2198 : (Cond.methodLink "PatternHouseLaw" (211 : Nat) ({ cls := "PatternHouseModel", name := "firstWrong", desc := "(I)I" } : MethodName)) ∈ lw_good := z_g9 173 rfl rfl
theorem wg_2199 : (Cond.instanceMethod ({ cls := "PatternHouseModel", name := "firstWrong", desc := "(I)I" } : MethodName)) ∈ lw_good := z_g9 174 rfl rfl
theorem wg_2200 : (Cond.selects "PatternHouseModel" ({ cls := "PatternHouseModel", name := "firstWrong", desc := "(I)I" } : MethodName) ({ cls := "PatternHouseModel", name := "firstWrong", desc := "(I)I" } : MethodName)) ∈ lw_good := z_g9 175 rfl rfl
theorem wg_2201 : (Cond.code ({ cls := "PatternHouseModel", name := "firstWrong", desc := "(I)I" } : MethodName) prog_15_method_109_code (3 : Nat) (Option.some FieldType.int)) ∈ lw_good := z_g9 176 rfl rfl
theorem wg_2202 : (Cond.methodLink "PatternHouseModel" (628 : Nat) ({ cls := "PatternHouseModel", name := "agrees", desc := "(II)Z" } : MethodName)) ∈ lw_good := z_g9 177 rfl rfl
theorem wg_2204 : (Cond.instanceMethod ({ cls := "PatternHouseModel", name := "agrees", desc := "(II)Z" } : MethodName)) ∈ lw_good := z_g9 179 rfl rfl
theorem wg_2205 : (Cond.code ({ cls := "PatternHouseModel", name := "agrees", desc := "(II)Z" } : MethodName) prog_15_method_108_code (6 : Nat) (Option.some FieldType.boolean)) ∈ lw_good := z_g9 180 rfl rfl
theorem wg_2206 : (Cond.methodLink "PatternHouseLaw" (215 : Nat) ({ cls := "PatternHouseModel", name := "fault", desc := "(I)I" } : MethodName)) ∈ lw_good := z_g9 181 rfl rfl
theorem wg_2207 : (Cond.instanceMethod ({ cls := "PatternHouseModel", name := "fault", desc := "(I)I" } : MethodName)) ∈ lw_good := z_g9 182 rfl rfl
theorem wg_2208 : (Cond.selects "PatternHouseModel" ({ cls := "PatternHouseModel", name := "fault", desc := "(I)I" } : MethodName) ({ cls := "PatternHouseModel", name := "fault", desc := "(I)I" } : MethodName)) ∈ lw_good := z_g9 183 rfl rfl
theorem wg_2209 : (Cond.code ({ cls := "PatternHouseModel", name := "fault", desc := "(I)I" } : MethodName) prog_15_method_110_code (6 : Nat) (Option.some FieldType.int)) ∈ lw_good := z_g9 184 rfl rfl
theorem wg_2210 : (Cond.methodLink "PatternHouseLaw" (219 : Nat) ({ cls := "PatternHouseModel", name := "order", desc := "(II)I" } : MethodName)) ∈ lw_good := z_g9 185 rfl rfl
theorem wg_2211 : (Cond.instanceMethod ({ cls := "PatternHouseModel", name := "order", desc := "(II)I" } : MethodName)) ∈ lw_good := z_g9 186 rfl rfl
theorem wg_2212 : (Cond.selects "PatternHouseModel" ({ cls := "PatternHouseModel", name := "order", desc := "(II)I" } : MethodName) ({ cls := "PatternHouseModel", name := "order", desc := "(II)I" } : MethodName)) ∈ lw_good := z_g9 187 rfl rfl
theorem wg_2213 : (Cond.code ({ cls := "PatternHouseModel", name := "order", desc := "(II)I" } : MethodName) prog_15_method_111_code (4 : Nat) (Option.some FieldType.int)) ∈ lw_good := z_g9 188 rfl rfl
theorem wg_2214 : (Cond.constantLong "PatternHouseModel" (631 : Nat) (4 : Int64)) ∈ lw_good := z_g9 189 rfl rfl
theorem wg_2215 : (Cond.methodLink "PatternHouseLaw" (223 : Nat) ({ cls := "PatternHouseModel", name := "marker", desc := "(II)I" } : MethodName)) ∈ lw_good := z_g9 190 rfl rfl
theorem wg_2216 : (Cond.instanceMethod ({ cls := "PatternHouseModel", name := "marker", desc := "(II)I" } : MethodName)) ∈ lw_good := z_g9 191 rfl rfl
theorem wg_2217 : (Cond.selects "PatternHouseModel" ({ cls := "PatternHouseModel", name := "marker", desc := "(II)I" } : MethodName) ({ cls := "PatternHouseModel", name := "marker", desc := "(II)I" } : MethodName)) ∈ lw_good := z_g9 192 rfl rfl
theorem wg_2218 : (Cond.code ({ cls := "PatternHouseModel", name := "marker", desc := "(II)I" } : MethodName) prog_15_method_112_code (3 : Nat) (Option.some FieldType.int)) ∈ lw_good := z_g9 193 rfl rfl
theorem wg_2219 : (Cond.methodLink "PatternHouseLaw" (227 : Nat) ({ cls := "PatternHouseModel", name := "season", desc := "()I" } : MethodName)) ∈ lw_good := z_g9 194 rfl rfl
theorem wg_2220 : (Cond.instanceMethod ({ cls := "PatternHouseModel", name := "season", desc := "()I" } : MethodName)) ∈ lw_good := z_g9 195 rfl rfl
theorem wg_2221 : (Cond.selects "PatternHouseModel" ({ cls := "PatternHouseModel", name := "season", desc := "()I" } : MethodName) ({ cls := "PatternHouseModel", name := "season", desc := "()I" } : MethodName)) ∈ lw_good := z_g9 196 rfl rfl
theorem wg_2222 : (Cond.code ({ cls := "PatternHouseModel", name := "season", desc := "()I" } : MethodName) prog_15_method_115_code (2 : Nat) (Option.some FieldType.int)) ∈ lw_good := z_g9 197 rfl rfl
theorem wg_2223 : (Cond.methodLink "PatternHouseModel" (639 : Nat) ({ cls := "PatternHouseModel", name := "findSeason", desc := "()I" } : MethodName)) ∈ lw_good := z_g9 198 rfl rfl
theorem wg_2225 : (Cond.instanceMethod ({ cls := "PatternHouseModel", name := "findSeason", desc := "()I" } : MethodName)) ∈ lw_good := z_g9 200 rfl rfl
theorem wg_2226 : (Cond.code ({ cls := "PatternHouseModel", name := "findSeason", desc := "()I" } : MethodName) prog_15_method_114_code (6 : Nat) (Option.some FieldType.int)) ∈ lw_good := z_g9 201 rfl rfl
theorem wg_2227 : (Cond.methodLink "PatternHouseModel" (636 : Nat) ({ cls := "PatternHouseModel", name := "allMet", desc := "()Z" } : MethodName)) ∈ lw_good := z_g9 202 rfl rfl
theorem wg_2229 : (Cond.instanceMethod ({ cls := "PatternHouseModel", name := "allMet", desc := "()Z" } : MethodName)) ∈ lw_good := z_g9 204 rfl rfl
theorem wg_2230 : (Cond.code ({ cls := "PatternHouseModel", name := "allMet", desc := "()Z" } : MethodName) prog_15_method_113_code (5 : Nat) (Option.some FieldType.boolean)) ∈ lw_good := z_g9 205 rfl rfl
theorem wg_2231 : (Cond.methodLink "PatternHouseLaw" (231 : Nat) ({ cls := "PatternHouseModel", name := "often", desc := "(I)I" } : MethodName)) ∈ lw_good := z_g9 206 rfl rfl
theorem wg_2232 : (Cond.instanceMethod ({ cls := "PatternHouseModel", name := "often", desc := "(I)I" } : MethodName)) ∈ lw_good := z_g9 207 rfl rfl
theorem wg_2233 : (Cond.selects "PatternHouseModel" ({ cls := "PatternHouseModel", name := "often", desc := "(I)I" } : MethodName) ({ cls := "PatternHouseModel", name := "often", desc := "(I)I" } : MethodName)) ∈ lw_good := z_g9 208 rfl rfl
theorem wg_2234 : (Cond.code ({ cls := "PatternHouseModel", name := "often", desc := "(I)I" } : MethodName) prog_15_method_116_code (2 : Nat) (Option.some FieldType.int)) ∈ lw_good := z_g9 209 rfl rfl
theorem wg_2235 : (Cond.methodLink "PatternHouseLaw" (235 : Nat) ({ cls := "PatternHouseModel", name := "count", desc := "(I)I" } : MethodName)) ∈ lw_good := z_g9 210 rfl rfl
theorem wg_2236 : (Cond.instanceMethod ({ cls := "PatternHouseModel", name := "count", desc := "(I)I" } : MethodName)) ∈ lw_good := z_g9 211 rfl rfl
theorem wg_2237 : (Cond.selects "PatternHouseModel" ({ cls := "PatternHouseModel", name := "count", desc := "(I)I" } : MethodName) ({ cls := "PatternHouseModel", name := "count", desc := "(I)I" } : MethodName)) ∈ lw_good := z_g9 212 rfl rfl
theorem wg_2238 : (Cond.code ({ cls := "PatternHouseModel", name := "count", desc := "(I)I" } : MethodName) prog_15_method_117_code (2 : Nat) (Option.some FieldType.int)) ∈ lw_good := z_g9 213 rfl rfl
theorem wg_2239 : (Cond.constantLong "PatternHouseModel" (642 : Nat) (11 : Int64)) ∈ lw_good := z_g9 214 rfl rfl
theorem wg_2240 : (Cond.constantLong "PatternHouseModel" (644 : Nat) (17 : Int64)) ∈ lw_good := z_g9 215 rfl rfl
theorem wg_2241 : (Cond.constantLong "PatternHouseLaw" (48 : Nat) (4294967295 : Int64)) ∈ lw_good := z_g9 216 rfl rfl
theorem z_lay0 : ∀ w ∈ u_ws RX0 TX0 10, w ∈ lw_good := by
  intro w hw
  obtain ⟨k, hk, rfl⟩ := List.mem_map.mp hw
  have hk := List.mem_range.mp hk
  match k, hk with
  | 0, _ => exact wg_526
  | 1, _ => exact wg_528
  | 2, _ => exact wg_530
  | 3, _ => exact wg_532
  | 4, _ => exact wg_534
  | 5, _ => exact wg_536
  | 6, _ => exact wg_538
  | 7, _ => exact wg_540
  | 8, _ => exact wg_542
  | 9, _ => exact wg_544
theorem z_lay1 : ∀ w ∈ u_ws RX1 TX1 5, w ∈ lw_good := by
  intro w hw
  obtain ⟨k, hk, rfl⟩ := List.mem_map.mp hw
  have hk := List.mem_range.mp hk
  match k, hk with
  | 0, _ => exact wg_249
  | 1, _ => exact wg_251
  | 2, _ => exact wg_253
  | 3, _ => exact wg_255
  | 4, _ => exact wg_257
theorem z_lay2 : ∀ w ∈ u_ws RX2 TX2 16, w ∈ lw_good := by
  intro w hw
  obtain ⟨k, hk, rfl⟩ := List.mem_map.mp hw
  have hk := List.mem_range.mp hk
  match k, hk with
  | 0, _ => exact wg_199
  | 1, _ => exact wg_201
  | 2, _ => exact wg_203
  | 3, _ => exact wg_205
  | 4, _ => exact wg_207
  | 5, _ => exact wg_209
  | 6, _ => exact wg_211
  | 7, _ => exact wg_213
  | 8, _ => exact wg_215
  | 9, _ => exact wg_217
  | 10, _ => exact wg_219
  | 11, _ => exact wg_221
  | 12, _ => exact wg_223
  | 13, _ => exact wg_225
  | 14, _ => exact wg_227
  | 15, _ => exact wg_229
  | k + 16, h => exact absurd h (by omega)
theorem z_lay3 : ∀ w ∈ u_ws RX3 TX3 8, w ∈ lw_good := by
  intro w hw
  obtain ⟨k, hk, rfl⟩ := List.mem_map.mp hw
  have hk := List.mem_range.mp hk
  match k, hk with
  | 0, _ => exact wg_1275
  | 1, _ => exact wg_1277
  | 2, _ => exact wg_1279
  | 3, _ => exact wg_1281
  | 4, _ => exact wg_1283
  | 5, _ => exact wg_1285
  | 6, _ => exact wg_1287
  | 7, _ => exact wg_1289
theorem z_lay4 : ∀ w ∈ u_ws RX4 TX4 13, w ∈ lw_good := by
  intro w hw
  obtain ⟨k, hk, rfl⟩ := List.mem_map.mp hw
  have hk := List.mem_range.mp hk
  match k, hk with
  | 0, _ => exact wg_331
  | 1, _ => exact wg_333
  | 2, _ => exact wg_335
  | 3, _ => exact wg_337
  | 4, _ => exact wg_339
  | 5, _ => exact wg_341
  | 6, _ => exact wg_343
  | 7, _ => exact wg_345
  | 8, _ => exact wg_347
  | 9, _ => exact wg_349
  | 10, _ => exact wg_351
  | 11, _ => exact wg_353
  | 12, _ => exact wg_355
theorem z_lay5 : ∀ w ∈ u_ws RX5 TX5 11, w ∈ lw_good := by
  intro w hw
  obtain ⟨k, hk, rfl⟩ := List.mem_map.mp hw
  have hk := List.mem_range.mp hk
  match k, hk with
  | 0, _ => exact wg_615
  | 1, _ => exact wg_617
  | 2, _ => exact wg_619
  | 3, _ => exact wg_621
  | 4, _ => exact wg_623
  | 5, _ => exact wg_625
  | 6, _ => exact wg_627
  | 7, _ => exact wg_629
  | 8, _ => exact wg_631
  | 9, _ => exact wg_633
  | 10, _ => exact wg_635
theorem z_lay6 : ∀ w ∈ u_ws RX6 TX6 4, w ∈ lw_good := by
  intro w hw
  obtain ⟨k, hk, rfl⟩ := List.mem_map.mp hw
  have hk := List.mem_range.mp hk
  match k, hk with
  | 0, _ => exact wg_745
  | 1, _ => exact wg_747
  | 2, _ => exact wg_749
  | 3, _ => exact wg_751
theorem z_lay7 : ∀ w ∈ u_ws RX7 TX7 8, w ∈ lw_good := by
  intro w hw
  obtain ⟨k, hk, rfl⟩ := List.mem_map.mp hw
  have hk := List.mem_range.mp hk
  match k, hk with
  | 0, _ => exact wg_154
  | 1, _ => exact wg_156
  | 2, _ => exact wg_158
  | 3, _ => exact wg_160
  | 4, _ => exact wg_162
  | 5, _ => exact wg_164
  | 6, _ => exact wg_166
  | 7, _ => exact wg_168
theorem z_lay8 : ∀ w ∈ u_ws RX8 TX8 14, w ∈ lw_good := by
  intro w hw
  obtain ⟨k, hk, rfl⟩ := List.mem_map.mp hw
  have hk := List.mem_range.mp hk
  match k, hk with
  | 0, _ => exact wg_958
  | 1, _ => exact wg_960
  | 2, _ => exact wg_962
  | 3, _ => exact wg_964
  | 4, _ => exact wg_966
  | 5, _ => exact wg_968
  | 6, _ => exact wg_970
  | 7, _ => exact wg_972
  | 8, _ => exact wg_974
  | 9, _ => exact wg_976
  | 10, _ => exact wg_978
  | 11, _ => exact wg_980
  | 12, _ => exact wg_982
  | 13, _ => exact wg_984
theorem z_lay9 : ∀ w ∈ u_ws RX9 TX9 8, w ∈ lw_good := by
  intro w hw
  obtain ⟨k, hk, rfl⟩ := List.mem_map.mp hw
  have hk := List.mem_range.mp hk
  match k, hk with
  | 0, _ => exact wg_380
  | 1, _ => exact wg_382
  | 2, _ => exact wg_384
  | 3, _ => exact wg_386
  | 4, _ => exact wg_388
  | 5, _ => exact wg_390
  | 6, _ => exact wg_392
  | 7, _ => exact wg_394
theorem z_lay10 : ∀ w ∈ u_ws RX10 TX10 7, w ∈ lw_good := by
  intro w hw
  obtain ⟨k, hk, rfl⟩ := List.mem_map.mp hw
  have hk := List.mem_range.mp hk
  match k, hk with
  | 0, _ => exact wg_295
  | 1, _ => exact wg_297
  | 2, _ => exact wg_299
  | 3, _ => exact wg_301
  | 4, _ => exact wg_303
  | 5, _ => exact wg_305
  | 6, _ => exact wg_307
theorem z_lay11 : ∀ w ∈ u_ws RX11 TX11 3, w ∈ lw_good := by
  intro w hw
  obtain ⟨k, hk, rfl⟩ := List.mem_map.mp hw
  have hk := List.mem_range.mp hk
  match k, hk with
  | 0, _ => exact wg_494
  | 1, _ => exact wg_496
  | 2, _ => exact wg_498
theorem z_lay12 : ∀ w ∈ u_ws RX12 TX12 20, w ∈ lw_good := by
  intro w hw
  obtain ⟨k, hk, rfl⟩ := List.mem_map.mp hw
  have hk := List.mem_range.mp hk
  match k, hk with
  | 0, _ => exact wg_417
  | 1, _ => exact wg_419
  | 2, _ => exact wg_421
  | 3, _ => exact wg_423
  | 4, _ => exact wg_425
  | 5, _ => exact wg_427
  | 6, _ => exact wg_429
  | 7, _ => exact wg_431
  | 8, _ => exact wg_433
  | 9, _ => exact wg_435
  | 10, _ => exact wg_437
  | 11, _ => exact wg_439
  | 12, _ => exact wg_441
  | 13, _ => exact wg_443
  | 14, _ => exact wg_445
  | 15, _ => exact wg_447
  | 16, _ => exact wg_449
  | 17, _ => exact wg_451
  | 18, _ => exact wg_453
  | 19, _ => exact wg_455
  | k + 20, h => exact absurd h (by omega)
theorem z_lay13 : ∀ w ∈ u_ws RX13 TX13 129, w ∈ lw_good := by
  intro w hw
  obtain ⟨k, hk, rfl⟩ := List.mem_map.mp hw
  have hk := List.mem_range.mp hk
  match k, hk with
  | 0, _ => exact wg_1515
  | 1, _ => exact wg_1517
  | 2, _ => exact wg_1519
  | 3, _ => exact wg_1521
  | 4, _ => exact wg_1523
  | 5, _ => exact wg_1525
  | 6, _ => exact wg_1527
  | 7, _ => exact wg_1529
  | 8, _ => exact wg_1531
  | 9, _ => exact wg_1533
  | 10, _ => exact wg_1535
  | 11, _ => exact wg_1537
  | 12, _ => exact wg_1539
  | 13, _ => exact wg_1541
  | 14, _ => exact wg_1543
  | 15, _ => exact wg_1545
  | 16, _ => exact wg_1547
  | 17, _ => exact wg_1549
  | 18, _ => exact wg_1551
  | 19, _ => exact wg_1553
  | 20, _ => exact wg_1555
  | 21, _ => exact wg_1557
  | 22, _ => exact wg_1559
  | 23, _ => exact wg_1561
  | 24, _ => exact wg_1563
  | 25, _ => exact wg_1565
  | 26, _ => exact wg_1567
  | 27, _ => exact wg_1569
  | 28, _ => exact wg_1571
  | 29, _ => exact wg_1573
  | 30, _ => exact wg_1575
  | 31, _ => exact wg_1577
  | 32, _ => exact wg_1579
  | 33, _ => exact wg_1581
  | 34, _ => exact wg_1583
  | 35, _ => exact wg_1585
  | 36, _ => exact wg_1587
  | 37, _ => exact wg_1589
  | 38, _ => exact wg_1591
  | 39, _ => exact wg_1593
  | 40, _ => exact wg_1595
  | 41, _ => exact wg_1597
  | 42, _ => exact wg_1599
  | 43, _ => exact wg_1601
  | 44, _ => exact wg_1603
  | 45, _ => exact wg_1605
  | 46, _ => exact wg_1607
  | 47, _ => exact wg_1609
  | 48, _ => exact wg_1611
  | 49, _ => exact wg_1613
  | 50, _ => exact wg_1615
  | 51, _ => exact wg_1617
  | 52, _ => exact wg_1619
  | 53, _ => exact wg_1621
  | 54, _ => exact wg_1623
  | 55, _ => exact wg_1625
  | 56, _ => exact wg_1627
  | 57, _ => exact wg_1629
  | 58, _ => exact wg_1631
  | 59, _ => exact wg_1633
  | 60, _ => exact wg_1635
  | 61, _ => exact wg_1637
  | 62, _ => exact wg_1639
  | 63, _ => exact wg_1641
  | 64, _ => exact wg_1643
  | 65, _ => exact wg_1645
  | 66, _ => exact wg_1647
  | 67, _ => exact wg_1649
  | 68, _ => exact wg_1651
  | 69, _ => exact wg_1653
  | 70, _ => exact wg_1655
  | 71, _ => exact wg_1657
  | 72, _ => exact wg_1659
  | 73, _ => exact wg_1661
  | 74, _ => exact wg_1663
  | 75, _ => exact wg_1665
  | 76, _ => exact wg_1667
  | 77, _ => exact wg_1669
  | 78, _ => exact wg_1671
  | 79, _ => exact wg_1673
  | 80, _ => exact wg_1675
  | 81, _ => exact wg_1677
  | 82, _ => exact wg_1679
  | 83, _ => exact wg_1681
  | 84, _ => exact wg_1683
  | 85, _ => exact wg_1685
  | 86, _ => exact wg_1687
  | 87, _ => exact wg_1689
  | 88, _ => exact wg_1691
  | 89, _ => exact wg_1693
  | 90, _ => exact wg_1695
  | 91, _ => exact wg_1697
  | 92, _ => exact wg_1699
  | 93, _ => exact wg_1701
  | 94, _ => exact wg_1703
  | 95, _ => exact wg_1705
  | 96, _ => exact wg_1707
  | 97, _ => exact wg_1709
  | 98, _ => exact wg_1711
  | 99, _ => exact wg_1713
  | 100, _ => exact wg_1715
  | 101, _ => exact wg_1717
  | 102, _ => exact wg_1719
  | 103, _ => exact wg_1721
  | 104, _ => exact wg_1723
  | 105, _ => exact wg_1725
  | 106, _ => exact wg_1727
  | 107, _ => exact wg_1729
  | 108, _ => exact wg_1731
  | 109, _ => exact wg_1733
  | 110, _ => exact wg_1735
  | 111, _ => exact wg_1737
  | 112, _ => exact wg_1739
  | 113, _ => exact wg_1741
  | 114, _ => exact wg_1743
  | 115, _ => exact wg_1745
  | 116, _ => exact wg_1747
  | 117, _ => exact wg_1749
  | 118, _ => exact wg_1751
  | 119, _ => exact wg_1753
  | 120, _ => exact wg_1755
  | 121, _ => exact wg_1757
  | 122, _ => exact wg_1759
  | 123, _ => exact wg_1761
  | 124, _ => exact wg_1763
  | 125, _ => exact wg_1765
  | 126, _ => exact wg_1767
  | 127, _ => exact wg_1769
  | 128, _ => exact wg_1771
  | k + 129, h => exact absurd h (by omega)
theorem z_lays {c : Nat} (hc : c < 14) : ∀ w ∈ u_ws (z_Rn c) (z_T c) (z_N c), w ∈ lw_good := by
  match c, hc with
  | 0, _ => exact z_lay0
  | 1, _ => exact z_lay1
  | 2, _ => exact z_lay2
  | 3, _ => exact z_lay3
  | 4, _ => exact z_lay4
  | 5, _ => exact z_lay5
  | 6, _ => exact z_lay6
  | 7, _ => exact z_lay7
  | 8, _ => exact z_lay8
  | 9, _ => exact z_lay9
  | 10, _ => exact z_lay10
  | 11, _ => exact z_lay11
  | 12, _ => exact z_lay12
  | 13, _ => exact z_lay13
theorem z_cl {c : Nat} (hc : c < 14) : vwCl[c]? = some (z_Rn c, z_T c, z_N c) := by
  match c, hc with
  | 0, _ => rfl
  | 1, _ => rfl
  | 2, _ => rfl
  | 3, _ => rfl
  | 4, _ => rfl
  | 5, _ => rfl
  | 6, _ => rfl
  | 7, _ => rfl
  | 8, _ => rfl
  | 9, _ => rfl
  | 10, _ => rfl
  | 11, _ => rfl
  | 12, _ => rfl
  | 13, _ => rfl
theorem z_tyok {c : Nat} (hc : c < 14) : ∀ k, k < z_N c → parseFieldDescriptor (z_T c k).2.2.1 = some (z_ty c k) := by
  match c, hc with
  | 0, _ => exact tyX0_ok
  | 1, _ => exact tyX1_ok
  | 2, _ => exact tyX2_ok
  | 3, _ => exact tyX3_ok
  | 4, _ => exact tyX4_ok
  | 5, _ => exact tyX5_ok
  | 6, _ => exact tyX6_ok
  | 7, _ => exact tyX7_ok
  | 8, _ => exact tyX8_ok
  | 9, _ => exact tyX9_ok
  | 10, _ => exact tyX10_ok
  | 11, _ => exact tyX11_ok
  | 12, _ => exact tyX12_ok
  | 13, _ => exact tyX13_ok
theorem z_nm {c : Nat} (hc : c < 14) : ∀ a, a < z_N c → ∀ b, b < z_N c → a ≠ b → (z_T c a).2.1 ≠ (z_T c b).2.1 := by
  match c, hc with
  | 0, _ => exact nmX0
  | 1, _ => exact nmX1
  | 2, _ => exact nmX2
  | 3, _ => exact nmX3
  | 4, _ => exact nmX4
  | 5, _ => exact nmX5
  | 6, _ => exact nmX6
  | 7, _ => exact nmX7
  | 8, _ => exact nmX8
  | 9, _ => exact nmX9
  | 10, _ => exact nmX10
  | 11, _ => exact nmX11
  | 12, _ => exact nmX12
  | 13, _ => exact nmX13
