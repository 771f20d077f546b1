/-! THE WORDS OF EACH SYSTEM, one list for all its methods -/
theorem mc {w c0 : Cond} {u : List Cond} (h : w ∈ u) : w ∈ c0 :: u := List.mem_cons_of_mem _ h
def uZ0 : List Cond := [.code yX12_thrown cX12_thrown 1 (some .int),
  .fieldLink RX12 1 "AreaSetterModel" "thrown" "I",
  .code yX12_within cX12_within 3 (some .boolean),
  .methodLink RX12 7 objectInit,
  .instanceMethod objectInit,
  .code objectInit ⟨#[0xb1]⟩ 1 none,
  .fieldLink RX12 13 "AreaSetterModel" "sheetWide" "I",
  .fieldLink RX12 16 "AreaSetterModel" "sheetHigh" "I",
  .arrayClass .byte,
  .fieldLink RX12 19 "AreaSetterModel" "tape" "[B",
  .fieldLink RX12 23 "AreaSetterModel" "lastPlace" "I",
  .arrayClass .int,
  .fieldLink RX12 26 "AreaSetterModel" "parent" "[I",
  .arrayClass .boolean,
  .fieldLink RX12 30 "AreaSetterModel" "isGroup" "[Z",
  .fieldLink RX12 34 "AreaSetterModel" "children" "[I",
  .fieldLink RX12 37 "AreaSetterModel" "depth" "[I",
  .fieldLink RX12 40 "AreaSetterModel" "hows" "[I",
  .fieldLink RX12 43 "AreaSetterModel" "isSorted" "[Z",
  .fieldLink RX12 46 "AreaSetterModel" "told" "[I",
  .fieldLink RX12 49 "AreaSetterModel" "nameSize" "[I",
  .fieldLink RX12 52 "AreaSetterModel" "names" "[B",
  .fieldLink RX12 55 "AreaSetterModel" "changeBox" "[I",
  .fieldLink RX12 58 "AreaSetterModel" "changeTick" "[I",
  .fieldLink RX12 61 "AreaSetterModel" "changeSize" "[I",
  .fieldLink RX12 64 "AreaSetterModel" "limit" "[I",
  .fieldLink RX12 67 "AreaSetterModel" "isOpen" "[Z",
  .fieldLink RX12 70 "AreaSetterModel" "item" "[I",
  .fieldLink RX12 73 "AreaSetterModel" "itemSize" "[I",
  .fieldLink RX12 76 "AreaSetterModel" "left" "[I",
  .fieldLink RX12 79 "AreaSetterModel" "top" "[I",
  .fieldLink RX12 82 "AreaSetterModel" "wide" "[I",
  .fieldLink RX12 85 "AreaSetterModel" "high" "[I",
  .fieldLink RX12 88 "AreaSetterModel" "partAt" "[I",
  .fieldLink RX12 91 "AreaSetterModel" "ahead" "[I",
  .fieldLink RX12 94 "AreaSetterModel" "downAt" "[I",
  .fieldLink RX12 97 "AreaSetterModel" "drawnTick" "[I",
  .fieldLink RX12 100 "AreaSetterModel" "isShown" "[Z",
  .fieldLink RX12 103 "AreaSetterModel" "dx" "[I",
  .fieldLink RX12 106 "AreaSetterModel" "dy" "[I",
  .fieldLink RX12 109 "AreaSetterModel" "dw" "[I",
  .fieldLink RX12 112 "AreaSetterModel" "dh" "[I",
  .fieldLink RX12 115 "AreaSetterModel" "dSize" "[I",
  .fieldLink RX12 118 "AreaSetterModel" "laidHow" "[I",
  .fieldLink RX12 121 "AreaSetterModel" "laidWorst" "[I",
  .fieldLink RX12 124 "AreaSetterModel" "restMany" "[I",
  .fieldLink RX12 127 "AreaSetterModel" "restSize" "[I",
  .fieldLink RX12 130 "AreaSetterModel" "restX" "[I",
  .fieldLink RX12 133 "AreaSetterModel" "restY" "[I",
  .fieldLink RX12 136 "AreaSetterModel" "restW" "[I",
  .fieldLink RX12 139 "AreaSetterModel" "restH" "[I",
  .code yX12_init cX12_init 1 none,
  .code yX12_sheet cX12_sheet 3 (some .boolean),
  .methodLink RX12 142 yX12_within,
  .static yX12_within,
  .initialized RX12,
  .code yX12_price cX12_price 2 (some .boolean),
  .fieldLink RX12 146 "AreaSetterModel" "price" "I",
  .code yX12_feed cX12_feed 8 (some .int),
  .fieldLink RX12 149 "AreaSetterModel" "taped" "I",
  .code yX12_end cX12_end 2 (some .int),
  .code yX12_see cX12_see 2 (some .int),
  .code yX12_isSmall cX12_isSmall 1 (some .boolean),
  .code yX12_isDigit cX12_isDigit 1 (some .boolean),
  .code yX12_next cX12_next 2 none,
  .fieldLink RX12 152 "AreaSetterModel" "at" "I",
  .fieldLink RX12 155 "AreaSetterModel" "place" "I",
  .fieldLink RX12 158 "AreaSetterModel" "sort" "I",
  .fieldLink RX12 172 "AreaSetterModel" "value" "I",
  .methodLink RX12 161 yX12_isSmall,
  .static yX12_isSmall,
  .methodLink RX12 165 yX12_see,
  .instanceMethod yX12_see,
  .selects RX12 yX12_see yX12_see,
  .methodLink RX12 169 yX12_isDigit,
  .static yX12_isDigit,
  .methodLink RX12 175 yJ0_length_8abf5,
  .instanceMethod yJ0_length_8abf5,
  .selects RJ0 yJ0_length_8abf5 yJ0_length_8abf5,
  .initialized RJ0,
  .code yJ0_length_8abf5 cJ0_length_8abf5 1 (some .int),
  .fieldLink RJ0 9 "java/lang/String" "value" "[B",
  .methodLink RJ0 335 yJ0_coder_7d493,
  .instanceMethod yJ0_coder_7d493,
  .selects RJ0 yJ0_coder_7d493 yJ0_coder_7d493,
  .code yJ0_coder_7d493 cJ0_coder_7d493 1 (some .byte),
  .fieldLink RJ0 38 "java/lang/String" "COMPACT_STRINGS" "Z",
  .fieldLink RJ0 15 "java/lang/String" "coder" "B",
  .methodLink RX12 181 yJ0_charAt_5068e,
  .instanceMethod yJ0_charAt_5068e,
  .selects RJ0 yJ0_charAt_5068e yJ0_charAt_5068e,
  .code yJ0_charAt_5068e cJ0_charAt_5068e 2 (some .char),
  .methodLink RJ0 492 yJ0_isLatin1_aae02,
  .instanceMethod yJ0_isLatin1_aae02,
  .selects RJ0 yJ0_isLatin1_aae02 yJ0_isLatin1_aae02,
  .code yJ0_isLatin1_aae02 cJ0_isLatin1_aae02 1 (some .boolean),
  .methodLink RJ0 495 yJ1_charAt_3b067,
  .static yJ1_charAt_3b067,
  .initialized RJ1,
  .code yJ1_charAt_3b067 cJ1_charAt_3b067 2 (some .char),
  .methodLink RJ1 9 yJ0_checkIndex_df160,
  .static yJ0_checkIndex_df160,
  .code yJ0_checkIndex_df160 cJ0_checkIndex_df160 2 none,
  .fieldLink RJ0 1053 "jdk/internal/util/Preconditions" "SIOOBE_FORMATTER" "Ljava/util/function/BiFunction;",
  .methodLink RJ0 1059 yJ3_checkIndex_8e157,
  .static yJ3_checkIndex_8e157,
  .initialized RJ3,
  .code yJ3_checkIndex_8e157 cJ3_checkIndex_8e157 3 (some .int),
  .methodLink RJ0 498 yJ2_charAt_3b067,
  .static yJ2_charAt_3b067,
  .initialized RJ2,
  .code yJ2_charAt_3b067 cJ2_charAt_3b067 2 (some .char),
  .methodLink RJ2 67 yJ2_checkIndex_2214a,
  .static yJ2_checkIndex_2214a,
  .code yJ2_checkIndex_2214a cJ2_checkIndex_2214a 2 none,
  .methodLink RJ2 48 yJ2_length_9d52b,
  .static yJ2_length_9d52b,
  .code yJ2_length_9d52b cJ2_length_9d52b 1 (some .int),
  .methodLink RJ2 414 yJ0_checkIndex_df160,
  .methodLink RJ2 71 yJ2_getChar_3b067,
  .static yJ2_getChar_3b067,
  .code yJ2_getChar_3b067 cJ2_getChar_3b067 2 (some .char),
  .fieldLink RJ2 44 "java/lang/StringUTF16" "$assertionsDisabled" "Z",
  .fieldLink RJ2 59 "java/lang/StringUTF16" "HI_BYTE_SHIFT" "I",
  .fieldLink RJ2 63 "java/lang/StringUTF16" "LO_BYTE_SHIFT" "I",
  .code yX12_isWord cX12_isWord 3 (some .boolean),
  .methodLink RX12 187 yX12_isWord,
  .instanceMethod yX12_isWord,
  .selects RX12 yX12_isWord yX12_isWord,
  .code yX12_how cX12_how 1 (some .int),
  .methodLink RX12 197 yX12_how,
  .instanceMethod yX12_how,
  .selects RX12 yX12_how yX12_how,
  .code yX12_isName cX12_isName 1 (some .boolean),
  .code yX12_is cX12_is 2 (some .boolean),
  .code yX12_fails cX12_fails 2 none,
  .fieldLink RX12 202 "AreaSetterModel" "fault" "I",
  .fieldLink RX12 205 "AreaSetterModel" "faultPlace" "I",
  .code yX12_isWell cX12_isWell 1 (some .boolean),
  .code yX12_isKnown cX12_isKnown 5 (some .boolean),
  .fieldLink RX12 208 "AreaSetterModel" "newBoxes" "I",
  .methodLink RX12 211 yX12_isName,
  .instanceMethod yX12_isName,
  .selects RX12 yX12_isName yX12_isName,
  .methodLink RX12 215 yX12_fails,
  .instanceMethod yX12_fails,
  .selects RX12 yX12_fails yX12_fails,
  .methodLink RX12 219 yX12_isKnown,
  .instanceMethod yX12_isKnown,
  .selects RX12 yX12_isKnown yX12_isKnown,
  .methodLink RX12 222 yX12_next,
  .instanceMethod yX12_next,
  .selects RX12 yX12_next yX12_next,
  .code yX12_newBox cX12_newBox 4 (some .int),
  .methodLink RX12 225 yX12_isWell,
  .instanceMethod yX12_isWell,
  .selects RX12 yX12_isWell yX12_isWell,
  .methodLink RX12 228 yX12_is,
  .instanceMethod yX12_is,
  .selects RX12 yX12_is yX12_is,
  .code yX12_want cX12_want 2 none,
  .methodLink RX12 237 yX12_newBox,
  .instanceMethod yX12_newBox,
  .selects RX12 yX12_newBox yX12_newBox,
  .methodLink RX12 240 yX12_group,
  .instanceMethod yX12_group,
  .selects RX12 yX12_group yX12_group,
  .code yX12_group cX12_group 3 none,
  .methodLink RX12 231 yX12_want,
  .instanceMethod yX12_want,
  .selects RX12 yX12_want yX12_want,
  .methodLink RX12 234 yX12_child,
  .instanceMethod yX12_child,
  .selects RX12 yX12_child yX12_child,
  .code yX12_child cX12_child 3 none,
  .fieldLink RX12 243 "AreaSetterModel" "boxes" "I",
  .fieldLink RX12 246 "AreaSetterModel" "changes" "I",
  .fieldLink RX12 249 "AreaSetterModel" "drawings" "I",
  .code yX12_tree cX12_tree 4 (some .int),
  .code yX12_place cX12_place 1 (some .int),
  .code yX12_isBox cX12_isBox 2 (some .boolean),
  .code yX12_size cX12_size 4 (some .int),
  .constant RX12 255 (999999),
  .methodLink RX12 252 yX12_isBox,
  .instanceMethod yX12_isBox,
  .selects RX12 yX12_isBox yX12_isBox,
  .code yX12_sizeOf cX12_sizeOf 5 (some .int),
  .methodLink RX12 256 yX12_sizeOf,
  .instanceMethod yX12_sizeOf,
  .selects RX12 yX12_sizeOf yX12_sizeOf,
  .code yX12_sizeIn cX12_sizeIn 3 (some .int),
  .code yX12_rest cX12_rest 4 (some .boolean),
  .code yX12_shape cX12_shape 3 (some .int),
  .constant RX12 260 (1000000),
  .code yX12_worst cX12_worst 3 (some .int),
  .fieldLink RX12 261 "AreaSetterModel" "items" "I",
  .methodLink RX12 268 Lib.Math.max.name,
  .static Lib.Math.max.name,
  .initialized "java/lang/Math",
  .code Lib.Math.max.name Lib.Math.max.code 2 (some .int),
  .methodLink RX12 264 yX12_shape,
  .static yX12_shape,
  .code yX12_sum cX12_sum 3 (some .int),
  .code yX12_parts cX12_parts 6 none,
  .methodLink RX12 273 yX12_sum,
  .instanceMethod yX12_sum,
  .selects RX12 yX12_sum yX12_sum,
  .code yX12_partEnd cX12_partEnd 4 (some .int),
  .code yX12_laysNothing cX12_laysNothing 4 none,
  .code yX12_laysSlice cX12_laysSlice 9 none,
  .methodLink RX12 276 yX12_parts,
  .instanceMethod yX12_parts,
  .selects RX12 yX12_parts yX12_parts,
  .methodLink RX12 280 yX12_partEnd,
  .instanceMethod yX12_partEnd,
  .selects RX12 yX12_partEnd yX12_partEnd,
  .code yX12_laysRows cX12_laysRows 9 none,
  .code yX12_isAhead cX12_isAhead 5 (some .boolean),
  .methodLink RX12 283 yJ6_bitCount_0f7a4,
  .static yJ6_bitCount_0f7a4,
  .initialized RJ6,
  .code yJ6_bitCount_0f7a4 cJ6_bitCount_0f7a4 1 (some .int),
  .constant RJ6 265 (1431655765),
  .constant RJ6 266 (858993459),
  .constant RJ6 267 (252645135),
  .methodLink RX12 288 yX12_laysRows,
  .instanceMethod yX12_laysRows,
  .selects RX12 yX12_laysRows yX12_laysRows,
  .methodLink RX12 292 yX12_worst,
  .instanceMethod yX12_worst,
  .selects RX12 yX12_worst yX12_worst,
  .methodLink RX12 295 yX12_isAhead,
  .instanceMethod yX12_isAhead,
  .selects RX12 yX12_isAhead yX12_isAhead,
  .code yX12_breaks cX12_breaks 9 (some .int),
  .code yX12_firstPart cX12_firstPart 6 (some .int),
  .methodLink RX12 307 yX12_firstPart,
  .instanceMethod yX12_firstPart,
  .selects RX12 yX12_firstPart yX12_firstPart,
  .methodLink RX12 311 yX12_cutWorst,
  .instanceMethod yX12_cutWorst,
  .selects RX12 yX12_cutWorst yX12_cutWorst,
  .code yX12_cutWorst cX12_cutWorst 8 (some .int),
  .constant RX12 299 (2147483647),
  .methodLink RX12 304 Lib.Math.min.name,
  .static Lib.Math.min.name,
  .code Lib.Math.min.name Lib.Math.min.code 2 (some .int),
  .methodLink RX12 300 yX12_cutBy,
  .instanceMethod yX12_cutBy,
  .selects RX12 yX12_cutBy yX12_cutBy,
  .code yX12_cutBy cX12_cutBy 10 (some .int),
  .methodLink RX12 314 yX12_laysCuts,
  .instanceMethod yX12_laysCuts,
  .selects RX12 yX12_laysCuts yX12_laysCuts,
  .code yX12_laysCuts cX12_laysCuts 12 none,
  .methodLink RX12 318 yX12_laysNothing,
  .instanceMethod yX12_laysNothing,
  .selects RX12 yX12_laysNothing yX12_laysNothing,
  .methodLink RX12 322 yX12_laysSlice,
  .instanceMethod yX12_laysSlice,
  .selects RX12 yX12_laysSlice yX12_laysSlice,
  .methodLink RX12 326 yX12_breaks,
  .instanceMethod yX12_breaks,
  .selects RX12 yX12_breaks yX12_breaks,
  .code yX12_lays cX12_lays 6 none,
  .code yX12_rowOf cX12_rowOf 1 (some .int),
  .code yX12_size_ cX12_size_ 1 (some .int),
  .code yX12_far cX12_far 8 (some .int),
  .methodLink RX12 329 yX12_size_,
  .static yX12_size_,
  .code yX12_moves cX12_moves 4 (some .int),
  .methodLink RX12 332 yX12_rowOf,
  .static yX12_rowOf,
  .methodLink RX12 335 yX12_far,
  .instanceMethod yX12_far,
  .selects RX12 yX12_far yX12_far,
  .code yX12_isSmallOne cX12_isSmallOne 4 (some .boolean),
  .constantLong RX12 338 (1000),
  .methodLink RX12 340 yX12_isSmallOne,
  .instanceMethod yX12_isSmallOne,
  .selects RX12 yX12_isSmallOne yX12_isSmallOne,
  .code yX12_findItems cX12_findItems 8 none,
  .methodLink RX12 343 yX12_findItems,
  .instanceMethod yX12_findItems,
  .selects RX12 yX12_findItems yX12_findItems,
  .methodLink RX12 346 yX12_lays,
  .instanceMethod yX12_lays,
  .selects RX12 yX12_lays yX12_lays,
  .methodLink RX12 349 yX12_moves,
  .instanceMethod yX12_moves,
  .selects RX12 yX12_moves yX12_moves,
  .code yX12_drawGroup cX12_drawGroup 12 none,
  .methodLink RX12 352 yX12_drawGroup,
  .instanceMethod yX12_drawGroup,
  .selects RX12 yX12_drawGroup yX12_drawGroup,
  .code yX12_draw cX12_draw 4 (some .int),
  .code yX12_isDrawn cX12_isDrawn 2 (some .boolean),
  .methodLink RX12 355 yX12_isDrawn,
  .instanceMethod yX12_isDrawn,
  .selects RX12 yX12_isDrawn yX12_isDrawn,
  .code yX12_box cX12_box 4 (some .int),
  .code yX12_restOf cX12_restOf 3 (some .int),
  .code yX12_isIn cX12_isIn 6 (some .boolean),
  .code yX12_under cX12_under 7 (some .int),
  .methodLink RX12 358 yX12_isIn,
  .static yX12_isIn,
  .code yX12_letters cX12_letters 3 (some .int),
  .code yX12_moved cX12_moved 4 (some .int),
  .code yX12_past cX12_past 6 (some .int),
  .code yX12_about cX12_about 3 (some .int),
  .code yX12_letter cX12_letter 3 (some .int),
  .code yX12_named cX12_named 5 (some .int),
  .code yX12_groups cX12_groups 3 (some .int),
  .code yX12_shown cX12_shown 3 (some .int),
  .code yX12_greatestWorst cX12_greatestWorst 3 (some .int),
  .methodLink RX12 362 yX12_groups,
  .instanceMethod yX12_groups,
  .selects RX12 yX12_groups yX12_groups,
  .methodLink RX12 365 yX12_shown,
  .instanceMethod yX12_shown,
  .selects RX12 yX12_shown yX12_shown,
  .methodLink RX12 368 yX12_greatestWorst,
  .instanceMethod yX12_greatestWorst,
  .selects RX12 yX12_greatestWorst yX12_greatestWorst,
  .code yX12_count cX12_count 2 (some .int),
  .code yJ9_abs_0f7a4 cJ9_abs_0f7a4 1 (some .int),
  .code yJ9_max_7cf53 cJ9_max_7cf53 2 (some .int),
  .code yJ9_min_7cf53 cJ9_min_7cf53 2 (some .int)]
def uZ : List Cond := uZ0 ++ (wsX120)
theorem uZ_0 : Cond.code yX12_thrown cX12_thrown 1 (some .int) ∈ uZ := List.mem_append_left _ (List.mem_of_getElem? (i := 0) rfl)
theorem uZ_1 : Cond.fieldLink RX12 1 "AreaSetterModel" "thrown" "I" ∈ uZ := List.mem_append_left _ (List.mem_of_getElem? (i := 1) rfl)
theorem uZ_2 : Cond.code yX12_within cX12_within 3 (some .boolean) ∈ uZ := List.mem_append_left _ (List.mem_of_getElem? (i := 2) rfl)
theorem uZ_3 : Cond.methodLink RX12 7 objectInit ∈ uZ := List.mem_append_left _ (List.mem_of_getElem? (i := 3) rfl)
theorem uZ_4 : Cond.instanceMethod objectInit ∈ uZ := List.mem_append_left _ (List.mem_of_getElem? (i := 4) rfl)
theorem uZ_5 : Cond.code objectInit ⟨#[0xb1]⟩ 1 none ∈ uZ := List.mem_append_left _ (List.mem_of_getElem? (i := 5) rfl)
theorem uZ_6 : Cond.fieldLink RX12 13 "AreaSetterModel" "sheetWide" "I" ∈ uZ := List.mem_append_left _ (List.mem_of_getElem? (i := 6) rfl)
theorem uZ_7 : Cond.fieldLink RX12 16 "AreaSetterModel" "sheetHigh" "I" ∈ uZ := List.mem_append_left _ (List.mem_of_getElem? (i := 7) rfl)
theorem uZ_8 : Cond.arrayClass .byte ∈ uZ := List.mem_append_left _ (List.mem_of_getElem? (i := 8) rfl)
theorem uZ_9 : Cond.fieldLink RX12 19 "AreaSetterModel" "tape" "[B" ∈ uZ := List.mem_append_left _ (List.mem_of_getElem? (i := 9) rfl)
theorem uZ_10 : Cond.fieldLink RX12 23 "AreaSetterModel" "lastPlace" "I" ∈ uZ := List.mem_append_left _ (List.mem_of_getElem? (i := 10) rfl)
theorem uZ_11 : Cond.arrayClass .int ∈ uZ := List.mem_append_left _ (List.mem_of_getElem? (i := 11) rfl)
theorem uZ_12 : Cond.fieldLink RX12 26 "AreaSetterModel" "parent" "[I" ∈ uZ := List.mem_append_left _ (List.mem_of_getElem? (i := 12) rfl)
theorem uZ_13 : Cond.arrayClass .boolean ∈ uZ := List.mem_append_left _ (List.mem_of_getElem? (i := 13) rfl)
theorem uZ_14 : Cond.fieldLink RX12 30 "AreaSetterModel" "isGroup" "[Z" ∈ uZ := List.mem_append_left _ (List.mem_of_getElem? (i := 14) rfl)
theorem uZ_15 : Cond.fieldLink RX12 34 "AreaSetterModel" "children" "[I" ∈ uZ := List.mem_append_left _ (List.mem_of_getElem? (i := 15) rfl)
theorem uZ_16 : Cond.fieldLink RX12 37 "AreaSetterModel" "depth" "[I" ∈ uZ := List.mem_append_left _ (List.mem_of_getElem? (i := 16) rfl)
theorem uZ_17 : Cond.fieldLink RX12 40 "AreaSetterModel" "hows" "[I" ∈ uZ := List.mem_append_left _ (List.mem_of_getElem? (i := 17) rfl)
theorem uZ_18 : Cond.fieldLink RX12 43 "AreaSetterModel" "isSorted" "[Z" ∈ uZ := List.mem_append_left _ (List.mem_of_getElem? (i := 18) rfl)
theorem uZ_19 : Cond.fieldLink RX12 46 "AreaSetterModel" "told" "[I" ∈ uZ := List.mem_append_left _ (List.mem_of_getElem? (i := 19) rfl)
theorem uZ_20 : Cond.fieldLink RX12 49 "AreaSetterModel" "nameSize" "[I" ∈ uZ := List.mem_append_left _ (List.mem_of_getElem? (i := 20) rfl)
theorem uZ_21 : Cond.fieldLink RX12 52 "AreaSetterModel" "names" "[B" ∈ uZ := List.mem_append_left _ (List.mem_of_getElem? (i := 21) rfl)
theorem uZ_22 : Cond.fieldLink RX12 55 "AreaSetterModel" "changeBox" "[I" ∈ uZ := List.mem_append_left _ (List.mem_of_getElem? (i := 22) rfl)
theorem uZ_23 : Cond.fieldLink RX12 58 "AreaSetterModel" "changeTick" "[I" ∈ uZ := List.mem_append_left _ (List.mem_of_getElem? (i := 23) rfl)
theorem uZ_24 : Cond.fieldLink RX12 61 "AreaSetterModel" "changeSize" "[I" ∈ uZ := List.mem_append_left _ (List.mem_of_getElem? (i := 24) rfl)
theorem uZ_25 : Cond.fieldLink RX12 64 "AreaSetterModel" "limit" "[I" ∈ uZ := List.mem_append_left _ (List.mem_of_getElem? (i := 25) rfl)
theorem uZ_26 : Cond.fieldLink RX12 67 "AreaSetterModel" "isOpen" "[Z" ∈ uZ := List.mem_append_left _ (List.mem_of_getElem? (i := 26) rfl)
theorem uZ_27 : Cond.fieldLink RX12 70 "AreaSetterModel" "item" "[I" ∈ uZ := List.mem_append_left _ (List.mem_of_getElem? (i := 27) rfl)
theorem uZ_28 : Cond.fieldLink RX12 73 "AreaSetterModel" "itemSize" "[I" ∈ uZ := List.mem_append_left _ (List.mem_of_getElem? (i := 28) rfl)
theorem uZ_29 : Cond.fieldLink RX12 76 "AreaSetterModel" "left" "[I" ∈ uZ := List.mem_append_left _ (List.mem_of_getElem? (i := 29) rfl)
theorem uZ_30 : Cond.fieldLink RX12 79 "AreaSetterModel" "top" "[I" ∈ uZ := List.mem_append_left _ (List.mem_of_getElem? (i := 30) rfl)
theorem uZ_31 : Cond.fieldLink RX12 82 "AreaSetterModel" "wide" "[I" ∈ uZ := List.mem_append_left _ (List.mem_of_getElem? (i := 31) rfl)
theorem uZ_32 : Cond.fieldLink RX12 85 "AreaSetterModel" "high" "[I" ∈ uZ := List.mem_append_left _ (List.mem_of_getElem? (i := 32) rfl)
theorem uZ_33 : Cond.fieldLink RX12 88 "AreaSetterModel" "partAt" "[I" ∈ uZ := List.mem_append_left _ (List.mem_of_getElem? (i := 33) rfl)
theorem uZ_34 : Cond.fieldLink RX12 91 "AreaSetterModel" "ahead" "[I" ∈ uZ := List.mem_append_left _ (List.mem_of_getElem? (i := 34) rfl)
theorem uZ_35 : Cond.fieldLink RX12 94 "AreaSetterModel" "downAt" "[I" ∈ uZ := List.mem_append_left _ (List.mem_of_getElem? (i := 35) rfl)
theorem uZ_36 : Cond.fieldLink RX12 97 "AreaSetterModel" "drawnTick" "[I" ∈ uZ := List.mem_append_left _ (List.mem_of_getElem? (i := 36) rfl)
theorem uZ_37 : Cond.fieldLink RX12 100 "AreaSetterModel" "isShown" "[Z" ∈ uZ := List.mem_append_left _ (List.mem_of_getElem? (i := 37) rfl)
theorem uZ_38 : Cond.fieldLink RX12 103 "AreaSetterModel" "dx" "[I" ∈ uZ := List.mem_append_left _ (List.mem_of_getElem? (i := 38) rfl)
theorem uZ_39 : Cond.fieldLink RX12 106 "AreaSetterModel" "dy" "[I" ∈ uZ := List.mem_append_left _ (List.mem_of_getElem? (i := 39) rfl)
theorem uZ_40 : Cond.fieldLink RX12 109 "AreaSetterModel" "dw" "[I" ∈ uZ := List.mem_append_left _ (List.mem_of_getElem? (i := 40) rfl)
theorem uZ_41 : Cond.fieldLink RX12 112 "AreaSetterModel" "dh" "[I" ∈ uZ := List.mem_append_left _ (List.mem_of_getElem? (i := 41) rfl)
theorem uZ_42 : Cond.fieldLink RX12 115 "AreaSetterModel" "dSize" "[I" ∈ uZ := List.mem_append_left _ (List.mem_of_getElem? (i := 42) rfl)
theorem uZ_43 : Cond.fieldLink RX12 118 "AreaSetterModel" "laidHow" "[I" ∈ uZ := List.mem_append_left _ (List.mem_of_getElem? (i := 43) rfl)
theorem uZ_44 : Cond.fieldLink RX12 121 "AreaSetterModel" "laidWorst" "[I" ∈ uZ := List.mem_append_left _ (List.mem_of_getElem? (i := 44) rfl)
theorem uZ_45 : Cond.fieldLink RX12 124 "AreaSetterModel" "restMany" "[I" ∈ uZ := List.mem_append_left _ (List.mem_of_getElem? (i := 45) rfl)
theorem uZ_46 : Cond.fieldLink RX12 127 "AreaSetterModel" "restSize" "[I" ∈ uZ := List.mem_append_left _ (List.mem_of_getElem? (i := 46) rfl)
theorem uZ_47 : Cond.fieldLink RX12 130 "AreaSetterModel" "restX" "[I" ∈ uZ := List.mem_append_left _ (List.mem_of_getElem? (i := 47) rfl)
theorem uZ_48 : Cond.fieldLink RX12 133 "AreaSetterModel" "restY" "[I" ∈ uZ := List.mem_append_left _ (List.mem_of_getElem? (i := 48) rfl)
theorem uZ_49 : Cond.fieldLink RX12 136 "AreaSetterModel" "restW" "[I" ∈ uZ := List.mem_append_left _ (List.mem_of_getElem? (i := 49) rfl)
theorem uZ_50 : Cond.fieldLink RX12 139 "AreaSetterModel" "restH" "[I" ∈ uZ := List.mem_append_left _ (List.mem_of_getElem? (i := 50) rfl)
theorem uZ_51 : Cond.code yX12_init cX12_init 1 none ∈ uZ := List.mem_append_left _ (List.mem_of_getElem? (i := 51) rfl)
theorem uZ_52 : Cond.code yX12_sheet cX12_sheet 3 (some .boolean) ∈ uZ := List.mem_append_left _ (List.mem_of_getElem? (i := 52) rfl)
theorem uZ_53 : Cond.methodLink RX12 142 yX12_within ∈ uZ := List.mem_append_left _ (List.mem_of_getElem? (i := 53) rfl)
theorem uZ_54 : Cond.static yX12_within ∈ uZ := List.mem_append_left _ (List.mem_of_getElem? (i := 54) rfl)
theorem uZ_55 : Cond.initialized RX12 ∈ uZ := List.mem_append_left _ (List.mem_of_getElem? (i := 55) rfl)
theorem uZ_56 : Cond.code yX12_price cX12_price 2 (some .boolean) ∈ uZ := List.mem_append_left _ (List.mem_of_getElem? (i := 56) rfl)
theorem uZ_57 : Cond.fieldLink RX12 146 "AreaSetterModel" "price" "I" ∈ uZ := List.mem_append_left _ (List.mem_of_getElem? (i := 57) rfl)
theorem uZ_58 : Cond.code yX12_feed cX12_feed 8 (some .int) ∈ uZ := List.mem_append_left _ (List.mem_of_getElem? (i := 58) rfl)
theorem uZ_59 : Cond.fieldLink RX12 149 "AreaSetterModel" "taped" "I" ∈ uZ := List.mem_append_left _ (List.mem_of_getElem? (i := 59) rfl)
theorem uZ_60 : Cond.code yX12_end cX12_end 2 (some .int) ∈ uZ := List.mem_append_left _ (List.mem_of_getElem? (i := 60) rfl)
theorem uZ_61 : Cond.code yX12_see cX12_see 2 (some .int) ∈ uZ := List.mem_append_left _ (List.mem_of_getElem? (i := 61) rfl)
theorem uZ_62 : Cond.code yX12_isSmall cX12_isSmall 1 (some .boolean) ∈ uZ := List.mem_append_left _ (List.mem_of_getElem? (i := 62) rfl)
theorem uZ_63 : Cond.code yX12_isDigit cX12_isDigit 1 (some .boolean) ∈ uZ := List.mem_append_left _ (List.mem_of_getElem? (i := 63) rfl)
theorem uZ_64 : Cond.code yX12_next cX12_next 2 none ∈ uZ := List.mem_append_left _ (List.mem_of_getElem? (i := 64) rfl)
theorem uZ_65 : Cond.fieldLink RX12 152 "AreaSetterModel" "at" "I" ∈ uZ := List.mem_append_left _ (List.mem_of_getElem? (i := 65) rfl)
theorem uZ_66 : Cond.fieldLink RX12 155 "AreaSetterModel" "place" "I" ∈ uZ := List.mem_append_left _ (List.mem_of_getElem? (i := 66) rfl)
theorem uZ_67 : Cond.fieldLink RX12 158 "AreaSetterModel" "sort" "I" ∈ uZ := List.mem_append_left _ (List.mem_of_getElem? (i := 67) rfl)
theorem uZ_68 : Cond.fieldLink RX12 172 "AreaSetterModel" "value" "I" ∈ uZ := List.mem_append_left _ (List.mem_of_getElem? (i := 68) rfl)
theorem uZ_69 : Cond.methodLink RX12 161 yX12_isSmall ∈ uZ := List.mem_append_left _ (List.mem_of_getElem? (i := 69) rfl)
theorem uZ_70 : Cond.static yX12_isSmall ∈ uZ := List.mem_append_left _ (List.mem_of_getElem? (i := 70) rfl)
theorem uZ_71 : Cond.methodLink RX12 165 yX12_see ∈ uZ := List.mem_append_left _ (List.mem_of_getElem? (i := 71) rfl)
theorem uZ_72 : Cond.instanceMethod yX12_see ∈ uZ := List.mem_append_left _ (List.mem_of_getElem? (i := 72) rfl)
theorem uZ_73 : Cond.selects RX12 yX12_see yX12_see ∈ uZ := List.mem_append_left _ (List.mem_of_getElem? (i := 73) rfl)
theorem uZ_74 : Cond.methodLink RX12 169 yX12_isDigit ∈ uZ := List.mem_append_left _ (List.mem_of_getElem? (i := 74) rfl)
theorem uZ_75 : Cond.static yX12_isDigit ∈ uZ := List.mem_append_left _ (List.mem_of_getElem? (i := 75) rfl)
theorem uZ_76 : Cond.methodLink RX12 175 yJ0_length_8abf5 ∈ uZ := List.mem_append_left _ (List.mem_of_getElem? (i := 76) rfl)
theorem uZ_77 : Cond.instanceMethod yJ0_length_8abf5 ∈ uZ := List.mem_append_left _ (List.mem_of_getElem? (i := 77) rfl)
theorem uZ_78 : Cond.selects RJ0 yJ0_length_8abf5 yJ0_length_8abf5 ∈ uZ := List.mem_append_left _ (List.mem_of_getElem? (i := 78) rfl)
theorem uZ_79 : Cond.initialized RJ0 ∈ uZ := List.mem_append_left _ (List.mem_of_getElem? (i := 79) rfl)
theorem uZ_80 : Cond.code yJ0_length_8abf5 cJ0_length_8abf5 1 (some .int) ∈ uZ := List.mem_append_left _ (List.mem_of_getElem? (i := 80) rfl)
theorem uZ_81 : Cond.fieldLink RJ0 9 "java/lang/String" "value" "[B" ∈ uZ := List.mem_append_left _ (List.mem_of_getElem? (i := 81) rfl)
theorem uZ_82 : Cond.methodLink RJ0 335 yJ0_coder_7d493 ∈ uZ := List.mem_append_left _ (List.mem_of_getElem? (i := 82) rfl)
theorem uZ_83 : Cond.instanceMethod yJ0_coder_7d493 ∈ uZ := List.mem_append_left _ (List.mem_of_getElem? (i := 83) rfl)
theorem uZ_84 : Cond.selects RJ0 yJ0_coder_7d493 yJ0_coder_7d493 ∈ uZ := List.mem_append_left _ (List.mem_of_getElem? (i := 84) rfl)
theorem uZ_85 : Cond.code yJ0_coder_7d493 cJ0_coder_7d493 1 (some .byte) ∈ uZ := List.mem_append_left _ (List.mem_of_getElem? (i := 85) rfl)
theorem uZ_86 : Cond.fieldLink RJ0 38 "java/lang/String" "COMPACT_STRINGS" "Z" ∈ uZ := List.mem_append_left _ (List.mem_of_getElem? (i := 86) rfl)
theorem uZ_87 : Cond.fieldLink RJ0 15 "java/lang/String" "coder" "B" ∈ uZ := List.mem_append_left _ (List.mem_of_getElem? (i := 87) rfl)
theorem uZ_88 : Cond.methodLink RX12 181 yJ0_charAt_5068e ∈ uZ := List.mem_append_left _ (List.mem_of_getElem? (i := 88) rfl)
theorem uZ_89 : Cond.instanceMethod yJ0_charAt_5068e ∈ uZ := List.mem_append_left _ (List.mem_of_getElem? (i := 89) rfl)
theorem uZ_90 : Cond.selects RJ0 yJ0_charAt_5068e yJ0_charAt_5068e ∈ uZ := List.mem_append_left _ (List.mem_of_getElem? (i := 90) rfl)
theorem uZ_91 : Cond.code yJ0_charAt_5068e cJ0_charAt_5068e 2 (some .char) ∈ uZ := List.mem_append_left _ (List.mem_of_getElem? (i := 91) rfl)
theorem uZ_92 : Cond.methodLink RJ0 492 yJ0_isLatin1_aae02 ∈ uZ := List.mem_append_left _ (List.mem_of_getElem? (i := 92) rfl)
theorem uZ_93 : Cond.instanceMethod yJ0_isLatin1_aae02 ∈ uZ := List.mem_append_left _ (List.mem_of_getElem? (i := 93) rfl)
theorem uZ_94 : Cond.selects RJ0 yJ0_isLatin1_aae02 yJ0_isLatin1_aae02 ∈ uZ := List.mem_append_left _ (List.mem_of_getElem? (i := 94) rfl)
theorem uZ_95 : Cond.code yJ0_isLatin1_aae02 cJ0_isLatin1_aae02 1 (some .boolean) ∈ uZ := List.mem_append_left _ (List.mem_of_getElem? (i := 95) rfl)
theorem uZ_96 : Cond.methodLink RJ0 495 yJ1_charAt_3b067 ∈ uZ := List.mem_append_left _ (List.mem_of_getElem? (i := 96) rfl)
theorem uZ_97 : Cond.static yJ1_charAt_3b067 ∈ uZ := List.mem_append_left _ (List.mem_of_getElem? (i := 97) rfl)
theorem uZ_98 : Cond.initialized RJ1 ∈ uZ := List.mem_append_left _ (List.mem_of_getElem? (i := 98) rfl)
theorem uZ_99 : Cond.code yJ1_charAt_3b067 cJ1_charAt_3b067 2 (some .char) ∈ uZ := List.mem_append_left _ (List.mem_of_getElem? (i := 99) rfl)
theorem uZ_100 : Cond.methodLink RJ1 9 yJ0_checkIndex_df160 ∈ uZ := List.mem_append_left _ (List.mem_of_getElem? (i := 100) rfl)
theorem uZ_101 : Cond.static yJ0_checkIndex_df160 ∈ uZ := List.mem_append_left _ (List.mem_of_getElem? (i := 101) rfl)
theorem uZ_102 : Cond.code yJ0_checkIndex_df160 cJ0_checkIndex_df160 2 none ∈ uZ := List.mem_append_left _ (List.mem_of_getElem? (i := 102) rfl)
theorem uZ_103 : Cond.fieldLink RJ0 1053 "jdk/internal/util/Preconditions" "SIOOBE_FORMATTER" "Ljava/util/function/BiFunction;" ∈ uZ := List.mem_append_left _ (List.mem_of_getElem? (i := 103) rfl)
theorem uZ_104 : Cond.methodLink RJ0 1059 yJ3_checkIndex_8e157 ∈ uZ := List.mem_append_left _ (List.mem_of_getElem? (i := 104) rfl)
theorem uZ_105 : Cond.static yJ3_checkIndex_8e157 ∈ uZ := List.mem_append_left _ (List.mem_of_getElem? (i := 105) rfl)
theorem uZ_106 : Cond.initialized RJ3 ∈ uZ := List.mem_append_left _ (List.mem_of_getElem? (i := 106) rfl)
theorem uZ_107 : Cond.code yJ3_checkIndex_8e157 cJ3_checkIndex_8e157 3 (some .int) ∈ uZ := List.mem_append_left _ (List.mem_of_getElem? (i := 107) rfl)
theorem uZ_108 : Cond.methodLink RJ0 498 yJ2_charAt_3b067 ∈ uZ := List.mem_append_left _ (List.mem_of_getElem? (i := 108) rfl)
theorem uZ_109 : Cond.static yJ2_charAt_3b067 ∈ uZ := List.mem_append_left _ (List.mem_of_getElem? (i := 109) rfl)
theorem uZ_110 : Cond.initialized RJ2 ∈ uZ := List.mem_append_left _ (List.mem_of_getElem? (i := 110) rfl)
theorem uZ_111 : Cond.code yJ2_charAt_3b067 cJ2_charAt_3b067 2 (some .char) ∈ uZ := List.mem_append_left _ (List.mem_of_getElem? (i := 111) rfl)
theorem uZ_112 : Cond.methodLink RJ2 67 yJ2_checkIndex_2214a ∈ uZ := List.mem_append_left _ (List.mem_of_getElem? (i := 112) rfl)
theorem uZ_113 : Cond.static yJ2_checkIndex_2214a ∈ uZ := List.mem_append_left _ (List.mem_of_getElem? (i := 113) rfl)
theorem uZ_114 : Cond.code yJ2_checkIndex_2214a cJ2_checkIndex_2214a 2 none ∈ uZ := List.mem_append_left _ (List.mem_of_getElem? (i := 114) rfl)
theorem uZ_115 : Cond.methodLink RJ2 48 yJ2_length_9d52b ∈ uZ := List.mem_append_left _ (List.mem_of_getElem? (i := 115) rfl)
theorem uZ_116 : Cond.static yJ2_length_9d52b ∈ uZ := List.mem_append_left _ (List.mem_of_getElem? (i := 116) rfl)
theorem uZ_117 : Cond.code yJ2_length_9d52b cJ2_length_9d52b 1 (some .int) ∈ uZ := List.mem_append_left _ (List.mem_of_getElem? (i := 117) rfl)
theorem uZ_118 : Cond.methodLink RJ2 414 yJ0_checkIndex_df160 ∈ uZ := List.mem_append_left _ (List.mem_of_getElem? (i := 118) rfl)
theorem uZ_119 : Cond.methodLink RJ2 71 yJ2_getChar_3b067 ∈ uZ := List.mem_append_left _ (List.mem_of_getElem? (i := 119) rfl)
theorem uZ_120 : Cond.static yJ2_getChar_3b067 ∈ uZ := List.mem_append_left _ (List.mem_of_getElem? (i := 120) rfl)
theorem uZ_121 : Cond.code yJ2_getChar_3b067 cJ2_getChar_3b067 2 (some .char) ∈ uZ := List.mem_append_left _ (List.mem_of_getElem? (i := 121) rfl)
theorem uZ_122 : Cond.fieldLink RJ2 44 "java/lang/StringUTF16" "$assertionsDisabled" "Z" ∈ uZ := List.mem_append_left _ (List.mem_of_getElem? (i := 122) rfl)
theorem uZ_123 : Cond.fieldLink RJ2 59 "java/lang/StringUTF16" "HI_BYTE_SHIFT" "I" ∈ uZ := List.mem_append_left _ (List.mem_of_getElem? (i := 123) rfl)
theorem uZ_124 : Cond.fieldLink RJ2 63 "java/lang/StringUTF16" "LO_BYTE_SHIFT" "I" ∈ uZ := List.mem_append_left _ (List.mem_of_getElem? (i := 124) rfl)
theorem uZ_125 : Cond.code yX12_isWord cX12_isWord 3 (some .boolean) ∈ uZ := List.mem_append_left _ (List.mem_of_getElem? (i := 125) rfl)
theorem uZ_126 : Cond.methodLink RX12 187 yX12_isWord ∈ uZ := List.mem_append_left _ (List.mem_of_getElem? (i := 126) rfl)
theorem uZ_127 : Cond.instanceMethod yX12_isWord ∈ uZ := List.mem_append_left _ (List.mem_of_getElem? (i := 127) rfl)
theorem uZ_128 : Cond.selects RX12 yX12_isWord yX12_isWord ∈ uZ := List.mem_append_left _ (List.mem_of_getElem? (i := 128) rfl)
theorem uZ_129 : Cond.code yX12_how cX12_how 1 (some .int) ∈ uZ := List.mem_append_left _ (List.mem_of_getElem? (i := 129) rfl)
theorem uZ_130 : Cond.methodLink RX12 197 yX12_how ∈ uZ := List.mem_append_left _ (List.mem_of_getElem? (i := 130) rfl)
theorem uZ_131 : Cond.instanceMethod yX12_how ∈ uZ := List.mem_append_left _ (List.mem_of_getElem? (i := 131) rfl)
theorem uZ_132 : Cond.selects RX12 yX12_how yX12_how ∈ uZ := List.mem_append_left _ (List.mem_of_getElem? (i := 132) rfl)
theorem uZ_133 : Cond.code yX12_isName cX12_isName 1 (some .boolean) ∈ uZ := List.mem_append_left _ (List.mem_of_getElem? (i := 133) rfl)
theorem uZ_134 : Cond.code yX12_is cX12_is 2 (some .boolean) ∈ uZ := List.mem_append_left _ (List.mem_of_getElem? (i := 134) rfl)
theorem uZ_135 : Cond.code yX12_fails cX12_fails 2 none ∈ uZ := List.mem_append_left _ (List.mem_of_getElem? (i := 135) rfl)
theorem uZ_136 : Cond.fieldLink RX12 202 "AreaSetterModel" "fault" "I" ∈ uZ := List.mem_append_left _ (List.mem_of_getElem? (i := 136) rfl)
theorem uZ_137 : Cond.fieldLink RX12 205 "AreaSetterModel" "faultPlace" "I" ∈ uZ := List.mem_append_left _ (List.mem_of_getElem? (i := 137) rfl)
theorem uZ_138 : Cond.code yX12_isWell cX12_isWell 1 (some .boolean) ∈ uZ := List.mem_append_left _ (List.mem_of_getElem? (i := 138) rfl)
theorem uZ_139 : Cond.code yX12_isKnown cX12_isKnown 5 (some .boolean) ∈ uZ := List.mem_append_left _ (List.mem_of_getElem? (i := 139) rfl)
theorem uZ_140 : Cond.fieldLink RX12 208 "AreaSetterModel" "newBoxes" "I" ∈ uZ := List.mem_append_left _ (List.mem_of_getElem? (i := 140) rfl)
theorem uZ_141 : Cond.methodLink RX12 211 yX12_isName ∈ uZ := List.mem_append_left _ (List.mem_of_getElem? (i := 141) rfl)
theorem uZ_142 : Cond.instanceMethod yX12_isName ∈ uZ := List.mem_append_left _ (List.mem_of_getElem? (i := 142) rfl)
theorem uZ_143 : Cond.selects RX12 yX12_isName yX12_isName ∈ uZ := List.mem_append_left _ (List.mem_of_getElem? (i := 143) rfl)
theorem uZ_144 : Cond.methodLink RX12 215 yX12_fails ∈ uZ := List.mem_append_left _ (List.mem_of_getElem? (i := 144) rfl)
theorem uZ_145 : Cond.instanceMethod yX12_fails ∈ uZ := List.mem_append_left _ (List.mem_of_getElem? (i := 145) rfl)
theorem uZ_146 : Cond.selects RX12 yX12_fails yX12_fails ∈ uZ := List.mem_append_left _ (List.mem_of_getElem? (i := 146) rfl)
theorem uZ_147 : Cond.methodLink RX12 219 yX12_isKnown ∈ uZ := List.mem_append_left _ (List.mem_of_getElem? (i := 147) rfl)
theorem uZ_148 : Cond.instanceMethod yX12_isKnown ∈ uZ := List.mem_append_left _ (List.mem_of_getElem? (i := 148) rfl)
theorem uZ_149 : Cond.selects RX12 yX12_isKnown yX12_isKnown ∈ uZ := List.mem_append_left _ (List.mem_of_getElem? (i := 149) rfl)
theorem uZ_150 : Cond.methodLink RX12 222 yX12_next ∈ uZ := List.mem_append_left _ (List.mem_of_getElem? (i := 150) rfl)
theorem uZ_151 : Cond.instanceMethod yX12_next ∈ uZ := List.mem_append_left _ (List.mem_of_getElem? (i := 151) rfl)
theorem uZ_152 : Cond.selects RX12 yX12_next yX12_next ∈ uZ := List.mem_append_left _ (List.mem_of_getElem? (i := 152) rfl)
theorem uZ_153 : Cond.code yX12_newBox cX12_newBox 4 (some .int) ∈ uZ := List.mem_append_left _ (List.mem_of_getElem? (i := 153) rfl)
theorem uZ_154 : Cond.methodLink RX12 225 yX12_isWell ∈ uZ := List.mem_append_left _ (List.mem_of_getElem? (i := 154) rfl)
theorem uZ_155 : Cond.instanceMethod yX12_isWell ∈ uZ := List.mem_append_left _ (List.mem_of_getElem? (i := 155) rfl)
theorem uZ_156 : Cond.selects RX12 yX12_isWell yX12_isWell ∈ uZ := List.mem_append_left _ (List.mem_of_getElem? (i := 156) rfl)
theorem uZ_157 : Cond.methodLink RX12 228 yX12_is ∈ uZ := List.mem_append_left _ (List.mem_of_getElem? (i := 157) rfl)
theorem uZ_158 : Cond.instanceMethod yX12_is ∈ uZ := List.mem_append_left _ (List.mem_of_getElem? (i := 158) rfl)
theorem uZ_159 : Cond.selects RX12 yX12_is yX12_is ∈ uZ := List.mem_append_left _ (List.mem_of_getElem? (i := 159) rfl)
theorem uZ_160 : Cond.code yX12_want cX12_want 2 none ∈ uZ := List.mem_append_left _ (List.mem_of_getElem? (i := 160) rfl)
theorem uZ_161 : Cond.methodLink RX12 237 yX12_newBox ∈ uZ := List.mem_append_left _ (List.mem_of_getElem? (i := 161) rfl)
theorem uZ_162 : Cond.instanceMethod yX12_newBox ∈ uZ := List.mem_append_left _ (List.mem_of_getElem? (i := 162) rfl)
theorem uZ_163 : Cond.selects RX12 yX12_newBox yX12_newBox ∈ uZ := List.mem_append_left _ (List.mem_of_getElem? (i := 163) rfl)
theorem uZ_164 : Cond.methodLink RX12 240 yX12_group ∈ uZ := List.mem_append_left _ (List.mem_of_getElem? (i := 164) rfl)
theorem uZ_165 : Cond.instanceMethod yX12_group ∈ uZ := List.mem_append_left _ (List.mem_of_getElem? (i := 165) rfl)
theorem uZ_166 : Cond.selects RX12 yX12_group yX12_group ∈ uZ := List.mem_append_left _ (List.mem_of_getElem? (i := 166) rfl)
theorem uZ_167 : Cond.code yX12_group cX12_group 3 none ∈ uZ := List.mem_append_left _ (List.mem_of_getElem? (i := 167) rfl)
theorem uZ_168 : Cond.methodLink RX12 231 yX12_want ∈ uZ := List.mem_append_left _ (List.mem_of_getElem? (i := 168) rfl)
theorem uZ_169 : Cond.instanceMethod yX12_want ∈ uZ := List.mem_append_left _ (List.mem_of_getElem? (i := 169) rfl)
theorem uZ_170 : Cond.selects RX12 yX12_want yX12_want ∈ uZ := List.mem_append_left _ (List.mem_of_getElem? (i := 170) rfl)
theorem uZ_171 : Cond.methodLink RX12 234 yX12_child ∈ uZ := List.mem_append_left _ (List.mem_of_getElem? (i := 171) rfl)
theorem uZ_172 : Cond.instanceMethod yX12_child ∈ uZ := List.mem_append_left _ (List.mem_of_getElem? (i := 172) rfl)
theorem uZ_173 : Cond.selects RX12 yX12_child yX12_child ∈ uZ := List.mem_append_left _ (List.mem_of_getElem? (i := 173) rfl)
theorem uZ_174 : Cond.code yX12_child cX12_child 3 none ∈ uZ := List.mem_append_left _ (List.mem_of_getElem? (i := 174) rfl)
theorem uZ_175 : Cond.fieldLink RX12 243 "AreaSetterModel" "boxes" "I" ∈ uZ := List.mem_append_left _ (List.mem_of_getElem? (i := 175) rfl)
theorem uZ_176 : Cond.fieldLink RX12 246 "AreaSetterModel" "changes" "I" ∈ uZ := List.mem_append_left _ (List.mem_of_getElem? (i := 176) rfl)
theorem uZ_177 : Cond.fieldLink RX12 249 "AreaSetterModel" "drawings" "I" ∈ uZ := List.mem_append_left _ (List.mem_of_getElem? (i := 177) rfl)
theorem uZ_178 : Cond.code yX12_tree cX12_tree 4 (some .int) ∈ uZ := List.mem_append_left _ (List.mem_of_getElem? (i := 178) rfl)
theorem uZ_179 : Cond.code yX12_place cX12_place 1 (some .int) ∈ uZ := List.mem_append_left _ (List.mem_of_getElem? (i := 179) rfl)
theorem uZ_180 : Cond.code yX12_isBox cX12_isBox 2 (some .boolean) ∈ uZ := List.mem_append_left _ (List.mem_of_getElem? (i := 180) rfl)
theorem uZ_181 : Cond.code yX12_size cX12_size 4 (some .int) ∈ uZ := List.mem_append_left _ (List.mem_of_getElem? (i := 181) rfl)
theorem uZ_182 : Cond.constant RX12 255 (999999) ∈ uZ := List.mem_append_left _ (List.mem_of_getElem? (i := 182) rfl)
theorem uZ_183 : Cond.methodLink RX12 252 yX12_isBox ∈ uZ := List.mem_append_left _ (List.mem_of_getElem? (i := 183) rfl)
theorem uZ_184 : Cond.instanceMethod yX12_isBox ∈ uZ := List.mem_append_left _ (List.mem_of_getElem? (i := 184) rfl)
theorem uZ_185 : Cond.selects RX12 yX12_isBox yX12_isBox ∈ uZ := List.mem_append_left _ (List.mem_of_getElem? (i := 185) rfl)
theorem uZ_186 : Cond.code yX12_sizeOf cX12_sizeOf 5 (some .int) ∈ uZ := List.mem_append_left _ (List.mem_of_getElem? (i := 186) rfl)
theorem uZ_187 : Cond.methodLink RX12 256 yX12_sizeOf ∈ uZ := List.mem_append_left _ (List.mem_of_getElem? (i := 187) rfl)
theorem uZ_188 : Cond.instanceMethod yX12_sizeOf ∈ uZ := List.mem_append_left _ (List.mem_of_getElem? (i := 188) rfl)
theorem uZ_189 : Cond.selects RX12 yX12_sizeOf yX12_sizeOf ∈ uZ := List.mem_append_left _ (List.mem_of_getElem? (i := 189) rfl)
theorem uZ_190 : Cond.code yX12_sizeIn cX12_sizeIn 3 (some .int) ∈ uZ := List.mem_append_left _ (List.mem_of_getElem? (i := 190) rfl)
theorem uZ_191 : Cond.code yX12_rest cX12_rest 4 (some .boolean) ∈ uZ := List.mem_append_left _ (List.mem_of_getElem? (i := 191) rfl)
theorem uZ_192 : Cond.code yX12_shape cX12_shape 3 (some .int) ∈ uZ := List.mem_append_left _ (List.mem_of_getElem? (i := 192) rfl)
theorem uZ_193 : Cond.constant RX12 260 (1000000) ∈ uZ := List.mem_append_left _ (List.mem_of_getElem? (i := 193) rfl)
theorem uZ_194 : Cond.code yX12_worst cX12_worst 3 (some .int) ∈ uZ := List.mem_append_left _ (List.mem_of_getElem? (i := 194) rfl)
theorem uZ_195 : Cond.fieldLink RX12 261 "AreaSetterModel" "items" "I" ∈ uZ := List.mem_append_left _ (List.mem_of_getElem? (i := 195) rfl)
theorem uZ_196 : Cond.methodLink RX12 268 Lib.Math.max.name ∈ uZ := List.mem_append_left _ (List.mem_of_getElem? (i := 196) rfl)
theorem uZ_197 : Cond.static Lib.Math.max.name ∈ uZ := List.mem_append_left _ (List.mem_of_getElem? (i := 197) rfl)
theorem uZ_198 : Cond.initialized "java/lang/Math" ∈ uZ := List.mem_append_left _ (List.mem_of_getElem? (i := 198) rfl)
theorem uZ_199 : Cond.code Lib.Math.max.name Lib.Math.max.code 2 (some .int) ∈ uZ := List.mem_append_left _ (List.mem_of_getElem? (i := 199) rfl)
theorem uZ_200 : Cond.methodLink RX12 264 yX12_shape ∈ uZ := List.mem_append_left _ (List.mem_of_getElem? (i := 200) rfl)
theorem uZ_201 : Cond.static yX12_shape ∈ uZ := List.mem_append_left _ (List.mem_of_getElem? (i := 201) rfl)
theorem uZ_202 : Cond.code yX12_sum cX12_sum 3 (some .int) ∈ uZ := List.mem_append_left _ (List.mem_of_getElem? (i := 202) rfl)
theorem uZ_203 : Cond.code yX12_parts cX12_parts 6 none ∈ uZ := List.mem_append_left _ (List.mem_of_getElem? (i := 203) rfl)
theorem uZ_204 : Cond.methodLink RX12 273 yX12_sum ∈ uZ := List.mem_append_left _ (List.mem_of_getElem? (i := 204) rfl)
theorem uZ_205 : Cond.instanceMethod yX12_sum ∈ uZ := List.mem_append_left _ (List.mem_of_getElem? (i := 205) rfl)
theorem uZ_206 : Cond.selects RX12 yX12_sum yX12_sum ∈ uZ := List.mem_append_left _ (List.mem_of_getElem? (i := 206) rfl)
theorem uZ_207 : Cond.code yX12_partEnd cX12_partEnd 4 (some .int) ∈ uZ := List.mem_append_left _ (List.mem_of_getElem? (i := 207) rfl)
theorem uZ_208 : Cond.code yX12_laysNothing cX12_laysNothing 4 none ∈ uZ := List.mem_append_left _ (List.mem_of_getElem? (i := 208) rfl)
theorem uZ_209 : Cond.code yX12_laysSlice cX12_laysSlice 9 none ∈ uZ := List.mem_append_left _ (List.mem_of_getElem? (i := 209) rfl)
theorem uZ_210 : Cond.methodLink RX12 276 yX12_parts ∈ uZ := List.mem_append_left _ (List.mem_of_getElem? (i := 210) rfl)
theorem uZ_211 : Cond.instanceMethod yX12_parts ∈ uZ := List.mem_append_left _ (List.mem_of_getElem? (i := 211) rfl)
theorem uZ_212 : Cond.selects RX12 yX12_parts yX12_parts ∈ uZ := List.mem_append_left _ (List.mem_of_getElem? (i := 212) rfl)
theorem uZ_213 : Cond.methodLink RX12 280 yX12_partEnd ∈ uZ := List.mem_append_left _ (List.mem_of_getElem? (i := 213) rfl)
theorem uZ_214 : Cond.instanceMethod yX12_partEnd ∈ uZ := List.mem_append_left _ (List.mem_of_getElem? (i := 214) rfl)
theorem uZ_215 : Cond.selects RX12 yX12_partEnd yX12_partEnd ∈ uZ := List.mem_append_left _ (List.mem_of_getElem? (i := 215) rfl)
theorem uZ_216 : Cond.code yX12_laysRows cX12_laysRows 9 none ∈ uZ := List.mem_append_left _ (List.mem_of_getElem? (i := 216) rfl)
theorem uZ_217 : Cond.code yX12_isAhead cX12_isAhead 5 (some .boolean) ∈ uZ := List.mem_append_left _ (List.mem_of_getElem? (i := 217) rfl)
theorem uZ_218 : Cond.methodLink RX12 283 yJ6_bitCount_0f7a4 ∈ uZ := List.mem_append_left _ (List.mem_of_getElem? (i := 218) rfl)
theorem uZ_219 : Cond.static yJ6_bitCount_0f7a4 ∈ uZ := List.mem_append_left _ (List.mem_of_getElem? (i := 219) rfl)
theorem uZ_220 : Cond.initialized RJ6 ∈ uZ := List.mem_append_left _ (List.mem_of_getElem? (i := 220) rfl)
theorem uZ_221 : Cond.code yJ6_bitCount_0f7a4 cJ6_bitCount_0f7a4 1 (some .int) ∈ uZ := List.mem_append_left _ (List.mem_of_getElem? (i := 221) rfl)
theorem uZ_222 : Cond.constant RJ6 265 (1431655765) ∈ uZ := List.mem_append_left _ (List.mem_of_getElem? (i := 222) rfl)
theorem uZ_223 : Cond.constant RJ6 266 (858993459) ∈ uZ := List.mem_append_left _ (List.mem_of_getElem? (i := 223) rfl)
theorem uZ_224 : Cond.constant RJ6 267 (252645135) ∈ uZ := List.mem_append_left _ (List.mem_of_getElem? (i := 224) rfl)
theorem uZ_225 : Cond.methodLink RX12 288 yX12_laysRows ∈ uZ := List.mem_append_left _ (List.mem_of_getElem? (i := 225) rfl)
theorem uZ_226 : Cond.instanceMethod yX12_laysRows ∈ uZ := List.mem_append_left _ (List.mem_of_getElem? (i := 226) rfl)
theorem uZ_227 : Cond.selects RX12 yX12_laysRows yX12_laysRows ∈ uZ := List.mem_append_left _ (List.mem_of_getElem? (i := 227) rfl)
theorem uZ_228 : Cond.methodLink RX12 292 yX12_worst ∈ uZ := List.mem_append_left _ (List.mem_of_getElem? (i := 228) rfl)
theorem uZ_229 : Cond.instanceMethod yX12_worst ∈ uZ := List.mem_append_left _ (List.mem_of_getElem? (i := 229) rfl)
theorem uZ_230 : Cond.selects RX12 yX12_worst yX12_worst ∈ uZ := List.mem_append_left _ (List.mem_of_getElem? (i := 230) rfl)
theorem uZ_231 : Cond.methodLink RX12 295 yX12_isAhead ∈ uZ := List.mem_append_left _ (List.mem_of_getElem? (i := 231) rfl)
theorem uZ_232 : Cond.instanceMethod yX12_isAhead ∈ uZ := List.mem_append_left _ (List.mem_of_getElem? (i := 232) rfl)
theorem uZ_233 : Cond.selects RX12 yX12_isAhead yX12_isAhead ∈ uZ := List.mem_append_left _ (List.mem_of_getElem? (i := 233) rfl)
theorem uZ_234 : Cond.code yX12_breaks cX12_breaks 9 (some .int) ∈ uZ := List.mem_append_left _ (List.mem_of_getElem? (i := 234) rfl)
theorem uZ_235 : Cond.code yX12_firstPart cX12_firstPart 6 (some .int) ∈ uZ := List.mem_append_left _ (List.mem_of_getElem? (i := 235) rfl)
theorem uZ_236 : Cond.methodLink RX12 307 yX12_firstPart ∈ uZ := List.mem_append_left _ (List.mem_of_getElem? (i := 236) rfl)
theorem uZ_237 : Cond.instanceMethod yX12_firstPart ∈ uZ := List.mem_append_left _ (List.mem_of_getElem? (i := 237) rfl)
theorem uZ_238 : Cond.selects RX12 yX12_firstPart yX12_firstPart ∈ uZ := List.mem_append_left _ (List.mem_of_getElem? (i := 238) rfl)
theorem uZ_239 : Cond.methodLink RX12 311 yX12_cutWorst ∈ uZ := List.mem_append_left _ (List.mem_of_getElem? (i := 239) rfl)
theorem uZ_240 : Cond.instanceMethod yX12_cutWorst ∈ uZ := List.mem_append_left _ (List.mem_of_getElem? (i := 240) rfl)
theorem uZ_241 : Cond.selects RX12 yX12_cutWorst yX12_cutWorst ∈ uZ := List.mem_append_left _ (List.mem_of_getElem? (i := 241) rfl)
theorem uZ_242 : Cond.code yX12_cutWorst cX12_cutWorst 8 (some .int) ∈ uZ := List.mem_append_left _ (List.mem_of_getElem? (i := 242) rfl)
theorem uZ_243 : Cond.constant RX12 299 (2147483647) ∈ uZ := List.mem_append_left _ (List.mem_of_getElem? (i := 243) rfl)
theorem uZ_244 : Cond.methodLink RX12 304 Lib.Math.min.name ∈ uZ := List.mem_append_left _ (List.mem_of_getElem? (i := 244) rfl)
theorem uZ_245 : Cond.static Lib.Math.min.name ∈ uZ := List.mem_append_left _ (List.mem_of_getElem? (i := 245) rfl)
theorem uZ_246 : Cond.code Lib.Math.min.name Lib.Math.min.code 2 (some .int) ∈ uZ := List.mem_append_left _ (List.mem_of_getElem? (i := 246) rfl)
theorem uZ_247 : Cond.methodLink RX12 300 yX12_cutBy ∈ uZ := List.mem_append_left _ (List.mem_of_getElem? (i := 247) rfl)
theorem uZ_248 : Cond.instanceMethod yX12_cutBy ∈ uZ := List.mem_append_left _ (List.mem_of_getElem? (i := 248) rfl)
theorem uZ_249 : Cond.selects RX12 yX12_cutBy yX12_cutBy ∈ uZ := List.mem_append_left _ (List.mem_of_getElem? (i := 249) rfl)
theorem uZ_250 : Cond.code yX12_cutBy cX12_cutBy 10 (some .int) ∈ uZ := List.mem_append_left _ (List.mem_of_getElem? (i := 250) rfl)
theorem uZ_251 : Cond.methodLink RX12 314 yX12_laysCuts ∈ uZ := List.mem_append_left _ (List.mem_of_getElem? (i := 251) rfl)
theorem uZ_252 : Cond.instanceMethod yX12_laysCuts ∈ uZ := List.mem_append_left _ (List.mem_of_getElem? (i := 252) rfl)
theorem uZ_253 : Cond.selects RX12 yX12_laysCuts yX12_laysCuts ∈ uZ := List.mem_append_left _ (List.mem_of_getElem? (i := 253) rfl)
theorem uZ_254 : Cond.code yX12_laysCuts cX12_laysCuts 12 none ∈ uZ := List.mem_append_left _ (List.mem_of_getElem? (i := 254) rfl)
theorem uZ_255 : Cond.methodLink RX12 318 yX12_laysNothing ∈ uZ := List.mem_append_left _ (List.mem_of_getElem? (i := 255) rfl)
theorem uZ_256 : Cond.instanceMethod yX12_laysNothing ∈ uZ := List.mem_append_left _ (List.mem_of_getElem? (i := 256) rfl)
theorem uZ_257 : Cond.selects RX12 yX12_laysNothing yX12_laysNothing ∈ uZ := List.mem_append_left _ (List.mem_of_getElem? (i := 257) rfl)
theorem uZ_258 : Cond.methodLink RX12 322 yX12_laysSlice ∈ uZ := List.mem_append_left _ (List.mem_of_getElem? (i := 258) rfl)
theorem uZ_259 : Cond.instanceMethod yX12_laysSlice ∈ uZ := List.mem_append_left _ (List.mem_of_getElem? (i := 259) rfl)
theorem uZ_260 : Cond.selects RX12 yX12_laysSlice yX12_laysSlice ∈ uZ := List.mem_append_left _ (List.mem_of_getElem? (i := 260) rfl)
theorem uZ_261 : Cond.methodLink RX12 326 yX12_breaks ∈ uZ := List.mem_append_left _ (List.mem_of_getElem? (i := 261) rfl)
theorem uZ_262 : Cond.instanceMethod yX12_breaks ∈ uZ := List.mem_append_left _ (List.mem_of_getElem? (i := 262) rfl)
theorem uZ_263 : Cond.selects RX12 yX12_breaks yX12_breaks ∈ uZ := List.mem_append_left _ (List.mem_of_getElem? (i := 263) rfl)
theorem uZ_264 : Cond.code yX12_lays cX12_lays 6 none ∈ uZ := List.mem_append_left _ (List.mem_of_getElem? (i := 264) rfl)
theorem uZ_265 : Cond.code yX12_rowOf cX12_rowOf 1 (some .int) ∈ uZ := List.mem_append_left _ (List.mem_of_getElem? (i := 265) rfl)
theorem uZ_266 : Cond.code yX12_size_ cX12_size_ 1 (some .int) ∈ uZ := List.mem_append_left _ (List.mem_of_getElem? (i := 266) rfl)
theorem uZ_267 : Cond.code yX12_far cX12_far 8 (some .int) ∈ uZ := List.mem_append_left _ (List.mem_of_getElem? (i := 267) rfl)
theorem uZ_268 : Cond.methodLink RX12 329 yX12_size_ ∈ uZ := List.mem_append_left _ (List.mem_of_getElem? (i := 268) rfl)
theorem uZ_269 : Cond.static yX12_size_ ∈ uZ := List.mem_append_left _ (List.mem_of_getElem? (i := 269) rfl)
theorem uZ_270 : Cond.code yX12_moves cX12_moves 4 (some .int) ∈ uZ := List.mem_append_left _ (List.mem_of_getElem? (i := 270) rfl)
theorem uZ_271 : Cond.methodLink RX12 332 yX12_rowOf ∈ uZ := List.mem_append_left _ (List.mem_of_getElem? (i := 271) rfl)
theorem uZ_272 : Cond.static yX12_rowOf ∈ uZ := List.mem_append_left _ (List.mem_of_getElem? (i := 272) rfl)
theorem uZ_273 : Cond.methodLink RX12 335 yX12_far ∈ uZ := List.mem_append_left _ (List.mem_of_getElem? (i := 273) rfl)
theorem uZ_274 : Cond.instanceMethod yX12_far ∈ uZ := List.mem_append_left _ (List.mem_of_getElem? (i := 274) rfl)
theorem uZ_275 : Cond.selects RX12 yX12_far yX12_far ∈ uZ := List.mem_append_left _ (List.mem_of_getElem? (i := 275) rfl)
theorem uZ_276 : Cond.code yX12_isSmallOne cX12_isSmallOne 4 (some .boolean) ∈ uZ := List.mem_append_left _ (List.mem_of_getElem? (i := 276) rfl)
theorem uZ_277 : Cond.constantLong RX12 338 (1000) ∈ uZ := List.mem_append_left _ (List.mem_of_getElem? (i := 277) rfl)
theorem uZ_278 : Cond.methodLink RX12 340 yX12_isSmallOne ∈ uZ := List.mem_append_left _ (List.mem_of_getElem? (i := 278) rfl)
theorem uZ_279 : Cond.instanceMethod yX12_isSmallOne ∈ uZ := List.mem_append_left _ (List.mem_of_getElem? (i := 279) rfl)
theorem uZ_280 : Cond.selects RX12 yX12_isSmallOne yX12_isSmallOne ∈ uZ := List.mem_append_left _ (List.mem_of_getElem? (i := 280) rfl)
theorem uZ_281 : Cond.code yX12_findItems cX12_findItems 8 none ∈ uZ := List.mem_append_left _ (List.mem_of_getElem? (i := 281) rfl)
theorem uZ_282 : Cond.methodLink RX12 343 yX12_findItems ∈ uZ := List.mem_append_left _ (List.mem_of_getElem? (i := 282) rfl)
theorem uZ_283 : Cond.instanceMethod yX12_findItems ∈ uZ := List.mem_append_left _ (List.mem_of_getElem? (i := 283) rfl)
theorem uZ_284 : Cond.selects RX12 yX12_findItems yX12_findItems ∈ uZ := List.mem_append_left _ (List.mem_of_getElem? (i := 284) rfl)
theorem uZ_285 : Cond.methodLink RX12 346 yX12_lays ∈ uZ := List.mem_append_left _ (List.mem_of_getElem? (i := 285) rfl)
theorem uZ_286 : Cond.instanceMethod yX12_lays ∈ uZ := List.mem_append_left _ (List.mem_of_getElem? (i := 286) rfl)
theorem uZ_287 : Cond.selects RX12 yX12_lays yX12_lays ∈ uZ := List.mem_append_left _ (List.mem_of_getElem? (i := 287) rfl)
theorem uZ_288 : Cond.methodLink RX12 349 yX12_moves ∈ uZ := List.mem_append_left _ (List.mem_of_getElem? (i := 288) rfl)
theorem uZ_289 : Cond.instanceMethod yX12_moves ∈ uZ := List.mem_append_left _ (List.mem_of_getElem? (i := 289) rfl)
theorem uZ_290 : Cond.selects RX12 yX12_moves yX12_moves ∈ uZ := List.mem_append_left _ (List.mem_of_getElem? (i := 290) rfl)
theorem uZ_291 : Cond.code yX12_drawGroup cX12_drawGroup 12 none ∈ uZ := List.mem_append_left _ (List.mem_of_getElem? (i := 291) rfl)
theorem uZ_292 : Cond.methodLink RX12 352 yX12_drawGroup ∈ uZ := List.mem_append_left _ (List.mem_of_getElem? (i := 292) rfl)
theorem uZ_293 : Cond.instanceMethod yX12_drawGroup ∈ uZ := List.mem_append_left _ (List.mem_of_getElem? (i := 293) rfl)
theorem uZ_294 : Cond.selects RX12 yX12_drawGroup yX12_drawGroup ∈ uZ := List.mem_append_left _ (List.mem_of_getElem? (i := 294) rfl)
theorem uZ_295 : Cond.code yX12_draw cX12_draw 4 (some .int) ∈ uZ := List.mem_append_left _ (List.mem_of_getElem? (i := 295) rfl)
theorem uZ_296 : Cond.code yX12_isDrawn cX12_isDrawn 2 (some .boolean) ∈ uZ := List.mem_append_left _ (List.mem_of_getElem? (i := 296) rfl)
theorem uZ_297 : Cond.methodLink RX12 355 yX12_isDrawn ∈ uZ := List.mem_append_left _ (List.mem_of_getElem? (i := 297) rfl)
theorem uZ_298 : Cond.instanceMethod yX12_isDrawn ∈ uZ := List.mem_append_left _ (List.mem_of_getElem? (i := 298) rfl)
theorem uZ_299 : Cond.selects RX12 yX12_isDrawn yX12_isDrawn ∈ uZ := List.mem_append_left _ (List.mem_of_getElem? (i := 299) rfl)
theorem uZ_300 : Cond.code yX12_box cX12_box 4 (some .int) ∈ uZ := List.mem_append_left _ (List.mem_of_getElem? (i := 300) rfl)
theorem uZ_301 : Cond.code yX12_restOf cX12_restOf 3 (some .int) ∈ uZ := List.mem_append_left _ (List.mem_of_getElem? (i := 301) rfl)
theorem uZ_302 : Cond.code yX12_isIn cX12_isIn 6 (some .boolean) ∈ uZ := List.mem_append_left _ (List.mem_of_getElem? (i := 302) rfl)
theorem uZ_303 : Cond.code yX12_under cX12_under 7 (some .int) ∈ uZ := List.mem_append_left _ (List.mem_of_getElem? (i := 303) rfl)
theorem uZ_304 : Cond.methodLink RX12 358 yX12_isIn ∈ uZ := List.mem_append_left _ (List.mem_of_getElem? (i := 304) rfl)
theorem uZ_305 : Cond.static yX12_isIn ∈ uZ := List.mem_append_left _ (List.mem_of_getElem? (i := 305) rfl)
theorem uZ_306 : Cond.code yX12_letters cX12_letters 3 (some .int) ∈ uZ := List.mem_append_left _ (List.mem_of_getElem? (i := 306) rfl)
theorem uZ_307 : Cond.code yX12_moved cX12_moved 4 (some .int) ∈ uZ := List.mem_append_left _ (List.mem_of_getElem? (i := 307) rfl)
theorem uZ_308 : Cond.code yX12_past cX12_past 6 (some .int) ∈ uZ := List.mem_append_left _ (List.mem_of_getElem? (i := 308) rfl)
theorem uZ_309 : Cond.code yX12_about cX12_about 3 (some .int) ∈ uZ := List.mem_append_left _ (List.mem_of_getElem? (i := 309) rfl)
theorem uZ_310 : Cond.code yX12_letter cX12_letter 3 (some .int) ∈ uZ := List.mem_append_left _ (List.mem_of_getElem? (i := 310) rfl)
theorem uZ_311 : Cond.code yX12_named cX12_named 5 (some .int) ∈ uZ := List.mem_append_left _ (List.mem_of_getElem? (i := 311) rfl)
theorem uZ_312 : Cond.code yX12_groups cX12_groups 3 (some .int) ∈ uZ := List.mem_append_left _ (List.mem_of_getElem? (i := 312) rfl)
theorem uZ_313 : Cond.code yX12_shown cX12_shown 3 (some .int) ∈ uZ := List.mem_append_left _ (List.mem_of_getElem? (i := 313) rfl)
theorem uZ_314 : Cond.code yX12_greatestWorst cX12_greatestWorst 3 (some .int) ∈ uZ := List.mem_append_left _ (List.mem_of_getElem? (i := 314) rfl)
theorem uZ_315 : Cond.methodLink RX12 362 yX12_groups ∈ uZ := List.mem_append_left _ (List.mem_of_getElem? (i := 315) rfl)
theorem uZ_316 : Cond.instanceMethod yX12_groups ∈ uZ := List.mem_append_left _ (List.mem_of_getElem? (i := 316) rfl)
theorem uZ_317 : Cond.selects RX12 yX12_groups yX12_groups ∈ uZ := List.mem_append_left _ (List.mem_of_getElem? (i := 317) rfl)
theorem uZ_318 : Cond.methodLink RX12 365 yX12_shown ∈ uZ := List.mem_append_left _ (List.mem_of_getElem? (i := 318) rfl)
theorem uZ_319 : Cond.instanceMethod yX12_shown ∈ uZ := List.mem_append_left _ (List.mem_of_getElem? (i := 319) rfl)
theorem uZ_320 : Cond.selects RX12 yX12_shown yX12_shown ∈ uZ := List.mem_append_left _ (List.mem_of_getElem? (i := 320) rfl)
theorem uZ_321 : Cond.methodLink RX12 368 yX12_greatestWorst ∈ uZ := List.mem_append_left _ (List.mem_of_getElem? (i := 321) rfl)
theorem uZ_322 : Cond.instanceMethod yX12_greatestWorst ∈ uZ := List.mem_append_left _ (List.mem_of_getElem? (i := 322) rfl)
theorem uZ_323 : Cond.selects RX12 yX12_greatestWorst yX12_greatestWorst ∈ uZ := List.mem_append_left _ (List.mem_of_getElem? (i := 323) rfl)
theorem uZ_324 : Cond.code yX12_count cX12_count 2 (some .int) ∈ uZ := List.mem_append_left _ (List.mem_of_getElem? (i := 324) rfl)
theorem uZ_325 : Cond.code yJ9_abs_0f7a4 cJ9_abs_0f7a4 1 (some .int) ∈ uZ := List.mem_append_left _ (List.mem_of_getElem? (i := 325) rfl)
theorem uZ_326 : Cond.code yJ9_max_7cf53 cJ9_max_7cf53 2 (some .int) ∈ uZ := List.mem_append_left _ (List.mem_of_getElem? (i := 326) rfl)
theorem uZ_327 : Cond.code yJ9_min_7cf53 cJ9_min_7cf53 2 (some .int) ∈ uZ := List.mem_append_left _ (List.mem_of_getElem? (i := 327) rfl)
theorem uZ_fX12 : ∀ w ∈ u_ws RX12 TX12 56, w ∈ uZ := fun w h => List.mem_append_right _ h
theorem uZ_good : GoodIn uZ uZ := goodIn_sub (fun _ h => h) (by decide +kernel)
def uX0 : List Cond := [.code yX0_init cX0_init 1 none,
  .methodLink RX0 3 objectInit,
  .instanceMethod objectInit,
  .code objectInit ⟨#[0xb1]⟩ 1 none,
  .fieldLink RX0 9 "AreaSetter$Changes" "many" "I",
  .arrayClass .int,
  .fieldLink RX0 15 "AreaSetter$Changes" "leaf" "[I",
  .fieldLink RX0 19 "AreaSetter$Changes" "ticks" "[I",
  .fieldLink RX0 22 "AreaSetter$Changes" "sizes" "[I",
  .fieldLink RX0 25 "AreaSetter$Changes" "latestTick" "[I",
  .code yX0_add cX0_add 4 (some .int),
  .code yX10_has cX10_has 2 (some .boolean),
  .fieldLink RX10 9 "AreaSetter$Tree" "boxes" "I",
  .code yX0_tellSizes cX0_tellSizes 6 none,
  .fieldLink RX0 28 "AreaSetter$Tree" "boxes" "I",
  .fieldLink RX0 33 "AreaSetter$Tree" "sizeTold" "[I",
  .fieldLink RX0 40 "AreaSetter$Tree" "parent" "[I",
  .methodLink RX0 36 yX10_has,
  .instanceMethod yX10_has,
  .selects RX10 yX10_has yX10_has,
  .initialized RX10,
  .code yX7_init cX7_init 3 none,
  .methodLink RX7 3 objectInit,
  .methodLink RX7 9 Lib.Math.max.name,
  .static Lib.Math.max.name,
  .initialized "java/lang/Math",
  .code Lib.Math.max.name Lib.Math.max.code 2 (some .int),
  .fieldLink RX7 15 "AreaSetter$Rectangles" "x" "[I",
  .fieldLink RX7 21 "AreaSetter$Rectangles" "y" "[I",
  .fieldLink RX7 24 "AreaSetter$Rectangles" "wide" "[I",
  .fieldLink RX7 27 "AreaSetter$Rectangles" "high" "[I",
  .fieldLink RX7 30 "AreaSetter$Rectangles" "sizes" "[I",
  .code yX5_init cX5_init 1 none,
  .methodLink RX5 3 objectInit,
  .fieldLink RX5 9 "AreaSetter$Plan" "worst" "I",
  .classLink RX5 15 RX7,
  .instantiable RX7 5,
  .initialized RX7,
  .fieldLink RX5 20 "AreaSetter$Plan" "places" "LAreaSetter$Rectangles;",
  .methodLink RX5 17 yX7_init,
  .instanceMethod yX7_init,
  .methodLink RX1 3 objectInit,
  .classLink RX1 9 RX5,
  .instantiable RX5 2,
  .initialized RX5,
  .fieldLink RX1 12 "AreaSetter$Cutter" "plan" "LAreaSetter$Plan;",
  .instanceMethod yX5_init,
  .code yX1_init cX1_init 1 none,
  .code yX7_put cX7_put 6 none,
  .code yX11_shapeOf cX11_shapeOf 5 (some .int),
  .constant RX11 238 (1000000),
  .code yX5_put cX5_put 7 none,
  .fieldLink RX5 28 "AreaSetter$Items" "sizes" "[I",
  .methodLink RX5 38 Lib.Math.max.name,
  .methodLink RX5 24 yX7_put,
  .instanceMethod yX7_put,
  .selects RX7 yX7_put yX7_put,
  .static yX11_shapeOf,
  .initialized RX11,
  .code yX3_sum cX3_sum 3 (some .int),
  .fieldLink RX3 37 "AreaSetter$Items" "ahead" "[I",
  .code yX11_share cX11_share 3 (some .int),
  .fieldLink RX1 71 "AreaSetter$Items" "sizes" "[I",
  .constant RX1 78 (1000000),
  .methodLink RX1 79 Lib.Math.min.name,
  .static Lib.Math.min.name,
  .code Lib.Math.min.name Lib.Math.min.code 2 (some .int),
  .methodLink RX1 54 yX3_sum,
  .instanceMethod yX3_sum,
  .selects RX3 yX3_sum yX3_sum,
  .initialized RX3,
  .methodLink RX1 50 yX1_worstOfCut,
  .static yX1_worstOfCut,
  .initialized RX1,
  .code yX1_worstOfCut cX1_worstOfCut 11 (some .int),
  .methodLink RX1 66 Lib.Math.max.name,
  .static yX11_share,
  .methodLink RX1 62 yX1_leastWorst,
  .static yX1_leastWorst,
  .code yX1_leastWorst cX1_leastWorst 8 (some .int),
  .constant RX1 49 (2147483647),
  .methodLink RX1 43 yX5_put,
  .instanceMethod yX5_put,
  .selects RX5 yX5_put yX5_put,
  .methodLink RX1 39 yX1_layPart,
  .instanceMethod yX1_layPart,
  .selects RX1 yX1_layPart yX1_layPart,
  .code yX1_layPart cX1_layPart 14 none,
  .fieldLink RX1 18 "AreaSetter$Plan" "worst" "I",
  .fieldLink RX1 22 "AreaSetter$Items" "many" "I",
  .fieldLink RX1 27 "AreaSetter$Items" "x" "I",
  .fieldLink RX1 30 "AreaSetter$Items" "y" "I",
  .fieldLink RX1 33 "AreaSetter$Items" "wide" "I",
  .fieldLink RX1 36 "AreaSetter$Items" "high" "I",
  .code yX1_lay cX1_lay 2 none,
  .methodLink RX2 3 objectInit,
  .fieldLink RX2 9 "AreaSetter$Drawings" "made" "I",
  .fieldLink RX2 15 "AreaSetter$Drawings" "ticks" "[I",
  .classLink RX2 19 RX7,
  .fieldLink RX2 24 "AreaSetter$Drawings" "boxes" "LAreaSetter$Rectangles;",
  .arrayClass .boolean,
  .fieldLink RX2 28 "AreaSetter$Drawings" "shown" "[Z",
  .fieldLink RX2 32 "AreaSetter$Drawings" "laid" "[I",
  .fieldLink RX2 35 "AreaSetter$Drawings" "worst" "[I",
  .fieldLink RX2 38 "AreaSetter$Drawings" "rests" "LAreaSetter$Rectangles;",
  .fieldLink RX2 41 "AreaSetter$Drawings" "together" "[I",
  .methodLink RX2 21 yX7_init,
  .code yX2_init cX2_init 1 none,
  .code yX2_keeps cX2_keeps 2 (some .boolean),
  .code yX2_cell cX2_cell 3 (some .int),
  .code yX2_latestCell cX2_latestCell 2 (some .int),
  .methodLink RX2 44 yX2_cell,
  .instanceMethod yX2_cell,
  .selects RX2 yX2_cell yX2_cell,
  .initialized RX2,
  .code yX2_begin cX2_begin 6 none,
  .fieldLink RX2 52 "AreaSetter$Rectangles" "sizes" "[I",
  .methodLink RX2 48 yX2_latestCell,
  .instanceMethod yX2_latestCell,
  .selects RX2 yX2_latestCell yX2_latestCell,
  .code yX2_show cX2_show 7 none,
  .methodLink RX2 55 yX7_put,
  .code yX10_isGroup cX10_isGroup 2 (some .boolean),
  .fieldLink RX10 22 "AreaSetter$Tree" "how" "[I",
  .methodLink RX10 51 yX10_has,
  .code yX2_hasRest cX2_hasRest 3 (some .boolean),
  .methodLink RX2 59 yX10_isGroup,
  .instanceMethod yX10_isGroup,
  .selects RX10 yX10_isGroup yX10_isGroup,
  .code yX2_countShown cX2_countShown 4 (some .int),
  .fieldLink RX2 65 "AreaSetter$Tree" "boxes" "I",
  .code yX2_greatestWorst cX2_greatestWorst 4 (some .int),
  .methodLink RX2 67 Lib.Math.max.name,
  .code yX3_init cX3_init 1 none,
  .methodLink RX3 3 objectInit,
  .fieldLink RX3 9 "AreaSetter$Items" "many" "I",
  .fieldLink RX3 15 "AreaSetter$Items" "together" "I",
  .fieldLink RX3 18 "AreaSetter$Items" "boxes" "[I",
  .fieldLink RX3 22 "AreaSetter$Items" "sizes" "[I",
  .fieldLink RX3 25 "AreaSetter$Items" "x" "I",
  .fieldLink RX3 28 "AreaSetter$Items" "y" "I",
  .fieldLink RX3 31 "AreaSetter$Items" "wide" "I",
  .fieldLink RX3 34 "AreaSetter$Items" "high" "I",
  .code yX10_isLeaf cX10_isLeaf 2 (some .boolean),
  .fieldLink RX3 52 "AreaSetter$Tree" "parent" "[I",
  .fieldLink RX3 55 "AreaSetter$Drawings" "boxes" "LAreaSetter$Rectangles;",
  .fieldLink RX3 60 "AreaSetter$Rectangles" "sizes" "[I",
  .fieldLink RX3 97 "AreaSetter$Tree" "limit" "[I",
  .constantLong RX3 100 (1000),
  .methodLink RX3 90 yX10_isLeaf,
  .instanceMethod yX10_isLeaf,
  .selects RX10 yX10_isLeaf yX10_isLeaf,
  .methodLink RX3 94 yX10_has,
  .methodLink RX3 63 yX2_latestCell,
  .code yX3_isSmall cX3_isSmall 7 (some .boolean),
  .fieldLink RX3 50 "AreaSetter$Tree" "boxes" "I",
  .methodLink RX3 67 yX3_isSmall,
  .static yX3_isSmall,
  .code yX3_countSmall cX3_countSmall 5 (some .int),
  .code yX3_add cX3_add 5 none,
  .code yX3_setFrame cX3_setFrame 3 none,
  .fieldLink RX3 82 "AreaSetter$Rectangles" "x" "[I",
  .fieldLink RX3 84 "AreaSetter$Rectangles" "y" "[I",
  .fieldLink RX3 86 "AreaSetter$Rectangles" "wide" "[I",
  .fieldLink RX3 88 "AreaSetter$Rectangles" "high" "[I",
  .fieldLink RX3 40 "AreaSetter$Tree" "open" "[Z",
  .fieldLink RX3 71 "AreaSetter$Tree" "sorted" "[Z",
  .methodLink RX3 46 yX3_countSmall,
  .static yX3_countSmall,
  .methodLink RX3 74 yX3_add,
  .instanceMethod yX3_add,
  .selects RX3 yX3_add yX3_add,
  .methodLink RX3 78 yX3_setFrame,
  .instanceMethod yX3_setFrame,
  .selects RX3 yX3_setFrame yX3_setFrame,
  .code yX3_gather cX3_gather 8 none,
  .code yX3_begin cX3_begin 5 (some .int),
  .methodLink RX3 102 yX3_sum,
  .methodLink RX8 3 objectInit,
  .classLink RX8 9 RX5,
  .fieldLink RX8 12 "AreaSetter$RowBreaker" "plan" "LAreaSetter$Plan;",
  .fieldLink RX8 18 "AreaSetter$RowBreaker" "worst" "[I",
  .fieldLink RX8 22 "AreaSetter$RowBreaker" "least" "[I",
  .fieldLink RX8 25 "AreaSetter$RowBreaker" "fewest" "[I",
  .code yX8_init cX8_init 1 none,
  .methodLink RX4 3 objectInit,
  .fieldLink RX4 9 "AreaSetter$Layer" "moveCost" "I",
  .classLink RX4 15 RX3,
  .instantiable RX3 9,
  .fieldLink RX4 18 "AreaSetter$Layer" "items" "LAreaSetter$Items;",
  .classLink RX4 22 RX8,
  .instantiable RX8 4,
  .initialized RX8,
  .fieldLink RX4 25 "AreaSetter$Layer" "rowBreaker" "LAreaSetter$RowBreaker;",
  .classLink RX4 29 RX1,
  .instantiable RX1 1,
  .fieldLink RX4 32 "AreaSetter$Layer" "cutter" "LAreaSetter$Cutter;",
  .classLink RX4 36 RX5,
  .fieldLink RX4 39 "AreaSetter$RowBreaker" "plan" "LAreaSetter$Plan;",
  .fieldLink RX4 43 "AreaSetter$Cutter" "plan" "LAreaSetter$Plan;",
  .fieldLink RX4 44 "AreaSetter$Layer" "plans" "[LAreaSetter$Plan;",
  .instanceMethod yX3_init,
  .instanceMethod yX8_init,
  .instanceMethod yX1_init,
  .code yX4_init cX4_init 1 none,
  .fieldLink RX4 94 "AreaSetter$Plan" "worst" "I",
  .fieldLink RX4 52 "AreaSetter$Items" "many" "I",
  .fieldLink RX4 157 "AreaSetter$Items" "x" "I",
  .fieldLink RX4 159 "AreaSetter$Items" "y" "I",
  .methodLink RX4 161 yX5_put,
  .code yX4_layNothing cX4_layNothing 3 none,
  .code yX8_worstOfRow cX8_worstOfRow 8 (some .int),
  .fieldLink RX8 55 "AreaSetter$Items" "high" "I",
  .fieldLink RX8 28 "AreaSetter$Items" "many" "I",
  .fieldLink RX8 62 "AreaSetter$Items" "wide" "I",
  .fieldLink RX8 65 "AreaSetter$Items" "sizes" "[I",
  .methodLink RX8 72 Lib.Math.max.name,
  .methodLink RX8 58 yX3_begin,
  .instanceMethod yX3_begin,
  .selects RX3 yX3_begin yX3_begin,
  .code yX8_findLeast cX8_findLeast 4 none,
  .constant RX8 79 (2147483647),
  .methodLink RX8 80 Lib.Math.min.name,
  .code yX8_findFewest cX8_findFewest 4 none,
  .code yX8_endOfRow cX8_endOfRow 4 (some .int),
  .fieldLink RX8 83 "AreaSetter$Items" "x" "I",
  .fieldLink RX8 86 "AreaSetter$Items" "y" "I",
  .methodLink RX8 89 yX5_put,
  .code yX8_layRow cX8_layRow 9 none,
  .fieldLink RX8 45 "AreaSetter$Plan" "worst" "I",
  .methodLink RX8 34 yX8_worstOfRow,
  .static yX8_worstOfRow,
  .methodLink RX8 38 yX8_findLeast,
  .instanceMethod yX8_findLeast,
  .selects RX8 yX8_findLeast yX8_findLeast,
  .methodLink RX8 42 yX8_findFewest,
  .instanceMethod yX8_findFewest,
  .selects RX8 yX8_findFewest yX8_findFewest,
  .methodLink RX8 47 yX8_endOfRow,
  .instanceMethod yX8_endOfRow,
  .selects RX8 yX8_endOfRow yX8_endOfRow,
  .methodLink RX8 51 yX8_layRow,
  .instanceMethod yX8_layRow,
  .selects RX8 yX8_layRow yX8_layRow,
  .code yX8_lay cX8_lay 6 none,
  .fieldLink RX4 164 "AreaSetter$Items" "wide" "I",
  .fieldLink RX4 166 "AreaSetter$Items" "high" "I",
  .methodLink RX4 168 yX3_begin,
  .code yX4_laySlice cX4_laySlice 7 none,
  .code yX7_distance cX7_distance 6 (some .int),
  .methodLink RX7 37 Lib.Math.abs.name,
  .static Lib.Math.abs.name,
  .code Lib.Math.abs.name Lib.Math.abs.code 1 (some .int),
  .code yX4_movesOf cX4_movesOf 6 (some .int),
  .fieldLink RX4 141 "AreaSetter$Drawings" "made" "I",
  .fieldLink RX4 96 "AreaSetter$Items" "boxes" "[I",
  .fieldLink RX4 147 "AreaSetter$Drawings" "shown" "[Z",
  .fieldLink RX4 151 "AreaSetter$Drawings" "boxes" "LAreaSetter$Rectangles;",
  .methodLink RX4 144 yX2_cell,
  .methodLink RX4 153 yX7_distance,
  .instanceMethod yX7_distance,
  .selects RX7 yX7_distance yX7_distance,
  .constant RX4 128 (2147483647),
  .fieldLink RX4 73 "AreaSetter$Plan" "places" "LAreaSetter$Rectangles;",
  .methodLink RX4 129 yX8_lay,
  .instanceMethod yX8_lay,
  .selects RX8 yX8_lay yX8_lay,
  .methodLink RX4 133 yX1_lay,
  .instanceMethod yX1_lay,
  .selects RX1 yX1_lay yX1_lay,
  .methodLink RX4 134 yX4_laySlice,
  .instanceMethod yX4_laySlice,
  .selects RX4 yX4_laySlice yX4_laySlice,
  .initialized RX4,
  .methodLink RX4 137 yX4_movesOf,
  .instanceMethod yX4_movesOf,
  .selects RX4 yX4_movesOf yX4_movesOf,
  .code yX4_layAs cX4_layAs 9 (some .int),
  .fieldLink RX4 99 "AreaSetter$Rectangles" "x" "[I",
  .fieldLink RX4 104 "AreaSetter$Rectangles" "y" "[I",
  .fieldLink RX4 107 "AreaSetter$Rectangles" "wide" "[I",
  .fieldLink RX4 110 "AreaSetter$Rectangles" "high" "[I",
  .fieldLink RX4 116 "AreaSetter$Drawings" "rests" "LAreaSetter$Rectangles;",
  .fieldLink RX4 122 "AreaSetter$Rectangles" "sizes" "[I",
  .fieldLink RX4 125 "AreaSetter$Items" "sizes" "[I",
  .methodLink RX4 113 yX2_show,
  .instanceMethod yX2_show,
  .selects RX2 yX2_show yX2_show,
  .methodLink RX4 119 yX7_put,
  .code yX4_show cX4_show 5 none,
  .fieldLink RX4 63 "AreaSetter$Tree" "how" "[I",
  .fieldLink RX4 81 "AreaSetter$Drawings" "together" "[I",
  .fieldLink RX4 86 "AreaSetter$Items" "together" "I",
  .fieldLink RX4 88 "AreaSetter$Drawings" "laid" "[I",
  .fieldLink RX4 91 "AreaSetter$Drawings" "worst" "[I",
  .methodLink RX4 48 yX3_gather,
  .instanceMethod yX3_gather,
  .selects RX3 yX3_gather yX3_gather,
  .methodLink RX4 55 yX3_sum,
  .methodLink RX4 59 yX4_layNothing,
  .instanceMethod yX4_layNothing,
  .selects RX4 yX4_layNothing yX4_layNothing,
  .methodLink RX4 69 yX4_layAs,
  .instanceMethod yX4_layAs,
  .selects RX4 yX4_layAs yX4_layAs,
  .methodLink RX4 77 yX4_show,
  .instanceMethod yX4_show,
  .selects RX4 yX4_show yX4_show,
  .code yX4_layGroup cX4_layGroup 7 none,
  .code yX9_init cX9_init 1 none,
  .methodLink RX9 3 objectInit,
  .fieldLink RX9 9 "AreaSetter$Tape" "length" "I",
  .arrayClass .byte,
  .fieldLink RX9 15 "AreaSetter$Tape" "bytes" "[B",
  .code yX10_init cX10_init 1 none,
  .methodLink RX10 3 objectInit,
  .fieldLink RX10 15 "AreaSetter$Tree" "groups" "I",
  .fieldLink RX10 18 "AreaSetter$Tree" "parent" "[I",
  .fieldLink RX10 25 "AreaSetter$Tree" "children" "[I",
  .fieldLink RX10 28 "AreaSetter$Tree" "groupsAround" "[I",
  .fieldLink RX10 31 "AreaSetter$Tree" "sizeTold" "[I",
  .fieldLink RX10 34 "AreaSetter$Tree" "nameLength" "[I",
  .fieldLink RX10 37 "AreaSetter$Tree" "sorted" "[Z",
  .fieldLink RX10 41 "AreaSetter$Tree" "limit" "[I",
  .fieldLink RX10 44 "AreaSetter$Tree" "open" "[Z",
  .fieldLink RX10 47 "AreaSetter$Tree" "names" "[B",
  .methodLink RX6 3 objectInit,
  .classLink RX6 9 RX9,
  .instantiable RX9 2,
  .initialized RX9,
  .fieldLink RX6 12 "AreaSetter$Reader" "tape" "LAreaSetter$Tape;",
  .classLink RX6 18 RX10,
  .instantiable RX10 12,
  .fieldLink RX6 21 "AreaSetter$Reader" "tree" "LAreaSetter$Tree;",
  .fieldLink RX6 25 "AreaSetter$Reader" "faultAt" "I",
  .instanceMethod yX9_init,
  .instanceMethod yX10_init,
  .code yX6_init cX6_init 1 none,
  .code yX9_byteAt cX9_byteAt 2 (some .int),
  .code yX6_isBlank cX6_isBlank 1 (some .boolean),
  .code yX6_kindOf cX6_kindOf 1 (some .int),
  .code yX6_nextToken cX6_nextToken 1 none,
  .fieldLink RX6 41 "AreaSetter$Reader" "to" "I",
  .fieldLink RX6 51 "AreaSetter$Reader" "from" "I",
  .fieldLink RX6 57 "AreaSetter$Tape" "length" "I",
  .fieldLink RX6 54 "AreaSetter$Reader" "kind" "I",
  .methodLink RX6 60 yX9_byteAt,
  .instanceMethod yX9_byteAt,
  .selects RX9 yX9_byteAt yX9_byteAt,
  .methodLink RX6 64 yX6_isBlank,
  .static yX6_isBlank,
  .initialized RX6,
  .methodLink RX6 68 yX6_kindOf,
  .static yX6_kindOf,
  .methodLink RX9 19 yJ0_length_8abf5,
  .instanceMethod yJ0_length_8abf5,
  .selects RJ0 yJ0_length_8abf5 yJ0_length_8abf5,
  .initialized RJ0,
  .code yJ0_length_8abf5 cJ0_length_8abf5 1 (some .int),
  .fieldLink RJ0 9 "java/lang/String" "value" "[B",
  .methodLink RJ0 335 yJ0_coder_7d493,
  .instanceMethod yJ0_coder_7d493,
  .selects RJ0 yJ0_coder_7d493 yJ0_coder_7d493,
  .code yJ0_coder_7d493 cJ0_coder_7d493 1 (some .byte),
  .fieldLink RJ0 38 "java/lang/String" "COMPACT_STRINGS" "Z",
  .fieldLink RJ0 15 "java/lang/String" "coder" "B",
  .methodLink RX9 24 yX9_byteAt,
  .methodLink RX9 28 yJ0_charAt_5068e,
  .instanceMethod yJ0_charAt_5068e,
  .selects RJ0 yJ0_charAt_5068e yJ0_charAt_5068e,
  .code yJ0_charAt_5068e cJ0_charAt_5068e 2 (some .char),
  .methodLink RJ0 492 yJ0_isLatin1_aae02,
  .instanceMethod yJ0_isLatin1_aae02,
  .selects RJ0 yJ0_isLatin1_aae02 yJ0_isLatin1_aae02,
  .code yJ0_isLatin1_aae02 cJ0_isLatin1_aae02 1 (some .boolean),
  .methodLink RJ0 495 yJ1_charAt_3b067,
  .static yJ1_charAt_3b067,
  .initialized RJ1,
  .code yJ1_charAt_3b067 cJ1_charAt_3b067 2 (some .char),
  .methodLink RJ1 9 yJ0_checkIndex_df160,
  .static yJ0_checkIndex_df160,
  .code yJ0_checkIndex_df160 cJ0_checkIndex_df160 2 none,
  .fieldLink RJ0 1053 "jdk/internal/util/Preconditions" "SIOOBE_FORMATTER" "Ljava/util/function/BiFunction;",
  .methodLink RJ0 1059 yJ3_checkIndex_8e157,
  .static yJ3_checkIndex_8e157,
  .initialized RJ3,
  .code yJ3_checkIndex_8e157 cJ3_checkIndex_8e157 3 (some .int),
  .methodLink RJ0 498 yJ2_charAt_3b067,
  .static yJ2_charAt_3b067,
  .initialized RJ2,
  .code yJ2_charAt_3b067 cJ2_charAt_3b067 2 (some .char),
  .methodLink RJ2 67 yJ2_checkIndex_2214a,
  .static yJ2_checkIndex_2214a,
  .code yJ2_checkIndex_2214a cJ2_checkIndex_2214a 2 none,
  .methodLink RJ2 48 yJ2_length_9d52b,
  .static yJ2_length_9d52b,
  .code yJ2_length_9d52b cJ2_length_9d52b 1 (some .int),
  .methodLink RJ2 414 yJ0_checkIndex_df160,
  .methodLink RJ2 71 yJ2_getChar_3b067,
  .static yJ2_getChar_3b067,
  .code yJ2_getChar_3b067 cJ2_getChar_3b067 2 (some .char),
  .fieldLink RJ2 44 "java/lang/StringUTF16" "$assertionsDisabled" "Z",
  .fieldLink RJ2 59 "java/lang/StringUTF16" "HI_BYTE_SHIFT" "I",
  .fieldLink RJ2 63 "java/lang/StringUTF16" "LO_BYTE_SHIFT" "I",
  .code yX9_says cX9_says 5 (some .boolean),
  .methodLink RX6 129 yX9_says,
  .instanceMethod yX9_says,
  .selects RX9 yX9_says yX9_says,
  .code yX6_isWord cX6_isWord 2 (some .boolean),
  .methodLink RX6 82 yX6_isWord,
  .instanceMethod yX6_isWord,
  .selects RX6 yX6_isWord yX6_isWord,
  .code yX6_howOfWord cX6_howOfWord 1 (some .int),
  .code yX10_nameByte cX10_nameByte 3 (some .int),
  .code yX10_isNamed cX10_isNamed 5 (some .boolean),
  .methodLink RX10 71 yX10_nameByte,
  .instanceMethod yX10_nameByte,
  .selects RX10 yX10_nameByte yX10_nameByte,
  .methodLink RX10 61 yX9_byteAt,
  .code yX10_find cX10_find 5 (some .int),
  .methodLink RX10 67 yX10_isNamed,
  .instanceMethod yX10_isNamed,
  .selects RX10 yX10_isNamed yX10_isNamed,
  .methodLink RX10 55 Lib.Math.min.name,
  .code yX10_addBox cX10_addBox 7 none,
  .fieldLink RX6 29 "AreaSetter$Tree" "boxes" "I",
  .fieldLink RX6 38 "AreaSetter$Reader" "within" "I",
  .fieldLink RX6 102 "AreaSetter$Tree" "children" "[I",
  .fieldLink RX6 35 "AreaSetter$Reader" "due" "I",
  .methodLink RX6 96 yX6_howOfWord,
  .instanceMethod yX6_howOfWord,
  .selects RX6 yX6_howOfWord yX6_howOfWord,
  .methodLink RX6 99 yX10_has,
  .methodLink RX6 106 yX10_find,
  .instanceMethod yX10_find,
  .selects RX10 yX10_find yX10_find,
  .methodLink RX6 110 yX10_addBox,
  .instanceMethod yX10_addBox,
  .selects RX10 yX10_addBox yX10_addBox,
  .code yX6_takeName cX6_takeName 1 (some .int),
  .code yX6_takeNumber cX6_takeNumber 3 (some .int),
  .fieldLink RX6 114 "AreaSetter$Tree" "sizeTold" "[I",
  .fieldLink RX6 117 "AreaSetter$Tree" "groupsAround" "[I",
  .fieldLink RX6 120 "AreaSetter$Tree" "how" "[I",
  .fieldLink RX6 32 "AreaSetter$Tree" "groups" "I",
  .code yX6_takeHow cX6_takeHow 3 (some .int),
  .code yX6_takeSorted cX6_takeSorted 1 (some .int),
  .fieldLink RX6 123 "AreaSetter$Tree" "sorted" "[Z",
  .code yX6_takeSign cX6_takeSign 3 (some .int),
  .code yX6_takeClosing cX6_takeClosing 1 (some .int),
  .fieldLink RX6 126 "AreaSetter$Tree" "parent" "[I",
  .methodLink RX6 71 yX6_takeName,
  .instanceMethod yX6_takeName,
  .selects RX6 yX6_takeName yX6_takeName,
  .methodLink RX6 74 yX6_takeNumber,
  .instanceMethod yX6_takeNumber,
  .selects RX6 yX6_takeNumber yX6_takeNumber,
  .methodLink RX6 77 yX6_takeHow,
  .instanceMethod yX6_takeHow,
  .selects RX6 yX6_takeHow yX6_takeHow,
  .methodLink RX6 86 yX6_takeSorted,
  .instanceMethod yX6_takeSorted,
  .selects RX6 yX6_takeSorted yX6_takeSorted,
  .methodLink RX6 89 yX6_takeSign,
  .instanceMethod yX6_takeSign,
  .selects RX6 yX6_takeSign yX6_takeSign,
  .methodLink RX6 93 yX6_takeClosing,
  .instanceMethod yX6_takeClosing,
  .selects RX6 yX6_takeClosing yX6_takeClosing,
  .code yX6_take cX6_take 1 (some .int),
  .methodLink RX6 44 yX6_nextToken,
  .instanceMethod yX6_nextToken,
  .selects RX6 yX6_nextToken yX6_nextToken,
  .methodLink RX6 47 yX6_take,
  .instanceMethod yX6_take,
  .selects RX6 yX6_take yX6_take,
  .code yX6_read cX6_read 3 (some .int),
  .code yX7_tell cX7_tell 3 (some .int),
  .code yX7_holds cX7_holds 4 (some .boolean),
  .code yX9_add cX9_add 2 none,
  .methodLink RX11 1 objectInit,
  .classLink RX11 7 RX6,
  .instantiable RX6 8,
  .fieldLink RX11 10 "AreaSetter" "reader" "LAreaSetter$Reader;",
  .fieldLink RX11 16 "AreaSetter$Reader" "tape" "LAreaSetter$Tape;",
  .fieldLink RX11 20 "AreaSetter" "tape" "LAreaSetter$Tape;",
  .classLink RX11 21 RX0,
  .instantiable RX0 5,
  .initialized RX0,
  .fieldLink RX11 24 "AreaSetter" "changes" "LAreaSetter$Changes;",
  .classLink RX11 28 RX2,
  .instantiable RX2 8,
  .fieldLink RX11 31 "AreaSetter" "drawings" "LAreaSetter$Drawings;",
  .classLink RX11 35 RX4,
  .instantiable RX4 5,
  .fieldLink RX11 38 "AreaSetter" "layer" "LAreaSetter$Layer;",
  .fieldLink RX11 42 "AreaSetter" "sizesNow" "[I",
  .classLink RX11 46 RX10,
  .fieldLink RX11 49 "AreaSetter" "kept" "LAreaSetter$Tree;",
  .fieldLink RX11 53 "AreaSetter" "sheetWide" "I",
  .fieldLink RX11 57 "AreaSetter" "sheetHigh" "I",
  .instanceMethod yX6_init,
  .instanceMethod yX0_init,
  .instanceMethod yX2_init,
  .instanceMethod yX4_init,
  .code yX11_init cX11_init 1 none,
  .code yX11_isFrom cX11_isFrom 3 (some .boolean),
  .code yX11_sheet cX11_sheet 3 (some .boolean),
  .methodLink RX11 60 yX11_isFrom,
  .static yX11_isFrom,
  .code yX11_price cX11_price 2 (some .boolean),
  .fieldLink RX11 64 "AreaSetter$Layer" "moveCost" "I",
  .code yX11_feed cX11_feed 6 (some .int),
  .fieldLink RX11 67 "AreaSetter$Tape" "length" "I",
  .methodLink RX11 72 yX9_add,
  .instanceMethod yX9_add,
  .selects RX9 yX9_add yX9_add,
  .code yX11_end cX11_end 2 (some .int),
  .fieldLink RX11 80 "AreaSetter$Reader" "tree" "LAreaSetter$Tree;",
  .fieldLink RX11 83 "AreaSetter$Changes" "many" "I",
  .fieldLink RX11 86 "AreaSetter$Drawings" "made" "I",
  .fieldLink RX11 89 "AreaSetter$Tree" "boxes" "I",
  .methodLink RX11 76 yX6_read,
  .instanceMethod yX6_read,
  .selects RX6 yX6_read yX6_read,
  .code yX11_tree cX11_tree 3 (some .int),
  .code yX11_place cX11_place 1 (some .int),
  .fieldLink RX11 92 "AreaSetter$Reader" "faultAt" "I",
  .code yX11_isTick cX11_isTick 1 (some .boolean),
  .constant RX11 102 (999999),
  .methodLink RX11 95 yX10_isLeaf,
  .methodLink RX11 99 yX11_isTick,
  .static yX11_isTick,
  .methodLink RX11 103 yX0_add,
  .instanceMethod yX0_add,
  .selects RX0 yX0_add yX0_add,
  .code yX11_size cX11_size 4 (some .int),
  .code yX11_rest cX11_rest 4 (some .boolean),
  .fieldLink RX11 109 "AreaSetter$Tree" "limit" "[I",
  .fieldLink RX11 112 "AreaSetter$Tree" "open" "[Z",
  .methodLink RX11 106 yX10_isGroup,
  .methodLink RX11 116 yX0_tellSizes,
  .instanceMethod yX0_tellSizes,
  .selects RX0 yX0_tellSizes yX0_tellSizes,
  .methodLink RX11 120 yX2_begin,
  .instanceMethod yX2_begin,
  .selects RX2 yX2_begin yX2_begin,
  .methodLink RX11 124 yX2_show,
  .methodLink RX11 128 yX4_layGroup,
  .instanceMethod yX4_layGroup,
  .selects RX4 yX4_layGroup yX4_layGroup,
  .code yX11_draw cX11_draw 3 (some .int),
  .fieldLink RX11 141 "AreaSetter$Drawings" "boxes" "LAreaSetter$Rectangles;",
  .fieldLink RX11 144 "AreaSetter$Rectangles" "sizes" "[I",
  .fieldLink RX11 147 "AreaSetter$Drawings" "shown" "[Z",
  .fieldLink RX11 150 "AreaSetter$Drawings" "laid" "[I",
  .fieldLink RX11 153 "AreaSetter$Drawings" "worst" "[I",
  .methodLink RX11 132 yX10_has,
  .methodLink RX11 135 yX2_latestCell,
  .methodLink RX11 156 yX7_tell,
  .instanceMethod yX7_tell,
  .selects RX7 yX7_tell yX7_tell,
  .code yX11_box cX11_box 4 (some .int),
  .fieldLink RX11 160 "AreaSetter$Drawings" "together" "[I",
  .fieldLink RX11 163 "AreaSetter$Drawings" "rests" "LAreaSetter$Rectangles;",
  .code yX11_restOf cX11_restOf 3 (some .int),
  .methodLink RX11 166 yX7_holds,
  .instanceMethod yX7_holds,
  .selects RX7 yX7_holds yX7_holds,
  .methodLink RX11 169 yX2_hasRest,
  .instanceMethod yX2_hasRest,
  .selects RX2 yX2_hasRest yX2_hasRest,
  .code yX11_under cX11_under 6 (some .int),
  .fieldLink RX11 173 "AreaSetter$Rectangles" "wide" "[I",
  .fieldLink RX11 176 "AreaSetter$Rectangles" "high" "[I",
  .fieldLink RX11 179 "AreaSetter$Tree" "nameLength" "[I",
  .methodLink RX11 182 Lib.Math.min.name,
  .code yX11_letters cX11_letters 4 (some .int),
  .methodLink RX11 187 yX2_cell,
  .methodLink RX11 190 yX7_distance,
  .code yX11_moved cX11_moved 4 (some .int),
  .classLink RX11 197 "java/util/NoSuchElementException",
  .initialized "java/util/NoSuchElementException",
  .fieldLink RX11 200 "AreaSetter$Drawings" "ticks" "[I",
  .methodLink RX11 194 yX2_keeps,
  .instanceMethod yX2_keeps,
  .selects RX2 yX2_keeps yX2_keeps,
  .code yX11_past cX11_past 5 (some .int),
  .code yX11_aboutGroup cX11_aboutGroup 3 (some .int),
  .fieldLink RX11 232 "AreaSetter$Tree" "how" "[I",
  .fieldLink RX11 235 "AreaSetter$Tree" "sorted" "[Z",
  .fieldLink RX11 203 "AreaSetter$Tree" "parent" "[I",
  .fieldLink RX11 206 "AreaSetter$Tree" "children" "[I",
  .fieldLink RX11 209 "AreaSetter$Tree" "groupsAround" "[I",
  .methodLink RX11 212 yX11_aboutGroup,
  .instanceMethod yX11_aboutGroup,
  .selects RX11 yX11_aboutGroup yX11_aboutGroup,
  .code yX11_about cX11_about 3 (some .int),
  .code yX11_letter cX11_letter 3 (some .int),
  .methodLink RX11 215 yX10_nameByte,
  .methodLink RX11 218 yX10_find,
  .code yX11_named cX11_named 2 (some .int),
  .code yX11_sizeIn cX11_sizeIn 3 (some .int),
  .fieldLink RX11 222 "AreaSetter$Tree" "groups" "I",
  .methodLink RX11 225 yX2_countShown,
  .instanceMethod yX2_countShown,
  .selects RX2 yX2_countShown yX2_countShown,
  .methodLink RX11 229 yX2_greatestWorst,
  .instanceMethod yX2_greatestWorst,
  .selects RX2 yX2_greatestWorst yX2_greatestWorst,
  .code yX11_count cX11_count 2 (some .int),
  .code yJ6_bitCount_0f7a4 cJ6_bitCount_0f7a4 1 (some .int),
  .constant RJ6 265 (1431655765),
  .constant RJ6 266 (858993459),
  .constant RJ6 267 (252645135),
  .code yJ9_abs_0f7a4 cJ9_abs_0f7a4 1 (some .int),
  .code yJ9_max_7cf53 cJ9_max_7cf53 2 (some .int),
  .code yJ9_min_7cf53 cJ9_min_7cf53 2 (some .int)]
def uX : List Cond := uX0 ++ (wsX00 ++ wsX10 ++ wsX20 ++ wsX30 ++ wsX40 ++ wsX50 ++ wsX60 ++ wsX70 ++ wsX80 ++ wsX90 ++ wsX100 ++ wsX110)
theorem uX_0 : Cond.code yX0_init cX0_init 1 none ∈ uX := List.mem_append_left _ (List.mem_of_getElem? (i := 0) rfl)
theorem uX_1 : Cond.methodLink RX0 3 objectInit ∈ uX := List.mem_append_left _ (List.mem_of_getElem? (i := 1) rfl)
theorem uX_2 : Cond.instanceMethod objectInit ∈ uX := List.mem_append_left _ (List.mem_of_getElem? (i := 2) rfl)
theorem uX_3 : Cond.code objectInit ⟨#[0xb1]⟩ 1 none ∈ uX := List.mem_append_left _ (List.mem_of_getElem? (i := 3) rfl)
theorem uX_4 : Cond.fieldLink RX0 9 "AreaSetter$Changes" "many" "I" ∈ uX := List.mem_append_left _ (List.mem_of_getElem? (i := 4) rfl)
theorem uX_5 : Cond.arrayClass .int ∈ uX := List.mem_append_left _ (List.mem_of_getElem? (i := 5) rfl)
theorem uX_6 : Cond.fieldLink RX0 15 "AreaSetter$Changes" "leaf" "[I" ∈ uX := List.mem_append_left _ (List.mem_of_getElem? (i := 6) rfl)
theorem uX_7 : Cond.fieldLink RX0 19 "AreaSetter$Changes" "ticks" "[I" ∈ uX := List.mem_append_left _ (List.mem_of_getElem? (i := 7) rfl)
theorem uX_8 : Cond.fieldLink RX0 22 "AreaSetter$Changes" "sizes" "[I" ∈ uX := List.mem_append_left _ (List.mem_of_getElem? (i := 8) rfl)
theorem uX_9 : Cond.fieldLink RX0 25 "AreaSetter$Changes" "latestTick" "[I" ∈ uX := List.mem_append_left _ (List.mem_of_getElem? (i := 9) rfl)
theorem uX_10 : Cond.code yX0_add cX0_add 4 (some .int) ∈ uX := List.mem_append_left _ (List.mem_of_getElem? (i := 10) rfl)
theorem uX_11 : Cond.code yX10_has cX10_has 2 (some .boolean) ∈ uX := List.mem_append_left _ (List.mem_of_getElem? (i := 11) rfl)
theorem uX_12 : Cond.fieldLink RX10 9 "AreaSetter$Tree" "boxes" "I" ∈ uX := List.mem_append_left _ (List.mem_of_getElem? (i := 12) rfl)
theorem uX_13 : Cond.code yX0_tellSizes cX0_tellSizes 6 none ∈ uX := List.mem_append_left _ (List.mem_of_getElem? (i := 13) rfl)
theorem uX_14 : Cond.fieldLink RX0 28 "AreaSetter$Tree" "boxes" "I" ∈ uX := List.mem_append_left _ (List.mem_of_getElem? (i := 14) rfl)
theorem uX_15 : Cond.fieldLink RX0 33 "AreaSetter$Tree" "sizeTold" "[I" ∈ uX := List.mem_append_left _ (List.mem_of_getElem? (i := 15) rfl)
theorem uX_16 : Cond.fieldLink RX0 40 "AreaSetter$Tree" "parent" "[I" ∈ uX := List.mem_append_left _ (List.mem_of_getElem? (i := 16) rfl)
theorem uX_17 : Cond.methodLink RX0 36 yX10_has ∈ uX := List.mem_append_left _ (List.mem_of_getElem? (i := 17) rfl)
theorem uX_18 : Cond.instanceMethod yX10_has ∈ uX := List.mem_append_left _ (List.mem_of_getElem? (i := 18) rfl)
theorem uX_19 : Cond.selects RX10 yX10_has yX10_has ∈ uX := List.mem_append_left _ (List.mem_of_getElem? (i := 19) rfl)
theorem uX_20 : Cond.initialized RX10 ∈ uX := List.mem_append_left _ (List.mem_of_getElem? (i := 20) rfl)
theorem uX_21 : Cond.code yX7_init cX7_init 3 none ∈ uX := List.mem_append_left _ (List.mem_of_getElem? (i := 21) rfl)
theorem uX_22 : Cond.methodLink RX7 3 objectInit ∈ uX := List.mem_append_left _ (List.mem_of_getElem? (i := 22) rfl)
theorem uX_23 : Cond.methodLink RX7 9 Lib.Math.max.name ∈ uX := List.mem_append_left _ (List.mem_of_getElem? (i := 23) rfl)
theorem uX_24 : Cond.static Lib.Math.max.name ∈ uX := List.mem_append_left _ (List.mem_of_getElem? (i := 24) rfl)
theorem uX_25 : Cond.initialized "java/lang/Math" ∈ uX := List.mem_append_left _ (List.mem_of_getElem? (i := 25) rfl)
theorem uX_26 : Cond.code Lib.Math.max.name Lib.Math.max.code 2 (some .int) ∈ uX := List.mem_append_left _ (List.mem_of_getElem? (i := 26) rfl)
theorem uX_27 : Cond.fieldLink RX7 15 "AreaSetter$Rectangles" "x" "[I" ∈ uX := List.mem_append_left _ (List.mem_of_getElem? (i := 27) rfl)
theorem uX_28 : Cond.fieldLink RX7 21 "AreaSetter$Rectangles" "y" "[I" ∈ uX := List.mem_append_left _ (List.mem_of_getElem? (i := 28) rfl)
theorem uX_29 : Cond.fieldLink RX7 24 "AreaSetter$Rectangles" "wide" "[I" ∈ uX := List.mem_append_left _ (List.mem_of_getElem? (i := 29) rfl)
theorem uX_30 : Cond.fieldLink RX7 27 "AreaSetter$Rectangles" "high" "[I" ∈ uX := List.mem_append_left _ (List.mem_of_getElem? (i := 30) rfl)
theorem uX_31 : Cond.fieldLink RX7 30 "AreaSetter$Rectangles" "sizes" "[I" ∈ uX := List.mem_append_left _ (List.mem_of_getElem? (i := 31) rfl)
theorem uX_32 : Cond.code yX5_init cX5_init 1 none ∈ uX := List.mem_append_left _ (List.mem_of_getElem? (i := 32) rfl)
theorem uX_33 : Cond.methodLink RX5 3 objectInit ∈ uX := List.mem_append_left _ (List.mem_of_getElem? (i := 33) rfl)
theorem uX_34 : Cond.fieldLink RX5 9 "AreaSetter$Plan" "worst" "I" ∈ uX := List.mem_append_left _ (List.mem_of_getElem? (i := 34) rfl)
theorem uX_35 : Cond.classLink RX5 15 RX7 ∈ uX := List.mem_append_left _ (List.mem_of_getElem? (i := 35) rfl)
theorem uX_36 : Cond.instantiable RX7 5 ∈ uX := List.mem_append_left _ (List.mem_of_getElem? (i := 36) rfl)
theorem uX_37 : Cond.initialized RX7 ∈ uX := List.mem_append_left _ (List.mem_of_getElem? (i := 37) rfl)
theorem uX_38 : Cond.fieldLink RX5 20 "AreaSetter$Plan" "places" "LAreaSetter$Rectangles;" ∈ uX := List.mem_append_left _ (List.mem_of_getElem? (i := 38) rfl)
theorem uX_39 : Cond.methodLink RX5 17 yX7_init ∈ uX := List.mem_append_left _ (List.mem_of_getElem? (i := 39) rfl)
theorem uX_40 : Cond.instanceMethod yX7_init ∈ uX := List.mem_append_left _ (List.mem_of_getElem? (i := 40) rfl)
theorem uX_41 : Cond.methodLink RX1 3 objectInit ∈ uX := List.mem_append_left _ (List.mem_of_getElem? (i := 41) rfl)
theorem uX_42 : Cond.classLink RX1 9 RX5 ∈ uX := List.mem_append_left _ (List.mem_of_getElem? (i := 42) rfl)
theorem uX_43 : Cond.instantiable RX5 2 ∈ uX := List.mem_append_left _ (List.mem_of_getElem? (i := 43) rfl)
theorem uX_44 : Cond.initialized RX5 ∈ uX := List.mem_append_left _ (List.mem_of_getElem? (i := 44) rfl)
theorem uX_45 : Cond.fieldLink RX1 12 "AreaSetter$Cutter" "plan" "LAreaSetter$Plan;" ∈ uX := List.mem_append_left _ (List.mem_of_getElem? (i := 45) rfl)
theorem uX_46 : Cond.instanceMethod yX5_init ∈ uX := List.mem_append_left _ (List.mem_of_getElem? (i := 46) rfl)
theorem uX_47 : Cond.code yX1_init cX1_init 1 none ∈ uX := List.mem_append_left _ (List.mem_of_getElem? (i := 47) rfl)
theorem uX_48 : Cond.code yX7_put cX7_put 6 none ∈ uX := List.mem_append_left _ (List.mem_of_getElem? (i := 48) rfl)
theorem uX_49 : Cond.code yX11_shapeOf cX11_shapeOf 5 (some .int) ∈ uX := List.mem_append_left _ (List.mem_of_getElem? (i := 49) rfl)
theorem uX_50 : Cond.constant RX11 238 (1000000) ∈ uX := List.mem_append_left _ (List.mem_of_getElem? (i := 50) rfl)
theorem uX_51 : Cond.code yX5_put cX5_put 7 none ∈ uX := List.mem_append_left _ (List.mem_of_getElem? (i := 51) rfl)
theorem uX_52 : Cond.fieldLink RX5 28 "AreaSetter$Items" "sizes" "[I" ∈ uX := List.mem_append_left _ (List.mem_of_getElem? (i := 52) rfl)
theorem uX_53 : Cond.methodLink RX5 38 Lib.Math.max.name ∈ uX := List.mem_append_left _ (List.mem_of_getElem? (i := 53) rfl)
theorem uX_54 : Cond.methodLink RX5 24 yX7_put ∈ uX := List.mem_append_left _ (List.mem_of_getElem? (i := 54) rfl)
theorem uX_55 : Cond.instanceMethod yX7_put ∈ uX := List.mem_append_left _ (List.mem_of_getElem? (i := 55) rfl)
theorem uX_56 : Cond.selects RX7 yX7_put yX7_put ∈ uX := List.mem_append_left _ (List.mem_of_getElem? (i := 56) rfl)
theorem uX_57 : Cond.static yX11_shapeOf ∈ uX := List.mem_append_left _ (List.mem_of_getElem? (i := 57) rfl)
theorem uX_58 : Cond.initialized RX11 ∈ uX := List.mem_append_left _ (List.mem_of_getElem? (i := 58) rfl)
theorem uX_59 : Cond.code yX3_sum cX3_sum 3 (some .int) ∈ uX := List.mem_append_left _ (List.mem_of_getElem? (i := 59) rfl)
theorem uX_60 : Cond.fieldLink RX3 37 "AreaSetter$Items" "ahead" "[I" ∈ uX := List.mem_append_left _ (List.mem_of_getElem? (i := 60) rfl)
theorem uX_61 : Cond.code yX11_share cX11_share 3 (some .int) ∈ uX := List.mem_append_left _ (List.mem_of_getElem? (i := 61) rfl)
theorem uX_62 : Cond.fieldLink RX1 71 "AreaSetter$Items" "sizes" "[I" ∈ uX := List.mem_append_left _ (List.mem_of_getElem? (i := 62) rfl)
theorem uX_63 : Cond.constant RX1 78 (1000000) ∈ uX := List.mem_append_left _ (List.mem_of_getElem? (i := 63) rfl)
theorem uX_64 : Cond.methodLink RX1 79 Lib.Math.min.name ∈ uX := List.mem_append_left _ (List.mem_of_getElem? (i := 64) rfl)
theorem uX_65 : Cond.static Lib.Math.min.name ∈ uX := List.mem_append_left _ (List.mem_of_getElem? (i := 65) rfl)
theorem uX_66 : Cond.code Lib.Math.min.name Lib.Math.min.code 2 (some .int) ∈ uX := List.mem_append_left _ (List.mem_of_getElem? (i := 66) rfl)
theorem uX_67 : Cond.methodLink RX1 54 yX3_sum ∈ uX := List.mem_append_left _ (List.mem_of_getElem? (i := 67) rfl)
theorem uX_68 : Cond.instanceMethod yX3_sum ∈ uX := List.mem_append_left _ (List.mem_of_getElem? (i := 68) rfl)
theorem uX_69 : Cond.selects RX3 yX3_sum yX3_sum ∈ uX := List.mem_append_left _ (List.mem_of_getElem? (i := 69) rfl)
theorem uX_70 : Cond.initialized RX3 ∈ uX := List.mem_append_left _ (List.mem_of_getElem? (i := 70) rfl)
theorem uX_71 : Cond.methodLink RX1 50 yX1_worstOfCut ∈ uX := List.mem_append_left _ (List.mem_of_getElem? (i := 71) rfl)
theorem uX_72 : Cond.static yX1_worstOfCut ∈ uX := List.mem_append_left _ (List.mem_of_getElem? (i := 72) rfl)
theorem uX_73 : Cond.initialized RX1 ∈ uX := List.mem_append_left _ (List.mem_of_getElem? (i := 73) rfl)
theorem uX_74 : Cond.code yX1_worstOfCut cX1_worstOfCut 11 (some .int) ∈ uX := List.mem_append_left _ (List.mem_of_getElem? (i := 74) rfl)
theorem uX_75 : Cond.methodLink RX1 66 Lib.Math.max.name ∈ uX := List.mem_append_left _ (List.mem_of_getElem? (i := 75) rfl)
theorem uX_76 : Cond.static yX11_share ∈ uX := List.mem_append_left _ (List.mem_of_getElem? (i := 76) rfl)
theorem uX_77 : Cond.methodLink RX1 62 yX1_leastWorst ∈ uX := List.mem_append_left _ (List.mem_of_getElem? (i := 77) rfl)
theorem uX_78 : Cond.static yX1_leastWorst ∈ uX := List.mem_append_left _ (List.mem_of_getElem? (i := 78) rfl)
theorem uX_79 : Cond.code yX1_leastWorst cX1_leastWorst 8 (some .int) ∈ uX := List.mem_append_left _ (List.mem_of_getElem? (i := 79) rfl)
theorem uX_80 : Cond.constant RX1 49 (2147483647) ∈ uX := List.mem_append_left _ (List.mem_of_getElem? (i := 80) rfl)
theorem uX_81 : Cond.methodLink RX1 43 yX5_put ∈ uX := List.mem_append_left _ (List.mem_of_getElem? (i := 81) rfl)
theorem uX_82 : Cond.instanceMethod yX5_put ∈ uX := List.mem_append_left _ (List.mem_of_getElem? (i := 82) rfl)
theorem uX_83 : Cond.selects RX5 yX5_put yX5_put ∈ uX := List.mem_append_left _ (List.mem_of_getElem? (i := 83) rfl)
theorem uX_84 : Cond.methodLink RX1 39 yX1_layPart ∈ uX := List.mem_append_left _ (List.mem_of_getElem? (i := 84) rfl)
theorem uX_85 : Cond.instanceMethod yX1_layPart ∈ uX := List.mem_append_left _ (List.mem_of_getElem? (i := 85) rfl)
theorem uX_86 : Cond.selects RX1 yX1_layPart yX1_layPart ∈ uX := List.mem_append_left _ (List.mem_of_getElem? (i := 86) rfl)
theorem uX_87 : Cond.code yX1_layPart cX1_layPart 14 none ∈ uX := List.mem_append_left _ (List.mem_of_getElem? (i := 87) rfl)
theorem uX_88 : Cond.fieldLink RX1 18 "AreaSetter$Plan" "worst" "I" ∈ uX := List.mem_append_left _ (List.mem_of_getElem? (i := 88) rfl)
theorem uX_89 : Cond.fieldLink RX1 22 "AreaSetter$Items" "many" "I" ∈ uX := List.mem_append_left _ (List.mem_of_getElem? (i := 89) rfl)
theorem uX_90 : Cond.fieldLink RX1 27 "AreaSetter$Items" "x" "I" ∈ uX := List.mem_append_left _ (List.mem_of_getElem? (i := 90) rfl)
theorem uX_91 : Cond.fieldLink RX1 30 "AreaSetter$Items" "y" "I" ∈ uX := List.mem_append_left _ (List.mem_of_getElem? (i := 91) rfl)
theorem uX_92 : Cond.fieldLink RX1 33 "AreaSetter$Items" "wide" "I" ∈ uX := List.mem_append_left _ (List.mem_of_getElem? (i := 92) rfl)
theorem uX_93 : Cond.fieldLink RX1 36 "AreaSetter$Items" "high" "I" ∈ uX := List.mem_append_left _ (List.mem_of_getElem? (i := 93) rfl)
theorem uX_94 : Cond.code yX1_lay cX1_lay 2 none ∈ uX := List.mem_append_left _ (List.mem_of_getElem? (i := 94) rfl)
theorem uX_95 : Cond.methodLink RX2 3 objectInit ∈ uX := List.mem_append_left _ (List.mem_of_getElem? (i := 95) rfl)
theorem uX_96 : Cond.fieldLink RX2 9 "AreaSetter$Drawings" "made" "I" ∈ uX := List.mem_append_left _ (List.mem_of_getElem? (i := 96) rfl)
theorem uX_97 : Cond.fieldLink RX2 15 "AreaSetter$Drawings" "ticks" "[I" ∈ uX := List.mem_append_left _ (List.mem_of_getElem? (i := 97) rfl)
theorem uX_98 : Cond.classLink RX2 19 RX7 ∈ uX := List.mem_append_left _ (List.mem_of_getElem? (i := 98) rfl)
theorem uX_99 : Cond.fieldLink RX2 24 "AreaSetter$Drawings" "boxes" "LAreaSetter$Rectangles;" ∈ uX := List.mem_append_left _ (List.mem_of_getElem? (i := 99) rfl)
theorem uX_100 : Cond.arrayClass .boolean ∈ uX := List.mem_append_left _ (List.mem_of_getElem? (i := 100) rfl)
theorem uX_101 : Cond.fieldLink RX2 28 "AreaSetter$Drawings" "shown" "[Z" ∈ uX := List.mem_append_left _ (List.mem_of_getElem? (i := 101) rfl)
theorem uX_102 : Cond.fieldLink RX2 32 "AreaSetter$Drawings" "laid" "[I" ∈ uX := List.mem_append_left _ (List.mem_of_getElem? (i := 102) rfl)
theorem uX_103 : Cond.fieldLink RX2 35 "AreaSetter$Drawings" "worst" "[I" ∈ uX := List.mem_append_left _ (List.mem_of_getElem? (i := 103) rfl)
theorem uX_104 : Cond.fieldLink RX2 38 "AreaSetter$Drawings" "rests" "LAreaSetter$Rectangles;" ∈ uX := List.mem_append_left _ (List.mem_of_getElem? (i := 104) rfl)
theorem uX_105 : Cond.fieldLink RX2 41 "AreaSetter$Drawings" "together" "[I" ∈ uX := List.mem_append_left _ (List.mem_of_getElem? (i := 105) rfl)
theorem uX_106 : Cond.methodLink RX2 21 yX7_init ∈ uX := List.mem_append_left _ (List.mem_of_getElem? (i := 106) rfl)
theorem uX_107 : Cond.code yX2_init cX2_init 1 none ∈ uX := List.mem_append_left _ (List.mem_of_getElem? (i := 107) rfl)
theorem uX_108 : Cond.code yX2_keeps cX2_keeps 2 (some .boolean) ∈ uX := List.mem_append_left _ (List.mem_of_getElem? (i := 108) rfl)
theorem uX_109 : Cond.code yX2_cell cX2_cell 3 (some .int) ∈ uX := List.mem_append_left _ (List.mem_of_getElem? (i := 109) rfl)
theorem uX_110 : Cond.code yX2_latestCell cX2_latestCell 2 (some .int) ∈ uX := List.mem_append_left _ (List.mem_of_getElem? (i := 110) rfl)
theorem uX_111 : Cond.methodLink RX2 44 yX2_cell ∈ uX := List.mem_append_left _ (List.mem_of_getElem? (i := 111) rfl)
theorem uX_112 : Cond.instanceMethod yX2_cell ∈ uX := List.mem_append_left _ (List.mem_of_getElem? (i := 112) rfl)
theorem uX_113 : Cond.selects RX2 yX2_cell yX2_cell ∈ uX := List.mem_append_left _ (List.mem_of_getElem? (i := 113) rfl)
theorem uX_114 : Cond.initialized RX2 ∈ uX := List.mem_append_left _ (List.mem_of_getElem? (i := 114) rfl)
theorem uX_115 : Cond.code yX2_begin cX2_begin 6 none ∈ uX := List.mem_append_left _ (List.mem_of_getElem? (i := 115) rfl)
theorem uX_116 : Cond.fieldLink RX2 52 "AreaSetter$Rectangles" "sizes" "[I" ∈ uX := List.mem_append_left _ (List.mem_of_getElem? (i := 116) rfl)
theorem uX_117 : Cond.methodLink RX2 48 yX2_latestCell ∈ uX := List.mem_append_left _ (List.mem_of_getElem? (i := 117) rfl)
theorem uX_118 : Cond.instanceMethod yX2_latestCell ∈ uX := List.mem_append_left _ (List.mem_of_getElem? (i := 118) rfl)
theorem uX_119 : Cond.selects RX2 yX2_latestCell yX2_latestCell ∈ uX := List.mem_append_left _ (List.mem_of_getElem? (i := 119) rfl)
theorem uX_120 : Cond.code yX2_show cX2_show 7 none ∈ uX := List.mem_append_left _ (List.mem_of_getElem? (i := 120) rfl)
theorem uX_121 : Cond.methodLink RX2 55 yX7_put ∈ uX := List.mem_append_left _ (List.mem_of_getElem? (i := 121) rfl)
theorem uX_122 : Cond.code yX10_isGroup cX10_isGroup 2 (some .boolean) ∈ uX := List.mem_append_left _ (List.mem_of_getElem? (i := 122) rfl)
theorem uX_123 : Cond.fieldLink RX10 22 "AreaSetter$Tree" "how" "[I" ∈ uX := List.mem_append_left _ (List.mem_of_getElem? (i := 123) rfl)
theorem uX_124 : Cond.methodLink RX10 51 yX10_has ∈ uX := List.mem_append_left _ (List.mem_of_getElem? (i := 124) rfl)
theorem uX_125 : Cond.code yX2_hasRest cX2_hasRest 3 (some .boolean) ∈ uX := List.mem_append_left _ (List.mem_of_getElem? (i := 125) rfl)
theorem uX_126 : Cond.methodLink RX2 59 yX10_isGroup ∈ uX := List.mem_append_left _ (List.mem_of_getElem? (i := 126) rfl)
theorem uX_127 : Cond.instanceMethod yX10_isGroup ∈ uX := List.mem_append_left _ (List.mem_of_getElem? (i := 127) rfl)
theorem uX_128 : Cond.selects RX10 yX10_isGroup yX10_isGroup ∈ uX := List.mem_append_left _ (List.mem_of_getElem? (i := 128) rfl)
theorem uX_129 : Cond.code yX2_countShown cX2_countShown 4 (some .int) ∈ uX := List.mem_append_left _ (List.mem_of_getElem? (i := 129) rfl)
theorem uX_130 : Cond.fieldLink RX2 65 "AreaSetter$Tree" "boxes" "I" ∈ uX := List.mem_append_left _ (List.mem_of_getElem? (i := 130) rfl)
theorem uX_131 : Cond.code yX2_greatestWorst cX2_greatestWorst 4 (some .int) ∈ uX := List.mem_append_left _ (List.mem_of_getElem? (i := 131) rfl)
theorem uX_132 : Cond.methodLink RX2 67 Lib.Math.max.name ∈ uX := List.mem_append_left _ (List.mem_of_getElem? (i := 132) rfl)
theorem uX_133 : Cond.code yX3_init cX3_init 1 none ∈ uX := List.mem_append_left _ (List.mem_of_getElem? (i := 133) rfl)
theorem uX_134 : Cond.methodLink RX3 3 objectInit ∈ uX := List.mem_append_left _ (List.mem_of_getElem? (i := 134) rfl)
theorem uX_135 : Cond.fieldLink RX3 9 "AreaSetter$Items" "many" "I" ∈ uX := List.mem_append_left _ (List.mem_of_getElem? (i := 135) rfl)
theorem uX_136 : Cond.fieldLink RX3 15 "AreaSetter$Items" "together" "I" ∈ uX := List.mem_append_left _ (List.mem_of_getElem? (i := 136) rfl)
theorem uX_137 : Cond.fieldLink RX3 18 "AreaSetter$Items" "boxes" "[I" ∈ uX := List.mem_append_left _ (List.mem_of_getElem? (i := 137) rfl)
theorem uX_138 : Cond.fieldLink RX3 22 "AreaSetter$Items" "sizes" "[I" ∈ uX := List.mem_append_left _ (List.mem_of_getElem? (i := 138) rfl)
theorem uX_139 : Cond.fieldLink RX3 25 "AreaSetter$Items" "x" "I" ∈ uX := List.mem_append_left _ (List.mem_of_getElem? (i := 139) rfl)
theorem uX_140 : Cond.fieldLink RX3 28 "AreaSetter$Items" "y" "I" ∈ uX := List.mem_append_left _ (List.mem_of_getElem? (i := 140) rfl)
theorem uX_141 : Cond.fieldLink RX3 31 "AreaSetter$Items" "wide" "I" ∈ uX := List.mem_append_left _ (List.mem_of_getElem? (i := 141) rfl)
theorem uX_142 : Cond.fieldLink RX3 34 "AreaSetter$Items" "high" "I" ∈ uX := List.mem_append_left _ (List.mem_of_getElem? (i := 142) rfl)
theorem uX_143 : Cond.code yX10_isLeaf cX10_isLeaf 2 (some .boolean) ∈ uX := List.mem_append_left _ (List.mem_of_getElem? (i := 143) rfl)
theorem uX_144 : Cond.fieldLink RX3 52 "AreaSetter$Tree" "parent" "[I" ∈ uX := List.mem_append_left _ (List.mem_of_getElem? (i := 144) rfl)
theorem uX_145 : Cond.fieldLink RX3 55 "AreaSetter$Drawings" "boxes" "LAreaSetter$Rectangles;" ∈ uX := List.mem_append_left _ (List.mem_of_getElem? (i := 145) rfl)
theorem uX_146 : Cond.fieldLink RX3 60 "AreaSetter$Rectangles" "sizes" "[I" ∈ uX := List.mem_append_left _ (List.mem_of_getElem? (i := 146) rfl)
theorem uX_147 : Cond.fieldLink RX3 97 "AreaSetter$Tree" "limit" "[I" ∈ uX := List.mem_append_left _ (List.mem_of_getElem? (i := 147) rfl)
theorem uX_148 : Cond.constantLong RX3 100 (1000) ∈ uX := List.mem_append_left _ (List.mem_of_getElem? (i := 148) rfl)
theorem uX_149 : Cond.methodLink RX3 90 yX10_isLeaf ∈ uX := List.mem_append_left _ (List.mem_of_getElem? (i := 149) rfl)
theorem uX_150 : Cond.instanceMethod yX10_isLeaf ∈ uX := List.mem_append_left _ (List.mem_of_getElem? (i := 150) rfl)
theorem uX_151 : Cond.selects RX10 yX10_isLeaf yX10_isLeaf ∈ uX := List.mem_append_left _ (List.mem_of_getElem? (i := 151) rfl)
theorem uX_152 : Cond.methodLink RX3 94 yX10_has ∈ uX := List.mem_append_left _ (List.mem_of_getElem? (i := 152) rfl)
theorem uX_153 : Cond.methodLink RX3 63 yX2_latestCell ∈ uX := List.mem_append_left _ (List.mem_of_getElem? (i := 153) rfl)
theorem uX_154 : Cond.code yX3_isSmall cX3_isSmall 7 (some .boolean) ∈ uX := List.mem_append_left _ (List.mem_of_getElem? (i := 154) rfl)
theorem uX_155 : Cond.fieldLink RX3 50 "AreaSetter$Tree" "boxes" "I" ∈ uX := List.mem_append_left _ (List.mem_of_getElem? (i := 155) rfl)
theorem uX_156 : Cond.methodLink RX3 67 yX3_isSmall ∈ uX := List.mem_append_left _ (List.mem_of_getElem? (i := 156) rfl)
theorem uX_157 : Cond.static yX3_isSmall ∈ uX := List.mem_append_left _ (List.mem_of_getElem? (i := 157) rfl)
theorem uX_158 : Cond.code yX3_countSmall cX3_countSmall 5 (some .int) ∈ uX := List.mem_append_left _ (List.mem_of_getElem? (i := 158) rfl)
theorem uX_159 : Cond.code yX3_add cX3_add 5 none ∈ uX := List.mem_append_left _ (List.mem_of_getElem? (i := 159) rfl)
theorem uX_160 : Cond.code yX3_setFrame cX3_setFrame 3 none ∈ uX := List.mem_append_left _ (List.mem_of_getElem? (i := 160) rfl)
theorem uX_161 : Cond.fieldLink RX3 82 "AreaSetter$Rectangles" "x" "[I" ∈ uX := List.mem_append_left _ (List.mem_of_getElem? (i := 161) rfl)
theorem uX_162 : Cond.fieldLink RX3 84 "AreaSetter$Rectangles" "y" "[I" ∈ uX := List.mem_append_left _ (List.mem_of_getElem? (i := 162) rfl)
theorem uX_163 : Cond.fieldLink RX3 86 "AreaSetter$Rectangles" "wide" "[I" ∈ uX := List.mem_append_left _ (List.mem_of_getElem? (i := 163) rfl)
theorem uX_164 : Cond.fieldLink RX3 88 "AreaSetter$Rectangles" "high" "[I" ∈ uX := List.mem_append_left _ (List.mem_of_getElem? (i := 164) rfl)
theorem uX_165 : Cond.fieldLink RX3 40 "AreaSetter$Tree" "open" "[Z" ∈ uX := List.mem_append_left _ (List.mem_of_getElem? (i := 165) rfl)
theorem uX_166 : Cond.fieldLink RX3 71 "AreaSetter$Tree" "sorted" "[Z" ∈ uX := List.mem_append_left _ (List.mem_of_getElem? (i := 166) rfl)
theorem uX_167 : Cond.methodLink RX3 46 yX3_countSmall ∈ uX := List.mem_append_left _ (List.mem_of_getElem? (i := 167) rfl)
theorem uX_168 : Cond.static yX3_countSmall ∈ uX := List.mem_append_left _ (List.mem_of_getElem? (i := 168) rfl)
theorem uX_169 : Cond.methodLink RX3 74 yX3_add ∈ uX := List.mem_append_left _ (List.mem_of_getElem? (i := 169) rfl)
theorem uX_170 : Cond.instanceMethod yX3_add ∈ uX := List.mem_append_left _ (List.mem_of_getElem? (i := 170) rfl)
theorem uX_171 : Cond.selects RX3 yX3_add yX3_add ∈ uX := List.mem_append_left _ (List.mem_of_getElem? (i := 171) rfl)
theorem uX_172 : Cond.methodLink RX3 78 yX3_setFrame ∈ uX := List.mem_append_left _ (List.mem_of_getElem? (i := 172) rfl)
theorem uX_173 : Cond.instanceMethod yX3_setFrame ∈ uX := List.mem_append_left _ (List.mem_of_getElem? (i := 173) rfl)
theorem uX_174 : Cond.selects RX3 yX3_setFrame yX3_setFrame ∈ uX := List.mem_append_left _ (List.mem_of_getElem? (i := 174) rfl)
theorem uX_175 : Cond.code yX3_gather cX3_gather 8 none ∈ uX := List.mem_append_left _ (List.mem_of_getElem? (i := 175) rfl)
theorem uX_176 : Cond.code yX3_begin cX3_begin 5 (some .int) ∈ uX := List.mem_append_left _ (List.mem_of_getElem? (i := 176) rfl)
theorem uX_177 : Cond.methodLink RX3 102 yX3_sum ∈ uX := List.mem_append_left _ (List.mem_of_getElem? (i := 177) rfl)
theorem uX_178 : Cond.methodLink RX8 3 objectInit ∈ uX := List.mem_append_left _ (List.mem_of_getElem? (i := 178) rfl)
theorem uX_179 : Cond.classLink RX8 9 RX5 ∈ uX := List.mem_append_left _ (List.mem_of_getElem? (i := 179) rfl)
theorem uX_180 : Cond.fieldLink RX8 12 "AreaSetter$RowBreaker" "plan" "LAreaSetter$Plan;" ∈ uX := List.mem_append_left _ (List.mem_of_getElem? (i := 180) rfl)
theorem uX_181 : Cond.fieldLink RX8 18 "AreaSetter$RowBreaker" "worst" "[I" ∈ uX := List.mem_append_left _ (List.mem_of_getElem? (i := 181) rfl)
theorem uX_182 : Cond.fieldLink RX8 22 "AreaSetter$RowBreaker" "least" "[I" ∈ uX := List.mem_append_left _ (List.mem_of_getElem? (i := 182) rfl)
theorem uX_183 : Cond.fieldLink RX8 25 "AreaSetter$RowBreaker" "fewest" "[I" ∈ uX := List.mem_append_left _ (List.mem_of_getElem? (i := 183) rfl)
theorem uX_184 : Cond.code yX8_init cX8_init 1 none ∈ uX := List.mem_append_left _ (List.mem_of_getElem? (i := 184) rfl)
theorem uX_185 : Cond.methodLink RX4 3 objectInit ∈ uX := List.mem_append_left _ (List.mem_of_getElem? (i := 185) rfl)
theorem uX_186 : Cond.fieldLink RX4 9 "AreaSetter$Layer" "moveCost" "I" ∈ uX := List.mem_append_left _ (List.mem_of_getElem? (i := 186) rfl)
theorem uX_187 : Cond.classLink RX4 15 RX3 ∈ uX := List.mem_append_left _ (List.mem_of_getElem? (i := 187) rfl)
theorem uX_188 : Cond.instantiable RX3 9 ∈ uX := List.mem_append_left _ (List.mem_of_getElem? (i := 188) rfl)
theorem uX_189 : Cond.fieldLink RX4 18 "AreaSetter$Layer" "items" "LAreaSetter$Items;" ∈ uX := List.mem_append_left _ (List.mem_of_getElem? (i := 189) rfl)
theorem uX_190 : Cond.classLink RX4 22 RX8 ∈ uX := List.mem_append_left _ (List.mem_of_getElem? (i := 190) rfl)
theorem uX_191 : Cond.instantiable RX8 4 ∈ uX := List.mem_append_left _ (List.mem_of_getElem? (i := 191) rfl)
theorem uX_192 : Cond.initialized RX8 ∈ uX := List.mem_append_left _ (List.mem_of_getElem? (i := 192) rfl)
theorem uX_193 : Cond.fieldLink RX4 25 "AreaSetter$Layer" "rowBreaker" "LAreaSetter$RowBreaker;" ∈ uX := List.mem_append_left _ (List.mem_of_getElem? (i := 193) rfl)
theorem uX_194 : Cond.classLink RX4 29 RX1 ∈ uX := List.mem_append_left _ (List.mem_of_getElem? (i := 194) rfl)
theorem uX_195 : Cond.instantiable RX1 1 ∈ uX := List.mem_append_left _ (List.mem_of_getElem? (i := 195) rfl)
theorem uX_196 : Cond.fieldLink RX4 32 "AreaSetter$Layer" "cutter" "LAreaSetter$Cutter;" ∈ uX := List.mem_append_left _ (List.mem_of_getElem? (i := 196) rfl)
theorem uX_197 : Cond.classLink RX4 36 RX5 ∈ uX := List.mem_append_left _ (List.mem_of_getElem? (i := 197) rfl)
theorem uX_198 : Cond.fieldLink RX4 39 "AreaSetter$RowBreaker" "plan" "LAreaSetter$Plan;" ∈ uX := List.mem_append_left _ (List.mem_of_getElem? (i := 198) rfl)
theorem uX_199 : Cond.fieldLink RX4 43 "AreaSetter$Cutter" "plan" "LAreaSetter$Plan;" ∈ uX := List.mem_append_left _ (List.mem_of_getElem? (i := 199) rfl)
theorem uX_200 : Cond.fieldLink RX4 44 "AreaSetter$Layer" "plans" "[LAreaSetter$Plan;" ∈ uX := List.mem_append_left _ (List.mem_of_getElem? (i := 200) rfl)
theorem uX_201 : Cond.instanceMethod yX3_init ∈ uX := List.mem_append_left _ (List.mem_of_getElem? (i := 201) rfl)
theorem uX_202 : Cond.instanceMethod yX8_init ∈ uX := List.mem_append_left _ (List.mem_of_getElem? (i := 202) rfl)
theorem uX_203 : Cond.instanceMethod yX1_init ∈ uX := List.mem_append_left _ (List.mem_of_getElem? (i := 203) rfl)
theorem uX_204 : Cond.code yX4_init cX4_init 1 none ∈ uX := List.mem_append_left _ (List.mem_of_getElem? (i := 204) rfl)
theorem uX_205 : Cond.fieldLink RX4 94 "AreaSetter$Plan" "worst" "I" ∈ uX := List.mem_append_left _ (List.mem_of_getElem? (i := 205) rfl)
theorem uX_206 : Cond.fieldLink RX4 52 "AreaSetter$Items" "many" "I" ∈ uX := List.mem_append_left _ (List.mem_of_getElem? (i := 206) rfl)
theorem uX_207 : Cond.fieldLink RX4 157 "AreaSetter$Items" "x" "I" ∈ uX := List.mem_append_left _ (List.mem_of_getElem? (i := 207) rfl)
theorem uX_208 : Cond.fieldLink RX4 159 "AreaSetter$Items" "y" "I" ∈ uX := List.mem_append_left _ (List.mem_of_getElem? (i := 208) rfl)
theorem uX_209 : Cond.methodLink RX4 161 yX5_put ∈ uX := List.mem_append_left _ (List.mem_of_getElem? (i := 209) rfl)
theorem uX_210 : Cond.code yX4_layNothing cX4_layNothing 3 none ∈ uX := List.mem_append_left _ (List.mem_of_getElem? (i := 210) rfl)
theorem uX_211 : Cond.code yX8_worstOfRow cX8_worstOfRow 8 (some .int) ∈ uX := List.mem_append_left _ (List.mem_of_getElem? (i := 211) rfl)
theorem uX_212 : Cond.fieldLink RX8 55 "AreaSetter$Items" "high" "I" ∈ uX := List.mem_append_left _ (List.mem_of_getElem? (i := 212) rfl)
theorem uX_213 : Cond.fieldLink RX8 28 "AreaSetter$Items" "many" "I" ∈ uX := List.mem_append_left _ (List.mem_of_getElem? (i := 213) rfl)
theorem uX_214 : Cond.fieldLink RX8 62 "AreaSetter$Items" "wide" "I" ∈ uX := List.mem_append_left _ (List.mem_of_getElem? (i := 214) rfl)
theorem uX_215 : Cond.fieldLink RX8 65 "AreaSetter$Items" "sizes" "[I" ∈ uX := List.mem_append_left _ (List.mem_of_getElem? (i := 215) rfl)
theorem uX_216 : Cond.methodLink RX8 72 Lib.Math.max.name ∈ uX := List.mem_append_left _ (List.mem_of_getElem? (i := 216) rfl)
theorem uX_217 : Cond.methodLink RX8 58 yX3_begin ∈ uX := List.mem_append_left _ (List.mem_of_getElem? (i := 217) rfl)
theorem uX_218 : Cond.instanceMethod yX3_begin ∈ uX := List.mem_append_left _ (List.mem_of_getElem? (i := 218) rfl)
theorem uX_219 : Cond.selects RX3 yX3_begin yX3_begin ∈ uX := List.mem_append_left _ (List.mem_of_getElem? (i := 219) rfl)
theorem uX_220 : Cond.code yX8_findLeast cX8_findLeast 4 none ∈ uX := List.mem_append_left _ (List.mem_of_getElem? (i := 220) rfl)
theorem uX_221 : Cond.constant RX8 79 (2147483647) ∈ uX := List.mem_append_left _ (List.mem_of_getElem? (i := 221) rfl)
theorem uX_222 : Cond.methodLink RX8 80 Lib.Math.min.name ∈ uX := List.mem_append_left _ (List.mem_of_getElem? (i := 222) rfl)
theorem uX_223 : Cond.code yX8_findFewest cX8_findFewest 4 none ∈ uX := List.mem_append_left _ (List.mem_of_getElem? (i := 223) rfl)
theorem uX_224 : Cond.code yX8_endOfRow cX8_endOfRow 4 (some .int) ∈ uX := List.mem_append_left _ (List.mem_of_getElem? (i := 224) rfl)
theorem uX_225 : Cond.fieldLink RX8 83 "AreaSetter$Items" "x" "I" ∈ uX := List.mem_append_left _ (List.mem_of_getElem? (i := 225) rfl)
theorem uX_226 : Cond.fieldLink RX8 86 "AreaSetter$Items" "y" "I" ∈ uX := List.mem_append_left _ (List.mem_of_getElem? (i := 226) rfl)
theorem uX_227 : Cond.methodLink RX8 89 yX5_put ∈ uX := List.mem_append_left _ (List.mem_of_getElem? (i := 227) rfl)
theorem uX_228 : Cond.code yX8_layRow cX8_layRow 9 none ∈ uX := List.mem_append_left _ (List.mem_of_getElem? (i := 228) rfl)
theorem uX_229 : Cond.fieldLink RX8 45 "AreaSetter$Plan" "worst" "I" ∈ uX := List.mem_append_left _ (List.mem_of_getElem? (i := 229) rfl)
theorem uX_230 : Cond.methodLink RX8 34 yX8_worstOfRow ∈ uX := List.mem_append_left _ (List.mem_of_getElem? (i := 230) rfl)
theorem uX_231 : Cond.static yX8_worstOfRow ∈ uX := List.mem_append_left _ (List.mem_of_getElem? (i := 231) rfl)
theorem uX_232 : Cond.methodLink RX8 38 yX8_findLeast ∈ uX := List.mem_append_left _ (List.mem_of_getElem? (i := 232) rfl)
theorem uX_233 : Cond.instanceMethod yX8_findLeast ∈ uX := List.mem_append_left _ (List.mem_of_getElem? (i := 233) rfl)
theorem uX_234 : Cond.selects RX8 yX8_findLeast yX8_findLeast ∈ uX := List.mem_append_left _ (List.mem_of_getElem? (i := 234) rfl)
theorem uX_235 : Cond.methodLink RX8 42 yX8_findFewest ∈ uX := List.mem_append_left _ (List.mem_of_getElem? (i := 235) rfl)
theorem uX_236 : Cond.instanceMethod yX8_findFewest ∈ uX := List.mem_append_left _ (List.mem_of_getElem? (i := 236) rfl)
theorem uX_237 : Cond.selects RX8 yX8_findFewest yX8_findFewest ∈ uX := List.mem_append_left _ (List.mem_of_getElem? (i := 237) rfl)
theorem uX_238 : Cond.methodLink RX8 47 yX8_endOfRow ∈ uX := List.mem_append_left _ (List.mem_of_getElem? (i := 238) rfl)
theorem uX_239 : Cond.instanceMethod yX8_endOfRow ∈ uX := List.mem_append_left _ (List.mem_of_getElem? (i := 239) rfl)
theorem uX_240 : Cond.selects RX8 yX8_endOfRow yX8_endOfRow ∈ uX := List.mem_append_left _ (List.mem_of_getElem? (i := 240) rfl)
theorem uX_241 : Cond.methodLink RX8 51 yX8_layRow ∈ uX := List.mem_append_left _ (List.mem_of_getElem? (i := 241) rfl)
theorem uX_242 : Cond.instanceMethod yX8_layRow ∈ uX := List.mem_append_left _ (List.mem_of_getElem? (i := 242) rfl)
theorem uX_243 : Cond.selects RX8 yX8_layRow yX8_layRow ∈ uX := List.mem_append_left _ (List.mem_of_getElem? (i := 243) rfl)
theorem uX_244 : Cond.code yX8_lay cX8_lay 6 none ∈ uX := List.mem_append_left _ (List.mem_of_getElem? (i := 244) rfl)
theorem uX_245 : Cond.fieldLink RX4 164 "AreaSetter$Items" "wide" "I" ∈ uX := List.mem_append_left _ (List.mem_of_getElem? (i := 245) rfl)
theorem uX_246 : Cond.fieldLink RX4 166 "AreaSetter$Items" "high" "I" ∈ uX := List.mem_append_left _ (List.mem_of_getElem? (i := 246) rfl)
theorem uX_247 : Cond.methodLink RX4 168 yX3_begin ∈ uX := List.mem_append_left _ (List.mem_of_getElem? (i := 247) rfl)
theorem uX_248 : Cond.code yX4_laySlice cX4_laySlice 7 none ∈ uX := List.mem_append_left _ (List.mem_of_getElem? (i := 248) rfl)
theorem uX_249 : Cond.code yX7_distance cX7_distance 6 (some .int) ∈ uX := List.mem_append_left _ (List.mem_of_getElem? (i := 249) rfl)
theorem uX_250 : Cond.methodLink RX7 37 Lib.Math.abs.name ∈ uX := List.mem_append_left _ (List.mem_of_getElem? (i := 250) rfl)
theorem uX_251 : Cond.static Lib.Math.abs.name ∈ uX := List.mem_append_left _ (List.mem_of_getElem? (i := 251) rfl)
theorem uX_252 : Cond.code Lib.Math.abs.name Lib.Math.abs.code 1 (some .int) ∈ uX := List.mem_append_left _ (List.mem_of_getElem? (i := 252) rfl)
theorem uX_253 : Cond.code yX4_movesOf cX4_movesOf 6 (some .int) ∈ uX := List.mem_append_left _ (List.mem_of_getElem? (i := 253) rfl)
theorem uX_254 : Cond.fieldLink RX4 141 "AreaSetter$Drawings" "made" "I" ∈ uX := List.mem_append_left _ (List.mem_of_getElem? (i := 254) rfl)
theorem uX_255 : Cond.fieldLink RX4 96 "AreaSetter$Items" "boxes" "[I" ∈ uX := List.mem_append_left _ (List.mem_of_getElem? (i := 255) rfl)
theorem uX_256 : Cond.fieldLink RX4 147 "AreaSetter$Drawings" "shown" "[Z" ∈ uX := List.mem_append_left _ (List.mem_of_getElem? (i := 256) rfl)
theorem uX_257 : Cond.fieldLink RX4 151 "AreaSetter$Drawings" "boxes" "LAreaSetter$Rectangles;" ∈ uX := List.mem_append_left _ (List.mem_of_getElem? (i := 257) rfl)
theorem uX_258 : Cond.methodLink RX4 144 yX2_cell ∈ uX := List.mem_append_left _ (List.mem_of_getElem? (i := 258) rfl)
theorem uX_259 : Cond.methodLink RX4 153 yX7_distance ∈ uX := List.mem_append_left _ (List.mem_of_getElem? (i := 259) rfl)
theorem uX_260 : Cond.instanceMethod yX7_distance ∈ uX := List.mem_append_left _ (List.mem_of_getElem? (i := 260) rfl)
theorem uX_261 : Cond.selects RX7 yX7_distance yX7_distance ∈ uX := List.mem_append_left _ (List.mem_of_getElem? (i := 261) rfl)
theorem uX_262 : Cond.constant RX4 128 (2147483647) ∈ uX := List.mem_append_left _ (List.mem_of_getElem? (i := 262) rfl)
theorem uX_263 : Cond.fieldLink RX4 73 "AreaSetter$Plan" "places" "LAreaSetter$Rectangles;" ∈ uX := List.mem_append_left _ (List.mem_of_getElem? (i := 263) rfl)
theorem uX_264 : Cond.methodLink RX4 129 yX8_lay ∈ uX := List.mem_append_left _ (List.mem_of_getElem? (i := 264) rfl)
theorem uX_265 : Cond.instanceMethod yX8_lay ∈ uX := List.mem_append_left _ (List.mem_of_getElem? (i := 265) rfl)
theorem uX_266 : Cond.selects RX8 yX8_lay yX8_lay ∈ uX := List.mem_append_left _ (List.mem_of_getElem? (i := 266) rfl)
theorem uX_267 : Cond.methodLink RX4 133 yX1_lay ∈ uX := List.mem_append_left _ (List.mem_of_getElem? (i := 267) rfl)
theorem uX_268 : Cond.instanceMethod yX1_lay ∈ uX := List.mem_append_left _ (List.mem_of_getElem? (i := 268) rfl)
theorem uX_269 : Cond.selects RX1 yX1_lay yX1_lay ∈ uX := List.mem_append_left _ (List.mem_of_getElem? (i := 269) rfl)
theorem uX_270 : Cond.methodLink RX4 134 yX4_laySlice ∈ uX := List.mem_append_left _ (List.mem_of_getElem? (i := 270) rfl)
theorem uX_271 : Cond.instanceMethod yX4_laySlice ∈ uX := List.mem_append_left _ (List.mem_of_getElem? (i := 271) rfl)
theorem uX_272 : Cond.selects RX4 yX4_laySlice yX4_laySlice ∈ uX := List.mem_append_left _ (List.mem_of_getElem? (i := 272) rfl)
theorem uX_273 : Cond.initialized RX4 ∈ uX := List.mem_append_left _ (List.mem_of_getElem? (i := 273) rfl)
theorem uX_274 : Cond.methodLink RX4 137 yX4_movesOf ∈ uX := List.mem_append_left _ (List.mem_of_getElem? (i := 274) rfl)
theorem uX_275 : Cond.instanceMethod yX4_movesOf ∈ uX := List.mem_append_left _ (List.mem_of_getElem? (i := 275) rfl)
theorem uX_276 : Cond.selects RX4 yX4_movesOf yX4_movesOf ∈ uX := List.mem_append_left _ (List.mem_of_getElem? (i := 276) rfl)
theorem uX_277 : Cond.code yX4_layAs cX4_layAs 9 (some .int) ∈ uX := List.mem_append_left _ (List.mem_of_getElem? (i := 277) rfl)
theorem uX_278 : Cond.fieldLink RX4 99 "AreaSetter$Rectangles" "x" "[I" ∈ uX := List.mem_append_left _ (List.mem_of_getElem? (i := 278) rfl)
theorem uX_279 : Cond.fieldLink RX4 104 "AreaSetter$Rectangles" "y" "[I" ∈ uX := List.mem_append_left _ (List.mem_of_getElem? (i := 279) rfl)
theorem uX_280 : Cond.fieldLink RX4 107 "AreaSetter$Rectangles" "wide" "[I" ∈ uX := List.mem_append_left _ (List.mem_of_getElem? (i := 280) rfl)
theorem uX_281 : Cond.fieldLink RX4 110 "AreaSetter$Rectangles" "high" "[I" ∈ uX := List.mem_append_left _ (List.mem_of_getElem? (i := 281) rfl)
theorem uX_282 : Cond.fieldLink RX4 116 "AreaSetter$Drawings" "rests" "LAreaSetter$Rectangles;" ∈ uX := List.mem_append_left _ (List.mem_of_getElem? (i := 282) rfl)
theorem uX_283 : Cond.fieldLink RX4 122 "AreaSetter$Rectangles" "sizes" "[I" ∈ uX := List.mem_append_left _ (List.mem_of_getElem? (i := 283) rfl)
theorem uX_284 : Cond.fieldLink RX4 125 "AreaSetter$Items" "sizes" "[I" ∈ uX := List.mem_append_left _ (List.mem_of_getElem? (i := 284) rfl)
theorem uX_285 : Cond.methodLink RX4 113 yX2_show ∈ uX := List.mem_append_left _ (List.mem_of_getElem? (i := 285) rfl)
theorem uX_286 : Cond.instanceMethod yX2_show ∈ uX := List.mem_append_left _ (List.mem_of_getElem? (i := 286) rfl)
theorem uX_287 : Cond.selects RX2 yX2_show yX2_show ∈ uX := List.mem_append_left _ (List.mem_of_getElem? (i := 287) rfl)
theorem uX_288 : Cond.methodLink RX4 119 yX7_put ∈ uX := List.mem_append_left _ (List.mem_of_getElem? (i := 288) rfl)
theorem uX_289 : Cond.code yX4_show cX4_show 5 none ∈ uX := List.mem_append_left _ (List.mem_of_getElem? (i := 289) rfl)
theorem uX_290 : Cond.fieldLink RX4 63 "AreaSetter$Tree" "how" "[I" ∈ uX := List.mem_append_left _ (List.mem_of_getElem? (i := 290) rfl)
theorem uX_291 : Cond.fieldLink RX4 81 "AreaSetter$Drawings" "together" "[I" ∈ uX := List.mem_append_left _ (List.mem_of_getElem? (i := 291) rfl)
theorem uX_292 : Cond.fieldLink RX4 86 "AreaSetter$Items" "together" "I" ∈ uX := List.mem_append_left _ (List.mem_of_getElem? (i := 292) rfl)
theorem uX_293 : Cond.fieldLink RX4 88 "AreaSetter$Drawings" "laid" "[I" ∈ uX := List.mem_append_left _ (List.mem_of_getElem? (i := 293) rfl)
theorem uX_294 : Cond.fieldLink RX4 91 "AreaSetter$Drawings" "worst" "[I" ∈ uX := List.mem_append_left _ (List.mem_of_getElem? (i := 294) rfl)
theorem uX_295 : Cond.methodLink RX4 48 yX3_gather ∈ uX := List.mem_append_left _ (List.mem_of_getElem? (i := 295) rfl)
theorem uX_296 : Cond.instanceMethod yX3_gather ∈ uX := List.mem_append_left _ (List.mem_of_getElem? (i := 296) rfl)
theorem uX_297 : Cond.selects RX3 yX3_gather yX3_gather ∈ uX := List.mem_append_left _ (List.mem_of_getElem? (i := 297) rfl)
theorem uX_298 : Cond.methodLink RX4 55 yX3_sum ∈ uX := List.mem_append_left _ (List.mem_of_getElem? (i := 298) rfl)
theorem uX_299 : Cond.methodLink RX4 59 yX4_layNothing ∈ uX := List.mem_append_left _ (List.mem_of_getElem? (i := 299) rfl)
theorem uX_300 : Cond.instanceMethod yX4_layNothing ∈ uX := List.mem_append_left _ (List.mem_of_getElem? (i := 300) rfl)
theorem uX_301 : Cond.selects RX4 yX4_layNothing yX4_layNothing ∈ uX := List.mem_append_left _ (List.mem_of_getElem? (i := 301) rfl)
theorem uX_302 : Cond.methodLink RX4 69 yX4_layAs ∈ uX := List.mem_append_left _ (List.mem_of_getElem? (i := 302) rfl)
theorem uX_303 : Cond.instanceMethod yX4_layAs ∈ uX := List.mem_append_left _ (List.mem_of_getElem? (i := 303) rfl)
theorem uX_304 : Cond.selects RX4 yX4_layAs yX4_layAs ∈ uX := List.mem_append_left _ (List.mem_of_getElem? (i := 304) rfl)
theorem uX_305 : Cond.methodLink RX4 77 yX4_show ∈ uX := List.mem_append_left _ (List.mem_of_getElem? (i := 305) rfl)
theorem uX_306 : Cond.instanceMethod yX4_show ∈ uX := List.mem_append_left _ (List.mem_of_getElem? (i := 306) rfl)
theorem uX_307 : Cond.selects RX4 yX4_show yX4_show ∈ uX := List.mem_append_left _ (List.mem_of_getElem? (i := 307) rfl)
theorem uX_308 : Cond.code yX4_layGroup cX4_layGroup 7 none ∈ uX := List.mem_append_left _ (List.mem_of_getElem? (i := 308) rfl)
theorem uX_309 : Cond.code yX9_init cX9_init 1 none ∈ uX := List.mem_append_left _ (List.mem_of_getElem? (i := 309) rfl)
theorem uX_310 : Cond.methodLink RX9 3 objectInit ∈ uX := List.mem_append_left _ (List.mem_of_getElem? (i := 310) rfl)
theorem uX_311 : Cond.fieldLink RX9 9 "AreaSetter$Tape" "length" "I" ∈ uX := List.mem_append_left _ (List.mem_of_getElem? (i := 311) rfl)
theorem uX_312 : Cond.arrayClass .byte ∈ uX := List.mem_append_left _ (List.mem_of_getElem? (i := 312) rfl)
theorem uX_313 : Cond.fieldLink RX9 15 "AreaSetter$Tape" "bytes" "[B" ∈ uX := List.mem_append_left _ (List.mem_of_getElem? (i := 313) rfl)
theorem uX_314 : Cond.code yX10_init cX10_init 1 none ∈ uX := List.mem_append_left _ (List.mem_of_getElem? (i := 314) rfl)
theorem uX_315 : Cond.methodLink RX10 3 objectInit ∈ uX := List.mem_append_left _ (List.mem_of_getElem? (i := 315) rfl)
theorem uX_316 : Cond.fieldLink RX10 15 "AreaSetter$Tree" "groups" "I" ∈ uX := List.mem_append_left _ (List.mem_of_getElem? (i := 316) rfl)
theorem uX_317 : Cond.fieldLink RX10 18 "AreaSetter$Tree" "parent" "[I" ∈ uX := List.mem_append_left _ (List.mem_of_getElem? (i := 317) rfl)
theorem uX_318 : Cond.fieldLink RX10 25 "AreaSetter$Tree" "children" "[I" ∈ uX := List.mem_append_left _ (List.mem_of_getElem? (i := 318) rfl)
theorem uX_319 : Cond.fieldLink RX10 28 "AreaSetter$Tree" "groupsAround" "[I" ∈ uX := List.mem_append_left _ (List.mem_of_getElem? (i := 319) rfl)
theorem uX_320 : Cond.fieldLink RX10 31 "AreaSetter$Tree" "sizeTold" "[I" ∈ uX := List.mem_append_left _ (List.mem_of_getElem? (i := 320) rfl)
theorem uX_321 : Cond.fieldLink RX10 34 "AreaSetter$Tree" "nameLength" "[I" ∈ uX := List.mem_append_left _ (List.mem_of_getElem? (i := 321) rfl)
theorem uX_322 : Cond.fieldLink RX10 37 "AreaSetter$Tree" "sorted" "[Z" ∈ uX := List.mem_append_left _ (List.mem_of_getElem? (i := 322) rfl)
theorem uX_323 : Cond.fieldLink RX10 41 "AreaSetter$Tree" "limit" "[I" ∈ uX := List.mem_append_left _ (List.mem_of_getElem? (i := 323) rfl)
theorem uX_324 : Cond.fieldLink RX10 44 "AreaSetter$Tree" "open" "[Z" ∈ uX := List.mem_append_left _ (List.mem_of_getElem? (i := 324) rfl)
theorem uX_325 : Cond.fieldLink RX10 47 "AreaSetter$Tree" "names" "[B" ∈ uX := List.mem_append_left _ (List.mem_of_getElem? (i := 325) rfl)
theorem uX_326 : Cond.methodLink RX6 3 objectInit ∈ uX := List.mem_append_left _ (List.mem_of_getElem? (i := 326) rfl)
theorem uX_327 : Cond.classLink RX6 9 RX9 ∈ uX := List.mem_append_left _ (List.mem_of_getElem? (i := 327) rfl)
theorem uX_328 : Cond.instantiable RX9 2 ∈ uX := List.mem_append_left _ (List.mem_of_getElem? (i := 328) rfl)
theorem uX_329 : Cond.initialized RX9 ∈ uX := List.mem_append_left _ (List.mem_of_getElem? (i := 329) rfl)
theorem uX_330 : Cond.fieldLink RX6 12 "AreaSetter$Reader" "tape" "LAreaSetter$Tape;" ∈ uX := List.mem_append_left _ (List.mem_of_getElem? (i := 330) rfl)
theorem uX_331 : Cond.classLink RX6 18 RX10 ∈ uX := List.mem_append_left _ (List.mem_of_getElem? (i := 331) rfl)
theorem uX_332 : Cond.instantiable RX10 12 ∈ uX := List.mem_append_left _ (List.mem_of_getElem? (i := 332) rfl)
theorem uX_333 : Cond.fieldLink RX6 21 "AreaSetter$Reader" "tree" "LAreaSetter$Tree;" ∈ uX := List.mem_append_left _ (List.mem_of_getElem? (i := 333) rfl)
theorem uX_334 : Cond.fieldLink RX6 25 "AreaSetter$Reader" "faultAt" "I" ∈ uX := List.mem_append_left _ (List.mem_of_getElem? (i := 334) rfl)
theorem uX_335 : Cond.instanceMethod yX9_init ∈ uX := List.mem_append_left _ (List.mem_of_getElem? (i := 335) rfl)
theorem uX_336 : Cond.instanceMethod yX10_init ∈ uX := List.mem_append_left _ (List.mem_of_getElem? (i := 336) rfl)
theorem uX_337 : Cond.code yX6_init cX6_init 1 none ∈ uX := List.mem_append_left _ (List.mem_of_getElem? (i := 337) rfl)
theorem uX_338 : Cond.code yX9_byteAt cX9_byteAt 2 (some .int) ∈ uX := List.mem_append_left _ (List.mem_of_getElem? (i := 338) rfl)
theorem uX_339 : Cond.code yX6_isBlank cX6_isBlank 1 (some .boolean) ∈ uX := List.mem_append_left _ (List.mem_of_getElem? (i := 339) rfl)
theorem uX_340 : Cond.code yX6_kindOf cX6_kindOf 1 (some .int) ∈ uX := List.mem_append_left _ (List.mem_of_getElem? (i := 340) rfl)
theorem uX_341 : Cond.code yX6_nextToken cX6_nextToken 1 none ∈ uX := List.mem_append_left _ (List.mem_of_getElem? (i := 341) rfl)
theorem uX_342 : Cond.fieldLink RX6 41 "AreaSetter$Reader" "to" "I" ∈ uX := List.mem_append_left _ (List.mem_of_getElem? (i := 342) rfl)
theorem uX_343 : Cond.fieldLink RX6 51 "AreaSetter$Reader" "from" "I" ∈ uX := List.mem_append_left _ (List.mem_of_getElem? (i := 343) rfl)
theorem uX_344 : Cond.fieldLink RX6 57 "AreaSetter$Tape" "length" "I" ∈ uX := List.mem_append_left _ (List.mem_of_getElem? (i := 344) rfl)
theorem uX_345 : Cond.fieldLink RX6 54 "AreaSetter$Reader" "kind" "I" ∈ uX := List.mem_append_left _ (List.mem_of_getElem? (i := 345) rfl)
theorem uX_346 : Cond.methodLink RX6 60 yX9_byteAt ∈ uX := List.mem_append_left _ (List.mem_of_getElem? (i := 346) rfl)
theorem uX_347 : Cond.instanceMethod yX9_byteAt ∈ uX := List.mem_append_left _ (List.mem_of_getElem? (i := 347) rfl)
theorem uX_348 : Cond.selects RX9 yX9_byteAt yX9_byteAt ∈ uX := List.mem_append_left _ (List.mem_of_getElem? (i := 348) rfl)
theorem uX_349 : Cond.methodLink RX6 64 yX6_isBlank ∈ uX := List.mem_append_left _ (List.mem_of_getElem? (i := 349) rfl)
theorem uX_350 : Cond.static yX6_isBlank ∈ uX := List.mem_append_left _ (List.mem_of_getElem? (i := 350) rfl)
set_option maxRecDepth 20000 in
theorem uX_351 : Cond.initialized RX6 ∈ uX := List.mem_append_left _ (List.mem_of_getElem? (i := 351) rfl)
set_option maxRecDepth 20000 in
theorem uX_352 : Cond.methodLink RX6 68 yX6_kindOf ∈ uX := List.mem_append_left _ (List.mem_of_getElem? (i := 352) rfl)
set_option maxRecDepth 20000 in
theorem uX_353 : Cond.static yX6_kindOf ∈ uX := List.mem_append_left _ (List.mem_of_getElem? (i := 353) rfl)
set_option maxRecDepth 20000 in
theorem uX_354 : Cond.methodLink RX9 19 yJ0_length_8abf5 ∈ uX := List.mem_append_left _ (List.mem_of_getElem? (i := 354) rfl)
set_option maxRecDepth 20000 in
theorem uX_355 : Cond.instanceMethod yJ0_length_8abf5 ∈ uX := List.mem_append_left _ (List.mem_of_getElem? (i := 355) rfl)
set_option maxRecDepth 20000 in
theorem uX_356 : Cond.selects RJ0 yJ0_length_8abf5 yJ0_length_8abf5 ∈ uX := List.mem_append_left _ (List.mem_of_getElem? (i := 356) rfl)
set_option maxRecDepth 20000 in
theorem uX_357 : Cond.initialized RJ0 ∈ uX := List.mem_append_left _ (List.mem_of_getElem? (i := 357) rfl)
set_option maxRecDepth 20000 in
theorem uX_358 : Cond.code yJ0_length_8abf5 cJ0_length_8abf5 1 (some .int) ∈ uX := List.mem_append_left _ (List.mem_of_getElem? (i := 358) rfl)
set_option maxRecDepth 20000 in
theorem uX_359 : Cond.fieldLink RJ0 9 "java/lang/String" "value" "[B" ∈ uX := List.mem_append_left _ (List.mem_of_getElem? (i := 359) rfl)
set_option maxRecDepth 20000 in
theorem uX_360 : Cond.methodLink RJ0 335 yJ0_coder_7d493 ∈ uX := List.mem_append_left _ (List.mem_of_getElem? (i := 360) rfl)
set_option maxRecDepth 20000 in
theorem uX_361 : Cond.instanceMethod yJ0_coder_7d493 ∈ uX := List.mem_append_left _ (List.mem_of_getElem? (i := 361) rfl)
set_option maxRecDepth 20000 in
theorem uX_362 : Cond.selects RJ0 yJ0_coder_7d493 yJ0_coder_7d493 ∈ uX := List.mem_append_left _ (List.mem_of_getElem? (i := 362) rfl)
set_option maxRecDepth 20000 in
theorem uX_363 : Cond.code yJ0_coder_7d493 cJ0_coder_7d493 1 (some .byte) ∈ uX := List.mem_append_left _ (List.mem_of_getElem? (i := 363) rfl)
set_option maxRecDepth 20000 in
theorem uX_364 : Cond.fieldLink RJ0 38 "java/lang/String" "COMPACT_STRINGS" "Z" ∈ uX := List.mem_append_left _ (List.mem_of_getElem? (i := 364) rfl)
set_option maxRecDepth 20000 in
theorem uX_365 : Cond.fieldLink RJ0 15 "java/lang/String" "coder" "B" ∈ uX := List.mem_append_left _ (List.mem_of_getElem? (i := 365) rfl)
set_option maxRecDepth 20000 in
theorem uX_366 : Cond.methodLink RX9 24 yX9_byteAt ∈ uX := List.mem_append_left _ (List.mem_of_getElem? (i := 366) rfl)
set_option maxRecDepth 20000 in
theorem uX_367 : Cond.methodLink RX9 28 yJ0_charAt_5068e ∈ uX := List.mem_append_left _ (List.mem_of_getElem? (i := 367) rfl)
set_option maxRecDepth 20000 in
theorem uX_368 : Cond.instanceMethod yJ0_charAt_5068e ∈ uX := List.mem_append_left _ (List.mem_of_getElem? (i := 368) rfl)
set_option maxRecDepth 20000 in
theorem uX_369 : Cond.selects RJ0 yJ0_charAt_5068e yJ0_charAt_5068e ∈ uX := List.mem_append_left _ (List.mem_of_getElem? (i := 369) rfl)
set_option maxRecDepth 20000 in
theorem uX_370 : Cond.code yJ0_charAt_5068e cJ0_charAt_5068e 2 (some .char) ∈ uX := List.mem_append_left _ (List.mem_of_getElem? (i := 370) rfl)
set_option maxRecDepth 20000 in
theorem uX_371 : Cond.methodLink RJ0 492 yJ0_isLatin1_aae02 ∈ uX := List.mem_append_left _ (List.mem_of_getElem? (i := 371) rfl)
set_option maxRecDepth 20000 in
theorem uX_372 : Cond.instanceMethod yJ0_isLatin1_aae02 ∈ uX := List.mem_append_left _ (List.mem_of_getElem? (i := 372) rfl)
set_option maxRecDepth 20000 in
theorem uX_373 : Cond.selects RJ0 yJ0_isLatin1_aae02 yJ0_isLatin1_aae02 ∈ uX := List.mem_append_left _ (List.mem_of_getElem? (i := 373) rfl)
set_option maxRecDepth 20000 in
theorem uX_374 : Cond.code yJ0_isLatin1_aae02 cJ0_isLatin1_aae02 1 (some .boolean) ∈ uX := List.mem_append_left _ (List.mem_of_getElem? (i := 374) rfl)
set_option maxRecDepth 20000 in
theorem uX_375 : Cond.methodLink RJ0 495 yJ1_charAt_3b067 ∈ uX := List.mem_append_left _ (List.mem_of_getElem? (i := 375) rfl)
set_option maxRecDepth 20000 in
theorem uX_376 : Cond.static yJ1_charAt_3b067 ∈ uX := List.mem_append_left _ (List.mem_of_getElem? (i := 376) rfl)
set_option maxRecDepth 20000 in
theorem uX_377 : Cond.initialized RJ1 ∈ uX := List.mem_append_left _ (List.mem_of_getElem? (i := 377) rfl)
set_option maxRecDepth 20000 in
theorem uX_378 : Cond.code yJ1_charAt_3b067 cJ1_charAt_3b067 2 (some .char) ∈ uX := List.mem_append_left _ (List.mem_of_getElem? (i := 378) rfl)
set_option maxRecDepth 20000 in
theorem uX_379 : Cond.methodLink RJ1 9 yJ0_checkIndex_df160 ∈ uX := List.mem_append_left _ (List.mem_of_getElem? (i := 379) rfl)
set_option maxRecDepth 20000 in
theorem uX_380 : Cond.static yJ0_checkIndex_df160 ∈ uX := List.mem_append_left _ (List.mem_of_getElem? (i := 380) rfl)
set_option maxRecDepth 20000 in
theorem uX_381 : Cond.code yJ0_checkIndex_df160 cJ0_checkIndex_df160 2 none ∈ uX := List.mem_append_left _ (List.mem_of_getElem? (i := 381) rfl)
set_option maxRecDepth 20000 in
theorem uX_382 : Cond.fieldLink RJ0 1053 "jdk/internal/util/Preconditions" "SIOOBE_FORMATTER" "Ljava/util/function/BiFunction;" ∈ uX := List.mem_append_left _ (List.mem_of_getElem? (i := 382) rfl)
set_option maxRecDepth 20000 in
theorem uX_383 : Cond.methodLink RJ0 1059 yJ3_checkIndex_8e157 ∈ uX := List.mem_append_left _ (List.mem_of_getElem? (i := 383) rfl)
set_option maxRecDepth 20000 in
theorem uX_384 : Cond.static yJ3_checkIndex_8e157 ∈ uX := List.mem_append_left _ (List.mem_of_getElem? (i := 384) rfl)
set_option maxRecDepth 20000 in
theorem uX_385 : Cond.initialized RJ3 ∈ uX := List.mem_append_left _ (List.mem_of_getElem? (i := 385) rfl)
set_option maxRecDepth 20000 in
theorem uX_386 : Cond.code yJ3_checkIndex_8e157 cJ3_checkIndex_8e157 3 (some .int) ∈ uX := List.mem_append_left _ (List.mem_of_getElem? (i := 386) rfl)
set_option maxRecDepth 20000 in
theorem uX_387 : Cond.methodLink RJ0 498 yJ2_charAt_3b067 ∈ uX := List.mem_append_left _ (List.mem_of_getElem? (i := 387) rfl)
set_option maxRecDepth 20000 in
theorem uX_388 : Cond.static yJ2_charAt_3b067 ∈ uX := List.mem_append_left _ (List.mem_of_getElem? (i := 388) rfl)
set_option maxRecDepth 20000 in
theorem uX_389 : Cond.initialized RJ2 ∈ uX := List.mem_append_left _ (List.mem_of_getElem? (i := 389) rfl)
set_option maxRecDepth 20000 in
theorem uX_390 : Cond.code yJ2_charAt_3b067 cJ2_charAt_3b067 2 (some .char) ∈ uX := List.mem_append_left _ (List.mem_of_getElem? (i := 390) rfl)
set_option maxRecDepth 20000 in
theorem uX_391 : Cond.methodLink RJ2 67 yJ2_checkIndex_2214a ∈ uX := List.mem_append_left _ (List.mem_of_getElem? (i := 391) rfl)
set_option maxRecDepth 20000 in
theorem uX_392 : Cond.static yJ2_checkIndex_2214a ∈ uX := List.mem_append_left _ (List.mem_of_getElem? (i := 392) rfl)
set_option maxRecDepth 20000 in
theorem uX_393 : Cond.code yJ2_checkIndex_2214a cJ2_checkIndex_2214a 2 none ∈ uX := List.mem_append_left _ (List.mem_of_getElem? (i := 393) rfl)
set_option maxRecDepth 20000 in
theorem uX_394 : Cond.methodLink RJ2 48 yJ2_length_9d52b ∈ uX := List.mem_append_left _ (List.mem_of_getElem? (i := 394) rfl)
set_option maxRecDepth 20000 in
theorem uX_395 : Cond.static yJ2_length_9d52b ∈ uX := List.mem_append_left _ (List.mem_of_getElem? (i := 395) rfl)
set_option maxRecDepth 20000 in
theorem uX_396 : Cond.code yJ2_length_9d52b cJ2_length_9d52b 1 (some .int) ∈ uX := List.mem_append_left _ (List.mem_of_getElem? (i := 396) rfl)
set_option maxRecDepth 20000 in
theorem uX_397 : Cond.methodLink RJ2 414 yJ0_checkIndex_df160 ∈ uX := List.mem_append_left _ (List.mem_of_getElem? (i := 397) rfl)
set_option maxRecDepth 20000 in
theorem uX_398 : Cond.methodLink RJ2 71 yJ2_getChar_3b067 ∈ uX := List.mem_append_left _ (List.mem_of_getElem? (i := 398) rfl)
set_option maxRecDepth 20000 in
theorem uX_399 : Cond.static yJ2_getChar_3b067 ∈ uX := List.mem_append_left _ (List.mem_of_getElem? (i := 399) rfl)
set_option maxRecDepth 20000 in
theorem uX_400 : Cond.code yJ2_getChar_3b067 cJ2_getChar_3b067 2 (some .char) ∈ uX := List.mem_append_left _ (List.mem_of_getElem? (i := 400) rfl)
set_option maxRecDepth 20000 in
theorem uX_401 : Cond.fieldLink RJ2 44 "java/lang/StringUTF16" "$assertionsDisabled" "Z" ∈ uX := List.mem_append_left _ (List.mem_of_getElem? (i := 401) rfl)
set_option maxRecDepth 20000 in
theorem uX_402 : Cond.fieldLink RJ2 59 "java/lang/StringUTF16" "HI_BYTE_SHIFT" "I" ∈ uX := List.mem_append_left _ (List.mem_of_getElem? (i := 402) rfl)
set_option maxRecDepth 20000 in
theorem uX_403 : Cond.fieldLink RJ2 63 "java/lang/StringUTF16" "LO_BYTE_SHIFT" "I" ∈ uX := List.mem_append_left _ (List.mem_of_getElem? (i := 403) rfl)
set_option maxRecDepth 20000 in
theorem uX_404 : Cond.code yX9_says cX9_says 5 (some .boolean) ∈ uX := List.mem_append_left _ (List.mem_of_getElem? (i := 404) rfl)
set_option maxRecDepth 20000 in
theorem uX_405 : Cond.methodLink RX6 129 yX9_says ∈ uX := List.mem_append_left _ (List.mem_of_getElem? (i := 405) rfl)
set_option maxRecDepth 20000 in
theorem uX_406 : Cond.instanceMethod yX9_says ∈ uX := List.mem_append_left _ (List.mem_of_getElem? (i := 406) rfl)
set_option maxRecDepth 20000 in
theorem uX_407 : Cond.selects RX9 yX9_says yX9_says ∈ uX := List.mem_append_left _ (List.mem_of_getElem? (i := 407) rfl)
set_option maxRecDepth 20000 in
theorem uX_408 : Cond.code yX6_isWord cX6_isWord 2 (some .boolean) ∈ uX := List.mem_append_left _ (List.mem_of_getElem? (i := 408) rfl)
set_option maxRecDepth 20000 in
theorem uX_409 : Cond.methodLink RX6 82 yX6_isWord ∈ uX := List.mem_append_left _ (List.mem_of_getElem? (i := 409) rfl)
set_option maxRecDepth 20000 in
theorem uX_410 : Cond.instanceMethod yX6_isWord ∈ uX := List.mem_append_left _ (List.mem_of_getElem? (i := 410) rfl)
set_option maxRecDepth 20000 in
theorem uX_411 : Cond.selects RX6 yX6_isWord yX6_isWord ∈ uX := List.mem_append_left _ (List.mem_of_getElem? (i := 411) rfl)
set_option maxRecDepth 20000 in
theorem uX_412 : Cond.code yX6_howOfWord cX6_howOfWord 1 (some .int) ∈ uX := List.mem_append_left _ (List.mem_of_getElem? (i := 412) rfl)
set_option maxRecDepth 20000 in
theorem uX_413 : Cond.code yX10_nameByte cX10_nameByte 3 (some .int) ∈ uX := List.mem_append_left _ (List.mem_of_getElem? (i := 413) rfl)
set_option maxRecDepth 20000 in
theorem uX_414 : Cond.code yX10_isNamed cX10_isNamed 5 (some .boolean) ∈ uX := List.mem_append_left _ (List.mem_of_getElem? (i := 414) rfl)
set_option maxRecDepth 20000 in
theorem uX_415 : Cond.methodLink RX10 71 yX10_nameByte ∈ uX := List.mem_append_left _ (List.mem_of_getElem? (i := 415) rfl)
set_option maxRecDepth 20000 in
theorem uX_416 : Cond.instanceMethod yX10_nameByte ∈ uX := List.mem_append_left _ (List.mem_of_getElem? (i := 416) rfl)
set_option maxRecDepth 20000 in
theorem uX_417 : Cond.selects RX10 yX10_nameByte yX10_nameByte ∈ uX := List.mem_append_left _ (List.mem_of_getElem? (i := 417) rfl)
set_option maxRecDepth 20000 in
theorem uX_418 : Cond.methodLink RX10 61 yX9_byteAt ∈ uX := List.mem_append_left _ (List.mem_of_getElem? (i := 418) rfl)
set_option maxRecDepth 20000 in
theorem uX_419 : Cond.code yX10_find cX10_find 5 (some .int) ∈ uX := List.mem_append_left _ (List.mem_of_getElem? (i := 419) rfl)
set_option maxRecDepth 20000 in
theorem uX_420 : Cond.methodLink RX10 67 yX10_isNamed ∈ uX := List.mem_append_left _ (List.mem_of_getElem? (i := 420) rfl)
set_option maxRecDepth 20000 in
theorem uX_421 : Cond.instanceMethod yX10_isNamed ∈ uX := List.mem_append_left _ (List.mem_of_getElem? (i := 421) rfl)
set_option maxRecDepth 20000 in
theorem uX_422 : Cond.selects RX10 yX10_isNamed yX10_isNamed ∈ uX := List.mem_append_left _ (List.mem_of_getElem? (i := 422) rfl)
set_option maxRecDepth 20000 in
theorem uX_423 : Cond.methodLink RX10 55 Lib.Math.min.name ∈ uX := List.mem_append_left _ (List.mem_of_getElem? (i := 423) rfl)
set_option maxRecDepth 20000 in
theorem uX_424 : Cond.code yX10_addBox cX10_addBox 7 none ∈ uX := List.mem_append_left _ (List.mem_of_getElem? (i := 424) rfl)
set_option maxRecDepth 20000 in
theorem uX_425 : Cond.fieldLink RX6 29 "AreaSetter$Tree" "boxes" "I" ∈ uX := List.mem_append_left _ (List.mem_of_getElem? (i := 425) rfl)
set_option maxRecDepth 20000 in
theorem uX_426 : Cond.fieldLink RX6 38 "AreaSetter$Reader" "within" "I" ∈ uX := List.mem_append_left _ (List.mem_of_getElem? (i := 426) rfl)
set_option maxRecDepth 20000 in
theorem uX_427 : Cond.fieldLink RX6 102 "AreaSetter$Tree" "children" "[I" ∈ uX := List.mem_append_left _ (List.mem_of_getElem? (i := 427) rfl)
set_option maxRecDepth 20000 in
theorem uX_428 : Cond.fieldLink RX6 35 "AreaSetter$Reader" "due" "I" ∈ uX := List.mem_append_left _ (List.mem_of_getElem? (i := 428) rfl)
set_option maxRecDepth 20000 in
theorem uX_429 : Cond.methodLink RX6 96 yX6_howOfWord ∈ uX := List.mem_append_left _ (List.mem_of_getElem? (i := 429) rfl)
set_option maxRecDepth 20000 in
theorem uX_430 : Cond.instanceMethod yX6_howOfWord ∈ uX := List.mem_append_left _ (List.mem_of_getElem? (i := 430) rfl)
set_option maxRecDepth 20000 in
theorem uX_431 : Cond.selects RX6 yX6_howOfWord yX6_howOfWord ∈ uX := List.mem_append_left _ (List.mem_of_getElem? (i := 431) rfl)
set_option maxRecDepth 20000 in
theorem uX_432 : Cond.methodLink RX6 99 yX10_has ∈ uX := List.mem_append_left _ (List.mem_of_getElem? (i := 432) rfl)
set_option maxRecDepth 20000 in
theorem uX_433 : Cond.methodLink RX6 106 yX10_find ∈ uX := List.mem_append_left _ (List.mem_of_getElem? (i := 433) rfl)
set_option maxRecDepth 20000 in
theorem uX_434 : Cond.instanceMethod yX10_find ∈ uX := List.mem_append_left _ (List.mem_of_getElem? (i := 434) rfl)
set_option maxRecDepth 20000 in
theorem uX_435 : Cond.selects RX10 yX10_find yX10_find ∈ uX := List.mem_append_left _ (List.mem_of_getElem? (i := 435) rfl)
set_option maxRecDepth 20000 in
theorem uX_436 : Cond.methodLink RX6 110 yX10_addBox ∈ uX := List.mem_append_left _ (List.mem_of_getElem? (i := 436) rfl)
set_option maxRecDepth 20000 in
theorem uX_437 : Cond.instanceMethod yX10_addBox ∈ uX := List.mem_append_left _ (List.mem_of_getElem? (i := 437) rfl)
set_option maxRecDepth 20000 in
theorem uX_438 : Cond.selects RX10 yX10_addBox yX10_addBox ∈ uX := List.mem_append_left _ (List.mem_of_getElem? (i := 438) rfl)
set_option maxRecDepth 20000 in
theorem uX_439 : Cond.code yX6_takeName cX6_takeName 1 (some .int) ∈ uX := List.mem_append_left _ (List.mem_of_getElem? (i := 439) rfl)
set_option maxRecDepth 20000 in
theorem uX_440 : Cond.code yX6_takeNumber cX6_takeNumber 3 (some .int) ∈ uX := List.mem_append_left _ (List.mem_of_getElem? (i := 440) rfl)
set_option maxRecDepth 20000 in
theorem uX_441 : Cond.fieldLink RX6 114 "AreaSetter$Tree" "sizeTold" "[I" ∈ uX := List.mem_append_left _ (List.mem_of_getElem? (i := 441) rfl)
set_option maxRecDepth 20000 in
theorem uX_442 : Cond.fieldLink RX6 117 "AreaSetter$Tree" "groupsAround" "[I" ∈ uX := List.mem_append_left _ (List.mem_of_getElem? (i := 442) rfl)
set_option maxRecDepth 20000 in
theorem uX_443 : Cond.fieldLink RX6 120 "AreaSetter$Tree" "how" "[I" ∈ uX := List.mem_append_left _ (List.mem_of_getElem? (i := 443) rfl)
set_option maxRecDepth 20000 in
theorem uX_444 : Cond.fieldLink RX6 32 "AreaSetter$Tree" "groups" "I" ∈ uX := List.mem_append_left _ (List.mem_of_getElem? (i := 444) rfl)
set_option maxRecDepth 20000 in
theorem uX_445 : Cond.code yX6_takeHow cX6_takeHow 3 (some .int) ∈ uX := List.mem_append_left _ (List.mem_of_getElem? (i := 445) rfl)
set_option maxRecDepth 20000 in
theorem uX_446 : Cond.code yX6_takeSorted cX6_takeSorted 1 (some .int) ∈ uX := List.mem_append_left _ (List.mem_of_getElem? (i := 446) rfl)
set_option maxRecDepth 20000 in
theorem uX_447 : Cond.fieldLink RX6 123 "AreaSetter$Tree" "sorted" "[Z" ∈ uX := List.mem_append_left _ (List.mem_of_getElem? (i := 447) rfl)
set_option maxRecDepth 20000 in
theorem uX_448 : Cond.code yX6_takeSign cX6_takeSign 3 (some .int) ∈ uX := List.mem_append_left _ (List.mem_of_getElem? (i := 448) rfl)
set_option maxRecDepth 20000 in
theorem uX_449 : Cond.code yX6_takeClosing cX6_takeClosing 1 (some .int) ∈ uX := List.mem_append_left _ (List.mem_of_getElem? (i := 449) rfl)
set_option maxRecDepth 20000 in
theorem uX_450 : Cond.fieldLink RX6 126 "AreaSetter$Tree" "parent" "[I" ∈ uX := List.mem_append_left _ (List.mem_of_getElem? (i := 450) rfl)
set_option maxRecDepth 20000 in
theorem uX_451 : Cond.methodLink RX6 71 yX6_takeName ∈ uX := List.mem_append_left _ (List.mem_of_getElem? (i := 451) rfl)
set_option maxRecDepth 20000 in
theorem uX_452 : Cond.instanceMethod yX6_takeName ∈ uX := List.mem_append_left _ (List.mem_of_getElem? (i := 452) rfl)
set_option maxRecDepth 20000 in
theorem uX_453 : Cond.selects RX6 yX6_takeName yX6_takeName ∈ uX := List.mem_append_left _ (List.mem_of_getElem? (i := 453) rfl)
set_option maxRecDepth 20000 in
theorem uX_454 : Cond.methodLink RX6 74 yX6_takeNumber ∈ uX := List.mem_append_left _ (List.mem_of_getElem? (i := 454) rfl)
set_option maxRecDepth 20000 in
theorem uX_455 : Cond.instanceMethod yX6_takeNumber ∈ uX := List.mem_append_left _ (List.mem_of_getElem? (i := 455) rfl)
set_option maxRecDepth 20000 in
theorem uX_456 : Cond.selects RX6 yX6_takeNumber yX6_takeNumber ∈ uX := List.mem_append_left _ (List.mem_of_getElem? (i := 456) rfl)
set_option maxRecDepth 20000 in
theorem uX_457 : Cond.methodLink RX6 77 yX6_takeHow ∈ uX := List.mem_append_left _ (List.mem_of_getElem? (i := 457) rfl)
set_option maxRecDepth 20000 in
theorem uX_458 : Cond.instanceMethod yX6_takeHow ∈ uX := List.mem_append_left _ (List.mem_of_getElem? (i := 458) rfl)
set_option maxRecDepth 20000 in
theorem uX_459 : Cond.selects RX6 yX6_takeHow yX6_takeHow ∈ uX := List.mem_append_left _ (List.mem_of_getElem? (i := 459) rfl)
set_option maxRecDepth 20000 in
theorem uX_460 : Cond.methodLink RX6 86 yX6_takeSorted ∈ uX := List.mem_append_left _ (List.mem_of_getElem? (i := 460) rfl)
set_option maxRecDepth 20000 in
theorem uX_461 : Cond.instanceMethod yX6_takeSorted ∈ uX := List.mem_append_left _ (List.mem_of_getElem? (i := 461) rfl)
set_option maxRecDepth 20000 in
theorem uX_462 : Cond.selects RX6 yX6_takeSorted yX6_takeSorted ∈ uX := List.mem_append_left _ (List.mem_of_getElem? (i := 462) rfl)
set_option maxRecDepth 20000 in
theorem uX_463 : Cond.methodLink RX6 89 yX6_takeSign ∈ uX := List.mem_append_left _ (List.mem_of_getElem? (i := 463) rfl)
set_option maxRecDepth 20000 in
theorem uX_464 : Cond.instanceMethod yX6_takeSign ∈ uX := List.mem_append_left _ (List.mem_of_getElem? (i := 464) rfl)
set_option maxRecDepth 20000 in
theorem uX_465 : Cond.selects RX6 yX6_takeSign yX6_takeSign ∈ uX := List.mem_append_left _ (List.mem_of_getElem? (i := 465) rfl)
set_option maxRecDepth 20000 in
theorem uX_466 : Cond.methodLink RX6 93 yX6_takeClosing ∈ uX := List.mem_append_left _ (List.mem_of_getElem? (i := 466) rfl)
set_option maxRecDepth 20000 in
theorem uX_467 : Cond.instanceMethod yX6_takeClosing ∈ uX := List.mem_append_left _ (List.mem_of_getElem? (i := 467) rfl)
set_option maxRecDepth 20000 in
theorem uX_468 : Cond.selects RX6 yX6_takeClosing yX6_takeClosing ∈ uX := List.mem_append_left _ (List.mem_of_getElem? (i := 468) rfl)
set_option maxRecDepth 20000 in
theorem uX_469 : Cond.code yX6_take cX6_take 1 (some .int) ∈ uX := List.mem_append_left _ (List.mem_of_getElem? (i := 469) rfl)
set_option maxRecDepth 20000 in
theorem uX_470 : Cond.methodLink RX6 44 yX6_nextToken ∈ uX := List.mem_append_left _ (List.mem_of_getElem? (i := 470) rfl)
set_option maxRecDepth 20000 in
theorem uX_471 : Cond.instanceMethod yX6_nextToken ∈ uX := List.mem_append_left _ (List.mem_of_getElem? (i := 471) rfl)
set_option maxRecDepth 20000 in
theorem uX_472 : Cond.selects RX6 yX6_nextToken yX6_nextToken ∈ uX := List.mem_append_left _ (List.mem_of_getElem? (i := 472) rfl)
set_option maxRecDepth 20000 in
theorem uX_473 : Cond.methodLink RX6 47 yX6_take ∈ uX := List.mem_append_left _ (List.mem_of_getElem? (i := 473) rfl)
set_option maxRecDepth 20000 in
theorem uX_474 : Cond.instanceMethod yX6_take ∈ uX := List.mem_append_left _ (List.mem_of_getElem? (i := 474) rfl)
set_option maxRecDepth 20000 in
theorem uX_475 : Cond.selects RX6 yX6_take yX6_take ∈ uX := List.mem_append_left _ (List.mem_of_getElem? (i := 475) rfl)
set_option maxRecDepth 20000 in
theorem uX_476 : Cond.code yX6_read cX6_read 3 (some .int) ∈ uX := List.mem_append_left _ (List.mem_of_getElem? (i := 476) rfl)
set_option maxRecDepth 20000 in
theorem uX_477 : Cond.code yX7_tell cX7_tell 3 (some .int) ∈ uX := List.mem_append_left _ (List.mem_of_getElem? (i := 477) rfl)
set_option maxRecDepth 20000 in
theorem uX_478 : Cond.code yX7_holds cX7_holds 4 (some .boolean) ∈ uX := List.mem_append_left _ (List.mem_of_getElem? (i := 478) rfl)
set_option maxRecDepth 20000 in
theorem uX_479 : Cond.code yX9_add cX9_add 2 none ∈ uX := List.mem_append_left _ (List.mem_of_getElem? (i := 479) rfl)
set_option maxRecDepth 20000 in
theorem uX_480 : Cond.methodLink RX11 1 objectInit ∈ uX := List.mem_append_left _ (List.mem_of_getElem? (i := 480) rfl)
set_option maxRecDepth 20000 in
theorem uX_481 : Cond.classLink RX11 7 RX6 ∈ uX := List.mem_append_left _ (List.mem_of_getElem? (i := 481) rfl)
set_option maxRecDepth 20000 in
theorem uX_482 : Cond.instantiable RX6 8 ∈ uX := List.mem_append_left _ (List.mem_of_getElem? (i := 482) rfl)
set_option maxRecDepth 20000 in
theorem uX_483 : Cond.fieldLink RX11 10 "AreaSetter" "reader" "LAreaSetter$Reader;" ∈ uX := List.mem_append_left _ (List.mem_of_getElem? (i := 483) rfl)
set_option maxRecDepth 20000 in
theorem uX_484 : Cond.fieldLink RX11 16 "AreaSetter$Reader" "tape" "LAreaSetter$Tape;" ∈ uX := List.mem_append_left _ (List.mem_of_getElem? (i := 484) rfl)
set_option maxRecDepth 20000 in
theorem uX_485 : Cond.fieldLink RX11 20 "AreaSetter" "tape" "LAreaSetter$Tape;" ∈ uX := List.mem_append_left _ (List.mem_of_getElem? (i := 485) rfl)
set_option maxRecDepth 20000 in
theorem uX_486 : Cond.classLink RX11 21 RX0 ∈ uX := List.mem_append_left _ (List.mem_of_getElem? (i := 486) rfl)
set_option maxRecDepth 20000 in
theorem uX_487 : Cond.instantiable RX0 5 ∈ uX := List.mem_append_left _ (List.mem_of_getElem? (i := 487) rfl)
set_option maxRecDepth 20000 in
theorem uX_488 : Cond.initialized RX0 ∈ uX := List.mem_append_left _ (List.mem_of_getElem? (i := 488) rfl)
set_option maxRecDepth 20000 in
theorem uX_489 : Cond.fieldLink RX11 24 "AreaSetter" "changes" "LAreaSetter$Changes;" ∈ uX := List.mem_append_left _ (List.mem_of_getElem? (i := 489) rfl)
set_option maxRecDepth 20000 in
theorem uX_490 : Cond.classLink RX11 28 RX2 ∈ uX := List.mem_append_left _ (List.mem_of_getElem? (i := 490) rfl)
set_option maxRecDepth 20000 in
theorem uX_491 : Cond.instantiable RX2 8 ∈ uX := List.mem_append_left _ (List.mem_of_getElem? (i := 491) rfl)
set_option maxRecDepth 20000 in
theorem uX_492 : Cond.fieldLink RX11 31 "AreaSetter" "drawings" "LAreaSetter$Drawings;" ∈ uX := List.mem_append_left _ (List.mem_of_getElem? (i := 492) rfl)
set_option maxRecDepth 20000 in
theorem uX_493 : Cond.classLink RX11 35 RX4 ∈ uX := List.mem_append_left _ (List.mem_of_getElem? (i := 493) rfl)
set_option maxRecDepth 20000 in
theorem uX_494 : Cond.instantiable RX4 5 ∈ uX := List.mem_append_left _ (List.mem_of_getElem? (i := 494) rfl)
set_option maxRecDepth 20000 in
theorem uX_495 : Cond.fieldLink RX11 38 "AreaSetter" "layer" "LAreaSetter$Layer;" ∈ uX := List.mem_append_left _ (List.mem_of_getElem? (i := 495) rfl)
set_option maxRecDepth 20000 in
theorem uX_496 : Cond.fieldLink RX11 42 "AreaSetter" "sizesNow" "[I" ∈ uX := List.mem_append_left _ (List.mem_of_getElem? (i := 496) rfl)
set_option maxRecDepth 20000 in
theorem uX_497 : Cond.classLink RX11 46 RX10 ∈ uX := List.mem_append_left _ (List.mem_of_getElem? (i := 497) rfl)
set_option maxRecDepth 20000 in
theorem uX_498 : Cond.fieldLink RX11 49 "AreaSetter" "kept" "LAreaSetter$Tree;" ∈ uX := List.mem_append_left _ (List.mem_of_getElem? (i := 498) rfl)
set_option maxRecDepth 20000 in
theorem uX_499 : Cond.fieldLink RX11 53 "AreaSetter" "sheetWide" "I" ∈ uX := List.mem_append_left _ (List.mem_of_getElem? (i := 499) rfl)
set_option maxRecDepth 20000 in
theorem uX_500 : Cond.fieldLink RX11 57 "AreaSetter" "sheetHigh" "I" ∈ uX := List.mem_append_left _ (List.mem_of_getElem? (i := 500) rfl)
set_option maxRecDepth 20000 in
theorem uX_501 : Cond.instanceMethod yX6_init ∈ uX := List.mem_append_left _ (List.mem_of_getElem? (i := 501) rfl)
set_option maxRecDepth 20000 in
theorem uX_502 : Cond.instanceMethod yX0_init ∈ uX := List.mem_append_left _ (List.mem_of_getElem? (i := 502) rfl)
set_option maxRecDepth 20000 in
theorem uX_503 : Cond.instanceMethod yX2_init ∈ uX := List.mem_append_left _ (List.mem_of_getElem? (i := 503) rfl)
set_option maxRecDepth 20000 in
theorem uX_504 : Cond.instanceMethod yX4_init ∈ uX := List.mem_append_left _ (List.mem_of_getElem? (i := 504) rfl)
set_option maxRecDepth 20000 in
theorem uX_505 : Cond.code yX11_init cX11_init 1 none ∈ uX := List.mem_append_left _ (List.mem_of_getElem? (i := 505) rfl)
set_option maxRecDepth 20000 in
theorem uX_506 : Cond.code yX11_isFrom cX11_isFrom 3 (some .boolean) ∈ uX := List.mem_append_left _ (List.mem_of_getElem? (i := 506) rfl)
set_option maxRecDepth 20000 in
theorem uX_507 : Cond.code yX11_sheet cX11_sheet 3 (some .boolean) ∈ uX := List.mem_append_left _ (List.mem_of_getElem? (i := 507) rfl)
set_option maxRecDepth 20000 in
theorem uX_508 : Cond.methodLink RX11 60 yX11_isFrom ∈ uX := List.mem_append_left _ (List.mem_of_getElem? (i := 508) rfl)
set_option maxRecDepth 20000 in
theorem uX_509 : Cond.static yX11_isFrom ∈ uX := List.mem_append_left _ (List.mem_of_getElem? (i := 509) rfl)
set_option maxRecDepth 20000 in
theorem uX_510 : Cond.code yX11_price cX11_price 2 (some .boolean) ∈ uX := List.mem_append_left _ (List.mem_of_getElem? (i := 510) rfl)
set_option maxRecDepth 20000 in
theorem uX_511 : Cond.fieldLink RX11 64 "AreaSetter$Layer" "moveCost" "I" ∈ uX := List.mem_append_left _ (List.mem_of_getElem? (i := 511) rfl)
set_option maxRecDepth 20000 in
theorem uX_512 : Cond.code yX11_feed cX11_feed 6 (some .int) ∈ uX := List.mem_append_left _ (List.mem_of_getElem? (i := 512) rfl)
set_option maxRecDepth 20000 in
theorem uX_513 : Cond.fieldLink RX11 67 "AreaSetter$Tape" "length" "I" ∈ uX := List.mem_append_left _ (List.mem_of_getElem? (i := 513) rfl)
set_option maxRecDepth 20000 in
theorem uX_514 : Cond.methodLink RX11 72 yX9_add ∈ uX := List.mem_append_left _ (List.mem_of_getElem? (i := 514) rfl)
set_option maxRecDepth 20000 in
theorem uX_515 : Cond.instanceMethod yX9_add ∈ uX := List.mem_append_left _ (List.mem_of_getElem? (i := 515) rfl)
set_option maxRecDepth 20000 in
theorem uX_516 : Cond.selects RX9 yX9_add yX9_add ∈ uX := List.mem_append_left _ (List.mem_of_getElem? (i := 516) rfl)
set_option maxRecDepth 20000 in
theorem uX_517 : Cond.code yX11_end cX11_end 2 (some .int) ∈ uX := List.mem_append_left _ (List.mem_of_getElem? (i := 517) rfl)
set_option maxRecDepth 20000 in
theorem uX_518 : Cond.fieldLink RX11 80 "AreaSetter$Reader" "tree" "LAreaSetter$Tree;" ∈ uX := List.mem_append_left _ (List.mem_of_getElem? (i := 518) rfl)
set_option maxRecDepth 20000 in
theorem uX_519 : Cond.fieldLink RX11 83 "AreaSetter$Changes" "many" "I" ∈ uX := List.mem_append_left _ (List.mem_of_getElem? (i := 519) rfl)
set_option maxRecDepth 20000 in
theorem uX_520 : Cond.fieldLink RX11 86 "AreaSetter$Drawings" "made" "I" ∈ uX := List.mem_append_left _ (List.mem_of_getElem? (i := 520) rfl)
set_option maxRecDepth 20000 in
theorem uX_521 : Cond.fieldLink RX11 89 "AreaSetter$Tree" "boxes" "I" ∈ uX := List.mem_append_left _ (List.mem_of_getElem? (i := 521) rfl)
set_option maxRecDepth 20000 in
theorem uX_522 : Cond.methodLink RX11 76 yX6_read ∈ uX := List.mem_append_left _ (List.mem_of_getElem? (i := 522) rfl)
set_option maxRecDepth 20000 in
theorem uX_523 : Cond.instanceMethod yX6_read ∈ uX := List.mem_append_left _ (List.mem_of_getElem? (i := 523) rfl)
set_option maxRecDepth 20000 in
theorem uX_524 : Cond.selects RX6 yX6_read yX6_read ∈ uX := List.mem_append_left _ (List.mem_of_getElem? (i := 524) rfl)
set_option maxRecDepth 20000 in
theorem uX_525 : Cond.code yX11_tree cX11_tree 3 (some .int) ∈ uX := List.mem_append_left _ (List.mem_of_getElem? (i := 525) rfl)
set_option maxRecDepth 20000 in
theorem uX_526 : Cond.code yX11_place cX11_place 1 (some .int) ∈ uX := List.mem_append_left _ (List.mem_of_getElem? (i := 526) rfl)
set_option maxRecDepth 20000 in
theorem uX_527 : Cond.fieldLink RX11 92 "AreaSetter$Reader" "faultAt" "I" ∈ uX := List.mem_append_left _ (List.mem_of_getElem? (i := 527) rfl)
set_option maxRecDepth 20000 in
theorem uX_528 : Cond.code yX11_isTick cX11_isTick 1 (some .boolean) ∈ uX := List.mem_append_left _ (List.mem_of_getElem? (i := 528) rfl)
set_option maxRecDepth 20000 in
theorem uX_529 : Cond.constant RX11 102 (999999) ∈ uX := List.mem_append_left _ (List.mem_of_getElem? (i := 529) rfl)
set_option maxRecDepth 20000 in
theorem uX_530 : Cond.methodLink RX11 95 yX10_isLeaf ∈ uX := List.mem_append_left _ (List.mem_of_getElem? (i := 530) rfl)
set_option maxRecDepth 20000 in
theorem uX_531 : Cond.methodLink RX11 99 yX11_isTick ∈ uX := List.mem_append_left _ (List.mem_of_getElem? (i := 531) rfl)
set_option maxRecDepth 20000 in
theorem uX_532 : Cond.static yX11_isTick ∈ uX := List.mem_append_left _ (List.mem_of_getElem? (i := 532) rfl)
set_option maxRecDepth 20000 in
theorem uX_533 : Cond.methodLink RX11 103 yX0_add ∈ uX := List.mem_append_left _ (List.mem_of_getElem? (i := 533) rfl)
set_option maxRecDepth 20000 in
theorem uX_534 : Cond.instanceMethod yX0_add ∈ uX := List.mem_append_left _ (List.mem_of_getElem? (i := 534) rfl)
set_option maxRecDepth 20000 in
theorem uX_535 : Cond.selects RX0 yX0_add yX0_add ∈ uX := List.mem_append_left _ (List.mem_of_getElem? (i := 535) rfl)
set_option maxRecDepth 20000 in
theorem uX_536 : Cond.code yX11_size cX11_size 4 (some .int) ∈ uX := List.mem_append_left _ (List.mem_of_getElem? (i := 536) rfl)
set_option maxRecDepth 20000 in
theorem uX_537 : Cond.code yX11_rest cX11_rest 4 (some .boolean) ∈ uX := List.mem_append_left _ (List.mem_of_getElem? (i := 537) rfl)
set_option maxRecDepth 20000 in
theorem uX_538 : Cond.fieldLink RX11 109 "AreaSetter$Tree" "limit" "[I" ∈ uX := List.mem_append_left _ (List.mem_of_getElem? (i := 538) rfl)
set_option maxRecDepth 20000 in
theorem uX_539 : Cond.fieldLink RX11 112 "AreaSetter$Tree" "open" "[Z" ∈ uX := List.mem_append_left _ (List.mem_of_getElem? (i := 539) rfl)
set_option maxRecDepth 20000 in
theorem uX_540 : Cond.methodLink RX11 106 yX10_isGroup ∈ uX := List.mem_append_left _ (List.mem_of_getElem? (i := 540) rfl)
set_option maxRecDepth 20000 in
theorem uX_541 : Cond.methodLink RX11 116 yX0_tellSizes ∈ uX := List.mem_append_left _ (List.mem_of_getElem? (i := 541) rfl)
set_option maxRecDepth 20000 in
theorem uX_542 : Cond.instanceMethod yX0_tellSizes ∈ uX := List.mem_append_left _ (List.mem_of_getElem? (i := 542) rfl)
set_option maxRecDepth 20000 in
theorem uX_543 : Cond.selects RX0 yX0_tellSizes yX0_tellSizes ∈ uX := List.mem_append_left _ (List.mem_of_getElem? (i := 543) rfl)
set_option maxRecDepth 20000 in
theorem uX_544 : Cond.methodLink RX11 120 yX2_begin ∈ uX := List.mem_append_left _ (List.mem_of_getElem? (i := 544) rfl)
set_option maxRecDepth 20000 in
theorem uX_545 : Cond.instanceMethod yX2_begin ∈ uX := List.mem_append_left _ (List.mem_of_getElem? (i := 545) rfl)
set_option maxRecDepth 20000 in
theorem uX_546 : Cond.selects RX2 yX2_begin yX2_begin ∈ uX := List.mem_append_left _ (List.mem_of_getElem? (i := 546) rfl)
set_option maxRecDepth 20000 in
theorem uX_547 : Cond.methodLink RX11 124 yX2_show ∈ uX := List.mem_append_left _ (List.mem_of_getElem? (i := 547) rfl)
set_option maxRecDepth 20000 in
theorem uX_548 : Cond.methodLink RX11 128 yX4_layGroup ∈ uX := List.mem_append_left _ (List.mem_of_getElem? (i := 548) rfl)
set_option maxRecDepth 20000 in
theorem uX_549 : Cond.instanceMethod yX4_layGroup ∈ uX := List.mem_append_left _ (List.mem_of_getElem? (i := 549) rfl)
set_option maxRecDepth 20000 in
theorem uX_550 : Cond.selects RX4 yX4_layGroup yX4_layGroup ∈ uX := List.mem_append_left _ (List.mem_of_getElem? (i := 550) rfl)
set_option maxRecDepth 20000 in
theorem uX_551 : Cond.code yX11_draw cX11_draw 3 (some .int) ∈ uX := List.mem_append_left _ (List.mem_of_getElem? (i := 551) rfl)
set_option maxRecDepth 20000 in
theorem uX_552 : Cond.fieldLink RX11 141 "AreaSetter$Drawings" "boxes" "LAreaSetter$Rectangles;" ∈ uX := List.mem_append_left _ (List.mem_of_getElem? (i := 552) rfl)
set_option maxRecDepth 20000 in
theorem uX_553 : Cond.fieldLink RX11 144 "AreaSetter$Rectangles" "sizes" "[I" ∈ uX := List.mem_append_left _ (List.mem_of_getElem? (i := 553) rfl)
set_option maxRecDepth 20000 in
theorem uX_554 : Cond.fieldLink RX11 147 "AreaSetter$Drawings" "shown" "[Z" ∈ uX := List.mem_append_left _ (List.mem_of_getElem? (i := 554) rfl)
set_option maxRecDepth 20000 in
theorem uX_555 : Cond.fieldLink RX11 150 "AreaSetter$Drawings" "laid" "[I" ∈ uX := List.mem_append_left _ (List.mem_of_getElem? (i := 555) rfl)
set_option maxRecDepth 20000 in
theorem uX_556 : Cond.fieldLink RX11 153 "AreaSetter$Drawings" "worst" "[I" ∈ uX := List.mem_append_left _ (List.mem_of_getElem? (i := 556) rfl)
set_option maxRecDepth 20000 in
theorem uX_557 : Cond.methodLink RX11 132 yX10_has ∈ uX := List.mem_append_left _ (List.mem_of_getElem? (i := 557) rfl)
set_option maxRecDepth 20000 in
theorem uX_558 : Cond.methodLink RX11 135 yX2_latestCell ∈ uX := List.mem_append_left _ (List.mem_of_getElem? (i := 558) rfl)
set_option maxRecDepth 20000 in
theorem uX_559 : Cond.methodLink RX11 156 yX7_tell ∈ uX := List.mem_append_left _ (List.mem_of_getElem? (i := 559) rfl)
set_option maxRecDepth 20000 in
theorem uX_560 : Cond.instanceMethod yX7_tell ∈ uX := List.mem_append_left _ (List.mem_of_getElem? (i := 560) rfl)
set_option maxRecDepth 20000 in
theorem uX_561 : Cond.selects RX7 yX7_tell yX7_tell ∈ uX := List.mem_append_left _ (List.mem_of_getElem? (i := 561) rfl)
set_option maxRecDepth 20000 in
theorem uX_562 : Cond.code yX11_box cX11_box 4 (some .int) ∈ uX := List.mem_append_left _ (List.mem_of_getElem? (i := 562) rfl)
set_option maxRecDepth 20000 in
theorem uX_563 : Cond.fieldLink RX11 160 "AreaSetter$Drawings" "together" "[I" ∈ uX := List.mem_append_left _ (List.mem_of_getElem? (i := 563) rfl)
set_option maxRecDepth 20000 in
theorem uX_564 : Cond.fieldLink RX11 163 "AreaSetter$Drawings" "rests" "LAreaSetter$Rectangles;" ∈ uX := List.mem_append_left _ (List.mem_of_getElem? (i := 564) rfl)
set_option maxRecDepth 20000 in
theorem uX_565 : Cond.code yX11_restOf cX11_restOf 3 (some .int) ∈ uX := List.mem_append_left _ (List.mem_of_getElem? (i := 565) rfl)
set_option maxRecDepth 20000 in
theorem uX_566 : Cond.methodLink RX11 166 yX7_holds ∈ uX := List.mem_append_left _ (List.mem_of_getElem? (i := 566) rfl)
set_option maxRecDepth 20000 in
theorem uX_567 : Cond.instanceMethod yX7_holds ∈ uX := List.mem_append_left _ (List.mem_of_getElem? (i := 567) rfl)
set_option maxRecDepth 20000 in
theorem uX_568 : Cond.selects RX7 yX7_holds yX7_holds ∈ uX := List.mem_append_left _ (List.mem_of_getElem? (i := 568) rfl)
set_option maxRecDepth 20000 in
theorem uX_569 : Cond.methodLink RX11 169 yX2_hasRest ∈ uX := List.mem_append_left _ (List.mem_of_getElem? (i := 569) rfl)
set_option maxRecDepth 20000 in
theorem uX_570 : Cond.instanceMethod yX2_hasRest ∈ uX := List.mem_append_left _ (List.mem_of_getElem? (i := 570) rfl)
set_option maxRecDepth 20000 in
theorem uX_571 : Cond.selects RX2 yX2_hasRest yX2_hasRest ∈ uX := List.mem_append_left _ (List.mem_of_getElem? (i := 571) rfl)
set_option maxRecDepth 20000 in
theorem uX_572 : Cond.code yX11_under cX11_under 6 (some .int) ∈ uX := List.mem_append_left _ (List.mem_of_getElem? (i := 572) rfl)
set_option maxRecDepth 20000 in
theorem uX_573 : Cond.fieldLink RX11 173 "AreaSetter$Rectangles" "wide" "[I" ∈ uX := List.mem_append_left _ (List.mem_of_getElem? (i := 573) rfl)
set_option maxRecDepth 20000 in
theorem uX_574 : Cond.fieldLink RX11 176 "AreaSetter$Rectangles" "high" "[I" ∈ uX := List.mem_append_left _ (List.mem_of_getElem? (i := 574) rfl)
set_option maxRecDepth 20000 in
theorem uX_575 : Cond.fieldLink RX11 179 "AreaSetter$Tree" "nameLength" "[I" ∈ uX := List.mem_append_left _ (List.mem_of_getElem? (i := 575) rfl)
set_option maxRecDepth 20000 in
theorem uX_576 : Cond.methodLink RX11 182 Lib.Math.min.name ∈ uX := List.mem_append_left _ (List.mem_of_getElem? (i := 576) rfl)
set_option maxRecDepth 20000 in
theorem uX_577 : Cond.code yX11_letters cX11_letters 4 (some .int) ∈ uX := List.mem_append_left _ (List.mem_of_getElem? (i := 577) rfl)
set_option maxRecDepth 20000 in
theorem uX_578 : Cond.methodLink RX11 187 yX2_cell ∈ uX := List.mem_append_left _ (List.mem_of_getElem? (i := 578) rfl)
set_option maxRecDepth 20000 in
theorem uX_579 : Cond.methodLink RX11 190 yX7_distance ∈ uX := List.mem_append_left _ (List.mem_of_getElem? (i := 579) rfl)
set_option maxRecDepth 20000 in
theorem uX_580 : Cond.code yX11_moved cX11_moved 4 (some .int) ∈ uX := List.mem_append_left _ (List.mem_of_getElem? (i := 580) rfl)
set_option maxRecDepth 20000 in
theorem uX_581 : Cond.classLink RX11 197 "java/util/NoSuchElementException" ∈ uX := List.mem_append_left _ (List.mem_of_getElem? (i := 581) rfl)
set_option maxRecDepth 20000 in
theorem uX_582 : Cond.initialized "java/util/NoSuchElementException" ∈ uX := List.mem_append_left _ (List.mem_of_getElem? (i := 582) rfl)
set_option maxRecDepth 20000 in
theorem uX_583 : Cond.fieldLink RX11 200 "AreaSetter$Drawings" "ticks" "[I" ∈ uX := List.mem_append_left _ (List.mem_of_getElem? (i := 583) rfl)
set_option maxRecDepth 20000 in
theorem uX_584 : Cond.methodLink RX11 194 yX2_keeps ∈ uX := List.mem_append_left _ (List.mem_of_getElem? (i := 584) rfl)
set_option maxRecDepth 20000 in
theorem uX_585 : Cond.instanceMethod yX2_keeps ∈ uX := List.mem_append_left _ (List.mem_of_getElem? (i := 585) rfl)
set_option maxRecDepth 20000 in
theorem uX_586 : Cond.selects RX2 yX2_keeps yX2_keeps ∈ uX := List.mem_append_left _ (List.mem_of_getElem? (i := 586) rfl)
set_option maxRecDepth 20000 in
theorem uX_587 : Cond.code yX11_past cX11_past 5 (some .int) ∈ uX := List.mem_append_left _ (List.mem_of_getElem? (i := 587) rfl)
set_option maxRecDepth 20000 in
theorem uX_588 : Cond.code yX11_aboutGroup cX11_aboutGroup 3 (some .int) ∈ uX := List.mem_append_left _ (List.mem_of_getElem? (i := 588) rfl)
set_option maxRecDepth 20000 in
theorem uX_589 : Cond.fieldLink RX11 232 "AreaSetter$Tree" "how" "[I" ∈ uX := List.mem_append_left _ (List.mem_of_getElem? (i := 589) rfl)
set_option maxRecDepth 20000 in
theorem uX_590 : Cond.fieldLink RX11 235 "AreaSetter$Tree" "sorted" "[Z" ∈ uX := List.mem_append_left _ (List.mem_of_getElem? (i := 590) rfl)
set_option maxRecDepth 20000 in
theorem uX_591 : Cond.fieldLink RX11 203 "AreaSetter$Tree" "parent" "[I" ∈ uX := List.mem_append_left _ (List.mem_of_getElem? (i := 591) rfl)
set_option maxRecDepth 20000 in
theorem uX_592 : Cond.fieldLink RX11 206 "AreaSetter$Tree" "children" "[I" ∈ uX := List.mem_append_left _ (List.mem_of_getElem? (i := 592) rfl)
set_option maxRecDepth 20000 in
theorem uX_593 : Cond.fieldLink RX11 209 "AreaSetter$Tree" "groupsAround" "[I" ∈ uX := List.mem_append_left _ (List.mem_of_getElem? (i := 593) rfl)
set_option maxRecDepth 20000 in
theorem uX_594 : Cond.methodLink RX11 212 yX11_aboutGroup ∈ uX := List.mem_append_left _ (List.mem_of_getElem? (i := 594) rfl)
set_option maxRecDepth 20000 in
theorem uX_595 : Cond.instanceMethod yX11_aboutGroup ∈ uX := List.mem_append_left _ (List.mem_of_getElem? (i := 595) rfl)
set_option maxRecDepth 20000 in
theorem uX_596 : Cond.selects RX11 yX11_aboutGroup yX11_aboutGroup ∈ uX := List.mem_append_left _ (List.mem_of_getElem? (i := 596) rfl)
set_option maxRecDepth 20000 in
theorem uX_597 : Cond.code yX11_about cX11_about 3 (some .int) ∈ uX := List.mem_append_left _ (List.mem_of_getElem? (i := 597) rfl)
set_option maxRecDepth 20000 in
theorem uX_598 : Cond.code yX11_letter cX11_letter 3 (some .int) ∈ uX := List.mem_append_left _ (List.mem_of_getElem? (i := 598) rfl)
set_option maxRecDepth 20000 in
theorem uX_599 : Cond.methodLink RX11 215 yX10_nameByte ∈ uX := List.mem_append_left _ (List.mem_of_getElem? (i := 599) rfl)
set_option maxRecDepth 20000 in
theorem uX_600 : Cond.methodLink RX11 218 yX10_find ∈ uX := List.mem_append_left _ (List.mem_of_getElem? (i := 600) rfl)
set_option maxRecDepth 20000 in
theorem uX_601 : Cond.code yX11_named cX11_named 2 (some .int) ∈ uX := List.mem_append_left _ (List.mem_of_getElem? (i := 601) rfl)
set_option maxRecDepth 20000 in
theorem uX_602 : Cond.code yX11_sizeIn cX11_sizeIn 3 (some .int) ∈ uX := List.mem_append_left _ (List.mem_of_getElem? (i := 602) rfl)
set_option maxRecDepth 20000 in
theorem uX_603 : Cond.fieldLink RX11 222 "AreaSetter$Tree" "groups" "I" ∈ uX := List.mem_append_left _ (List.mem_of_getElem? (i := 603) rfl)
set_option maxRecDepth 20000 in
theorem uX_604 : Cond.methodLink RX11 225 yX2_countShown ∈ uX := List.mem_append_left _ (List.mem_of_getElem? (i := 604) rfl)
set_option maxRecDepth 20000 in
theorem uX_605 : Cond.instanceMethod yX2_countShown ∈ uX := List.mem_append_left _ (List.mem_of_getElem? (i := 605) rfl)
set_option maxRecDepth 20000 in
theorem uX_606 : Cond.selects RX2 yX2_countShown yX2_countShown ∈ uX := List.mem_append_left _ (List.mem_of_getElem? (i := 606) rfl)
set_option maxRecDepth 20000 in
theorem uX_607 : Cond.methodLink RX11 229 yX2_greatestWorst ∈ uX := List.mem_append_left _ (List.mem_of_getElem? (i := 607) rfl)
set_option maxRecDepth 20000 in
theorem uX_608 : Cond.instanceMethod yX2_greatestWorst ∈ uX := List.mem_append_left _ (List.mem_of_getElem? (i := 608) rfl)
set_option maxRecDepth 20000 in
theorem uX_609 : Cond.selects RX2 yX2_greatestWorst yX2_greatestWorst ∈ uX := List.mem_append_left _ (List.mem_of_getElem? (i := 609) rfl)
set_option maxRecDepth 20000 in
theorem uX_610 : Cond.code yX11_count cX11_count 2 (some .int) ∈ uX := List.mem_append_left _ (List.mem_of_getElem? (i := 610) rfl)
set_option maxRecDepth 20000 in
theorem uX_611 : Cond.code yJ6_bitCount_0f7a4 cJ6_bitCount_0f7a4 1 (some .int) ∈ uX := List.mem_append_left _ (List.mem_of_getElem? (i := 611) rfl)
set_option maxRecDepth 20000 in
theorem uX_612 : Cond.constant RJ6 265 (1431655765) ∈ uX := List.mem_append_left _ (List.mem_of_getElem? (i := 612) rfl)
set_option maxRecDepth 20000 in
theorem uX_613 : Cond.constant RJ6 266 (858993459) ∈ uX := List.mem_append_left _ (List.mem_of_getElem? (i := 613) rfl)
set_option maxRecDepth 20000 in
theorem uX_614 : Cond.constant RJ6 267 (252645135) ∈ uX := List.mem_append_left _ (List.mem_of_getElem? (i := 614) rfl)
set_option maxRecDepth 20000 in
theorem uX_615 : Cond.code yJ9_abs_0f7a4 cJ9_abs_0f7a4 1 (some .int) ∈ uX := List.mem_append_left _ (List.mem_of_getElem? (i := 615) rfl)
set_option maxRecDepth 20000 in
theorem uX_616 : Cond.code yJ9_max_7cf53 cJ9_max_7cf53 2 (some .int) ∈ uX := List.mem_append_left _ (List.mem_of_getElem? (i := 616) rfl)
set_option maxRecDepth 20000 in
theorem uX_617 : Cond.code yJ9_min_7cf53 cJ9_min_7cf53 2 (some .int) ∈ uX := List.mem_append_left _ (List.mem_of_getElem? (i := 617) rfl)
theorem uX_fX0 : ∀ w ∈ u_ws RX0 TX0 5, w ∈ uX := fun w h => List.mem_append_right _ (List.mem_append_left _ (List.mem_append_left _ (List.mem_append_left _ (List.mem_append_left _ (List.mem_append_left _ (List.mem_append_left _ (List.mem_append_left _ (List.mem_append_left _ (List.mem_append_left _ (List.mem_append_left _ (List.mem_append_left _ h)))))))))))
theorem uX_fX1 : ∀ w ∈ u_ws RX1 TX1 1, w ∈ uX := fun w h => List.mem_append_right _ (List.mem_append_left _ (List.mem_append_left _ (List.mem_append_left _ (List.mem_append_left _ (List.mem_append_left _ (List.mem_append_left _ (List.mem_append_left _ (List.mem_append_left _ (List.mem_append_left _ (List.mem_append_left _ (List.mem_append_right _ h)))))))))))
theorem uX_fX2 : ∀ w ∈ u_ws RX2 TX2 8, w ∈ uX := fun w h => List.mem_append_right _ (List.mem_append_left _ (List.mem_append_left _ (List.mem_append_left _ (List.mem_append_left _ (List.mem_append_left _ (List.mem_append_left _ (List.mem_append_left _ (List.mem_append_left _ (List.mem_append_left _ (List.mem_append_right _ h))))))))))
theorem uX_fX3 : ∀ w ∈ u_ws RX3 TX3 9, w ∈ uX := fun w h => List.mem_append_right _ (List.mem_append_left _ (List.mem_append_left _ (List.mem_append_left _ (List.mem_append_left _ (List.mem_append_left _ (List.mem_append_left _ (List.mem_append_left _ (List.mem_append_left _ (List.mem_append_right _ h)))))))))
theorem uX_fX4 : ∀ w ∈ u_ws RX4 TX4 5, w ∈ uX := fun w h => List.mem_append_right _ (List.mem_append_left _ (List.mem_append_left _ (List.mem_append_left _ (List.mem_append_left _ (List.mem_append_left _ (List.mem_append_left _ (List.mem_append_left _ (List.mem_append_right _ h))))))))
theorem uX_fX5 : ∀ w ∈ u_ws RX5 TX5 2, w ∈ uX := fun w h => List.mem_append_right _ (List.mem_append_left _ (List.mem_append_left _ (List.mem_append_left _ (List.mem_append_left _ (List.mem_append_left _ (List.mem_append_left _ (List.mem_append_right _ h)))))))
theorem uX_fX6 : ∀ w ∈ u_ws RX6 TX6 8, w ∈ uX := fun w h => List.mem_append_right _ (List.mem_append_left _ (List.mem_append_left _ (List.mem_append_left _ (List.mem_append_left _ (List.mem_append_left _ (List.mem_append_right _ h))))))
theorem uX_fX7 : ∀ w ∈ u_ws RX7 TX7 5, w ∈ uX := fun w h => List.mem_append_right _ (List.mem_append_left _ (List.mem_append_left _ (List.mem_append_left _ (List.mem_append_left _ (List.mem_append_right _ h)))))
theorem uX_fX8 : ∀ w ∈ u_ws RX8 TX8 4, w ∈ uX := fun w h => List.mem_append_right _ (List.mem_append_left _ (List.mem_append_left _ (List.mem_append_left _ (List.mem_append_right _ h))))
theorem uX_fX9 : ∀ w ∈ u_ws RX9 TX9 2, w ∈ uX := fun w h => List.mem_append_right _ (List.mem_append_left _ (List.mem_append_left _ (List.mem_append_right _ h)))
theorem uX_fX10 : ∀ w ∈ u_ws RX10 TX10 12, w ∈ uX := fun w h => List.mem_append_right _ (List.mem_append_left _ (List.mem_append_right _ h))
theorem uX_fX11 : ∀ w ∈ u_ws RX11 TX11 9, w ∈ uX := fun w h => List.mem_append_right _ (List.mem_append_right _ h)
theorem uX_good : GoodIn uX uX := goodIn_sub (fun _ h => h) (by decide +kernel)
abbrev vsX11_init : List Cond := .code yX11_init cX11_init 1 none :: uX
abbrev vsX11_sheet : List Cond := .code yX11_sheet cX11_sheet 3 (some .boolean) :: uX
abbrev vsX11_price : List Cond := .code yX11_price cX11_price 2 (some .boolean) :: uX
abbrev vsX11_feed : List Cond := .code yX11_feed cX11_feed 6 (some .int) :: uX
abbrev vsX11_end : List Cond := .code yX11_end cX11_end 2 (some .int) :: uX
abbrev vsX11_tree : List Cond := .code yX11_tree cX11_tree 3 (some .int) :: uX
abbrev vsX11_place : List Cond := .code yX11_place cX11_place 1 (some .int) :: uX
abbrev vsX11_size : List Cond := .code yX11_size cX11_size 4 (some .int) :: uX
abbrev vsX11_rest : List Cond := .code yX11_rest cX11_rest 4 (some .boolean) :: uX
abbrev vsX11_draw : List Cond := .code yX11_draw cX11_draw 3 (some .int) :: uX
abbrev vsX11_box : List Cond := .code yX11_box cX11_box 4 (some .int) :: uX
abbrev vsX11_restOf : List Cond := .code yX11_restOf cX11_restOf 3 (some .int) :: uX
abbrev vsX11_under : List Cond := .code yX11_under cX11_under 6 (some .int) :: uX
abbrev vsX11_letters : List Cond := .code yX11_letters cX11_letters 4 (some .int) :: uX
abbrev vsX11_moved : List Cond := .code yX11_moved cX11_moved 4 (some .int) :: uX
abbrev vsX11_past : List Cond := .code yX11_past cX11_past 5 (some .int) :: uX
abbrev vsX11_about : List Cond := .code yX11_about cX11_about 3 (some .int) :: uX
abbrev vsX11_letter : List Cond := .code yX11_letter cX11_letter 3 (some .int) :: uX
abbrev vsX11_named : List Cond := .code yX11_named cX11_named 2 (some .int) :: uX
abbrev vsX11_sizeIn : List Cond := .code yX11_sizeIn cX11_sizeIn 3 (some .int) :: uX
abbrev vsX11_count : List Cond := .code yX11_count cX11_count 2 (some .int) :: uX
abbrev vsX11_aboutGroup : List Cond := .code yX11_aboutGroup cX11_aboutGroup 3 (some .int) :: uX
abbrev vsX11_isFrom : List Cond := .code yX11_isFrom cX11_isFrom 3 (some .boolean) :: uX
abbrev vsX11_isTick : List Cond := .code yX11_isTick cX11_isTick 1 (some .boolean) :: uX
abbrev vsX11_shapeOf : List Cond := .code yX11_shapeOf cX11_shapeOf 5 (some .int) :: uX
abbrev vsX11_share : List Cond := .code yX11_share cX11_share 3 (some .int) :: uX
abbrev vsX12_thrown : List Cond := .code yX12_thrown cX12_thrown 1 (some .int) :: uZ
abbrev vsX12_within : List Cond := .code yX12_within cX12_within 3 (some .boolean) :: uZ
abbrev vsX12_init : List Cond := .code yX12_init cX12_init 1 none :: uZ
abbrev vsX12_sheet : List Cond := .code yX12_sheet cX12_sheet 3 (some .boolean) :: uZ
abbrev vsX12_price : List Cond := .code yX12_price cX12_price 2 (some .boolean) :: uZ
abbrev vsX12_feed : List Cond := .code yX12_feed cX12_feed 8 (some .int) :: uZ
abbrev vsX12_end : List Cond := .code yX12_end cX12_end 2 (some .int) :: uZ
abbrev vsX12_see : List Cond := .code yX12_see cX12_see 2 (some .int) :: uZ
abbrev vsX12_isSmall : List Cond := .code yX12_isSmall cX12_isSmall 1 (some .boolean) :: uZ
abbrev vsX12_isDigit : List Cond := .code yX12_isDigit cX12_isDigit 1 (some .boolean) :: uZ
abbrev vsX12_next : List Cond := .code yX12_next cX12_next 2 none :: uZ
abbrev vsX12_isWord : List Cond := .code yX12_isWord cX12_isWord 3 (some .boolean) :: uZ
abbrev vsX12_how : List Cond := .code yX12_how cX12_how 1 (some .int) :: uZ
abbrev vsX12_isName : List Cond := .code yX12_isName cX12_isName 1 (some .boolean) :: uZ
abbrev vsX12_is : List Cond := .code yX12_is cX12_is 2 (some .boolean) :: uZ
abbrev vsX12_fails : List Cond := .code yX12_fails cX12_fails 2 none :: uZ
abbrev vsX12_isWell : List Cond := .code yX12_isWell cX12_isWell 1 (some .boolean) :: uZ
abbrev vsX12_isKnown : List Cond := .code yX12_isKnown cX12_isKnown 5 (some .boolean) :: uZ
abbrev vsX12_newBox : List Cond := .code yX12_newBox cX12_newBox 4 (some .int) :: uZ
abbrev vsX12_want : List Cond := .code yX12_want cX12_want 2 none :: uZ
abbrev vsX12_group : List Cond := .code yX12_group cX12_group 3 none :: uZ
abbrev vsX12_child : List Cond := .code yX12_child cX12_child 3 none :: uZ
abbrev vsX12_tree : List Cond := .code yX12_tree cX12_tree 4 (some .int) :: uZ
abbrev vsX12_place : List Cond := .code yX12_place cX12_place 1 (some .int) :: uZ
abbrev vsX12_isBox : List Cond := .code yX12_isBox cX12_isBox 2 (some .boolean) :: uZ
abbrev vsX12_size : List Cond := .code yX12_size cX12_size 4 (some .int) :: uZ
abbrev vsX12_sizeOf : List Cond := .code yX12_sizeOf cX12_sizeOf 5 (some .int) :: uZ
abbrev vsX12_sizeIn : List Cond := .code yX12_sizeIn cX12_sizeIn 3 (some .int) :: uZ
abbrev vsX12_rest : List Cond := .code yX12_rest cX12_rest 4 (some .boolean) :: uZ
abbrev vsX12_shape : List Cond := .code yX12_shape cX12_shape 3 (some .int) :: uZ
abbrev vsX12_worst : List Cond := .code yX12_worst cX12_worst 3 (some .int) :: uZ
abbrev vsX12_sum : List Cond := .code yX12_sum cX12_sum 3 (some .int) :: uZ
abbrev vsX12_parts : List Cond := .code yX12_parts cX12_parts 6 none :: uZ
abbrev vsX12_partEnd : List Cond := .code yX12_partEnd cX12_partEnd 4 (some .int) :: uZ
abbrev vsX12_laysNothing : List Cond := .code yX12_laysNothing cX12_laysNothing 4 none :: uZ
abbrev vsX12_laysSlice : List Cond := .code yX12_laysSlice cX12_laysSlice 9 none :: uZ
abbrev vsX12_laysRows : List Cond := .code yX12_laysRows cX12_laysRows 9 none :: uZ
abbrev vsX12_isAhead : List Cond := .code yX12_isAhead cX12_isAhead 5 (some .boolean) :: uZ
abbrev vsX12_breaks : List Cond := .code yX12_breaks cX12_breaks 9 (some .int) :: uZ
abbrev vsX12_firstPart : List Cond := .code yX12_firstPart cX12_firstPart 6 (some .int) :: uZ
abbrev vsX12_cutWorst : List Cond := .code yX12_cutWorst cX12_cutWorst 8 (some .int) :: uZ
abbrev vsX12_cutBy : List Cond := .code yX12_cutBy cX12_cutBy 10 (some .int) :: uZ
abbrev vsX12_laysCuts : List Cond := .code yX12_laysCuts cX12_laysCuts 12 none :: uZ
abbrev vsX12_lays : List Cond := .code yX12_lays cX12_lays 6 none :: uZ
abbrev vsX12_rowOf : List Cond := .code yX12_rowOf cX12_rowOf 1 (some .int) :: uZ
abbrev vsX12_size_ : List Cond := .code yX12_size_ cX12_size_ 1 (some .int) :: uZ
abbrev vsX12_far : List Cond := .code yX12_far cX12_far 8 (some .int) :: uZ
abbrev vsX12_moves : List Cond := .code yX12_moves cX12_moves 4 (some .int) :: uZ
abbrev vsX12_isSmallOne : List Cond := .code yX12_isSmallOne cX12_isSmallOne 4 (some .boolean) :: uZ
abbrev vsX12_findItems : List Cond := .code yX12_findItems cX12_findItems 8 none :: uZ
abbrev vsX12_drawGroup : List Cond := .code yX12_drawGroup cX12_drawGroup 12 none :: uZ
abbrev vsX12_draw : List Cond := .code yX12_draw cX12_draw 4 (some .int) :: uZ
abbrev vsX12_isDrawn : List Cond := .code yX12_isDrawn cX12_isDrawn 2 (some .boolean) :: uZ
abbrev vsX12_box : List Cond := .code yX12_box cX12_box 4 (some .int) :: uZ
abbrev vsX12_restOf : List Cond := .code yX12_restOf cX12_restOf 3 (some .int) :: uZ
abbrev vsX12_isIn : List Cond := .code yX12_isIn cX12_isIn 6 (some .boolean) :: uZ
abbrev vsX12_under : List Cond := .code yX12_under cX12_under 7 (some .int) :: uZ
abbrev vsX12_letters : List Cond := .code yX12_letters cX12_letters 3 (some .int) :: uZ
abbrev vsX12_moved : List Cond := .code yX12_moved cX12_moved 4 (some .int) :: uZ
abbrev vsX12_past : List Cond := .code yX12_past cX12_past 6 (some .int) :: uZ
abbrev vsX12_about : List Cond := .code yX12_about cX12_about 3 (some .int) :: uZ
abbrev vsX12_letter : List Cond := .code yX12_letter cX12_letter 3 (some .int) :: uZ
abbrev vsX12_named : List Cond := .code yX12_named cX12_named 5 (some .int) :: uZ
abbrev vsX12_groups : List Cond := .code yX12_groups cX12_groups 3 (some .int) :: uZ
abbrev vsX12_shown : List Cond := .code yX12_shown cX12_shown 3 (some .int) :: uZ
abbrev vsX12_greatestWorst : List Cond := .code yX12_greatestWorst cX12_greatestWorst 3 (some .int) :: uZ
abbrev vsX12_count : List Cond := .code yX12_count cX12_count 2 (some .int) :: uZ
abbrev vsX0_init : List Cond := .code yX0_init cX0_init 1 none :: uX
abbrev vsX0_add : List Cond := .code yX0_add cX0_add 4 (some .int) :: uX
abbrev vsX0_tellSizes : List Cond := .code yX0_tellSizes cX0_tellSizes 6 none :: uX
abbrev vsX1_init : List Cond := .code yX1_init cX1_init 1 none :: uX
abbrev vsX1_lay : List Cond := .code yX1_lay cX1_lay 2 none :: uX
abbrev vsX1_layPart : List Cond := .code yX1_layPart cX1_layPart 14 none :: uX
abbrev vsX1_worstOfCut : List Cond := .code yX1_worstOfCut cX1_worstOfCut 11 (some .int) :: uX
abbrev vsX1_leastWorst : List Cond := .code yX1_leastWorst cX1_leastWorst 8 (some .int) :: uX
abbrev vsX2_init : List Cond := .code yX2_init cX2_init 1 none :: uX
abbrev vsX2_keeps : List Cond := .code yX2_keeps cX2_keeps 2 (some .boolean) :: uX
abbrev vsX2_cell : List Cond := .code yX2_cell cX2_cell 3 (some .int) :: uX
abbrev vsX2_latestCell : List Cond := .code yX2_latestCell cX2_latestCell 2 (some .int) :: uX
abbrev vsX2_begin : List Cond := .code yX2_begin cX2_begin 6 none :: uX
abbrev vsX2_show : List Cond := .code yX2_show cX2_show 7 none :: uX
abbrev vsX2_hasRest : List Cond := .code yX2_hasRest cX2_hasRest 3 (some .boolean) :: uX
abbrev vsX2_countShown : List Cond := .code yX2_countShown cX2_countShown 4 (some .int) :: uX
abbrev vsX2_greatestWorst : List Cond := .code yX2_greatestWorst cX2_greatestWorst 4 (some .int) :: uX
abbrev vsX3_init : List Cond := .code yX3_init cX3_init 1 none :: uX
abbrev vsX3_gather : List Cond := .code yX3_gather cX3_gather 8 none :: uX
abbrev vsX3_setFrame : List Cond := .code yX3_setFrame cX3_setFrame 3 none :: uX
abbrev vsX3_countSmall : List Cond := .code yX3_countSmall cX3_countSmall 5 (some .int) :: uX
abbrev vsX3_isSmall : List Cond := .code yX3_isSmall cX3_isSmall 7 (some .boolean) :: uX
abbrev vsX3_add : List Cond := .code yX3_add cX3_add 5 none :: uX
abbrev vsX3_sum : List Cond := .code yX3_sum cX3_sum 3 (some .int) :: uX
abbrev vsX3_begin : List Cond := .code yX3_begin cX3_begin 5 (some .int) :: uX
abbrev vsX4_init : List Cond := .code yX4_init cX4_init 1 none :: uX
abbrev vsX4_layGroup : List Cond := .code yX4_layGroup cX4_layGroup 7 none :: uX
abbrev vsX4_show : List Cond := .code yX4_show cX4_show 5 none :: uX
abbrev vsX4_layAs : List Cond := .code yX4_layAs cX4_layAs 9 (some .int) :: uX
abbrev vsX4_movesOf : List Cond := .code yX4_movesOf cX4_movesOf 6 (some .int) :: uX
abbrev vsX4_layNothing : List Cond := .code yX4_layNothing cX4_layNothing 3 none :: uX
abbrev vsX4_laySlice : List Cond := .code yX4_laySlice cX4_laySlice 7 none :: uX
abbrev vsX5_init : List Cond := .code yX5_init cX5_init 1 none :: uX
abbrev vsX5_put : List Cond := .code yX5_put cX5_put 7 none :: uX
abbrev vsX6_init : List Cond := .code yX6_init cX6_init 1 none :: uX
abbrev vsX6_read : List Cond := .code yX6_read cX6_read 3 (some .int) :: uX
abbrev vsX6_nextToken : List Cond := .code yX6_nextToken cX6_nextToken 1 none :: uX
abbrev vsX6_isBlank : List Cond := .code yX6_isBlank cX6_isBlank 1 (some .boolean) :: uX
abbrev vsX6_kindOf : List Cond := .code yX6_kindOf cX6_kindOf 1 (some .int) :: uX
abbrev vsX6_take : List Cond := .code yX6_take cX6_take 1 (some .int) :: uX
abbrev vsX6_takeName : List Cond := .code yX6_takeName cX6_takeName 1 (some .int) :: uX
abbrev vsX6_takeNumber : List Cond := .code yX6_takeNumber cX6_takeNumber 3 (some .int) :: uX
abbrev vsX6_takeHow : List Cond := .code yX6_takeHow cX6_takeHow 3 (some .int) :: uX
abbrev vsX6_takeSorted : List Cond := .code yX6_takeSorted cX6_takeSorted 1 (some .int) :: uX
abbrev vsX6_takeClosing : List Cond := .code yX6_takeClosing cX6_takeClosing 1 (some .int) :: uX
abbrev vsX6_takeSign : List Cond := .code yX6_takeSign cX6_takeSign 3 (some .int) :: uX
abbrev vsX6_isWord : List Cond := .code yX6_isWord cX6_isWord 2 (some .boolean) :: uX
abbrev vsX6_howOfWord : List Cond := .code yX6_howOfWord cX6_howOfWord 1 (some .int) :: uX
abbrev vsX7_init : List Cond := .code yX7_init cX7_init 3 none :: uX
abbrev vsX7_put : List Cond := .code yX7_put cX7_put 6 none :: uX
abbrev vsX7_tell : List Cond := .code yX7_tell cX7_tell 3 (some .int) :: uX
abbrev vsX7_holds : List Cond := .code yX7_holds cX7_holds 4 (some .boolean) :: uX
abbrev vsX7_distance : List Cond := .code yX7_distance cX7_distance 6 (some .int) :: uX
abbrev vsX8_init : List Cond := .code yX8_init cX8_init 1 none :: uX
abbrev vsX8_lay : List Cond := .code yX8_lay cX8_lay 6 none :: uX
abbrev vsX8_worstOfRow : List Cond := .code yX8_worstOfRow cX8_worstOfRow 8 (some .int) :: uX
abbrev vsX8_findLeast : List Cond := .code yX8_findLeast cX8_findLeast 4 none :: uX
abbrev vsX8_findFewest : List Cond := .code yX8_findFewest cX8_findFewest 4 none :: uX
abbrev vsX8_endOfRow : List Cond := .code yX8_endOfRow cX8_endOfRow 4 (some .int) :: uX
abbrev vsX8_layRow : List Cond := .code yX8_layRow cX8_layRow 9 none :: uX
abbrev vsX9_init : List Cond := .code yX9_init cX9_init 1 none :: uX
abbrev vsX9_add : List Cond := .code yX9_add cX9_add 2 none :: uX
abbrev vsX9_byteAt : List Cond := .code yX9_byteAt cX9_byteAt 2 (some .int) :: uX
abbrev vsX9_says : List Cond := .code yX9_says cX9_says 5 (some .boolean) :: uX
abbrev vsX10_init : List Cond := .code yX10_init cX10_init 1 none :: uX
abbrev vsX10_has : List Cond := .code yX10_has cX10_has 2 (some .boolean) :: uX
abbrev vsX10_isGroup : List Cond := .code yX10_isGroup cX10_isGroup 2 (some .boolean) :: uX
abbrev vsX10_isLeaf : List Cond := .code yX10_isLeaf cX10_isLeaf 2 (some .boolean) :: uX
abbrev vsX10_nameByte : List Cond := .code yX10_nameByte cX10_nameByte 3 (some .int) :: uX
abbrev vsX10_addBox : List Cond := .code yX10_addBox cX10_addBox 7 none :: uX
abbrev vsX10_find : List Cond := .code yX10_find cX10_find 5 (some .int) :: uX
abbrev vsX10_isNamed : List Cond := .code yX10_isNamed cX10_isNamed 5 (some .boolean) :: uX
abbrev vsJ6_bitCount_0f7a4 : List Cond := .code yJ6_bitCount_0f7a4 cJ6_bitCount_0f7a4 1 (some .int) :: uZ
theorem sy_goodV {u : List Cond} (hu : GoodIn u u) {own C : String} {idx : Nat} {y : MethodName} {c1 : Cond} (h1 : Cond.methodLink own idx y ∈ u) (h2 : Cond.instanceMethod y ∈ u) (h3 : Cond.selects C y y ∈ u) (h4 : Cond.initialized C ∈ u) (h5 : c1 ∈ u) (c0 : Cond) : GoodIn (c0 :: u) (wsV own idx C y (c1 :: u)) := by
  intro w hw
  have : w ∈ u := by
    simp only [wsV, List.mem_append, List.mem_cons, List.not_mem_nil, or_false] at hw
    rcases hw with (h | h | h | h) | h | h
    · rw [h]; exact h1
    · rw [h]; exact h2
    · rw [h]; exact h3
    · rw [h]; exact h4
    · rw [h]; exact h5
    · exact h
  exact ⟨mc this, (hu w this).2⟩
theorem sy_goodS {u : List Cond} (hu : GoodIn u u) {own : String} {idx : Nat} {y : MethodName} {c1 : Cond} (h1 : Cond.methodLink own idx y ∈ u) (h2 : Cond.static y ∈ u) (h4 : Cond.initialized y.cls ∈ u) (h5 : c1 ∈ u) (c0 : Cond) : GoodIn (c0 :: u) (va_wsS own idx y (c1 :: u)) := by
  intro w hw
  have : w ∈ u := by
    simp only [va_wsS, List.mem_append, List.mem_cons, List.not_mem_nil, or_false] at hw
    rcases hw with (h | h | h) | h | h
    · rw [h]; exact h1
    · rw [h]; exact h2
    · rw [h]; exact h4
    · rw [h]; exact h5
    · exact h
  exact ⟨mc this, (hu w this).2⟩
theorem sy_goodN {u : List Cond} (hu : GoodIn u u) {c1 : Cond} (h5 : c1 ∈ u) (c0 : Cond) : GoodIn (c0 :: u) (c1 :: u) := by
  intro w hw
  have : w ∈ u := by
    rcases List.mem_cons.mp hw with h | h
    · rw [h]; exact h5
    · exact h
  exact ⟨mc this, (hu w this).2⟩
theorem hdX11_sheet : yX11_sheet.cls = RX11 ∧ yX11_sheet.cls ≠ "java/lang/invoke/MethodHandle" ∧ yX11_sheet.cls ≠ "java/lang/invoke/VarHandle" ∧ (parseMethodDescriptor yX11_sheet.desc).map (fun d => d.parameters.length) = some 2 := by decide +kernel
theorem hdX11_price : yX11_price.cls = RX11 ∧ yX11_price.cls ≠ "java/lang/invoke/MethodHandle" ∧ yX11_price.cls ≠ "java/lang/invoke/VarHandle" ∧ (parseMethodDescriptor yX11_price.desc).map (fun d => d.parameters.length) = some 1 := by decide +kernel
theorem hdX11_feed : yX11_feed.cls = RX11 ∧ yX11_feed.cls ≠ "java/lang/invoke/MethodHandle" ∧ yX11_feed.cls ≠ "java/lang/invoke/VarHandle" ∧ (parseMethodDescriptor yX11_feed.desc).map (fun d => d.parameters.length) = some 5 := by decide +kernel
theorem hdX11_end : yX11_end.cls = RX11 ∧ yX11_end.cls ≠ "java/lang/invoke/MethodHandle" ∧ yX11_end.cls ≠ "java/lang/invoke/VarHandle" ∧ (parseMethodDescriptor yX11_end.desc).map (fun d => d.parameters.length) = some 1 := by decide +kernel
theorem hdX11_tree : yX11_tree.cls = RX11 ∧ yX11_tree.cls ≠ "java/lang/invoke/MethodHandle" ∧ yX11_tree.cls ≠ "java/lang/invoke/VarHandle" ∧ (parseMethodDescriptor yX11_tree.desc).map (fun d => d.parameters.length) = some 0 := by decide +kernel
theorem hdX11_place : yX11_place.cls = RX11 ∧ yX11_place.cls ≠ "java/lang/invoke/MethodHandle" ∧ yX11_place.cls ≠ "java/lang/invoke/VarHandle" ∧ (parseMethodDescriptor yX11_place.desc).map (fun d => d.parameters.length) = some 0 := by decide +kernel
theorem hdX11_size : yX11_size.cls = RX11 ∧ yX11_size.cls ≠ "java/lang/invoke/MethodHandle" ∧ yX11_size.cls ≠ "java/lang/invoke/VarHandle" ∧ (parseMethodDescriptor yX11_size.desc).map (fun d => d.parameters.length) = some 3 := by decide +kernel
theorem hdX11_rest : yX11_rest.cls = RX11 ∧ yX11_rest.cls ≠ "java/lang/invoke/MethodHandle" ∧ yX11_rest.cls ≠ "java/lang/invoke/VarHandle" ∧ (parseMethodDescriptor yX11_rest.desc).map (fun d => d.parameters.length) = some 3 := by decide +kernel
theorem hdX11_draw : yX11_draw.cls = RX11 ∧ yX11_draw.cls ≠ "java/lang/invoke/MethodHandle" ∧ yX11_draw.cls ≠ "java/lang/invoke/VarHandle" ∧ (parseMethodDescriptor yX11_draw.desc).map (fun d => d.parameters.length) = some 1 := by decide +kernel
theorem hdX11_box : yX11_box.cls = RX11 ∧ yX11_box.cls ≠ "java/lang/invoke/MethodHandle" ∧ yX11_box.cls ≠ "java/lang/invoke/VarHandle" ∧ (parseMethodDescriptor yX11_box.desc).map (fun d => d.parameters.length) = some 2 := by decide +kernel
theorem hdX11_restOf : yX11_restOf.cls = RX11 ∧ yX11_restOf.cls ≠ "java/lang/invoke/MethodHandle" ∧ yX11_restOf.cls ≠ "java/lang/invoke/VarHandle" ∧ (parseMethodDescriptor yX11_restOf.desc).map (fun d => d.parameters.length) = some 2 := by decide +kernel
theorem hdX11_under : yX11_under.cls = RX11 ∧ yX11_under.cls ≠ "java/lang/invoke/MethodHandle" ∧ yX11_under.cls ≠ "java/lang/invoke/VarHandle" ∧ (parseMethodDescriptor yX11_under.desc).map (fun d => d.parameters.length) = some 2 := by decide +kernel
theorem hdX11_letters : yX11_letters.cls = RX11 ∧ yX11_letters.cls ≠ "java/lang/invoke/MethodHandle" ∧ yX11_letters.cls ≠ "java/lang/invoke/VarHandle" ∧ (parseMethodDescriptor yX11_letters.desc).map (fun d => d.parameters.length) = some 1 := by decide +kernel
theorem hdX11_moved : yX11_moved.cls = RX11 ∧ yX11_moved.cls ≠ "java/lang/invoke/MethodHandle" ∧ yX11_moved.cls ≠ "java/lang/invoke/VarHandle" ∧ (parseMethodDescriptor yX11_moved.desc).map (fun d => d.parameters.length) = some 1 := by decide +kernel
theorem hdX11_past : yX11_past.cls = RX11 ∧ yX11_past.cls ≠ "java/lang/invoke/MethodHandle" ∧ yX11_past.cls ≠ "java/lang/invoke/VarHandle" ∧ (parseMethodDescriptor yX11_past.desc).map (fun d => d.parameters.length) = some 3 := by decide +kernel
theorem hdX11_about : yX11_about.cls = RX11 ∧ yX11_about.cls ≠ "java/lang/invoke/MethodHandle" ∧ yX11_about.cls ≠ "java/lang/invoke/VarHandle" ∧ (parseMethodDescriptor yX11_about.desc).map (fun d => d.parameters.length) = some 2 := by decide +kernel
theorem hdX11_letter : yX11_letter.cls = RX11 ∧ yX11_letter.cls ≠ "java/lang/invoke/MethodHandle" ∧ yX11_letter.cls ≠ "java/lang/invoke/VarHandle" ∧ (parseMethodDescriptor yX11_letter.desc).map (fun d => d.parameters.length) = some 2 := by decide +kernel
theorem hdX11_named : yX11_named.cls = RX11 ∧ yX11_named.cls ≠ "java/lang/invoke/MethodHandle" ∧ yX11_named.cls ≠ "java/lang/invoke/VarHandle" ∧ (parseMethodDescriptor yX11_named.desc).map (fun d => d.parameters.length) = some 0 := by decide +kernel
theorem hdX11_sizeIn : yX11_sizeIn.cls = RX11 ∧ yX11_sizeIn.cls ≠ "java/lang/invoke/MethodHandle" ∧ yX11_sizeIn.cls ≠ "java/lang/invoke/VarHandle" ∧ (parseMethodDescriptor yX11_sizeIn.desc).map (fun d => d.parameters.length) = some 2 := by decide +kernel
theorem hdX11_count : yX11_count.cls = RX11 ∧ yX11_count.cls ≠ "java/lang/invoke/MethodHandle" ∧ yX11_count.cls ≠ "java/lang/invoke/VarHandle" ∧ (parseMethodDescriptor yX11_count.desc).map (fun d => d.parameters.length) = some 1 := by decide +kernel
theorem hdX11_aboutGroup : yX11_aboutGroup.cls = RX11 ∧ yX11_aboutGroup.cls ≠ "java/lang/invoke/MethodHandle" ∧ yX11_aboutGroup.cls ≠ "java/lang/invoke/VarHandle" ∧ (parseMethodDescriptor yX11_aboutGroup.desc).map (fun d => d.parameters.length) = some 2 := by decide +kernel
theorem hdX11_isFrom : yX11_isFrom.cls = RX11 ∧ yX11_isFrom.cls ≠ "java/lang/invoke/MethodHandle" ∧ yX11_isFrom.cls ≠ "java/lang/invoke/VarHandle" ∧ (parseMethodDescriptor yX11_isFrom.desc).map (fun d => d.parameters.length) = some 3 := by decide +kernel
theorem hdX11_isTick : yX11_isTick.cls = RX11 ∧ yX11_isTick.cls ≠ "java/lang/invoke/MethodHandle" ∧ yX11_isTick.cls ≠ "java/lang/invoke/VarHandle" ∧ (parseMethodDescriptor yX11_isTick.desc).map (fun d => d.parameters.length) = some 1 := by decide +kernel
theorem hdX11_shapeOf : yX11_shapeOf.cls = RX11 ∧ yX11_shapeOf.cls ≠ "java/lang/invoke/MethodHandle" ∧ yX11_shapeOf.cls ≠ "java/lang/invoke/VarHandle" ∧ (parseMethodDescriptor yX11_shapeOf.desc).map (fun d => d.parameters.length) = some 3 := by decide +kernel
theorem hdX11_share : yX11_share.cls = RX11 ∧ yX11_share.cls ≠ "java/lang/invoke/MethodHandle" ∧ yX11_share.cls ≠ "java/lang/invoke/VarHandle" ∧ (parseMethodDescriptor yX11_share.desc).map (fun d => d.parameters.length) = some 3 := by decide +kernel
theorem hdX12_thrown : yX12_thrown.cls = RX12 ∧ yX12_thrown.cls ≠ "java/lang/invoke/MethodHandle" ∧ yX12_thrown.cls ≠ "java/lang/invoke/VarHandle" ∧ (parseMethodDescriptor yX12_thrown.desc).map (fun d => d.parameters.length) = some 0 := by decide +kernel
theorem hdX12_within : yX12_within.cls = RX12 ∧ yX12_within.cls ≠ "java/lang/invoke/MethodHandle" ∧ yX12_within.cls ≠ "java/lang/invoke/VarHandle" ∧ (parseMethodDescriptor yX12_within.desc).map (fun d => d.parameters.length) = some 3 := by decide +kernel
theorem hdX12_sheet : yX12_sheet.cls = RX12 ∧ yX12_sheet.cls ≠ "java/lang/invoke/MethodHandle" ∧ yX12_sheet.cls ≠ "java/lang/invoke/VarHandle" ∧ (parseMethodDescriptor yX12_sheet.desc).map (fun d => d.parameters.length) = some 2 := by decide +kernel
theorem hdX12_price : yX12_price.cls = RX12 ∧ yX12_price.cls ≠ "java/lang/invoke/MethodHandle" ∧ yX12_price.cls ≠ "java/lang/invoke/VarHandle" ∧ (parseMethodDescriptor yX12_price.desc).map (fun d => d.parameters.length) = some 1 := by decide +kernel
theorem hdX12_feed : yX12_feed.cls = RX12 ∧ yX12_feed.cls ≠ "java/lang/invoke/MethodHandle" ∧ yX12_feed.cls ≠ "java/lang/invoke/VarHandle" ∧ (parseMethodDescriptor yX12_feed.desc).map (fun d => d.parameters.length) = some 5 := by decide +kernel
theorem hdX12_end : yX12_end.cls = RX12 ∧ yX12_end.cls ≠ "java/lang/invoke/MethodHandle" ∧ yX12_end.cls ≠ "java/lang/invoke/VarHandle" ∧ (parseMethodDescriptor yX12_end.desc).map (fun d => d.parameters.length) = some 1 := by decide +kernel
theorem hdX12_see : yX12_see.cls = RX12 ∧ yX12_see.cls ≠ "java/lang/invoke/MethodHandle" ∧ yX12_see.cls ≠ "java/lang/invoke/VarHandle" ∧ (parseMethodDescriptor yX12_see.desc).map (fun d => d.parameters.length) = some 1 := by decide +kernel
theorem hdX12_isSmall : yX12_isSmall.cls = RX12 ∧ yX12_isSmall.cls ≠ "java/lang/invoke/MethodHandle" ∧ yX12_isSmall.cls ≠ "java/lang/invoke/VarHandle" ∧ (parseMethodDescriptor yX12_isSmall.desc).map (fun d => d.parameters.length) = some 1 := by decide +kernel
theorem hdX12_isDigit : yX12_isDigit.cls = RX12 ∧ yX12_isDigit.cls ≠ "java/lang/invoke/MethodHandle" ∧ yX12_isDigit.cls ≠ "java/lang/invoke/VarHandle" ∧ (parseMethodDescriptor yX12_isDigit.desc).map (fun d => d.parameters.length) = some 1 := by decide +kernel
theorem hdX12_next : yX12_next.cls = RX12 ∧ yX12_next.cls ≠ "java/lang/invoke/MethodHandle" ∧ yX12_next.cls ≠ "java/lang/invoke/VarHandle" ∧ (parseMethodDescriptor yX12_next.desc).map (fun d => d.parameters.length) = some 0 := by decide +kernel
theorem hdX12_isWord : yX12_isWord.cls = RX12 ∧ yX12_isWord.cls ≠ "java/lang/invoke/MethodHandle" ∧ yX12_isWord.cls ≠ "java/lang/invoke/VarHandle" ∧ (parseMethodDescriptor yX12_isWord.desc).map (fun d => d.parameters.length) = some 1 := by decide +kernel
theorem hdX12_how : yX12_how.cls = RX12 ∧ yX12_how.cls ≠ "java/lang/invoke/MethodHandle" ∧ yX12_how.cls ≠ "java/lang/invoke/VarHandle" ∧ (parseMethodDescriptor yX12_how.desc).map (fun d => d.parameters.length) = some 0 := by decide +kernel
theorem hdX12_isName : yX12_isName.cls = RX12 ∧ yX12_isName.cls ≠ "java/lang/invoke/MethodHandle" ∧ yX12_isName.cls ≠ "java/lang/invoke/VarHandle" ∧ (parseMethodDescriptor yX12_isName.desc).map (fun d => d.parameters.length) = some 0 := by decide +kernel
theorem hdX12_is : yX12_is.cls = RX12 ∧ yX12_is.cls ≠ "java/lang/invoke/MethodHandle" ∧ yX12_is.cls ≠ "java/lang/invoke/VarHandle" ∧ (parseMethodDescriptor yX12_is.desc).map (fun d => d.parameters.length) = some 1 := by decide +kernel
theorem hdX12_fails : yX12_fails.cls = RX12 ∧ yX12_fails.cls ≠ "java/lang/invoke/MethodHandle" ∧ yX12_fails.cls ≠ "java/lang/invoke/VarHandle" ∧ (parseMethodDescriptor yX12_fails.desc).map (fun d => d.parameters.length) = some 1 := by decide +kernel
theorem hdX12_isWell : yX12_isWell.cls = RX12 ∧ yX12_isWell.cls ≠ "java/lang/invoke/MethodHandle" ∧ yX12_isWell.cls ≠ "java/lang/invoke/VarHandle" ∧ (parseMethodDescriptor yX12_isWell.desc).map (fun d => d.parameters.length) = some 0 := by decide +kernel
theorem hdX12_isKnown : yX12_isKnown.cls = RX12 ∧ yX12_isKnown.cls ≠ "java/lang/invoke/MethodHandle" ∧ yX12_isKnown.cls ≠ "java/lang/invoke/VarHandle" ∧ (parseMethodDescriptor yX12_isKnown.desc).map (fun d => d.parameters.length) = some 0 := by decide +kernel
theorem hdX12_newBox : yX12_newBox.cls = RX12 ∧ yX12_newBox.cls ≠ "java/lang/invoke/MethodHandle" ∧ yX12_newBox.cls ≠ "java/lang/invoke/VarHandle" ∧ (parseMethodDescriptor yX12_newBox.desc).map (fun d => d.parameters.length) = some 1 := by decide +kernel
theorem hdX12_want : yX12_want.cls = RX12 ∧ yX12_want.cls ≠ "java/lang/invoke/MethodHandle" ∧ yX12_want.cls ≠ "java/lang/invoke/VarHandle" ∧ (parseMethodDescriptor yX12_want.desc).map (fun d => d.parameters.length) = some 1 := by decide +kernel
theorem hdX12_group : yX12_group.cls = RX12 ∧ yX12_group.cls ≠ "java/lang/invoke/MethodHandle" ∧ yX12_group.cls ≠ "java/lang/invoke/VarHandle" ∧ (parseMethodDescriptor yX12_group.desc).map (fun d => d.parameters.length) = some 1 := by decide +kernel
theorem hdX12_child : yX12_child.cls = RX12 ∧ yX12_child.cls ≠ "java/lang/invoke/MethodHandle" ∧ yX12_child.cls ≠ "java/lang/invoke/VarHandle" ∧ (parseMethodDescriptor yX12_child.desc).map (fun d => d.parameters.length) = some 1 := by decide +kernel
theorem hdX12_tree : yX12_tree.cls = RX12 ∧ yX12_tree.cls ≠ "java/lang/invoke/MethodHandle" ∧ yX12_tree.cls ≠ "java/lang/invoke/VarHandle" ∧ (parseMethodDescriptor yX12_tree.desc).map (fun d => d.parameters.length) = some 0 := by decide +kernel
theorem hdX12_place : yX12_place.cls = RX12 ∧ yX12_place.cls ≠ "java/lang/invoke/MethodHandle" ∧ yX12_place.cls ≠ "java/lang/invoke/VarHandle" ∧ (parseMethodDescriptor yX12_place.desc).map (fun d => d.parameters.length) = some 0 := by decide +kernel
theorem hdX12_isBox : yX12_isBox.cls = RX12 ∧ yX12_isBox.cls ≠ "java/lang/invoke/MethodHandle" ∧ yX12_isBox.cls ≠ "java/lang/invoke/VarHandle" ∧ (parseMethodDescriptor yX12_isBox.desc).map (fun d => d.parameters.length) = some 1 := by decide +kernel
theorem hdX12_size : yX12_size.cls = RX12 ∧ yX12_size.cls ≠ "java/lang/invoke/MethodHandle" ∧ yX12_size.cls ≠ "java/lang/invoke/VarHandle" ∧ (parseMethodDescriptor yX12_size.desc).map (fun d => d.parameters.length) = some 3 := by decide +kernel
theorem hdX12_sizeOf : yX12_sizeOf.cls = RX12 ∧ yX12_sizeOf.cls ≠ "java/lang/invoke/MethodHandle" ∧ yX12_sizeOf.cls ≠ "java/lang/invoke/VarHandle" ∧ (parseMethodDescriptor yX12_sizeOf.desc).map (fun d => d.parameters.length) = some 2 := by decide +kernel
theorem hdX12_sizeIn : yX12_sizeIn.cls = RX12 ∧ yX12_sizeIn.cls ≠ "java/lang/invoke/MethodHandle" ∧ yX12_sizeIn.cls ≠ "java/lang/invoke/VarHandle" ∧ (parseMethodDescriptor yX12_sizeIn.desc).map (fun d => d.parameters.length) = some 2 := by decide +kernel
theorem hdX12_rest : yX12_rest.cls = RX12 ∧ yX12_rest.cls ≠ "java/lang/invoke/MethodHandle" ∧ yX12_rest.cls ≠ "java/lang/invoke/VarHandle" ∧ (parseMethodDescriptor yX12_rest.desc).map (fun d => d.parameters.length) = some 3 := by decide +kernel
theorem hdX12_shape : yX12_shape.cls = RX12 ∧ yX12_shape.cls ≠ "java/lang/invoke/MethodHandle" ∧ yX12_shape.cls ≠ "java/lang/invoke/VarHandle" ∧ (parseMethodDescriptor yX12_shape.desc).map (fun d => d.parameters.length) = some 3 := by decide +kernel
theorem hdX12_worst : yX12_worst.cls = RX12 ∧ yX12_worst.cls ≠ "java/lang/invoke/MethodHandle" ∧ yX12_worst.cls ≠ "java/lang/invoke/VarHandle" ∧ (parseMethodDescriptor yX12_worst.desc).map (fun d => d.parameters.length) = some 0 := by decide +kernel
theorem hdX12_sum : yX12_sum.cls = RX12 ∧ yX12_sum.cls ≠ "java/lang/invoke/MethodHandle" ∧ yX12_sum.cls ≠ "java/lang/invoke/VarHandle" ∧ (parseMethodDescriptor yX12_sum.desc).map (fun d => d.parameters.length) = some 2 := by decide +kernel
theorem hdX12_parts : yX12_parts.cls = RX12 ∧ yX12_parts.cls ≠ "java/lang/invoke/MethodHandle" ∧ yX12_parts.cls ≠ "java/lang/invoke/VarHandle" ∧ (parseMethodDescriptor yX12_parts.desc).map (fun d => d.parameters.length) = some 3 := by decide +kernel
theorem hdX12_partEnd : yX12_partEnd.cls = RX12 ∧ yX12_partEnd.cls ≠ "java/lang/invoke/MethodHandle" ∧ yX12_partEnd.cls ≠ "java/lang/invoke/VarHandle" ∧ (parseMethodDescriptor yX12_partEnd.desc).map (fun d => d.parameters.length) = some 3 := by decide +kernel
theorem hdX12_laysNothing : yX12_laysNothing.cls = RX12 ∧ yX12_laysNothing.cls ≠ "java/lang/invoke/MethodHandle" ∧ yX12_laysNothing.cls ≠ "java/lang/invoke/VarHandle" ∧ (parseMethodDescriptor yX12_laysNothing.desc).map (fun d => d.parameters.length) = some 2 := by decide +kernel
theorem hdX12_laysSlice : yX12_laysSlice.cls = RX12 ∧ yX12_laysSlice.cls ≠ "java/lang/invoke/MethodHandle" ∧ yX12_laysSlice.cls ≠ "java/lang/invoke/VarHandle" ∧ (parseMethodDescriptor yX12_laysSlice.desc).map (fun d => d.parameters.length) = some 4 := by decide +kernel
theorem hdX12_laysRows : yX12_laysRows.cls = RX12 ∧ yX12_laysRows.cls ≠ "java/lang/invoke/MethodHandle" ∧ yX12_laysRows.cls ≠ "java/lang/invoke/VarHandle" ∧ (parseMethodDescriptor yX12_laysRows.desc).map (fun d => d.parameters.length) = some 5 := by decide +kernel
theorem hdX12_isAhead : yX12_isAhead.cls = RX12 ∧ yX12_isAhead.cls ≠ "java/lang/invoke/MethodHandle" ∧ yX12_isAhead.cls ≠ "java/lang/invoke/VarHandle" ∧ (parseMethodDescriptor yX12_isAhead.desc).map (fun d => d.parameters.length) = some 2 := by decide +kernel
theorem hdX12_breaks : yX12_breaks.cls = RX12 ∧ yX12_breaks.cls ≠ "java/lang/invoke/MethodHandle" ∧ yX12_breaks.cls ≠ "java/lang/invoke/VarHandle" ∧ (parseMethodDescriptor yX12_breaks.desc).map (fun d => d.parameters.length) = some 4 := by decide +kernel
theorem hdX12_firstPart : yX12_firstPart.cls = RX12 ∧ yX12_firstPart.cls ≠ "java/lang/invoke/MethodHandle" ∧ yX12_firstPart.cls ≠ "java/lang/invoke/VarHandle" ∧ (parseMethodDescriptor yX12_firstPart.desc).map (fun d => d.parameters.length) = some 4 := by decide +kernel
theorem hdX12_cutWorst : yX12_cutWorst.cls = RX12 ∧ yX12_cutWorst.cls ≠ "java/lang/invoke/MethodHandle" ∧ yX12_cutWorst.cls ≠ "java/lang/invoke/VarHandle" ∧ (parseMethodDescriptor yX12_cutWorst.desc).map (fun d => d.parameters.length) = some 4 := by decide +kernel
theorem hdX12_cutBy : yX12_cutBy.cls = RX12 ∧ yX12_cutBy.cls ≠ "java/lang/invoke/MethodHandle" ∧ yX12_cutBy.cls ≠ "java/lang/invoke/VarHandle" ∧ (parseMethodDescriptor yX12_cutBy.desc).map (fun d => d.parameters.length) = some 6 := by decide +kernel
theorem hdX12_laysCuts : yX12_laysCuts.cls = RX12 ∧ yX12_laysCuts.cls ≠ "java/lang/invoke/MethodHandle" ∧ yX12_laysCuts.cls ≠ "java/lang/invoke/VarHandle" ∧ (parseMethodDescriptor yX12_laysCuts.desc).map (fun d => d.parameters.length) = some 6 := by decide +kernel
theorem hdX12_lays : yX12_lays.cls = RX12 ∧ yX12_lays.cls ≠ "java/lang/invoke/MethodHandle" ∧ yX12_lays.cls ≠ "java/lang/invoke/VarHandle" ∧ (parseMethodDescriptor yX12_lays.desc).map (fun d => d.parameters.length) = some 5 := by decide +kernel
theorem hdX12_rowOf : yX12_rowOf.cls = RX12 ∧ yX12_rowOf.cls ≠ "java/lang/invoke/MethodHandle" ∧ yX12_rowOf.cls ≠ "java/lang/invoke/VarHandle" ∧ (parseMethodDescriptor yX12_rowOf.desc).map (fun d => d.parameters.length) = some 1 := by decide +kernel
theorem hdX12_size_ : yX12_size_.cls = RX12 ∧ yX12_size_.cls ≠ "java/lang/invoke/MethodHandle" ∧ yX12_size_.cls ≠ "java/lang/invoke/VarHandle" ∧ (parseMethodDescriptor yX12_size_.desc).map (fun d => d.parameters.length) = some 1 := by decide +kernel
theorem hdX12_far : yX12_far.cls = RX12 ∧ yX12_far.cls ≠ "java/lang/invoke/MethodHandle" ∧ yX12_far.cls ≠ "java/lang/invoke/VarHandle" ∧ (parseMethodDescriptor yX12_far.desc).map (fun d => d.parameters.length) = some 6 := by decide +kernel
theorem hdX12_moves : yX12_moves.cls = RX12 ∧ yX12_moves.cls ≠ "java/lang/invoke/MethodHandle" ∧ yX12_moves.cls ≠ "java/lang/invoke/VarHandle" ∧ (parseMethodDescriptor yX12_moves.desc).map (fun d => d.parameters.length) = some 0 := by decide +kernel
theorem hdX12_isSmallOne : yX12_isSmallOne.cls = RX12 ∧ yX12_isSmallOne.cls ≠ "java/lang/invoke/MethodHandle" ∧ yX12_isSmallOne.cls ≠ "java/lang/invoke/VarHandle" ∧ (parseMethodDescriptor yX12_isSmallOne.desc).map (fun d => d.parameters.length) = some 3 := by decide +kernel
theorem hdX12_findItems : yX12_findItems.cls = RX12 ∧ yX12_findItems.cls ≠ "java/lang/invoke/MethodHandle" ∧ yX12_findItems.cls ≠ "java/lang/invoke/VarHandle" ∧ (parseMethodDescriptor yX12_findItems.desc).map (fun d => d.parameters.length) = some 2 := by decide +kernel
theorem hdX12_drawGroup : yX12_drawGroup.cls = RX12 ∧ yX12_drawGroup.cls ≠ "java/lang/invoke/MethodHandle" ∧ yX12_drawGroup.cls ≠ "java/lang/invoke/VarHandle" ∧ (parseMethodDescriptor yX12_drawGroup.desc).map (fun d => d.parameters.length) = some 3 := by decide +kernel
theorem hdX12_draw : yX12_draw.cls = RX12 ∧ yX12_draw.cls ≠ "java/lang/invoke/MethodHandle" ∧ yX12_draw.cls ≠ "java/lang/invoke/VarHandle" ∧ (parseMethodDescriptor yX12_draw.desc).map (fun d => d.parameters.length) = some 1 := by decide +kernel
theorem hdX12_isDrawn : yX12_isDrawn.cls = RX12 ∧ yX12_isDrawn.cls ≠ "java/lang/invoke/MethodHandle" ∧ yX12_isDrawn.cls ≠ "java/lang/invoke/VarHandle" ∧ (parseMethodDescriptor yX12_isDrawn.desc).map (fun d => d.parameters.length) = some 1 := by decide +kernel
theorem hdX12_box : yX12_box.cls = RX12 ∧ yX12_box.cls ≠ "java/lang/invoke/MethodHandle" ∧ yX12_box.cls ≠ "java/lang/invoke/VarHandle" ∧ (parseMethodDescriptor yX12_box.desc).map (fun d => d.parameters.length) = some 2 := by decide +kernel
theorem hdX12_restOf : yX12_restOf.cls = RX12 ∧ yX12_restOf.cls ≠ "java/lang/invoke/MethodHandle" ∧ yX12_restOf.cls ≠ "java/lang/invoke/VarHandle" ∧ (parseMethodDescriptor yX12_restOf.desc).map (fun d => d.parameters.length) = some 2 := by decide +kernel
theorem hdX12_isIn : yX12_isIn.cls = RX12 ∧ yX12_isIn.cls ≠ "java/lang/invoke/MethodHandle" ∧ yX12_isIn.cls ≠ "java/lang/invoke/VarHandle" ∧ (parseMethodDescriptor yX12_isIn.desc).map (fun d => d.parameters.length) = some 6 := by decide +kernel
theorem hdX12_under : yX12_under.cls = RX12 ∧ yX12_under.cls ≠ "java/lang/invoke/MethodHandle" ∧ yX12_under.cls ≠ "java/lang/invoke/VarHandle" ∧ (parseMethodDescriptor yX12_under.desc).map (fun d => d.parameters.length) = some 2 := by decide +kernel
theorem hdX12_letters : yX12_letters.cls = RX12 ∧ yX12_letters.cls ≠ "java/lang/invoke/MethodHandle" ∧ yX12_letters.cls ≠ "java/lang/invoke/VarHandle" ∧ (parseMethodDescriptor yX12_letters.desc).map (fun d => d.parameters.length) = some 1 := by decide +kernel
theorem hdX12_moved : yX12_moved.cls = RX12 ∧ yX12_moved.cls ≠ "java/lang/invoke/MethodHandle" ∧ yX12_moved.cls ≠ "java/lang/invoke/VarHandle" ∧ (parseMethodDescriptor yX12_moved.desc).map (fun d => d.parameters.length) = some 1 := by decide +kernel
theorem hdX12_past : yX12_past.cls = RX12 ∧ yX12_past.cls ≠ "java/lang/invoke/MethodHandle" ∧ yX12_past.cls ≠ "java/lang/invoke/VarHandle" ∧ (parseMethodDescriptor yX12_past.desc).map (fun d => d.parameters.length) = some 3 := by decide +kernel
theorem hdX12_about : yX12_about.cls = RX12 ∧ yX12_about.cls ≠ "java/lang/invoke/MethodHandle" ∧ yX12_about.cls ≠ "java/lang/invoke/VarHandle" ∧ (parseMethodDescriptor yX12_about.desc).map (fun d => d.parameters.length) = some 2 := by decide +kernel
theorem hdX12_letter : yX12_letter.cls = RX12 ∧ yX12_letter.cls ≠ "java/lang/invoke/MethodHandle" ∧ yX12_letter.cls ≠ "java/lang/invoke/VarHandle" ∧ (parseMethodDescriptor yX12_letter.desc).map (fun d => d.parameters.length) = some 2 := by decide +kernel
theorem hdX12_named : yX12_named.cls = RX12 ∧ yX12_named.cls ≠ "java/lang/invoke/MethodHandle" ∧ yX12_named.cls ≠ "java/lang/invoke/VarHandle" ∧ (parseMethodDescriptor yX12_named.desc).map (fun d => d.parameters.length) = some 0 := by decide +kernel
theorem hdX12_groups : yX12_groups.cls = RX12 ∧ yX12_groups.cls ≠ "java/lang/invoke/MethodHandle" ∧ yX12_groups.cls ≠ "java/lang/invoke/VarHandle" ∧ (parseMethodDescriptor yX12_groups.desc).map (fun d => d.parameters.length) = some 0 := by decide +kernel
theorem hdX12_shown : yX12_shown.cls = RX12 ∧ yX12_shown.cls ≠ "java/lang/invoke/MethodHandle" ∧ yX12_shown.cls ≠ "java/lang/invoke/VarHandle" ∧ (parseMethodDescriptor yX12_shown.desc).map (fun d => d.parameters.length) = some 0 := by decide +kernel
theorem hdX12_greatestWorst : yX12_greatestWorst.cls = RX12 ∧ yX12_greatestWorst.cls ≠ "java/lang/invoke/MethodHandle" ∧ yX12_greatestWorst.cls ≠ "java/lang/invoke/VarHandle" ∧ (parseMethodDescriptor yX12_greatestWorst.desc).map (fun d => d.parameters.length) = some 0 := by decide +kernel
theorem hdX12_count : yX12_count.cls = RX12 ∧ yX12_count.cls ≠ "java/lang/invoke/MethodHandle" ∧ yX12_count.cls ≠ "java/lang/invoke/VarHandle" ∧ (parseMethodDescriptor yX12_count.desc).map (fun d => d.parameters.length) = some 1 := by decide +kernel
theorem hdX0_add : yX0_add.cls = RX0 ∧ yX0_add.cls ≠ "java/lang/invoke/MethodHandle" ∧ yX0_add.cls ≠ "java/lang/invoke/VarHandle" ∧ (parseMethodDescriptor yX0_add.desc).map (fun d => d.parameters.length) = some 3 := by decide +kernel
theorem hdX0_tellSizes : yX0_tellSizes.cls = RX0 ∧ yX0_tellSizes.cls ≠ "java/lang/invoke/MethodHandle" ∧ yX0_tellSizes.cls ≠ "java/lang/invoke/VarHandle" ∧ (parseMethodDescriptor yX0_tellSizes.desc).map (fun d => d.parameters.length) = some 3 := by decide +kernel
theorem hdX1_lay : yX1_lay.cls = RX1 ∧ yX1_lay.cls ≠ "java/lang/invoke/MethodHandle" ∧ yX1_lay.cls ≠ "java/lang/invoke/VarHandle" ∧ (parseMethodDescriptor yX1_lay.desc).map (fun d => d.parameters.length) = some 1 := by decide +kernel
theorem hdX1_layPart : yX1_layPart.cls = RX1 ∧ yX1_layPart.cls ≠ "java/lang/invoke/MethodHandle" ∧ yX1_layPart.cls ≠ "java/lang/invoke/VarHandle" ∧ (parseMethodDescriptor yX1_layPart.desc).map (fun d => d.parameters.length) = some 7 := by decide +kernel
theorem hdX1_worstOfCut : yX1_worstOfCut.cls = RX1 ∧ yX1_worstOfCut.cls ≠ "java/lang/invoke/MethodHandle" ∧ yX1_worstOfCut.cls ≠ "java/lang/invoke/VarHandle" ∧ (parseMethodDescriptor yX1_worstOfCut.desc).map (fun d => d.parameters.length) = some 7 := by decide +kernel
theorem hdX1_leastWorst : yX1_leastWorst.cls = RX1 ∧ yX1_leastWorst.cls ≠ "java/lang/invoke/MethodHandle" ∧ yX1_leastWorst.cls ≠ "java/lang/invoke/VarHandle" ∧ (parseMethodDescriptor yX1_leastWorst.desc).map (fun d => d.parameters.length) = some 6 := by decide +kernel
theorem hdX2_keeps : yX2_keeps.cls = RX2 ∧ yX2_keeps.cls ≠ "java/lang/invoke/MethodHandle" ∧ yX2_keeps.cls ≠ "java/lang/invoke/VarHandle" ∧ (parseMethodDescriptor yX2_keeps.desc).map (fun d => d.parameters.length) = some 1 := by decide +kernel
theorem hdX2_cell : yX2_cell.cls = RX2 ∧ yX2_cell.cls ≠ "java/lang/invoke/MethodHandle" ∧ yX2_cell.cls ≠ "java/lang/invoke/VarHandle" ∧ (parseMethodDescriptor yX2_cell.desc).map (fun d => d.parameters.length) = some 2 := by decide +kernel
theorem hdX2_latestCell : yX2_latestCell.cls = RX2 ∧ yX2_latestCell.cls ≠ "java/lang/invoke/MethodHandle" ∧ yX2_latestCell.cls ≠ "java/lang/invoke/VarHandle" ∧ (parseMethodDescriptor yX2_latestCell.desc).map (fun d => d.parameters.length) = some 1 := by decide +kernel
theorem hdX2_begin : yX2_begin.cls = RX2 ∧ yX2_begin.cls ≠ "java/lang/invoke/MethodHandle" ∧ yX2_begin.cls ≠ "java/lang/invoke/VarHandle" ∧ (parseMethodDescriptor yX2_begin.desc).map (fun d => d.parameters.length) = some 3 := by decide +kernel
theorem hdX2_show : yX2_show.cls = RX2 ∧ yX2_show.cls ≠ "java/lang/invoke/MethodHandle" ∧ yX2_show.cls ≠ "java/lang/invoke/VarHandle" ∧ (parseMethodDescriptor yX2_show.desc).map (fun d => d.parameters.length) = some 5 := by decide +kernel
theorem hdX2_hasRest : yX2_hasRest.cls = RX2 ∧ yX2_hasRest.cls ≠ "java/lang/invoke/MethodHandle" ∧ yX2_hasRest.cls ≠ "java/lang/invoke/VarHandle" ∧ (parseMethodDescriptor yX2_hasRest.desc).map (fun d => d.parameters.length) = some 2 := by decide +kernel
theorem hdX2_countShown : yX2_countShown.cls = RX2 ∧ yX2_countShown.cls ≠ "java/lang/invoke/MethodHandle" ∧ yX2_countShown.cls ≠ "java/lang/invoke/VarHandle" ∧ (parseMethodDescriptor yX2_countShown.desc).map (fun d => d.parameters.length) = some 1 := by decide +kernel
theorem hdX2_greatestWorst : yX2_greatestWorst.cls = RX2 ∧ yX2_greatestWorst.cls ≠ "java/lang/invoke/MethodHandle" ∧ yX2_greatestWorst.cls ≠ "java/lang/invoke/VarHandle" ∧ (parseMethodDescriptor yX2_greatestWorst.desc).map (fun d => d.parameters.length) = some 1 := by decide +kernel
theorem hdX3_gather : yX3_gather.cls = RX3 ∧ yX3_gather.cls ≠ "java/lang/invoke/MethodHandle" ∧ yX3_gather.cls ≠ "java/lang/invoke/VarHandle" ∧ (parseMethodDescriptor yX3_gather.desc).map (fun d => d.parameters.length) = some 3 := by decide +kernel
theorem hdX3_setFrame : yX3_setFrame.cls = RX3 ∧ yX3_setFrame.cls ≠ "java/lang/invoke/MethodHandle" ∧ yX3_setFrame.cls ≠ "java/lang/invoke/VarHandle" ∧ (parseMethodDescriptor yX3_setFrame.desc).map (fun d => d.parameters.length) = some 2 := by decide +kernel
theorem hdX3_countSmall : yX3_countSmall.cls = RX3 ∧ yX3_countSmall.cls ≠ "java/lang/invoke/MethodHandle" ∧ yX3_countSmall.cls ≠ "java/lang/invoke/VarHandle" ∧ (parseMethodDescriptor yX3_countSmall.desc).map (fun d => d.parameters.length) = some 3 := by decide +kernel
theorem hdX3_isSmall : yX3_isSmall.cls = RX3 ∧ yX3_isSmall.cls ≠ "java/lang/invoke/MethodHandle" ∧ yX3_isSmall.cls ≠ "java/lang/invoke/VarHandle" ∧ (parseMethodDescriptor yX3_isSmall.desc).map (fun d => d.parameters.length) = some 3 := by decide +kernel
theorem hdX3_add : yX3_add.cls = RX3 ∧ yX3_add.cls ≠ "java/lang/invoke/MethodHandle" ∧ yX3_add.cls ≠ "java/lang/invoke/VarHandle" ∧ (parseMethodDescriptor yX3_add.desc).map (fun d => d.parameters.length) = some 3 := by decide +kernel
theorem hdX3_sum : yX3_sum.cls = RX3 ∧ yX3_sum.cls ≠ "java/lang/invoke/MethodHandle" ∧ yX3_sum.cls ≠ "java/lang/invoke/VarHandle" ∧ (parseMethodDescriptor yX3_sum.desc).map (fun d => d.parameters.length) = some 2 := by decide +kernel
theorem hdX3_begin : yX3_begin.cls = RX3 ∧ yX3_begin.cls ≠ "java/lang/invoke/MethodHandle" ∧ yX3_begin.cls ≠ "java/lang/invoke/VarHandle" ∧ (parseMethodDescriptor yX3_begin.desc).map (fun d => d.parameters.length) = some 4 := by decide +kernel
theorem hdX4_layGroup : yX4_layGroup.cls = RX4 ∧ yX4_layGroup.cls ≠ "java/lang/invoke/MethodHandle" ∧ yX4_layGroup.cls ≠ "java/lang/invoke/VarHandle" ∧ (parseMethodDescriptor yX4_layGroup.desc).map (fun d => d.parameters.length) = some 3 := by decide +kernel
theorem hdX4_show : yX4_show.cls = RX4 ∧ yX4_show.cls ≠ "java/lang/invoke/MethodHandle" ∧ yX4_show.cls ≠ "java/lang/invoke/VarHandle" ∧ (parseMethodDescriptor yX4_show.desc).map (fun d => d.parameters.length) = some 4 := by decide +kernel
theorem hdX4_layAs : yX4_layAs.cls = RX4 ∧ yX4_layAs.cls ≠ "java/lang/invoke/MethodHandle" ∧ yX4_layAs.cls ≠ "java/lang/invoke/VarHandle" ∧ (parseMethodDescriptor yX4_layAs.desc).map (fun d => d.parameters.length) = some 2 := by decide +kernel
theorem hdX4_movesOf : yX4_movesOf.cls = RX4 ∧ yX4_movesOf.cls ≠ "java/lang/invoke/MethodHandle" ∧ yX4_movesOf.cls ≠ "java/lang/invoke/VarHandle" ∧ (parseMethodDescriptor yX4_movesOf.desc).map (fun d => d.parameters.length) = some 2 := by decide +kernel
theorem hdX4_layNothing : yX4_layNothing.cls = RX4 ∧ yX4_layNothing.cls ≠ "java/lang/invoke/MethodHandle" ∧ yX4_layNothing.cls ≠ "java/lang/invoke/VarHandle" ∧ (parseMethodDescriptor yX4_layNothing.desc).map (fun d => d.parameters.length) = some 1 := by decide +kernel
theorem hdX4_laySlice : yX4_laySlice.cls = RX4 ∧ yX4_laySlice.cls ≠ "java/lang/invoke/MethodHandle" ∧ yX4_laySlice.cls ≠ "java/lang/invoke/VarHandle" ∧ (parseMethodDescriptor yX4_laySlice.desc).map (fun d => d.parameters.length) = some 1 := by decide +kernel
theorem hdX5_put : yX5_put.cls = RX5 ∧ yX5_put.cls ≠ "java/lang/invoke/MethodHandle" ∧ yX5_put.cls ≠ "java/lang/invoke/VarHandle" ∧ (parseMethodDescriptor yX5_put.desc).map (fun d => d.parameters.length) = some 6 := by decide +kernel
theorem hdX6_read : yX6_read.cls = RX6 ∧ yX6_read.cls ≠ "java/lang/invoke/MethodHandle" ∧ yX6_read.cls ≠ "java/lang/invoke/VarHandle" ∧ (parseMethodDescriptor yX6_read.desc).map (fun d => d.parameters.length) = some 0 := by decide +kernel
theorem hdX6_nextToken : yX6_nextToken.cls = RX6 ∧ yX6_nextToken.cls ≠ "java/lang/invoke/MethodHandle" ∧ yX6_nextToken.cls ≠ "java/lang/invoke/VarHandle" ∧ (parseMethodDescriptor yX6_nextToken.desc).map (fun d => d.parameters.length) = some 0 := by decide +kernel
theorem hdX6_isBlank : yX6_isBlank.cls = RX6 ∧ yX6_isBlank.cls ≠ "java/lang/invoke/MethodHandle" ∧ yX6_isBlank.cls ≠ "java/lang/invoke/VarHandle" ∧ (parseMethodDescriptor yX6_isBlank.desc).map (fun d => d.parameters.length) = some 1 := by decide +kernel
theorem hdX6_kindOf : yX6_kindOf.cls = RX6 ∧ yX6_kindOf.cls ≠ "java/lang/invoke/MethodHandle" ∧ yX6_kindOf.cls ≠ "java/lang/invoke/VarHandle" ∧ (parseMethodDescriptor yX6_kindOf.desc).map (fun d => d.parameters.length) = some 1 := by decide +kernel
theorem hdX6_take : yX6_take.cls = RX6 ∧ yX6_take.cls ≠ "java/lang/invoke/MethodHandle" ∧ yX6_take.cls ≠ "java/lang/invoke/VarHandle" ∧ (parseMethodDescriptor yX6_take.desc).map (fun d => d.parameters.length) = some 0 := by decide +kernel
theorem hdX6_takeName : yX6_takeName.cls = RX6 ∧ yX6_takeName.cls ≠ "java/lang/invoke/MethodHandle" ∧ yX6_takeName.cls ≠ "java/lang/invoke/VarHandle" ∧ (parseMethodDescriptor yX6_takeName.desc).map (fun d => d.parameters.length) = some 0 := by decide +kernel
theorem hdX6_takeNumber : yX6_takeNumber.cls = RX6 ∧ yX6_takeNumber.cls ≠ "java/lang/invoke/MethodHandle" ∧ yX6_takeNumber.cls ≠ "java/lang/invoke/VarHandle" ∧ (parseMethodDescriptor yX6_takeNumber.desc).map (fun d => d.parameters.length) = some 0 := by decide +kernel
theorem hdX6_takeHow : yX6_takeHow.cls = RX6 ∧ yX6_takeHow.cls ≠ "java/lang/invoke/MethodHandle" ∧ yX6_takeHow.cls ≠ "java/lang/invoke/VarHandle" ∧ (parseMethodDescriptor yX6_takeHow.desc).map (fun d => d.parameters.length) = some 0 := by decide +kernel
theorem hdX6_takeSorted : yX6_takeSorted.cls = RX6 ∧ yX6_takeSorted.cls ≠ "java/lang/invoke/MethodHandle" ∧ yX6_takeSorted.cls ≠ "java/lang/invoke/VarHandle" ∧ (parseMethodDescriptor yX6_takeSorted.desc).map (fun d => d.parameters.length) = some 0 := by decide +kernel
theorem hdX6_takeClosing : yX6_takeClosing.cls = RX6 ∧ yX6_takeClosing.cls ≠ "java/lang/invoke/MethodHandle" ∧ yX6_takeClosing.cls ≠ "java/lang/invoke/VarHandle" ∧ (parseMethodDescriptor yX6_takeClosing.desc).map (fun d => d.parameters.length) = some 0 := by decide +kernel
theorem hdX6_takeSign : yX6_takeSign.cls = RX6 ∧ yX6_takeSign.cls ≠ "java/lang/invoke/MethodHandle" ∧ yX6_takeSign.cls ≠ "java/lang/invoke/VarHandle" ∧ (parseMethodDescriptor yX6_takeSign.desc).map (fun d => d.parameters.length) = some 2 := by decide +kernel
theorem hdX6_isWord : yX6_isWord.cls = RX6 ∧ yX6_isWord.cls ≠ "java/lang/invoke/MethodHandle" ∧ yX6_isWord.cls ≠ "java/lang/invoke/VarHandle" ∧ (parseMethodDescriptor yX6_isWord.desc).map (fun d => d.parameters.length) = some 1 := by decide +kernel
theorem hdX6_howOfWord : yX6_howOfWord.cls = RX6 ∧ yX6_howOfWord.cls ≠ "java/lang/invoke/MethodHandle" ∧ yX6_howOfWord.cls ≠ "java/lang/invoke/VarHandle" ∧ (parseMethodDescriptor yX6_howOfWord.desc).map (fun d => d.parameters.length) = some 0 := by decide +kernel
theorem hdX7_put : yX7_put.cls = RX7 ∧ yX7_put.cls ≠ "java/lang/invoke/MethodHandle" ∧ yX7_put.cls ≠ "java/lang/invoke/VarHandle" ∧ (parseMethodDescriptor yX7_put.desc).map (fun d => d.parameters.length) = some 5 := by decide +kernel
theorem hdX7_tell : yX7_tell.cls = RX7 ∧ yX7_tell.cls ≠ "java/lang/invoke/MethodHandle" ∧ yX7_tell.cls ≠ "java/lang/invoke/VarHandle" ∧ (parseMethodDescriptor yX7_tell.desc).map (fun d => d.parameters.length) = some 2 := by decide +kernel
theorem hdX7_holds : yX7_holds.cls = RX7 ∧ yX7_holds.cls ≠ "java/lang/invoke/MethodHandle" ∧ yX7_holds.cls ≠ "java/lang/invoke/VarHandle" ∧ (parseMethodDescriptor yX7_holds.desc).map (fun d => d.parameters.length) = some 3 := by decide +kernel
theorem hdX7_distance : yX7_distance.cls = RX7 ∧ yX7_distance.cls ≠ "java/lang/invoke/MethodHandle" ∧ yX7_distance.cls ≠ "java/lang/invoke/VarHandle" ∧ (parseMethodDescriptor yX7_distance.desc).map (fun d => d.parameters.length) = some 3 := by decide +kernel
theorem hdX8_lay : yX8_lay.cls = RX8 ∧ yX8_lay.cls ≠ "java/lang/invoke/MethodHandle" ∧ yX8_lay.cls ≠ "java/lang/invoke/VarHandle" ∧ (parseMethodDescriptor yX8_lay.desc).map (fun d => d.parameters.length) = some 1 := by decide +kernel
theorem hdX8_worstOfRow : yX8_worstOfRow.cls = RX8 ∧ yX8_worstOfRow.cls ≠ "java/lang/invoke/MethodHandle" ∧ yX8_worstOfRow.cls ≠ "java/lang/invoke/VarHandle" ∧ (parseMethodDescriptor yX8_worstOfRow.desc).map (fun d => d.parameters.length) = some 3 := by decide +kernel
theorem hdX8_findLeast : yX8_findLeast.cls = RX8 ∧ yX8_findLeast.cls ≠ "java/lang/invoke/MethodHandle" ∧ yX8_findLeast.cls ≠ "java/lang/invoke/VarHandle" ∧ (parseMethodDescriptor yX8_findLeast.desc).map (fun d => d.parameters.length) = some 1 := by decide +kernel
theorem hdX8_findFewest : yX8_findFewest.cls = RX8 ∧ yX8_findFewest.cls ≠ "java/lang/invoke/MethodHandle" ∧ yX8_findFewest.cls ≠ "java/lang/invoke/VarHandle" ∧ (parseMethodDescriptor yX8_findFewest.desc).map (fun d => d.parameters.length) = some 1 := by decide +kernel
theorem hdX8_endOfRow : yX8_endOfRow.cls = RX8 ∧ yX8_endOfRow.cls ≠ "java/lang/invoke/MethodHandle" ∧ yX8_endOfRow.cls ≠ "java/lang/invoke/VarHandle" ∧ (parseMethodDescriptor yX8_endOfRow.desc).map (fun d => d.parameters.length) = some 2 := by decide +kernel
theorem hdX8_layRow : yX8_layRow.cls = RX8 ∧ yX8_layRow.cls ≠ "java/lang/invoke/MethodHandle" ∧ yX8_layRow.cls ≠ "java/lang/invoke/VarHandle" ∧ (parseMethodDescriptor yX8_layRow.desc).map (fun d => d.parameters.length) = some 3 := by decide +kernel
theorem hdX9_add : yX9_add.cls = RX9 ∧ yX9_add.cls ≠ "java/lang/invoke/MethodHandle" ∧ yX9_add.cls ≠ "java/lang/invoke/VarHandle" ∧ (parseMethodDescriptor yX9_add.desc).map (fun d => d.parameters.length) = some 1 := by decide +kernel
theorem hdX9_byteAt : yX9_byteAt.cls = RX9 ∧ yX9_byteAt.cls ≠ "java/lang/invoke/MethodHandle" ∧ yX9_byteAt.cls ≠ "java/lang/invoke/VarHandle" ∧ (parseMethodDescriptor yX9_byteAt.desc).map (fun d => d.parameters.length) = some 1 := by decide +kernel
theorem hdX9_says : yX9_says.cls = RX9 ∧ yX9_says.cls ≠ "java/lang/invoke/MethodHandle" ∧ yX9_says.cls ≠ "java/lang/invoke/VarHandle" ∧ (parseMethodDescriptor yX9_says.desc).map (fun d => d.parameters.length) = some 3 := by decide +kernel
theorem hdX10_has : yX10_has.cls = RX10 ∧ yX10_has.cls ≠ "java/lang/invoke/MethodHandle" ∧ yX10_has.cls ≠ "java/lang/invoke/VarHandle" ∧ (parseMethodDescriptor yX10_has.desc).map (fun d => d.parameters.length) = some 1 := by decide +kernel
theorem hdX10_isGroup : yX10_isGroup.cls = RX10 ∧ yX10_isGroup.cls ≠ "java/lang/invoke/MethodHandle" ∧ yX10_isGroup.cls ≠ "java/lang/invoke/VarHandle" ∧ (parseMethodDescriptor yX10_isGroup.desc).map (fun d => d.parameters.length) = some 1 := by decide +kernel
theorem hdX10_isLeaf : yX10_isLeaf.cls = RX10 ∧ yX10_isLeaf.cls ≠ "java/lang/invoke/MethodHandle" ∧ yX10_isLeaf.cls ≠ "java/lang/invoke/VarHandle" ∧ (parseMethodDescriptor yX10_isLeaf.desc).map (fun d => d.parameters.length) = some 1 := by decide +kernel
theorem hdX10_nameByte : yX10_nameByte.cls = RX10 ∧ yX10_nameByte.cls ≠ "java/lang/invoke/MethodHandle" ∧ yX10_nameByte.cls ≠ "java/lang/invoke/VarHandle" ∧ (parseMethodDescriptor yX10_nameByte.desc).map (fun d => d.parameters.length) = some 2 := by decide +kernel
theorem hdX10_addBox : yX10_addBox.cls = RX10 ∧ yX10_addBox.cls ≠ "java/lang/invoke/MethodHandle" ∧ yX10_addBox.cls ≠ "java/lang/invoke/VarHandle" ∧ (parseMethodDescriptor yX10_addBox.desc).map (fun d => d.parameters.length) = some 4 := by decide +kernel
theorem hdX10_find : yX10_find.cls = RX10 ∧ yX10_find.cls ≠ "java/lang/invoke/MethodHandle" ∧ yX10_find.cls ≠ "java/lang/invoke/VarHandle" ∧ (parseMethodDescriptor yX10_find.desc).map (fun d => d.parameters.length) = some 3 := by decide +kernel
theorem hdX10_isNamed : yX10_isNamed.cls = RX10 ∧ yX10_isNamed.cls ≠ "java/lang/invoke/MethodHandle" ∧ yX10_isNamed.cls ≠ "java/lang/invoke/VarHandle" ∧ (parseMethodDescriptor yX10_isNamed.desc).map (fun d => d.parameters.length) = some 3 := by decide +kernel
theorem hdJ6_bitCount_0f7a4 : yJ6_bitCount_0f7a4.cls = RJ6 ∧ yJ6_bitCount_0f7a4.cls ≠ "java/lang/invoke/MethodHandle" ∧ yJ6_bitCount_0f7a4.cls ≠ "java/lang/invoke/VarHandle" ∧ (parseMethodDescriptor yJ6_bitCount_0f7a4.desc).map (fun d => d.parameters.length) = some 1 := by decide +kernel
