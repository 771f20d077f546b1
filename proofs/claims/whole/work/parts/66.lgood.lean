/-! the law's cases -/
set_option maxRecDepth 100000 in
theorem gL_19 : GoodIn lw_tbl [Cond.methodLink RL 19 yX11_sheet, Cond.instanceMethod yX11_sheet, Cond.selects RX11 yX11_sheet yX11_sheet, Cond.initialized RX11] := goodIn_r _ [490, 491, 492, 64] (by rfl) (by decide +kernel)
set_option maxRecDepth 100000 in
theorem gL_23 : GoodIn lw_tbl [Cond.methodLink RL 23 yX12_sheet, Cond.instanceMethod yX12_sheet, Cond.selects RX12 yX12_sheet yX12_sheet, Cond.initialized RX12] := goodIn_r _ [1167, 1168, 1169, 77] (by rfl) (by decide +kernel)
set_option maxRecDepth 100000 in
theorem gL_24 : GoodIn lw_tbl [Cond.methodLink RL 24 yX11_price, Cond.instanceMethod yX11_price, Cond.selects RX11 yX11_price yX11_price, Cond.initialized RX11] := goodIn_r _ [497, 498, 499, 64] (by rfl) (by decide +kernel)
set_option maxRecDepth 100000 in
theorem gL_28 : GoodIn lw_tbl [Cond.methodLink RL 28 yX12_price, Cond.instanceMethod yX12_price, Cond.selects RX12 yX12_price yX12_price, Cond.initialized RX12] := goodIn_r _ [1174, 1175, 1176, 77] (by rfl) (by decide +kernel)
set_option maxRecDepth 100000 in
theorem gL_29 : GoodIn lw_tbl [Cond.methodLink RL 29 yX11_feed, Cond.instanceMethod yX11_feed, Cond.selects RX11 yX11_feed yX11_feed, Cond.initialized RX11] := goodIn_r _ [501, 502, 503, 64] (by rfl) (by decide +kernel)
set_option maxRecDepth 100000 in
theorem gL_33 : GoodIn lw_tbl [Cond.methodLink RL 33 yX12_feed, Cond.instanceMethod yX12_feed, Cond.selects RX12 yX12_feed yX12_feed, Cond.initialized RX12] := goodIn_r _ [1178, 1179, 1180, 77] (by rfl) (by decide +kernel)
set_option maxRecDepth 100000 in
theorem gL_34 : GoodIn lw_tbl [Cond.methodLink RL 34 yX11_end, Cond.instanceMethod yX11_end, Cond.selects RX11 yX11_end yX11_end, Cond.initialized RX11] := goodIn_r _ [509, 510, 511, 64] (by rfl) (by decide +kernel)
set_option maxRecDepth 100000 in
theorem gL_38 : GoodIn lw_tbl [Cond.methodLink RL 38 yX12_end, Cond.instanceMethod yX12_end, Cond.selects RX12 yX12_end yX12_end, Cond.initialized RX12] := goodIn_r _ [1182, 1183, 1184, 77] (by rfl) (by decide +kernel)
set_option maxRecDepth 100000 in
theorem gL_39 : GoodIn lw_tbl [Cond.methodLink RL 39 yX11_tree, Cond.instanceMethod yX11_tree, Cond.selects RX11 yX11_tree yX11_tree, Cond.initialized RX11] := goodIn_r _ [513, 514, 515, 64] (by rfl) (by decide +kernel)
set_option maxRecDepth 100000 in
theorem gL_43 : GoodIn lw_tbl [Cond.methodLink RL 43 yX12_tree, Cond.instanceMethod yX12_tree, Cond.selects RX12 yX12_tree yX12_tree, Cond.initialized RX12] := goodIn_r _ [1186, 1187, 1188, 77] (by rfl) (by decide +kernel)
set_option maxRecDepth 100000 in
theorem gL_44 : GoodIn lw_tbl [Cond.methodLink RL 44 yX11_place, Cond.instanceMethod yX11_place, Cond.selects RX11 yX11_place yX11_place, Cond.initialized RX11] := goodIn_r _ [654, 655, 656, 64] (by rfl) (by decide +kernel)
set_option maxRecDepth 100000 in
theorem gL_47 : GoodIn lw_tbl [Cond.methodLink RL 47 yX12_place, Cond.instanceMethod yX12_place, Cond.selects RX12 yX12_place yX12_place, Cond.initialized RX12] := goodIn_r _ [1255, 1256, 1257, 77] (by rfl) (by decide +kernel)
set_option maxRecDepth 100000 in
theorem gL_48 : GoodIn lw_tbl [Cond.methodLink RL 48 yX11_size, Cond.instanceMethod yX11_size, Cond.selects RX11 yX11_size yX11_size, Cond.initialized RX11] := goodIn_r _ [658, 659, 660, 64] (by rfl) (by decide +kernel)
set_option maxRecDepth 100000 in
theorem gL_51 : GoodIn lw_tbl [Cond.methodLink RL 51 yX12_size, Cond.instanceMethod yX12_size, Cond.selects RX12 yX12_size yX12_size, Cond.initialized RX12] := goodIn_r _ [1259, 1260, 1261, 77] (by rfl) (by decide +kernel)
set_option maxRecDepth 100000 in
theorem gL_52 : GoodIn lw_tbl [Cond.methodLink RL 52 yX11_rest, Cond.instanceMethod yX11_rest, Cond.selects RX11 yX11_rest yX11_rest, Cond.initialized RX11] := goodIn_r _ [674, 675, 676, 64] (by rfl) (by decide +kernel)
set_option maxRecDepth 100000 in
theorem gL_56 : GoodIn lw_tbl [Cond.methodLink RL 56 yX12_rest, Cond.instanceMethod yX12_rest, Cond.selects RX12 yX12_rest yX12_rest, Cond.initialized RX12] := goodIn_r _ [1276, 1277, 1278, 77] (by rfl) (by decide +kernel)
set_option maxRecDepth 100000 in
theorem gL_57 : GoodIn lw_tbl [Cond.methodLink RL 57 yX11_draw, Cond.instanceMethod yX11_draw, Cond.selects RX11 yX11_draw yX11_draw, Cond.initialized RX11] := goodIn_r _ [682, 683, 684, 64] (by rfl) (by decide +kernel)
set_option maxRecDepth 100000 in
theorem gL_60 : GoodIn lw_tbl [Cond.methodLink RL 60 yX12_draw, Cond.instanceMethod yX12_draw, Cond.selects RX12 yX12_draw yX12_draw, Cond.initialized RX12] := goodIn_r _ [1280, 1281, 1282, 77] (by rfl) (by decide +kernel)
set_option maxRecDepth 100000 in
theorem gL_61 : GoodIn lw_tbl [Cond.methodLink RL 61 yX11_box, Cond.instanceMethod yX11_box, Cond.selects RX11 yX11_box yX11_box, Cond.initialized RX11] := goodIn_r _ [841, 842, 843, 64] (by rfl) (by decide +kernel)
set_option maxRecDepth 100000 in
theorem gL_65 : GoodIn lw_tbl [Cond.methodLink RL 65 yX12_box, Cond.instanceMethod yX12_box, Cond.selects RX12 yX12_box yX12_box, Cond.initialized RX12] := goodIn_r _ [1380, 1381, 1382, 77] (by rfl) (by decide +kernel)
set_option maxRecDepth 100000 in
theorem gL_66 : GoodIn lw_tbl [Cond.methodLink RL 66 yX11_restOf, Cond.instanceMethod yX11_restOf, Cond.selects RX11 yX11_restOf yX11_restOf, Cond.initialized RX11] := goodIn_r _ [852, 853, 854, 64] (by rfl) (by decide +kernel)
set_option maxRecDepth 100000 in
theorem gL_69 : GoodIn lw_tbl [Cond.methodLink RL 69 yX12_restOf, Cond.instanceMethod yX12_restOf, Cond.selects RX12 yX12_restOf yX12_restOf, Cond.initialized RX12] := goodIn_r _ [1388, 1389, 1390, 77] (by rfl) (by decide +kernel)
set_option maxRecDepth 100000 in
theorem gL_70 : GoodIn lw_tbl [Cond.methodLink RL 70 yX11_under, Cond.instanceMethod yX11_under, Cond.selects RX11 yX11_under yX11_under, Cond.initialized RX11] := goodIn_r _ [856, 857, 858, 64] (by rfl) (by decide +kernel)
set_option maxRecDepth 100000 in
theorem gL_73 : GoodIn lw_tbl [Cond.methodLink RL 73 yX12_under, Cond.instanceMethod yX12_under, Cond.selects RX12 yX12_under yX12_under, Cond.initialized RX12] := goodIn_r _ [1392, 1393, 1394, 77] (by rfl) (by decide +kernel)
set_option maxRecDepth 100000 in
theorem gL_74 : GoodIn lw_tbl [Cond.methodLink RL 74 yX11_letters, Cond.instanceMethod yX11_letters, Cond.selects RX11 yX11_letters yX11_letters, Cond.initialized RX11] := goodIn_r _ [869, 870, 871, 64] (by rfl) (by decide +kernel)
set_option maxRecDepth 100000 in
theorem gL_77 : GoodIn lw_tbl [Cond.methodLink RL 77 yX12_letters, Cond.instanceMethod yX12_letters, Cond.selects RX12 yX12_letters yX12_letters, Cond.initialized RX12] := goodIn_r _ [1399, 1400, 1401, 77] (by rfl) (by decide +kernel)
set_option maxRecDepth 100000 in
theorem gL_78 : GoodIn lw_tbl [Cond.methodLink RL 78 yX11_moved, Cond.instanceMethod yX11_moved, Cond.selects RX11 yX11_moved yX11_moved, Cond.initialized RX11] := goodIn_r _ [874, 875, 876, 64] (by rfl) (by decide +kernel)
set_option maxRecDepth 100000 in
theorem gL_81 : GoodIn lw_tbl [Cond.methodLink RL 81 yX12_moved, Cond.instanceMethod yX12_moved, Cond.selects RX12 yX12_moved yX12_moved, Cond.initialized RX12] := goodIn_r _ [1403, 1404, 1405, 77] (by rfl) (by decide +kernel)
set_option maxRecDepth 100000 in
theorem gL_91 : GoodIn lw_tbl [Cond.methodLink RL 91 yX11_about, Cond.instanceMethod yX11_about, Cond.selects RX11 yX11_about yX11_about, Cond.initialized RX11] := goodIn_r _ [880, 881, 882, 64] (by rfl) (by decide +kernel)
set_option maxRecDepth 100000 in
theorem gL_94 : GoodIn lw_tbl [Cond.methodLink RL 94 yX12_about, Cond.instanceMethod yX12_about, Cond.selects RX12 yX12_about yX12_about, Cond.initialized RX12] := goodIn_r _ [1411, 1412, 1413, 77] (by rfl) (by decide +kernel)
set_option maxRecDepth 100000 in
theorem gL_95 : GoodIn lw_tbl [Cond.methodLink RL 95 yX11_letter, Cond.instanceMethod yX11_letter, Cond.selects RX11 yX11_letter yX11_letter, Cond.initialized RX11] := goodIn_r _ [888, 889, 890, 64] (by rfl) (by decide +kernel)
set_option maxRecDepth 100000 in
theorem gL_98 : GoodIn lw_tbl [Cond.methodLink RL 98 yX12_letter, Cond.instanceMethod yX12_letter, Cond.selects RX12 yX12_letter yX12_letter, Cond.initialized RX12] := goodIn_r _ [1415, 1416, 1417, 77] (by rfl) (by decide +kernel)
set_option maxRecDepth 100000 in
theorem gL_99 : GoodIn lw_tbl [Cond.methodLink RL 99 yX11_named, Cond.instanceMethod yX11_named, Cond.selects RX11 yX11_named yX11_named, Cond.initialized RX11] := goodIn_r _ [893, 894, 895, 64] (by rfl) (by decide +kernel)
set_option maxRecDepth 100000 in
theorem gL_102 : GoodIn lw_tbl [Cond.methodLink RL 102 yX12_named, Cond.instanceMethod yX12_named, Cond.selects RX12 yX12_named yX12_named, Cond.initialized RX12] := goodIn_r _ [1419, 1420, 1421, 77] (by rfl) (by decide +kernel)
set_option maxRecDepth 100000 in
theorem gL_103 : GoodIn lw_tbl [Cond.methodLink RL 103 yX11_sizeIn, Cond.instanceMethod yX11_sizeIn, Cond.selects RX11 yX11_sizeIn yX11_sizeIn, Cond.initialized RX11] := goodIn_r _ [898, 899, 900, 64] (by rfl) (by decide +kernel)
set_option maxRecDepth 100000 in
theorem gL_106 : GoodIn lw_tbl [Cond.methodLink RL 106 yX12_sizeIn, Cond.instanceMethod yX12_sizeIn, Cond.selects RX12 yX12_sizeIn yX12_sizeIn, Cond.initialized RX12] := goodIn_r _ [1268, 1269, 1270, 77] (by rfl) (by decide +kernel)
set_option maxRecDepth 100000 in
theorem gL_107 : GoodIn lw_tbl [Cond.methodLink RL 107 yX11_count, Cond.instanceMethod yX11_count, Cond.selects RX11 yX11_count yX11_count, Cond.initialized RX11] := goodIn_r _ [902, 903, 904, 64] (by rfl) (by decide +kernel)
set_option maxRecDepth 100000 in
theorem gL_110 : GoodIn lw_tbl [Cond.methodLink RL 110 yX12_count, Cond.instanceMethod yX12_count, Cond.selects RX12 yX12_count yX12_count, Cond.initialized RX12] := goodIn_r _ [1423, 1424, 1425, 77] (by rfl) (by decide +kernel)
set_option maxRecDepth 100000 in
theorem gL_87 : GoodIn lw_tbl [Cond.methodLink RL 87 yX12_past, Cond.instanceMethod yX12_past, Cond.selects RX12 yX12_past yX12_past, Cond.initialized RX12] := goodIn_r _ [1407, 1408, 1409, 77] (by rfl) (by decide +kernel)
set_option maxRecDepth 100000 in
theorem gL_88 : GoodIn lw_tbl [Cond.methodLink RL 88 yX12_thrown, Cond.instanceMethod yX12_thrown, Cond.selects RX12 yX12_thrown yX12_thrown, Cond.initialized RX12] := goodIn_r _ [988, 989, 990, 77] (by rfl) (by decide +kernel)
set_option maxRecDepth 100000 in
theorem gLP0 : GoodIn lw_tbl [Cond.methodLink RL 82 yL_past, Cond.static yL_past, Cond.initialized RL, Cond.codeWith yL_past cL_past 6 (some .int) [(0, 12, 15, 13)], Cond.classLink RL 13 nse, Cond.methodLink RL 7 yX11_past, Cond.instanceMethod yX11_past, Cond.selects RX11 yX11_past yX11_past] := goodIn_r _ [915, 916, 63, 917, 918, 919, 920, 921] (by rfl) (by decide +kernel)
set_option maxRecDepth 100000 in
theorem atP_in : GoodIn lw_tbl atP := goodIn_sub (by decide +kernel) atP_good
set_option maxRecDepth 100000 in
theorem faP_in : ∀ w ∈ faP, w ∈ lw_tbl := by decide +kernel
theorem gLP : GoodIn lw_tbl (va_wsS RL 82 yL_past wsLP) := by
  intro w hw
  simp only [va_wsS, List.mem_append, List.mem_cons, List.not_mem_nil, or_false] at hw
  rcases hw with (h | h | h) | h | (h | h | h | h) | h | h
  · rw [h]; exact gLP0 _ (List.mem_of_getElem? (i := 0) rfl)
  · rw [h]; exact gLP0 _ (List.mem_of_getElem? (i := 1) rfl)
  · rw [h]; exact gLP0 _ (List.mem_of_getElem? (i := 2) rfl)
  · rw [h]; exact gLP0 _ (List.mem_of_getElem? (i := 3) rfl)
  · rw [h]; exact gLP0 _ (List.mem_of_getElem? (i := 4) rfl)
  · rw [h]; exact gLP0 _ (List.mem_of_getElem? (i := 5) rfl)
  · rw [h]; exact gLP0 _ (List.mem_of_getElem? (i := 6) rfl)
  · rw [h]; exact gLP0 _ (List.mem_of_getElem? (i := 7) rfl)
  · exact uX_in w h
  · exact atP_in w h
theorem lg_cmp_self (x : Int64) : lg_cmp x x = 0 := by
  unfold lg_cmp
  simp
