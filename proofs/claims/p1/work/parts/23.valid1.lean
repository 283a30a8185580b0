/-! Written by wip/p1/gen2.py. -/
set_option maxRecDepth 100000 in
theorem pD_1 : px_chkD pm_1 = true := by decide +kernel
set_option maxRecDepth 100000 in
theorem pK_1 : px_chkK pm_1 [[204, 205, 206], [580], [207], [582], [208], [584], [211, 212, 213], [585], [586], [587], [234], [236, 237, 238], [588], [396], [398, 399, 400], [589], [421], [423, 424, 425], [590], [458], [460, 461, 462], [591], [480], [482, 483, 484], [592], [509], [511, 512, 513], [593], [546], [548, 549, 550], [594], [595], [208, 209]] = true := by decide +kernel
theorem pO_1 : px_okM pm_1 := px_chkM_ok px_allY_ok pD_1 pK_1
set_option maxRecDepth 100000 in
theorem pD_2 : px_chkD pm_2 = true := by decide +kernel
set_option maxRecDepth 100000 in
theorem pK_2 : px_chkK pm_2 [[723, 724], [1189], [1251, 1253, 50]] = true := by decide +kernel
theorem pO_2 : px_okM pm_2 := px_chkM_ok px_allY_ok pD_2 pK_2
set_option maxRecDepth 100000 in
theorem pD_3 : px_chkD pm_3 = true := by decide +kernel
set_option maxRecDepth 100000 in
theorem pK_3 : px_chkK pm_3 [[584], [723, 724], [226], [1178, 1179], [1189], [1202, 1203, 1204], [1213, 1214]] = true := by decide +kernel
theorem pO_3 : px_okM pm_3 := px_chkM_ok px_allY_ok pD_3 pK_3
set_option maxRecDepth 100000 in
theorem pD_4 : px_chkD pm_4 = true := by decide +kernel
set_option maxRecDepth 100000 in
theorem pK_4 : px_chkK pm_4 [[584], [226], [1178, 1179], [583], [1636, 1637]] = true := by decide +kernel
theorem pO_4 : px_okM pm_4 := px_chkM_ok px_allY_ok pD_4 pK_4
set_option maxRecDepth 100000 in
theorem pD_5 : px_chkD pm_5 = true := by decide +kernel
set_option maxRecDepth 100000 in
theorem pK_5 : px_chkK pm_5 [[723, 724], [1178, 1179], [1251, 1253, 50]] = true := by decide +kernel
theorem pO_5 : px_okM pm_5 := px_chkM_ok px_allY_ok pD_5 pK_5
set_option maxRecDepth 100000 in
theorem pD_6 : px_chkD pm_6 = true := by decide +kernel
set_option maxRecDepth 100000 in
theorem pK_6 : px_chkK pm_6 [[723, 724], [1178, 1179], [1251, 1253, 50]] = true := by decide +kernel
theorem pO_6 : px_okM pm_6 := px_chkM_ok px_allY_ok pD_6 pK_6
set_option maxRecDepth 100000 in
theorem pD_7 : px_chkD pm_7 = true := by decide +kernel
set_option maxRecDepth 100000 in
theorem pK_7 : px_chkK pm_7 [[588], [581], [723, 724], [377], [583], [375]] = true := by decide +kernel
theorem pO_7 : px_okM pm_7 := px_chkM_ok px_allY_ok pD_7 pK_7
set_option maxRecDepth 100000 in
theorem pD_8 : px_chkD pm_8 = true := by decide +kernel
set_option maxRecDepth 100000 in
theorem pK_8 : px_chkK pm_8 [[1251, 1253, 50], [1492, 1494, 79]] = true := by decide +kernel
theorem pO_8 : px_okM pm_8 := px_chkM_ok px_allY_ok pD_8 pK_8
set_option maxRecDepth 100000 in
theorem pD_9 : px_chkD pm_9 = true := by decide +kernel
set_option maxRecDepth 100000 in
theorem pK_9 : px_chkK pm_9 [[581], [723, 724]] = true := by decide +kernel
theorem pO_9 : px_okM pm_9 := px_chkM_ok px_allY_ok pD_9 pK_9
set_option maxRecDepth 100000 in
theorem pD_10 : px_chkD pm_10 = true := by decide +kernel
set_option maxRecDepth 100000 in
theorem pK_10 : px_chkK pm_10 [[581], [711, 713, 1]] = true := by decide +kernel
theorem pO_10 : px_okM pm_10 := px_chkM_ok px_allY_ok pD_10 pK_10
set_option maxRecDepth 100000 in
theorem pD_11 : px_chkD pm_11 = true := by decide +kernel
set_option maxRecDepth 100000 in
theorem pK_11 : px_chkK pm_11 [[580], [581]] = true := by decide +kernel
theorem pO_11 : px_okM pm_11 := px_chkM_ok px_allY_ok pD_11 pK_11
set_option maxRecDepth 100000 in
theorem pD_12 : px_chkD pm_12 = true := by decide +kernel
set_option maxRecDepth 100000 in
theorem pK_12 : px_chkK pm_12 [[226]] = true := by decide +kernel
theorem pO_12 : px_okM pm_12 := px_chkM_ok px_allY_ok pD_12 pK_12
set_option maxRecDepth 100000 in
theorem pD_13 : px_chkD pm_13 = true := by decide +kernel
set_option maxRecDepth 100000 in
theorem pK_13 : px_chkK pm_13 [[723, 724], [1178, 1179], [1251, 1253, 50]] = true := by decide +kernel
theorem pO_13 : px_okM pm_13 := px_chkM_ok px_allY_ok pD_13 pK_13
set_option maxRecDepth 100000 in
theorem pD_14 : px_chkD pm_14 = true := by decide +kernel
set_option maxRecDepth 100000 in
theorem pK_14 : px_chkK pm_14 [[723, 724], [1178, 1179], [1251, 1253, 50]] = true := by decide +kernel
theorem pO_14 : px_okM pm_14 := px_chkM_ok px_allY_ok pD_14 pK_14
set_option maxRecDepth 100000 in
theorem pD_15 : px_chkD pm_15 = true := by decide +kernel
set_option maxRecDepth 100000 in
theorem pK_15 : px_chkK pm_15 [[723, 724], [1178, 1179], [1251, 1253, 50]] = true := by decide +kernel
theorem pO_15 : px_okM pm_15 := px_chkM_ok px_allY_ok pD_15 pK_15
set_option maxRecDepth 100000 in
theorem pD_16 : px_chkD pm_16 = true := by decide +kernel
set_option maxRecDepth 100000 in
theorem pK_16 : px_chkK pm_16 [[589], [581], [723, 724], [750, 752, 2], [769, 770, 771], [1051], [1060]] = true := by decide +kernel
theorem pO_16 : px_okM pm_16 := px_chkM_ok px_allY_ok pD_16 pK_16
set_option maxRecDepth 100000 in
theorem pD_17 : px_chkD pm_17 = true := by decide +kernel
set_option maxRecDepth 100000 in
theorem pK_17 : px_chkK pm_17 [[723, 724], [1178, 1179], [1251, 1253, 50]] = true := by decide +kernel
theorem pO_17 : px_okM pm_17 := px_chkM_ok px_allY_ok pD_17 pK_17
set_option maxRecDepth 100000 in
theorem pD_18 : px_chkD pm_18 = true := by decide +kernel
set_option maxRecDepth 100000 in
theorem pK_18 : px_chkK pm_18 [[1251, 1253, 50], [1492, 1494, 79]] = true := by decide +kernel
theorem pO_18 : px_okM pm_18 := px_chkM_ok px_allY_ok pD_18 pK_18
set_option maxRecDepth 100000 in
theorem pD_19 : px_chkD pm_19 = true := by decide +kernel
set_option maxRecDepth 100000 in
theorem pK_19 : px_chkK pm_19 [[723, 724], [1178, 1179], [1251, 1253, 50]] = true := by decide +kernel
theorem pO_19 : px_okM pm_19 := px_chkM_ok px_allY_ok pD_19 pK_19
set_option maxRecDepth 100000 in
theorem pD_20 : px_chkD pm_20 = true := by decide +kernel
set_option maxRecDepth 100000 in
theorem pK_20 : px_chkK pm_20 [[584], [723, 724], [226], [1178, 1179], [1223, 1224, 1225]] = true := by decide +kernel
theorem pO_20 : px_okM pm_20 := px_chkM_ok px_allY_ok pD_20 pK_20
set_option maxRecDepth 100000 in
theorem pD_21 : px_chkD pm_21 = true := by decide +kernel
set_option maxRecDepth 100000 in
theorem pK_21 : px_chkK pm_21 [[584], [226], [1178, 1179], [1213, 1214]] = true := by decide +kernel
theorem pO_21 : px_okM pm_21 := px_chkM_ok px_allY_ok pD_21 pK_21
set_option maxRecDepth 100000 in
theorem pD_22 : px_chkD pm_22 = true := by decide +kernel
set_option maxRecDepth 100000 in
theorem pK_22 : px_chkK pm_22 [] = true := by decide +kernel
theorem pO_22 : px_okM pm_22 := px_chkM_ok px_allY_ok pD_22 pK_22
set_option maxRecDepth 100000 in
theorem pD_23 : px_chkD pm_23 = true := by decide +kernel
set_option maxRecDepth 100000 in
theorem pK_23 : px_chkK pm_23 [[226]] = true := by decide +kernel
theorem pO_23 : px_okM pm_23 := px_chkM_ok px_allY_ok pD_23 pK_23
set_option maxRecDepth 100000 in
theorem pD_24 : px_chkD pm_24 = true := by decide +kernel
set_option maxRecDepth 100000 in
theorem pK_24 : px_chkK pm_24 [[588], [377]] = true := by decide +kernel
theorem pO_24 : px_okM pm_24 := px_chkM_ok px_allY_ok pD_24 pK_24
set_option maxRecDepth 100000 in
theorem pD_25 : px_chkD pm_25 = true := by decide +kernel
set_option maxRecDepth 100000 in
theorem pK_25 : px_chkK pm_25 [[584], [723, 724], [226], [1178, 1179]] = true := by decide +kernel
theorem pO_25 : px_okM pm_25 := px_chkM_ok px_allY_ok pD_25 pK_25
set_option maxRecDepth 100000 in
theorem pD_26 : px_chkD pm_26 = true := by decide +kernel
set_option maxRecDepth 100000 in
theorem pK_26 : px_chkK pm_26 [[726], [735]] = true := by decide +kernel
theorem pO_26 : px_okM pm_26 := px_chkM_ok px_allY_ok pD_26 pK_26
set_option maxRecDepth 100000 in
theorem pD_27 : px_chkD pm_27 = true := by decide +kernel
set_option maxRecDepth 100000 in
theorem pK_27 : px_chkK pm_27 [[645], [688]] = true := by decide +kernel
theorem pO_27 : px_okM pm_27 := px_chkM_ok px_allY_ok pD_27 pK_27
set_option maxRecDepth 100000 in
theorem pD_28 : px_chkD pm_28 = true := by decide +kernel
set_option maxRecDepth 100000 in
theorem pK_28 : px_chkK pm_28 [[588], [377], [754], [763]] = true := by decide +kernel
theorem pO_28 : px_okM pm_28 := px_chkM_ok px_allY_ok pD_28 pK_28
set_option maxRecDepth 100000 in
theorem pD_29 : px_chkD pm_29 = true := by decide +kernel
set_option maxRecDepth 100000 in
theorem pK_29 : px_chkK pm_29 [[723, 724]] = true := by decide +kernel
theorem pO_29 : px_okM pm_29 := px_chkM_ok px_allY_ok pD_29 pK_29
set_option maxRecDepth 100000 in
theorem pD_30 : px_chkD pm_30 = true := by decide +kernel
set_option maxRecDepth 100000 in
theorem pK_30 : px_chkK pm_30 [[584], [588], [377], [633, 634, 635], [226]] = true := by decide +kernel
theorem pO_30 : px_okM pm_30 := px_chkM_ok px_allY_ok pD_30 pK_30
set_option maxRecDepth 100000 in
theorem pD_31 : px_chkD pm_31 = true := by decide +kernel
set_option maxRecDepth 100000 in
theorem pK_31 : px_chkK pm_31 [[588], [590], [750, 752, 2], [1074, 1075, 1076], [377], [438]] = true := by decide +kernel
theorem pO_31 : px_okM pm_31 := px_chkM_ok px_allY_ok pD_31 pK_31
set_option maxRecDepth 100000 in
theorem pD_32 : px_chkD pm_32 = true := by decide +kernel
set_option maxRecDepth 100000 in
theorem pK_32 : px_chkK pm_32 [[584], [226], [1178, 1179]] = true := by decide +kernel
theorem pO_32 : px_okM pm_32 := px_chkM_ok px_allY_ok pD_32 pK_32
set_option maxRecDepth 100000 in
theorem pD_33 : px_chkD pm_33 = true := by decide +kernel
set_option maxRecDepth 100000 in
theorem pK_33 : px_chkK pm_33 [[584], [581], [1178, 1179], [1181, 1183, 47], [1198, 1200, 49]] = true := by decide +kernel
theorem pO_33 : px_okM pm_33 := px_chkM_ok px_allY_ok pD_33 pK_33
set_option maxRecDepth 100000 in
theorem pD_34 : px_chkD pm_34 = true := by decide +kernel
set_option maxRecDepth 100000 in
theorem pK_34 : px_chkK pm_34 [[1213, 1214], [583]] = true := by decide +kernel
theorem pO_34 : px_okM pm_34 := px_chkM_ok px_allY_ok pD_34 pK_34
set_option maxRecDepth 100000 in
theorem pD_35 : px_chkD pm_35 = true := by decide +kernel
set_option maxRecDepth 100000 in
theorem pK_35 : px_chkK pm_35 [[485, 205, 206], [487], [488], [489], [490], [486]] = true := by decide +kernel
theorem pO_35 : px_okM pm_35 := px_chkM_ok px_allY_ok pD_35 pK_35
set_option maxRecDepth 100000 in
theorem pD_36 : px_chkD pm_36 = true := by decide +kernel
set_option maxRecDepth 100000 in
theorem pK_36 : px_chkK pm_36 [[514, 205, 206], [517], [518], [519], [520], [521], [515], [516]] = true := by decide +kernel
theorem pO_36 : px_okM pm_36 := px_chkM_ok px_allY_ok pD_36 pK_36
set_option maxRecDepth 100000 in
theorem pD_37 : px_chkD pm_37 = true := by decide +kernel
set_option maxRecDepth 100000 in
theorem pK_37 : px_chkK pm_37 [[551, 205, 206], [552], [553, 212, 213], [557], [558], [554], [559], [555], [556]] = true := by decide +kernel
theorem pO_37 : px_okM pm_37 := px_chkM_ok px_allY_ok pD_37 pK_37
set_option maxRecDepth 100000 in
theorem pD_38 : px_chkD pm_38 = true := by decide +kernel
set_option maxRecDepth 100000 in
theorem pK_38 : px_chkK pm_38 [[239, 205, 206], [240], [363], [368], [370], [244], [246, 247, 248], [378], [308, 309, 310], [359, 360, 361], [366], [240, 241], [242, 243]] = true := by decide +kernel
theorem pO_38 : px_okM pm_38 := px_chkM_ok px_allY_ok pD_38 pK_38
set_option maxRecDepth 100000 in
theorem pD_39 : px_chkD pm_39 = true := by decide +kernel
set_option maxRecDepth 100000 in
theorem pK_39 : px_chkK pm_39 [[363], [378], [359, 360, 361], [366], [372], [374], [376]] = true := by decide +kernel
theorem pO_39 : px_okM pm_39 := px_chkM_ok px_allY_ok pD_39 pK_39
