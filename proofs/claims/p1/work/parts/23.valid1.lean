/-! Written by wip/p1/gen2.py. -/
set_option maxRecDepth 100000 in
theorem pR_1_0 : px_chkR prog_1_method_1_code pr_1_0 = true := by decide +kernel
set_option maxRecDepth 100000 in
theorem pR_1_1 : px_chkR prog_1_method_1_code pr_1_1 = true := by decide +kernel
set_option maxRecDepth 100000 in
theorem pR_1_2 : px_chkR prog_1_method_1_code pr_1_2 = true := by decide +kernel
set_option maxRecDepth 100000 in
theorem pR_1_3 : px_chkR prog_1_method_1_code pr_1_3 = true := by decide +kernel
set_option maxRecDepth 100000 in
theorem pR_1_4 : px_chkR prog_1_method_1_code pr_1_4 = true := by decide +kernel
set_option maxRecDepth 100000 in
theorem pR_1_5 : px_chkR prog_1_method_1_code pr_1_5 = true := by decide +kernel
set_option maxRecDepth 100000 in
theorem pR_1_6 : px_chkR prog_1_method_1_code pr_1_6 = true := by decide +kernel
set_option maxRecDepth 100000 in
theorem pR_1_7 : px_chkR prog_1_method_1_code pr_1_7 = true := by decide +kernel
set_option maxRecDepth 100000 in
theorem pR_1_8 : px_chkR prog_1_method_1_code pr_1_8 = true := by decide +kernel
set_option maxRecDepth 100000 in
theorem pR_1_9 : px_chkR prog_1_method_1_code pr_1_9 = true := by decide +kernel
set_option maxRecDepth 100000 in
theorem pR_1_10 : px_chkR prog_1_method_1_code pr_1_10 = true := by decide +kernel
set_option maxRecDepth 100000 in
theorem pR_1_11 : px_chkR prog_1_method_1_code pr_1_11 = true := by decide +kernel
set_option maxRecDepth 100000 in
theorem pR_1_12 : px_chkR prog_1_method_1_code pr_1_12 = true := by decide +kernel
set_option maxRecDepth 100000 in
theorem pR_1_13 : px_chkR prog_1_method_1_code pr_1_13 = true := by decide +kernel
set_option maxRecDepth 100000 in
theorem pR_1_14 : px_chkR prog_1_method_1_code pr_1_14 = true := by decide +kernel
theorem pD_1 : px_chkD pm_1 = true := px_chkD_of (show ∀ row ∈ [pr_1_0, pr_1_1, pr_1_2, pr_1_3, pr_1_4, pr_1_5, pr_1_6, pr_1_7, pr_1_8, pr_1_9, pr_1_10, pr_1_11, pr_1_12, pr_1_13, pr_1_14], px_chkR prog_1_method_1_code row = true from List.forall_mem_cons.mpr ⟨pR_1_0, List.forall_mem_cons.mpr ⟨pR_1_1, List.forall_mem_cons.mpr ⟨pR_1_2, List.forall_mem_cons.mpr ⟨pR_1_3, List.forall_mem_cons.mpr ⟨pR_1_4, List.forall_mem_cons.mpr ⟨pR_1_5, List.forall_mem_cons.mpr ⟨pR_1_6, List.forall_mem_cons.mpr ⟨pR_1_7, List.forall_mem_cons.mpr ⟨pR_1_8, List.forall_mem_cons.mpr ⟨pR_1_9, List.forall_mem_cons.mpr ⟨pR_1_10, List.forall_mem_cons.mpr ⟨pR_1_11, List.forall_mem_cons.mpr ⟨pR_1_12, List.forall_mem_cons.mpr ⟨pR_1_13, List.forall_mem_cons.mpr ⟨pR_1_14, fun _ h => absurd h List.not_mem_nil⟩⟩⟩⟩⟩⟩⟩⟩⟩⟩⟩⟩⟩⟩⟩)
set_option maxRecDepth 100000 in
theorem pK_1 : px_chkK pm_1 [[204, 205, 206], [580], [207], [582], [208], [584], [211, 212, 213], [585], [586], [587], [234], [236, 237, 238], [588], [396], [398, 399, 400], [589], [421], [423, 424, 425], [590], [458], [460, 461, 462], [591], [480], [482, 483, 484], [592], [509], [511, 512, 513], [593], [546], [548, 549, 550], [594], [595], [208, 209]] = true := by decide +kernel
theorem pO_1 : px_okM pm_1 := px_chkM_ok px_allY_ok pD_1 pK_1
set_option maxRecDepth 100000 in
theorem pR_2_0 : px_chkR prog_1_method_21_code pr_2_0 = true := by decide +kernel
theorem pD_2 : px_chkD pm_2 = true := px_chkD_of (show ∀ row ∈ [pr_2_0], px_chkR prog_1_method_21_code row = true from List.forall_mem_cons.mpr ⟨pR_2_0, fun _ h => absurd h List.not_mem_nil⟩)
set_option maxRecDepth 100000 in
theorem pK_2 : px_chkK pm_2 [[723, 724], [1189], [1251, 1253, 50]] = true := by decide +kernel
theorem pO_2 : px_okM pm_2 := px_chkM_ok px_allY_ok pD_2 pK_2
set_option maxRecDepth 100000 in
theorem pR_3_0 : px_chkR prog_1_method_8_code pr_3_0 = true := by decide +kernel
set_option maxRecDepth 100000 in
theorem pR_3_1 : px_chkR prog_1_method_8_code pr_3_1 = true := by decide +kernel
set_option maxRecDepth 100000 in
theorem pR_3_2 : px_chkR prog_1_method_8_code pr_3_2 = true := by decide +kernel
theorem pD_3 : px_chkD pm_3 = true := px_chkD_of (show ∀ row ∈ [pr_3_0, pr_3_1, pr_3_2], px_chkR prog_1_method_8_code row = true from List.forall_mem_cons.mpr ⟨pR_3_0, List.forall_mem_cons.mpr ⟨pR_3_1, List.forall_mem_cons.mpr ⟨pR_3_2, fun _ h => absurd h List.not_mem_nil⟩⟩⟩)
set_option maxRecDepth 100000 in
theorem pK_3 : px_chkK pm_3 [[584], [723, 724], [226], [1178, 1179], [1189], [1202, 1203, 1204], [1213, 1214]] = true := by decide +kernel
theorem pO_3 : px_okM pm_3 := px_chkM_ok px_allY_ok pD_3 pK_3
set_option maxRecDepth 100000 in
theorem pR_4_0 : px_chkR prog_1_method_22_code pr_4_0 = true := by decide +kernel
set_option maxRecDepth 100000 in
theorem pR_4_1 : px_chkR prog_1_method_22_code pr_4_1 = true := by decide +kernel
set_option maxRecDepth 100000 in
theorem pR_4_2 : px_chkR prog_1_method_22_code pr_4_2 = true := by decide +kernel
set_option maxRecDepth 100000 in
theorem pR_4_3 : px_chkR prog_1_method_22_code pr_4_3 = true := by decide +kernel
theorem pD_4 : px_chkD pm_4 = true := px_chkD_of (show ∀ row ∈ [pr_4_0, pr_4_1, pr_4_2, pr_4_3], px_chkR prog_1_method_22_code row = true from List.forall_mem_cons.mpr ⟨pR_4_0, List.forall_mem_cons.mpr ⟨pR_4_1, List.forall_mem_cons.mpr ⟨pR_4_2, List.forall_mem_cons.mpr ⟨pR_4_3, fun _ h => absurd h List.not_mem_nil⟩⟩⟩⟩)
set_option maxRecDepth 100000 in
theorem pK_4 : px_chkK pm_4 [[584], [226], [1178, 1179], [583], [1636, 1637]] = true := by decide +kernel
theorem pO_4 : px_okM pm_4 := px_chkM_ok px_allY_ok pD_4 pK_4
set_option maxRecDepth 100000 in
theorem pR_5_0 : px_chkR prog_1_method_15_code pr_5_0 = true := by decide +kernel
set_option maxRecDepth 100000 in
theorem pR_5_1 : px_chkR prog_1_method_15_code pr_5_1 = true := by decide +kernel
theorem pD_5 : px_chkD pm_5 = true := px_chkD_of (show ∀ row ∈ [pr_5_0, pr_5_1], px_chkR prog_1_method_15_code row = true from List.forall_mem_cons.mpr ⟨pR_5_0, List.forall_mem_cons.mpr ⟨pR_5_1, fun _ h => absurd h List.not_mem_nil⟩⟩)
set_option maxRecDepth 100000 in
theorem pK_5 : px_chkK pm_5 [[723, 724], [1178, 1179], [1251, 1253, 50]] = true := by decide +kernel
theorem pO_5 : px_okM pm_5 := px_chkM_ok px_allY_ok pD_5 pK_5
set_option maxRecDepth 100000 in
theorem pR_6_0 : px_chkR prog_1_method_20_code pr_6_0 = true := by decide +kernel
theorem pD_6 : px_chkD pm_6 = true := px_chkD_of (show ∀ row ∈ [pr_6_0], px_chkR prog_1_method_20_code row = true from List.forall_mem_cons.mpr ⟨pR_6_0, fun _ h => absurd h List.not_mem_nil⟩)
set_option maxRecDepth 100000 in
theorem pK_6 : px_chkK pm_6 [[723, 724], [1178, 1179], [1251, 1253, 50]] = true := by decide +kernel
theorem pO_6 : px_okM pm_6 := px_chkM_ok px_allY_ok pD_6 pK_6
set_option maxRecDepth 100000 in
theorem pR_7_0 : px_chkR prog_1_method_24_code pr_7_0 = true := by decide +kernel
set_option maxRecDepth 100000 in
theorem pR_7_2 : px_chkR prog_1_method_24_code pr_7_2 = true := by decide +kernel
set_option maxRecDepth 100000 in
theorem pR_7_3 : px_chkR prog_1_method_24_code pr_7_3 = true := by decide +kernel
set_option maxRecDepth 100000 in
theorem pR_7_4 : px_chkR prog_1_method_24_code pr_7_4 = true := by decide +kernel
theorem pD_7 : px_chkD pm_7 = true := px_chkD_of (show ∀ row ∈ [pr_7_0, [], pr_7_2, pr_7_3, pr_7_4], px_chkR prog_1_method_24_code row = true from List.forall_mem_cons.mpr ⟨pR_7_0, List.forall_mem_cons.mpr ⟨rfl, List.forall_mem_cons.mpr ⟨pR_7_2, List.forall_mem_cons.mpr ⟨pR_7_3, List.forall_mem_cons.mpr ⟨pR_7_4, fun _ h => absurd h List.not_mem_nil⟩⟩⟩⟩⟩)
set_option maxRecDepth 100000 in
theorem pK_7 : px_chkK pm_7 [[588], [581], [723, 724], [377], [583], [375]] = true := by decide +kernel
theorem pO_7 : px_okM pm_7 := px_chkM_ok px_allY_ok pD_7 pK_7
set_option maxRecDepth 100000 in
theorem pR_8_0 : px_chkR prog_1_method_17_code pr_8_0 = true := by decide +kernel
theorem pD_8 : px_chkD pm_8 = true := px_chkD_of (show ∀ row ∈ [pr_8_0], px_chkR prog_1_method_17_code row = true from List.forall_mem_cons.mpr ⟨pR_8_0, fun _ h => absurd h List.not_mem_nil⟩)
set_option maxRecDepth 100000 in
theorem pK_8 : px_chkK pm_8 [[1251, 1253, 50], [1492, 1494, 79]] = true := by decide +kernel
theorem pO_8 : px_okM pm_8 := px_chkM_ok px_allY_ok pD_8 pK_8
set_option maxRecDepth 100000 in
theorem pR_9_0 : px_chkR prog_1_method_3_code pr_9_0 = true := by decide +kernel
theorem pD_9 : px_chkD pm_9 = true := px_chkD_of (show ∀ row ∈ [pr_9_0], px_chkR prog_1_method_3_code row = true from List.forall_mem_cons.mpr ⟨pR_9_0, fun _ h => absurd h List.not_mem_nil⟩)
set_option maxRecDepth 100000 in
theorem pK_9 : px_chkK pm_9 [[581], [723, 724]] = true := by decide +kernel
theorem pO_9 : px_okM pm_9 := px_chkM_ok px_allY_ok pD_9 pK_9
set_option maxRecDepth 100000 in
theorem pR_10_0 : px_chkR prog_1_method_2_code pr_10_0 = true := by decide +kernel
set_option maxRecDepth 100000 in
theorem pR_10_1 : px_chkR prog_1_method_2_code pr_10_1 = true := by decide +kernel
set_option maxRecDepth 100000 in
theorem pR_10_2 : px_chkR prog_1_method_2_code pr_10_2 = true := by decide +kernel
set_option maxRecDepth 100000 in
theorem pR_10_3 : px_chkR prog_1_method_2_code pr_10_3 = true := by decide +kernel
theorem pD_10 : px_chkD pm_10 = true := px_chkD_of (show ∀ row ∈ [pr_10_0, pr_10_1, pr_10_2, pr_10_3], px_chkR prog_1_method_2_code row = true from List.forall_mem_cons.mpr ⟨pR_10_0, List.forall_mem_cons.mpr ⟨pR_10_1, List.forall_mem_cons.mpr ⟨pR_10_2, List.forall_mem_cons.mpr ⟨pR_10_3, fun _ h => absurd h List.not_mem_nil⟩⟩⟩⟩)
set_option maxRecDepth 100000 in
theorem pK_10 : px_chkK pm_10 [[581], [711, 713, 1]] = true := by decide +kernel
theorem pO_10 : px_okM pm_10 := px_chkM_ok px_allY_ok pD_10 pK_10
set_option maxRecDepth 100000 in
theorem pR_11_0 : px_chkR prog_1_method_31_code pr_11_0 = true := by decide +kernel
set_option maxRecDepth 100000 in
theorem pR_11_1 : px_chkR prog_1_method_31_code pr_11_1 = true := by decide +kernel
set_option maxRecDepth 100000 in
theorem pR_11_2 : px_chkR prog_1_method_31_code pr_11_2 = true := by decide +kernel
theorem pD_11 : px_chkD pm_11 = true := px_chkD_of (show ∀ row ∈ [pr_11_0, pr_11_1, pr_11_2], px_chkR prog_1_method_31_code row = true from List.forall_mem_cons.mpr ⟨pR_11_0, List.forall_mem_cons.mpr ⟨pR_11_1, List.forall_mem_cons.mpr ⟨pR_11_2, fun _ h => absurd h List.not_mem_nil⟩⟩⟩)
set_option maxRecDepth 100000 in
theorem pK_11 : px_chkK pm_11 [[580], [581]] = true := by decide +kernel
theorem pO_11 : px_okM pm_11 := px_chkM_ok px_allY_ok pD_11 pK_11
set_option maxRecDepth 100000 in
theorem pR_12_0 : px_chkR prog_1_method_40_code pr_12_0 = true := by decide +kernel
set_option maxRecDepth 100000 in
theorem pR_12_1 : px_chkR prog_1_method_40_code pr_12_1 = true := by decide +kernel
theorem pD_12 : px_chkD pm_12 = true := px_chkD_of (show ∀ row ∈ [pr_12_0, pr_12_1], px_chkR prog_1_method_40_code row = true from List.forall_mem_cons.mpr ⟨pR_12_0, List.forall_mem_cons.mpr ⟨pR_12_1, fun _ h => absurd h List.not_mem_nil⟩⟩)
set_option maxRecDepth 100000 in
theorem pK_12 : px_chkK pm_12 [[226]] = true := by decide +kernel
theorem pO_12 : px_okM pm_12 := px_chkM_ok px_allY_ok pD_12 pK_12
set_option maxRecDepth 100000 in
theorem pR_13_0 : px_chkR prog_1_method_13_code pr_13_0 = true := by decide +kernel
theorem pD_13 : px_chkD pm_13 = true := px_chkD_of (show ∀ row ∈ [pr_13_0], px_chkR prog_1_method_13_code row = true from List.forall_mem_cons.mpr ⟨pR_13_0, fun _ h => absurd h List.not_mem_nil⟩)
set_option maxRecDepth 100000 in
theorem pK_13 : px_chkK pm_13 [[723, 724], [1178, 1179], [1251, 1253, 50]] = true := by decide +kernel
theorem pO_13 : px_okM pm_13 := px_chkM_ok px_allY_ok pD_13 pK_13
set_option maxRecDepth 100000 in
theorem pR_14_0 : px_chkR prog_1_method_14_code pr_14_0 = true := by decide +kernel
set_option maxRecDepth 100000 in
theorem pR_14_1 : px_chkR prog_1_method_14_code pr_14_1 = true := by decide +kernel
theorem pD_14 : px_chkD pm_14 = true := px_chkD_of (show ∀ row ∈ [pr_14_0, pr_14_1], px_chkR prog_1_method_14_code row = true from List.forall_mem_cons.mpr ⟨pR_14_0, List.forall_mem_cons.mpr ⟨pR_14_1, fun _ h => absurd h List.not_mem_nil⟩⟩)
set_option maxRecDepth 100000 in
theorem pK_14 : px_chkK pm_14 [[723, 724], [1178, 1179], [1251, 1253, 50]] = true := by decide +kernel
theorem pO_14 : px_okM pm_14 := px_chkM_ok px_allY_ok pD_14 pK_14
set_option maxRecDepth 100000 in
theorem pR_15_0 : px_chkR prog_1_method_19_code pr_15_0 = true := by decide +kernel
theorem pD_15 : px_chkD pm_15 = true := px_chkD_of (show ∀ row ∈ [pr_15_0], px_chkR prog_1_method_19_code row = true from List.forall_mem_cons.mpr ⟨pR_15_0, fun _ h => absurd h List.not_mem_nil⟩)
set_option maxRecDepth 100000 in
theorem pK_15 : px_chkK pm_15 [[723, 724], [1178, 1179], [1251, 1253, 50]] = true := by decide +kernel
theorem pO_15 : px_okM pm_15 := px_chkM_ok px_allY_ok pD_15 pK_15
set_option maxRecDepth 100000 in
theorem pR_16_0 : px_chkR prog_1_method_4_code pr_16_0 = true := by decide +kernel
set_option maxRecDepth 100000 in
theorem pR_16_1 : px_chkR prog_1_method_4_code pr_16_1 = true := by decide +kernel
set_option maxRecDepth 100000 in
theorem pR_16_2 : px_chkR prog_1_method_4_code pr_16_2 = true := by decide +kernel
theorem pD_16 : px_chkD pm_16 = true := px_chkD_of (show ∀ row ∈ [pr_16_0, pr_16_1, pr_16_2], px_chkR prog_1_method_4_code row = true from List.forall_mem_cons.mpr ⟨pR_16_0, List.forall_mem_cons.mpr ⟨pR_16_1, List.forall_mem_cons.mpr ⟨pR_16_2, fun _ h => absurd h List.not_mem_nil⟩⟩⟩)
set_option maxRecDepth 100000 in
theorem pK_16 : px_chkK pm_16 [[589], [581], [723, 724], [750, 752, 2], [769, 770, 771], [1051], [1060]] = true := by decide +kernel
theorem pO_16 : px_okM pm_16 := px_chkM_ok px_allY_ok pD_16 pK_16
set_option maxRecDepth 100000 in
theorem pR_17_0 : px_chkR prog_1_method_16_code pr_17_0 = true := by decide +kernel
theorem pD_17 : px_chkD pm_17 = true := px_chkD_of (show ∀ row ∈ [pr_17_0], px_chkR prog_1_method_16_code row = true from List.forall_mem_cons.mpr ⟨pR_17_0, fun _ h => absurd h List.not_mem_nil⟩)
set_option maxRecDepth 100000 in
theorem pK_17 : px_chkK pm_17 [[723, 724], [1178, 1179], [1251, 1253, 50]] = true := by decide +kernel
theorem pO_17 : px_okM pm_17 := px_chkM_ok px_allY_ok pD_17 pK_17
set_option maxRecDepth 100000 in
theorem pR_18_0 : px_chkR prog_1_method_18_code pr_18_0 = true := by decide +kernel
theorem pD_18 : px_chkD pm_18 = true := px_chkD_of (show ∀ row ∈ [pr_18_0], px_chkR prog_1_method_18_code row = true from List.forall_mem_cons.mpr ⟨pR_18_0, fun _ h => absurd h List.not_mem_nil⟩)
set_option maxRecDepth 100000 in
theorem pK_18 : px_chkK pm_18 [[1251, 1253, 50], [1492, 1494, 79]] = true := by decide +kernel
theorem pO_18 : px_okM pm_18 := px_chkM_ok px_allY_ok pD_18 pK_18
set_option maxRecDepth 100000 in
theorem pR_19_0 : px_chkR prog_1_method_12_code pr_19_0 = true := by decide +kernel
theorem pD_19 : px_chkD pm_19 = true := px_chkD_of (show ∀ row ∈ [pr_19_0], px_chkR prog_1_method_12_code row = true from List.forall_mem_cons.mpr ⟨pR_19_0, fun _ h => absurd h List.not_mem_nil⟩)
set_option maxRecDepth 100000 in
theorem pK_19 : px_chkK pm_19 [[723, 724], [1178, 1179], [1251, 1253, 50]] = true := by decide +kernel
theorem pO_19 : px_okM pm_19 := px_chkM_ok px_allY_ok pD_19 pK_19
set_option maxRecDepth 100000 in
theorem pR_20_0 : px_chkR prog_1_method_9_code pr_20_0 = true := by decide +kernel
set_option maxRecDepth 100000 in
theorem pR_20_1 : px_chkR prog_1_method_9_code pr_20_1 = true := by decide +kernel
set_option maxRecDepth 100000 in
theorem pR_20_2 : px_chkR prog_1_method_9_code pr_20_2 = true := by decide +kernel
set_option maxRecDepth 100000 in
theorem pR_20_3 : px_chkR prog_1_method_9_code pr_20_3 = true := by decide +kernel
theorem pD_20 : px_chkD pm_20 = true := px_chkD_of (show ∀ row ∈ [pr_20_0, pr_20_1, pr_20_2, pr_20_3], px_chkR prog_1_method_9_code row = true from List.forall_mem_cons.mpr ⟨pR_20_0, List.forall_mem_cons.mpr ⟨pR_20_1, List.forall_mem_cons.mpr ⟨pR_20_2, List.forall_mem_cons.mpr ⟨pR_20_3, fun _ h => absurd h List.not_mem_nil⟩⟩⟩⟩)
set_option maxRecDepth 100000 in
theorem pK_20 : px_chkK pm_20 [[584], [723, 724], [226], [1178, 1179], [1223, 1224, 1225]] = true := by decide +kernel
theorem pO_20 : px_okM pm_20 := px_chkM_ok px_allY_ok pD_20 pK_20
set_option maxRecDepth 100000 in
theorem pR_21_0 : px_chkR prog_1_method_10_code pr_21_0 = true := by decide +kernel
set_option maxRecDepth 100000 in
theorem pR_21_1 : px_chkR prog_1_method_10_code pr_21_1 = true := by decide +kernel
theorem pD_21 : px_chkD pm_21 = true := px_chkD_of (show ∀ row ∈ [pr_21_0, pr_21_1], px_chkR prog_1_method_10_code row = true from List.forall_mem_cons.mpr ⟨pR_21_0, List.forall_mem_cons.mpr ⟨pR_21_1, fun _ h => absurd h List.not_mem_nil⟩⟩)
set_option maxRecDepth 100000 in
theorem pK_21 : px_chkK pm_21 [[584], [226], [1178, 1179], [1213, 1214]] = true := by decide +kernel
theorem pO_21 : px_okM pm_21 := px_chkM_ok px_allY_ok pD_21 pK_21
set_option maxRecDepth 100000 in
theorem pR_22_0 : px_chkR prog_1_method_35_code pr_22_0 = true := by decide +kernel
set_option maxRecDepth 100000 in
theorem pR_22_2 : px_chkR prog_1_method_35_code pr_22_2 = true := by decide +kernel
theorem pD_22 : px_chkD pm_22 = true := px_chkD_of (show ∀ row ∈ [pr_22_0, [], pr_22_2], px_chkR prog_1_method_35_code row = true from List.forall_mem_cons.mpr ⟨pR_22_0, List.forall_mem_cons.mpr ⟨rfl, List.forall_mem_cons.mpr ⟨pR_22_2, fun _ h => absurd h List.not_mem_nil⟩⟩⟩)
set_option maxRecDepth 100000 in
theorem pK_22 : px_chkK pm_22 [] = true := by decide +kernel
theorem pO_22 : px_okM pm_22 := px_chkM_ok px_allY_ok pD_22 pK_22
set_option maxRecDepth 100000 in
theorem pR_23_0 : px_chkR prog_1_method_36_code pr_23_0 = true := by decide +kernel
set_option maxRecDepth 100000 in
theorem pR_23_3 : px_chkR prog_1_method_36_code pr_23_3 = true := by decide +kernel
theorem pD_23 : px_chkD pm_23 = true := px_chkD_of (show ∀ row ∈ [pr_23_0, [], [], pr_23_3], px_chkR prog_1_method_36_code row = true from List.forall_mem_cons.mpr ⟨pR_23_0, List.forall_mem_cons.mpr ⟨rfl, List.forall_mem_cons.mpr ⟨rfl, List.forall_mem_cons.mpr ⟨pR_23_3, fun _ h => absurd h List.not_mem_nil⟩⟩⟩⟩)
set_option maxRecDepth 100000 in
theorem pK_23 : px_chkK pm_23 [[226]] = true := by decide +kernel
theorem pO_23 : px_okM pm_23 := px_chkM_ok px_allY_ok pD_23 pK_23
set_option maxRecDepth 100000 in
theorem pR_24_0 : px_chkR prog_1_method_29_code pr_24_0 = true := by decide +kernel
set_option maxRecDepth 100000 in
theorem pR_24_1 : px_chkR prog_1_method_29_code pr_24_1 = true := by decide +kernel
theorem pD_24 : px_chkD pm_24 = true := px_chkD_of (show ∀ row ∈ [pr_24_0, pr_24_1], px_chkR prog_1_method_29_code row = true from List.forall_mem_cons.mpr ⟨pR_24_0, List.forall_mem_cons.mpr ⟨pR_24_1, fun _ h => absurd h List.not_mem_nil⟩⟩)
set_option maxRecDepth 100000 in
theorem pK_24 : px_chkK pm_24 [[588], [377]] = true := by decide +kernel
theorem pO_24 : px_okM pm_24 := px_chkM_ok px_allY_ok pD_24 pK_24
set_option maxRecDepth 100000 in
theorem pR_25_0 : px_chkR prog_1_method_27_code pr_25_0 = true := by decide +kernel
set_option maxRecDepth 100000 in
theorem pR_25_1 : px_chkR prog_1_method_27_code pr_25_1 = true := by decide +kernel
theorem pD_25 : px_chkD pm_25 = true := px_chkD_of (show ∀ row ∈ [pr_25_0, pr_25_1], px_chkR prog_1_method_27_code row = true from List.forall_mem_cons.mpr ⟨pR_25_0, List.forall_mem_cons.mpr ⟨pR_25_1, fun _ h => absurd h List.not_mem_nil⟩⟩)
set_option maxRecDepth 100000 in
theorem pK_25 : px_chkK pm_25 [[584], [723, 724], [226], [1178, 1179]] = true := by decide +kernel
theorem pO_25 : px_okM pm_25 := px_chkM_ok px_allY_ok pD_25 pK_25
set_option maxRecDepth 100000 in
theorem pR_26_0 : px_chkR prog_1_method_25_code pr_26_0 = true := by decide +kernel
set_option maxRecDepth 100000 in
theorem pR_26_1 : px_chkR prog_1_method_25_code pr_26_1 = true := by decide +kernel
theorem pD_26 : px_chkD pm_26 = true := px_chkD_of (show ∀ row ∈ [pr_26_0, pr_26_1], px_chkR prog_1_method_25_code row = true from List.forall_mem_cons.mpr ⟨pR_26_0, List.forall_mem_cons.mpr ⟨pR_26_1, fun _ h => absurd h List.not_mem_nil⟩⟩)
set_option maxRecDepth 100000 in
theorem pK_26 : px_chkK pm_26 [[726], [735]] = true := by decide +kernel
theorem pO_26 : px_okM pm_26 := px_chkM_ok px_allY_ok pD_26 pK_26
set_option maxRecDepth 100000 in
theorem pR_27_0 : px_chkR prog_1_method_30_code pr_27_0 = true := by decide +kernel
theorem pD_27 : px_chkD pm_27 = true := px_chkD_of (show ∀ row ∈ [pr_27_0], px_chkR prog_1_method_30_code row = true from List.forall_mem_cons.mpr ⟨pR_27_0, fun _ h => absurd h List.not_mem_nil⟩)
set_option maxRecDepth 100000 in
theorem pK_27 : px_chkK pm_27 [[645], [688]] = true := by decide +kernel
theorem pO_27 : px_okM pm_27 := px_chkM_ok px_allY_ok pD_27 pK_27
set_option maxRecDepth 100000 in
theorem pR_28_0 : px_chkR prog_1_method_28_code pr_28_0 = true := by decide +kernel
set_option maxRecDepth 100000 in
theorem pR_28_1 : px_chkR prog_1_method_28_code pr_28_1 = true := by decide +kernel
theorem pD_28 : px_chkD pm_28 = true := px_chkD_of (show ∀ row ∈ [pr_28_0, pr_28_1], px_chkR prog_1_method_28_code row = true from List.forall_mem_cons.mpr ⟨pR_28_0, List.forall_mem_cons.mpr ⟨pR_28_1, fun _ h => absurd h List.not_mem_nil⟩⟩)
set_option maxRecDepth 100000 in
theorem pK_28 : px_chkK pm_28 [[588], [377], [754], [763]] = true := by decide +kernel
theorem pO_28 : px_okM pm_28 := px_chkM_ok px_allY_ok pD_28 pK_28
set_option maxRecDepth 100000 in
theorem pR_29_0 : px_chkR prog_1_method_26_code pr_29_0 = true := by decide +kernel
theorem pD_29 : px_chkD pm_29 = true := px_chkD_of (show ∀ row ∈ [pr_29_0], px_chkR prog_1_method_26_code row = true from List.forall_mem_cons.mpr ⟨pR_29_0, fun _ h => absurd h List.not_mem_nil⟩)
set_option maxRecDepth 100000 in
theorem pK_29 : px_chkK pm_29 [[723, 724]] = true := by decide +kernel
theorem pO_29 : px_okM pm_29 := px_chkM_ok px_allY_ok pD_29 pK_29
set_option maxRecDepth 100000 in
theorem pR_30_0 : px_chkR prog_1_method_6_code pr_30_0 = true := by decide +kernel
set_option maxRecDepth 100000 in
theorem pR_30_1 : px_chkR prog_1_method_6_code pr_30_1 = true := by decide +kernel
set_option maxRecDepth 100000 in
theorem pR_30_2 : px_chkR prog_1_method_6_code pr_30_2 = true := by decide +kernel
set_option maxRecDepth 100000 in
theorem pR_30_3 : px_chkR prog_1_method_6_code pr_30_3 = true := by decide +kernel
theorem pD_30 : px_chkD pm_30 = true := px_chkD_of (show ∀ row ∈ [pr_30_0, pr_30_1, pr_30_2, pr_30_3], px_chkR prog_1_method_6_code row = true from List.forall_mem_cons.mpr ⟨pR_30_0, List.forall_mem_cons.mpr ⟨pR_30_1, List.forall_mem_cons.mpr ⟨pR_30_2, List.forall_mem_cons.mpr ⟨pR_30_3, fun _ h => absurd h List.not_mem_nil⟩⟩⟩⟩)
set_option maxRecDepth 100000 in
theorem pK_30 : px_chkK pm_30 [[584], [588], [377], [633, 634, 635], [226]] = true := by decide +kernel
theorem pO_30 : px_okM pm_30 := px_chkM_ok px_allY_ok pD_30 pK_30
set_option maxRecDepth 100000 in
theorem pR_31_0 : px_chkR prog_1_method_5_code pr_31_0 = true := by decide +kernel
set_option maxRecDepth 100000 in
theorem pR_31_1 : px_chkR prog_1_method_5_code pr_31_1 = true := by decide +kernel
set_option maxRecDepth 100000 in
theorem pR_31_2 : px_chkR prog_1_method_5_code pr_31_2 = true := by decide +kernel
theorem pD_31 : px_chkD pm_31 = true := px_chkD_of (show ∀ row ∈ [pr_31_0, pr_31_1, pr_31_2], px_chkR prog_1_method_5_code row = true from List.forall_mem_cons.mpr ⟨pR_31_0, List.forall_mem_cons.mpr ⟨pR_31_1, List.forall_mem_cons.mpr ⟨pR_31_2, fun _ h => absurd h List.not_mem_nil⟩⟩⟩)
set_option maxRecDepth 100000 in
theorem pK_31 : px_chkK pm_31 [[588], [590], [750, 752, 2], [1074, 1075, 1076], [377], [438]] = true := by decide +kernel
theorem pO_31 : px_okM pm_31 := px_chkM_ok px_allY_ok pD_31 pK_31
set_option maxRecDepth 100000 in
theorem pR_32_0 : px_chkR prog_1_method_11_code pr_32_0 = true := by decide +kernel
theorem pD_32 : px_chkD pm_32 = true := px_chkD_of (show ∀ row ∈ [pr_32_0], px_chkR prog_1_method_11_code row = true from List.forall_mem_cons.mpr ⟨pR_32_0, fun _ h => absurd h List.not_mem_nil⟩)
set_option maxRecDepth 100000 in
theorem pK_32 : px_chkK pm_32 [[584], [226], [1178, 1179]] = true := by decide +kernel
theorem pO_32 : px_okM pm_32 := px_chkM_ok px_allY_ok pD_32 pK_32
set_option maxRecDepth 100000 in
theorem pR_33_0 : px_chkR prog_1_method_7_code pr_33_0 = true := by decide +kernel
set_option maxRecDepth 100000 in
theorem pR_33_1 : px_chkR prog_1_method_7_code pr_33_1 = true := by decide +kernel
set_option maxRecDepth 100000 in
theorem pR_33_2 : px_chkR prog_1_method_7_code pr_33_2 = true := by decide +kernel
set_option maxRecDepth 100000 in
theorem pR_33_3 : px_chkR prog_1_method_7_code pr_33_3 = true := by decide +kernel
theorem pD_33 : px_chkD pm_33 = true := px_chkD_of (show ∀ row ∈ [pr_33_0, pr_33_1, pr_33_2, pr_33_3], px_chkR prog_1_method_7_code row = true from List.forall_mem_cons.mpr ⟨pR_33_0, List.forall_mem_cons.mpr ⟨pR_33_1, List.forall_mem_cons.mpr ⟨pR_33_2, List.forall_mem_cons.mpr ⟨pR_33_3, fun _ h => absurd h List.not_mem_nil⟩⟩⟩⟩)
set_option maxRecDepth 100000 in
theorem pK_33 : px_chkK pm_33 [[584], [581], [1178, 1179], [1181, 1183, 47], [1198, 1200, 49]] = true := by decide +kernel
theorem pO_33 : px_okM pm_33 := px_chkM_ok px_allY_ok pD_33 pK_33
set_option maxRecDepth 100000 in
theorem pR_34_0 : px_chkR prog_1_method_23_code pr_34_0 = true := by decide +kernel
set_option maxRecDepth 100000 in
theorem pR_34_1 : px_chkR prog_1_method_23_code pr_34_1 = true := by decide +kernel
theorem pD_34 : px_chkD pm_34 = true := px_chkD_of (show ∀ row ∈ [pr_34_0, pr_34_1], px_chkR prog_1_method_23_code row = true from List.forall_mem_cons.mpr ⟨pR_34_0, List.forall_mem_cons.mpr ⟨pR_34_1, fun _ h => absurd h List.not_mem_nil⟩⟩)
set_option maxRecDepth 100000 in
theorem pK_34 : px_chkK pm_34 [[1213, 1214], [583]] = true := by decide +kernel
theorem pO_34 : px_okM pm_34 := px_chkM_ok px_allY_ok pD_34 pK_34
set_option maxRecDepth 100000 in
theorem pR_35_0 : px_chkR prog_2_method_1_code pr_35_0 = true := by decide +kernel
set_option maxRecDepth 100000 in
theorem pR_35_1 : px_chkR prog_2_method_1_code pr_35_1 = true := by decide +kernel
set_option maxRecDepth 100000 in
theorem pR_35_2 : px_chkR prog_2_method_1_code pr_35_2 = true := by decide +kernel
theorem pD_35 : px_chkD pm_35 = true := px_chkD_of (show ∀ row ∈ [pr_35_0, pr_35_1, pr_35_2], px_chkR prog_2_method_1_code row = true from List.forall_mem_cons.mpr ⟨pR_35_0, List.forall_mem_cons.mpr ⟨pR_35_1, List.forall_mem_cons.mpr ⟨pR_35_2, fun _ h => absurd h List.not_mem_nil⟩⟩⟩)
set_option maxRecDepth 100000 in
theorem pK_35 : px_chkK pm_35 [[485, 205, 206], [487], [488], [489], [490], [486]] = true := by decide +kernel
theorem pO_35 : px_okM pm_35 := px_chkM_ok px_allY_ok pD_35 pK_35
set_option maxRecDepth 100000 in
theorem pR_36_0 : px_chkR prog_3_method_1_code pr_36_0 = true := by decide +kernel
set_option maxRecDepth 100000 in
theorem pR_36_1 : px_chkR prog_3_method_1_code pr_36_1 = true := by decide +kernel
set_option maxRecDepth 100000 in
theorem pR_36_2 : px_chkR prog_3_method_1_code pr_36_2 = true := by decide +kernel
set_option maxRecDepth 100000 in
theorem pR_36_3 : px_chkR prog_3_method_1_code pr_36_3 = true := by decide +kernel
theorem pD_36 : px_chkD pm_36 = true := px_chkD_of (show ∀ row ∈ [pr_36_0, pr_36_1, pr_36_2, pr_36_3], px_chkR prog_3_method_1_code row = true from List.forall_mem_cons.mpr ⟨pR_36_0, List.forall_mem_cons.mpr ⟨pR_36_1, List.forall_mem_cons.mpr ⟨pR_36_2, List.forall_mem_cons.mpr ⟨pR_36_3, fun _ h => absurd h List.not_mem_nil⟩⟩⟩⟩)
set_option maxRecDepth 100000 in
theorem pK_36 : px_chkK pm_36 [[514, 205, 206], [517], [518], [519], [520], [521], [515], [516]] = true := by decide +kernel
theorem pO_36 : px_okM pm_36 := px_chkM_ok px_allY_ok pD_36 pK_36
set_option maxRecDepth 100000 in
theorem pR_37_0 : px_chkR prog_4_method_1_code pr_37_0 = true := by decide +kernel
set_option maxRecDepth 100000 in
theorem pR_37_1 : px_chkR prog_4_method_1_code pr_37_1 = true := by decide +kernel
set_option maxRecDepth 100000 in
theorem pR_37_2 : px_chkR prog_4_method_1_code pr_37_2 = true := by decide +kernel
theorem pD_37 : px_chkD pm_37 = true := px_chkD_of (show ∀ row ∈ [pr_37_0, pr_37_1, pr_37_2], px_chkR prog_4_method_1_code row = true from List.forall_mem_cons.mpr ⟨pR_37_0, List.forall_mem_cons.mpr ⟨pR_37_1, List.forall_mem_cons.mpr ⟨pR_37_2, fun _ h => absurd h List.not_mem_nil⟩⟩⟩)
set_option maxRecDepth 100000 in
theorem pK_37 : px_chkK pm_37 [[551, 205, 206], [552], [553, 212, 213], [557], [558], [554], [559], [555], [556]] = true := by decide +kernel
theorem pO_37 : px_okM pm_37 := px_chkM_ok px_allY_ok pD_37 pK_37
set_option maxRecDepth 100000 in
theorem pR_38_0 : px_chkR prog_5_method_1_code pr_38_0 = true := by decide +kernel
set_option maxRecDepth 100000 in
theorem pR_38_1 : px_chkR prog_5_method_1_code pr_38_1 = true := by decide +kernel
set_option maxRecDepth 100000 in
theorem pR_38_2 : px_chkR prog_5_method_1_code pr_38_2 = true := by decide +kernel
set_option maxRecDepth 100000 in
theorem pR_38_3 : px_chkR prog_5_method_1_code pr_38_3 = true := by decide +kernel
set_option maxRecDepth 100000 in
theorem pR_38_4 : px_chkR prog_5_method_1_code pr_38_4 = true := by decide +kernel
set_option maxRecDepth 100000 in
theorem pR_38_5 : px_chkR prog_5_method_1_code pr_38_5 = true := by decide +kernel
theorem pD_38 : px_chkD pm_38 = true := px_chkD_of (show ∀ row ∈ [pr_38_0, pr_38_1, pr_38_2, pr_38_3, pr_38_4, pr_38_5], px_chkR prog_5_method_1_code row = true from List.forall_mem_cons.mpr ⟨pR_38_0, List.forall_mem_cons.mpr ⟨pR_38_1, List.forall_mem_cons.mpr ⟨pR_38_2, List.forall_mem_cons.mpr ⟨pR_38_3, List.forall_mem_cons.mpr ⟨pR_38_4, List.forall_mem_cons.mpr ⟨pR_38_5, fun _ h => absurd h List.not_mem_nil⟩⟩⟩⟩⟩⟩)
set_option maxRecDepth 100000 in
theorem pK_38 : px_chkK pm_38 [[239, 205, 206], [240], [363], [368], [370], [244], [246, 247, 248], [378], [308, 309, 310], [359, 360, 361], [366], [240, 241], [242, 243]] = true := by decide +kernel
theorem pO_38 : px_okM pm_38 := px_chkM_ok px_allY_ok pD_38 pK_38
set_option maxRecDepth 100000 in
theorem pR_39_0 : px_chkR prog_5_method_2_code pr_39_0 = true := by decide +kernel
set_option maxRecDepth 100000 in
theorem pR_39_1 : px_chkR prog_5_method_2_code pr_39_1 = true := by decide +kernel
set_option maxRecDepth 100000 in
theorem pR_39_2 : px_chkR prog_5_method_2_code pr_39_2 = true := by decide +kernel
theorem pD_39 : px_chkD pm_39 = true := px_chkD_of (show ∀ row ∈ [pr_39_0, pr_39_1, pr_39_2], px_chkR prog_5_method_2_code row = true from List.forall_mem_cons.mpr ⟨pR_39_0, List.forall_mem_cons.mpr ⟨pR_39_1, List.forall_mem_cons.mpr ⟨pR_39_2, fun _ h => absurd h List.not_mem_nil⟩⟩⟩)
set_option maxRecDepth 100000 in
theorem pK_39 : px_chkK pm_39 [[363], [378], [359, 360, 361], [366], [372], [374], [376]] = true := by decide +kernel
theorem pO_39 : px_okM pm_39 := px_chkM_ok px_allY_ok pD_39 pK_39
