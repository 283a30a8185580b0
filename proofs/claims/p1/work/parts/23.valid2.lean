/-! Written by wip/p1/gen2.py. -/
set_option maxRecDepth 100000 in
theorem pR_40_0 : px_chkR prog_6_method_1_code pr_40_0 = true := by decide +kernel
set_option maxRecDepth 100000 in
theorem pR_40_1 : px_chkR prog_6_method_1_code pr_40_1 = true := by decide +kernel
set_option maxRecDepth 100000 in
theorem pR_40_2 : px_chkR prog_6_method_1_code pr_40_2 = true := by decide +kernel
set_option maxRecDepth 100000 in
theorem pR_40_3 : px_chkR prog_6_method_1_code pr_40_3 = true := by decide +kernel
theorem pD_40 : px_chkD pm_40 = true := px_chkD_of (show ∀ row ∈ [pr_40_0, pr_40_1, pr_40_2, pr_40_3], px_chkR prog_6_method_1_code row = true from List.forall_mem_cons.mpr ⟨pR_40_0, List.forall_mem_cons.mpr ⟨pR_40_1, List.forall_mem_cons.mpr ⟨pR_40_2, List.forall_mem_cons.mpr ⟨pR_40_3, fun _ h => absurd h List.not_mem_nil⟩⟩⟩⟩)
set_option maxRecDepth 100000 in
theorem pK_40 : px_chkK pm_40 [[426, 205, 206], [430], [432], [433], [435], [436], [429], [427, 428]] = true := by decide +kernel
theorem pO_40 : px_okM pm_40 := px_chkM_ok px_allY_ok pD_40 pK_40
set_option maxRecDepth 100000 in
theorem pR_41_0 : px_chkR prog_6_method_3_code pr_41_0 = true := by decide +kernel
set_option maxRecDepth 100000 in
theorem pR_41_1 : px_chkR prog_6_method_3_code pr_41_1 = true := by decide +kernel
set_option maxRecDepth 100000 in
theorem pR_41_2 : px_chkR prog_6_method_3_code pr_41_2 = true := by decide +kernel
set_option maxRecDepth 100000 in
theorem pR_41_3 : px_chkR prog_6_method_3_code pr_41_3 = true := by decide +kernel
set_option maxRecDepth 100000 in
theorem pR_41_4 : px_chkR prog_6_method_3_code pr_41_4 = true := by decide +kernel
set_option maxRecDepth 100000 in
theorem pR_41_5 : px_chkR prog_6_method_3_code pr_41_5 = true := by decide +kernel
theorem pD_41 : px_chkD pm_41 = true := px_chkD_of (show ∀ row ∈ [pr_41_0, pr_41_1, pr_41_2, pr_41_3, pr_41_4, pr_41_5], px_chkR prog_6_method_3_code row = true from List.forall_mem_cons.mpr ⟨pR_41_0, List.forall_mem_cons.mpr ⟨pR_41_1, List.forall_mem_cons.mpr ⟨pR_41_2, List.forall_mem_cons.mpr ⟨pR_41_3, List.forall_mem_cons.mpr ⟨pR_41_4, List.forall_mem_cons.mpr ⟨pR_41_5, fun _ h => absurd h List.not_mem_nil⟩⟩⟩⟩⟩⟩)
set_option maxRecDepth 100000 in
theorem pK_41 : px_chkK pm_41 [[429], [367], [364], [315], [261], [274]] = true := by decide +kernel
theorem pO_41 : px_okM pm_41 := px_chkM_ok px_allY_ok pD_41 pK_41
set_option maxRecDepth 100000 in
theorem pR_42_0 : px_chkR prog_6_method_17_code pr_42_0 = true := by decide +kernel
set_option maxRecDepth 100000 in
theorem pR_42_1 : px_chkR prog_6_method_17_code pr_42_1 = true := by decide +kernel
set_option maxRecDepth 100000 in
theorem pR_42_5 : px_chkR prog_6_method_17_code pr_42_5 = true := by decide +kernel
theorem pD_42 : px_chkD pm_42 = true := px_chkD_of (show ∀ row ∈ [pr_42_0, pr_42_1, [], [], [], pr_42_5], px_chkR prog_6_method_17_code row = true from List.forall_mem_cons.mpr ⟨pR_42_0, List.forall_mem_cons.mpr ⟨pR_42_1, List.forall_mem_cons.mpr ⟨rfl, List.forall_mem_cons.mpr ⟨rfl, List.forall_mem_cons.mpr ⟨rfl, List.forall_mem_cons.mpr ⟨pR_42_5, fun _ h => absurd h List.not_mem_nil⟩⟩⟩⟩⟩⟩)
set_option maxRecDepth 100000 in
theorem pK_42 : px_chkK pm_42 [[429], [367], [364], [315], [261]] = true := by decide +kernel
theorem pO_42 : px_okM pm_42 := px_chkM_ok px_allY_ok pD_42 pK_42
set_option maxRecDepth 100000 in
theorem pR_43_0 : px_chkR prog_6_method_2_code pr_43_0 = true := by decide +kernel
set_option maxRecDepth 100000 in
theorem pR_43_1 : px_chkR prog_6_method_2_code pr_43_1 = true := by decide +kernel
set_option maxRecDepth 100000 in
theorem pR_43_2 : px_chkR prog_6_method_2_code pr_43_2 = true := by decide +kernel
set_option maxRecDepth 100000 in
theorem pR_43_3 : px_chkR prog_6_method_2_code pr_43_3 = true := by decide +kernel
set_option maxRecDepth 100000 in
theorem pR_43_4 : px_chkR prog_6_method_2_code pr_43_4 = true := by decide +kernel
theorem pD_43 : px_chkD pm_43 = true := px_chkD_of (show ∀ row ∈ [pr_43_0, pr_43_1, pr_43_2, pr_43_3, pr_43_4], px_chkR prog_6_method_2_code row = true from List.forall_mem_cons.mpr ⟨pR_43_0, List.forall_mem_cons.mpr ⟨pR_43_1, List.forall_mem_cons.mpr ⟨pR_43_2, List.forall_mem_cons.mpr ⟨pR_43_3, List.forall_mem_cons.mpr ⟨pR_43_4, fun _ h => absurd h List.not_mem_nil⟩⟩⟩⟩⟩)
set_option maxRecDepth 100000 in
theorem pK_43 : px_chkK pm_43 [[429], [431], [437], [1078, 1080, 36], [367], [364], [315], [261], [1126, 1128, 44]] = true := by decide +kernel
theorem pO_43 : px_okM pm_43 := px_chkM_ok px_allY_ok pD_43 pK_43
set_option maxRecDepth 100000 in
theorem pR_44_0 : px_chkR prog_8_method_1_code pr_44_0 = true := by decide +kernel
set_option maxRecDepth 100000 in
theorem pR_44_1 : px_chkR prog_8_method_1_code pr_44_1 = true := by decide +kernel
theorem pD_44 : px_chkD pm_44 = true := px_chkD_of (show ∀ row ∈ [pr_44_0, pr_44_1], px_chkR prog_8_method_1_code row = true from List.forall_mem_cons.mpr ⟨pR_44_0, List.forall_mem_cons.mpr ⟨pR_44_1, fun _ h => absurd h List.not_mem_nil⟩⟩)
set_option maxRecDepth 100000 in
theorem pK_44 : px_chkK pm_44 [[249, 205, 206], [252], [265], [268], [271]] = true := by decide +kernel
theorem pO_44 : px_okM pm_44 := px_chkM_ok px_allY_ok pD_44 pK_44
set_option maxRecDepth 100000 in
theorem pR_45_0 : px_chkR prog_9_method_1_code pr_45_0 = true := by decide +kernel
set_option maxRecDepth 100000 in
theorem pR_45_1 : px_chkR prog_9_method_1_code pr_45_1 = true := by decide +kernel
set_option maxRecDepth 100000 in
theorem pR_45_2 : px_chkR prog_9_method_1_code pr_45_2 = true := by decide +kernel
theorem pD_45 : px_chkD pm_45 = true := px_chkD_of (show ∀ row ∈ [pr_45_0, pr_45_1, pr_45_2], px_chkR prog_9_method_1_code row = true from List.forall_mem_cons.mpr ⟨pR_45_0, List.forall_mem_cons.mpr ⟨pR_45_1, List.forall_mem_cons.mpr ⟨pR_45_2, fun _ h => absurd h List.not_mem_nil⟩⟩⟩)
set_option maxRecDepth 100000 in
theorem pK_45 : px_chkK pm_45 [[463, 205, 206], [466], [467], [468], [464], [465]] = true := by decide +kernel
theorem pO_45 : px_okM pm_45 := px_chkM_ok px_allY_ok pD_45 pK_45
set_option maxRecDepth 100000 in
theorem pR_46_0 : px_chkR prog_10_method_1_code pr_46_0 = true := by decide +kernel
set_option maxRecDepth 100000 in
theorem pR_46_1 : px_chkR prog_10_method_1_code pr_46_1 = true := by decide +kernel
theorem pD_46 : px_chkD pm_46 = true := px_chkD_of (show ∀ row ∈ [pr_46_0, pr_46_1], px_chkR prog_10_method_1_code row = true from List.forall_mem_cons.mpr ⟨pR_46_0, List.forall_mem_cons.mpr ⟨pR_46_1, fun _ h => absurd h List.not_mem_nil⟩⟩)
set_option maxRecDepth 100000 in
theorem pK_46 : px_chkK pm_46 [[401, 205, 206], [404], [405], [402], [403]] = true := by decide +kernel
theorem pO_46 : px_okM pm_46 := px_chkM_ok px_allY_ok pD_46 pK_46
set_option maxRecDepth 100000 in
theorem pR_47_0 : px_chkR prog_10_method_6_code pr_47_0 = true := by decide +kernel
set_option maxRecDepth 100000 in
theorem pR_47_1 : px_chkR prog_10_method_6_code pr_47_1 = true := by decide +kernel
theorem pD_47 : px_chkD pm_47 = true := px_chkD_of (show ∀ row ∈ [pr_47_0, pr_47_1], px_chkR prog_10_method_6_code row = true from List.forall_mem_cons.mpr ⟨pR_47_0, List.forall_mem_cons.mpr ⟨pR_47_1, fun _ h => absurd h List.not_mem_nil⟩⟩)
set_option maxRecDepth 100000 in
theorem pK_47 : px_chkK pm_47 [] = true := by decide +kernel
theorem pO_47 : px_okM pm_47 := px_chkM_ok px_allY_ok pD_47 pK_47
set_option maxRecDepth 100000 in
theorem pR_48_0 : px_chkR prog_10_method_3_code pr_48_0 = true := by decide +kernel
set_option maxRecDepth 100000 in
theorem pR_48_1 : px_chkR prog_10_method_3_code pr_48_1 = true := by decide +kernel
set_option maxRecDepth 100000 in
theorem pR_48_2 : px_chkR prog_10_method_3_code pr_48_2 = true := by decide +kernel
theorem pD_48 : px_chkD pm_48 = true := px_chkD_of (show ∀ row ∈ [pr_48_0, pr_48_1, pr_48_2], px_chkR prog_10_method_3_code row = true from List.forall_mem_cons.mpr ⟨pR_48_0, List.forall_mem_cons.mpr ⟨pR_48_1, List.forall_mem_cons.mpr ⟨pR_48_2, fun _ h => absurd h List.not_mem_nil⟩⟩⟩)
set_option maxRecDepth 100000 in
theorem pK_48 : px_chkK pm_48 [] = true := by decide +kernel
theorem pO_48 : px_okM pm_48 := px_chkM_ok px_allY_ok pD_48 pK_48
set_option maxRecDepth 100000 in
theorem pR_49_0 : px_chkR prog_10_method_5_code pr_49_0 = true := by decide +kernel
set_option maxRecDepth 100000 in
theorem pR_49_3 : px_chkR prog_10_method_5_code pr_49_3 = true := by decide +kernel
theorem pD_49 : px_chkD pm_49 = true := px_chkD_of (show ∀ row ∈ [pr_49_0, [], [], pr_49_3], px_chkR prog_10_method_5_code row = true from List.forall_mem_cons.mpr ⟨pR_49_0, List.forall_mem_cons.mpr ⟨rfl, List.forall_mem_cons.mpr ⟨rfl, List.forall_mem_cons.mpr ⟨pR_49_3, fun _ h => absurd h List.not_mem_nil⟩⟩⟩⟩)
set_option maxRecDepth 100000 in
theorem pK_49 : px_chkK pm_49 [] = true := by decide +kernel
theorem pO_49 : px_okM pm_49 := px_chkM_ok px_allY_ok pD_49 pK_49
set_option maxRecDepth 100000 in
theorem pR_50_0 : px_chkR prog_10_method_9_code pr_50_0 = true := by decide +kernel
set_option maxRecDepth 100000 in
theorem pR_50_1 : px_chkR prog_10_method_9_code pr_50_1 = true := by decide +kernel
theorem pD_50 : px_chkD pm_50 = true := px_chkD_of (show ∀ row ∈ [pr_50_0, pr_50_1], px_chkR prog_10_method_9_code row = true from List.forall_mem_cons.mpr ⟨pR_50_0, List.forall_mem_cons.mpr ⟨pR_50_1, fun _ h => absurd h List.not_mem_nil⟩⟩)
set_option maxRecDepth 100000 in
theorem pK_50 : px_chkK pm_50 [] = true := by decide +kernel
theorem pO_50 : px_okM pm_50 := px_chkM_ok px_allY_ok pD_50 pK_50
set_option maxRecDepth 100000 in
theorem pR_51_0 : px_chkR prog_10_method_4_code pr_51_0 = true := by decide +kernel
set_option maxRecDepth 100000 in
theorem pR_51_1 : px_chkR prog_10_method_4_code pr_51_1 = true := by decide +kernel
set_option maxRecDepth 100000 in
theorem pR_51_2 : px_chkR prog_10_method_4_code pr_51_2 = true := by decide +kernel
set_option maxRecDepth 100000 in
theorem pR_51_3 : px_chkR prog_10_method_4_code pr_51_3 = true := by decide +kernel
set_option maxRecDepth 100000 in
theorem pR_51_4 : px_chkR prog_10_method_4_code pr_51_4 = true := by decide +kernel
set_option maxRecDepth 100000 in
theorem pR_51_5 : px_chkR prog_10_method_4_code pr_51_5 = true := by decide +kernel
theorem pD_51 : px_chkD pm_51 = true := px_chkD_of (show ∀ row ∈ [pr_51_0, pr_51_1, pr_51_2, pr_51_3, pr_51_4, pr_51_5], px_chkR prog_10_method_4_code row = true from List.forall_mem_cons.mpr ⟨pR_51_0, List.forall_mem_cons.mpr ⟨pR_51_1, List.forall_mem_cons.mpr ⟨pR_51_2, List.forall_mem_cons.mpr ⟨pR_51_3, List.forall_mem_cons.mpr ⟨pR_51_4, List.forall_mem_cons.mpr ⟨pR_51_5, fun _ h => absurd h List.not_mem_nil⟩⟩⟩⟩⟩⟩)
set_option maxRecDepth 100000 in
theorem pK_51 : px_chkK pm_51 [[780, 782, 4], [784, 786, 5], [788, 790, 6]] = true := by decide +kernel
theorem pO_51 : px_okM pm_51 := px_chkM_ok px_allY_ok pD_51 pK_51
set_option maxRecDepth 100000 in
theorem pR_52_0 : px_chkR prog_10_method_2_code pr_52_0 = true := by decide +kernel
set_option maxRecDepth 100000 in
theorem pR_52_1 : px_chkR prog_10_method_2_code pr_52_1 = true := by decide +kernel
theorem pD_52 : px_chkD pm_52 = true := px_chkD_of (show ∀ row ∈ [pr_52_0, pr_52_1], px_chkR prog_10_method_2_code row = true from List.forall_mem_cons.mpr ⟨pR_52_0, List.forall_mem_cons.mpr ⟨pR_52_1, fun _ h => absurd h List.not_mem_nil⟩⟩)
set_option maxRecDepth 100000 in
theorem pK_52 : px_chkK pm_52 [[403], [373], [773, 774], [776, 778, 3]] = true := by decide +kernel
theorem pO_52 : px_okM pm_52 := px_chkM_ok px_allY_ok pD_52 pK_52
set_option maxRecDepth 100000 in
theorem pR_53_0 : px_chkR prog_10_method_7_code pr_53_0 = true := by decide +kernel
set_option maxRecDepth 100000 in
theorem pR_53_2 : px_chkR prog_10_method_7_code pr_53_2 = true := by decide +kernel
set_option maxRecDepth 100000 in
theorem pR_53_3 : px_chkR prog_10_method_7_code pr_53_3 = true := by decide +kernel
theorem pD_53 : px_chkD pm_53 = true := px_chkD_of (show ∀ row ∈ [pr_53_0, [], pr_53_2, pr_53_3], px_chkR prog_10_method_7_code row = true from List.forall_mem_cons.mpr ⟨pR_53_0, List.forall_mem_cons.mpr ⟨rfl, List.forall_mem_cons.mpr ⟨pR_53_2, List.forall_mem_cons.mpr ⟨pR_53_3, fun _ h => absurd h List.not_mem_nil⟩⟩⟩⟩)
set_option maxRecDepth 100000 in
theorem pK_53 : px_chkK pm_53 [[404], [405], [792, 794, 7]] = true := by decide +kernel
theorem pO_53 : px_okM pm_53 := px_chkM_ok px_allY_ok pD_53 pK_53
set_option maxRecDepth 100000 in
theorem pR_54_0 : px_chkR prog_11_method_1_code pr_54_0 = true := by decide +kernel
theorem pD_54 : px_chkD pm_54 = true := px_chkD_of (show ∀ row ∈ [pr_54_0], px_chkR prog_11_method_1_code row = true from List.forall_mem_cons.mpr ⟨pR_54_0, fun _ h => absurd h List.not_mem_nil⟩)
set_option maxRecDepth 100000 in
theorem pK_54 : px_chkK pm_54 [[311, 205, 206]] = true := by decide +kernel
theorem pO_54 : px_okM pm_54 := px_chkM_ok px_allY_ok pD_54 pK_54
set_option maxRecDepth 100000 in
theorem pR_55_0 : px_chkR prog_11_method_3_code pr_55_0 = true := by decide +kernel
set_option maxRecDepth 100000 in
theorem pR_55_1 : px_chkR prog_11_method_3_code pr_55_1 = true := by decide +kernel
set_option maxRecDepth 100000 in
theorem pR_55_2 : px_chkR prog_11_method_3_code pr_55_2 = true := by decide +kernel
theorem pD_55 : px_chkD pm_55 = true := px_chkD_of (show ∀ row ∈ [pr_55_0, pr_55_1, pr_55_2], px_chkR prog_11_method_3_code row = true from List.forall_mem_cons.mpr ⟨pR_55_0, List.forall_mem_cons.mpr ⟨pR_55_1, List.forall_mem_cons.mpr ⟨pR_55_2, fun _ h => absurd h List.not_mem_nil⟩⟩⟩)
set_option maxRecDepth 100000 in
theorem pK_55 : px_chkK pm_55 [[314], [319], [322], [325], [328], [331], [334], [337], [312]] = true := by decide +kernel
theorem pO_55 : px_okM pm_55 := px_chkM_ok px_allY_ok pD_55 pK_55
set_option maxRecDepth 100000 in
theorem pR_56_0 : px_chkR prog_13_method_1_code pr_56_0 = true := by decide +kernel
theorem pD_56 : px_chkD pm_56 = true := px_chkD_of (show ∀ row ∈ [pr_56_0], px_chkR prog_13_method_1_code row = true from List.forall_mem_cons.mpr ⟨pR_56_0, fun _ h => absurd h List.not_mem_nil⟩)
set_option maxRecDepth 100000 in
theorem pK_56 : px_chkK pm_56 [[214, 205, 206], [215]] = true := by decide +kernel
theorem pO_56 : px_okM pm_56 := px_chkM_ok px_allY_ok pD_56 pK_56
set_option maxRecDepth 100000 in
theorem pR_57_0 : px_chkR prog_13_method_2_code pr_57_0 = true := by decide +kernel
set_option maxRecDepth 100000 in
theorem pR_57_1 : px_chkR prog_13_method_2_code pr_57_1 = true := by decide +kernel
set_option maxRecDepth 100000 in
theorem pR_57_2 : px_chkR prog_13_method_2_code pr_57_2 = true := by decide +kernel
theorem pD_57 : px_chkD pm_57 = true := px_chkD_of (show ∀ row ∈ [pr_57_0, pr_57_1, pr_57_2], px_chkR prog_13_method_2_code row = true from List.forall_mem_cons.mpr ⟨pR_57_0, List.forall_mem_cons.mpr ⟨pR_57_1, List.forall_mem_cons.mpr ⟨pR_57_2, fun _ h => absurd h List.not_mem_nil⟩⟩⟩)
set_option maxRecDepth 100000 in
theorem pK_57 : px_chkK pm_57 [[215], [221]] = true := by decide +kernel
theorem pO_57 : px_okM pm_57 := px_chkM_ok px_allY_ok pD_57 pK_57
set_option maxRecDepth 100000 in
theorem pR_58_0 : px_chkR prog_13_method_4_code pr_58_0 = true := by decide +kernel
set_option maxRecDepth 100000 in
theorem pR_58_1 : px_chkR prog_13_method_4_code pr_58_1 = true := by decide +kernel
theorem pD_58 : px_chkD pm_58 = true := px_chkD_of (show ∀ row ∈ [pr_58_0, pr_58_1], px_chkR prog_13_method_4_code row = true from List.forall_mem_cons.mpr ⟨pR_58_0, List.forall_mem_cons.mpr ⟨pR_58_1, fun _ h => absurd h List.not_mem_nil⟩⟩)
set_option maxRecDepth 100000 in
theorem pK_58 : px_chkK pm_58 [[215], [221], [1227, 1229, 1228, 196]] = true := by decide +kernel
theorem pO_58 : px_okM pm_58 := px_chkM_ok px_allY_ok pD_58 pK_58
set_option maxRecDepth 100000 in
theorem pR_59_0 : px_chkR method_21_code pr_59_0 = true := by decide +kernel
set_option maxRecDepth 100000 in
theorem pR_59_1 : px_chkR method_21_code pr_59_1 = true := by decide +kernel
theorem pD_59 : px_chkD pm_59 = true := px_chkD_of (show ∀ row ∈ [pr_59_0, pr_59_1], px_chkR method_21_code row = true from List.forall_mem_cons.mpr ⟨pR_59_0, List.forall_mem_cons.mpr ⟨pR_59_1, fun _ h => absurd h List.not_mem_nil⟩⟩)
set_option maxRecDepth 100000 in
theorem pK_59 : px_chkK pm_59 [[718], [744], [1615, 1616, 1617]] = true := by decide +kernel
theorem pO_59 : px_okM pm_59 := px_chkM_ok px_allY_ok pD_59 pK_59
set_option maxRecDepth 100000 in
theorem pR_60_0 : px_chkR method_8_code pr_60_0 = true := by decide +kernel
set_option maxRecDepth 100000 in
theorem pR_60_1 : px_chkR method_8_code pr_60_1 = true := by decide +kernel
theorem pD_60 : px_chkD pm_60 = true := px_chkD_of (show ∀ row ∈ [pr_60_0, pr_60_1], px_chkR method_8_code row = true from List.forall_mem_cons.mpr ⟨pR_60_0, List.forall_mem_cons.mpr ⟨pR_60_1, fun _ h => absurd h List.not_mem_nil⟩⟩)
set_option maxRecDepth 100000 in
theorem pK_60 : px_chkK pm_60 [[640], [718], [1209, 1210, 1211]] = true := by decide +kernel
theorem pO_60 : px_okM pm_60 := px_chkM_ok px_allY_ok pD_60 pK_60
set_option maxRecDepth 100000 in
theorem pR_61_0 : px_chkR method_22_code pr_61_0 = true := by decide +kernel
set_option maxRecDepth 100000 in
theorem pR_61_1 : px_chkR method_22_code pr_61_1 = true := by decide +kernel
theorem pD_61 : px_chkD pm_61 = true := px_chkD_of (show ∀ row ∈ [pr_61_0, pr_61_1], px_chkR method_22_code row = true from List.forall_mem_cons.mpr ⟨pR_61_0, List.forall_mem_cons.mpr ⟨pR_61_1, fun _ h => absurd h List.not_mem_nil⟩⟩)
set_option maxRecDepth 100000 in
theorem pK_61 : px_chkK pm_61 [[718], [745], [1632, 1633, 1634]] = true := by decide +kernel
theorem pO_61 : px_okM pm_61 := px_chkM_ok px_allY_ok pD_61 pK_61
set_option maxRecDepth 100000 in
theorem pR_62_0 : px_chkR method_15_code pr_62_0 = true := by decide +kernel
set_option maxRecDepth 100000 in
theorem pR_62_1 : px_chkR method_15_code pr_62_1 = true := by decide +kernel
theorem pD_62 : px_chkD pm_62 = true := px_chkD_of (show ∀ row ∈ [pr_62_0, pr_62_1], px_chkR method_15_code row = true from List.forall_mem_cons.mpr ⟨pR_62_0, List.forall_mem_cons.mpr ⟨pR_62_1, fun _ h => absurd h List.not_mem_nil⟩⟩)
set_option maxRecDepth 100000 in
theorem pK_62 : px_chkK pm_62 [[640], [718], [744], [1344, 1345, 1346]] = true := by decide +kernel
theorem pO_62 : px_okM pm_62 := px_chkM_ok px_allY_ok pD_62 pK_62
set_option maxRecDepth 100000 in
theorem pR_63_0 : px_chkR method_20_code pr_63_0 = true := by decide +kernel
set_option maxRecDepth 100000 in
theorem pR_63_1 : px_chkR method_20_code pr_63_1 = true := by decide +kernel
theorem pD_63 : px_chkD pm_63 = true := px_chkD_of (show ∀ row ∈ [pr_63_0, pr_63_1], px_chkR method_20_code row = true from List.forall_mem_cons.mpr ⟨pR_63_0, List.forall_mem_cons.mpr ⟨pR_63_1, fun _ h => absurd h List.not_mem_nil⟩⟩)
set_option maxRecDepth 100000 in
theorem pK_63 : px_chkK pm_63 [[640], [718], [744], [1596, 1597, 1598]] = true := by decide +kernel
theorem pO_63 : px_okM pm_63 := px_chkM_ok px_allY_ok pD_63 pK_63
set_option maxRecDepth 100000 in
theorem pR_64_0 : px_chkR method_24_code pr_64_0 = true := by decide +kernel
set_option maxRecDepth 100000 in
theorem pR_64_1 : px_chkR method_24_code pr_64_1 = true := by decide +kernel
theorem pD_64 : px_chkD pm_64 = true := px_chkD_of (show ∀ row ∈ [pr_64_0, pr_64_1], px_chkR method_24_code row = true from List.forall_mem_cons.mpr ⟨pR_64_0, List.forall_mem_cons.mpr ⟨pR_64_1, fun _ h => absurd h List.not_mem_nil⟩⟩)
set_option maxRecDepth 100000 in
theorem pK_64 : px_chkK pm_64 [[718], [1653, 1654, 1655]] = true := by decide +kernel
theorem pO_64 : px_okM pm_64 := px_chkM_ok px_allY_ok pD_64 pK_64
set_option maxRecDepth 100000 in
theorem pR_65_0 : px_chkR method_17_code pr_65_0 = true := by decide +kernel
set_option maxRecDepth 100000 in
theorem pR_65_1 : px_chkR method_17_code pr_65_1 = true := by decide +kernel
theorem pD_65 : px_chkD pm_65 = true := px_chkD_of (show ∀ row ∈ [pr_65_0, pr_65_1], px_chkR method_17_code row = true from List.forall_mem_cons.mpr ⟨pR_65_0, List.forall_mem_cons.mpr ⟨pR_65_1, fun _ h => absurd h List.not_mem_nil⟩⟩)
set_option maxRecDepth 100000 in
theorem pK_65 : px_chkK pm_65 [[718], [744], [1488, 1489, 1490]] = true := by decide +kernel
theorem pO_65 : px_okM pm_65 := px_chkM_ok px_allY_ok pD_65 pK_65
set_option maxRecDepth 100000 in
theorem pR_66_0 : px_chkR method_4_code pr_66_0 = true := by decide +kernel
set_option maxRecDepth 100000 in
theorem pR_66_1 : px_chkR method_4_code pr_66_1 = true := by decide +kernel
theorem pD_66 : px_chkD pm_66 = true := px_chkD_of (show ∀ row ∈ [pr_66_0, pr_66_1], px_chkR method_4_code row = true from List.forall_mem_cons.mpr ⟨pR_66_0, List.forall_mem_cons.mpr ⟨pR_66_1, fun _ h => absurd h List.not_mem_nil⟩⟩)
set_option maxRecDepth 100000 in
theorem pK_66 : px_chkK pm_66 [[719, 720, 721], [718]] = true := by decide +kernel
theorem pO_66 : px_okM pm_66 := px_chkM_ok px_allY_ok pD_66 pK_66
set_option maxRecDepth 100000 in
theorem pR_67_0 : px_chkR method_3_code pr_67_0 = true := by decide +kernel
set_option maxRecDepth 100000 in
theorem pR_67_1 : px_chkR method_3_code pr_67_1 = true := by decide +kernel
theorem pD_67 : px_chkD pm_67 = true := px_chkD_of (show ∀ row ∈ [pr_67_0, pr_67_1], px_chkR method_3_code row = true from List.forall_mem_cons.mpr ⟨pR_67_0, List.forall_mem_cons.mpr ⟨pR_67_1, fun _ h => absurd h List.not_mem_nil⟩⟩)
set_option maxRecDepth 100000 in
theorem pK_67 : px_chkK pm_67 [[641, 642, 643], [640]] = true := by decide +kernel
theorem pO_67 : px_okM pm_67 := px_chkM_ok px_allY_ok pD_67 pK_67
set_option maxRecDepth 100000 in
theorem pR_68_0 : px_chkR method_13_code pr_68_0 = true := by decide +kernel
set_option maxRecDepth 100000 in
theorem pR_68_1 : px_chkR method_13_code pr_68_1 = true := by decide +kernel
theorem pD_68 : px_chkD pm_68 = true := px_chkD_of (show ∀ row ∈ [pr_68_0, pr_68_1], px_chkR method_13_code row = true from List.forall_mem_cons.mpr ⟨pR_68_0, List.forall_mem_cons.mpr ⟨pR_68_1, fun _ h => absurd h List.not_mem_nil⟩⟩)
set_option maxRecDepth 100000 in
theorem pK_68 : px_chkK pm_68 [[718], [744], [1322, 1323, 1324]] = true := by decide +kernel
theorem pO_68 : px_okM pm_68 := px_chkM_ok px_allY_ok pD_68 pK_68
set_option maxRecDepth 100000 in
theorem pR_69_0 : px_chkR method_14_code pr_69_0 = true := by decide +kernel
set_option maxRecDepth 100000 in
theorem pR_69_1 : px_chkR method_14_code pr_69_1 = true := by decide +kernel
theorem pD_69 : px_chkD pm_69 = true := px_chkD_of (show ∀ row ∈ [pr_69_0, pr_69_1], px_chkR method_14_code row = true from List.forall_mem_cons.mpr ⟨pR_69_0, List.forall_mem_cons.mpr ⟨pR_69_1, fun _ h => absurd h List.not_mem_nil⟩⟩)
set_option maxRecDepth 100000 in
theorem pK_69 : px_chkK pm_69 [[640], [718], [744], [1333, 1334, 1335]] = true := by decide +kernel
theorem pO_69 : px_okM pm_69 := px_chkM_ok px_allY_ok pD_69 pK_69
set_option maxRecDepth 100000 in
theorem pR_70_0 : px_chkR method_19_code pr_70_0 = true := by decide +kernel
set_option maxRecDepth 100000 in
theorem pR_70_1 : px_chkR method_19_code pr_70_1 = true := by decide +kernel
theorem pD_70 : px_chkD pm_70 = true := px_chkD_of (show ∀ row ∈ [pr_70_0, pr_70_1], px_chkR method_19_code row = true from List.forall_mem_cons.mpr ⟨pR_70_0, List.forall_mem_cons.mpr ⟨pR_70_1, fun _ h => absurd h List.not_mem_nil⟩⟩)
set_option maxRecDepth 100000 in
theorem pK_70 : px_chkK pm_70 [[640], [718], [744], [1517, 1518, 1519]] = true := by decide +kernel
theorem pO_70 : px_okM pm_70 := px_chkM_ok px_allY_ok pD_70 pK_70
set_option maxRecDepth 100000 in
theorem pR_71_0 : px_chkR method_5_code pr_71_0 = true := by decide +kernel
set_option maxRecDepth 100000 in
theorem pR_71_1 : px_chkR method_5_code pr_71_1 = true := by decide +kernel
theorem pD_71 : px_chkD pm_71 = true := px_chkD_of (show ∀ row ∈ [pr_71_0, pr_71_1], px_chkR method_5_code row = true from List.forall_mem_cons.mpr ⟨pR_71_0, List.forall_mem_cons.mpr ⟨pR_71_1, fun _ h => absurd h List.not_mem_nil⟩⟩)
set_option maxRecDepth 100000 in
theorem pK_71 : px_chkK pm_71 [[718], [746, 747, 748], [744], [745]] = true := by decide +kernel
theorem pO_71 : px_okM pm_71 := px_chkM_ok px_allY_ok pD_71 pK_71
set_option maxRecDepth 100000 in
theorem pR_72_0 : px_chkR method_16_code pr_72_0 = true := by decide +kernel
set_option maxRecDepth 100000 in
theorem pR_72_1 : px_chkR method_16_code pr_72_1 = true := by decide +kernel
theorem pD_72 : px_chkD pm_72 = true := px_chkD_of (show ∀ row ∈ [pr_72_0, pr_72_1], px_chkR method_16_code row = true from List.forall_mem_cons.mpr ⟨pR_72_0, List.forall_mem_cons.mpr ⟨pR_72_1, fun _ h => absurd h List.not_mem_nil⟩⟩)
set_option maxRecDepth 100000 in
theorem pK_72 : px_chkK pm_72 [[640], [718], [744], [1477, 1478, 1479]] = true := by decide +kernel
theorem pO_72 : px_okM pm_72 := px_chkM_ok px_allY_ok pD_72 pK_72
set_option maxRecDepth 100000 in
theorem pR_73_0 : px_chkR method_18_code pr_73_0 = true := by decide +kernel
set_option maxRecDepth 100000 in
theorem pR_73_1 : px_chkR method_18_code pr_73_1 = true := by decide +kernel
theorem pD_73 : px_chkD pm_73 = true := px_chkD_of (show ∀ row ∈ [pr_73_0, pr_73_1], px_chkR method_18_code row = true from List.forall_mem_cons.mpr ⟨pR_73_0, List.forall_mem_cons.mpr ⟨pR_73_1, fun _ h => absurd h List.not_mem_nil⟩⟩)
set_option maxRecDepth 100000 in
theorem pK_73 : px_chkK pm_73 [[718], [744], [1501, 1502, 1503]] = true := by decide +kernel
theorem pO_73 : px_okM pm_73 := px_chkM_ok px_allY_ok pD_73 pK_73
set_option maxRecDepth 100000 in
theorem pR_74_0 : px_chkR method_12_code pr_74_0 = true := by decide +kernel
set_option maxRecDepth 100000 in
theorem pR_74_1 : px_chkR method_12_code pr_74_1 = true := by decide +kernel
theorem pD_74 : px_chkD pm_74 = true := px_chkD_of (show ∀ row ∈ [pr_74_0, pr_74_1], px_chkR method_12_code row = true from List.forall_mem_cons.mpr ⟨pR_74_0, List.forall_mem_cons.mpr ⟨pR_74_1, fun _ h => absurd h List.not_mem_nil⟩⟩)
set_option maxRecDepth 100000 in
theorem pK_74 : px_chkK pm_74 [[640], [718], [744], [1247, 1248, 1249]] = true := by decide +kernel
theorem pO_74 : px_okM pm_74 := px_chkM_ok px_allY_ok pD_74 pK_74
set_option maxRecDepth 100000 in
theorem pR_75_0 : px_chkR method_9_code pr_75_0 = true := by decide +kernel
set_option maxRecDepth 100000 in
theorem pR_75_1 : px_chkR method_9_code pr_75_1 = true := by decide +kernel
theorem pD_75 : px_chkD pm_75 = true := px_chkD_of (show ∀ row ∈ [pr_75_0, pr_75_1], px_chkR method_9_code row = true from List.forall_mem_cons.mpr ⟨pR_75_0, List.forall_mem_cons.mpr ⟨pR_75_1, fun _ h => absurd h List.not_mem_nil⟩⟩)
set_option maxRecDepth 100000 in
theorem pK_75 : px_chkK pm_75 [[718], [1219, 1220, 1221]] = true := by decide +kernel
theorem pO_75 : px_okM pm_75 := px_chkM_ok px_allY_ok pD_75 pK_75
set_option maxRecDepth 100000 in
theorem pR_76_0 : px_chkR method_10_code pr_76_0 = true := by decide +kernel
set_option maxRecDepth 100000 in
theorem pR_76_1 : px_chkR method_10_code pr_76_1 = true := by decide +kernel
theorem pD_76 : px_chkD pm_76 = true := px_chkD_of (show ∀ row ∈ [pr_76_0, pr_76_1], px_chkR method_10_code row = true from List.forall_mem_cons.mpr ⟨pR_76_0, List.forall_mem_cons.mpr ⟨pR_76_1, fun _ h => absurd h List.not_mem_nil⟩⟩)
set_option maxRecDepth 100000 in
theorem pK_76 : px_chkK pm_76 [[640], [718], [1233, 1234, 1235]] = true := by decide +kernel
theorem pO_76 : px_okM pm_76 := px_chkM_ok px_allY_ok pD_76 pK_76
set_option maxRecDepth 100000 in
theorem pR_77_0 : px_chkR method_6_code pr_77_0 = true := by decide +kernel
set_option maxRecDepth 100000 in
theorem pR_77_1 : px_chkR method_6_code pr_77_1 = true := by decide +kernel
theorem pD_77 : px_chkD pm_77 = true := px_chkD_of (show ∀ row ∈ [pr_77_0, pr_77_1], px_chkR method_6_code row = true from List.forall_mem_cons.mpr ⟨pR_77_0, List.forall_mem_cons.mpr ⟨pR_77_1, fun _ h => absurd h List.not_mem_nil⟩⟩)
set_option maxRecDepth 100000 in
theorem pK_77 : px_chkK pm_77 [[744], [1070, 1071, 1072], [1069]] = true := by decide +kernel
theorem pO_77 : px_okM pm_77 := px_chkM_ok px_allY_ok pD_77 pK_77
set_option maxRecDepth 100000 in
theorem pR_78_0 : px_chkR method_11_code pr_78_0 = true := by decide +kernel
set_option maxRecDepth 100000 in
theorem pR_78_1 : px_chkR method_11_code pr_78_1 = true := by decide +kernel
theorem pD_78 : px_chkD pm_78 = true := px_chkD_of (show ∀ row ∈ [pr_78_0, pr_78_1], px_chkR method_11_code row = true from List.forall_mem_cons.mpr ⟨pR_78_0, List.forall_mem_cons.mpr ⟨pR_78_1, fun _ h => absurd h List.not_mem_nil⟩⟩)
set_option maxRecDepth 100000 in
theorem pK_78 : px_chkK pm_78 [[718], [1240, 1241, 1242]] = true := by decide +kernel
theorem pO_78 : px_okM pm_78 := px_chkM_ok px_allY_ok pD_78 pK_78
set_option maxRecDepth 100000 in
theorem pR_79_0 : px_chkR method_7_code pr_79_0 = true := by decide +kernel
set_option maxRecDepth 100000 in
theorem pR_79_1 : px_chkR method_7_code pr_79_1 = true := by decide +kernel
theorem pD_79 : px_chkD pm_79 = true := px_chkD_of (show ∀ row ∈ [pr_79_0, pr_79_1], px_chkR method_7_code row = true from List.forall_mem_cons.mpr ⟨pR_79_0, List.forall_mem_cons.mpr ⟨pR_79_1, fun _ h => absurd h List.not_mem_nil⟩⟩)
set_option maxRecDepth 100000 in
theorem pK_79 : px_chkK pm_79 [[640], [718], [745], [1174, 1175, 1176]] = true := by decide +kernel
theorem pO_79 : px_okM pm_79 := px_chkM_ok px_allY_ok pD_79 pK_79
set_option maxRecDepth 100000 in
theorem pR_80_0 : px_chkR method_23_code pr_80_0 = true := by decide +kernel
theorem pD_80 : px_chkD pm_80 = true := px_chkD_of (show ∀ row ∈ [pr_80_0], px_chkR method_23_code row = true from List.forall_mem_cons.mpr ⟨pR_80_0, fun _ h => absurd h List.not_mem_nil⟩)
set_option maxRecDepth 100000 in
theorem pK_80 : px_chkK pm_80 [[640], [1646, 1647, 1648]] = true := by decide +kernel
theorem pO_80 : px_okM pm_80 := px_chkM_ok px_allY_ok pD_80 pK_80
