/-! Written by wip/p1/gen2.py. -/
set_option maxRecDepth 100000 in
theorem pR_81_0 : px_chkR prog_15_method_1_code pr_81_0 = true := by decide +kernel
set_option maxRecDepth 100000 in
theorem pR_81_1 : px_chkR prog_15_method_1_code pr_81_1 = true := by decide +kernel
set_option maxRecDepth 100000 in
theorem pR_81_2 : px_chkR prog_15_method_1_code pr_81_2 = true := by decide +kernel
set_option maxRecDepth 100000 in
theorem pR_81_3 : px_chkR prog_15_method_1_code pr_81_3 = true := by decide +kernel
set_option maxRecDepth 100000 in
theorem pR_81_4 : px_chkR prog_15_method_1_code pr_81_4 = true := by decide +kernel
set_option maxRecDepth 100000 in
theorem pR_81_5 : px_chkR prog_15_method_1_code pr_81_5 = true := by decide +kernel
set_option maxRecDepth 100000 in
theorem pR_81_6 : px_chkR prog_15_method_1_code pr_81_6 = true := by decide +kernel
set_option maxRecDepth 100000 in
theorem pR_81_7 : px_chkR prog_15_method_1_code pr_81_7 = true := by decide +kernel
set_option maxRecDepth 100000 in
theorem pR_81_8 : px_chkR prog_15_method_1_code pr_81_8 = true := by decide +kernel
set_option maxRecDepth 100000 in
theorem pR_81_9 : px_chkR prog_15_method_1_code pr_81_9 = true := by decide +kernel
set_option maxRecDepth 100000 in
theorem pR_81_10 : px_chkR prog_15_method_1_code pr_81_10 = true := by decide +kernel
set_option maxRecDepth 100000 in
theorem pR_81_11 : px_chkR prog_15_method_1_code pr_81_11 = true := by decide +kernel
set_option maxRecDepth 100000 in
theorem pR_81_12 : px_chkR prog_15_method_1_code pr_81_12 = true := by decide +kernel
set_option maxRecDepth 100000 in
theorem pR_81_13 : px_chkR prog_15_method_1_code pr_81_13 = true := by decide +kernel
set_option maxRecDepth 100000 in
theorem pR_81_14 : px_chkR prog_15_method_1_code pr_81_14 = true := by decide +kernel
set_option maxRecDepth 100000 in
theorem pR_81_15 : px_chkR prog_15_method_1_code pr_81_15 = true := by decide +kernel
set_option maxRecDepth 100000 in
theorem pR_81_16 : px_chkR prog_15_method_1_code pr_81_16 = true := by decide +kernel
set_option maxRecDepth 100000 in
theorem pR_81_17 : px_chkR prog_15_method_1_code pr_81_17 = true := by decide +kernel
set_option maxRecDepth 100000 in
theorem pR_81_18 : px_chkR prog_15_method_1_code pr_81_18 = true := by decide +kernel
set_option maxRecDepth 100000 in
theorem pR_81_19 : px_chkR prog_15_method_1_code pr_81_19 = true := by decide +kernel
set_option maxRecDepth 100000 in
theorem pR_81_20 : px_chkR prog_15_method_1_code pr_81_20 = true := by decide +kernel
set_option maxRecDepth 100000 in
theorem pR_81_21 : px_chkR prog_15_method_1_code pr_81_21 = true := by decide +kernel
set_option maxRecDepth 100000 in
theorem pR_81_22 : px_chkR prog_15_method_1_code pr_81_22 = true := by decide +kernel
set_option maxRecDepth 100000 in
theorem pR_81_23 : px_chkR prog_15_method_1_code pr_81_23 = true := by decide +kernel
set_option maxRecDepth 100000 in
theorem pR_81_24 : px_chkR prog_15_method_1_code pr_81_24 = true := by decide +kernel
set_option maxRecDepth 100000 in
theorem pR_81_25 : px_chkR prog_15_method_1_code pr_81_25 = true := by decide +kernel
set_option maxRecDepth 100000 in
theorem pR_81_26 : px_chkR prog_15_method_1_code pr_81_26 = true := by decide +kernel
set_option maxRecDepth 100000 in
theorem pR_81_27 : px_chkR prog_15_method_1_code pr_81_27 = true := by decide +kernel
set_option maxRecDepth 100000 in
theorem pR_81_28 : px_chkR prog_15_method_1_code pr_81_28 = true := by decide +kernel
set_option maxRecDepth 100000 in
theorem pR_81_29 : px_chkR prog_15_method_1_code pr_81_29 = true := by decide +kernel
set_option maxRecDepth 100000 in
theorem pR_81_30 : px_chkR prog_15_method_1_code pr_81_30 = true := by decide +kernel
set_option maxRecDepth 100000 in
theorem pR_81_31 : px_chkR prog_15_method_1_code pr_81_31 = true := by decide +kernel
theorem pD_81 : px_chkD pm_81 = true := px_chkD_of (show ∀ row ∈ [pr_81_0, pr_81_1, pr_81_2, pr_81_3, pr_81_4, pr_81_5, pr_81_6, pr_81_7, pr_81_8, pr_81_9, pr_81_10, pr_81_11, pr_81_12, pr_81_13, pr_81_14, pr_81_15, pr_81_16, pr_81_17, pr_81_18, pr_81_19, pr_81_20, pr_81_21, pr_81_22, pr_81_23, pr_81_24, pr_81_25, pr_81_26, pr_81_27, pr_81_28, pr_81_29, pr_81_30, pr_81_31], px_chkR prog_15_method_1_code row = true from List.forall_mem_cons.mpr ⟨pR_81_0, List.forall_mem_cons.mpr ⟨pR_81_1, List.forall_mem_cons.mpr ⟨pR_81_2, List.forall_mem_cons.mpr ⟨pR_81_3, List.forall_mem_cons.mpr ⟨pR_81_4, List.forall_mem_cons.mpr ⟨pR_81_5, List.forall_mem_cons.mpr ⟨pR_81_6, List.forall_mem_cons.mpr ⟨pR_81_7, List.forall_mem_cons.mpr ⟨pR_81_8, List.forall_mem_cons.mpr ⟨pR_81_9, List.forall_mem_cons.mpr ⟨pR_81_10, List.forall_mem_cons.mpr ⟨pR_81_11, List.forall_mem_cons.mpr ⟨pR_81_12, List.forall_mem_cons.mpr ⟨pR_81_13, List.forall_mem_cons.mpr ⟨pR_81_14, List.forall_mem_cons.mpr ⟨pR_81_15, List.forall_mem_cons.mpr ⟨pR_81_16, List.forall_mem_cons.mpr ⟨pR_81_17, List.forall_mem_cons.mpr ⟨pR_81_18, List.forall_mem_cons.mpr ⟨pR_81_19, List.forall_mem_cons.mpr ⟨pR_81_20, List.forall_mem_cons.mpr ⟨pR_81_21, List.forall_mem_cons.mpr ⟨pR_81_22, List.forall_mem_cons.mpr ⟨pR_81_23, List.forall_mem_cons.mpr ⟨pR_81_24, List.forall_mem_cons.mpr ⟨pR_81_25, List.forall_mem_cons.mpr ⟨pR_81_26, List.forall_mem_cons.mpr ⟨pR_81_27, List.forall_mem_cons.mpr ⟨pR_81_28, List.forall_mem_cons.mpr ⟨pR_81_29, List.forall_mem_cons.mpr ⟨pR_81_30, List.forall_mem_cons.mpr ⟨pR_81_31, fun _ h => absurd h List.not_mem_nil⟩⟩⟩⟩⟩⟩⟩⟩⟩⟩⟩⟩⟩⟩⟩⟩⟩⟩⟩⟩⟩⟩⟩⟩⟩⟩⟩⟩⟩⟩⟩⟩)
set_option maxRecDepth 100000 in
theorem pK_81 : px_chkK pm_81 [[1662, 205, 206], [1713], [1663], [1715], [1664], [1717], [1718], [1721], [1723], [], [], [], [], [], [], [], [], [], [1725], [], [], [], [], [], [], [1726], [], [], [], [], [], [], [], [], [], [], [], [], [], [], [1727], [], [], [], [], [], [], [], [], [], [], [], [], [], [1728], [1731], [1732], [1733], [1734], [1736], [1738], [1739], [1741], [1743], [1744], [1746], [1747], [1749], [1750], [1751], [1752], [1666, 1667], [1668, 1669]] = true := by decide +kernel
theorem pO_81 : px_okM pm_81 := px_chkM_ok px_allY_ok pD_81 pK_81
set_option maxRecDepth 100000 in
theorem pR_82_0 : px_chkR prog_15_method_95_code pr_82_0 = true := by decide +kernel
set_option maxRecDepth 100000 in
theorem pR_82_1 : px_chkR prog_15_method_95_code pr_82_1 = true := by decide +kernel
set_option maxRecDepth 100000 in
theorem pR_82_2 : px_chkR prog_15_method_95_code pr_82_2 = true := by decide +kernel
theorem pD_82 : px_chkD pm_82 = true := px_chkD_of (show ∀ row ∈ [pr_82_0, pr_82_1, pr_82_2], px_chkR prog_15_method_95_code row = true from List.forall_mem_cons.mpr ⟨pR_82_0, List.forall_mem_cons.mpr ⟨pR_82_1, List.forall_mem_cons.mpr ⟨pR_82_2, fun _ h => absurd h List.not_mem_nil⟩⟩⟩)
set_option maxRecDepth 100000 in
theorem pK_82 : px_chkK pm_82 [[1712], [1939], [1848, 1850, 91], [1719]] = true := by decide +kernel
theorem pO_82 : px_okM pm_82 := px_chkM_ok px_allY_ok pD_82 pK_82
set_option maxRecDepth 100000 in
theorem pR_83_0 : px_chkR prog_15_method_90_code pr_83_0 = true := by decide +kernel
set_option maxRecDepth 100000 in
theorem pR_83_1 : px_chkR prog_15_method_90_code pr_83_1 = true := by decide +kernel
set_option maxRecDepth 100000 in
theorem pR_83_2 : px_chkR prog_15_method_90_code pr_83_2 = true := by decide +kernel
set_option maxRecDepth 100000 in
theorem pR_83_3 : px_chkR prog_15_method_90_code pr_83_3 = true := by decide +kernel
set_option maxRecDepth 100000 in
theorem pR_83_4 : px_chkR prog_15_method_90_code pr_83_4 = true := by decide +kernel
theorem pD_83 : px_chkD pm_83 = true := px_chkD_of (show ∀ row ∈ [pr_83_0, pr_83_1, pr_83_2, pr_83_3, pr_83_4], px_chkR prog_15_method_90_code row = true from List.forall_mem_cons.mpr ⟨pR_83_0, List.forall_mem_cons.mpr ⟨pR_83_1, List.forall_mem_cons.mpr ⟨pR_83_2, List.forall_mem_cons.mpr ⟨pR_83_3, List.forall_mem_cons.mpr ⟨pR_83_4, fun _ h => absurd h List.not_mem_nil⟩⟩⟩⟩⟩)
set_option maxRecDepth 100000 in
theorem pK_83 : px_chkK pm_83 [[1717], [1718], [1712], [1939], [1848, 1850, 91], [2296, 2298, 126]] = true := by decide +kernel
theorem pO_83 : px_okM pm_83 := px_chkM_ok px_allY_ok pD_83 pK_83
set_option maxRecDepth 100000 in
theorem pR_84_0 : px_chkR prog_15_method_96_code pr_84_0 = true := by decide +kernel
set_option maxRecDepth 100000 in
theorem pR_84_1 : px_chkR prog_15_method_96_code pr_84_1 = true := by decide +kernel
set_option maxRecDepth 100000 in
theorem pR_84_4 : px_chkR prog_15_method_96_code pr_84_4 = true := by decide +kernel
set_option maxRecDepth 100000 in
theorem pR_84_5 : px_chkR prog_15_method_96_code pr_84_5 = true := by decide +kernel
set_option maxRecDepth 100000 in
theorem pR_84_15 : px_chkR prog_15_method_96_code pr_84_15 = true := by decide +kernel
set_option maxRecDepth 100000 in
theorem pR_84_16 : px_chkR prog_15_method_96_code pr_84_16 = true := by decide +kernel
theorem pD_84 : px_chkD pm_84 = true := px_chkD_of (show ∀ row ∈ [pr_84_0, pr_84_1, [], [], pr_84_4, pr_84_5, [], [], [], [], [], [], [], [], [], pr_84_15, pr_84_16], px_chkR prog_15_method_96_code row = true from List.forall_mem_cons.mpr ⟨pR_84_0, List.forall_mem_cons.mpr ⟨pR_84_1, List.forall_mem_cons.mpr ⟨rfl, List.forall_mem_cons.mpr ⟨rfl, List.forall_mem_cons.mpr ⟨pR_84_4, List.forall_mem_cons.mpr ⟨pR_84_5, List.forall_mem_cons.mpr ⟨rfl, List.forall_mem_cons.mpr ⟨rfl, List.forall_mem_cons.mpr ⟨rfl, List.forall_mem_cons.mpr ⟨rfl, List.forall_mem_cons.mpr ⟨rfl, List.forall_mem_cons.mpr ⟨rfl, List.forall_mem_cons.mpr ⟨rfl, List.forall_mem_cons.mpr ⟨rfl, List.forall_mem_cons.mpr ⟨rfl, List.forall_mem_cons.mpr ⟨pR_84_15, List.forall_mem_cons.mpr ⟨pR_84_16, fun _ h => absurd h List.not_mem_nil⟩⟩⟩⟩⟩⟩⟩⟩⟩⟩⟩⟩⟩⟩⟩⟩⟩)
set_option maxRecDepth 100000 in
theorem pK_84 : px_chkK pm_84 [[1718], [1712], [1848, 1850, 91], [2296, 2298, 126], [1716]] = true := by decide +kernel
theorem pO_84 : px_okM pm_84 := px_chkM_ok px_allY_ok pD_84 pK_84
set_option maxRecDepth 100000 in
theorem pR_85_0 : px_chkR prog_15_method_5_code pr_85_0 = true := by decide +kernel
theorem pD_85 : px_chkD pm_85 = true := px_chkD_of (show ∀ row ∈ [pr_85_0], px_chkR prog_15_method_5_code row = true from List.forall_mem_cons.mpr ⟨pR_85_0, fun _ h => absurd h List.not_mem_nil⟩)
set_option maxRecDepth 100000 in
theorem pK_85 : px_chkK pm_85 [[1847], [1910]] = true := by decide +kernel
theorem pO_85 : px_okM pm_85 := px_chkM_ok px_allY_ok pD_85 pK_85
set_option maxRecDepth 100000 in
theorem pR_86_0 : px_chkR prog_15_method_59_code pr_86_0 = true := by decide +kernel
set_option maxRecDepth 100000 in
theorem pR_86_1 : px_chkR prog_15_method_59_code pr_86_1 = true := by decide +kernel
set_option maxRecDepth 100000 in
theorem pR_86_2 : px_chkR prog_15_method_59_code pr_86_2 = true := by decide +kernel
set_option maxRecDepth 100000 in
theorem pR_86_3 : px_chkR prog_15_method_59_code pr_86_3 = true := by decide +kernel
theorem pD_86 : px_chkD pm_86 = true := px_chkD_of (show ∀ row ∈ [pr_86_0, pr_86_1, pr_86_2, pr_86_3], px_chkR prog_15_method_59_code row = true from List.forall_mem_cons.mpr ⟨pR_86_0, List.forall_mem_cons.mpr ⟨pR_86_1, List.forall_mem_cons.mpr ⟨pR_86_2, List.forall_mem_cons.mpr ⟨pR_86_3, fun _ h => absurd h List.not_mem_nil⟩⟩⟩⟩)
set_option maxRecDepth 100000 in
theorem pK_86 : px_chkK pm_86 [[1712], [1848, 1850, 91], [1719], [2295], [2296, 2298, 126]] = true := by decide +kernel
theorem pO_86 : px_okM pm_86 := px_chkM_ok px_allY_ok pD_86 pK_86
set_option maxRecDepth 100000 in
theorem pR_87_0 : px_chkR prog_15_method_32_code pr_87_0 = true := by decide +kernel
set_option maxRecDepth 100000 in
theorem pR_87_14 : px_chkR prog_15_method_32_code pr_87_14 = true := by decide +kernel
theorem pD_87 : px_chkD pm_87 = true := px_chkD_of (show ∀ row ∈ [pr_87_0, [], [], [], [], [], [], [], [], [], [], [], [], [], pr_87_14], px_chkR prog_15_method_32_code row = true from List.forall_mem_cons.mpr ⟨pR_87_0, List.forall_mem_cons.mpr ⟨rfl, List.forall_mem_cons.mpr ⟨rfl, List.forall_mem_cons.mpr ⟨rfl, List.forall_mem_cons.mpr ⟨rfl, List.forall_mem_cons.mpr ⟨rfl, List.forall_mem_cons.mpr ⟨rfl, List.forall_mem_cons.mpr ⟨rfl, List.forall_mem_cons.mpr ⟨rfl, List.forall_mem_cons.mpr ⟨rfl, List.forall_mem_cons.mpr ⟨rfl, List.forall_mem_cons.mpr ⟨rfl, List.forall_mem_cons.mpr ⟨rfl, List.forall_mem_cons.mpr ⟨rfl, List.forall_mem_cons.mpr ⟨pR_87_14, fun _ h => absurd h List.not_mem_nil⟩⟩⟩⟩⟩⟩⟩⟩⟩⟩⟩⟩⟩⟩⟩)
set_option maxRecDepth 100000 in
theorem pK_87 : px_chkK pm_87 [[1724], [1735]] = true := by decide +kernel
theorem pO_87 : px_okM pm_87 := px_chkM_ok px_allY_ok pD_87 pK_87
set_option maxRecDepth 100000 in
theorem pR_88_0 : px_chkR prog_15_method_85_code pr_88_0 = true := by decide +kernel
set_option maxRecDepth 100000 in
theorem pR_88_1 : px_chkR prog_15_method_85_code pr_88_1 = true := by decide +kernel
set_option maxRecDepth 100000 in
theorem pR_88_2 : px_chkR prog_15_method_85_code pr_88_2 = true := by decide +kernel
set_option maxRecDepth 100000 in
theorem pR_88_3 : px_chkR prog_15_method_85_code pr_88_3 = true := by decide +kernel
theorem pD_88 : px_chkD pm_88 = true := px_chkD_of (show ∀ row ∈ [pr_88_0, pr_88_1, pr_88_2, pr_88_3], px_chkR prog_15_method_85_code row = true from List.forall_mem_cons.mpr ⟨pR_88_0, List.forall_mem_cons.mpr ⟨pR_88_1, List.forall_mem_cons.mpr ⟨pR_88_2, List.forall_mem_cons.mpr ⟨pR_88_3, fun _ h => absurd h List.not_mem_nil⟩⟩⟩⟩)
set_option maxRecDepth 100000 in
theorem pK_88 : px_chkK pm_88 [[1712], [1848, 1850, 91], [1719], [2295], [2296, 2298, 126]] = true := by decide +kernel
theorem pO_88 : px_okM pm_88 := px_chkM_ok px_allY_ok pD_88 pK_88
set_option maxRecDepth 100000 in
theorem pR_89_0 : px_chkR prog_15_method_98_code pr_89_0 = true := by decide +kernel
set_option maxRecDepth 100000 in
theorem pR_89_1 : px_chkR prog_15_method_98_code pr_89_1 = true := by decide +kernel
set_option maxRecDepth 100000 in
theorem pR_89_2 : px_chkR prog_15_method_98_code pr_89_2 = true := by decide +kernel
set_option maxRecDepth 100000 in
theorem pR_89_3 : px_chkR prog_15_method_98_code pr_89_3 = true := by decide +kernel
set_option maxRecDepth 100000 in
theorem pR_89_4 : px_chkR prog_15_method_98_code pr_89_4 = true := by decide +kernel
theorem pD_89 : px_chkD pm_89 = true := px_chkD_of (show ∀ row ∈ [pr_89_0, pr_89_1, pr_89_2, pr_89_3, pr_89_4], px_chkR prog_15_method_98_code row = true from List.forall_mem_cons.mpr ⟨pR_89_0, List.forall_mem_cons.mpr ⟨pR_89_1, List.forall_mem_cons.mpr ⟨pR_89_2, List.forall_mem_cons.mpr ⟨pR_89_3, List.forall_mem_cons.mpr ⟨pR_89_4, fun _ h => absurd h List.not_mem_nil⟩⟩⟩⟩⟩)
set_option maxRecDepth 100000 in
theorem pK_89 : px_chkK pm_89 [[1712], [1848, 1850, 91], [1719], [1714], [1720], [1716]] = true := by decide +kernel
theorem pO_89 : px_okM pm_89 := px_chkM_ok px_allY_ok pD_89 pK_89
set_option maxRecDepth 100000 in
theorem pR_90_0 : px_chkR prog_15_method_75_code pr_90_0 = true := by decide +kernel
set_option maxRecDepth 100000 in
theorem pR_90_1 : px_chkR prog_15_method_75_code pr_90_1 = true := by decide +kernel
set_option maxRecDepth 100000 in
theorem pR_90_2 : px_chkR prog_15_method_75_code pr_90_2 = true := by decide +kernel
set_option maxRecDepth 100000 in
theorem pR_90_3 : px_chkR prog_15_method_75_code pr_90_3 = true := by decide +kernel
set_option maxRecDepth 100000 in
theorem pR_90_4 : px_chkR prog_15_method_75_code pr_90_4 = true := by decide +kernel
theorem pD_90 : px_chkD pm_90 = true := px_chkD_of (show ∀ row ∈ [pr_90_0, pr_90_1, pr_90_2, pr_90_3, pr_90_4], px_chkR prog_15_method_75_code row = true from List.forall_mem_cons.mpr ⟨pR_90_0, List.forall_mem_cons.mpr ⟨pR_90_1, List.forall_mem_cons.mpr ⟨pR_90_2, List.forall_mem_cons.mpr ⟨pR_90_3, List.forall_mem_cons.mpr ⟨pR_90_4, fun _ h => absurd h List.not_mem_nil⟩⟩⟩⟩⟩)
set_option maxRecDepth 100000 in
theorem pK_90 : px_chkK pm_90 [[1718], [1712], [1848, 1850, 91], [1719], [2296, 2298, 126]] = true := by decide +kernel
theorem pO_90 : px_okM pm_90 := px_chkM_ok px_allY_ok pD_90 pK_90
set_option maxRecDepth 100000 in
theorem pR_91_0 : px_chkR prog_15_method_87_code pr_91_0 = true := by decide +kernel
set_option maxRecDepth 100000 in
theorem pR_91_1 : px_chkR prog_15_method_87_code pr_91_1 = true := by decide +kernel
theorem pD_91 : px_chkD pm_91 = true := px_chkD_of (show ∀ row ∈ [pr_91_0, pr_91_1], px_chkR prog_15_method_87_code row = true from List.forall_mem_cons.mpr ⟨pR_91_0, List.forall_mem_cons.mpr ⟨pR_91_1, fun _ h => absurd h List.not_mem_nil⟩⟩)
set_option maxRecDepth 100000 in
theorem pK_91 : px_chkK pm_91 [[1712], [1848, 1850, 91], [1714]] = true := by decide +kernel
theorem pO_91 : px_okM pm_91 := px_chkM_ok px_allY_ok pD_91 pK_91
set_option maxRecDepth 100000 in
theorem pR_92_0 : px_chkR prog_15_method_38_code pr_92_0 = true := by decide +kernel
set_option maxRecDepth 100000 in
theorem pR_92_1 : px_chkR prog_15_method_38_code pr_92_1 = true := by decide +kernel
set_option maxRecDepth 100000 in
theorem pR_92_8 : px_chkR prog_15_method_38_code pr_92_8 = true := by decide +kernel
set_option maxRecDepth 100000 in
theorem pR_92_9 : px_chkR prog_15_method_38_code pr_92_9 = true := by decide +kernel
theorem pD_92 : px_chkD pm_92 = true := px_chkD_of (show ∀ row ∈ [pr_92_0, pr_92_1, [], [], [], [], [], [], pr_92_8, pr_92_9], px_chkR prog_15_method_38_code row = true from List.forall_mem_cons.mpr ⟨pR_92_0, List.forall_mem_cons.mpr ⟨pR_92_1, List.forall_mem_cons.mpr ⟨rfl, List.forall_mem_cons.mpr ⟨rfl, List.forall_mem_cons.mpr ⟨rfl, List.forall_mem_cons.mpr ⟨rfl, List.forall_mem_cons.mpr ⟨rfl, List.forall_mem_cons.mpr ⟨rfl, List.forall_mem_cons.mpr ⟨pR_92_8, List.forall_mem_cons.mpr ⟨pR_92_9, fun _ h => absurd h List.not_mem_nil⟩⟩⟩⟩⟩⟩⟩⟩⟩⟩)
set_option maxRecDepth 100000 in
theorem pK_92 : px_chkK pm_92 [[1735]] = true := by decide +kernel
theorem pO_92 : px_okM pm_92 := px_chkM_ok px_allY_ok pD_92 pK_92
set_option maxRecDepth 100000 in
theorem pR_93_0 : px_chkR prog_15_method_3_code pr_93_0 = true := by decide +kernel
theorem pD_93 : px_chkD pm_93 = true := px_chkD_of (show ∀ row ∈ [pr_93_0], px_chkR prog_15_method_3_code row = true from List.forall_mem_cons.mpr ⟨pR_93_0, fun _ h => absurd h List.not_mem_nil⟩)
set_option maxRecDepth 100000 in
theorem pK_93 : px_chkK pm_93 [[1712]] = true := by decide +kernel
theorem pO_93 : px_okM pm_93 := px_chkM_ok px_allY_ok pD_93 pK_93
set_option maxRecDepth 100000 in
theorem pR_94_0 : px_chkR prog_15_method_86_code pr_94_0 = true := by decide +kernel
set_option maxRecDepth 100000 in
theorem pR_94_1 : px_chkR prog_15_method_86_code pr_94_1 = true := by decide +kernel
set_option maxRecDepth 100000 in
theorem pR_94_2 : px_chkR prog_15_method_86_code pr_94_2 = true := by decide +kernel
set_option maxRecDepth 100000 in
theorem pR_94_3 : px_chkR prog_15_method_86_code pr_94_3 = true := by decide +kernel
set_option maxRecDepth 100000 in
theorem pR_94_4 : px_chkR prog_15_method_86_code pr_94_4 = true := by decide +kernel
set_option maxRecDepth 100000 in
theorem pR_94_5 : px_chkR prog_15_method_86_code pr_94_5 = true := by decide +kernel
set_option maxRecDepth 100000 in
theorem pR_94_6 : px_chkR prog_15_method_86_code pr_94_6 = true := by decide +kernel
set_option maxRecDepth 100000 in
theorem pR_94_7 : px_chkR prog_15_method_86_code pr_94_7 = true := by decide +kernel
theorem pD_94 : px_chkD pm_94 = true := px_chkD_of (show ∀ row ∈ [pr_94_0, pr_94_1, pr_94_2, pr_94_3, pr_94_4, pr_94_5, pr_94_6, pr_94_7], px_chkR prog_15_method_86_code row = true from List.forall_mem_cons.mpr ⟨pR_94_0, List.forall_mem_cons.mpr ⟨pR_94_1, List.forall_mem_cons.mpr ⟨pR_94_2, List.forall_mem_cons.mpr ⟨pR_94_3, List.forall_mem_cons.mpr ⟨pR_94_4, List.forall_mem_cons.mpr ⟨pR_94_5, List.forall_mem_cons.mpr ⟨pR_94_6, List.forall_mem_cons.mpr ⟨pR_94_7, fun _ h => absurd h List.not_mem_nil⟩⟩⟩⟩⟩⟩⟩⟩)
set_option maxRecDepth 100000 in
theorem pK_94 : px_chkK pm_94 [[1713], [1712], [1714]] = true := by decide +kernel
theorem pO_94 : px_okM pm_94 := px_chkM_ok px_allY_ok pD_94 pK_94
set_option maxRecDepth 100000 in
theorem pR_95_0 : px_chkR prog_15_method_7_code pr_95_0 = true := by decide +kernel
set_option maxRecDepth 100000 in
theorem pR_95_4 : px_chkR prog_15_method_7_code pr_95_4 = true := by decide +kernel
set_option maxRecDepth 100000 in
theorem pR_95_5 : px_chkR prog_15_method_7_code pr_95_5 = true := by decide +kernel
set_option maxRecDepth 100000 in
theorem pR_95_9 : px_chkR prog_15_method_7_code pr_95_9 = true := by decide +kernel
set_option maxRecDepth 100000 in
theorem pR_95_10 : px_chkR prog_15_method_7_code pr_95_10 = true := by decide +kernel
theorem pD_95 : px_chkD pm_95 = true := px_chkD_of (show ∀ row ∈ [pr_95_0, [], [], [], pr_95_4, pr_95_5, [], [], [], pr_95_9, pr_95_10], px_chkR prog_15_method_7_code row = true from List.forall_mem_cons.mpr ⟨pR_95_0, List.forall_mem_cons.mpr ⟨rfl, List.forall_mem_cons.mpr ⟨rfl, List.forall_mem_cons.mpr ⟨rfl, List.forall_mem_cons.mpr ⟨pR_95_4, List.forall_mem_cons.mpr ⟨pR_95_5, List.forall_mem_cons.mpr ⟨rfl, List.forall_mem_cons.mpr ⟨rfl, List.forall_mem_cons.mpr ⟨rfl, List.forall_mem_cons.mpr ⟨pR_95_9, List.forall_mem_cons.mpr ⟨pR_95_10, fun _ h => absurd h List.not_mem_nil⟩⟩⟩⟩⟩⟩⟩⟩⟩⟩⟩)
set_option maxRecDepth 100000 in
theorem pK_95 : px_chkK pm_95 [[1731], [1906, 1908, 93]] = true := by decide +kernel
theorem pO_95 : px_okM pm_95 := px_chkM_ok px_allY_ok pD_95 pK_95
set_option maxRecDepth 100000 in
theorem pR_96_0 : px_chkR prog_15_method_50_code pr_96_0 = true := by decide +kernel
set_option maxRecDepth 100000 in
theorem pR_96_1 : px_chkR prog_15_method_50_code pr_96_1 = true := by decide +kernel
set_option maxRecDepth 100000 in
theorem pR_96_2 : px_chkR prog_15_method_50_code pr_96_2 = true := by decide +kernel
set_option maxRecDepth 100000 in
theorem pR_96_3 : px_chkR prog_15_method_50_code pr_96_3 = true := by decide +kernel
theorem pD_96 : px_chkD pm_96 = true := px_chkD_of (show ∀ row ∈ [pr_96_0, pr_96_1, pr_96_2, pr_96_3], px_chkR prog_15_method_50_code row = true from List.forall_mem_cons.mpr ⟨pR_96_0, List.forall_mem_cons.mpr ⟨pR_96_1, List.forall_mem_cons.mpr ⟨pR_96_2, List.forall_mem_cons.mpr ⟨pR_96_3, fun _ h => absurd h List.not_mem_nil⟩⟩⟩⟩)
set_option maxRecDepth 100000 in
theorem pK_96 : px_chkK pm_96 [[1712], [1848, 1850, 91], [1719], [2295], [2296, 2298, 126]] = true := by decide +kernel
theorem pO_96 : px_okM pm_96 := px_chkM_ok px_allY_ok pD_96 pK_96
set_option maxRecDepth 100000 in
theorem pR_97_0 : px_chkR prog_15_method_51_code pr_97_0 = true := by decide +kernel
set_option maxRecDepth 100000 in
theorem pR_97_1 : px_chkR prog_15_method_51_code pr_97_1 = true := by decide +kernel
set_option maxRecDepth 100000 in
theorem pR_97_2 : px_chkR prog_15_method_51_code pr_97_2 = true := by decide +kernel
set_option maxRecDepth 100000 in
theorem pR_97_3 : px_chkR prog_15_method_51_code pr_97_3 = true := by decide +kernel
theorem pD_97 : px_chkD pm_97 = true := px_chkD_of (show ∀ row ∈ [pr_97_0, pr_97_1, pr_97_2, pr_97_3], px_chkR prog_15_method_51_code row = true from List.forall_mem_cons.mpr ⟨pR_97_0, List.forall_mem_cons.mpr ⟨pR_97_1, List.forall_mem_cons.mpr ⟨pR_97_2, List.forall_mem_cons.mpr ⟨pR_97_3, fun _ h => absurd h List.not_mem_nil⟩⟩⟩⟩)
set_option maxRecDepth 100000 in
theorem pK_97 : px_chkK pm_97 [[1712], [1848, 1850, 91], [1719], [2295], [2296, 2298, 126]] = true := by decide +kernel
theorem pO_97 : px_okM pm_97 := px_chkM_ok px_allY_ok pD_97 pK_97
set_option maxRecDepth 100000 in
theorem pR_98_0 : px_chkR prog_15_method_84_code pr_98_0 = true := by decide +kernel
set_option maxRecDepth 100000 in
theorem pR_98_1 : px_chkR prog_15_method_84_code pr_98_1 = true := by decide +kernel
set_option maxRecDepth 100000 in
theorem pR_98_2 : px_chkR prog_15_method_84_code pr_98_2 = true := by decide +kernel
theorem pD_98 : px_chkD pm_98 = true := px_chkD_of (show ∀ row ∈ [pr_98_0, pr_98_1, pr_98_2], px_chkR prog_15_method_84_code row = true from List.forall_mem_cons.mpr ⟨pR_98_0, List.forall_mem_cons.mpr ⟨pR_98_1, List.forall_mem_cons.mpr ⟨pR_98_2, fun _ h => absurd h List.not_mem_nil⟩⟩⟩)
set_option maxRecDepth 100000 in
theorem pK_98 : px_chkK pm_98 [[1712], [1848, 1850, 91], [1719], [2295], [2296, 2298, 126]] = true := by decide +kernel
theorem pO_98 : px_okM pm_98 := px_chkM_ok px_allY_ok pD_98 pK_98
set_option maxRecDepth 100000 in
theorem pR_99_0 : px_chkR prog_15_method_25_code pr_99_0 = true := by decide +kernel
set_option maxRecDepth 100000 in
theorem pR_99_1 : px_chkR prog_15_method_25_code pr_99_1 = true := by decide +kernel
set_option maxRecDepth 100000 in
theorem pR_99_2 : px_chkR prog_15_method_25_code pr_99_2 = true := by decide +kernel
set_option maxRecDepth 100000 in
theorem pR_99_3 : px_chkR prog_15_method_25_code pr_99_3 = true := by decide +kernel
set_option maxRecDepth 100000 in
theorem pR_99_4 : px_chkR prog_15_method_25_code pr_99_4 = true := by decide +kernel
set_option maxRecDepth 100000 in
theorem pR_99_5 : px_chkR prog_15_method_25_code pr_99_5 = true := by decide +kernel
set_option maxRecDepth 100000 in
theorem pR_99_9 : px_chkR prog_15_method_25_code pr_99_9 = true := by decide +kernel
set_option maxRecDepth 100000 in
theorem pR_99_10 : px_chkR prog_15_method_25_code pr_99_10 = true := by decide +kernel
theorem pD_99 : px_chkD pm_99 = true := px_chkD_of (show ∀ row ∈ [pr_99_0, pr_99_1, pr_99_2, pr_99_3, pr_99_4, pr_99_5, [], [], [], pr_99_9, pr_99_10], px_chkR prog_15_method_25_code row = true from List.forall_mem_cons.mpr ⟨pR_99_0, List.forall_mem_cons.mpr ⟨pR_99_1, List.forall_mem_cons.mpr ⟨pR_99_2, List.forall_mem_cons.mpr ⟨pR_99_3, List.forall_mem_cons.mpr ⟨pR_99_4, List.forall_mem_cons.mpr ⟨pR_99_5, List.forall_mem_cons.mpr ⟨rfl, List.forall_mem_cons.mpr ⟨rfl, List.forall_mem_cons.mpr ⟨rfl, List.forall_mem_cons.mpr ⟨pR_99_9, List.forall_mem_cons.mpr ⟨pR_99_10, fun _ h => absurd h List.not_mem_nil⟩⟩⟩⟩⟩⟩⟩⟩⟩⟩⟩)
set_option maxRecDepth 100000 in
theorem pK_99 : px_chkK pm_99 [[1666], [1712], [1722], [1847], [1848, 1850, 91], [1719], [1853, 1854, 1855], [1857], [1714], [1902, 1904, 92]] = true := by decide +kernel
theorem pO_99 : px_okM pm_99 := px_chkM_ok px_allY_ok pD_99 pK_99
set_option maxRecDepth 100000 in
theorem pR_100_0 : px_chkR prog_15_method_63_code pr_100_0 = true := by decide +kernel
set_option maxRecDepth 100000 in
theorem pR_100_1 : px_chkR prog_15_method_63_code pr_100_1 = true := by decide +kernel
set_option maxRecDepth 100000 in
theorem pR_100_2 : px_chkR prog_15_method_63_code pr_100_2 = true := by decide +kernel
set_option maxRecDepth 100000 in
theorem pR_100_3 : px_chkR prog_15_method_63_code pr_100_3 = true := by decide +kernel
set_option maxRecDepth 100000 in
theorem pR_100_4 : px_chkR prog_15_method_63_code pr_100_4 = true := by decide +kernel
theorem pD_100 : px_chkD pm_100 = true := px_chkD_of (show ∀ row ∈ [pr_100_0, pr_100_1, pr_100_2, pr_100_3, pr_100_4], px_chkR prog_15_method_63_code row = true from List.forall_mem_cons.mpr ⟨pR_100_0, List.forall_mem_cons.mpr ⟨pR_100_1, List.forall_mem_cons.mpr ⟨pR_100_2, List.forall_mem_cons.mpr ⟨pR_100_3, List.forall_mem_cons.mpr ⟨pR_100_4, fun _ h => absurd h List.not_mem_nil⟩⟩⟩⟩⟩)
set_option maxRecDepth 100000 in
theorem pK_100 : px_chkK pm_100 [[1712], [1848, 1850, 91], [1719], [2295], [2296, 2298, 126]] = true := by decide +kernel
theorem pO_100 : px_okM pm_100 := px_chkM_ok px_allY_ok pD_100 pK_100
set_option maxRecDepth 100000 in
theorem pR_101_0 : px_chkR prog_15_method_76_code pr_101_0 = true := by decide +kernel
set_option maxRecDepth 100000 in
theorem pR_101_1 : px_chkR prog_15_method_76_code pr_101_1 = true := by decide +kernel
set_option maxRecDepth 100000 in
theorem pR_101_2 : px_chkR prog_15_method_76_code pr_101_2 = true := by decide +kernel
set_option maxRecDepth 100000 in
theorem pR_101_3 : px_chkR prog_15_method_76_code pr_101_3 = true := by decide +kernel
theorem pD_101 : px_chkD pm_101 = true := px_chkD_of (show ∀ row ∈ [pr_101_0, pr_101_1, pr_101_2, pr_101_3], px_chkR prog_15_method_76_code row = true from List.forall_mem_cons.mpr ⟨pR_101_0, List.forall_mem_cons.mpr ⟨pR_101_1, List.forall_mem_cons.mpr ⟨pR_101_2, List.forall_mem_cons.mpr ⟨pR_101_3, fun _ h => absurd h List.not_mem_nil⟩⟩⟩⟩)
set_option maxRecDepth 100000 in
theorem pK_101 : px_chkK pm_101 [[1718], [1712], [1848, 1850, 91], [1719], [2296, 2298, 126]] = true := by decide +kernel
theorem pO_101 : px_okM pm_101 := px_chkM_ok px_allY_ok pD_101 pK_101
set_option maxRecDepth 100000 in
theorem pR_102_0 : px_chkR prog_15_method_49_code pr_102_0 = true := by decide +kernel
set_option maxRecDepth 100000 in
theorem pR_102_1 : px_chkR prog_15_method_49_code pr_102_1 = true := by decide +kernel
set_option maxRecDepth 100000 in
theorem pR_102_2 : px_chkR prog_15_method_49_code pr_102_2 = true := by decide +kernel
set_option maxRecDepth 100000 in
theorem pR_102_3 : px_chkR prog_15_method_49_code pr_102_3 = true := by decide +kernel
theorem pD_102 : px_chkD pm_102 = true := px_chkD_of (show ∀ row ∈ [pr_102_0, pr_102_1, pr_102_2, pr_102_3], px_chkR prog_15_method_49_code row = true from List.forall_mem_cons.mpr ⟨pR_102_0, List.forall_mem_cons.mpr ⟨pR_102_1, List.forall_mem_cons.mpr ⟨pR_102_2, List.forall_mem_cons.mpr ⟨pR_102_3, fun _ h => absurd h List.not_mem_nil⟩⟩⟩⟩)
set_option maxRecDepth 100000 in
theorem pK_102 : px_chkK pm_102 [[1712], [1848, 1850, 91], [1719], [2295], [2296, 2298, 126]] = true := by decide +kernel
theorem pO_102 : px_okM pm_102 := px_chkM_ok px_allY_ok pD_102 pK_102
set_option maxRecDepth 100000 in
theorem pR_103_0 : px_chkR prog_15_method_48_code pr_103_0 = true := by decide +kernel
theorem pD_103 : px_chkD pm_103 = true := px_chkD_of (show ∀ row ∈ [pr_103_0], px_chkR prog_15_method_48_code row = true from List.forall_mem_cons.mpr ⟨pR_103_0, fun _ h => absurd h List.not_mem_nil⟩)
set_option maxRecDepth 100000 in
theorem pK_103 : px_chkK pm_103 [] = true := by decide +kernel
theorem pO_103 : px_okM pm_103 := px_chkM_ok px_allY_ok pD_103 pK_103
set_option maxRecDepth 100000 in
theorem pR_104_0 : px_chkR prog_15_method_91_code pr_104_0 = true := by decide +kernel
set_option maxRecDepth 100000 in
theorem pR_104_1 : px_chkR prog_15_method_91_code pr_104_1 = true := by decide +kernel
set_option maxRecDepth 100000 in
theorem pR_104_2 : px_chkR prog_15_method_91_code pr_104_2 = true := by decide +kernel
set_option maxRecDepth 100000 in
theorem pR_104_3 : px_chkR prog_15_method_91_code pr_104_3 = true := by decide +kernel
set_option maxRecDepth 100000 in
theorem pR_104_5 : px_chkR prog_15_method_91_code pr_104_5 = true := by decide +kernel
theorem pD_104 : px_chkD pm_104 = true := px_chkD_of (show ∀ row ∈ [pr_104_0, pr_104_1, pr_104_2, pr_104_3, [], pr_104_5], px_chkR prog_15_method_91_code row = true from List.forall_mem_cons.mpr ⟨pR_104_0, List.forall_mem_cons.mpr ⟨pR_104_1, List.forall_mem_cons.mpr ⟨pR_104_2, List.forall_mem_cons.mpr ⟨pR_104_3, List.forall_mem_cons.mpr ⟨rfl, List.forall_mem_cons.mpr ⟨pR_104_5, fun _ h => absurd h List.not_mem_nil⟩⟩⟩⟩⟩⟩)
set_option maxRecDepth 100000 in
theorem pK_104 : px_chkK pm_104 [[1718], [1712], [1848, 1850, 91], [1742], [2296, 2298, 126], [2317, 2319, 131]] = true := by decide +kernel
theorem pO_104 : px_okM pm_104 := px_chkM_ok px_allY_ok pD_104 pK_104
set_option maxRecDepth 100000 in
theorem pR_105_0 : px_chkR prog_15_method_92_code pr_105_0 = true := by decide +kernel
set_option maxRecDepth 100000 in
theorem pR_105_1 : px_chkR prog_15_method_92_code pr_105_1 = true := by decide +kernel
set_option maxRecDepth 100000 in
theorem pR_105_2 : px_chkR prog_15_method_92_code pr_105_2 = true := by decide +kernel
set_option maxRecDepth 100000 in
theorem pR_105_3 : px_chkR prog_15_method_92_code pr_105_3 = true := by decide +kernel
theorem pD_105 : px_chkD pm_105 = true := px_chkD_of (show ∀ row ∈ [pr_105_0, pr_105_1, pr_105_2, pr_105_3], px_chkR prog_15_method_92_code row = true from List.forall_mem_cons.mpr ⟨pR_105_0, List.forall_mem_cons.mpr ⟨pR_105_1, List.forall_mem_cons.mpr ⟨pR_105_2, List.forall_mem_cons.mpr ⟨pR_105_3, fun _ h => absurd h List.not_mem_nil⟩⟩⟩⟩)
set_option maxRecDepth 100000 in
theorem pK_105 : px_chkK pm_105 [[1718], [1712], [1848, 1850, 91], [2296, 2298, 126]] = true := by decide +kernel
theorem pO_105 : px_okM pm_105 := px_chkM_ok px_allY_ok pD_105 pK_105
set_option maxRecDepth 100000 in
theorem pR_106_0 : px_chkR prog_15_method_42_code pr_106_0 = true := by decide +kernel
set_option maxRecDepth 100000 in
theorem pR_106_1 : px_chkR prog_15_method_42_code pr_106_1 = true := by decide +kernel
set_option maxRecDepth 100000 in
theorem pR_106_2 : px_chkR prog_15_method_42_code pr_106_2 = true := by decide +kernel
set_option maxRecDepth 100000 in
theorem pR_106_3 : px_chkR prog_15_method_42_code pr_106_3 = true := by decide +kernel
theorem pD_106 : px_chkD pm_106 = true := px_chkD_of (show ∀ row ∈ [pr_106_0, pr_106_1, pr_106_2, pr_106_3], px_chkR prog_15_method_42_code row = true from List.forall_mem_cons.mpr ⟨pR_106_0, List.forall_mem_cons.mpr ⟨pR_106_1, List.forall_mem_cons.mpr ⟨pR_106_2, List.forall_mem_cons.mpr ⟨pR_106_3, fun _ h => absurd h List.not_mem_nil⟩⟩⟩⟩)
set_option maxRecDepth 100000 in
theorem pK_106 : px_chkK pm_106 [[1718], [1712], [1722], [1719], [1724], [1720]] = true := by decide +kernel
theorem pO_106 : px_okM pm_106 := px_chkM_ok px_allY_ok pD_106 pK_106
set_option maxRecDepth 100000 in
theorem pR_107_0 : px_chkR prog_15_method_41_code pr_107_0 = true := by decide +kernel
set_option maxRecDepth 100000 in
theorem pR_107_1 : px_chkR prog_15_method_41_code pr_107_1 = true := by decide +kernel
set_option maxRecDepth 100000 in
theorem pR_107_2 : px_chkR prog_15_method_41_code pr_107_2 = true := by decide +kernel
theorem pD_107 : px_chkD pm_107 = true := px_chkD_of (show ∀ row ∈ [pr_107_0, pr_107_1, pr_107_2], px_chkR prog_15_method_41_code row = true from List.forall_mem_cons.mpr ⟨pR_107_0, List.forall_mem_cons.mpr ⟨pR_107_1, List.forall_mem_cons.mpr ⟨pR_107_2, fun _ h => absurd h List.not_mem_nil⟩⟩⟩)
set_option maxRecDepth 100000 in
theorem pK_107 : px_chkK pm_107 [[1712], [1719], [1740], [2233, 2235, 113]] = true := by decide +kernel
theorem pO_107 : px_okM pm_107 := px_chkM_ok px_allY_ok pD_107 pK_107
set_option maxRecDepth 100000 in
theorem pR_108_0 : px_chkR prog_15_method_93_code pr_108_0 = true := by decide +kernel
set_option maxRecDepth 100000 in
theorem pR_108_1 : px_chkR prog_15_method_93_code pr_108_1 = true := by decide +kernel
theorem pD_108 : px_chkD pm_108 = true := px_chkD_of (show ∀ row ∈ [pr_108_0, pr_108_1], px_chkR prog_15_method_93_code row = true from List.forall_mem_cons.mpr ⟨pR_108_0, List.forall_mem_cons.mpr ⟨pR_108_1, fun _ h => absurd h List.not_mem_nil⟩⟩)
set_option maxRecDepth 100000 in
theorem pK_108 : px_chkK pm_108 [[1718], [1712], [1848, 1850, 91], [2296, 2298, 126]] = true := by decide +kernel
theorem pO_108 : px_okM pm_108 := px_chkM_ok px_allY_ok pD_108 pK_108
set_option maxRecDepth 100000 in
theorem pR_109_0 : px_chkR prog_15_method_39_code pr_109_0 = true := by decide +kernel
set_option maxRecDepth 100000 in
theorem pR_109_3 : px_chkR prog_15_method_39_code pr_109_3 = true := by decide +kernel
set_option maxRecDepth 100000 in
theorem pR_109_4 : px_chkR prog_15_method_39_code pr_109_4 = true := by decide +kernel
set_option maxRecDepth 100000 in
theorem pR_109_5 : px_chkR prog_15_method_39_code pr_109_5 = true := by decide +kernel
set_option maxRecDepth 100000 in
theorem pR_109_16 : px_chkR prog_15_method_39_code pr_109_16 = true := by decide +kernel
theorem pD_109 : px_chkD pm_109 = true := px_chkD_of (show ∀ row ∈ [pr_109_0, [], [], pr_109_3, pr_109_4, pr_109_5, [], [], [], [], [], [], [], [], [], [], pr_109_16], px_chkR prog_15_method_39_code row = true from List.forall_mem_cons.mpr ⟨pR_109_0, List.forall_mem_cons.mpr ⟨rfl, List.forall_mem_cons.mpr ⟨rfl, List.forall_mem_cons.mpr ⟨pR_109_3, List.forall_mem_cons.mpr ⟨pR_109_4, List.forall_mem_cons.mpr ⟨pR_109_5, List.forall_mem_cons.mpr ⟨rfl, List.forall_mem_cons.mpr ⟨rfl, List.forall_mem_cons.mpr ⟨rfl, List.forall_mem_cons.mpr ⟨rfl, List.forall_mem_cons.mpr ⟨rfl, List.forall_mem_cons.mpr ⟨rfl, List.forall_mem_cons.mpr ⟨rfl, List.forall_mem_cons.mpr ⟨rfl, List.forall_mem_cons.mpr ⟨rfl, List.forall_mem_cons.mpr ⟨rfl, List.forall_mem_cons.mpr ⟨pR_109_16, fun _ h => absurd h List.not_mem_nil⟩⟩⟩⟩⟩⟩⟩⟩⟩⟩⟩⟩⟩⟩⟩⟩⟩)
set_option maxRecDepth 100000 in
theorem pK_109 : px_chkK pm_109 [[1739], [1735], [2237, 2239, 114], [2251, 2253, 117], [1740]] = true := by decide +kernel
theorem pO_109 : px_okM pm_109 := px_chkM_ok px_allY_ok pD_109 pK_109
set_option maxRecDepth 100000 in
theorem pR_110_0 : px_chkR prog_15_method_47_code pr_110_0 = true := by decide +kernel
set_option maxRecDepth 100000 in
theorem pR_110_1 : px_chkR prog_15_method_47_code pr_110_1 = true := by decide +kernel
set_option maxRecDepth 100000 in
theorem pR_110_2 : px_chkR prog_15_method_47_code pr_110_2 = true := by decide +kernel
theorem pD_110 : px_chkD pm_110 = true := px_chkD_of (show ∀ row ∈ [pr_110_0, pr_110_1, pr_110_2], px_chkR prog_15_method_47_code row = true from List.forall_mem_cons.mpr ⟨pR_110_0, List.forall_mem_cons.mpr ⟨pR_110_1, List.forall_mem_cons.mpr ⟨pR_110_2, fun _ h => absurd h List.not_mem_nil⟩⟩⟩)
set_option maxRecDepth 100000 in
theorem pK_110 : px_chkK pm_110 [[1718], [1742]] = true := by decide +kernel
theorem pO_110 : px_okM pm_110 := px_chkM_ok px_allY_ok pD_110 pK_110
set_option maxRecDepth 100000 in
theorem pR_111_0 : px_chkR prog_15_method_89_code pr_111_0 = true := by decide +kernel
set_option maxRecDepth 100000 in
theorem pR_111_1 : px_chkR prog_15_method_89_code pr_111_1 = true := by decide +kernel
set_option maxRecDepth 100000 in
theorem pR_111_2 : px_chkR prog_15_method_89_code pr_111_2 = true := by decide +kernel
set_option maxRecDepth 100000 in
theorem pR_111_18 : px_chkR prog_15_method_89_code pr_111_18 = true := by decide +kernel
set_option maxRecDepth 100000 in
theorem pR_111_19 : px_chkR prog_15_method_89_code pr_111_19 = true := by decide +kernel
theorem pD_111 : px_chkD pm_111 = true := px_chkD_of (show ∀ row ∈ [pr_111_0, pr_111_1, pr_111_2, [], [], [], [], [], [], [], [], [], [], [], [], [], [], [], pr_111_18, pr_111_19], px_chkR prog_15_method_89_code row = true from List.forall_mem_cons.mpr ⟨pR_111_0, List.forall_mem_cons.mpr ⟨pR_111_1, List.forall_mem_cons.mpr ⟨pR_111_2, List.forall_mem_cons.mpr ⟨rfl, List.forall_mem_cons.mpr ⟨rfl, List.forall_mem_cons.mpr ⟨rfl, List.forall_mem_cons.mpr ⟨rfl, List.forall_mem_cons.mpr ⟨rfl, List.forall_mem_cons.mpr ⟨rfl, List.forall_mem_cons.mpr ⟨rfl, List.forall_mem_cons.mpr ⟨rfl, List.forall_mem_cons.mpr ⟨rfl, List.forall_mem_cons.mpr ⟨rfl, List.forall_mem_cons.mpr ⟨rfl, List.forall_mem_cons.mpr ⟨rfl, List.forall_mem_cons.mpr ⟨rfl, List.forall_mem_cons.mpr ⟨rfl, List.forall_mem_cons.mpr ⟨rfl, List.forall_mem_cons.mpr ⟨pR_111_18, List.forall_mem_cons.mpr ⟨pR_111_19, fun _ h => absurd h List.not_mem_nil⟩⟩⟩⟩⟩⟩⟩⟩⟩⟩⟩⟩⟩⟩⟩⟩⟩⟩⟩⟩)
set_option maxRecDepth 100000 in
theorem pK_111 : px_chkK pm_111 [[1712], [1848, 1850, 91], [1714], [1742], [2296, 2298, 126], [2317, 2319, 131]] = true := by decide +kernel
theorem pO_111 : px_okM pm_111 := px_chkM_ok px_allY_ok pD_111 pK_111
set_option maxRecDepth 100000 in
theorem pR_112_0 : px_chkR prog_15_method_2_code pr_112_0 = true := by decide +kernel
theorem pD_112 : px_chkD pm_112 = true := px_chkD_of (show ∀ row ∈ [pr_112_0], px_chkR prog_15_method_2_code row = true from List.forall_mem_cons.mpr ⟨pR_112_0, fun _ h => absurd h List.not_mem_nil⟩)
set_option maxRecDepth 100000 in
theorem pK_112 : px_chkK pm_112 [[1712]] = true := by decide +kernel
theorem pO_112 : px_okM pm_112 := px_chkM_ok px_allY_ok pD_112 pK_112
set_option maxRecDepth 100000 in
theorem pR_113_0 : px_chkR prog_15_method_97_code pr_113_0 = true := by decide +kernel
set_option maxRecDepth 100000 in
theorem pR_113_1 : px_chkR prog_15_method_97_code pr_113_1 = true := by decide +kernel
theorem pD_113 : px_chkD pm_113 = true := px_chkD_of (show ∀ row ∈ [pr_113_0, pr_113_1], px_chkR prog_15_method_97_code row = true from List.forall_mem_cons.mpr ⟨pR_113_0, List.forall_mem_cons.mpr ⟨pR_113_1, fun _ h => absurd h List.not_mem_nil⟩⟩)
set_option maxRecDepth 100000 in
theorem pK_113 : px_chkK pm_113 [[1712], [1848, 1850, 91], [1716]] = true := by decide +kernel
theorem pO_113 : px_okM pm_113 := px_chkM_ok px_allY_ok pD_113 pK_113
set_option maxRecDepth 100000 in
theorem pR_114_0 : px_chkR prog_16_method_1_code pr_114_0 = true := by decide +kernel
set_option maxRecDepth 100000 in
theorem pR_114_1 : px_chkR prog_16_method_1_code pr_114_1 = true := by decide +kernel
set_option maxRecDepth 100000 in
theorem pR_114_2 : px_chkR prog_16_method_1_code pr_114_2 = true := by decide +kernel
theorem pD_114 : px_chkD pm_114 = true := px_chkD_of (show ∀ row ∈ [pr_114_0, pr_114_1, pr_114_2], px_chkR prog_16_method_1_code row = true from List.forall_mem_cons.mpr ⟨pR_114_0, List.forall_mem_cons.mpr ⟨pR_114_1, List.forall_mem_cons.mpr ⟨pR_114_2, fun _ h => absurd h List.not_mem_nil⟩⟩⟩)
set_option maxRecDepth 100000 in
theorem pK_114 : px_chkK pm_114 [[1856, 205, 206], [1864], [1866], [1868], [1870], [1872]] = true := by decide +kernel
theorem pO_114 : px_okM pm_114 := px_chkM_ok px_allY_ok pD_114 pK_114
