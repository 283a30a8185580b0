/-! Written by wip/p1/gen2.py. -/
set_option maxRecDepth 100000 in
theorem pR_0_0 : px_chkR code pr_0_0 = true := by decide +kernel
set_option maxRecDepth 100000 in
theorem pR_0_1 : px_chkR code pr_0_1 = true := by decide +kernel
set_option maxRecDepth 100000 in
theorem pR_0_2 : px_chkR code pr_0_2 = true := by decide +kernel
set_option maxRecDepth 100000 in
theorem pR_0_9 : px_chkR code pr_0_9 = true := by decide +kernel
set_option maxRecDepth 100000 in
theorem pR_0_10 : px_chkR code pr_0_10 = true := by decide +kernel
set_option maxRecDepth 100000 in
theorem pR_0_11 : px_chkR code pr_0_11 = true := by decide +kernel
set_option maxRecDepth 100000 in
theorem pR_0_12 : px_chkR code pr_0_12 = true := by decide +kernel
set_option maxRecDepth 100000 in
theorem pR_0_13 : px_chkR code pr_0_13 = true := by decide +kernel
set_option maxRecDepth 100000 in
theorem pR_0_14 : px_chkR code pr_0_14 = true := by decide +kernel
set_option maxRecDepth 100000 in
theorem pR_0_15 : px_chkR code pr_0_15 = true := by decide +kernel
set_option maxRecDepth 100000 in
theorem pR_0_16 : px_chkR code pr_0_16 = true := by decide +kernel
set_option maxRecDepth 100000 in
theorem pR_0_17 : px_chkR code pr_0_17 = true := by decide +kernel
set_option maxRecDepth 100000 in
theorem pR_0_18 : px_chkR code pr_0_18 = true := by decide +kernel
set_option maxRecDepth 100000 in
theorem pR_0_19 : px_chkR code pr_0_19 = true := by decide +kernel
set_option maxRecDepth 100000 in
theorem pR_0_20 : px_chkR code pr_0_20 = true := by decide +kernel
set_option maxRecDepth 100000 in
theorem pR_0_21 : px_chkR code pr_0_21 = true := by decide +kernel
set_option maxRecDepth 100000 in
theorem pR_0_22 : px_chkR code pr_0_22 = true := by decide +kernel
set_option maxRecDepth 100000 in
theorem pR_0_23 : px_chkR code pr_0_23 = true := by decide +kernel
set_option maxRecDepth 100000 in
theorem pR_0_24 : px_chkR code pr_0_24 = true := by decide +kernel
set_option maxRecDepth 100000 in
theorem pR_0_25 : px_chkR code pr_0_25 = true := by decide +kernel
set_option maxRecDepth 100000 in
theorem pR_0_26 : px_chkR code pr_0_26 = true := by decide +kernel
set_option maxRecDepth 100000 in
theorem pR_0_27 : px_chkR code pr_0_27 = true := by decide +kernel
set_option maxRecDepth 100000 in
theorem pR_0_28 : px_chkR code pr_0_28 = true := by decide +kernel
set_option maxRecDepth 100000 in
theorem pR_0_29 : px_chkR code pr_0_29 = true := by decide +kernel
set_option maxRecDepth 100000 in
theorem pR_0_30 : px_chkR code pr_0_30 = true := by decide +kernel
set_option maxRecDepth 100000 in
theorem pR_0_31 : px_chkR code pr_0_31 = true := by decide +kernel
set_option maxRecDepth 100000 in
theorem pR_0_32 : px_chkR code pr_0_32 = true := by decide +kernel
set_option maxRecDepth 100000 in
theorem pR_0_33 : px_chkR code pr_0_33 = true := by decide +kernel
set_option maxRecDepth 100000 in
theorem pR_0_34 : px_chkR code pr_0_34 = true := by decide +kernel
set_option maxRecDepth 100000 in
theorem pR_0_35 : px_chkR code pr_0_35 = true := by decide +kernel
set_option maxRecDepth 100000 in
theorem pR_0_36 : px_chkR code pr_0_36 = true := by decide +kernel
set_option maxRecDepth 100000 in
theorem pR_0_37 : px_chkR code pr_0_37 = true := by decide +kernel
set_option maxRecDepth 100000 in
theorem pR_0_38 : px_chkR code pr_0_38 = true := by decide +kernel
set_option maxRecDepth 100000 in
theorem pR_0_39 : px_chkR code pr_0_39 = true := by decide +kernel
set_option maxRecDepth 100000 in
theorem pR_0_40 : px_chkR code pr_0_40 = true := by decide +kernel
set_option maxRecDepth 100000 in
theorem pR_0_41 : px_chkR code pr_0_41 = true := by decide +kernel
set_option maxRecDepth 100000 in
theorem pR_0_42 : px_chkR code pr_0_42 = true := by decide +kernel
set_option maxRecDepth 100000 in
theorem pR_0_43 : px_chkR code pr_0_43 = true := by decide +kernel
set_option maxRecDepth 100000 in
theorem pR_0_44 : px_chkR code pr_0_44 = true := by decide +kernel
set_option maxRecDepth 100000 in
theorem pR_0_45 : px_chkR code pr_0_45 = true := by decide +kernel
set_option maxRecDepth 100000 in
theorem pR_0_46 : px_chkR code pr_0_46 = true := by decide +kernel
set_option maxRecDepth 100000 in
theorem pR_0_47 : px_chkR code pr_0_47 = true := by decide +kernel
set_option maxRecDepth 100000 in
theorem pR_0_48 : px_chkR code pr_0_48 = true := by decide +kernel
set_option maxRecDepth 100000 in
theorem pR_0_49 : px_chkR code pr_0_49 = true := by decide +kernel
set_option maxRecDepth 100000 in
theorem pR_0_50 : px_chkR code pr_0_50 = true := by decide +kernel
set_option maxRecDepth 100000 in
theorem pR_0_51 : px_chkR code pr_0_51 = true := by decide +kernel
set_option maxRecDepth 100000 in
theorem pR_0_52 : px_chkR code pr_0_52 = true := by decide +kernel
set_option maxRecDepth 100000 in
theorem pR_0_53 : px_chkR code pr_0_53 = true := by decide +kernel
set_option maxRecDepth 100000 in
theorem pR_0_54 : px_chkR code pr_0_54 = true := by decide +kernel
set_option maxRecDepth 100000 in
theorem pR_0_55 : px_chkR code pr_0_55 = true := by decide +kernel
set_option maxRecDepth 100000 in
theorem pR_0_57 : px_chkR code pr_0_57 = true := by decide +kernel
set_option maxRecDepth 100000 in
theorem pR_0_58 : px_chkR code pr_0_58 = true := by decide +kernel
set_option maxRecDepth 100000 in
theorem pR_0_59 : px_chkR code pr_0_59 = true := by decide +kernel
set_option maxRecDepth 100000 in
theorem pR_0_60 : px_chkR code pr_0_60 = true := by decide +kernel
set_option maxRecDepth 100000 in
theorem pR_0_61 : px_chkR code pr_0_61 = true := by decide +kernel
set_option maxRecDepth 100000 in
theorem pR_0_62 : px_chkR code pr_0_62 = true := by decide +kernel
set_option maxRecDepth 100000 in
theorem pR_0_63 : px_chkR code pr_0_63 = true := by decide +kernel
set_option maxRecDepth 100000 in
theorem pR_0_64 : px_chkR code pr_0_64 = true := by decide +kernel
set_option maxRecDepth 100000 in
theorem pR_0_65 : px_chkR code pr_0_65 = true := by decide +kernel
set_option maxRecDepth 100000 in
theorem pR_0_66 : px_chkR code pr_0_66 = true := by decide +kernel
set_option maxRecDepth 100000 in
theorem pR_0_67 : px_chkR code pr_0_67 = true := by decide +kernel
set_option maxRecDepth 100000 in
theorem pR_0_68 : px_chkR code pr_0_68 = true := by decide +kernel
set_option maxRecDepth 100000 in
theorem pR_0_69 : px_chkR code pr_0_69 = true := by decide +kernel
set_option maxRecDepth 100000 in
theorem pR_0_70 : px_chkR code pr_0_70 = true := by decide +kernel
set_option maxRecDepth 100000 in
theorem pR_0_71 : px_chkR code pr_0_71 = true := by decide +kernel
set_option maxRecDepth 100000 in
theorem pR_0_72 : px_chkR code pr_0_72 = true := by decide +kernel
set_option maxRecDepth 100000 in
theorem pR_0_74 : px_chkR code pr_0_74 = true := by decide +kernel
set_option maxRecDepth 100000 in
theorem pR_0_75 : px_chkR code pr_0_75 = true := by decide +kernel
set_option maxRecDepth 100000 in
theorem pR_0_76 : px_chkR code pr_0_76 = true := by decide +kernel
set_option maxRecDepth 100000 in
theorem pR_0_77 : px_chkR code pr_0_77 = true := by decide +kernel
set_option maxRecDepth 100000 in
theorem pR_0_78 : px_chkR code pr_0_78 = true := by decide +kernel
set_option maxRecDepth 100000 in
theorem pR_0_79 : px_chkR code pr_0_79 = true := by decide +kernel
set_option maxRecDepth 100000 in
theorem pR_0_80 : px_chkR code pr_0_80 = true := by decide +kernel
set_option maxRecDepth 100000 in
theorem pR_0_81 : px_chkR code pr_0_81 = true := by decide +kernel
set_option maxRecDepth 100000 in
theorem pR_0_82 : px_chkR code pr_0_82 = true := by decide +kernel
set_option maxRecDepth 100000 in
theorem pR_0_83 : px_chkR code pr_0_83 = true := by decide +kernel
set_option maxRecDepth 100000 in
theorem pR_0_84 : px_chkR code pr_0_84 = true := by decide +kernel
set_option maxRecDepth 100000 in
theorem pR_0_85 : px_chkR code pr_0_85 = true := by decide +kernel
set_option maxRecDepth 100000 in
theorem pR_0_86 : px_chkR code pr_0_86 = true := by decide +kernel
set_option maxRecDepth 100000 in
theorem pR_0_87 : px_chkR code pr_0_87 = true := by decide +kernel
set_option maxRecDepth 100000 in
theorem pR_0_88 : px_chkR code pr_0_88 = true := by decide +kernel
set_option maxRecDepth 100000 in
theorem pR_0_89 : px_chkR code pr_0_89 = true := by decide +kernel
set_option maxRecDepth 100000 in
theorem pR_0_90 : px_chkR code pr_0_90 = true := by decide +kernel
set_option maxRecDepth 100000 in
theorem pR_0_91 : px_chkR code pr_0_91 = true := by decide +kernel
set_option maxRecDepth 100000 in
theorem pR_0_92 : px_chkR code pr_0_92 = true := by decide +kernel
set_option maxRecDepth 100000 in
theorem pR_0_93 : px_chkR code pr_0_93 = true := by decide +kernel
set_option maxRecDepth 100000 in
theorem pR_0_94 : px_chkR code pr_0_94 = true := by decide +kernel
set_option maxRecDepth 100000 in
theorem pR_0_95 : px_chkR code pr_0_95 = true := by decide +kernel
set_option maxRecDepth 100000 in
theorem pR_0_96 : px_chkR code pr_0_96 = true := by decide +kernel
set_option maxRecDepth 100000 in
theorem pR_0_97 : px_chkR code pr_0_97 = true := by decide +kernel
set_option maxRecDepth 100000 in
theorem pR_0_98 : px_chkR code pr_0_98 = true := by decide +kernel
set_option maxRecDepth 100000 in
theorem pR_0_99 : px_chkR code pr_0_99 = true := by decide +kernel
set_option maxRecDepth 100000 in
theorem pR_0_100 : px_chkR code pr_0_100 = true := by decide +kernel
set_option maxRecDepth 100000 in
theorem pR_0_101 : px_chkR code pr_0_101 = true := by decide +kernel
set_option maxRecDepth 100000 in
theorem pR_0_102 : px_chkR code pr_0_102 = true := by decide +kernel
set_option maxRecDepth 100000 in
theorem pR_0_103 : px_chkR code pr_0_103 = true := by decide +kernel
set_option maxRecDepth 100000 in
theorem pR_0_104 : px_chkR code pr_0_104 = true := by decide +kernel
set_option maxRecDepth 100000 in
theorem pR_0_105 : px_chkR code pr_0_105 = true := by decide +kernel
set_option maxRecDepth 100000 in
theorem pR_0_106 : px_chkR code pr_0_106 = true := by decide +kernel
set_option maxRecDepth 100000 in
theorem pR_0_107 : px_chkR code pr_0_107 = true := by decide +kernel
set_option maxRecDepth 100000 in
theorem pR_0_108 : px_chkR code pr_0_108 = true := by decide +kernel
set_option maxRecDepth 100000 in
theorem pR_0_109 : px_chkR code pr_0_109 = true := by decide +kernel
set_option maxRecDepth 100000 in
theorem pR_0_110 : px_chkR code pr_0_110 = true := by decide +kernel
set_option maxRecDepth 100000 in
theorem pR_0_111 : px_chkR code pr_0_111 = true := by decide +kernel
set_option maxRecDepth 100000 in
theorem pR_0_112 : px_chkR code pr_0_112 = true := by decide +kernel
set_option maxRecDepth 100000 in
theorem pR_0_113 : px_chkR code pr_0_113 = true := by decide +kernel
set_option maxRecDepth 100000 in
theorem pR_0_114 : px_chkR code pr_0_114 = true := by decide +kernel
theorem pD_0 : px_chkD pm_0 = true := px_chkD_of (show ∀ row ∈ [pr_0_0, pr_0_1, pr_0_2, [], [], [], [], [], [], pr_0_9, pr_0_10, pr_0_11, pr_0_12, pr_0_13, pr_0_14, pr_0_15, pr_0_16, pr_0_17, pr_0_18, pr_0_19, pr_0_20, pr_0_21, pr_0_22, pr_0_23, pr_0_24, pr_0_25, pr_0_26, pr_0_27, pr_0_28, pr_0_29, pr_0_30, pr_0_31, pr_0_32, pr_0_33, pr_0_34, pr_0_35, pr_0_36, pr_0_37, pr_0_38, pr_0_39, pr_0_40, pr_0_41, pr_0_42, pr_0_43, pr_0_44, pr_0_45, pr_0_46, pr_0_47, pr_0_48, pr_0_49, pr_0_50, pr_0_51, pr_0_52, pr_0_53, pr_0_54, pr_0_55, [], pr_0_57, pr_0_58, pr_0_59, pr_0_60, pr_0_61, pr_0_62, pr_0_63, pr_0_64, pr_0_65, pr_0_66, pr_0_67, pr_0_68, pr_0_69, pr_0_70, pr_0_71, pr_0_72, [], pr_0_74, pr_0_75, pr_0_76, pr_0_77, pr_0_78, pr_0_79, pr_0_80, pr_0_81, pr_0_82, pr_0_83, pr_0_84, pr_0_85, pr_0_86, pr_0_87, pr_0_88, pr_0_89, pr_0_90, pr_0_91, pr_0_92, pr_0_93, pr_0_94, pr_0_95, pr_0_96, pr_0_97, pr_0_98, pr_0_99, pr_0_100, pr_0_101, pr_0_102, pr_0_103, pr_0_104, pr_0_105, pr_0_106, pr_0_107, pr_0_108, pr_0_109, pr_0_110, pr_0_111, pr_0_112, pr_0_113, pr_0_114], px_chkR code row = true from List.forall_mem_cons.mpr ⟨pR_0_0, List.forall_mem_cons.mpr ⟨pR_0_1, List.forall_mem_cons.mpr ⟨pR_0_2, List.forall_mem_cons.mpr ⟨rfl, List.forall_mem_cons.mpr ⟨rfl, List.forall_mem_cons.mpr ⟨rfl, List.forall_mem_cons.mpr ⟨rfl, List.forall_mem_cons.mpr ⟨rfl, List.forall_mem_cons.mpr ⟨rfl, List.forall_mem_cons.mpr ⟨pR_0_9, List.forall_mem_cons.mpr ⟨pR_0_10, List.forall_mem_cons.mpr ⟨pR_0_11, List.forall_mem_cons.mpr ⟨pR_0_12, List.forall_mem_cons.mpr ⟨pR_0_13, List.forall_mem_cons.mpr ⟨pR_0_14, List.forall_mem_cons.mpr ⟨pR_0_15, List.forall_mem_cons.mpr ⟨pR_0_16, List.forall_mem_cons.mpr ⟨pR_0_17, List.forall_mem_cons.mpr ⟨pR_0_18, List.forall_mem_cons.mpr ⟨pR_0_19, List.forall_mem_cons.mpr ⟨pR_0_20, List.forall_mem_cons.mpr ⟨pR_0_21, List.forall_mem_cons.mpr ⟨pR_0_22, List.forall_mem_cons.mpr ⟨pR_0_23, List.forall_mem_cons.mpr ⟨pR_0_24, List.forall_mem_cons.mpr ⟨pR_0_25, List.forall_mem_cons.mpr ⟨pR_0_26, List.forall_mem_cons.mpr ⟨pR_0_27, List.forall_mem_cons.mpr ⟨pR_0_28, List.forall_mem_cons.mpr ⟨pR_0_29, List.forall_mem_cons.mpr ⟨pR_0_30, List.forall_mem_cons.mpr ⟨pR_0_31, List.forall_mem_cons.mpr ⟨pR_0_32, List.forall_mem_cons.mpr ⟨pR_0_33, List.forall_mem_cons.mpr ⟨pR_0_34, List.forall_mem_cons.mpr ⟨pR_0_35, List.forall_mem_cons.mpr ⟨pR_0_36, List.forall_mem_cons.mpr ⟨pR_0_37, List.forall_mem_cons.mpr ⟨pR_0_38, List.forall_mem_cons.mpr ⟨pR_0_39, List.forall_mem_cons.mpr ⟨pR_0_40, List.forall_mem_cons.mpr ⟨pR_0_41, List.forall_mem_cons.mpr ⟨pR_0_42, List.forall_mem_cons.mpr ⟨pR_0_43, List.forall_mem_cons.mpr ⟨pR_0_44, List.forall_mem_cons.mpr ⟨pR_0_45, List.forall_mem_cons.mpr ⟨pR_0_46, List.forall_mem_cons.mpr ⟨pR_0_47, List.forall_mem_cons.mpr ⟨pR_0_48, List.forall_mem_cons.mpr ⟨pR_0_49, List.forall_mem_cons.mpr ⟨pR_0_50, List.forall_mem_cons.mpr ⟨pR_0_51, List.forall_mem_cons.mpr ⟨pR_0_52, List.forall_mem_cons.mpr ⟨pR_0_53, List.forall_mem_cons.mpr ⟨pR_0_54, List.forall_mem_cons.mpr ⟨pR_0_55, List.forall_mem_cons.mpr ⟨rfl, List.forall_mem_cons.mpr ⟨pR_0_57, List.forall_mem_cons.mpr ⟨pR_0_58, List.forall_mem_cons.mpr ⟨pR_0_59, List.forall_mem_cons.mpr ⟨pR_0_60, List.forall_mem_cons.mpr ⟨pR_0_61, List.forall_mem_cons.mpr ⟨pR_0_62, List.forall_mem_cons.mpr ⟨pR_0_63, List.forall_mem_cons.mpr ⟨pR_0_64, List.forall_mem_cons.mpr ⟨pR_0_65, List.forall_mem_cons.mpr ⟨pR_0_66, List.forall_mem_cons.mpr ⟨pR_0_67, List.forall_mem_cons.mpr ⟨pR_0_68, List.forall_mem_cons.mpr ⟨pR_0_69, List.forall_mem_cons.mpr ⟨pR_0_70, List.forall_mem_cons.mpr ⟨pR_0_71, List.forall_mem_cons.mpr ⟨pR_0_72, List.forall_mem_cons.mpr ⟨rfl, List.forall_mem_cons.mpr ⟨pR_0_74, List.forall_mem_cons.mpr ⟨pR_0_75, List.forall_mem_cons.mpr ⟨pR_0_76, List.forall_mem_cons.mpr ⟨pR_0_77, List.forall_mem_cons.mpr ⟨pR_0_78, List.forall_mem_cons.mpr ⟨pR_0_79, List.forall_mem_cons.mpr ⟨pR_0_80, List.forall_mem_cons.mpr ⟨pR_0_81, List.forall_mem_cons.mpr ⟨pR_0_82, List.forall_mem_cons.mpr ⟨pR_0_83, List.forall_mem_cons.mpr ⟨pR_0_84, List.forall_mem_cons.mpr ⟨pR_0_85, List.forall_mem_cons.mpr ⟨pR_0_86, List.forall_mem_cons.mpr ⟨pR_0_87, List.forall_mem_cons.mpr ⟨pR_0_88, List.forall_mem_cons.mpr ⟨pR_0_89, List.forall_mem_cons.mpr ⟨pR_0_90, List.forall_mem_cons.mpr ⟨pR_0_91, List.forall_mem_cons.mpr ⟨pR_0_92, List.forall_mem_cons.mpr ⟨pR_0_93, List.forall_mem_cons.mpr ⟨pR_0_94, List.forall_mem_cons.mpr ⟨pR_0_95, List.forall_mem_cons.mpr ⟨pR_0_96, List.forall_mem_cons.mpr ⟨pR_0_97, List.forall_mem_cons.mpr ⟨pR_0_98, List.forall_mem_cons.mpr ⟨pR_0_99, List.forall_mem_cons.mpr ⟨pR_0_100, List.forall_mem_cons.mpr ⟨pR_0_101, List.forall_mem_cons.mpr ⟨pR_0_102, List.forall_mem_cons.mpr ⟨pR_0_103, List.forall_mem_cons.mpr ⟨pR_0_104, List.forall_mem_cons.mpr ⟨pR_0_105, List.forall_mem_cons.mpr ⟨pR_0_106, List.forall_mem_cons.mpr ⟨pR_0_107, List.forall_mem_cons.mpr ⟨pR_0_108, List.forall_mem_cons.mpr ⟨pR_0_109, List.forall_mem_cons.mpr ⟨pR_0_110, List.forall_mem_cons.mpr ⟨pR_0_111, List.forall_mem_cons.mpr ⟨pR_0_112, List.forall_mem_cons.mpr ⟨pR_0_113, List.forall_mem_cons.mpr ⟨pR_0_114, fun _ h => absurd h List.not_mem_nil⟩⟩⟩⟩⟩⟩⟩⟩⟩⟩⟩⟩⟩⟩⟩⟩⟩⟩⟩⟩⟩⟩⟩⟩⟩⟩⟩⟩⟩⟩⟩⟩⟩⟩⟩⟩⟩⟩⟩⟩⟩⟩⟩⟩⟩⟩⟩⟩⟩⟩⟩⟩⟩⟩⟩⟩⟩⟩⟩⟩⟩⟩⟩⟩⟩⟩⟩⟩⟩⟩⟩⟩⟩⟩⟩⟩⟩⟩⟩⟩⟩⟩⟩⟩⟩⟩⟩⟩⟩⟩⟩⟩⟩⟩⟩⟩⟩⟩⟩⟩⟩⟩⟩⟩⟩⟩⟩⟩⟩⟩⟩⟩⟩⟩⟩)
set_option maxRecDepth 100000 in
theorem pK_0 : px_chkK pm_0 [[199], [201, 202, 203], [1657], [1659, 1660, 1661], [637, 638], [2478, 2479, 2480], [1839, 1840, 1841], [715, 716], [2482, 2483, 2484], [741, 742], [1843, 1844, 1845], [1066, 1067], [2229, 2230, 2231], [629, 630, 631], [2287, 2288, 2289], [1171, 1172], [2486, 2487, 2488], [1206, 1207], [2496, 2497, 2498], [1216, 1217], [2500, 2501, 2502], [1230, 1231], [2504, 2505, 2506], [1237, 1238], [2508, 2509, 2510], [1244, 1245], [2291, 2292, 2293], [1319, 1320], [2321, 2322, 2323], [1330, 1331], [2325, 2326, 2327], [1341, 1342], [2329, 2330, 2331], [1474, 1475], [2413, 2414, 2415], [1485, 1486], [2429, 2430, 2431], [1498, 1499], [2433, 2434, 2435], [1514, 1515], [2437, 2438, 2439], [1593, 1594], [2474, 2475, 2476], [1612, 1613], [2512, 2513, 2514], [1629, 1630], [2520, 2521, 2522], [1643, 1644], [2524, 2525, 2526], [1650, 1651], [2529, 2530, 2531]] = true := by decide +kernel
theorem pO_0 : px_okM pm_0 := px_chkM_ok px_allY_ok pD_0 pK_0
