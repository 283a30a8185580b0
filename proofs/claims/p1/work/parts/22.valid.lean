/-! Written by wip/p1/gen2.py: the data of part 07 are what the Statement says (places in lw_tbl). -/
set_option maxRecDepth 100000 in
theorem pC_0 : px_okC 0 "TextAtlas" pT_0 16 := px_chkC_ok (ps := [596, 598, 600, 602, 604, 606, 608, 610, 612, 614, 616, 618, 620, 622, 624, 626]) (a := 200) (b := 165) (by decide +kernel)
set_option maxRecDepth 100000 in
theorem pC_1 : px_okC 1 "TextAtlas$Text" pT_1 2 := px_chkC_ok (ps := [227, 229]) (a := 210) (b := 166) (by decide +kernel)
set_option maxRecDepth 100000 in
theorem pC_2 : px_okC 2 "TextAtlas$Data" pT_2 8 := px_chkC_ok (ps := [379, 381, 383, 385, 387, 389, 391, 393]) (a := 235) (b := 167) (by decide +kernel)
set_option maxRecDepth 100000 in
theorem pC_3 : px_okC 3 "TextAtlas$Fact" pT_3 13 := px_chkC_ok (ps := [279, 281, 283, 285, 287, 289, 291, 293, 295, 297, 299, 301, 303]) (a := 245) (b := 168) (by decide +kernel)
set_option maxRecDepth 100000 in
theorem pC_4 : px_okC 4 "TextAtlas$Span" pT_4 9 := px_chkC_ok (ps := [340, 342, 344, 346, 348, 350, 352, 354, 356]) (a := 307) (b := 169) (by decide +kernel)
set_option maxRecDepth 100000 in
theorem pC_5 : px_okC 5 "TextAtlas$Reader" pT_5 6 := px_chkC_ok (ps := [408, 410, 412, 414, 416, 418]) (a := 397) (b := 170) (by decide +kernel)
set_option maxRecDepth 100000 in
theorem pC_6 : px_okC 6 "TextAtlas$Decompositions" pT_6 9 := px_chkC_ok (ps := [439, 441, 443, 445, 447, 449, 451, 453, 455]) (a := 422) (b := 171) (by decide +kernel)
set_option maxRecDepth 100000 in
theorem pC_7 : px_okC 7 "TextAtlas$Forms" pT_7 5 := px_chkC_ok (ps := [469, 471, 473, 475, 477]) (a := 459) (b := 172) (by decide +kernel)
set_option maxRecDepth 100000 in
theorem pC_8 : px_okC 8 "TextAtlas$Breaks" pT_8 7 := px_chkC_ok (ps := [493, 495, 497, 499, 501, 503, 505]) (a := 481) (b := 173) (by decide +kernel)
set_option maxRecDepth 100000 in
theorem pC_9 : px_okC 9 "TextAtlas$Casing" pT_9 10 := px_chkC_ok (ps := [525, 527, 529, 531, 533, 535, 537, 539, 541, 543]) (a := 510) (b := 174) (by decide +kernel)
set_option maxRecDepth 100000 in
theorem pC_10 : px_okC 10 "TextAtlas$Collation" pT_10 8 := px_chkC_ok (ps := [563, 565, 567, 569, 571, 573, 575, 577]) (a := 547) (b := 175) (by decide +kernel)
set_option maxRecDepth 100000 in
theorem pC_11 : px_okC 11 "TextAtlasModel" pT_11 42 := px_chkC_ok (ps := [1754, 1756, 1758, 1760, 1762, 1764, 1766, 1768, 1770, 1772, 1774, 1776, 1778, 1780, 1782, 1784, 1786, 1788, 1790, 1792, 1794, 1796, 1798, 1800, 1802, 1804, 1806, 1808, 1810, 1812, 1814, 1816, 1818, 1820, 1822, 1824, 1826, 1828, 1830, 1832, 1834, 1836]) (a := 1658) (b := 176) (by decide +kernel)
set_option maxRecDepth 100000 in
theorem pC_12 : px_okC 12 "TextAtlasModel$Line" pT_12 13 := px_chkC_ok (ps := [1875, 1877, 1879, 1881, 1883, 1885, 1887, 1889, 1891, 1893, 1895, 1897, 1899]) (a := 1852) (b := 190) (by decide +kernel)
theorem px_allC_ok : px_allC := by
  intro ci C T N h
  have hlt : ci < 13 := (List.getElem?_eq_some_iff.mp h).1
  have hs : ci = 0 ∨ ci = 1 ∨ ci = 2 ∨ ci = 3 ∨ ci = 4 ∨ ci = 5 ∨ ci = 6 ∨ ci = 7 ∨ ci = 8 ∨ ci = 9 ∨ ci = 10 ∨ ci = 11 ∨ ci = 12 := by omega
  rcases hs with rfl | rfl | rfl | rfl | rfl | rfl | rfl | rfl | rfl | rfl | rfl | rfl | rfl
  · cases h; exact pC_0
  · cases h; exact pC_1
  · cases h; exact pC_2
  · cases h; exact pC_3
  · cases h; exact pC_4
  · cases h; exact pC_5
  · cases h; exact pC_6
  · cases h; exact pC_7
  · cases h; exact pC_8
  · cases h; exact pC_9
  · cases h; exact pC_10
  · cases h; exact pC_11
  · cases h; exact pC_12
set_option maxRecDepth 100000 in
theorem pY_1 : px_okY pm_1 := px_chkY_ok (a := 203) (b := 165) (by decide +kernel)
set_option maxRecDepth 100000 in
theorem pY_2 : px_okY pm_2 := px_chkY_ok (a := 1618) (b := 165) (by decide +kernel)
set_option maxRecDepth 100000 in
theorem pY_3 : px_okY pm_3 := px_chkY_ok (a := 1212) (b := 165) (by decide +kernel)
set_option maxRecDepth 100000 in
theorem pY_4 : px_okY pm_4 := px_chkY_ok (a := 1635) (b := 165) (by decide +kernel)
set_option maxRecDepth 100000 in
theorem pY_5 : px_okY pm_5 := px_chkY_ok (a := 1347) (b := 165) (by decide +kernel)
set_option maxRecDepth 100000 in
theorem pY_6 : px_okY pm_6 := px_chkY_ok (a := 1599) (b := 165) (by decide +kernel)
set_option maxRecDepth 100000 in
theorem pY_7 : px_okY pm_7 := px_chkY_ok (a := 1656) (b := 165) (by decide +kernel)
set_option maxRecDepth 100000 in
theorem pY_8 : px_okY pm_8 := px_chkY_ok (a := 1491) (b := 165) (by decide +kernel)
set_option maxRecDepth 100000 in
theorem pY_9 : px_okY pm_9 := px_chkY_ok (a := 722) (b := 165) (by decide +kernel)
set_option maxRecDepth 100000 in
theorem pY_10 : px_okY pm_10 := px_chkY_ok (a := 644) (b := 165) (by decide +kernel)
set_option maxRecDepth 100000 in
theorem pY_11 : px_okY pm_11 := px_chkY_ok (a := 714) (b := 165) (by decide +kernel)
set_option maxRecDepth 100000 in
theorem pY_12 : px_okY pm_12 := px_chkY_ok (a := 1638) (b := 165) (by decide +kernel)
set_option maxRecDepth 100000 in
theorem pY_13 : px_okY pm_13 := px_chkY_ok (a := 1325) (b := 165) (by decide +kernel)
set_option maxRecDepth 100000 in
theorem pY_14 : px_okY pm_14 := px_chkY_ok (a := 1336) (b := 165) (by decide +kernel)
set_option maxRecDepth 100000 in
theorem pY_15 : px_okY pm_15 := px_chkY_ok (a := 1520) (b := 165) (by decide +kernel)
set_option maxRecDepth 100000 in
theorem pY_16 : px_okY pm_16 := px_chkY_ok (a := 749) (b := 165) (by decide +kernel)
set_option maxRecDepth 100000 in
theorem pY_17 : px_okY pm_17 := px_chkY_ok (a := 1480) (b := 165) (by decide +kernel)
set_option maxRecDepth 100000 in
theorem pY_18 : px_okY pm_18 := px_chkY_ok (a := 1504) (b := 165) (by decide +kernel)
set_option maxRecDepth 100000 in
theorem pY_19 : px_okY pm_19 := px_chkY_ok (a := 1250) (b := 165) (by decide +kernel)
set_option maxRecDepth 100000 in
theorem pY_20 : px_okY pm_20 := px_chkY_ok (a := 1222) (b := 165) (by decide +kernel)
set_option maxRecDepth 100000 in
theorem pY_21 : px_okY pm_21 := px_chkY_ok (a := 1236) (b := 165) (by decide +kernel)
set_option maxRecDepth 100000 in
theorem pY_22 : px_okY pm_22 := px_chkY_ok (a := 1184) (b := 165) (by decide +kernel)
set_option maxRecDepth 100000 in
theorem pY_23 : px_okY pm_23 := px_chkY_ok (a := 1201) (b := 165) (by decide +kernel)
set_option maxRecDepth 100000 in
theorem pY_24 : px_okY pm_24 := px_chkY_ok (a := 753) (b := 165) (by decide +kernel)
set_option maxRecDepth 100000 in
theorem pY_25 : px_okY pm_25 := px_chkY_ok (a := 1495) (b := 165) (by decide +kernel)
set_option maxRecDepth 100000 in
theorem pY_26 : px_okY pm_26 := px_chkY_ok (a := 725) (b := 165) (by decide +kernel)
set_option maxRecDepth 100000 in
theorem pY_27 : px_okY pm_27 := px_chkY_ok (a := 1215) (b := 165) (by decide +kernel)
set_option maxRecDepth 100000 in
theorem pY_28 : px_okY pm_28 := px_chkY_ok (a := 1254) (b := 165) (by decide +kernel)
set_option maxRecDepth 100000 in
theorem pY_29 : px_okY pm_29 := px_chkY_ok (a := 1180) (b := 165) (by decide +kernel)
set_option maxRecDepth 100000 in
theorem pY_30 : px_okY pm_30 := px_chkY_ok (a := 632) (b := 165) (by decide +kernel)
set_option maxRecDepth 100000 in
theorem pY_31 : px_okY pm_31 := px_chkY_ok (a := 1073) (b := 165) (by decide +kernel)
set_option maxRecDepth 100000 in
theorem pY_32 : px_okY pm_32 := px_chkY_ok (a := 1243) (b := 165) (by decide +kernel)
set_option maxRecDepth 100000 in
theorem pY_33 : px_okY pm_33 := px_chkY_ok (a := 1177) (b := 165) (by decide +kernel)
set_option maxRecDepth 100000 in
theorem pY_34 : px_okY pm_34 := px_chkY_ok (a := 1649) (b := 165) (by decide +kernel)
set_option maxRecDepth 100000 in
theorem pY_35 : px_okY pm_35 := px_chkY_ok (a := 484) (b := 173) (by decide +kernel)
set_option maxRecDepth 100000 in
theorem pY_36 : px_okY pm_36 := px_chkY_ok (a := 513) (b := 174) (by decide +kernel)
set_option maxRecDepth 100000 in
theorem pY_37 : px_okY pm_37 := px_chkY_ok (a := 550) (b := 175) (by decide +kernel)
set_option maxRecDepth 100000 in
theorem pY_38 : px_okY pm_38 := px_chkY_ok (a := 238) (b := 167) (by decide +kernel)
set_option maxRecDepth 100000 in
theorem pY_39 : px_okY pm_39 := px_chkY_ok (a := 636) (b := 167) (by decide +kernel)
set_option maxRecDepth 100000 in
theorem pY_40 : px_okY pm_40 := px_chkY_ok (a := 425) (b := 171) (by decide +kernel)
set_option maxRecDepth 100000 in
theorem pY_41 : px_okY pm_41 := px_chkY_ok (a := 1081) (b := 171) (by decide +kernel)
set_option maxRecDepth 100000 in
theorem pY_42 : px_okY pm_42 := px_chkY_ok (a := 1129) (b := 171) (by decide +kernel)
set_option maxRecDepth 100000 in
theorem pY_43 : px_okY pm_43 := px_chkY_ok (a := 1077) (b := 171) (by decide +kernel)
set_option maxRecDepth 100000 in
theorem pY_44 : px_okY pm_44 := px_chkY_ok (a := 248) (b := 168) (by decide +kernel)
set_option maxRecDepth 100000 in
theorem pY_45 : px_okY pm_45 := px_chkY_ok (a := 462) (b := 172) (by decide +kernel)
set_option maxRecDepth 100000 in
theorem pY_46 : px_okY pm_46 := px_chkY_ok (a := 400) (b := 170) (by decide +kernel)
set_option maxRecDepth 100000 in
theorem pY_47 : px_okY pm_47 := px_chkY_ok (a := 787) (b := 170) (by decide +kernel)
set_option maxRecDepth 100000 in
theorem pY_48 : px_okY pm_48 := px_chkY_ok (a := 775) (b := 170) (by decide +kernel)
set_option maxRecDepth 100000 in
theorem pY_49 : px_okY pm_49 := px_chkY_ok (a := 783) (b := 170) (by decide +kernel)
set_option maxRecDepth 100000 in
theorem pY_50 : px_okY pm_50 := px_chkY_ok (a := 795) (b := 170) (by decide +kernel)
set_option maxRecDepth 100000 in
theorem pY_51 : px_okY pm_51 := px_chkY_ok (a := 779) (b := 170) (by decide +kernel)
set_option maxRecDepth 100000 in
theorem pY_52 : px_okY pm_52 := px_chkY_ok (a := 772) (b := 170) (by decide +kernel)
set_option maxRecDepth 100000 in
theorem pY_53 : px_okY pm_53 := px_chkY_ok (a := 791) (b := 170) (by decide +kernel)
set_option maxRecDepth 100000 in
theorem pY_54 : px_okY pm_54 := px_chkY_ok (a := 310) (b := 169) (by decide +kernel)
set_option maxRecDepth 100000 in
theorem pY_55 : px_okY pm_55 := px_chkY_ok (a := 362) (b := 169) (by decide +kernel)
set_option maxRecDepth 100000 in
theorem pY_56 : px_okY pm_56 := px_chkY_ok (a := 213) (b := 166) (by decide +kernel)
set_option maxRecDepth 100000 in
theorem pY_57 : px_okY pm_57 := px_chkY_ok (a := 1205) (b := 166) (by decide +kernel)
set_option maxRecDepth 100000 in
theorem pY_58 : px_okY pm_58 := px_chkY_ok (a := 1226) (b := 166) (by decide +kernel)
set_option maxRecDepth 100000 in
theorem pY_59 : px_okY pm_59 := px_chkY_ok (a := 1614) (b := 164) (by decide +kernel)
set_option maxRecDepth 100000 in
theorem pY_60 : px_okY pm_60 := px_chkY_ok (a := 1208) (b := 164) (by decide +kernel)
set_option maxRecDepth 100000 in
theorem pY_61 : px_okY pm_61 := px_chkY_ok (a := 1631) (b := 164) (by decide +kernel)
set_option maxRecDepth 100000 in
theorem pY_62 : px_okY pm_62 := px_chkY_ok (a := 1343) (b := 164) (by decide +kernel)
set_option maxRecDepth 100000 in
theorem pY_63 : px_okY pm_63 := px_chkY_ok (a := 1595) (b := 164) (by decide +kernel)
set_option maxRecDepth 100000 in
theorem pY_64 : px_okY pm_64 := px_chkY_ok (a := 1652) (b := 164) (by decide +kernel)
set_option maxRecDepth 100000 in
theorem pY_65 : px_okY pm_65 := px_chkY_ok (a := 1487) (b := 164) (by decide +kernel)
set_option maxRecDepth 100000 in
theorem pY_66 : px_okY pm_66 := px_chkY_ok (a := 717) (b := 164) (by decide +kernel)
set_option maxRecDepth 100000 in
theorem pY_67 : px_okY pm_67 := px_chkY_ok (a := 639) (b := 164) (by decide +kernel)
set_option maxRecDepth 100000 in
theorem pY_68 : px_okY pm_68 := px_chkY_ok (a := 1321) (b := 164) (by decide +kernel)
set_option maxRecDepth 100000 in
theorem pY_69 : px_okY pm_69 := px_chkY_ok (a := 1332) (b := 164) (by decide +kernel)
set_option maxRecDepth 100000 in
theorem pY_70 : px_okY pm_70 := px_chkY_ok (a := 1516) (b := 164) (by decide +kernel)
set_option maxRecDepth 100000 in
theorem pY_71 : px_okY pm_71 := px_chkY_ok (a := 743) (b := 164) (by decide +kernel)
set_option maxRecDepth 100000 in
theorem pY_72 : px_okY pm_72 := px_chkY_ok (a := 1476) (b := 164) (by decide +kernel)
set_option maxRecDepth 100000 in
theorem pY_73 : px_okY pm_73 := px_chkY_ok (a := 1500) (b := 164) (by decide +kernel)
set_option maxRecDepth 100000 in
theorem pY_74 : px_okY pm_74 := px_chkY_ok (a := 1246) (b := 164) (by decide +kernel)
set_option maxRecDepth 100000 in
theorem pY_75 : px_okY pm_75 := px_chkY_ok (a := 1218) (b := 164) (by decide +kernel)
set_option maxRecDepth 100000 in
theorem pY_76 : px_okY pm_76 := px_chkY_ok (a := 1232) (b := 164) (by decide +kernel)
set_option maxRecDepth 100000 in
theorem pY_77 : px_okY pm_77 := px_chkY_ok (a := 1068) (b := 164) (by decide +kernel)
set_option maxRecDepth 100000 in
theorem pY_78 : px_okY pm_78 := px_chkY_ok (a := 1239) (b := 164) (by decide +kernel)
set_option maxRecDepth 100000 in
theorem pY_79 : px_okY pm_79 := px_chkY_ok (a := 1173) (b := 164) (by decide +kernel)
set_option maxRecDepth 100000 in
theorem pY_80 : px_okY pm_80 := px_chkY_ok (a := 1645) (b := 164) (by decide +kernel)
set_option maxRecDepth 100000 in
theorem pY_81 : px_okY pm_81 := px_chkY_ok (a := 1661) (b := 176) (by decide +kernel)
set_option maxRecDepth 100000 in
theorem pY_82 : px_okY pm_82 := px_chkY_ok (a := 2515) (b := 176) (by decide +kernel)
set_option maxRecDepth 100000 in
theorem pY_83 : px_okY pm_83 := px_chkY_ok (a := 2499) (b := 176) (by decide +kernel)
set_option maxRecDepth 100000 in
theorem pY_84 : px_okY pm_84 := px_chkY_ok (a := 2523) (b := 176) (by decide +kernel)
set_option maxRecDepth 100000 in
theorem pY_85 : px_okY pm_85 := px_chkY_ok (a := 1909) (b := 176) (by decide +kernel)
set_option maxRecDepth 100000 in
theorem pY_86 : px_okY pm_86 := px_chkY_ok (a := 2332) (b := 176) (by decide +kernel)
set_option maxRecDepth 100000 in
theorem pY_87 : px_okY pm_87 := px_chkY_ok (a := 2240) (b := 176) (by decide +kernel)
set_option maxRecDepth 100000 in
theorem pY_88 : px_okY pm_88 := px_chkY_ok (a := 2477) (b := 176) (by decide +kernel)
set_option maxRecDepth 100000 in
theorem pY_89 : px_okY pm_89 := px_chkY_ok (a := 2532) (b := 176) (by decide +kernel)
set_option maxRecDepth 100000 in
theorem pY_90 : px_okY pm_90 := px_chkY_ok (a := 2432) (b := 176) (by decide +kernel)
set_option maxRecDepth 100000 in
theorem pY_91 : px_okY pm_91 := px_chkY_ok (a := 2485) (b := 176) (by decide +kernel)
set_option maxRecDepth 100000 in
theorem pY_92 : px_okY pm_92 := px_chkY_ok (a := 2254) (b := 176) (by decide +kernel)
set_option maxRecDepth 100000 in
theorem pY_93 : px_okY pm_93 := px_chkY_ok (a := 1851) (b := 176) (by decide +kernel)
set_option maxRecDepth 100000 in
theorem pY_94 : px_okY pm_94 := px_chkY_ok (a := 2481) (b := 176) (by decide +kernel)
set_option maxRecDepth 100000 in
theorem pY_95 : px_okY pm_95 := px_chkY_ok (a := 1905) (b := 176) (by decide +kernel)
set_option maxRecDepth 100000 in
theorem pY_96 : px_okY pm_96 := px_chkY_ok (a := 2324) (b := 176) (by decide +kernel)
set_option maxRecDepth 100000 in
theorem pY_97 : px_okY pm_97 := px_chkY_ok (a := 2328) (b := 176) (by decide +kernel)
set_option maxRecDepth 100000 in
theorem pY_98 : px_okY pm_98 := px_chkY_ok (a := 2440) (b := 176) (by decide +kernel)
set_option maxRecDepth 100000 in
theorem pY_99 : px_okY pm_99 := px_chkY_ok (a := 1846) (b := 176) (by decide +kernel)
set_option maxRecDepth 100000 in
theorem pY_100 : px_okY pm_100 := px_chkY_ok (a := 2416) (b := 176) (by decide +kernel)
set_option maxRecDepth 100000 in
theorem pY_101 : px_okY pm_101 := px_chkY_ok (a := 2436) (b := 176) (by decide +kernel)
set_option maxRecDepth 100000 in
theorem pY_102 : px_okY pm_102 := px_chkY_ok (a := 2294) (b := 176) (by decide +kernel)
set_option maxRecDepth 100000 in
theorem pY_103 : px_okY pm_103 := px_chkY_ok (a := 2299) (b := 176) (by decide +kernel)
set_option maxRecDepth 100000 in
theorem pY_104 : px_okY pm_104 := px_chkY_ok (a := 2503) (b := 176) (by decide +kernel)
set_option maxRecDepth 100000 in
theorem pY_105 : px_okY pm_105 := px_chkY_ok (a := 2507) (b := 176) (by decide +kernel)
set_option maxRecDepth 100000 in
theorem pY_106 : px_okY pm_106 := px_chkY_ok (a := 2290) (b := 176) (by decide +kernel)
set_option maxRecDepth 100000 in
theorem pY_107 : px_okY pm_107 := px_chkY_ok (a := 2232) (b := 176) (by decide +kernel)
set_option maxRecDepth 100000 in
theorem pY_108 : px_okY pm_108 := px_chkY_ok (a := 2511) (b := 176) (by decide +kernel)
set_option maxRecDepth 100000 in
theorem pY_109 : px_okY pm_109 := px_chkY_ok (a := 2236) (b := 176) (by decide +kernel)
set_option maxRecDepth 100000 in
theorem pY_110 : px_okY pm_110 := px_chkY_ok (a := 2320) (b := 176) (by decide +kernel)
set_option maxRecDepth 100000 in
theorem pY_111 : px_okY pm_111 := px_chkY_ok (a := 2489) (b := 176) (by decide +kernel)
set_option maxRecDepth 100000 in
theorem pY_112 : px_okY pm_112 := px_chkY_ok (a := 1842) (b := 176) (by decide +kernel)
set_option maxRecDepth 100000 in
theorem pY_113 : px_okY pm_113 := px_chkY_ok (a := 2527) (b := 176) (by decide +kernel)
set_option maxRecDepth 100000 in
theorem pY_114 : px_okY pm_114 := px_chkY_ok (a := 1855) (b := 190) (by decide +kernel)
theorem px_ms_1 : ∀ (k : Nat) (M : px_M), (px_ms.drop 1)[k]? = some M → px_okY M := by
  intro k M h
  have hm : M ∈ px_ms.drop 1 := List.mem_of_getElem? h
  have hall : ∀ M ∈ px_ms.drop 1, px_okY M := by
    show ∀ M ∈ [pm_1, pm_2, pm_3, pm_4, pm_5, pm_6, pm_7, pm_8, pm_9, pm_10, pm_11, pm_12, pm_13, pm_14, pm_15, pm_16, pm_17, pm_18, pm_19, pm_20, pm_21, pm_22, pm_23, pm_24, pm_25, pm_26, pm_27, pm_28, pm_29, pm_30, pm_31, pm_32, pm_33, pm_34, pm_35, pm_36, pm_37, pm_38, pm_39, pm_40, pm_41, pm_42, pm_43, pm_44, pm_45, pm_46, pm_47, pm_48, pm_49, pm_50, pm_51, pm_52, pm_53, pm_54, pm_55, pm_56, pm_57, pm_58, pm_59, pm_60, pm_61, pm_62, pm_63, pm_64, pm_65, pm_66, pm_67, pm_68, pm_69, pm_70, pm_71, pm_72, pm_73, pm_74, pm_75, pm_76, pm_77, pm_78, pm_79, pm_80, pm_81, pm_82, pm_83, pm_84, pm_85, pm_86, pm_87, pm_88, pm_89, pm_90, pm_91, pm_92, pm_93, pm_94, pm_95, pm_96, pm_97, pm_98, pm_99, pm_100, pm_101, pm_102, pm_103, pm_104, pm_105, pm_106, pm_107, pm_108, pm_109, pm_110, pm_111, pm_112, pm_113, pm_114], px_okY M
    exact List.forall_mem_cons.mpr ⟨pY_1, List.forall_mem_cons.mpr ⟨pY_2, List.forall_mem_cons.mpr ⟨pY_3, List.forall_mem_cons.mpr ⟨pY_4, List.forall_mem_cons.mpr ⟨pY_5, List.forall_mem_cons.mpr ⟨pY_6, List.forall_mem_cons.mpr ⟨pY_7, List.forall_mem_cons.mpr ⟨pY_8, List.forall_mem_cons.mpr ⟨pY_9, List.forall_mem_cons.mpr ⟨pY_10, List.forall_mem_cons.mpr ⟨pY_11, List.forall_mem_cons.mpr ⟨pY_12, List.forall_mem_cons.mpr ⟨pY_13, List.forall_mem_cons.mpr ⟨pY_14, List.forall_mem_cons.mpr ⟨pY_15, List.forall_mem_cons.mpr ⟨pY_16, List.forall_mem_cons.mpr ⟨pY_17, List.forall_mem_cons.mpr ⟨pY_18, List.forall_mem_cons.mpr ⟨pY_19, List.forall_mem_cons.mpr ⟨pY_20, List.forall_mem_cons.mpr ⟨pY_21, List.forall_mem_cons.mpr ⟨pY_22, List.forall_mem_cons.mpr ⟨pY_23, List.forall_mem_cons.mpr ⟨pY_24, List.forall_mem_cons.mpr ⟨pY_25, List.forall_mem_cons.mpr ⟨pY_26, List.forall_mem_cons.mpr ⟨pY_27, List.forall_mem_cons.mpr ⟨pY_28, List.forall_mem_cons.mpr ⟨pY_29, List.forall_mem_cons.mpr ⟨pY_30, List.forall_mem_cons.mpr ⟨pY_31, List.forall_mem_cons.mpr ⟨pY_32, List.forall_mem_cons.mpr ⟨pY_33, List.forall_mem_cons.mpr ⟨pY_34, List.forall_mem_cons.mpr ⟨pY_35, List.forall_mem_cons.mpr ⟨pY_36, List.forall_mem_cons.mpr ⟨pY_37, List.forall_mem_cons.mpr ⟨pY_38, List.forall_mem_cons.mpr ⟨pY_39, List.forall_mem_cons.mpr ⟨pY_40, List.forall_mem_cons.mpr ⟨pY_41, List.forall_mem_cons.mpr ⟨pY_42, List.forall_mem_cons.mpr ⟨pY_43, List.forall_mem_cons.mpr ⟨pY_44, List.forall_mem_cons.mpr ⟨pY_45, List.forall_mem_cons.mpr ⟨pY_46, List.forall_mem_cons.mpr ⟨pY_47, List.forall_mem_cons.mpr ⟨pY_48, List.forall_mem_cons.mpr ⟨pY_49, List.forall_mem_cons.mpr ⟨pY_50, List.forall_mem_cons.mpr ⟨pY_51, List.forall_mem_cons.mpr ⟨pY_52, List.forall_mem_cons.mpr ⟨pY_53, List.forall_mem_cons.mpr ⟨pY_54, List.forall_mem_cons.mpr ⟨pY_55, List.forall_mem_cons.mpr ⟨pY_56, List.forall_mem_cons.mpr ⟨pY_57, List.forall_mem_cons.mpr ⟨pY_58, List.forall_mem_cons.mpr ⟨pY_59, List.forall_mem_cons.mpr ⟨pY_60, List.forall_mem_cons.mpr ⟨pY_61, List.forall_mem_cons.mpr ⟨pY_62, List.forall_mem_cons.mpr ⟨pY_63, List.forall_mem_cons.mpr ⟨pY_64, List.forall_mem_cons.mpr ⟨pY_65, List.forall_mem_cons.mpr ⟨pY_66, List.forall_mem_cons.mpr ⟨pY_67, List.forall_mem_cons.mpr ⟨pY_68, List.forall_mem_cons.mpr ⟨pY_69, List.forall_mem_cons.mpr ⟨pY_70, List.forall_mem_cons.mpr ⟨pY_71, List.forall_mem_cons.mpr ⟨pY_72, List.forall_mem_cons.mpr ⟨pY_73, List.forall_mem_cons.mpr ⟨pY_74, List.forall_mem_cons.mpr ⟨pY_75, List.forall_mem_cons.mpr ⟨pY_76, List.forall_mem_cons.mpr ⟨pY_77, List.forall_mem_cons.mpr ⟨pY_78, List.forall_mem_cons.mpr ⟨pY_79, List.forall_mem_cons.mpr ⟨pY_80, List.forall_mem_cons.mpr ⟨pY_81, List.forall_mem_cons.mpr ⟨pY_82, List.forall_mem_cons.mpr ⟨pY_83, List.forall_mem_cons.mpr ⟨pY_84, List.forall_mem_cons.mpr ⟨pY_85, List.forall_mem_cons.mpr ⟨pY_86, List.forall_mem_cons.mpr ⟨pY_87, List.forall_mem_cons.mpr ⟨pY_88, List.forall_mem_cons.mpr ⟨pY_89, List.forall_mem_cons.mpr ⟨pY_90, List.forall_mem_cons.mpr ⟨pY_91, List.forall_mem_cons.mpr ⟨pY_92, List.forall_mem_cons.mpr ⟨pY_93, List.forall_mem_cons.mpr ⟨pY_94, List.forall_mem_cons.mpr ⟨pY_95, List.forall_mem_cons.mpr ⟨pY_96, List.forall_mem_cons.mpr ⟨pY_97, List.forall_mem_cons.mpr ⟨pY_98, List.forall_mem_cons.mpr ⟨pY_99, List.forall_mem_cons.mpr ⟨pY_100, List.forall_mem_cons.mpr ⟨pY_101, List.forall_mem_cons.mpr ⟨pY_102, List.forall_mem_cons.mpr ⟨pY_103, List.forall_mem_cons.mpr ⟨pY_104, List.forall_mem_cons.mpr ⟨pY_105, List.forall_mem_cons.mpr ⟨pY_106, List.forall_mem_cons.mpr ⟨pY_107, List.forall_mem_cons.mpr ⟨pY_108, List.forall_mem_cons.mpr ⟨pY_109, List.forall_mem_cons.mpr ⟨pY_110, List.forall_mem_cons.mpr ⟨pY_111, List.forall_mem_cons.mpr ⟨pY_112, List.forall_mem_cons.mpr ⟨pY_113, List.forall_mem_cons.mpr ⟨pY_114, fun _ h => absurd h List.not_mem_nil⟩⟩⟩⟩⟩⟩⟩⟩⟩⟩⟩⟩⟩⟩⟩⟩⟩⟩⟩⟩⟩⟩⟩⟩⟩⟩⟩⟩⟩⟩⟩⟩⟩⟩⟩⟩⟩⟩⟩⟩⟩⟩⟩⟩⟩⟩⟩⟩⟩⟩⟩⟩⟩⟩⟩⟩⟩⟩⟩⟩⟩⟩⟩⟩⟩⟩⟩⟩⟩⟩⟩⟩⟩⟩⟩⟩⟩⟩⟩⟩⟩⟩⟩⟩⟩⟩⟩⟩⟩⟩⟩⟩⟩⟩⟩⟩⟩⟩⟩⟩⟩⟩⟩⟩⟩⟩⟩⟩⟩⟩⟩⟩⟩⟩
  exact hall M hm
theorem px_allY_ok : px_allY := by
  intro y M h0 h
  obtain ⟨k, rfl⟩ : ∃ k, y = k + 1 := ⟨y - 1, by omega⟩
  exact px_ms_1 k M (by rw [List.getElem?_drop, Nat.add_comm]; exact h)
