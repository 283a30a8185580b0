/-! Written by wip/p1/gen2.py. -/
set_option maxRecDepth 100000 in
theorem pD_81 : px_chkD pm_81 = true := by decide +kernel
set_option maxRecDepth 100000 in
theorem pK_81 : px_chkK pm_81 [[1662, 205, 206], [1713], [1663], [1715], [1664], [1717], [1718], [1721], [1723], [], [], [], [], [], [], [], [], [], [1725], [], [], [], [], [], [], [1726], [], [], [], [], [], [], [], [], [], [], [], [], [], [], [1727], [], [], [], [], [], [], [], [], [], [], [], [], [], [1728], [1731], [1732], [1733], [1734], [1736], [1738], [1739], [1741], [1743], [1744], [1746], [1747], [1749], [1750], [1751], [1752], [1666, 1667], [1668, 1669]] = true := by decide +kernel
theorem pO_81 : px_okM pm_81 := px_chkM_ok px_allY_ok pD_81 pK_81
set_option maxRecDepth 100000 in
theorem pD_82 : px_chkD pm_82 = true := by decide +kernel
set_option maxRecDepth 100000 in
theorem pK_82 : px_chkK pm_82 [[1712], [1939], [1848, 1850, 91], [1719]] = true := by decide +kernel
theorem pO_82 : px_okM pm_82 := px_chkM_ok px_allY_ok pD_82 pK_82
set_option maxRecDepth 100000 in
theorem pD_83 : px_chkD pm_83 = true := by decide +kernel
set_option maxRecDepth 100000 in
theorem pK_83 : px_chkK pm_83 [[1717], [1718], [1712], [1939], [1848, 1850, 91], [2296, 2298, 126]] = true := by decide +kernel
theorem pO_83 : px_okM pm_83 := px_chkM_ok px_allY_ok pD_83 pK_83
set_option maxRecDepth 100000 in
theorem pD_84 : px_chkD pm_84 = true := by decide +kernel
set_option maxRecDepth 100000 in
theorem pK_84 : px_chkK pm_84 [[1718], [1712], [1848, 1850, 91], [2296, 2298, 126], [1716]] = true := by decide +kernel
theorem pO_84 : px_okM pm_84 := px_chkM_ok px_allY_ok pD_84 pK_84
set_option maxRecDepth 100000 in
theorem pD_85 : px_chkD pm_85 = true := by decide +kernel
set_option maxRecDepth 100000 in
theorem pK_85 : px_chkK pm_85 [[1847], [1910]] = true := by decide +kernel
theorem pO_85 : px_okM pm_85 := px_chkM_ok px_allY_ok pD_85 pK_85
set_option maxRecDepth 100000 in
theorem pD_86 : px_chkD pm_86 = true := by decide +kernel
set_option maxRecDepth 100000 in
theorem pK_86 : px_chkK pm_86 [[1712], [1848, 1850, 91], [1719], [2295], [2296, 2298, 126]] = true := by decide +kernel
theorem pO_86 : px_okM pm_86 := px_chkM_ok px_allY_ok pD_86 pK_86
set_option maxRecDepth 100000 in
theorem pD_87 : px_chkD pm_87 = true := by decide +kernel
set_option maxRecDepth 100000 in
theorem pK_87 : px_chkK pm_87 [[1724], [1735]] = true := by decide +kernel
theorem pO_87 : px_okM pm_87 := px_chkM_ok px_allY_ok pD_87 pK_87
set_option maxRecDepth 100000 in
theorem pD_88 : px_chkD pm_88 = true := by decide +kernel
set_option maxRecDepth 100000 in
theorem pK_88 : px_chkK pm_88 [[1712], [1848, 1850, 91], [1719], [2295], [2296, 2298, 126]] = true := by decide +kernel
theorem pO_88 : px_okM pm_88 := px_chkM_ok px_allY_ok pD_88 pK_88
set_option maxRecDepth 100000 in
theorem pD_89 : px_chkD pm_89 = true := by decide +kernel
set_option maxRecDepth 100000 in
theorem pK_89 : px_chkK pm_89 [[1712], [1848, 1850, 91], [1719], [1714], [1720], [1716]] = true := by decide +kernel
theorem pO_89 : px_okM pm_89 := px_chkM_ok px_allY_ok pD_89 pK_89
set_option maxRecDepth 100000 in
theorem pD_90 : px_chkD pm_90 = true := by decide +kernel
set_option maxRecDepth 100000 in
theorem pK_90 : px_chkK pm_90 [[1718], [1712], [1848, 1850, 91], [1719], [2296, 2298, 126]] = true := by decide +kernel
theorem pO_90 : px_okM pm_90 := px_chkM_ok px_allY_ok pD_90 pK_90
set_option maxRecDepth 100000 in
theorem pD_91 : px_chkD pm_91 = true := by decide +kernel
set_option maxRecDepth 100000 in
theorem pK_91 : px_chkK pm_91 [[1712], [1848, 1850, 91], [1714]] = true := by decide +kernel
theorem pO_91 : px_okM pm_91 := px_chkM_ok px_allY_ok pD_91 pK_91
set_option maxRecDepth 100000 in
theorem pD_92 : px_chkD pm_92 = true := by decide +kernel
set_option maxRecDepth 100000 in
theorem pK_92 : px_chkK pm_92 [[1735]] = true := by decide +kernel
theorem pO_92 : px_okM pm_92 := px_chkM_ok px_allY_ok pD_92 pK_92
set_option maxRecDepth 100000 in
theorem pD_93 : px_chkD pm_93 = true := by decide +kernel
set_option maxRecDepth 100000 in
theorem pK_93 : px_chkK pm_93 [[1712]] = true := by decide +kernel
theorem pO_93 : px_okM pm_93 := px_chkM_ok px_allY_ok pD_93 pK_93
set_option maxRecDepth 100000 in
theorem pD_94 : px_chkD pm_94 = true := by decide +kernel
set_option maxRecDepth 100000 in
theorem pK_94 : px_chkK pm_94 [[1713], [1712], [1714]] = true := by decide +kernel
theorem pO_94 : px_okM pm_94 := px_chkM_ok px_allY_ok pD_94 pK_94
set_option maxRecDepth 100000 in
theorem pD_95 : px_chkD pm_95 = true := by decide +kernel
set_option maxRecDepth 100000 in
theorem pK_95 : px_chkK pm_95 [[1731], [1906, 1908, 93]] = true := by decide +kernel
theorem pO_95 : px_okM pm_95 := px_chkM_ok px_allY_ok pD_95 pK_95
set_option maxRecDepth 100000 in
theorem pD_96 : px_chkD pm_96 = true := by decide +kernel
set_option maxRecDepth 100000 in
theorem pK_96 : px_chkK pm_96 [[1712], [1848, 1850, 91], [1719], [2295], [2296, 2298, 126]] = true := by decide +kernel
theorem pO_96 : px_okM pm_96 := px_chkM_ok px_allY_ok pD_96 pK_96
set_option maxRecDepth 100000 in
theorem pD_97 : px_chkD pm_97 = true := by decide +kernel
set_option maxRecDepth 100000 in
theorem pK_97 : px_chkK pm_97 [[1712], [1848, 1850, 91], [1719], [2295], [2296, 2298, 126]] = true := by decide +kernel
theorem pO_97 : px_okM pm_97 := px_chkM_ok px_allY_ok pD_97 pK_97
set_option maxRecDepth 100000 in
theorem pD_98 : px_chkD pm_98 = true := by decide +kernel
set_option maxRecDepth 100000 in
theorem pK_98 : px_chkK pm_98 [[1712], [1848, 1850, 91], [1719], [2295], [2296, 2298, 126]] = true := by decide +kernel
theorem pO_98 : px_okM pm_98 := px_chkM_ok px_allY_ok pD_98 pK_98
set_option maxRecDepth 100000 in
theorem pD_99 : px_chkD pm_99 = true := by decide +kernel
set_option maxRecDepth 100000 in
theorem pK_99 : px_chkK pm_99 [[1666], [1712], [1722], [1847], [1848, 1850, 91], [1719], [1853, 1854, 1855], [1857], [1714], [1902, 1904, 92]] = true := by decide +kernel
theorem pO_99 : px_okM pm_99 := px_chkM_ok px_allY_ok pD_99 pK_99
set_option maxRecDepth 100000 in
theorem pD_100 : px_chkD pm_100 = true := by decide +kernel
set_option maxRecDepth 100000 in
theorem pK_100 : px_chkK pm_100 [[1712], [1848, 1850, 91], [1719], [2295], [2296, 2298, 126]] = true := by decide +kernel
theorem pO_100 : px_okM pm_100 := px_chkM_ok px_allY_ok pD_100 pK_100
set_option maxRecDepth 100000 in
theorem pD_101 : px_chkD pm_101 = true := by decide +kernel
set_option maxRecDepth 100000 in
theorem pK_101 : px_chkK pm_101 [[1718], [1712], [1848, 1850, 91], [1719], [2296, 2298, 126]] = true := by decide +kernel
theorem pO_101 : px_okM pm_101 := px_chkM_ok px_allY_ok pD_101 pK_101
set_option maxRecDepth 100000 in
theorem pD_102 : px_chkD pm_102 = true := by decide +kernel
set_option maxRecDepth 100000 in
theorem pK_102 : px_chkK pm_102 [[1712], [1848, 1850, 91], [1719], [2295], [2296, 2298, 126]] = true := by decide +kernel
theorem pO_102 : px_okM pm_102 := px_chkM_ok px_allY_ok pD_102 pK_102
set_option maxRecDepth 100000 in
theorem pD_103 : px_chkD pm_103 = true := by decide +kernel
set_option maxRecDepth 100000 in
theorem pK_103 : px_chkK pm_103 [] = true := by decide +kernel
theorem pO_103 : px_okM pm_103 := px_chkM_ok px_allY_ok pD_103 pK_103
set_option maxRecDepth 100000 in
theorem pD_104 : px_chkD pm_104 = true := by decide +kernel
set_option maxRecDepth 100000 in
theorem pK_104 : px_chkK pm_104 [[1718], [1712], [1848, 1850, 91], [1742], [2296, 2298, 126], [2317, 2319, 131]] = true := by decide +kernel
theorem pO_104 : px_okM pm_104 := px_chkM_ok px_allY_ok pD_104 pK_104
set_option maxRecDepth 100000 in
theorem pD_105 : px_chkD pm_105 = true := by decide +kernel
set_option maxRecDepth 100000 in
theorem pK_105 : px_chkK pm_105 [[1718], [1712], [1848, 1850, 91], [2296, 2298, 126]] = true := by decide +kernel
theorem pO_105 : px_okM pm_105 := px_chkM_ok px_allY_ok pD_105 pK_105
set_option maxRecDepth 100000 in
theorem pD_106 : px_chkD pm_106 = true := by decide +kernel
set_option maxRecDepth 100000 in
theorem pK_106 : px_chkK pm_106 [[1718], [1712], [1722], [1719], [1724], [1720]] = true := by decide +kernel
theorem pO_106 : px_okM pm_106 := px_chkM_ok px_allY_ok pD_106 pK_106
set_option maxRecDepth 100000 in
theorem pD_107 : px_chkD pm_107 = true := by decide +kernel
set_option maxRecDepth 100000 in
theorem pK_107 : px_chkK pm_107 [[1712], [1719], [1740], [2233, 2235, 113]] = true := by decide +kernel
theorem pO_107 : px_okM pm_107 := px_chkM_ok px_allY_ok pD_107 pK_107
set_option maxRecDepth 100000 in
theorem pD_108 : px_chkD pm_108 = true := by decide +kernel
set_option maxRecDepth 100000 in
theorem pK_108 : px_chkK pm_108 [[1718], [1712], [1848, 1850, 91], [2296, 2298, 126]] = true := by decide +kernel
theorem pO_108 : px_okM pm_108 := px_chkM_ok px_allY_ok pD_108 pK_108
set_option maxRecDepth 100000 in
theorem pD_109 : px_chkD pm_109 = true := by decide +kernel
set_option maxRecDepth 100000 in
theorem pK_109 : px_chkK pm_109 [[1739], [1735], [2237, 2239, 114], [2251, 2253, 117], [1740]] = true := by decide +kernel
theorem pO_109 : px_okM pm_109 := px_chkM_ok px_allY_ok pD_109 pK_109
set_option maxRecDepth 100000 in
theorem pD_110 : px_chkD pm_110 = true := by decide +kernel
set_option maxRecDepth 100000 in
theorem pK_110 : px_chkK pm_110 [[1718], [1742]] = true := by decide +kernel
theorem pO_110 : px_okM pm_110 := px_chkM_ok px_allY_ok pD_110 pK_110
set_option maxRecDepth 100000 in
theorem pD_111 : px_chkD pm_111 = true := by decide +kernel
set_option maxRecDepth 100000 in
theorem pK_111 : px_chkK pm_111 [[1712], [1848, 1850, 91], [1714], [1742], [2296, 2298, 126], [2317, 2319, 131]] = true := by decide +kernel
theorem pO_111 : px_okM pm_111 := px_chkM_ok px_allY_ok pD_111 pK_111
set_option maxRecDepth 100000 in
theorem pD_112 : px_chkD pm_112 = true := by decide +kernel
set_option maxRecDepth 100000 in
theorem pK_112 : px_chkK pm_112 [[1712]] = true := by decide +kernel
theorem pO_112 : px_okM pm_112 := px_chkM_ok px_allY_ok pD_112 pK_112
set_option maxRecDepth 100000 in
theorem pD_113 : px_chkD pm_113 = true := by decide +kernel
set_option maxRecDepth 100000 in
theorem pK_113 : px_chkK pm_113 [[1712], [1848, 1850, 91], [1716]] = true := by decide +kernel
theorem pO_113 : px_okM pm_113 := px_chkM_ok px_allY_ok pD_113 pK_113
set_option maxRecDepth 100000 in
theorem pD_114 : px_chkD pm_114 = true := by decide +kernel
set_option maxRecDepth 100000 in
theorem pK_114 : px_chkK pm_114 [[1856, 205, 206], [1864], [1866], [1868], [1870], [1872]] = true := by decide +kernel
theorem pO_114 : px_okM pm_114 := px_chkM_ok px_allY_ok pD_114 pK_114
