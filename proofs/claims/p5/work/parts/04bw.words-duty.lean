set_option maxRecDepth 100000 in
theorem mw_87 : MWok md_87 := ⟨List.mem_of_getElem? (i := 109) rfl, List.mem_of_getElem? (i := 87) rfl, ⟨by decide +kernel, by decide +kernel⟩, rfl, by decide +kernel, by decide, fun _ => ⟨rfl, rfl⟩⟩
set_option maxRecDepth 100000 in
theorem mw_88 : MWok md_88 := ⟨List.mem_of_getElem? (i := 488) rfl, List.mem_of_getElem? (i := 87) rfl, ⟨by decide +kernel, by decide +kernel⟩, rfl, by decide +kernel, by decide, fun h => by cases h⟩
set_option maxRecDepth 100000 in
theorem mw_89 : MWok md_89 := ⟨List.mem_of_getElem? (i := 500) rfl, List.mem_of_getElem? (i := 87) rfl, ⟨by decide +kernel, by decide +kernel⟩, rfl, by decide +kernel, by decide, fun h => by cases h⟩
set_option maxRecDepth 100000 in
theorem mw_90 : MWok md_90 := ⟨List.mem_of_getElem? (i := 504) rfl, List.mem_of_getElem? (i := 87) rfl, ⟨by decide +kernel, by decide +kernel⟩, rfl, by decide +kernel, by decide, fun h => by cases h⟩
set_option maxRecDepth 100000 in
theorem mw_91 : MWok md_91 := ⟨List.mem_of_getElem? (i := 673) rfl, List.mem_of_getElem? (i := 87) rfl, ⟨by decide +kernel, by decide +kernel⟩, rfl, by decide +kernel, by decide, fun h => by cases h⟩
set_option maxRecDepth 100000 in
theorem mw_92 : MWok md_92 := ⟨List.mem_of_getElem? (i := 698) rfl, List.mem_of_getElem? (i := 87) rfl, ⟨by decide +kernel, by decide +kernel⟩, rfl, by decide +kernel, by decide, fun h => by cases h⟩
set_option maxRecDepth 100000 in
theorem mw_93 : MWok md_93 := ⟨List.mem_of_getElem? (i := 702) rfl, List.mem_of_getElem? (i := 87) rfl, ⟨by decide +kernel, by decide +kernel⟩, rfl, by decide +kernel, by decide, fun h => by cases h⟩
set_option maxRecDepth 100000 in
theorem mw_94 : MWok md_94 := ⟨List.mem_of_getElem? (i := 706) rfl, List.mem_of_getElem? (i := 87) rfl, ⟨by decide +kernel, by decide +kernel⟩, rfl, by decide +kernel, by decide, fun h => by cases h⟩
set_option maxRecDepth 100000 in
theorem mw_95 : MWok md_95 := ⟨List.mem_of_getElem? (i := 718) rfl, List.mem_of_getElem? (i := 87) rfl, ⟨by decide +kernel, by decide +kernel⟩, rfl, by decide +kernel, by decide, fun h => by cases h⟩
set_option maxRecDepth 100000 in
theorem mw_96 : MWok md_96 := ⟨List.mem_of_getElem? (i := 731) rfl, List.mem_of_getElem? (i := 87) rfl, ⟨by decide +kernel, by decide +kernel⟩, rfl, by decide +kernel, by decide, fun h => by cases h⟩
set_option maxRecDepth 100000 in
theorem mw_97 : MWok md_97 := ⟨List.mem_of_getElem? (i := 747) rfl, List.mem_of_getElem? (i := 87) rfl, ⟨by decide +kernel, by decide +kernel⟩, rfl, by decide +kernel, by decide, fun h => by cases h⟩
set_option maxRecDepth 100000 in
theorem mw_98 : MWok md_98 := ⟨List.mem_of_getElem? (i := 751) rfl, List.mem_of_getElem? (i := 87) rfl, ⟨by decide +kernel, by decide +kernel⟩, rfl, by decide +kernel, by decide, fun h => by cases h⟩
set_option maxRecDepth 100000 in
theorem mw_99 : MWok md_99 := ⟨List.mem_of_getElem? (i := 760) rfl, List.mem_of_getElem? (i := 87) rfl, ⟨by decide +kernel, by decide +kernel⟩, rfl, by decide +kernel, by decide, fun h => by cases h⟩
set_option maxRecDepth 100000 in
theorem mw_100 : MWok md_100 := ⟨List.mem_of_getElem? (i := 777) rfl, List.mem_of_getElem? (i := 87) rfl, ⟨by decide +kernel, by decide +kernel⟩, rfl, by decide +kernel, by decide, fun h => by cases h⟩
set_option maxRecDepth 100000 in
theorem mw_101 : MWok md_101 := ⟨List.mem_of_getElem? (i := 785) rfl, List.mem_of_getElem? (i := 87) rfl, ⟨by decide +kernel, by decide +kernel⟩, rfl, by decide +kernel, by decide, fun h => by cases h⟩
set_option maxRecDepth 100000 in
theorem mw_102 : MWok md_102 := ⟨List.mem_of_getElem? (i := 820) rfl, List.mem_of_getElem? (i := 87) rfl, ⟨by decide +kernel, by decide +kernel⟩, rfl, by decide +kernel, by decide, fun h => by cases h⟩
set_option maxRecDepth 100000 in
theorem mw_103 : MWok md_103 := ⟨List.mem_of_getElem? (i := 824) rfl, List.mem_of_getElem? (i := 87) rfl, ⟨by decide +kernel, by decide +kernel⟩, rfl, by decide +kernel, by decide, fun h => by cases h⟩
set_option maxRecDepth 100000 in
theorem mw_104 : MWok md_104 := ⟨List.mem_of_getElem? (i := 828) rfl, List.mem_of_getElem? (i := 87) rfl, ⟨by decide +kernel, by decide +kernel⟩, rfl, by decide +kernel, by decide, fun h => by cases h⟩
set_option maxRecDepth 100000 in
theorem mw_105 : MWok md_105 := ⟨List.mem_of_getElem? (i := 832) rfl, List.mem_of_getElem? (i := 87) rfl, ⟨by decide +kernel, by decide +kernel⟩, rfl, by decide +kernel, by decide, fun h => by cases h⟩
set_option maxRecDepth 100000 in
theorem mw_106 : MWok md_106 := ⟨List.mem_of_getElem? (i := 836) rfl, List.mem_of_getElem? (i := 87) rfl, ⟨by decide +kernel, by decide +kernel⟩, rfl, by decide +kernel, by decide, fun h => by cases h⟩
set_option maxRecDepth 100000 in
theorem mw_107 : MWok md_107 := ⟨List.mem_of_getElem? (i := 840) rfl, List.mem_of_getElem? (i := 87) rfl, ⟨by decide +kernel, by decide +kernel⟩, rfl, by decide +kernel, by decide, fun h => by cases h⟩
set_option maxRecDepth 100000 in
theorem mw_108 : MWok md_108 := ⟨List.mem_of_getElem? (i := 844) rfl, List.mem_of_getElem? (i := 87) rfl, ⟨by decide +kernel, by decide +kernel⟩, rfl, by decide +kernel, by decide, fun h => by cases h⟩
set_option maxRecDepth 100000 in
theorem mw_109 : MWok md_109 := ⟨List.mem_of_getElem? (i := 848) rfl, List.mem_of_getElem? (i := 87) rfl, ⟨by decide +kernel, by decide +kernel⟩, rfl, by decide +kernel, by decide, fun h => by cases h⟩
set_option maxRecDepth 100000 in
theorem mw_110 : MWok md_110 := ⟨List.mem_of_getElem? (i := 852) rfl, List.mem_of_getElem? (i := 87) rfl, ⟨by decide +kernel, by decide +kernel⟩, rfl, by decide +kernel, by decide, fun h => by cases h⟩
set_option maxRecDepth 100000 in
theorem mw_111 : MWok md_111 := ⟨List.mem_of_getElem? (i := 856) rfl, List.mem_of_getElem? (i := 87) rfl, ⟨by decide +kernel, by decide +kernel⟩, rfl, by decide +kernel, by decide, fun h => by cases h⟩
set_option maxRecDepth 100000 in
theorem mw_112 : MWok md_112 := ⟨List.mem_of_getElem? (i := 869) rfl, List.mem_of_getElem? (i := 87) rfl, ⟨by decide +kernel, by decide +kernel⟩, rfl, by decide +kernel, by decide, fun h => by cases h⟩
set_option maxRecDepth 100000 in
theorem mw_113 : MWok md_113 := ⟨List.mem_of_getElem? (i := 873) rfl, List.mem_of_getElem? (i := 87) rfl, ⟨by decide +kernel, by decide +kernel⟩, rfl, by decide +kernel, by decide, fun h => by cases h⟩
set_option maxRecDepth 100000 in
theorem mw_114 : MWok md_114 := ⟨List.mem_of_getElem? (i := 904) rfl, List.mem_of_getElem? (i := 87) rfl, ⟨by decide +kernel, by decide +kernel⟩, rfl, by decide +kernel, by decide, fun h => by cases h⟩
set_option maxRecDepth 100000 in
theorem mw_115 : MWok md_115 := ⟨List.mem_of_getElem? (i := 912) rfl, List.mem_of_getElem? (i := 87) rfl, ⟨by decide +kernel, by decide +kernel⟩, rfl, by decide +kernel, by decide, fun h => by cases h⟩
set_option maxRecDepth 100000 in
theorem mw_116 : MWok md_116 := ⟨List.mem_of_getElem? (i := 915) rfl, List.mem_of_getElem? (i := 87) rfl, ⟨by decide +kernel, by decide +kernel⟩, rfl, by decide +kernel, by decide, fun h => by cases h⟩
set_option maxRecDepth 100000 in
theorem mw_117 : MWok md_117 := ⟨List.mem_of_getElem? (i := 918) rfl, List.mem_of_getElem? (i := 87) rfl, ⟨by decide +kernel, by decide +kernel⟩, rfl, by decide +kernel, by decide, fun h => by cases h⟩
set_option maxRecDepth 100000 in
theorem mw_118 : MWok md_118 := ⟨List.mem_of_getElem? (i := 938) rfl, List.mem_of_getElem? (i := 87) rfl, ⟨by decide +kernel, by decide +kernel⟩, rfl, by decide +kernel, by decide, fun h => by cases h⟩
set_option maxRecDepth 100000 in
theorem mw_119 : MWok md_119 := ⟨List.mem_of_getElem? (i := 946) rfl, List.mem_of_getElem? (i := 87) rfl, ⟨by decide +kernel, by decide +kernel⟩, rfl, by decide +kernel, by decide, fun h => by cases h⟩
set_option maxRecDepth 100000 in
theorem mw_120 : MWok md_120 := ⟨List.mem_of_getElem? (i := 950) rfl, List.mem_of_getElem? (i := 87) rfl, ⟨by decide +kernel, by decide +kernel⟩, rfl, by decide +kernel, by decide, fun h => by cases h⟩
set_option maxRecDepth 100000 in
theorem mw_121 : MWok md_121 := ⟨List.mem_of_getElem? (i := 953) rfl, List.mem_of_getElem? (i := 87) rfl, ⟨by decide +kernel, by decide +kernel⟩, rfl, by decide +kernel, by decide, fun h => by cases h⟩
set_option maxRecDepth 100000 in
theorem mw_122 : MWok md_122 := ⟨List.mem_of_getElem? (i := 957) rfl, List.mem_of_getElem? (i := 87) rfl, ⟨by decide +kernel, by decide +kernel⟩, rfl, by decide +kernel, by decide, fun h => by cases h⟩
set_option maxRecDepth 100000 in
theorem mw_123 : MWok md_123 := ⟨List.mem_of_getElem? (i := 961) rfl, List.mem_of_getElem? (i := 87) rfl, ⟨by decide +kernel, by decide +kernel⟩, rfl, by decide +kernel, by decide, fun h => by cases h⟩
set_option maxRecDepth 100000 in
theorem mw_124 : MWok md_124 := ⟨List.mem_of_getElem? (i := 965) rfl, List.mem_of_getElem? (i := 87) rfl, ⟨by decide +kernel, by decide +kernel⟩, rfl, by decide +kernel, by decide, fun h => by cases h⟩
set_option maxRecDepth 100000 in
theorem mw_125 : MWok md_125 := ⟨List.mem_of_getElem? (i := 969) rfl, List.mem_of_getElem? (i := 87) rfl, ⟨by decide +kernel, by decide +kernel⟩, rfl, by decide +kernel, by decide, fun h => by cases h⟩
set_option maxRecDepth 100000 in
theorem mw_126 : MWok md_126 := ⟨List.mem_of_getElem? (i := 972) rfl, List.mem_of_getElem? (i := 87) rfl, ⟨by decide +kernel, by decide +kernel⟩, rfl, by decide +kernel, by decide, fun h => by cases h⟩
set_option maxRecDepth 100000 in
theorem mw_127 : MWok md_127 := ⟨List.mem_of_getElem? (i := 986) rfl, List.mem_of_getElem? (i := 87) rfl, ⟨by decide +kernel, by decide +kernel⟩, rfl, by decide +kernel, by decide, fun h => by cases h⟩
set_option maxRecDepth 100000 in
theorem mw_128 : MWok md_128 := ⟨List.mem_of_getElem? (i := 990) rfl, List.mem_of_getElem? (i := 87) rfl, ⟨by decide +kernel, by decide +kernel⟩, rfl, by decide +kernel, by decide, fun h => by cases h⟩
set_option maxRecDepth 100000 in
theorem mw_129 : MWok md_129 := ⟨List.mem_of_getElem? (i := 998) rfl, List.mem_of_getElem? (i := 87) rfl, ⟨by decide +kernel, by decide +kernel⟩, rfl, by decide +kernel, by decide, fun h => by cases h⟩
set_option maxRecDepth 100000 in
theorem mw_130 : MWok md_130 := ⟨List.mem_of_getElem? (i := 1002) rfl, List.mem_of_getElem? (i := 87) rfl, ⟨by decide +kernel, by decide +kernel⟩, rfl, by decide +kernel, by decide, fun h => by cases h⟩
set_option maxRecDepth 100000 in
theorem mw_131 : MWok md_131 := ⟨List.mem_of_getElem? (i := 1006) rfl, List.mem_of_getElem? (i := 87) rfl, ⟨by decide +kernel, by decide +kernel⟩, rfl, by decide +kernel, by decide, fun h => by cases h⟩
set_option maxRecDepth 100000 in
theorem mw_132 : MWok md_132 := ⟨List.mem_of_getElem? (i := 1020) rfl, List.mem_of_getElem? (i := 87) rfl, ⟨by decide +kernel, by decide +kernel⟩, rfl, by decide +kernel, by decide, fun h => by cases h⟩
set_option maxRecDepth 100000 in
theorem mw_133 : MWok md_133 := ⟨List.mem_of_getElem? (i := 1024) rfl, List.mem_of_getElem? (i := 87) rfl, ⟨by decide +kernel, by decide +kernel⟩, rfl, by decide +kernel, by decide, fun h => by cases h⟩
set_option maxRecDepth 100000 in
theorem mw_134 : MWok md_134 := ⟨List.mem_of_getElem? (i := 1028) rfl, List.mem_of_getElem? (i := 87) rfl, ⟨by decide +kernel, by decide +kernel⟩, rfl, by decide +kernel, by decide, fun h => by cases h⟩
set_option maxRecDepth 100000 in
theorem mw_135 : MWok md_135 := ⟨List.mem_of_getElem? (i := 1032) rfl, List.mem_of_getElem? (i := 87) rfl, ⟨by decide +kernel, by decide +kernel⟩, rfl, by decide +kernel, by decide, fun h => by cases h⟩
set_option maxRecDepth 100000 in
theorem mw_136 : MWok md_136 := ⟨List.mem_of_getElem? (i := 1037) rfl, List.mem_of_getElem? (i := 87) rfl, ⟨by decide +kernel, by decide +kernel⟩, rfl, by decide +kernel, by decide, fun h => by cases h⟩
set_option maxRecDepth 100000 in
theorem mw_137 : MWok md_137 := ⟨List.mem_of_getElem? (i := 1045) rfl, List.mem_of_getElem? (i := 87) rfl, ⟨by decide +kernel, by decide +kernel⟩, rfl, by decide +kernel, by decide, fun h => by cases h⟩
set_option maxRecDepth 100000 in
theorem mw_138 : MWok md_138 := ⟨List.mem_of_getElem? (i := 1053) rfl, List.mem_of_getElem? (i := 87) rfl, ⟨by decide +kernel, by decide +kernel⟩, rfl, by decide +kernel, by decide, fun h => by cases h⟩
set_option maxRecDepth 100000 in
theorem mw_139 : MWok md_139 := ⟨List.mem_of_getElem? (i := 1061) rfl, List.mem_of_getElem? (i := 87) rfl, ⟨by decide +kernel, by decide +kernel⟩, rfl, by decide +kernel, by decide, fun h => by cases h⟩
set_option maxRecDepth 100000 in
theorem mw_140 : MWok md_140 := ⟨List.mem_of_getElem? (i := 1077) rfl, List.mem_of_getElem? (i := 87) rfl, ⟨by decide +kernel, by decide +kernel⟩, rfl, by decide +kernel, by decide, fun h => by cases h⟩
set_option maxRecDepth 100000 in
theorem mw_141 : MWok md_141 := ⟨List.mem_of_getElem? (i := 1086) rfl, List.mem_of_getElem? (i := 87) rfl, ⟨by decide +kernel, by decide +kernel⟩, rfl, by decide +kernel, by decide, fun h => by cases h⟩
set_option maxRecDepth 100000 in
theorem mw_142 : MWok md_142 := ⟨List.mem_of_getElem? (i := 1099) rfl, List.mem_of_getElem? (i := 87) rfl, ⟨by decide +kernel, by decide +kernel⟩, rfl, by decide +kernel, by decide, fun h => by cases h⟩
set_option maxRecDepth 100000 in
theorem mw_143 : MWok md_143 := ⟨List.mem_of_getElem? (i := 1103) rfl, List.mem_of_getElem? (i := 87) rfl, ⟨by decide +kernel, by decide +kernel⟩, rfl, by decide +kernel, by decide, fun h => by cases h⟩
set_option maxRecDepth 100000 in
theorem mw_144 : MWok md_144 := ⟨List.mem_of_getElem? (i := 1112) rfl, List.mem_of_getElem? (i := 87) rfl, ⟨by decide +kernel, by decide +kernel⟩, rfl, by decide +kernel, by decide, fun h => by cases h⟩
set_option maxRecDepth 100000 in
theorem mw_145 : MWok md_145 := ⟨List.mem_of_getElem? (i := 1116) rfl, List.mem_of_getElem? (i := 87) rfl, ⟨by decide +kernel, by decide +kernel⟩, rfl, by decide +kernel, by decide, fun h => by cases h⟩
set_option maxRecDepth 100000 in
theorem mw_146 : MWok md_146 := ⟨List.mem_of_getElem? (i := 1120) rfl, List.mem_of_getElem? (i := 87) rfl, ⟨by decide +kernel, by decide +kernel⟩, rfl, by decide +kernel, by decide, fun h => by cases h⟩
set_option maxRecDepth 100000 in
theorem mw_147 : MWok md_147 := ⟨List.mem_of_getElem? (i := 1128) rfl, List.mem_of_getElem? (i := 87) rfl, ⟨by decide +kernel, by decide +kernel⟩, rfl, by decide +kernel, by decide, fun h => by cases h⟩
set_option maxRecDepth 100000 in
theorem mw_148 : MWok md_148 := ⟨List.mem_of_getElem? (i := 1139) rfl, List.mem_of_getElem? (i := 87) rfl, ⟨by decide +kernel, by decide +kernel⟩, rfl, by decide +kernel, by decide, fun h => by cases h⟩
set_option maxRecDepth 100000 in
theorem mw_265 : MWok md_265 := ⟨List.mem_of_getElem? (i := 1010) rfl, List.mem_of_getElem? (i := 87) rfl, ⟨by decide +kernel, by decide +kernel⟩, rfl, by decide +kernel, by decide, fun h => by cases h⟩
