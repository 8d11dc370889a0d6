set_option maxRecDepth 100000 in
theorem mw_87 : MWok md_87 := ⟨tin_1 (List.mem_of_getElem? (i := 23) rfl), tin_1 (List.mem_of_getElem? (i := 1) rfl), ⟨by decide +kernel, by decide +kernel⟩, rfl, by decide +kernel, by decide, fun _ => ⟨rfl, rfl⟩⟩
set_option maxRecDepth 100000 in
theorem mw_88 : MWok md_88 := ⟨tin_2 (List.mem_of_getElem? (i := 162) rfl), tin_1 (List.mem_of_getElem? (i := 1) rfl), ⟨by decide +kernel, by decide +kernel⟩, rfl, by decide +kernel, by decide, fun h => by cases h⟩
set_option maxRecDepth 100000 in
theorem mw_89 : MWok md_89 := ⟨tin_2 (List.mem_of_getElem? (i := 174) rfl), tin_1 (List.mem_of_getElem? (i := 1) rfl), ⟨by decide +kernel, by decide +kernel⟩, rfl, by decide +kernel, by decide, fun h => by cases h⟩
set_option maxRecDepth 100000 in
theorem mw_90 : MWok md_90 := ⟨tin_2 (List.mem_of_getElem? (i := 178) rfl), tin_1 (List.mem_of_getElem? (i := 1) rfl), ⟨by decide +kernel, by decide +kernel⟩, rfl, by decide +kernel, by decide, fun h => by cases h⟩
set_option maxRecDepth 100000 in
theorem mw_91 : MWok md_91 := ⟨tin_3 (List.mem_of_getElem? (i := 107) rfl), tin_1 (List.mem_of_getElem? (i := 1) rfl), ⟨by decide +kernel, by decide +kernel⟩, rfl, by decide +kernel, by decide, fun h => by cases h⟩
set_option maxRecDepth 100000 in
theorem mw_92 : MWok md_92 := ⟨tin_3 (List.mem_of_getElem? (i := 132) rfl), tin_1 (List.mem_of_getElem? (i := 1) rfl), ⟨by decide +kernel, by decide +kernel⟩, rfl, by decide +kernel, by decide, fun h => by cases h⟩
set_option maxRecDepth 100000 in
theorem mw_93 : MWok md_93 := ⟨tin_3 (List.mem_of_getElem? (i := 136) rfl), tin_1 (List.mem_of_getElem? (i := 1) rfl), ⟨by decide +kernel, by decide +kernel⟩, rfl, by decide +kernel, by decide, fun h => by cases h⟩
set_option maxRecDepth 100000 in
theorem mw_94 : MWok md_94 := ⟨tin_3 (List.mem_of_getElem? (i := 140) rfl), tin_1 (List.mem_of_getElem? (i := 1) rfl), ⟨by decide +kernel, by decide +kernel⟩, rfl, by decide +kernel, by decide, fun h => by cases h⟩
set_option maxRecDepth 100000 in
theorem mw_95 : MWok md_95 := ⟨tin_3 (List.mem_of_getElem? (i := 152) rfl), tin_1 (List.mem_of_getElem? (i := 1) rfl), ⟨by decide +kernel, by decide +kernel⟩, rfl, by decide +kernel, by decide, fun h => by cases h⟩
set_option maxRecDepth 100000 in
theorem mw_96 : MWok md_96 := ⟨tin_3 (List.mem_of_getElem? (i := 165) rfl), tin_1 (List.mem_of_getElem? (i := 1) rfl), ⟨by decide +kernel, by decide +kernel⟩, rfl, by decide +kernel, by decide, fun h => by cases h⟩
set_option maxRecDepth 100000 in
theorem mw_97 : MWok md_97 := ⟨tin_3 (List.mem_of_getElem? (i := 181) rfl), tin_1 (List.mem_of_getElem? (i := 1) rfl), ⟨by decide +kernel, by decide +kernel⟩, rfl, by decide +kernel, by decide, fun h => by cases h⟩
set_option maxRecDepth 100000 in
theorem mw_98 : MWok md_98 := ⟨tin_3 (List.mem_of_getElem? (i := 185) rfl), tin_1 (List.mem_of_getElem? (i := 1) rfl), ⟨by decide +kernel, by decide +kernel⟩, rfl, by decide +kernel, by decide, fun h => by cases h⟩
set_option maxRecDepth 100000 in
theorem mw_99 : MWok md_99 := ⟨tin_3 (List.mem_of_getElem? (i := 194) rfl), tin_1 (List.mem_of_getElem? (i := 1) rfl), ⟨by decide +kernel, by decide +kernel⟩, rfl, by decide +kernel, by decide, fun h => by cases h⟩
set_option maxRecDepth 100000 in
theorem mw_100 : MWok md_100 := ⟨tin_3 (List.mem_of_getElem? (i := 211) rfl), tin_1 (List.mem_of_getElem? (i := 1) rfl), ⟨by decide +kernel, by decide +kernel⟩, rfl, by decide +kernel, by decide, fun h => by cases h⟩
set_option maxRecDepth 100000 in
theorem mw_101 : MWok md_101 := ⟨tin_3 (List.mem_of_getElem? (i := 219) rfl), tin_1 (List.mem_of_getElem? (i := 1) rfl), ⟨by decide +kernel, by decide +kernel⟩, rfl, by decide +kernel, by decide, fun h => by cases h⟩
set_option maxRecDepth 100000 in
theorem mw_102 : MWok md_102 := ⟨tin_4 (List.mem_of_getElem? (i := 14) rfl), tin_1 (List.mem_of_getElem? (i := 1) rfl), ⟨by decide +kernel, by decide +kernel⟩, rfl, by decide +kernel, by decide, fun h => by cases h⟩
set_option maxRecDepth 100000 in
theorem mw_103 : MWok md_103 := ⟨tin_4 (List.mem_of_getElem? (i := 18) rfl), tin_1 (List.mem_of_getElem? (i := 1) rfl), ⟨by decide +kernel, by decide +kernel⟩, rfl, by decide +kernel, by decide, fun h => by cases h⟩
set_option maxRecDepth 100000 in
theorem mw_104 : MWok md_104 := ⟨tin_4 (List.mem_of_getElem? (i := 22) rfl), tin_1 (List.mem_of_getElem? (i := 1) rfl), ⟨by decide +kernel, by decide +kernel⟩, rfl, by decide +kernel, by decide, fun h => by cases h⟩
set_option maxRecDepth 100000 in
theorem mw_105 : MWok md_105 := ⟨tin_4 (List.mem_of_getElem? (i := 26) rfl), tin_1 (List.mem_of_getElem? (i := 1) rfl), ⟨by decide +kernel, by decide +kernel⟩, rfl, by decide +kernel, by decide, fun h => by cases h⟩
set_option maxRecDepth 100000 in
theorem mw_106 : MWok md_106 := ⟨tin_4 (List.mem_of_getElem? (i := 30) rfl), tin_1 (List.mem_of_getElem? (i := 1) rfl), ⟨by decide +kernel, by decide +kernel⟩, rfl, by decide +kernel, by decide, fun h => by cases h⟩
set_option maxRecDepth 100000 in
theorem mw_107 : MWok md_107 := ⟨tin_4 (List.mem_of_getElem? (i := 34) rfl), tin_1 (List.mem_of_getElem? (i := 1) rfl), ⟨by decide +kernel, by decide +kernel⟩, rfl, by decide +kernel, by decide, fun h => by cases h⟩
set_option maxRecDepth 100000 in
theorem mw_108 : MWok md_108 := ⟨tin_4 (List.mem_of_getElem? (i := 38) rfl), tin_1 (List.mem_of_getElem? (i := 1) rfl), ⟨by decide +kernel, by decide +kernel⟩, rfl, by decide +kernel, by decide, fun h => by cases h⟩
set_option maxRecDepth 100000 in
theorem mw_109 : MWok md_109 := ⟨tin_4 (List.mem_of_getElem? (i := 42) rfl), tin_1 (List.mem_of_getElem? (i := 1) rfl), ⟨by decide +kernel, by decide +kernel⟩, rfl, by decide +kernel, by decide, fun h => by cases h⟩
set_option maxRecDepth 100000 in
theorem mw_110 : MWok md_110 := ⟨tin_4 (List.mem_of_getElem? (i := 46) rfl), tin_1 (List.mem_of_getElem? (i := 1) rfl), ⟨by decide +kernel, by decide +kernel⟩, rfl, by decide +kernel, by decide, fun h => by cases h⟩
set_option maxRecDepth 100000 in
theorem mw_111 : MWok md_111 := ⟨tin_4 (List.mem_of_getElem? (i := 50) rfl), tin_1 (List.mem_of_getElem? (i := 1) rfl), ⟨by decide +kernel, by decide +kernel⟩, rfl, by decide +kernel, by decide, fun h => by cases h⟩
set_option maxRecDepth 100000 in
theorem mw_112 : MWok md_112 := ⟨tin_4 (List.mem_of_getElem? (i := 63) rfl), tin_1 (List.mem_of_getElem? (i := 1) rfl), ⟨by decide +kernel, by decide +kernel⟩, rfl, by decide +kernel, by decide, fun h => by cases h⟩
set_option maxRecDepth 100000 in
theorem mw_113 : MWok md_113 := ⟨tin_4 (List.mem_of_getElem? (i := 67) rfl), tin_1 (List.mem_of_getElem? (i := 1) rfl), ⟨by decide +kernel, by decide +kernel⟩, rfl, by decide +kernel, by decide, fun h => by cases h⟩
set_option maxRecDepth 100000 in
theorem mw_114 : MWok md_114 := ⟨tin_4 (List.mem_of_getElem? (i := 98) rfl), tin_1 (List.mem_of_getElem? (i := 1) rfl), ⟨by decide +kernel, by decide +kernel⟩, rfl, by decide +kernel, by decide, fun h => by cases h⟩
set_option maxRecDepth 100000 in
theorem mw_115 : MWok md_115 := ⟨tin_4 (List.mem_of_getElem? (i := 106) rfl), tin_1 (List.mem_of_getElem? (i := 1) rfl), ⟨by decide +kernel, by decide +kernel⟩, rfl, by decide +kernel, by decide, fun h => by cases h⟩
set_option maxRecDepth 100000 in
theorem mw_116 : MWok md_116 := ⟨tin_4 (List.mem_of_getElem? (i := 109) rfl), tin_1 (List.mem_of_getElem? (i := 1) rfl), ⟨by decide +kernel, by decide +kernel⟩, rfl, by decide +kernel, by decide, fun h => by cases h⟩
set_option maxRecDepth 100000 in
theorem mw_117 : MWok md_117 := ⟨tin_4 (List.mem_of_getElem? (i := 112) rfl), tin_1 (List.mem_of_getElem? (i := 1) rfl), ⟨by decide +kernel, by decide +kernel⟩, rfl, by decide +kernel, by decide, fun h => by cases h⟩
set_option maxRecDepth 100000 in
theorem mw_118 : MWok md_118 := ⟨tin_4 (List.mem_of_getElem? (i := 132) rfl), tin_1 (List.mem_of_getElem? (i := 1) rfl), ⟨by decide +kernel, by decide +kernel⟩, rfl, by decide +kernel, by decide, fun h => by cases h⟩
set_option maxRecDepth 100000 in
theorem mw_119 : MWok md_119 := ⟨tin_4 (List.mem_of_getElem? (i := 140) rfl), tin_1 (List.mem_of_getElem? (i := 1) rfl), ⟨by decide +kernel, by decide +kernel⟩, rfl, by decide +kernel, by decide, fun h => by cases h⟩
set_option maxRecDepth 100000 in
theorem mw_120 : MWok md_120 := ⟨tin_4 (List.mem_of_getElem? (i := 144) rfl), tin_1 (List.mem_of_getElem? (i := 1) rfl), ⟨by decide +kernel, by decide +kernel⟩, rfl, by decide +kernel, by decide, fun h => by cases h⟩
set_option maxRecDepth 100000 in
theorem mw_121 : MWok md_121 := ⟨tin_4 (List.mem_of_getElem? (i := 147) rfl), tin_1 (List.mem_of_getElem? (i := 1) rfl), ⟨by decide +kernel, by decide +kernel⟩, rfl, by decide +kernel, by decide, fun h => by cases h⟩
set_option maxRecDepth 100000 in
theorem mw_122 : MWok md_122 := ⟨tin_4 (List.mem_of_getElem? (i := 151) rfl), tin_1 (List.mem_of_getElem? (i := 1) rfl), ⟨by decide +kernel, by decide +kernel⟩, rfl, by decide +kernel, by decide, fun h => by cases h⟩
set_option maxRecDepth 100000 in
theorem mw_123 : MWok md_123 := ⟨tin_4 (List.mem_of_getElem? (i := 155) rfl), tin_1 (List.mem_of_getElem? (i := 1) rfl), ⟨by decide +kernel, by decide +kernel⟩, rfl, by decide +kernel, by decide, fun h => by cases h⟩
set_option maxRecDepth 100000 in
theorem mw_124 : MWok md_124 := ⟨tin_4 (List.mem_of_getElem? (i := 159) rfl), tin_1 (List.mem_of_getElem? (i := 1) rfl), ⟨by decide +kernel, by decide +kernel⟩, rfl, by decide +kernel, by decide, fun h => by cases h⟩
set_option maxRecDepth 100000 in
theorem mw_125 : MWok md_125 := ⟨tin_4 (List.mem_of_getElem? (i := 163) rfl), tin_1 (List.mem_of_getElem? (i := 1) rfl), ⟨by decide +kernel, by decide +kernel⟩, rfl, by decide +kernel, by decide, fun h => by cases h⟩
set_option maxRecDepth 100000 in
theorem mw_126 : MWok md_126 := ⟨tin_4 (List.mem_of_getElem? (i := 166) rfl), tin_1 (List.mem_of_getElem? (i := 1) rfl), ⟨by decide +kernel, by decide +kernel⟩, rfl, by decide +kernel, by decide, fun h => by cases h⟩
set_option maxRecDepth 100000 in
theorem mw_127 : MWok md_127 := ⟨tin_4 (List.mem_of_getElem? (i := 180) rfl), tin_1 (List.mem_of_getElem? (i := 1) rfl), ⟨by decide +kernel, by decide +kernel⟩, rfl, by decide +kernel, by decide, fun h => by cases h⟩
set_option maxRecDepth 100000 in
theorem mw_128 : MWok md_128 := ⟨tin_4 (List.mem_of_getElem? (i := 184) rfl), tin_1 (List.mem_of_getElem? (i := 1) rfl), ⟨by decide +kernel, by decide +kernel⟩, rfl, by decide +kernel, by decide, fun h => by cases h⟩
set_option maxRecDepth 100000 in
theorem mw_129 : MWok md_129 := ⟨tin_4 (List.mem_of_getElem? (i := 192) rfl), tin_1 (List.mem_of_getElem? (i := 1) rfl), ⟨by decide +kernel, by decide +kernel⟩, rfl, by decide +kernel, by decide, fun h => by cases h⟩
set_option maxRecDepth 100000 in
theorem mw_130 : MWok md_130 := ⟨tin_4 (List.mem_of_getElem? (i := 196) rfl), tin_1 (List.mem_of_getElem? (i := 1) rfl), ⟨by decide +kernel, by decide +kernel⟩, rfl, by decide +kernel, by decide, fun h => by cases h⟩
set_option maxRecDepth 100000 in
theorem mw_131 : MWok md_131 := ⟨tin_4 (List.mem_of_getElem? (i := 200) rfl), tin_1 (List.mem_of_getElem? (i := 1) rfl), ⟨by decide +kernel, by decide +kernel⟩, rfl, by decide +kernel, by decide, fun h => by cases h⟩
set_option maxRecDepth 100000 in
theorem mw_132 : MWok md_132 := ⟨tin_4 (List.mem_of_getElem? (i := 214) rfl), tin_1 (List.mem_of_getElem? (i := 1) rfl), ⟨by decide +kernel, by decide +kernel⟩, rfl, by decide +kernel, by decide, fun h => by cases h⟩
set_option maxRecDepth 100000 in
theorem mw_133 : MWok md_133 := ⟨tin_4 (List.mem_of_getElem? (i := 218) rfl), tin_1 (List.mem_of_getElem? (i := 1) rfl), ⟨by decide +kernel, by decide +kernel⟩, rfl, by decide +kernel, by decide, fun h => by cases h⟩
set_option maxRecDepth 100000 in
theorem mw_134 : MWok md_134 := ⟨tin_4 (List.mem_of_getElem? (i := 222) rfl), tin_1 (List.mem_of_getElem? (i := 1) rfl), ⟨by decide +kernel, by decide +kernel⟩, rfl, by decide +kernel, by decide, fun h => by cases h⟩
set_option maxRecDepth 100000 in
theorem mw_135 : MWok md_135 := ⟨tin_4 (List.mem_of_getElem? (i := 226) rfl), tin_1 (List.mem_of_getElem? (i := 1) rfl), ⟨by decide +kernel, by decide +kernel⟩, rfl, by decide +kernel, by decide, fun h => by cases h⟩
set_option maxRecDepth 100000 in
theorem mw_136 : MWok md_136 := ⟨tin_4 (List.mem_of_getElem? (i := 231) rfl), tin_1 (List.mem_of_getElem? (i := 1) rfl), ⟨by decide +kernel, by decide +kernel⟩, rfl, by decide +kernel, by decide, fun h => by cases h⟩
set_option maxRecDepth 100000 in
theorem mw_137 : MWok md_137 := ⟨tin_4 (List.mem_of_getElem? (i := 239) rfl), tin_1 (List.mem_of_getElem? (i := 1) rfl), ⟨by decide +kernel, by decide +kernel⟩, rfl, by decide +kernel, by decide, fun h => by cases h⟩
set_option maxRecDepth 100000 in
theorem mw_138 : MWok md_138 := ⟨tin_5 (List.mem_of_getElem? (i := 7) rfl), tin_1 (List.mem_of_getElem? (i := 1) rfl), ⟨by decide +kernel, by decide +kernel⟩, rfl, by decide +kernel, by decide, fun h => by cases h⟩
set_option maxRecDepth 100000 in
theorem mw_139 : MWok md_139 := ⟨tin_5 (List.mem_of_getElem? (i := 15) rfl), tin_1 (List.mem_of_getElem? (i := 1) rfl), ⟨by decide +kernel, by decide +kernel⟩, rfl, by decide +kernel, by decide, fun h => by cases h⟩
set_option maxRecDepth 100000 in
theorem mw_140 : MWok md_140 := ⟨tin_5 (List.mem_of_getElem? (i := 31) rfl), tin_1 (List.mem_of_getElem? (i := 1) rfl), ⟨by decide +kernel, by decide +kernel⟩, rfl, by decide +kernel, by decide, fun h => by cases h⟩
set_option maxRecDepth 100000 in
theorem mw_141 : MWok md_141 := ⟨tin_5 (List.mem_of_getElem? (i := 40) rfl), tin_1 (List.mem_of_getElem? (i := 1) rfl), ⟨by decide +kernel, by decide +kernel⟩, rfl, by decide +kernel, by decide, fun h => by cases h⟩
set_option maxRecDepth 100000 in
theorem mw_142 : MWok md_142 := ⟨tin_5 (List.mem_of_getElem? (i := 53) rfl), tin_1 (List.mem_of_getElem? (i := 1) rfl), ⟨by decide +kernel, by decide +kernel⟩, rfl, by decide +kernel, by decide, fun h => by cases h⟩
set_option maxRecDepth 100000 in
theorem mw_143 : MWok md_143 := ⟨tin_5 (List.mem_of_getElem? (i := 57) rfl), tin_1 (List.mem_of_getElem? (i := 1) rfl), ⟨by decide +kernel, by decide +kernel⟩, rfl, by decide +kernel, by decide, fun h => by cases h⟩
set_option maxRecDepth 100000 in
theorem mw_144 : MWok md_144 := ⟨tin_5 (List.mem_of_getElem? (i := 66) rfl), tin_1 (List.mem_of_getElem? (i := 1) rfl), ⟨by decide +kernel, by decide +kernel⟩, rfl, by decide +kernel, by decide, fun h => by cases h⟩
set_option maxRecDepth 100000 in
theorem mw_145 : MWok md_145 := ⟨tin_5 (List.mem_of_getElem? (i := 70) rfl), tin_1 (List.mem_of_getElem? (i := 1) rfl), ⟨by decide +kernel, by decide +kernel⟩, rfl, by decide +kernel, by decide, fun h => by cases h⟩
set_option maxRecDepth 100000 in
theorem mw_146 : MWok md_146 := ⟨tin_5 (List.mem_of_getElem? (i := 74) rfl), tin_1 (List.mem_of_getElem? (i := 1) rfl), ⟨by decide +kernel, by decide +kernel⟩, rfl, by decide +kernel, by decide, fun h => by cases h⟩
set_option maxRecDepth 100000 in
theorem mw_147 : MWok md_147 := ⟨tin_5 (List.mem_of_getElem? (i := 82) rfl), tin_1 (List.mem_of_getElem? (i := 1) rfl), ⟨by decide +kernel, by decide +kernel⟩, rfl, by decide +kernel, by decide, fun h => by cases h⟩
set_option maxRecDepth 100000 in
theorem mw_148 : MWok md_148 := ⟨tin_5 (List.mem_of_getElem? (i := 93) rfl), tin_1 (List.mem_of_getElem? (i := 1) rfl), ⟨by decide +kernel, by decide +kernel⟩, rfl, by decide +kernel, by decide, fun h => by cases h⟩
set_option maxRecDepth 100000 in
theorem mw_265 : MWok md_265 := ⟨tin_4 (List.mem_of_getElem? (i := 204) rfl), tin_1 (List.mem_of_getElem? (i := 1) rfl), ⟨by decide +kernel, by decide +kernel⟩, rfl, by decide +kernel, by decide, fun h => by cases h⟩
