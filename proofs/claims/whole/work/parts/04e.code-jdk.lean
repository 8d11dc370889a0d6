-- 264: java/lang/Math.min (II)I
def md_264 : MD := (12, false, 2, 1, ⟨"java/lang/Math", "min", "(II)I"⟩, prog_14_method_69_code, [(5, [(0, .inr (.inr (40, 0, 0, .null)), 1), (1, .inr (.inr (40, 1, 0, .null)), 1), (2, .inr (.inr (30, 9, 0, .null)), 3), (5, .inr (.inr (40, 0, 0, .null)), 1)]), (10, [(6, .inr (.inr (32, 10, 0, .null)), 3), (9, .inr (.inr (40, 1, 0, .null)), 1), (10, .inr (.inl .ireturn), 1)])])
set_option maxRecDepth 100000 in
theorem ck_264 : mchk md_264 = true := by decide +kernel
set_option maxRecDepth 100000 in
theorem mw_264 : MWok md_264 := ⟨List.mem_of_getElem? (i := 515) rfl, List.mem_of_getElem? (i := 97) rfl, ⟨by decide +kernel, by decide +kernel⟩, rfl, by decide +kernel, by decide, fun h => by cases h⟩
-- 265: java/lang/Math.max (II)I
def md_265 : MD := (12, false, 2, 1, ⟨"java/lang/Math", "max", "(II)I"⟩, prog_14_method_65_code, [(5, [(0, .inr (.inr (40, 0, 0, .null)), 1), (1, .inr (.inr (40, 1, 0, .null)), 1), (2, .inr (.inr (28, 9, 0, .null)), 3), (5, .inr (.inr (40, 0, 0, .null)), 1)]), (10, [(6, .inr (.inr (32, 10, 0, .null)), 3), (9, .inr (.inr (40, 1, 0, .null)), 1), (10, .inr (.inl .ireturn), 1)])])
set_option maxRecDepth 100000 in
theorem ck_265 : mchk md_265 = true := by decide +kernel
set_option maxRecDepth 100000 in
theorem mw_265 : MWok md_265 := ⟨List.mem_of_getElem? (i := 801) rfl, List.mem_of_getElem? (i := 97) rfl, ⟨by decide +kernel, by decide +kernel⟩, rfl, by decide +kernel, by decide, fun h => by cases h⟩
-- 266: java/lang/Integer.bitCount (I)I
def md_266 : MD := (13, false, 1, 1, ⟨"java/lang/Integer", "bitCount", "(I)I"⟩, prog_13_method_49_code, [(7, [(0, .inr (.inr (40, 0, 0, .null)), 1), (1, .inr (.inr (40, 0, 0, .null)), 1), (2, .inl (.int 1), 1), (3, .inr (.inl .iushr), 1), (4, .inl (.int 1431655765), 3), (7, .inr (.inl .iand), 1)]), (15, [(8, .inr (.inl .isub), 1), (9, .inr (.inr (43, 0, 0, .null)), 1), (10, .inr (.inr (40, 0, 0, .null)), 1), (11, .inl (.int 858993459), 3), (14, .inr (.inl .iand), 1), (15, .inr (.inr (40, 0, 0, .null)), 1)]), (23, [(16, .inl (.int 2), 1), (17, .inr (.inl .iushr), 1), (18, .inl (.int 858993459), 3), (21, .inr (.inl .iand), 1), (22, .inr (.inl .iadd), 1), (23, .inr (.inr (43, 0, 0, .null)), 1)]), (29, [(24, .inr (.inr (40, 0, 0, .null)), 1), (25, .inr (.inr (40, 0, 0, .null)), 1), (26, .inl (.int 4), 1), (27, .inr (.inl .iushr), 1), (28, .inr (.inl .iadd), 1), (29, .inl (.int 252645135), 3)]), (38, [(32, .inr (.inl .iand), 1), (33, .inr (.inr (43, 0, 0, .null)), 1), (34, .inr (.inr (40, 0, 0, .null)), 1), (35, .inr (.inr (40, 0, 0, .null)), 1), (36, .inl (.int 8), 2), (38, .inr (.inl .iushr), 1)]), (45, [(39, .inr (.inl .iadd), 1), (40, .inr (.inr (43, 0, 0, .null)), 1), (41, .inr (.inr (40, 0, 0, .null)), 1), (42, .inr (.inr (40, 0, 0, .null)), 1), (43, .inl (.int 16), 2), (45, .inr (.inl .iushr), 1)]), (52, [(46, .inr (.inl .iadd), 1), (47, .inr (.inr (43, 0, 0, .null)), 1), (48, .inr (.inr (40, 0, 0, .null)), 1), (49, .inl (.int 63), 2), (51, .inr (.inl .iand), 1), (52, .inr (.inl .ireturn), 1)])])
set_option maxRecDepth 100000 in
theorem ck_266 : mchk md_266 = true := by decide +kernel
set_option maxRecDepth 100000 in
theorem mw_266 : MWok md_266 := ⟨List.mem_of_getElem? (i := 1002) rfl, List.mem_of_getElem? (i := 103) rfl, ⟨by decide +kernel, by decide +kernel⟩, rfl, by decide +kernel, by decide, fun h => by cases h⟩
