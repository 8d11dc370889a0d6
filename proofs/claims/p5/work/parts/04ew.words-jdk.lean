set_option maxRecDepth 100000 in
theorem mw_264 : MWok md_264 := ⟨List.mem_of_getElem? (i := 1013) rfl, List.mem_of_getElem? (i := 104) rfl, ⟨by decide +kernel, by decide +kernel⟩, rfl, by decide +kernel, by decide, fun h => by cases h⟩
