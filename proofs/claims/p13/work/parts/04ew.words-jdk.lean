set_option maxRecDepth 100000 in
theorem mw_264 : MWok md_264 := ⟨tin_4 (List.mem_of_getElem? (i := 207) rfl), tin_1 (List.mem_of_getElem? (i := 18) rfl), ⟨by decide +kernel, by decide +kernel⟩, rfl, by decide +kernel, by decide, fun h => by cases h⟩
