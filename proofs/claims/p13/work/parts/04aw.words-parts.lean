set_option maxRecDepth 100000 in
theorem mw_0 : MWok md_0 := ⟨tin_1 (List.mem_of_getElem? (i := 87) rfl), tin_1 (List.mem_of_getElem? (i := 5) rfl), ⟨by decide +kernel, by decide +kernel⟩, rfl, by decide +kernel, by decide, fun _ => ⟨rfl, rfl⟩⟩
set_option maxRecDepth 100000 in
theorem mw_1 : MWok md_1 := ⟨tin_1 (List.mem_of_getElem? (i := 116) rfl), tin_1 (List.mem_of_getElem? (i := 5) rfl), ⟨by decide +kernel, by decide +kernel⟩, rfl, by decide +kernel, by decide, fun h => by cases h⟩
set_option maxRecDepth 100000 in
theorem mw_2 : MWok md_2 := ⟨tin_3 (List.mem_of_getElem? (i := 116) rfl), tin_1 (List.mem_of_getElem? (i := 5) rfl), ⟨by decide +kernel, by decide +kernel⟩, rfl, by decide +kernel, by decide, fun h => by cases h⟩
set_option maxRecDepth 100000 in
theorem mw_3 : MWok md_3 := ⟨tin_4 (List.mem_of_getElem? (i := 10) rfl), tin_1 (List.mem_of_getElem? (i := 5) rfl), ⟨by decide +kernel, by decide +kernel⟩, rfl, by decide +kernel, by decide, fun h => by cases h⟩
set_option maxRecDepth 100000 in
theorem mw_4 : MWok md_4 := ⟨tin_4 (List.mem_of_getElem? (i := 235) rfl), tin_1 (List.mem_of_getElem? (i := 5) rfl), ⟨by decide +kernel, by decide +kernel⟩, rfl, by decide +kernel, by decide, fun h => by cases h⟩
set_option maxRecDepth 100000 in
theorem mw_5 : MWok md_5 := ⟨tin_1 (List.mem_of_getElem? (i := 122) rfl), tin_1 (List.mem_of_getElem? (i := 6) rfl), ⟨by decide +kernel, by decide +kernel⟩, rfl, by decide +kernel, by decide, fun _ => ⟨rfl, rfl⟩⟩
set_option maxRecDepth 100000 in
theorem mw_6 : MWok md_6 := ⟨tin_3 (List.mem_of_getElem? (i := 56) rfl), tin_1 (List.mem_of_getElem? (i := 6) rfl), ⟨by decide +kernel, by decide +kernel⟩, rfl, by decide +kernel, by decide, fun h => by cases h⟩
set_option maxRecDepth 100000 in
theorem mw_7 : MWok md_7 := ⟨tin_3 (List.mem_of_getElem? (i := 120) rfl), tin_1 (List.mem_of_getElem? (i := 6) rfl), ⟨by decide +kernel, by decide +kernel⟩, rfl, by decide +kernel, by decide, fun h => by cases h⟩
set_option maxRecDepth 100000 in
theorem mw_8 : MWok md_8 := ⟨tin_3 (List.mem_of_getElem? (i := 233) rfl), tin_1 (List.mem_of_getElem? (i := 6) rfl), ⟨by decide +kernel, by decide +kernel⟩, rfl, by decide +kernel, by decide, fun h => by cases h⟩
set_option maxRecDepth 100000 in
theorem mw_9 : MWok md_9 := ⟨tin_1 (List.mem_of_getElem? (i := 48) rfl), tin_1 (List.mem_of_getElem? (i := 3) rfl), ⟨by decide +kernel, by decide +kernel⟩, rfl, by decide +kernel, by decide, fun _ => ⟨rfl, rfl⟩⟩
set_option maxRecDepth 100000 in
theorem mw_10 : MWok md_10 := ⟨tin_2 (List.mem_of_getElem? (i := 182) rfl), tin_1 (List.mem_of_getElem? (i := 3) rfl), ⟨by decide +kernel, by decide +kernel⟩, rfl, by decide +kernel, by decide, fun h => by cases h⟩
set_option maxRecDepth 100000 in
theorem mw_11 : MWok md_11 := ⟨tin_2 (List.mem_of_getElem? (i := 190) rfl), tin_1 (List.mem_of_getElem? (i := 3) rfl), ⟨by decide +kernel, by decide +kernel⟩, rfl, by decide +kernel, by decide, fun h => by cases h⟩
set_option maxRecDepth 100000 in
theorem mw_12 : MWok md_12 := ⟨tin_2 (List.mem_of_getElem? (i := 193) rfl), tin_1 (List.mem_of_getElem? (i := 3) rfl), ⟨by decide +kernel, by decide +kernel⟩, rfl, by decide +kernel, by decide, fun h => by cases h⟩
set_option maxRecDepth 100000 in
theorem mw_13 : MWok md_13 := ⟨tin_2 (List.mem_of_getElem? (i := 201) rfl), tin_1 (List.mem_of_getElem? (i := 3) rfl), ⟨by decide +kernel, by decide +kernel⟩, rfl, by decide +kernel, by decide, fun h => by cases h⟩
set_option maxRecDepth 100000 in
theorem mw_14 : MWok md_14 := ⟨tin_2 (List.mem_of_getElem? (i := 205) rfl), tin_1 (List.mem_of_getElem? (i := 3) rfl), ⟨by decide +kernel, by decide +kernel⟩, rfl, by decide +kernel, by decide, fun h => by cases h⟩
set_option maxRecDepth 100000 in
theorem mw_15 : MWok md_15 := ⟨tin_2 (List.mem_of_getElem? (i := 209) rfl), tin_1 (List.mem_of_getElem? (i := 3) rfl), ⟨by decide +kernel, by decide +kernel⟩, rfl, by decide +kernel, by decide, fun h => by cases h⟩
set_option maxRecDepth 100000 in
theorem mw_16 : MWok md_16 := ⟨tin_2 (List.mem_of_getElem? (i := 214) rfl), tin_1 (List.mem_of_getElem? (i := 3) rfl), ⟨by decide +kernel, by decide +kernel⟩, rfl, by decide +kernel, by decide, fun h => by cases h⟩
set_option maxRecDepth 100000 in
theorem mw_17 : MWok md_17 := ⟨tin_2 (List.mem_of_getElem? (i := 218) rfl), tin_1 (List.mem_of_getElem? (i := 3) rfl), ⟨by decide +kernel, by decide +kernel⟩, rfl, by decide +kernel, by decide, fun h => by cases h⟩
set_option maxRecDepth 100000 in
theorem mw_18 : MWok md_18 := ⟨tin_3 (List.mem_of_getElem? (i := 30) rfl), tin_1 (List.mem_of_getElem? (i := 3) rfl), ⟨by decide +kernel, by decide +kernel⟩, rfl, by decide +kernel, by decide, fun h => by cases h⟩
set_option maxRecDepth 100000 in
theorem mw_19 : MWok md_19 := ⟨tin_3 (List.mem_of_getElem? (i := 35) rfl), tin_1 (List.mem_of_getElem? (i := 3) rfl), ⟨by decide +kernel, by decide +kernel⟩, rfl, by decide +kernel, by decide, fun h => by cases h⟩
set_option maxRecDepth 100000 in
theorem mw_20 : MWok md_20 := ⟨tin_3 (List.mem_of_getElem? (i := 39) rfl), tin_1 (List.mem_of_getElem? (i := 3) rfl), ⟨by decide +kernel, by decide +kernel⟩, rfl, by decide +kernel, by decide, fun h => by cases h⟩
set_option maxRecDepth 100000 in
theorem mw_21 : MWok md_21 := ⟨tin_3 (List.mem_of_getElem? (i := 48) rfl), tin_1 (List.mem_of_getElem? (i := 3) rfl), ⟨by decide +kernel, by decide +kernel⟩, rfl, by decide +kernel, by decide, fun h => by cases h⟩
set_option maxRecDepth 100000 in
theorem mw_22 : MWok md_22 := ⟨tin_3 (List.mem_of_getElem? (i := 61) rfl), tin_1 (List.mem_of_getElem? (i := 3) rfl), ⟨by decide +kernel, by decide +kernel⟩, rfl, by decide +kernel, by decide, fun h => by cases h⟩
set_option maxRecDepth 100000 in
theorem mw_23 : MWok md_23 := ⟨tin_3 (List.mem_of_getElem? (i := 79) rfl), tin_1 (List.mem_of_getElem? (i := 3) rfl), ⟨by decide +kernel, by decide +kernel⟩, rfl, by decide +kernel, by decide, fun h => by cases h⟩
set_option maxRecDepth 100000 in
theorem mw_24 : MWok md_24 := ⟨tin_3 (List.mem_of_getElem? (i := 85) rfl), tin_1 (List.mem_of_getElem? (i := 3) rfl), ⟨by decide +kernel, by decide +kernel⟩, rfl, by decide +kernel, by decide, fun h => by cases h⟩
set_option maxRecDepth 100000 in
theorem mw_25 : MWok md_25 := ⟨tin_3 (List.mem_of_getElem? (i := 95) rfl), tin_1 (List.mem_of_getElem? (i := 3) rfl), ⟨by decide +kernel, by decide +kernel⟩, rfl, by decide +kernel, by decide, fun h => by cases h⟩
set_option maxRecDepth 100000 in
theorem mw_26 : MWok md_26 := ⟨tin_1 (List.mem_of_getElem? (i := 81) rfl), tin_1 (List.mem_of_getElem? (i := 4) rfl), ⟨by decide +kernel, by decide +kernel⟩, rfl, by decide +kernel, by decide, fun _ => ⟨rfl, rfl⟩⟩
set_option maxRecDepth 100000 in
theorem mw_27 : MWok md_27 := ⟨tin_2 (List.mem_of_getElem? (i := 186) rfl), tin_1 (List.mem_of_getElem? (i := 4) rfl), ⟨by decide +kernel, by decide +kernel⟩, rfl, by decide +kernel, by decide, fun h => by cases h⟩
set_option maxRecDepth 100000 in
theorem mw_28 : MWok md_28 := ⟨tin_3 (List.mem_of_getElem? (i := 52) rfl), tin_1 (List.mem_of_getElem? (i := 4) rfl), ⟨by decide +kernel, by decide +kernel⟩, rfl, by decide +kernel, by decide, fun h => by cases h⟩
set_option maxRecDepth 100000 in
theorem mw_29 : MWok md_29 := ⟨tin_3 (List.mem_of_getElem? (i := 65) rfl), tin_1 (List.mem_of_getElem? (i := 4) rfl), ⟨by decide +kernel, by decide +kernel⟩, rfl, by decide +kernel, by decide, fun h => by cases h⟩
set_option maxRecDepth 100000 in
theorem mw_30 : MWok md_30 := ⟨tin_3 (List.mem_of_getElem? (i := 71) rfl), tin_1 (List.mem_of_getElem? (i := 4) rfl), ⟨by decide +kernel, by decide +kernel⟩, rfl, by decide +kernel, by decide, fun h => by cases h⟩
set_option maxRecDepth 100000 in
theorem mw_31 : MWok md_31 := ⟨tin_3 (List.mem_of_getElem? (i := 102) rfl), tin_1 (List.mem_of_getElem? (i := 4) rfl), ⟨by decide +kernel, by decide +kernel⟩, rfl, by decide +kernel, by decide, fun h => by cases h⟩
set_option maxRecDepth 100000 in
theorem mw_32 : MWok md_32 := ⟨tin_3 (List.mem_of_getElem? (i := 112) rfl), tin_1 (List.mem_of_getElem? (i := 4) rfl), ⟨by decide +kernel, by decide +kernel⟩, rfl, by decide +kernel, by decide, fun h => by cases h⟩
set_option maxRecDepth 100000 in
theorem mw_33 : MWok md_33 := ⟨tin_3 (List.mem_of_getElem? (i := 144) rfl), tin_1 (List.mem_of_getElem? (i := 4) rfl), ⟨by decide +kernel, by decide +kernel⟩, rfl, by decide +kernel, by decide, fun h => by cases h⟩
set_option maxRecDepth 100000 in
theorem mw_34 : MWok md_34 := ⟨tin_3 (List.mem_of_getElem? (i := 148) rfl), tin_1 (List.mem_of_getElem? (i := 4) rfl), ⟨by decide +kernel, by decide +kernel⟩, rfl, by decide +kernel, by decide, fun h => by cases h⟩
set_option maxRecDepth 100000 in
theorem mw_35 : MWok md_35 := ⟨tin_3 (List.mem_of_getElem? (i := 156) rfl), tin_1 (List.mem_of_getElem? (i := 4) rfl), ⟨by decide +kernel, by decide +kernel⟩, rfl, by decide +kernel, by decide, fun h => by cases h⟩
set_option maxRecDepth 100000 in
theorem mw_36 : MWok md_36 := ⟨tin_3 (List.mem_of_getElem? (i := 161) rfl), tin_1 (List.mem_of_getElem? (i := 4) rfl), ⟨by decide +kernel, by decide +kernel⟩, rfl, by decide +kernel, by decide, fun h => by cases h⟩
set_option maxRecDepth 100000 in
theorem mw_37 : MWok md_37 := ⟨tin_3 (List.mem_of_getElem? (i := 169) rfl), tin_1 (List.mem_of_getElem? (i := 4) rfl), ⟨by decide +kernel, by decide +kernel⟩, rfl, by decide +kernel, by decide, fun h => by cases h⟩
set_option maxRecDepth 100000 in
theorem mw_38 : MWok md_38 := ⟨tin_3 (List.mem_of_getElem? (i := 173) rfl), tin_1 (List.mem_of_getElem? (i := 4) rfl), ⟨by decide +kernel, by decide +kernel⟩, rfl, by decide +kernel, by decide, fun h => by cases h⟩
set_option maxRecDepth 100000 in
theorem mw_39 : MWok md_39 := ⟨tin_3 (List.mem_of_getElem? (i := 177) rfl), tin_1 (List.mem_of_getElem? (i := 4) rfl), ⟨by decide +kernel, by decide +kernel⟩, rfl, by decide +kernel, by decide, fun h => by cases h⟩
set_option maxRecDepth 100000 in
theorem mw_40 : MWok md_40 := ⟨tin_3 (List.mem_of_getElem? (i := 189) rfl), tin_1 (List.mem_of_getElem? (i := 4) rfl), ⟨by decide +kernel, by decide +kernel⟩, rfl, by decide +kernel, by decide, fun h => by cases h⟩
set_option maxRecDepth 100000 in
theorem mw_41 : MWok md_41 := ⟨tin_3 (List.mem_of_getElem? (i := 198) rfl), tin_1 (List.mem_of_getElem? (i := 4) rfl), ⟨by decide +kernel, by decide +kernel⟩, rfl, by decide +kernel, by decide, fun h => by cases h⟩
set_option maxRecDepth 100000 in
theorem mw_42 : MWok md_42 := ⟨tin_3 (List.mem_of_getElem? (i := 215) rfl), tin_1 (List.mem_of_getElem? (i := 4) rfl), ⟨by decide +kernel, by decide +kernel⟩, rfl, by decide +kernel, by decide, fun h => by cases h⟩
set_option maxRecDepth 100000 in
theorem mw_43 : MWok md_43 := ⟨tin_3 (List.mem_of_getElem? (i := 239) rfl), tin_1 (List.mem_of_getElem? (i := 4) rfl), ⟨by decide +kernel, by decide +kernel⟩, rfl, by decide +kernel, by decide, fun h => by cases h⟩
set_option maxRecDepth 100000 in
theorem mw_44 : MWok md_44 := ⟨tin_4 (List.mem_of_getElem? (i := 6) rfl), tin_1 (List.mem_of_getElem? (i := 4) rfl), ⟨by decide +kernel, by decide +kernel⟩, rfl, by decide +kernel, by decide, fun h => by cases h⟩
set_option maxRecDepth 100000 in
theorem mw_45 : MWok md_45 := ⟨tin_4 (List.mem_of_getElem? (i := 102) rfl), tin_1 (List.mem_of_getElem? (i := 4) rfl), ⟨by decide +kernel, by decide +kernel⟩, rfl, by decide +kernel, by decide, fun h => by cases h⟩
set_option maxRecDepth 100000 in
theorem mw_46 : MWok md_46 := ⟨tin_4 (List.mem_of_getElem? (i := 171) rfl), tin_1 (List.mem_of_getElem? (i := 4) rfl), ⟨by decide +kernel, by decide +kernel⟩, rfl, by decide +kernel, by decide, fun h => by cases h⟩
set_option maxRecDepth 100000 in
theorem mw_47 : MWok md_47 := ⟨tin_4 (List.mem_of_getElem? (i := 176) rfl), tin_1 (List.mem_of_getElem? (i := 4) rfl), ⟨by decide +kernel, by decide +kernel⟩, rfl, by decide +kernel, by decide, fun h => by cases h⟩
set_option maxRecDepth 100000 in
theorem mw_48 : MWok md_48 := ⟨tin_4 (List.mem_of_getElem? (i := 188) rfl), tin_1 (List.mem_of_getElem? (i := 4) rfl), ⟨by decide +kernel, by decide +kernel⟩, rfl, by decide +kernel, by decide, fun h => by cases h⟩
set_option maxRecDepth 100000 in
theorem mw_49 : MWok md_49 := ⟨tin_2 (List.mem_of_getElem? (i := 110) rfl), tin_1 (List.mem_of_getElem? (i := 10) rfl), ⟨by decide +kernel, by decide +kernel⟩, rfl, by decide +kernel, by decide, fun _ => ⟨rfl, rfl⟩⟩
set_option maxRecDepth 100000 in
theorem mw_50 : MWok md_50 := ⟨tin_5 (List.mem_of_getElem? (i := 19) rfl), tin_1 (List.mem_of_getElem? (i := 10) rfl), ⟨by decide +kernel, by decide +kernel⟩, rfl, by decide +kernel, by decide, fun h => by cases h⟩
set_option maxRecDepth 100000 in
theorem mw_51 : MWok md_51 := ⟨tin_5 (List.mem_of_getElem? (i := 23) rfl), tin_1 (List.mem_of_getElem? (i := 10) rfl), ⟨by decide +kernel, by decide +kernel⟩, rfl, by decide +kernel, by decide, fun h => by cases h⟩
set_option maxRecDepth 100000 in
theorem mw_52 : MWok md_52 := ⟨tin_5 (List.mem_of_getElem? (i := 27) rfl), tin_1 (List.mem_of_getElem? (i := 10) rfl), ⟨by decide +kernel, by decide +kernel⟩, rfl, by decide +kernel, by decide, fun h => by cases h⟩
set_option maxRecDepth 100000 in
theorem mw_53 : MWok md_53 := ⟨tin_5 (List.mem_of_getElem? (i := 61) rfl), tin_1 (List.mem_of_getElem? (i := 10) rfl), ⟨by decide +kernel, by decide +kernel⟩, rfl, by decide +kernel, by decide, fun h => by cases h⟩
set_option maxRecDepth 100000 in
theorem mw_54 : MWok md_54 := ⟨tin_5 (List.mem_of_getElem? (i := 78) rfl), tin_1 (List.mem_of_getElem? (i := 10) rfl), ⟨by decide +kernel, by decide +kernel⟩, rfl, by decide +kernel, by decide, fun h => by cases h⟩
set_option maxRecDepth 100000 in
theorem mw_55 : MWok md_55 := ⟨tin_5 (List.mem_of_getElem? (i := 86) rfl), tin_1 (List.mem_of_getElem? (i := 10) rfl), ⟨by decide +kernel, by decide +kernel⟩, rfl, by decide +kernel, by decide, fun h => by cases h⟩
set_option maxRecDepth 100000 in
theorem mw_56 : MWok md_56 := ⟨tin_5 (List.mem_of_getElem? (i := 89) rfl), tin_1 (List.mem_of_getElem? (i := 10) rfl), ⟨by decide +kernel, by decide +kernel⟩, rfl, by decide +kernel, by decide, fun h => by cases h⟩
set_option maxRecDepth 100000 in
theorem mw_57 : MWok md_57 := ⟨tin_5 (List.mem_of_getElem? (i := 97) rfl), tin_1 (List.mem_of_getElem? (i := 10) rfl), ⟨by decide +kernel, by decide +kernel⟩, rfl, by decide +kernel, by decide, fun h => by cases h⟩
set_option maxRecDepth 100000 in
theorem mw_58 : MWok md_58 := ⟨tin_5 (List.mem_of_getElem? (i := 101) rfl), tin_1 (List.mem_of_getElem? (i := 10) rfl), ⟨by decide +kernel, by decide +kernel⟩, rfl, by decide +kernel, by decide, fun h => by cases h⟩
set_option maxRecDepth 100000 in
theorem mw_59 : MWok md_59 := ⟨tin_1 (List.mem_of_getElem? (i := 31) rfl), tin_1 (List.mem_of_getElem? (i := 2) rfl), ⟨by decide +kernel, by decide +kernel⟩, rfl, by decide +kernel, by decide, fun _ => ⟨rfl, rfl⟩⟩
set_option maxRecDepth 100000 in
theorem mw_60 : MWok md_60 := ⟨tin_2 (List.mem_of_getElem? (i := 166) rfl), tin_1 (List.mem_of_getElem? (i := 2) rfl), ⟨by decide +kernel, by decide +kernel⟩, rfl, by decide +kernel, by decide, fun h => by cases h⟩
set_option maxRecDepth 100000 in
theorem mw_61 : MWok md_61 := ⟨tin_2 (List.mem_of_getElem? (i := 170) rfl), tin_1 (List.mem_of_getElem? (i := 2) rfl), ⟨by decide +kernel, by decide +kernel⟩, rfl, by decide +kernel, by decide, fun h => by cases h⟩
set_option maxRecDepth 100000 in
theorem mw_62 : MWok md_62 := ⟨tin_2 (List.mem_of_getElem? (i := 73) rfl), tin_1 (List.mem_of_getElem? (i := 9) rfl), ⟨by decide +kernel, by decide +kernel⟩, rfl, by decide +kernel, by decide, fun _ => ⟨rfl, rfl⟩⟩
set_option maxRecDepth 100000 in
theorem mw_63 : MWok md_63 := ⟨tin_3 (List.mem_of_getElem? (i := 223) rfl), tin_1 (List.mem_of_getElem? (i := 9) rfl), ⟨by decide +kernel, by decide +kernel⟩, rfl, by decide +kernel, by decide, fun h => by cases h⟩
set_option maxRecDepth 100000 in
theorem mw_64 : MWok md_64 := ⟨tin_3 (List.mem_of_getElem? (i := 229) rfl), tin_1 (List.mem_of_getElem? (i := 9) rfl), ⟨by decide +kernel, by decide +kernel⟩, rfl, by decide +kernel, by decide, fun h => by cases h⟩
set_option maxRecDepth 100000 in
theorem mw_65 : MWok md_65 := ⟨tin_4 (List.mem_of_getElem? (i := 55) rfl), tin_1 (List.mem_of_getElem? (i := 9) rfl), ⟨by decide +kernel, by decide +kernel⟩, rfl, by decide +kernel, by decide, fun h => by cases h⟩
set_option maxRecDepth 100000 in
theorem mw_66 : MWok md_66 := ⟨tin_4 (List.mem_of_getElem? (i := 59) rfl), tin_1 (List.mem_of_getElem? (i := 9) rfl), ⟨by decide +kernel, by decide +kernel⟩, rfl, by decide +kernel, by decide, fun h => by cases h⟩
set_option maxRecDepth 100000 in
theorem mw_67 : MWok md_67 := ⟨tin_5 (List.mem_of_getElem? (i := 45) rfl), tin_1 (List.mem_of_getElem? (i := 9) rfl), ⟨by decide +kernel, by decide +kernel⟩, rfl, by decide +kernel, by decide, fun h => by cases h⟩
set_option maxRecDepth 100000 in
theorem mw_68 : MWok md_68 := ⟨tin_1 (List.mem_of_getElem? (i := 168) rfl), tin_1 (List.mem_of_getElem? (i := 7) rfl), ⟨by decide +kernel, by decide +kernel⟩, rfl, by decide +kernel, by decide, fun _ => ⟨rfl, rfl⟩⟩
set_option maxRecDepth 100000 in
theorem mw_69 : MWok md_69 := ⟨tin_3 (List.mem_of_getElem? (i := 91) rfl), tin_1 (List.mem_of_getElem? (i := 7) rfl), ⟨by decide +kernel, by decide +kernel⟩, rfl, by decide +kernel, by decide, fun h => by cases h⟩
set_option maxRecDepth 100000 in
theorem mw_70 : MWok md_70 := ⟨tin_3 (List.mem_of_getElem? (i := 124) rfl), tin_1 (List.mem_of_getElem? (i := 7) rfl), ⟨by decide +kernel, by decide +kernel⟩, rfl, by decide +kernel, by decide, fun h => by cases h⟩
set_option maxRecDepth 100000 in
theorem mw_71 : MWok md_71 := ⟨tin_3 (List.mem_of_getElem? (i := 202) rfl), tin_1 (List.mem_of_getElem? (i := 7) rfl), ⟨by decide +kernel, by decide +kernel⟩, rfl, by decide +kernel, by decide, fun h => by cases h⟩
set_option maxRecDepth 100000 in
theorem mw_72 : MWok md_72 := ⟨tin_3 (List.mem_of_getElem? (i := 207) rfl), tin_1 (List.mem_of_getElem? (i := 7) rfl), ⟨by decide +kernel, by decide +kernel⟩, rfl, by decide +kernel, by decide, fun h => by cases h⟩
set_option maxRecDepth 100000 in
theorem mw_73 : MWok md_73 := ⟨tin_2 (List.mem_of_getElem? (i := 23) rfl), tin_1 (List.mem_of_getElem? (i := 8) rfl), ⟨by decide +kernel, by decide +kernel⟩, rfl, by decide +kernel, by decide, fun _ => ⟨rfl, rfl⟩⟩
set_option maxRecDepth 100000 in
theorem mw_74 : MWok md_74 := ⟨tin_4 (List.mem_of_getElem? (i := 71) rfl), tin_1 (List.mem_of_getElem? (i := 8) rfl), ⟨by decide +kernel, by decide +kernel⟩, rfl, by decide +kernel, by decide, fun h => by cases h⟩
set_option maxRecDepth 100000 in
theorem mw_75 : MWok md_75 := ⟨tin_4 (List.mem_of_getElem? (i := 77) rfl), tin_1 (List.mem_of_getElem? (i := 8) rfl), ⟨by decide +kernel, by decide +kernel⟩, rfl, by decide +kernel, by decide, fun h => by cases h⟩
set_option maxRecDepth 100000 in
theorem mw_76 : MWok md_76 := ⟨tin_4 (List.mem_of_getElem? (i := 83) rfl), tin_1 (List.mem_of_getElem? (i := 8) rfl), ⟨by decide +kernel, by decide +kernel⟩, rfl, by decide +kernel, by decide, fun h => by cases h⟩
set_option maxRecDepth 100000 in
theorem mw_77 : MWok md_77 := ⟨tin_4 (List.mem_of_getElem? (i := 86) rfl), tin_1 (List.mem_of_getElem? (i := 8) rfl), ⟨by decide +kernel, by decide +kernel⟩, rfl, by decide +kernel, by decide, fun h => by cases h⟩
set_option maxRecDepth 100000 in
theorem mw_78 : MWok md_78 := ⟨tin_4 (List.mem_of_getElem? (i := 90) rfl), tin_1 (List.mem_of_getElem? (i := 8) rfl), ⟨by decide +kernel, by decide +kernel⟩, rfl, by decide +kernel, by decide, fun h => by cases h⟩
set_option maxRecDepth 100000 in
theorem mw_79 : MWok md_79 := ⟨tin_4 (List.mem_of_getElem? (i := 94) rfl), tin_1 (List.mem_of_getElem? (i := 8) rfl), ⟨by decide +kernel, by decide +kernel⟩, rfl, by decide +kernel, by decide, fun h => by cases h⟩
set_option maxRecDepth 100000 in
theorem mw_80 : MWok md_80 := ⟨tin_4 (List.mem_of_getElem? (i := 116) rfl), tin_1 (List.mem_of_getElem? (i := 8) rfl), ⟨by decide +kernel, by decide +kernel⟩, rfl, by decide +kernel, by decide, fun h => by cases h⟩
set_option maxRecDepth 100000 in
theorem mw_81 : MWok md_81 := ⟨tin_4 (List.mem_of_getElem? (i := 120) rfl), tin_1 (List.mem_of_getElem? (i := 8) rfl), ⟨by decide +kernel, by decide +kernel⟩, rfl, by decide +kernel, by decide, fun h => by cases h⟩
set_option maxRecDepth 100000 in
theorem mw_82 : MWok md_82 := ⟨tin_4 (List.mem_of_getElem? (i := 124) rfl), tin_1 (List.mem_of_getElem? (i := 8) rfl), ⟨by decide +kernel, by decide +kernel⟩, rfl, by decide +kernel, by decide, fun h => by cases h⟩
set_option maxRecDepth 100000 in
theorem mw_83 : MWok md_83 := ⟨tin_4 (List.mem_of_getElem? (i := 136) rfl), tin_1 (List.mem_of_getElem? (i := 8) rfl), ⟨by decide +kernel, by decide +kernel⟩, rfl, by decide +kernel, by decide, fun h => by cases h⟩
set_option maxRecDepth 100000 in
theorem mw_84 : MWok md_84 := ⟨tin_5 (List.mem_of_getElem? (i := 3) rfl), tin_1 (List.mem_of_getElem? (i := 8) rfl), ⟨by decide +kernel, by decide +kernel⟩, rfl, by decide +kernel, by decide, fun h => by cases h⟩
set_option maxRecDepth 100000 in
theorem mw_85 : MWok md_85 := ⟨tin_5 (List.mem_of_getElem? (i := 11) rfl), tin_1 (List.mem_of_getElem? (i := 8) rfl), ⟨by decide +kernel, by decide +kernel⟩, rfl, by decide +kernel, by decide, fun h => by cases h⟩
set_option maxRecDepth 100000 in
theorem mw_86 : MWok md_86 := ⟨tin_5 (List.mem_of_getElem? (i := 36) rfl), tin_1 (List.mem_of_getElem? (i := 8) rfl), ⟨by decide +kernel, by decide +kernel⟩, rfl, by decide +kernel, by decide, fun h => by cases h⟩
