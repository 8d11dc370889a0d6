set_option maxRecDepth 100000 in
theorem mw_0 : MWok md_0 := ⟨List.mem_of_getElem? (i := 173) rfl, List.mem_of_getElem? (i := 91) rfl, ⟨by decide +kernel, by decide +kernel⟩, rfl, by decide +kernel, by decide, fun _ => ⟨rfl, rfl⟩⟩
set_option maxRecDepth 100000 in
theorem mw_1 : MWok md_1 := ⟨List.mem_of_getElem? (i := 202) rfl, List.mem_of_getElem? (i := 91) rfl, ⟨by decide +kernel, by decide +kernel⟩, rfl, by decide +kernel, by decide, fun h => by cases h⟩
set_option maxRecDepth 100000 in
theorem mw_2 : MWok md_2 := ⟨List.mem_of_getElem? (i := 682) rfl, List.mem_of_getElem? (i := 91) rfl, ⟨by decide +kernel, by decide +kernel⟩, rfl, by decide +kernel, by decide, fun h => by cases h⟩
set_option maxRecDepth 100000 in
theorem mw_3 : MWok md_3 := ⟨List.mem_of_getElem? (i := 816) rfl, List.mem_of_getElem? (i := 91) rfl, ⟨by decide +kernel, by decide +kernel⟩, rfl, by decide +kernel, by decide, fun h => by cases h⟩
set_option maxRecDepth 100000 in
theorem mw_4 : MWok md_4 := ⟨List.mem_of_getElem? (i := 1041) rfl, List.mem_of_getElem? (i := 91) rfl, ⟨by decide +kernel, by decide +kernel⟩, rfl, by decide +kernel, by decide, fun h => by cases h⟩
set_option maxRecDepth 100000 in
theorem mw_5 : MWok md_5 := ⟨List.mem_of_getElem? (i := 208) rfl, List.mem_of_getElem? (i := 92) rfl, ⟨by decide +kernel, by decide +kernel⟩, rfl, by decide +kernel, by decide, fun _ => ⟨rfl, rfl⟩⟩
set_option maxRecDepth 100000 in
theorem mw_6 : MWok md_6 := ⟨List.mem_of_getElem? (i := 622) rfl, List.mem_of_getElem? (i := 92) rfl, ⟨by decide +kernel, by decide +kernel⟩, rfl, by decide +kernel, by decide, fun h => by cases h⟩
set_option maxRecDepth 100000 in
theorem mw_7 : MWok md_7 := ⟨List.mem_of_getElem? (i := 686) rfl, List.mem_of_getElem? (i := 92) rfl, ⟨by decide +kernel, by decide +kernel⟩, rfl, by decide +kernel, by decide, fun h => by cases h⟩
set_option maxRecDepth 100000 in
theorem mw_8 : MWok md_8 := ⟨List.mem_of_getElem? (i := 799) rfl, List.mem_of_getElem? (i := 92) rfl, ⟨by decide +kernel, by decide +kernel⟩, rfl, by decide +kernel, by decide, fun h => by cases h⟩
set_option maxRecDepth 100000 in
theorem mw_9 : MWok md_9 := ⟨List.mem_of_getElem? (i := 134) rfl, List.mem_of_getElem? (i := 89) rfl, ⟨by decide +kernel, by decide +kernel⟩, rfl, by decide +kernel, by decide, fun _ => ⟨rfl, rfl⟩⟩
set_option maxRecDepth 100000 in
theorem mw_10 : MWok md_10 := ⟨List.mem_of_getElem? (i := 508) rfl, List.mem_of_getElem? (i := 89) rfl, ⟨by decide +kernel, by decide +kernel⟩, rfl, by decide +kernel, by decide, fun h => by cases h⟩
set_option maxRecDepth 100000 in
theorem mw_11 : MWok md_11 := ⟨List.mem_of_getElem? (i := 516) rfl, List.mem_of_getElem? (i := 89) rfl, ⟨by decide +kernel, by decide +kernel⟩, rfl, by decide +kernel, by decide, fun h => by cases h⟩
set_option maxRecDepth 100000 in
theorem mw_12 : MWok md_12 := ⟨List.mem_of_getElem? (i := 519) rfl, List.mem_of_getElem? (i := 89) rfl, ⟨by decide +kernel, by decide +kernel⟩, rfl, by decide +kernel, by decide, fun h => by cases h⟩
set_option maxRecDepth 100000 in
theorem mw_13 : MWok md_13 := ⟨List.mem_of_getElem? (i := 527) rfl, List.mem_of_getElem? (i := 89) rfl, ⟨by decide +kernel, by decide +kernel⟩, rfl, by decide +kernel, by decide, fun h => by cases h⟩
set_option maxRecDepth 100000 in
theorem mw_14 : MWok md_14 := ⟨List.mem_of_getElem? (i := 531) rfl, List.mem_of_getElem? (i := 89) rfl, ⟨by decide +kernel, by decide +kernel⟩, rfl, by decide +kernel, by decide, fun h => by cases h⟩
set_option maxRecDepth 100000 in
theorem mw_15 : MWok md_15 := ⟨List.mem_of_getElem? (i := 535) rfl, List.mem_of_getElem? (i := 89) rfl, ⟨by decide +kernel, by decide +kernel⟩, rfl, by decide +kernel, by decide, fun h => by cases h⟩
set_option maxRecDepth 100000 in
theorem mw_16 : MWok md_16 := ⟨List.mem_of_getElem? (i := 540) rfl, List.mem_of_getElem? (i := 89) rfl, ⟨by decide +kernel, by decide +kernel⟩, rfl, by decide +kernel, by decide, fun h => by cases h⟩
set_option maxRecDepth 100000 in
theorem mw_17 : MWok md_17 := ⟨List.mem_of_getElem? (i := 544) rfl, List.mem_of_getElem? (i := 89) rfl, ⟨by decide +kernel, by decide +kernel⟩, rfl, by decide +kernel, by decide, fun h => by cases h⟩
set_option maxRecDepth 100000 in
theorem mw_18 : MWok md_18 := ⟨List.mem_of_getElem? (i := 596) rfl, List.mem_of_getElem? (i := 89) rfl, ⟨by decide +kernel, by decide +kernel⟩, rfl, by decide +kernel, by decide, fun h => by cases h⟩
set_option maxRecDepth 100000 in
theorem mw_19 : MWok md_19 := ⟨List.mem_of_getElem? (i := 601) rfl, List.mem_of_getElem? (i := 89) rfl, ⟨by decide +kernel, by decide +kernel⟩, rfl, by decide +kernel, by decide, fun h => by cases h⟩
set_option maxRecDepth 100000 in
theorem mw_20 : MWok md_20 := ⟨List.mem_of_getElem? (i := 605) rfl, List.mem_of_getElem? (i := 89) rfl, ⟨by decide +kernel, by decide +kernel⟩, rfl, by decide +kernel, by decide, fun h => by cases h⟩
set_option maxRecDepth 100000 in
theorem mw_21 : MWok md_21 := ⟨List.mem_of_getElem? (i := 614) rfl, List.mem_of_getElem? (i := 89) rfl, ⟨by decide +kernel, by decide +kernel⟩, rfl, by decide +kernel, by decide, fun h => by cases h⟩
set_option maxRecDepth 100000 in
theorem mw_22 : MWok md_22 := ⟨List.mem_of_getElem? (i := 627) rfl, List.mem_of_getElem? (i := 89) rfl, ⟨by decide +kernel, by decide +kernel⟩, rfl, by decide +kernel, by decide, fun h => by cases h⟩
set_option maxRecDepth 100000 in
theorem mw_23 : MWok md_23 := ⟨List.mem_of_getElem? (i := 645) rfl, List.mem_of_getElem? (i := 89) rfl, ⟨by decide +kernel, by decide +kernel⟩, rfl, by decide +kernel, by decide, fun h => by cases h⟩
set_option maxRecDepth 100000 in
theorem mw_24 : MWok md_24 := ⟨List.mem_of_getElem? (i := 651) rfl, List.mem_of_getElem? (i := 89) rfl, ⟨by decide +kernel, by decide +kernel⟩, rfl, by decide +kernel, by decide, fun h => by cases h⟩
set_option maxRecDepth 100000 in
theorem mw_25 : MWok md_25 := ⟨List.mem_of_getElem? (i := 661) rfl, List.mem_of_getElem? (i := 89) rfl, ⟨by decide +kernel, by decide +kernel⟩, rfl, by decide +kernel, by decide, fun h => by cases h⟩
set_option maxRecDepth 100000 in
theorem mw_26 : MWok md_26 := ⟨List.mem_of_getElem? (i := 167) rfl, List.mem_of_getElem? (i := 90) rfl, ⟨by decide +kernel, by decide +kernel⟩, rfl, by decide +kernel, by decide, fun _ => ⟨rfl, rfl⟩⟩
set_option maxRecDepth 100000 in
theorem mw_27 : MWok md_27 := ⟨List.mem_of_getElem? (i := 512) rfl, List.mem_of_getElem? (i := 90) rfl, ⟨by decide +kernel, by decide +kernel⟩, rfl, by decide +kernel, by decide, fun h => by cases h⟩
set_option maxRecDepth 100000 in
theorem mw_28 : MWok md_28 := ⟨List.mem_of_getElem? (i := 618) rfl, List.mem_of_getElem? (i := 90) rfl, ⟨by decide +kernel, by decide +kernel⟩, rfl, by decide +kernel, by decide, fun h => by cases h⟩
set_option maxRecDepth 100000 in
theorem mw_29 : MWok md_29 := ⟨List.mem_of_getElem? (i := 631) rfl, List.mem_of_getElem? (i := 90) rfl, ⟨by decide +kernel, by decide +kernel⟩, rfl, by decide +kernel, by decide, fun h => by cases h⟩
set_option maxRecDepth 100000 in
theorem mw_30 : MWok md_30 := ⟨List.mem_of_getElem? (i := 637) rfl, List.mem_of_getElem? (i := 90) rfl, ⟨by decide +kernel, by decide +kernel⟩, rfl, by decide +kernel, by decide, fun h => by cases h⟩
set_option maxRecDepth 100000 in
theorem mw_31 : MWok md_31 := ⟨List.mem_of_getElem? (i := 668) rfl, List.mem_of_getElem? (i := 90) rfl, ⟨by decide +kernel, by decide +kernel⟩, rfl, by decide +kernel, by decide, fun h => by cases h⟩
set_option maxRecDepth 100000 in
theorem mw_32 : MWok md_32 := ⟨List.mem_of_getElem? (i := 678) rfl, List.mem_of_getElem? (i := 90) rfl, ⟨by decide +kernel, by decide +kernel⟩, rfl, by decide +kernel, by decide, fun h => by cases h⟩
set_option maxRecDepth 100000 in
theorem mw_33 : MWok md_33 := ⟨List.mem_of_getElem? (i := 710) rfl, List.mem_of_getElem? (i := 90) rfl, ⟨by decide +kernel, by decide +kernel⟩, rfl, by decide +kernel, by decide, fun h => by cases h⟩
set_option maxRecDepth 100000 in
theorem mw_34 : MWok md_34 := ⟨List.mem_of_getElem? (i := 714) rfl, List.mem_of_getElem? (i := 90) rfl, ⟨by decide +kernel, by decide +kernel⟩, rfl, by decide +kernel, by decide, fun h => by cases h⟩
set_option maxRecDepth 100000 in
theorem mw_35 : MWok md_35 := ⟨List.mem_of_getElem? (i := 722) rfl, List.mem_of_getElem? (i := 90) rfl, ⟨by decide +kernel, by decide +kernel⟩, rfl, by decide +kernel, by decide, fun h => by cases h⟩
set_option maxRecDepth 100000 in
theorem mw_36 : MWok md_36 := ⟨List.mem_of_getElem? (i := 727) rfl, List.mem_of_getElem? (i := 90) rfl, ⟨by decide +kernel, by decide +kernel⟩, rfl, by decide +kernel, by decide, fun h => by cases h⟩
set_option maxRecDepth 100000 in
theorem mw_37 : MWok md_37 := ⟨List.mem_of_getElem? (i := 735) rfl, List.mem_of_getElem? (i := 90) rfl, ⟨by decide +kernel, by decide +kernel⟩, rfl, by decide +kernel, by decide, fun h => by cases h⟩
set_option maxRecDepth 100000 in
theorem mw_38 : MWok md_38 := ⟨List.mem_of_getElem? (i := 739) rfl, List.mem_of_getElem? (i := 90) rfl, ⟨by decide +kernel, by decide +kernel⟩, rfl, by decide +kernel, by decide, fun h => by cases h⟩
set_option maxRecDepth 100000 in
theorem mw_39 : MWok md_39 := ⟨List.mem_of_getElem? (i := 743) rfl, List.mem_of_getElem? (i := 90) rfl, ⟨by decide +kernel, by decide +kernel⟩, rfl, by decide +kernel, by decide, fun h => by cases h⟩
set_option maxRecDepth 100000 in
theorem mw_40 : MWok md_40 := ⟨List.mem_of_getElem? (i := 755) rfl, List.mem_of_getElem? (i := 90) rfl, ⟨by decide +kernel, by decide +kernel⟩, rfl, by decide +kernel, by decide, fun h => by cases h⟩
set_option maxRecDepth 100000 in
theorem mw_41 : MWok md_41 := ⟨List.mem_of_getElem? (i := 764) rfl, List.mem_of_getElem? (i := 90) rfl, ⟨by decide +kernel, by decide +kernel⟩, rfl, by decide +kernel, by decide, fun h => by cases h⟩
set_option maxRecDepth 100000 in
theorem mw_42 : MWok md_42 := ⟨List.mem_of_getElem? (i := 781) rfl, List.mem_of_getElem? (i := 90) rfl, ⟨by decide +kernel, by decide +kernel⟩, rfl, by decide +kernel, by decide, fun h => by cases h⟩
set_option maxRecDepth 100000 in
theorem mw_43 : MWok md_43 := ⟨List.mem_of_getElem? (i := 805) rfl, List.mem_of_getElem? (i := 90) rfl, ⟨by decide +kernel, by decide +kernel⟩, rfl, by decide +kernel, by decide, fun h => by cases h⟩
set_option maxRecDepth 100000 in
theorem mw_44 : MWok md_44 := ⟨List.mem_of_getElem? (i := 812) rfl, List.mem_of_getElem? (i := 90) rfl, ⟨by decide +kernel, by decide +kernel⟩, rfl, by decide +kernel, by decide, fun h => by cases h⟩
set_option maxRecDepth 100000 in
theorem mw_45 : MWok md_45 := ⟨List.mem_of_getElem? (i := 908) rfl, List.mem_of_getElem? (i := 90) rfl, ⟨by decide +kernel, by decide +kernel⟩, rfl, by decide +kernel, by decide, fun h => by cases h⟩
set_option maxRecDepth 100000 in
theorem mw_46 : MWok md_46 := ⟨List.mem_of_getElem? (i := 977) rfl, List.mem_of_getElem? (i := 90) rfl, ⟨by decide +kernel, by decide +kernel⟩, rfl, by decide +kernel, by decide, fun h => by cases h⟩
set_option maxRecDepth 100000 in
theorem mw_47 : MWok md_47 := ⟨List.mem_of_getElem? (i := 982) rfl, List.mem_of_getElem? (i := 90) rfl, ⟨by decide +kernel, by decide +kernel⟩, rfl, by decide +kernel, by decide, fun h => by cases h⟩
set_option maxRecDepth 100000 in
theorem mw_48 : MWok md_48 := ⟨List.mem_of_getElem? (i := 994) rfl, List.mem_of_getElem? (i := 90) rfl, ⟨by decide +kernel, by decide +kernel⟩, rfl, by decide +kernel, by decide, fun h => by cases h⟩
set_option maxRecDepth 100000 in
theorem mw_49 : MWok md_49 := ⟨List.mem_of_getElem? (i := 436) rfl, List.mem_of_getElem? (i := 96) rfl, ⟨by decide +kernel, by decide +kernel⟩, rfl, by decide +kernel, by decide, fun _ => ⟨rfl, rfl⟩⟩
set_option maxRecDepth 100000 in
theorem mw_50 : MWok md_50 := ⟨List.mem_of_getElem? (i := 1065) rfl, List.mem_of_getElem? (i := 96) rfl, ⟨by decide +kernel, by decide +kernel⟩, rfl, by decide +kernel, by decide, fun h => by cases h⟩
set_option maxRecDepth 100000 in
theorem mw_51 : MWok md_51 := ⟨List.mem_of_getElem? (i := 1069) rfl, List.mem_of_getElem? (i := 96) rfl, ⟨by decide +kernel, by decide +kernel⟩, rfl, by decide +kernel, by decide, fun h => by cases h⟩
set_option maxRecDepth 100000 in
theorem mw_52 : MWok md_52 := ⟨List.mem_of_getElem? (i := 1073) rfl, List.mem_of_getElem? (i := 96) rfl, ⟨by decide +kernel, by decide +kernel⟩, rfl, by decide +kernel, by decide, fun h => by cases h⟩
set_option maxRecDepth 100000 in
theorem mw_53 : MWok md_53 := ⟨List.mem_of_getElem? (i := 1107) rfl, List.mem_of_getElem? (i := 96) rfl, ⟨by decide +kernel, by decide +kernel⟩, rfl, by decide +kernel, by decide, fun h => by cases h⟩
set_option maxRecDepth 100000 in
theorem mw_54 : MWok md_54 := ⟨List.mem_of_getElem? (i := 1124) rfl, List.mem_of_getElem? (i := 96) rfl, ⟨by decide +kernel, by decide +kernel⟩, rfl, by decide +kernel, by decide, fun h => by cases h⟩
set_option maxRecDepth 100000 in
theorem mw_55 : MWok md_55 := ⟨List.mem_of_getElem? (i := 1132) rfl, List.mem_of_getElem? (i := 96) rfl, ⟨by decide +kernel, by decide +kernel⟩, rfl, by decide +kernel, by decide, fun h => by cases h⟩
set_option maxRecDepth 100000 in
theorem mw_56 : MWok md_56 := ⟨List.mem_of_getElem? (i := 1135) rfl, List.mem_of_getElem? (i := 96) rfl, ⟨by decide +kernel, by decide +kernel⟩, rfl, by decide +kernel, by decide, fun h => by cases h⟩
set_option maxRecDepth 100000 in
theorem mw_57 : MWok md_57 := ⟨List.mem_of_getElem? (i := 1143) rfl, List.mem_of_getElem? (i := 96) rfl, ⟨by decide +kernel, by decide +kernel⟩, rfl, by decide +kernel, by decide, fun h => by cases h⟩
set_option maxRecDepth 100000 in
theorem mw_58 : MWok md_58 := ⟨List.mem_of_getElem? (i := 1147) rfl, List.mem_of_getElem? (i := 96) rfl, ⟨by decide +kernel, by decide +kernel⟩, rfl, by decide +kernel, by decide, fun h => by cases h⟩
set_option maxRecDepth 100000 in
theorem mw_59 : MWok md_59 := ⟨List.mem_of_getElem? (i := 117) rfl, List.mem_of_getElem? (i := 88) rfl, ⟨by decide +kernel, by decide +kernel⟩, rfl, by decide +kernel, by decide, fun _ => ⟨rfl, rfl⟩⟩
set_option maxRecDepth 100000 in
theorem mw_60 : MWok md_60 := ⟨List.mem_of_getElem? (i := 492) rfl, List.mem_of_getElem? (i := 88) rfl, ⟨by decide +kernel, by decide +kernel⟩, rfl, by decide +kernel, by decide, fun h => by cases h⟩
set_option maxRecDepth 100000 in
theorem mw_61 : MWok md_61 := ⟨List.mem_of_getElem? (i := 496) rfl, List.mem_of_getElem? (i := 88) rfl, ⟨by decide +kernel, by decide +kernel⟩, rfl, by decide +kernel, by decide, fun h => by cases h⟩
set_option maxRecDepth 100000 in
theorem mw_62 : MWok md_62 := ⟨List.mem_of_getElem? (i := 399) rfl, List.mem_of_getElem? (i := 95) rfl, ⟨by decide +kernel, by decide +kernel⟩, rfl, by decide +kernel, by decide, fun _ => ⟨rfl, rfl⟩⟩
set_option maxRecDepth 100000 in
theorem mw_63 : MWok md_63 := ⟨List.mem_of_getElem? (i := 789) rfl, List.mem_of_getElem? (i := 95) rfl, ⟨by decide +kernel, by decide +kernel⟩, rfl, by decide +kernel, by decide, fun h => by cases h⟩
set_option maxRecDepth 100000 in
theorem mw_64 : MWok md_64 := ⟨List.mem_of_getElem? (i := 795) rfl, List.mem_of_getElem? (i := 95) rfl, ⟨by decide +kernel, by decide +kernel⟩, rfl, by decide +kernel, by decide, fun h => by cases h⟩
set_option maxRecDepth 100000 in
theorem mw_65 : MWok md_65 := ⟨List.mem_of_getElem? (i := 861) rfl, List.mem_of_getElem? (i := 95) rfl, ⟨by decide +kernel, by decide +kernel⟩, rfl, by decide +kernel, by decide, fun h => by cases h⟩
set_option maxRecDepth 100000 in
theorem mw_66 : MWok md_66 := ⟨List.mem_of_getElem? (i := 865) rfl, List.mem_of_getElem? (i := 95) rfl, ⟨by decide +kernel, by decide +kernel⟩, rfl, by decide +kernel, by decide, fun h => by cases h⟩
set_option maxRecDepth 100000 in
theorem mw_67 : MWok md_67 := ⟨List.mem_of_getElem? (i := 1091) rfl, List.mem_of_getElem? (i := 95) rfl, ⟨by decide +kernel, by decide +kernel⟩, rfl, by decide +kernel, by decide, fun h => by cases h⟩
set_option maxRecDepth 100000 in
theorem mw_68 : MWok md_68 := ⟨List.mem_of_getElem? (i := 254) rfl, List.mem_of_getElem? (i := 93) rfl, ⟨by decide +kernel, by decide +kernel⟩, rfl, by decide +kernel, by decide, fun _ => ⟨rfl, rfl⟩⟩
set_option maxRecDepth 100000 in
theorem mw_69 : MWok md_69 := ⟨List.mem_of_getElem? (i := 657) rfl, List.mem_of_getElem? (i := 93) rfl, ⟨by decide +kernel, by decide +kernel⟩, rfl, by decide +kernel, by decide, fun h => by cases h⟩
set_option maxRecDepth 100000 in
theorem mw_70 : MWok md_70 := ⟨List.mem_of_getElem? (i := 690) rfl, List.mem_of_getElem? (i := 93) rfl, ⟨by decide +kernel, by decide +kernel⟩, rfl, by decide +kernel, by decide, fun h => by cases h⟩
set_option maxRecDepth 100000 in
theorem mw_71 : MWok md_71 := ⟨List.mem_of_getElem? (i := 768) rfl, List.mem_of_getElem? (i := 93) rfl, ⟨by decide +kernel, by decide +kernel⟩, rfl, by decide +kernel, by decide, fun h => by cases h⟩
set_option maxRecDepth 100000 in
theorem mw_72 : MWok md_72 := ⟨List.mem_of_getElem? (i := 773) rfl, List.mem_of_getElem? (i := 93) rfl, ⟨by decide +kernel, by decide +kernel⟩, rfl, by decide +kernel, by decide, fun h => by cases h⟩
set_option maxRecDepth 100000 in
theorem mw_73 : MWok md_73 := ⟨List.mem_of_getElem? (i := 349) rfl, List.mem_of_getElem? (i := 94) rfl, ⟨by decide +kernel, by decide +kernel⟩, rfl, by decide +kernel, by decide, fun _ => ⟨rfl, rfl⟩⟩
set_option maxRecDepth 100000 in
theorem mw_74 : MWok md_74 := ⟨List.mem_of_getElem? (i := 877) rfl, List.mem_of_getElem? (i := 94) rfl, ⟨by decide +kernel, by decide +kernel⟩, rfl, by decide +kernel, by decide, fun h => by cases h⟩
set_option maxRecDepth 100000 in
theorem mw_75 : MWok md_75 := ⟨List.mem_of_getElem? (i := 883) rfl, List.mem_of_getElem? (i := 94) rfl, ⟨by decide +kernel, by decide +kernel⟩, rfl, by decide +kernel, by decide, fun h => by cases h⟩
set_option maxRecDepth 100000 in
theorem mw_76 : MWok md_76 := ⟨List.mem_of_getElem? (i := 889) rfl, List.mem_of_getElem? (i := 94) rfl, ⟨by decide +kernel, by decide +kernel⟩, rfl, by decide +kernel, by decide, fun h => by cases h⟩
set_option maxRecDepth 100000 in
theorem mw_77 : MWok md_77 := ⟨List.mem_of_getElem? (i := 892) rfl, List.mem_of_getElem? (i := 94) rfl, ⟨by decide +kernel, by decide +kernel⟩, rfl, by decide +kernel, by decide, fun h => by cases h⟩
set_option maxRecDepth 100000 in
theorem mw_78 : MWok md_78 := ⟨List.mem_of_getElem? (i := 896) rfl, List.mem_of_getElem? (i := 94) rfl, ⟨by decide +kernel, by decide +kernel⟩, rfl, by decide +kernel, by decide, fun h => by cases h⟩
set_option maxRecDepth 100000 in
theorem mw_79 : MWok md_79 := ⟨List.mem_of_getElem? (i := 900) rfl, List.mem_of_getElem? (i := 94) rfl, ⟨by decide +kernel, by decide +kernel⟩, rfl, by decide +kernel, by decide, fun h => by cases h⟩
set_option maxRecDepth 100000 in
theorem mw_80 : MWok md_80 := ⟨List.mem_of_getElem? (i := 922) rfl, List.mem_of_getElem? (i := 94) rfl, ⟨by decide +kernel, by decide +kernel⟩, rfl, by decide +kernel, by decide, fun h => by cases h⟩
set_option maxRecDepth 100000 in
theorem mw_81 : MWok md_81 := ⟨List.mem_of_getElem? (i := 926) rfl, List.mem_of_getElem? (i := 94) rfl, ⟨by decide +kernel, by decide +kernel⟩, rfl, by decide +kernel, by decide, fun h => by cases h⟩
set_option maxRecDepth 100000 in
theorem mw_82 : MWok md_82 := ⟨List.mem_of_getElem? (i := 930) rfl, List.mem_of_getElem? (i := 94) rfl, ⟨by decide +kernel, by decide +kernel⟩, rfl, by decide +kernel, by decide, fun h => by cases h⟩
set_option maxRecDepth 100000 in
theorem mw_83 : MWok md_83 := ⟨List.mem_of_getElem? (i := 942) rfl, List.mem_of_getElem? (i := 94) rfl, ⟨by decide +kernel, by decide +kernel⟩, rfl, by decide +kernel, by decide, fun h => by cases h⟩
set_option maxRecDepth 100000 in
theorem mw_84 : MWok md_84 := ⟨List.mem_of_getElem? (i := 1049) rfl, List.mem_of_getElem? (i := 94) rfl, ⟨by decide +kernel, by decide +kernel⟩, rfl, by decide +kernel, by decide, fun h => by cases h⟩
set_option maxRecDepth 100000 in
theorem mw_85 : MWok md_85 := ⟨List.mem_of_getElem? (i := 1057) rfl, List.mem_of_getElem? (i := 94) rfl, ⟨by decide +kernel, by decide +kernel⟩, rfl, by decide +kernel, by decide, fun h => by cases h⟩
set_option maxRecDepth 100000 in
theorem mw_86 : MWok md_86 := ⟨List.mem_of_getElem? (i := 1082) rfl, List.mem_of_getElem? (i := 94) rfl, ⟨by decide +kernel, by decide +kernel⟩, rfl, by decide +kernel, by decide, fun h => by cases h⟩
