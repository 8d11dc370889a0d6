section
def mtl : List (Nat × List (Nat × MD)) := [(15, [(0, md_0), (1, md_1), (2, md_2), (3, md_3), (4, md_4), (5, md_5), (6, md_6), (7, md_7), (8, md_8), (9, md_9), (10, md_10), (11, md_11), (12, md_12), (13, md_13), (14, md_14), (15, md_15)]), (31, [(16, md_16), (17, md_17), (18, md_18), (19, md_19), (20, md_20), (21, md_21), (22, md_22), (23, md_23), (24, md_24), (25, md_25), (26, md_26), (27, md_27), (28, md_28), (29, md_29), (30, md_30), (31, md_31)]), (47, [(32, md_32), (33, md_33), (34, md_34), (35, md_35), (36, md_36), (37, md_37), (38, md_38), (39, md_39), (40, md_40), (41, md_41), (42, md_42), (43, md_43), (44, md_44), (45, md_45), (46, md_46), (47, md_47)]), (63, [(48, md_48), (49, md_49), (50, md_50), (51, md_51), (52, md_52), (53, md_53), (54, md_54), (55, md_55), (56, md_56), (57, md_57), (58, md_58), (59, md_59), (60, md_60), (61, md_61), (62, md_62), (63, md_63)]), (79, [(64, md_64), (65, md_65), (66, md_66), (67, md_67), (68, md_68), (69, md_69), (70, md_70), (71, md_71), (72, md_72), (73, md_73), (74, md_74), (75, md_75), (76, md_76), (77, md_77), (78, md_78), (79, md_79)]), (95, [(80, md_80), (81, md_81), (82, md_82), (83, md_83), (84, md_84), (85, md_85), (86, md_86), (87, md_87), (88, md_88), (89, md_89), (90, md_90), (91, md_91), (92, md_92), (93, md_93), (94, md_94), (95, md_95)]), (111, [(96, md_96), (97, md_97), (98, md_98), (99, md_99), (100, md_100), (101, md_101), (102, md_102), (103, md_103), (104, md_104), (105, md_105), (106, md_106), (107, md_107), (108, md_108), (109, md_109), (110, md_110), (111, md_111)]), (127, [(112, md_112), (113, md_113), (114, md_114), (115, md_115), (116, md_116), (117, md_117), (118, md_118), (119, md_119), (120, md_120), (121, md_121), (122, md_122), (123, md_123), (124, md_124), (125, md_125), (126, md_126), (127, md_127)]), (143, [(128, md_128), (129, md_129), (130, md_130), (131, md_131), (132, md_132), (133, md_133), (134, md_134), (135, md_135), (136, md_136), (137, md_137), (138, md_138), (139, md_139), (140, md_140), (141, md_141), (142, md_142), (143, md_143)]), (159, [(144, md_144), (145, md_145), (146, md_146), (147, md_147), (148, md_148), (149, md_149), (150, md_150), (151, md_151), (152, md_152), (153, md_153), (154, md_154), (155, md_155), (156, md_156), (157, md_157), (158, md_158), (159, md_159)]), (175, [(160, md_160), (161, md_161), (162, md_162), (163, md_163), (164, md_164), (165, md_165), (166, md_166), (167, md_167), (168, md_168), (169, md_169), (170, md_170), (171, md_171), (172, md_172), (173, md_173), (174, md_174), (175, md_175)]), (191, [(176, md_176), (177, md_177), (178, md_178), (179, md_179), (180, md_180), (181, md_181), (182, md_182), (183, md_183), (184, md_184), (185, md_185), (186, md_186), (187, md_187), (188, md_188), (189, md_189), (190, md_190), (191, md_191)]), (207, [(192, md_192), (193, md_193), (194, md_194), (195, md_195), (196, md_196), (197, md_197), (198, md_198), (199, md_199), (200, md_200), (201, md_201), (202, md_202), (203, md_203), (204, md_204), (205, md_205), (206, md_206), (207, md_207)]), (223, [(208, md_208), (209, md_209), (210, md_210), (211, md_211), (212, md_212), (213, md_213), (214, md_214), (215, md_215), (216, md_216), (217, md_217), (218, md_218), (219, md_219), (220, md_220), (221, md_221), (222, md_222), (223, md_223)]), (239, [(224, md_224), (225, md_225), (226, md_226), (227, md_227), (228, md_228), (229, md_229), (230, md_230), (231, md_231), (232, md_232), (233, md_233), (234, md_234), (235, md_235), (236, md_236), (237, md_237), (238, md_238), (239, md_239)]), (255, [(240, md_240), (241, md_241), (242, md_242), (243, md_243), (244, md_244), (245, md_245), (246, md_246), (247, md_247), (248, md_248), (249, md_249), (250, md_250), (251, md_251), (252, md_252), (253, md_253), (254, md_254), (255, md_255)]), (265, [(256, md_256), (257, md_257), (258, md_258), (259, md_259), (260, md_260), (261, md_261), (262, md_262), (263, md_263), (264, md_264), (265, md_265)])]
def mt (m : Nat) : Option MD := lk2 mtl m
def MOK (Y : MD) : Prop := mchk Y = true ∧ (MWok Y ∨ Y = md_263)
theorem mok_0 : ∀ q ∈ ([(0, md_0), (1, md_1), (2, md_2), (3, md_3), (4, md_4), (5, md_5), (6, md_6), (7, md_7), (8, md_8), (9, md_9), (10, md_10), (11, md_11), (12, md_12), (13, md_13), (14, md_14), (15, md_15)] : List (Nat × MD)), MOK q.2 := List.forall_mem_cons.mpr ⟨⟨ck_0, Or.inl mw_0⟩, List.forall_mem_cons.mpr ⟨⟨ck_1, Or.inl mw_1⟩, List.forall_mem_cons.mpr ⟨⟨ck_2, Or.inl mw_2⟩, List.forall_mem_cons.mpr ⟨⟨ck_3, Or.inl mw_3⟩, List.forall_mem_cons.mpr ⟨⟨ck_4, Or.inl mw_4⟩, List.forall_mem_cons.mpr ⟨⟨ck_5, Or.inl mw_5⟩, List.forall_mem_cons.mpr ⟨⟨ck_6, Or.inl mw_6⟩, List.forall_mem_cons.mpr ⟨⟨ck_7, Or.inl mw_7⟩, List.forall_mem_cons.mpr ⟨⟨ck_8, Or.inl mw_8⟩, List.forall_mem_cons.mpr ⟨⟨ck_9, Or.inl mw_9⟩, List.forall_mem_cons.mpr ⟨⟨ck_10, Or.inl mw_10⟩, List.forall_mem_cons.mpr ⟨⟨ck_11, Or.inl mw_11⟩, List.forall_mem_cons.mpr ⟨⟨ck_12, Or.inl mw_12⟩, List.forall_mem_cons.mpr ⟨⟨ck_13, Or.inl mw_13⟩, List.forall_mem_cons.mpr ⟨⟨ck_14, Or.inl mw_14⟩, List.forall_mem_cons.mpr ⟨⟨ck_15, Or.inl mw_15⟩, fun _ h => absurd h List.not_mem_nil⟩⟩⟩⟩⟩⟩⟩⟩⟩⟩⟩⟩⟩⟩⟩⟩
theorem mok_1 : ∀ q ∈ ([(16, md_16), (17, md_17), (18, md_18), (19, md_19), (20, md_20), (21, md_21), (22, md_22), (23, md_23), (24, md_24), (25, md_25), (26, md_26), (27, md_27), (28, md_28), (29, md_29), (30, md_30), (31, md_31)] : List (Nat × MD)), MOK q.2 := List.forall_mem_cons.mpr ⟨⟨ck_16, Or.inl mw_16⟩, List.forall_mem_cons.mpr ⟨⟨ck_17, Or.inl mw_17⟩, List.forall_mem_cons.mpr ⟨⟨ck_18, Or.inl mw_18⟩, List.forall_mem_cons.mpr ⟨⟨ck_19, Or.inl mw_19⟩, List.forall_mem_cons.mpr ⟨⟨ck_20, Or.inl mw_20⟩, List.forall_mem_cons.mpr ⟨⟨ck_21, Or.inl mw_21⟩, List.forall_mem_cons.mpr ⟨⟨ck_22, Or.inl mw_22⟩, List.forall_mem_cons.mpr ⟨⟨ck_23, Or.inl mw_23⟩, List.forall_mem_cons.mpr ⟨⟨ck_24, Or.inl mw_24⟩, List.forall_mem_cons.mpr ⟨⟨ck_25, Or.inl mw_25⟩, List.forall_mem_cons.mpr ⟨⟨ck_26, Or.inl mw_26⟩, List.forall_mem_cons.mpr ⟨⟨ck_27, Or.inl mw_27⟩, List.forall_mem_cons.mpr ⟨⟨ck_28, Or.inl mw_28⟩, List.forall_mem_cons.mpr ⟨⟨ck_29, Or.inl mw_29⟩, List.forall_mem_cons.mpr ⟨⟨ck_30, Or.inl mw_30⟩, List.forall_mem_cons.mpr ⟨⟨ck_31, Or.inl mw_31⟩, fun _ h => absurd h List.not_mem_nil⟩⟩⟩⟩⟩⟩⟩⟩⟩⟩⟩⟩⟩⟩⟩⟩
theorem mok_2 : ∀ q ∈ ([(32, md_32), (33, md_33), (34, md_34), (35, md_35), (36, md_36), (37, md_37), (38, md_38), (39, md_39), (40, md_40), (41, md_41), (42, md_42), (43, md_43), (44, md_44), (45, md_45), (46, md_46), (47, md_47)] : List (Nat × MD)), MOK q.2 := List.forall_mem_cons.mpr ⟨⟨ck_32, Or.inl mw_32⟩, List.forall_mem_cons.mpr ⟨⟨ck_33, Or.inl mw_33⟩, List.forall_mem_cons.mpr ⟨⟨ck_34, Or.inl mw_34⟩, List.forall_mem_cons.mpr ⟨⟨ck_35, Or.inl mw_35⟩, List.forall_mem_cons.mpr ⟨⟨ck_36, Or.inl mw_36⟩, List.forall_mem_cons.mpr ⟨⟨ck_37, Or.inl mw_37⟩, List.forall_mem_cons.mpr ⟨⟨ck_38, Or.inl mw_38⟩, List.forall_mem_cons.mpr ⟨⟨ck_39, Or.inl mw_39⟩, List.forall_mem_cons.mpr ⟨⟨ck_40, Or.inl mw_40⟩, List.forall_mem_cons.mpr ⟨⟨ck_41, Or.inl mw_41⟩, List.forall_mem_cons.mpr ⟨⟨ck_42, Or.inl mw_42⟩, List.forall_mem_cons.mpr ⟨⟨ck_43, Or.inl mw_43⟩, List.forall_mem_cons.mpr ⟨⟨ck_44, Or.inl mw_44⟩, List.forall_mem_cons.mpr ⟨⟨ck_45, Or.inl mw_45⟩, List.forall_mem_cons.mpr ⟨⟨ck_46, Or.inl mw_46⟩, List.forall_mem_cons.mpr ⟨⟨ck_47, Or.inl mw_47⟩, fun _ h => absurd h List.not_mem_nil⟩⟩⟩⟩⟩⟩⟩⟩⟩⟩⟩⟩⟩⟩⟩⟩
theorem mok_3 : ∀ q ∈ ([(48, md_48), (49, md_49), (50, md_50), (51, md_51), (52, md_52), (53, md_53), (54, md_54), (55, md_55), (56, md_56), (57, md_57), (58, md_58), (59, md_59), (60, md_60), (61, md_61), (62, md_62), (63, md_63)] : List (Nat × MD)), MOK q.2 := List.forall_mem_cons.mpr ⟨⟨ck_48, Or.inl mw_48⟩, List.forall_mem_cons.mpr ⟨⟨ck_49, Or.inl mw_49⟩, List.forall_mem_cons.mpr ⟨⟨ck_50, Or.inl mw_50⟩, List.forall_mem_cons.mpr ⟨⟨ck_51, Or.inl mw_51⟩, List.forall_mem_cons.mpr ⟨⟨ck_52, Or.inl mw_52⟩, List.forall_mem_cons.mpr ⟨⟨ck_53, Or.inl mw_53⟩, List.forall_mem_cons.mpr ⟨⟨ck_54, Or.inl mw_54⟩, List.forall_mem_cons.mpr ⟨⟨ck_55, Or.inl mw_55⟩, List.forall_mem_cons.mpr ⟨⟨ck_56, Or.inl mw_56⟩, List.forall_mem_cons.mpr ⟨⟨ck_57, Or.inl mw_57⟩, List.forall_mem_cons.mpr ⟨⟨ck_58, Or.inl mw_58⟩, List.forall_mem_cons.mpr ⟨⟨ck_59, Or.inl mw_59⟩, List.forall_mem_cons.mpr ⟨⟨ck_60, Or.inl mw_60⟩, List.forall_mem_cons.mpr ⟨⟨ck_61, Or.inl mw_61⟩, List.forall_mem_cons.mpr ⟨⟨ck_62, Or.inl mw_62⟩, List.forall_mem_cons.mpr ⟨⟨ck_63, Or.inl mw_63⟩, fun _ h => absurd h List.not_mem_nil⟩⟩⟩⟩⟩⟩⟩⟩⟩⟩⟩⟩⟩⟩⟩⟩
theorem mok_4 : ∀ q ∈ ([(64, md_64), (65, md_65), (66, md_66), (67, md_67), (68, md_68), (69, md_69), (70, md_70), (71, md_71), (72, md_72), (73, md_73), (74, md_74), (75, md_75), (76, md_76), (77, md_77), (78, md_78), (79, md_79)] : List (Nat × MD)), MOK q.2 := List.forall_mem_cons.mpr ⟨⟨ck_64, Or.inl mw_64⟩, List.forall_mem_cons.mpr ⟨⟨ck_65, Or.inl mw_65⟩, List.forall_mem_cons.mpr ⟨⟨ck_66, Or.inl mw_66⟩, List.forall_mem_cons.mpr ⟨⟨ck_67, Or.inl mw_67⟩, List.forall_mem_cons.mpr ⟨⟨ck_68, Or.inl mw_68⟩, List.forall_mem_cons.mpr ⟨⟨ck_69, Or.inl mw_69⟩, List.forall_mem_cons.mpr ⟨⟨ck_70, Or.inl mw_70⟩, List.forall_mem_cons.mpr ⟨⟨ck_71, Or.inl mw_71⟩, List.forall_mem_cons.mpr ⟨⟨ck_72, Or.inl mw_72⟩, List.forall_mem_cons.mpr ⟨⟨ck_73, Or.inl mw_73⟩, List.forall_mem_cons.mpr ⟨⟨ck_74, Or.inl mw_74⟩, List.forall_mem_cons.mpr ⟨⟨ck_75, Or.inl mw_75⟩, List.forall_mem_cons.mpr ⟨⟨ck_76, Or.inl mw_76⟩, List.forall_mem_cons.mpr ⟨⟨ck_77, Or.inl mw_77⟩, List.forall_mem_cons.mpr ⟨⟨ck_78, Or.inl mw_78⟩, List.forall_mem_cons.mpr ⟨⟨ck_79, Or.inl mw_79⟩, fun _ h => absurd h List.not_mem_nil⟩⟩⟩⟩⟩⟩⟩⟩⟩⟩⟩⟩⟩⟩⟩⟩
theorem mok_5 : ∀ q ∈ ([(80, md_80), (81, md_81), (82, md_82), (83, md_83), (84, md_84), (85, md_85), (86, md_86), (87, md_87), (88, md_88), (89, md_89), (90, md_90), (91, md_91), (92, md_92), (93, md_93), (94, md_94), (95, md_95)] : List (Nat × MD)), MOK q.2 := List.forall_mem_cons.mpr ⟨⟨ck_80, Or.inl mw_80⟩, List.forall_mem_cons.mpr ⟨⟨ck_81, Or.inl mw_81⟩, List.forall_mem_cons.mpr ⟨⟨ck_82, Or.inl mw_82⟩, List.forall_mem_cons.mpr ⟨⟨ck_83, Or.inl mw_83⟩, List.forall_mem_cons.mpr ⟨⟨ck_84, Or.inl mw_84⟩, List.forall_mem_cons.mpr ⟨⟨ck_85, Or.inl mw_85⟩, List.forall_mem_cons.mpr ⟨⟨ck_86, Or.inl mw_86⟩, List.forall_mem_cons.mpr ⟨⟨ck_87, Or.inl mw_87⟩, List.forall_mem_cons.mpr ⟨⟨ck_88, Or.inl mw_88⟩, List.forall_mem_cons.mpr ⟨⟨ck_89, Or.inl mw_89⟩, List.forall_mem_cons.mpr ⟨⟨ck_90, Or.inl mw_90⟩, List.forall_mem_cons.mpr ⟨⟨ck_91, Or.inl mw_91⟩, List.forall_mem_cons.mpr ⟨⟨ck_92, Or.inl mw_92⟩, List.forall_mem_cons.mpr ⟨⟨ck_93, Or.inl mw_93⟩, List.forall_mem_cons.mpr ⟨⟨ck_94, Or.inl mw_94⟩, List.forall_mem_cons.mpr ⟨⟨ck_95, Or.inl mw_95⟩, fun _ h => absurd h List.not_mem_nil⟩⟩⟩⟩⟩⟩⟩⟩⟩⟩⟩⟩⟩⟩⟩⟩
theorem mok_6 : ∀ q ∈ ([(96, md_96), (97, md_97), (98, md_98), (99, md_99), (100, md_100), (101, md_101), (102, md_102), (103, md_103), (104, md_104), (105, md_105), (106, md_106), (107, md_107), (108, md_108), (109, md_109), (110, md_110), (111, md_111)] : List (Nat × MD)), MOK q.2 := List.forall_mem_cons.mpr ⟨⟨ck_96, Or.inl mw_96⟩, List.forall_mem_cons.mpr ⟨⟨ck_97, Or.inl mw_97⟩, List.forall_mem_cons.mpr ⟨⟨ck_98, Or.inl mw_98⟩, List.forall_mem_cons.mpr ⟨⟨ck_99, Or.inl mw_99⟩, List.forall_mem_cons.mpr ⟨⟨ck_100, Or.inl mw_100⟩, List.forall_mem_cons.mpr ⟨⟨ck_101, Or.inl mw_101⟩, List.forall_mem_cons.mpr ⟨⟨ck_102, Or.inl mw_102⟩, List.forall_mem_cons.mpr ⟨⟨ck_103, Or.inl mw_103⟩, List.forall_mem_cons.mpr ⟨⟨ck_104, Or.inl mw_104⟩, List.forall_mem_cons.mpr ⟨⟨ck_105, Or.inl mw_105⟩, List.forall_mem_cons.mpr ⟨⟨ck_106, Or.inl mw_106⟩, List.forall_mem_cons.mpr ⟨⟨ck_107, Or.inl mw_107⟩, List.forall_mem_cons.mpr ⟨⟨ck_108, Or.inl mw_108⟩, List.forall_mem_cons.mpr ⟨⟨ck_109, Or.inl mw_109⟩, List.forall_mem_cons.mpr ⟨⟨ck_110, Or.inl mw_110⟩, List.forall_mem_cons.mpr ⟨⟨ck_111, Or.inl mw_111⟩, fun _ h => absurd h List.not_mem_nil⟩⟩⟩⟩⟩⟩⟩⟩⟩⟩⟩⟩⟩⟩⟩⟩
theorem mok_7 : ∀ q ∈ ([(112, md_112), (113, md_113), (114, md_114), (115, md_115), (116, md_116), (117, md_117), (118, md_118), (119, md_119), (120, md_120), (121, md_121), (122, md_122), (123, md_123), (124, md_124), (125, md_125), (126, md_126), (127, md_127)] : List (Nat × MD)), MOK q.2 := List.forall_mem_cons.mpr ⟨⟨ck_112, Or.inl mw_112⟩, List.forall_mem_cons.mpr ⟨⟨ck_113, Or.inl mw_113⟩, List.forall_mem_cons.mpr ⟨⟨ck_114, Or.inl mw_114⟩, List.forall_mem_cons.mpr ⟨⟨ck_115, Or.inl mw_115⟩, List.forall_mem_cons.mpr ⟨⟨ck_116, Or.inl mw_116⟩, List.forall_mem_cons.mpr ⟨⟨ck_117, Or.inl mw_117⟩, List.forall_mem_cons.mpr ⟨⟨ck_118, Or.inl mw_118⟩, List.forall_mem_cons.mpr ⟨⟨ck_119, Or.inl mw_119⟩, List.forall_mem_cons.mpr ⟨⟨ck_120, Or.inl mw_120⟩, List.forall_mem_cons.mpr ⟨⟨ck_121, Or.inl mw_121⟩, List.forall_mem_cons.mpr ⟨⟨ck_122, Or.inl mw_122⟩, List.forall_mem_cons.mpr ⟨⟨ck_123, Or.inl mw_123⟩, List.forall_mem_cons.mpr ⟨⟨ck_124, Or.inl mw_124⟩, List.forall_mem_cons.mpr ⟨⟨ck_125, Or.inl mw_125⟩, List.forall_mem_cons.mpr ⟨⟨ck_126, Or.inl mw_126⟩, List.forall_mem_cons.mpr ⟨⟨ck_127, Or.inl mw_127⟩, fun _ h => absurd h List.not_mem_nil⟩⟩⟩⟩⟩⟩⟩⟩⟩⟩⟩⟩⟩⟩⟩⟩
theorem mok_8 : ∀ q ∈ ([(128, md_128), (129, md_129), (130, md_130), (131, md_131), (132, md_132), (133, md_133), (134, md_134), (135, md_135), (136, md_136), (137, md_137), (138, md_138), (139, md_139), (140, md_140), (141, md_141), (142, md_142), (143, md_143)] : List (Nat × MD)), MOK q.2 := List.forall_mem_cons.mpr ⟨⟨ck_128, Or.inl mw_128⟩, List.forall_mem_cons.mpr ⟨⟨ck_129, Or.inl mw_129⟩, List.forall_mem_cons.mpr ⟨⟨ck_130, Or.inl mw_130⟩, List.forall_mem_cons.mpr ⟨⟨ck_131, Or.inl mw_131⟩, List.forall_mem_cons.mpr ⟨⟨ck_132, Or.inl mw_132⟩, List.forall_mem_cons.mpr ⟨⟨ck_133, Or.inl mw_133⟩, List.forall_mem_cons.mpr ⟨⟨ck_134, Or.inl mw_134⟩, List.forall_mem_cons.mpr ⟨⟨ck_135, Or.inl mw_135⟩, List.forall_mem_cons.mpr ⟨⟨ck_136, Or.inl mw_136⟩, List.forall_mem_cons.mpr ⟨⟨ck_137, Or.inl mw_137⟩, List.forall_mem_cons.mpr ⟨⟨ck_138, Or.inl mw_138⟩, List.forall_mem_cons.mpr ⟨⟨ck_139, Or.inl mw_139⟩, List.forall_mem_cons.mpr ⟨⟨ck_140, Or.inl mw_140⟩, List.forall_mem_cons.mpr ⟨⟨ck_141, Or.inl mw_141⟩, List.forall_mem_cons.mpr ⟨⟨ck_142, Or.inl mw_142⟩, List.forall_mem_cons.mpr ⟨⟨ck_143, Or.inl mw_143⟩, fun _ h => absurd h List.not_mem_nil⟩⟩⟩⟩⟩⟩⟩⟩⟩⟩⟩⟩⟩⟩⟩⟩
theorem mok_9 : ∀ q ∈ ([(144, md_144), (145, md_145), (146, md_146), (147, md_147), (148, md_148), (149, md_149), (150, md_150), (151, md_151), (152, md_152), (153, md_153), (154, md_154), (155, md_155), (156, md_156), (157, md_157), (158, md_158), (159, md_159)] : List (Nat × MD)), MOK q.2 := List.forall_mem_cons.mpr ⟨⟨ck_144, Or.inl mw_144⟩, List.forall_mem_cons.mpr ⟨⟨ck_145, Or.inl mw_145⟩, List.forall_mem_cons.mpr ⟨⟨ck_146, Or.inl mw_146⟩, List.forall_mem_cons.mpr ⟨⟨ck_147, Or.inl mw_147⟩, List.forall_mem_cons.mpr ⟨⟨ck_148, Or.inl mw_148⟩, List.forall_mem_cons.mpr ⟨⟨ck_149, Or.inl mw_149⟩, List.forall_mem_cons.mpr ⟨⟨ck_150, Or.inl mw_150⟩, List.forall_mem_cons.mpr ⟨⟨ck_151, Or.inl mw_151⟩, List.forall_mem_cons.mpr ⟨⟨ck_152, Or.inl mw_152⟩, List.forall_mem_cons.mpr ⟨⟨ck_153, Or.inl mw_153⟩, List.forall_mem_cons.mpr ⟨⟨ck_154, Or.inl mw_154⟩, List.forall_mem_cons.mpr ⟨⟨ck_155, Or.inl mw_155⟩, List.forall_mem_cons.mpr ⟨⟨ck_156, Or.inl mw_156⟩, List.forall_mem_cons.mpr ⟨⟨ck_157, Or.inl mw_157⟩, List.forall_mem_cons.mpr ⟨⟨ck_158, Or.inl mw_158⟩, List.forall_mem_cons.mpr ⟨⟨ck_159, Or.inl mw_159⟩, fun _ h => absurd h List.not_mem_nil⟩⟩⟩⟩⟩⟩⟩⟩⟩⟩⟩⟩⟩⟩⟩⟩
theorem mok_10 : ∀ q ∈ ([(160, md_160), (161, md_161), (162, md_162), (163, md_163), (164, md_164), (165, md_165), (166, md_166), (167, md_167), (168, md_168), (169, md_169), (170, md_170), (171, md_171), (172, md_172), (173, md_173), (174, md_174), (175, md_175)] : List (Nat × MD)), MOK q.2 := List.forall_mem_cons.mpr ⟨⟨ck_160, Or.inl mw_160⟩, List.forall_mem_cons.mpr ⟨⟨ck_161, Or.inl mw_161⟩, List.forall_mem_cons.mpr ⟨⟨ck_162, Or.inl mw_162⟩, List.forall_mem_cons.mpr ⟨⟨ck_163, Or.inl mw_163⟩, List.forall_mem_cons.mpr ⟨⟨ck_164, Or.inl mw_164⟩, List.forall_mem_cons.mpr ⟨⟨ck_165, Or.inl mw_165⟩, List.forall_mem_cons.mpr ⟨⟨ck_166, Or.inl mw_166⟩, List.forall_mem_cons.mpr ⟨⟨ck_167, Or.inl mw_167⟩, List.forall_mem_cons.mpr ⟨⟨ck_168, Or.inl mw_168⟩, List.forall_mem_cons.mpr ⟨⟨ck_169, Or.inl mw_169⟩, List.forall_mem_cons.mpr ⟨⟨ck_170, Or.inl mw_170⟩, List.forall_mem_cons.mpr ⟨⟨ck_171, Or.inl mw_171⟩, List.forall_mem_cons.mpr ⟨⟨ck_172, Or.inl mw_172⟩, List.forall_mem_cons.mpr ⟨⟨ck_173, Or.inl mw_173⟩, List.forall_mem_cons.mpr ⟨⟨ck_174, Or.inl mw_174⟩, List.forall_mem_cons.mpr ⟨⟨ck_175, Or.inl mw_175⟩, fun _ h => absurd h List.not_mem_nil⟩⟩⟩⟩⟩⟩⟩⟩⟩⟩⟩⟩⟩⟩⟩⟩
theorem mok_11 : ∀ q ∈ ([(176, md_176), (177, md_177), (178, md_178), (179, md_179), (180, md_180), (181, md_181), (182, md_182), (183, md_183), (184, md_184), (185, md_185), (186, md_186), (187, md_187), (188, md_188), (189, md_189), (190, md_190), (191, md_191)] : List (Nat × MD)), MOK q.2 := List.forall_mem_cons.mpr ⟨⟨ck_176, Or.inl mw_176⟩, List.forall_mem_cons.mpr ⟨⟨ck_177, Or.inl mw_177⟩, List.forall_mem_cons.mpr ⟨⟨ck_178, Or.inl mw_178⟩, List.forall_mem_cons.mpr ⟨⟨ck_179, Or.inl mw_179⟩, List.forall_mem_cons.mpr ⟨⟨ck_180, Or.inl mw_180⟩, List.forall_mem_cons.mpr ⟨⟨ck_181, Or.inl mw_181⟩, List.forall_mem_cons.mpr ⟨⟨ck_182, Or.inl mw_182⟩, List.forall_mem_cons.mpr ⟨⟨ck_183, Or.inl mw_183⟩, List.forall_mem_cons.mpr ⟨⟨ck_184, Or.inl mw_184⟩, List.forall_mem_cons.mpr ⟨⟨ck_185, Or.inl mw_185⟩, List.forall_mem_cons.mpr ⟨⟨ck_186, Or.inl mw_186⟩, List.forall_mem_cons.mpr ⟨⟨ck_187, Or.inl mw_187⟩, List.forall_mem_cons.mpr ⟨⟨ck_188, Or.inl mw_188⟩, List.forall_mem_cons.mpr ⟨⟨ck_189, Or.inl mw_189⟩, List.forall_mem_cons.mpr ⟨⟨ck_190, Or.inl mw_190⟩, List.forall_mem_cons.mpr ⟨⟨ck_191, Or.inl mw_191⟩, fun _ h => absurd h List.not_mem_nil⟩⟩⟩⟩⟩⟩⟩⟩⟩⟩⟩⟩⟩⟩⟩⟩
theorem mok_12 : ∀ q ∈ ([(192, md_192), (193, md_193), (194, md_194), (195, md_195), (196, md_196), (197, md_197), (198, md_198), (199, md_199), (200, md_200), (201, md_201), (202, md_202), (203, md_203), (204, md_204), (205, md_205), (206, md_206), (207, md_207)] : List (Nat × MD)), MOK q.2 := List.forall_mem_cons.mpr ⟨⟨ck_192, Or.inl mw_192⟩, List.forall_mem_cons.mpr ⟨⟨ck_193, Or.inl mw_193⟩, List.forall_mem_cons.mpr ⟨⟨ck_194, Or.inl mw_194⟩, List.forall_mem_cons.mpr ⟨⟨ck_195, Or.inl mw_195⟩, List.forall_mem_cons.mpr ⟨⟨ck_196, Or.inl mw_196⟩, List.forall_mem_cons.mpr ⟨⟨ck_197, Or.inl mw_197⟩, List.forall_mem_cons.mpr ⟨⟨ck_198, Or.inl mw_198⟩, List.forall_mem_cons.mpr ⟨⟨ck_199, Or.inl mw_199⟩, List.forall_mem_cons.mpr ⟨⟨ck_200, Or.inl mw_200⟩, List.forall_mem_cons.mpr ⟨⟨ck_201, Or.inl mw_201⟩, List.forall_mem_cons.mpr ⟨⟨ck_202, Or.inl mw_202⟩, List.forall_mem_cons.mpr ⟨⟨ck_203, Or.inl mw_203⟩, List.forall_mem_cons.mpr ⟨⟨ck_204, Or.inl mw_204⟩, List.forall_mem_cons.mpr ⟨⟨ck_205, Or.inl mw_205⟩, List.forall_mem_cons.mpr ⟨⟨ck_206, Or.inl mw_206⟩, List.forall_mem_cons.mpr ⟨⟨ck_207, Or.inl mw_207⟩, fun _ h => absurd h List.not_mem_nil⟩⟩⟩⟩⟩⟩⟩⟩⟩⟩⟩⟩⟩⟩⟩⟩
theorem mok_13 : ∀ q ∈ ([(208, md_208), (209, md_209), (210, md_210), (211, md_211), (212, md_212), (213, md_213), (214, md_214), (215, md_215), (216, md_216), (217, md_217), (218, md_218), (219, md_219), (220, md_220), (221, md_221), (222, md_222), (223, md_223)] : List (Nat × MD)), MOK q.2 := List.forall_mem_cons.mpr ⟨⟨ck_208, Or.inl mw_208⟩, List.forall_mem_cons.mpr ⟨⟨ck_209, Or.inl mw_209⟩, List.forall_mem_cons.mpr ⟨⟨ck_210, Or.inl mw_210⟩, List.forall_mem_cons.mpr ⟨⟨ck_211, Or.inl mw_211⟩, List.forall_mem_cons.mpr ⟨⟨ck_212, Or.inl mw_212⟩, List.forall_mem_cons.mpr ⟨⟨ck_213, Or.inl mw_213⟩, List.forall_mem_cons.mpr ⟨⟨ck_214, Or.inl mw_214⟩, List.forall_mem_cons.mpr ⟨⟨ck_215, Or.inl mw_215⟩, List.forall_mem_cons.mpr ⟨⟨ck_216, Or.inl mw_216⟩, List.forall_mem_cons.mpr ⟨⟨ck_217, Or.inl mw_217⟩, List.forall_mem_cons.mpr ⟨⟨ck_218, Or.inl mw_218⟩, List.forall_mem_cons.mpr ⟨⟨ck_219, Or.inl mw_219⟩, List.forall_mem_cons.mpr ⟨⟨ck_220, Or.inl mw_220⟩, List.forall_mem_cons.mpr ⟨⟨ck_221, Or.inl mw_221⟩, List.forall_mem_cons.mpr ⟨⟨ck_222, Or.inl mw_222⟩, List.forall_mem_cons.mpr ⟨⟨ck_223, Or.inl mw_223⟩, fun _ h => absurd h List.not_mem_nil⟩⟩⟩⟩⟩⟩⟩⟩⟩⟩⟩⟩⟩⟩⟩⟩
theorem mok_14 : ∀ q ∈ ([(224, md_224), (225, md_225), (226, md_226), (227, md_227), (228, md_228), (229, md_229), (230, md_230), (231, md_231), (232, md_232), (233, md_233), (234, md_234), (235, md_235), (236, md_236), (237, md_237), (238, md_238), (239, md_239)] : List (Nat × MD)), MOK q.2 := List.forall_mem_cons.mpr ⟨⟨ck_224, Or.inl mw_224⟩, List.forall_mem_cons.mpr ⟨⟨ck_225, Or.inl mw_225⟩, List.forall_mem_cons.mpr ⟨⟨ck_226, Or.inl mw_226⟩, List.forall_mem_cons.mpr ⟨⟨ck_227, Or.inl mw_227⟩, List.forall_mem_cons.mpr ⟨⟨ck_228, Or.inl mw_228⟩, List.forall_mem_cons.mpr ⟨⟨ck_229, Or.inl mw_229⟩, List.forall_mem_cons.mpr ⟨⟨ck_230, Or.inl mw_230⟩, List.forall_mem_cons.mpr ⟨⟨ck_231, Or.inl mw_231⟩, List.forall_mem_cons.mpr ⟨⟨ck_232, Or.inl mw_232⟩, List.forall_mem_cons.mpr ⟨⟨ck_233, Or.inl mw_233⟩, List.forall_mem_cons.mpr ⟨⟨ck_234, Or.inl mw_234⟩, List.forall_mem_cons.mpr ⟨⟨ck_235, Or.inl mw_235⟩, List.forall_mem_cons.mpr ⟨⟨ck_236, Or.inl mw_236⟩, List.forall_mem_cons.mpr ⟨⟨ck_237, Or.inl mw_237⟩, List.forall_mem_cons.mpr ⟨⟨ck_238, Or.inl mw_238⟩, List.forall_mem_cons.mpr ⟨⟨ck_239, Or.inl mw_239⟩, fun _ h => absurd h List.not_mem_nil⟩⟩⟩⟩⟩⟩⟩⟩⟩⟩⟩⟩⟩⟩⟩⟩
theorem mok_15 : ∀ q ∈ ([(240, md_240), (241, md_241), (242, md_242), (243, md_243), (244, md_244), (245, md_245), (246, md_246), (247, md_247), (248, md_248), (249, md_249), (250, md_250), (251, md_251), (252, md_252), (253, md_253), (254, md_254), (255, md_255)] : List (Nat × MD)), MOK q.2 := List.forall_mem_cons.mpr ⟨⟨ck_240, Or.inl mw_240⟩, List.forall_mem_cons.mpr ⟨⟨ck_241, Or.inl mw_241⟩, List.forall_mem_cons.mpr ⟨⟨ck_242, Or.inl mw_242⟩, List.forall_mem_cons.mpr ⟨⟨ck_243, Or.inl mw_243⟩, List.forall_mem_cons.mpr ⟨⟨ck_244, Or.inl mw_244⟩, List.forall_mem_cons.mpr ⟨⟨ck_245, Or.inl mw_245⟩, List.forall_mem_cons.mpr ⟨⟨ck_246, Or.inl mw_246⟩, List.forall_mem_cons.mpr ⟨⟨ck_247, Or.inl mw_247⟩, List.forall_mem_cons.mpr ⟨⟨ck_248, Or.inl mw_248⟩, List.forall_mem_cons.mpr ⟨⟨ck_249, Or.inl mw_249⟩, List.forall_mem_cons.mpr ⟨⟨ck_250, Or.inl mw_250⟩, List.forall_mem_cons.mpr ⟨⟨ck_251, Or.inl mw_251⟩, List.forall_mem_cons.mpr ⟨⟨ck_252, Or.inl mw_252⟩, List.forall_mem_cons.mpr ⟨⟨ck_253, Or.inl mw_253⟩, List.forall_mem_cons.mpr ⟨⟨ck_254, Or.inl mw_254⟩, List.forall_mem_cons.mpr ⟨⟨ck_255, Or.inl mw_255⟩, fun _ h => absurd h List.not_mem_nil⟩⟩⟩⟩⟩⟩⟩⟩⟩⟩⟩⟩⟩⟩⟩⟩
theorem mok_16 : ∀ q ∈ ([(256, md_256), (257, md_257), (258, md_258), (259, md_259), (260, md_260), (261, md_261), (262, md_262), (263, md_263), (264, md_264), (265, md_265)] : List (Nat × MD)), MOK q.2 := List.forall_mem_cons.mpr ⟨⟨ck_256, Or.inl mw_256⟩, List.forall_mem_cons.mpr ⟨⟨ck_257, Or.inl mw_257⟩, List.forall_mem_cons.mpr ⟨⟨ck_258, Or.inl mw_258⟩, List.forall_mem_cons.mpr ⟨⟨ck_259, Or.inl mw_259⟩, List.forall_mem_cons.mpr ⟨⟨ck_260, Or.inl mw_260⟩, List.forall_mem_cons.mpr ⟨⟨ck_261, Or.inl mw_261⟩, List.forall_mem_cons.mpr ⟨⟨ck_262, Or.inl mw_262⟩, List.forall_mem_cons.mpr ⟨⟨ck_263, Or.inr rfl⟩, List.forall_mem_cons.mpr ⟨⟨ck_264, Or.inl mw_264⟩, List.forall_mem_cons.mpr ⟨⟨ck_265, Or.inl mw_265⟩, fun _ h => absurd h List.not_mem_nil⟩⟩⟩⟩⟩⟩⟩⟩⟩⟩
theorem mtl_ok : ∀ c ∈ mtl, ∀ q ∈ c.2, MOK q.2 := List.forall_mem_cons.mpr ⟨mok_0, List.forall_mem_cons.mpr ⟨mok_1, List.forall_mem_cons.mpr ⟨mok_2, List.forall_mem_cons.mpr ⟨mok_3, List.forall_mem_cons.mpr ⟨mok_4, List.forall_mem_cons.mpr ⟨mok_5, List.forall_mem_cons.mpr ⟨mok_6, List.forall_mem_cons.mpr ⟨mok_7, List.forall_mem_cons.mpr ⟨mok_8, List.forall_mem_cons.mpr ⟨mok_9, List.forall_mem_cons.mpr ⟨mok_10, List.forall_mem_cons.mpr ⟨mok_11, List.forall_mem_cons.mpr ⟨mok_12, List.forall_mem_cons.mpr ⟨mok_13, List.forall_mem_cons.mpr ⟨mok_14, List.forall_mem_cons.mpr ⟨mok_15, List.forall_mem_cons.mpr ⟨mok_16, fun _ h => absurd h List.not_mem_nil⟩⟩⟩⟩⟩⟩⟩⟩⟩⟩⟩⟩⟩⟩⟩⟩⟩
theorem mt_ok {m : Nat} {Y : MD} (h : mt m = some Y) : MOK Y := by
  obtain ⟨c, h1, h2⟩ := lk2_mem h
  exact mtl_ok c h1 (m, Y) h2
end
section
/-! RUNS of the abstract machine, and the rules that walk them. -/
abbrev AR : Type := Option Value × AM
def wsum (vs : List Value) : Nat := (vs.map (fun v => v.category)).sum
def abody (rec : Nat → MD → Nat → AL → List Value → AM → Option AR) (d : Nat) (X : MD) (pc : Nat) (l : AL) (st : List Value) (M : AM) : Option AR := match sstep swl X pc l st M with
  | some (pc', l', st', M') => rec d X pc' l' st' M'
  | none => (match cdx X pc with
    | some (.inr (.inl i), _) => rstep (md_r X) i st M
    | some (.inr (.inr (op, a, b, _)), len) => (match bstep op st M with
      | some (st', M') => bif Nat.blt d 8 then none else rec d X (pc + len) l st' M'
      | none => (match mt a, d with
        | some Y, d' + 1 => (match csplit op b st M Y with
          | some (args, rest) => bif Nat.ble (wsum args) (md_L Y) then (match rec d' Y 0 (ent args (md_L Y)) [] M with
            | some (rv, M') => rec d X (pc + len) l (rv.toList ++ rest) M'
            | none => none) else none
          | none => none)
        | _, _ => none))
    | _ => none)
def ago : Nat → Nat → MD → Nat → AL → List Value → AM → Option AR
  | 0, _, _, _, _, _, _ => none
  | n + 1, d, X, pc, l, st, M => abody (ago n) d X pc l st M
section RUN
variable {rec rec' : Nat → MD → Nat → AL → List Value → AM → Option AR} {d : Nat} {X : MD} {pc : Nat} {l : AL} {st : List Value} {M : AM} {r : AR}
theorem abody_cases (h : abody rec d X pc l st M = some r) :
    (∃ pc' l' st' M', sstep swl X pc l st M = some (pc', l', st', M') ∧ rec d X pc' l' st' M' = some r) ∨
    (sstep swl X pc l st M = none ∧ ∃ i len, cdx X pc = some (.inr (.inl i), len) ∧ rstep (md_r X) i st M = some r) ∨
    (sstep swl X pc l st M = none ∧ ∃ op a b v len st' M', cdx X pc = some (.inr (.inr (op, a, b, v)), len) ∧ bstep op st M = some (st', M') ∧ 8 ≤ d ∧ rec d X (pc + len) l st' M' = some r) ∨
    (sstep swl X pc l st M = none ∧ ∃ op a b v len Y d' args rest rv M', cdx X pc = some (.inr (.inr (op, a, b, v)), len) ∧ bstep op st M = none ∧ mt a = some Y ∧ d = d' + 1 ∧ csplit op b st M Y = some (args, rest) ∧ wsum args ≤ md_L Y ∧ rec d' Y 0 (ent args (md_L Y)) [] M = some (rv, M') ∧ rec d X (pc + len) l (rv.toList ++ rest) M' = some r) := by
  unfold abody at h
  cases hs : sstep swl X pc l st M with
  | some q =>
    obtain ⟨pc', l', st', M'⟩ := q
    rw [hs] at h
    exact Or.inl ⟨pc', l', st', M', rfl, h⟩
  | none =>
    rw [hs] at h
    dsimp only at h
    refine Or.inr ?_
    cases hc : cdx X pc with
    | none => rw [hc] at h; cases h
    | some q =>
      obtain ⟨ai, len⟩ := q
      rw [hc] at h
      match ai, h with
      | .inl v, h => cases h
      | .inr (.inl i), h => exact Or.inl ⟨rfl, i, len, rfl, h⟩
      | .inr (.inr (op, a, b, v)), h =>
        refine Or.inr ?_
        dsimp only at h
        cases hb : bstep op st M with
        | some q =>
          obtain ⟨st', M'⟩ := q
          rw [hb] at h
          dsimp only at h
          cases hd : Nat.blt d 8 with
          | true => rw [hd] at h; cases h
          | false =>
            rw [hd] at h
            refine Or.inl ⟨rfl, op, a, b, v, len, st', M', rfl, hb, ?_, h⟩
            have h1 : ¬ d < 8 := fun h2 => by
              have h3 : Nat.blt d 8 = true := Nat.ble_eq_true_of_le h2
              rw [h3] at hd
              cases hd
            omega
        | none =>
          rw [hb] at h
          dsimp only at h
          cases hm : mt a with
          | none => rw [hm] at h; cases h
          | some Y =>
            rw [hm] at h
            cases d with
            | zero => cases h
            | succ d' =>
              dsimp only at h
              cases hp : csplit op b st M Y with
              | none => rw [hp] at h; cases h
              | some q =>
                obtain ⟨args, rest⟩ := q
                rw [hp] at h
                dsimp only at h
                cases hw : Nat.ble (wsum args) (md_L Y) with
                | false => rw [hw] at h; cases h
                | true =>
                  rw [hw, cond_true] at h
                  cases hr : rec d' Y 0 (ent args (md_L Y)) [] M with
                  | none => rw [hr] at h; cases h
                  | some q =>
                    obtain ⟨rv, M'⟩ := q
                    rw [hr] at h
                    exact Or.inr ⟨rfl, op, a, b, v, len, Y, d', args, rest, rv, M', rfl, hb, hm, rfl, hp, Nat.le_of_ble_eq_true hw, hr, h⟩
theorem abody_s {pc' : Nat} {l' : AL} {st' : List Value} {M' : AM} (hs : sstep swl X pc l st M = some (pc', l', st', M')) : abody rec d X pc l st M = rec d X pc' l' st' M' := by
  unfold abody
  rw [hs]
theorem abody_r {i : Instr} {len : Nat} (hs : sstep swl X pc l st M = none) (hc : cdx X pc = some (.inr (.inl i), len)) : abody rec d X pc l st M = rstep (md_r X) i st M := by
  unfold abody
  rw [hs, hc]
theorem abody_b {op a b len : Nat} {v : Value} {st' : List Value} {M' : AM} (hs : sstep swl X pc l st M = none) (hc : cdx X pc = some (.inr (.inr (op, a, b, v)), len)) (hb : bstep op st M = some (st', M')) (hd : 8 ≤ d) : abody rec d X pc l st M = rec d X (pc + len) l st' M' := by
  unfold abody
  rw [hs, hc]
  dsimp only
  rw [hb]
  have h1 : Nat.blt d 8 = false := by
    cases hq : Nat.blt d 8 with
    | false => rfl
    | true => exact absurd (Nat.le_of_ble_eq_true hq : d < 8) (by omega)
  dsimp only
  rw [h1]
  rfl
theorem abody_c {op a b len d' : Nat} {v : Value} {Y : MD} {args rest : List Value} {rv : Option Value} {M' : AM} (hs : sstep swl X pc l st M = none) (hc : cdx X pc = some (.inr (.inr (op, a, b, v)), len)) (hb : bstep op st M = none) (hm : mt a = some Y) (hp : csplit op b st M Y = some (args, rest)) (hw : wsum args ≤ md_L Y) (hr : rec d' Y 0 (ent args (md_L Y)) [] M = some (rv, M')) : abody rec (d' + 1) X pc l st M = rec (d' + 1) X (pc + len) l (rv.toList ++ rest) M' := by
  unfold abody
  rw [hs, hc]
  dsimp only
  rw [hb]
  dsimp only
  rw [hm]
  dsimp only
  rw [hp]
  dsimp only
  rw [Nat.ble_eq_true_of_le hw, cond_true, hr]
theorem abody_mono (hrec : ∀ d X pc l st M r, rec d X pc l st M = some r → rec' d X pc l st M = some r) (h : abody rec d X pc l st M = some r) : abody rec' d X pc l st M = some r := by
  rcases abody_cases h with ⟨pc', l', st', M', h1, h2⟩ | ⟨h0, i, len, h1, h2⟩ | ⟨h0, op, a, b, v, len, st', M', h1, h2, h3, h4⟩ | ⟨h0, op, a, b, v, len, Y, d', args, rest, rv, M', h1, h2, h3, rfl, h5, hw, h6, h7⟩
  · rw [abody_s h1]; exact hrec _ _ _ _ _ _ _ h2
  · rw [abody_r h0 h1]; exact h2
  · rw [abody_b h0 h1 h2 h3]; exact hrec _ _ _ _ _ _ _ h4
  · rw [abody_c h0 h1 h2 h3 h5 hw (hrec _ _ _ _ _ _ _ h6)]; exact hrec _ _ _ _ _ _ _ h7
end RUN
theorem ago_up : ∀ (n d : Nat) (X : MD) (pc : Nat) (l : AL) (st : List Value) (M : AM) (r : AR), ago n d X pc l st M = some r → ago (n + 1) d X pc l st M = some r
  | 0, d, X, pc, l, st, M, r, h => by cases h
  | n + 1, d, X, pc, l, st, M, r, h => by
    show abody (ago (n + 1)) d X pc l st M = some r
    exact abody_mono (ago_up n) h
theorem ago_le {n m d : Nat} {X : MD} {pc : Nat} {l : AL} {st : List Value} {M : AM} {r : AR} (hnm : n ≤ m) (h : ago n d X pc l st M = some r) : ago m d X pc l st M = some r := by
  obtain ⟨k, rfl⟩ := Nat.exists_eq_add_of_le hnm
  clear hnm
  induction k with
  | zero => exact h
  | succ k ih => exact ago_up _ _ _ _ _ _ _ _ ih
/-- the run from here ends so -/
def Ev (d : Nat) (X : MD) (pc : Nat) (l : AL) (st : List Value) (M : AM) (r : AR) : Prop := ∃ n, ago n d X pc l st M = some r
def sn : Nat → MD → Nat → AL → List Value → AM → Option (Nat × AL × List Value × AM)
  | 0, _, pc, l, st, M => some (pc, l, st, M)
  | n + 1, X, pc, l, st, M => match sstep swl X pc l st M with
    | some (pc', l', st', M') => sn n X pc' l' st' M'
    | none => none
section EV
variable {d : Nat} {X : MD} {pc len : Nat} {l : AL} {st : List Value} {M : AM} {r : AR} {a b : Nat} {v : Value}
theorem Ev.s {pc' : Nat} {l' : AL} {st' : List Value} {M' : AM} (hs : sstep swl X pc l st M = some (pc', l', st', M')) (k : Ev d X pc' l' st' M' r) : Ev d X pc l st M r := by
  obtain ⟨n, h⟩ := k
  exact ⟨n + 1, (abody_s hs).trans h⟩
theorem Ev.n : ∀ (k : Nat) {pc : Nat} {l : AL} {st : List Value} {M : AM} {pc' : Nat} {l' : AL} {st' : List Value} {M' : AM}, sn k X pc l st M = some (pc', l', st', M') → Ev d X pc' l' st' M' r → Ev d X pc l st M r
  | 0, pc, l, st, M, pc', l', st', M', h, e => by cases h; exact e
  | k + 1, pc, l, st, M, pc', l', st', M', h, e => by
    unfold sn at h
    cases hs : sstep swl X pc l st M with
    | none => rw [hs] at h; cases h
    | some q =>
      obtain ⟨pc1, l1, st1, M1⟩ := q
      rw [hs] at h
      exact Ev.s hs (Ev.n k h e)
theorem rstep_only {rt : Nat} {i : Instr} (h : rstep rt i st M = some r) : pstep i st = none ∧ mstep i st M = none := by
  unfold rstep at h
  split at h <;> first | exact ⟨rfl, rfl⟩ | cases h
theorem Ev.ret {i : Instr} (hc : cdx X pc = some (.inr (.inl i), len)) (hr : rstep (md_r X) i st M = some r) : Ev d X pc l st M r := by
  refine ⟨1, (abody_r (i := i) (len := len) ?_ hc).trans hr⟩
  obtain ⟨h1, h2⟩ := rstep_only hr
  unfold sstep
  rw [hc]
  dsimp only
  rw [h1]
  dsimp only
  rw [h2]
theorem ostep_call (op : Nat) (h : op = 4 ∨ op = 5 ∨ op = 6 ∨ op = 7 ∨ op = 8 ∨ op = 9 ∨ op = 10 ∨ op = 11 ∨ op = 12) {o : Nat} {ini : Bool} : ostep swl o ini op a b v pc len l st M = none := by
  rcases h with rfl | rfl | rfl | rfl | rfl | rfl | rfl | rfl | rfl <;> rfl
theorem bstep_call (op : Nat) (h : op = 4 ∨ op = 5 ∨ op = 6) : bstep op st M = none := by
  rcases h with rfl | rfl | rfl <;> rfl
theorem sstep_call {op : Nat} (hc : cdx X pc = some (.inr (.inr (op, a, b, v)), len)) (h : op = 4 ∨ op = 5 ∨ op = 6 ∨ op = 7 ∨ op = 8 ∨ op = 9 ∨ op = 10 ∨ op = 11 ∨ op = 12) : sstep swl X pc l st M = none := by
  unfold sstep
  rw [hc]
  exact ostep_call op h
/-- a call, whatever its kind: the callee's run, then the rest -/
theorem Ev.call {op : Nat} {Y : MD} {args rest : List Value} {rv : Option Value} {M' : AM} (hc : cdx X pc = some (.inr (.inr (op, a, b, v)), len)) (hm : mt a = some Y) (ho : op = 4 ∨ op = 5 ∨ op = 6) (hp : csplit op b st M Y = some (args, rest)) (hw : Nat.ble (wsum args) (md_L Y) = true) (hr : Ev d Y 0 (ent args (md_L Y)) [] M (rv, M')) (k : Ev (d + 1) X (pc + len) l (rv.toList ++ rest) M' r) : Ev (d + 1) X pc l st M r := by
  obtain ⟨n1, h1⟩ := hr
  obtain ⟨n2, h2⟩ := k
  refine ⟨n1 + n2 + 1, (abody_c (rec := ago (n1 + n2)) (sstep_call hc (by omega)) hc (bstep_call op ho) hm hp (Nat.le_of_ble_eq_true hw) (ago_le (by omega) h1)).trans (ago_le (by omega) h2)⟩
theorem Ev.callS {Y : MD} {rv : Option Value} {M' : AM} (hc : cdx X pc = some (.inr (.inr (4, a, b, v)), len)) (hm : mt a = some Y) (hb : (Nat.ble b st.length && rok (st.drop b)) = true) (hw : Nat.ble (wsum ((st.take b).reverse)) (md_L Y) = true) (hr : Ev d Y 0 (ent ((st.take b).reverse) (md_L Y)) [] M (rv, M')) (k : Ev (d + 1) X (pc + len) l (rv.toList ++ st.drop b) M' r) : Ev (d + 1) X pc l st M r := by
  refine Ev.call hc hm (Or.inl rfl) (args := (st.take b).reverse) (rest := st.drop b) ?_ hw hr k
  unfold csplit
  rw [hb]
  rfl
theorem Ev.callV {Y : MD} {rv : Option Value} {M' : AM} {k ci : Nat} {fs rest : List Value} (hc : cdx X pc = some (.inr (.inr (5, a, b, v)), len)) (hm : mt a = some Y) (hd : st.drop b = .ref k :: rest) (hM : M k = .inr (ci, fs)) (hb : (Nat.beq ci (md_o Y) && rok rest) = true) (h32 : 32 ≤ k) (hw : Nat.ble (wsum (.ref k :: (st.take b).reverse)) (md_L Y) = true) (hr : Ev d Y 0 (ent (.ref k :: (st.take b).reverse) (md_L Y)) [] M (rv, M')) (k : Ev (d + 1) X (pc + len) l (rv.toList ++ rest) M' r) : Ev (d + 1) X pc l st M r := by
  refine Ev.call hc hm (Or.inr (Or.inl rfl)) ?_ hw hr k
  unfold csplit
  rw [hd]
  dsimp only
  rw [hM]
  dsimp only
  rw [hb, Nat.ble_eq_true_of_le h32]
  rfl
theorem Ev.callI {Y : MD} {rv : Option Value} {M' : AM} {k : Nat} {rest : List Value} (hc : cdx X pc = some (.inr (.inr (6, a, b, v)), len)) (hm : mt a = some Y) (hd : st.drop b = .ref k :: rest) (hb : rok rest = true) (hw : Nat.ble (wsum (.ref k :: (st.take b).reverse)) (md_L Y) = true) (hr : Ev d Y 0 (ent (.ref k :: (st.take b).reverse) (md_L Y)) [] M (rv, M')) (k : Ev (d + 1) X (pc + len) l (rv.toList ++ rest) M' r) : Ev (d + 1) X pc l st M r := by
  refine Ev.call hc hm (Or.inr (Or.inr rfl)) ?_ hw hr k
  unfold csplit
  rw [hd]
  dsimp only
  rw [hb]
  rfl
theorem Ev.bi {op : Nat} {st' : List Value} {M' : AM} (hc : cdx X pc = some (.inr (.inr (op, a, b, v)), len)) (ho : op = 7 ∨ op = 8 ∨ op = 9 ∨ op = 10 ∨ op = 11 ∨ op = 12) (hb : bstep op st M = some (st', M')) (hd : 8 ≤ d) (k : Ev d X (pc + len) l st' M' r) : Ev d X pc l st M r := by
  obtain ⟨n, h⟩ := k
  exact ⟨n + 1, (abody_b (rec := ago n) (sstep_call hc (by omega)) hc hb hd).trans h⟩
theorem ain_of {i : Int32} {n : Nat} (h : vp_in i n) : ain i n = true := by
  have h1 : ¬ i < 0 := fun q => h (Or.inl q)
  have h2 : i.toNatClampNeg < n := Nat.not_le.mp fun q => h (Or.inr q)
  unfold ain
  rw [decide_eq_false h1]
  exact Nat.ble_eq_true_of_le h2
theorem ain_to {i : Int32} {n : Nat} (h : ain i n = true) : vp_in i n := by
  unfold ain at h
  rw [Bool.and_eq_true] at h
  intro q
  rcases q with q | q
  · rw [decide_eq_true q] at h; cases h.1
  · have h3 : i.toNatClampNeg < n := Nat.le_of_ble_eq_true h.2
    omega
-- memory
theorem Ev.get {k : Nat} {fs : List Value} {w : Value} (hc : cdx X pc = some (.inr (.inr (0, a, b, v)), len)) (hM : M k = .inr (a, fs)) (hv : gv fs b = some w) (h : Ev d X (pc + len) l (w :: st) M r) : Ev d X pc l (.ref k :: st) M r := by
  refine Ev.s ?_ h
  unfold sstep
  rw [hc]
  show (match M k with | .inr (ci, fs) => _ | .inl _ => _) = _
  rw [hM]
  show (bif Nat.beq a a then _ else _) = _
  rw [Nat.beq_refl]
  show (match gv fs b with | some w => _ | none => _) = _
  rw [hv]
theorem Ev.put {k : Nat} {fs : List Value} {w : Value} (hc : cdx X pc = some (.inr (.inr (1, a, b, v)), len)) (hM : M k = .inr (a, fs)) (hok : (Nat.blt b fs.length && pfit (fcode a b) w && (bif (fTX a b).2.2.2 then md_i X && Nat.beq (md_o X) a else true)) = true) (h : Ev d X (pc + len) l st (va_up M k (.inr (a, fs.set b w))) r) : Ev d X pc l (w :: .ref k :: st) M r := by
  refine Ev.s ?_ h
  unfold sstep
  rw [hc]
  show (match M k with | .inr (ci, fs) => _ | .inl _ => _) = _
  rw [hM]
  show (bif Nat.beq a a && _ && _ && _ then _ else _) = _
  rw [Nat.beq_refl, Bool.true_and, hok]
  rfl
theorem Ev.iald {k n t : Nat} {f : Nat → Int32} {j : Int32} (hc : cdx X pc = some (.inr (.inl .iaload), len)) (hM : M k = .inl (t, n, .inl f)) (ht : (Nat.beq t 0 || Nat.beq t 7) = true) (hj : vp_in j n) (h : Ev d X (pc + len) l (.int (f j.toNatClampNeg) :: st) M r) : Ev d X pc l (.int j :: .ref k :: st) M r := by
  refine Ev.s ?_ h
  unfold sstep
  rw [hc]
  simp only [pstep, mstep, hM, ht, ain_of hj, Bool.and_self, cond_true]
theorem Ev.bald {k n t : Nat} {f : Nat → Int32} {j : Int32} (hc : cdx X pc = some (.inr (.inl .baload), len)) (hM : M k = .inl (t, n, .inl f)) (ht : (Nat.beq t 2 || Nat.beq t 3) = true) (hj : vp_in j n) (h : Ev d X (pc + len) l (.int (f j.toNatClampNeg) :: st) M r) : Ev d X pc l (.int j :: .ref k :: st) M r := by
  refine Ev.s ?_ h
  unfold sstep
  rw [hc]
  simp only [pstep, mstep, hM, ht, ain_of hj, Bool.and_self, cond_true]
theorem Ev.lald {k n : Nat} {f : Nat → Int64} {j : Int32} (hc : cdx X pc = some (.inr (.inl .laload), len)) (hM : M k = .inl (1, n, .inr (.inl f))) (hj : vp_in j n) (h : Ev d X (pc + len) l (.long (f j.toNatClampNeg) :: st) M r) : Ev d X pc l (.int j :: .ref k :: st) M r := by
  refine Ev.s ?_ h
  unfold sstep
  rw [hc]
  simp only [pstep, mstep, hM, ain_of hj, Nat.beq_refl, Bool.and_self, cond_true]
theorem Ev.aald {k n t : Nat} {f : Nat → Option Nat} {j : Int32} (hc : cdx X pc = some (.inr (.inl .aaload), len)) (hM : M k = .inl (t, n, .inr (.inr (.inr (.inr f))))) (ht : (Nat.ble 4 t && Nat.ble t 6) = true) (hj : vp_in j n) (h : Ev d X (pc + len) l (va_rf (f j.toNatClampNeg) :: st) M r) : Ev d X pc l (.int j :: .ref k :: st) M r := by
  refine Ev.s ?_ h
  unfold sstep
  rw [hc]
  simp only [pstep, mstep, hM, ht, ain_of hj, Bool.and_self, cond_true]
theorem Ev.iast {k n : Nat} {f : Nat → Int32} {j x : Int32} (hc : cdx X pc = some (.inr (.inl .iastore), len)) (hM : M k = .inl (0, n, .inl f)) (hj : vp_in j n) (h : Ev d X (pc + len) l st (va_up M k (.inl (0, n, .inl (upd f j.toNatClampNeg x)))) r) : Ev d X pc l (.int x :: .int j :: .ref k :: st) M r := by
  refine Ev.s ?_ h
  unfold sstep
  rw [hc]
  simp only [pstep, mstep, hM, ain_of hj, Nat.beq_refl, Bool.and_self, cond_true]
theorem Ev.bast {k n t : Nat} {f : Nat → Int32} {j x : Int32} (hc : cdx X pc = some (.inr (.inl .bastore), len)) (hM : M k = .inl (t, n, .inl f)) (ht : (Nat.beq t 2 || Nat.beq t 3) = true) (hj : vp_in j n) (h : Ev d X (pc + len) l st (va_up M k (.inl (t, n, .inl (upd f j.toNatClampNeg (anar t x))))) r) : Ev d X pc l (.int x :: .int j :: .ref k :: st) M r := by
  refine Ev.s ?_ h
  unfold sstep
  rw [hc]
  simp only [pstep, mstep, hM, ht, ain_of hj, Bool.and_self, cond_true]
theorem Ev.last {k n : Nat} {f : Nat → Int64} {j : Int32} {x : Int64} (hc : cdx X pc = some (.inr (.inl .lastore), len)) (hM : M k = .inl (1, n, .inr (.inl f))) (hj : vp_in j n) (h : Ev d X (pc + len) l st (va_up M k (.inl (1, n, .inr (.inl (vp_updL f j.toNatClampNeg x))))) r) : Ev d X pc l (.long x :: .int j :: .ref k :: st) M r := by
  refine Ev.s ?_ h
  unfold sstep
  rw [hc]
  simp only [pstep, mstep, hM, ain_of hj, Nat.beq_refl, Bool.and_self, cond_true]
theorem Ev.aast {k n t ci j' : Nat} {f : Nat → Option Nat} {j : Int32} {fs : List Value} (hc : cdx X pc = some (.inr (.inl .aastore), len)) (hM : M k = .inl (t, n, .inr (.inr (.inr (.inr f))))) (hv : M j' = .inr (ci, fs)) (ht : (Nat.ble 4 t && Nat.ble t 6 && Nat.beq ci (tag_cls t)) = true) (h32 : 32 ≤ j') (hj : vp_in j n) (h : Ev d X (pc + len) l st (va_up M k (.inl (t, n, .inr (.inr (.inr (.inr (va_up f j.toNatClampNeg (some j')))))))) r) : Ev d X pc l (.ref j' :: .int j :: .ref k :: st) M r := by
  refine Ev.s ?_ h
  unfold sstep
  rw [hc]
  simp only [pstep, mstep, hM, hv, ht, Nat.ble_eq_true_of_le h32, ain_of hj, Bool.and_self, cond_true]
-- branches
theorem Ev.br1 (c : Nat) {x : Int32} {tgt : Nat} (hc : cdx X pc = some (.inr (.inr (c + 20, tgt, b, v)), len)) (h5 : Nat.ble c 5 = true) (h : Ev d X (bif jb c x 0 then tgt else pc + len) l st M r) : Ev d X pc l (.int x :: st) M r := by
  have h6 : c ≤ 5 := Nat.le_of_ble_eq_true h5
  refine Ev.s ?_ h
  unfold sstep
  rw [hc]
  match c, h6 with
  | 0, _ => rfl | 1, _ => rfl | 2, _ => rfl | 3, _ => rfl | 4, _ => rfl | 5, _ => rfl
theorem Ev.br2 (c : Nat) {x y : Int32} {tgt : Nat} (hc : cdx X pc = some (.inr (.inr (c + 26, tgt, b, v)), len)) (h5 : Nat.ble c 5 = true) (h : Ev d X (bif jb c x y then tgt else pc + len) l st M r) : Ev d X pc l (.int y :: .int x :: st) M r := by
  have h6 : c ≤ 5 := Nat.le_of_ble_eq_true h5
  refine Ev.s ?_ h
  unfold sstep
  rw [hc]
  match c, h6 with
  | 0, _ => rfl | 1, _ => rfl | 2, _ => rfl | 3, _ => rfl | 4, _ => rfl | 5, _ => rfl
theorem Ev.cond {c : Bool} {p : Prop} {t f : Nat} (hp : c = true ↔ p) (kt : p → Ev d X t l st M r) (kf : ¬ p → Ev d X f l st M r) : Ev d X (bif c then t else f) l st M r := by
  cases hq : c with
  | true => exact kt (hp.mp hq)
  | false => exact kf (fun q => by rw [hp.mpr q] at hq; cases hq)
theorem Ev.if0 {x : Int32} {tgt : Nat} (hc : cdx X pc = some (.inr (.inr (20, tgt, b, v)), len)) (kt : x = 0 → Ev d X tgt l st M r) (kf : ¬ x = 0 → Ev d X (pc + len) l st M r) : Ev d X pc l (.int x :: st) M r := Ev.br1 0 hc rfl (Ev.cond (p := x = 0) (by simp [jb]) kt kf)
theorem Ev.if1 {x : Int32} {tgt : Nat} (hc : cdx X pc = some (.inr (.inr (21, tgt, b, v)), len)) (kt : ¬ x = 0 → Ev d X tgt l st M r) (kf : x = 0 → Ev d X (pc + len) l st M r) : Ev d X pc l (.int x :: st) M r := Ev.br1 1 hc rfl (Ev.cond (p := ¬ x = 0) (by simp [jb]) kt (fun h => kf (Decidable.not_not.mp h)))
theorem Ev.if2 {x : Int32} {tgt : Nat} (hc : cdx X pc = some (.inr (.inr (22, tgt, b, v)), len)) (kt : x < 0 → Ev d X tgt l st M r) (kf : ¬ x < 0 → Ev d X (pc + len) l st M r) : Ev d X pc l (.int x :: st) M r := Ev.br1 2 hc rfl (Ev.cond (p := x < 0) (by simp [jb]) kt kf)
theorem Ev.if3 {x : Int32} {tgt : Nat} (hc : cdx X pc = some (.inr (.inr (23, tgt, b, v)), len)) (kt : 0 ≤ x → Ev d X tgt l st M r) (kf : ¬ 0 ≤ x → Ev d X (pc + len) l st M r) : Ev d X pc l (.int x :: st) M r := Ev.br1 3 hc rfl (Ev.cond (p := 0 ≤ x) (by simp [jb]) kt kf)
theorem Ev.if4 {x : Int32} {tgt : Nat} (hc : cdx X pc = some (.inr (.inr (24, tgt, b, v)), len)) (kt : 0 < x → Ev d X tgt l st M r) (kf : ¬ 0 < x → Ev d X (pc + len) l st M r) : Ev d X pc l (.int x :: st) M r := Ev.br1 4 hc rfl (Ev.cond (p := 0 < x) (by simp [jb]) kt kf)
theorem Ev.if5 {x : Int32} {tgt : Nat} (hc : cdx X pc = some (.inr (.inr (25, tgt, b, v)), len)) (kt : x ≤ 0 → Ev d X tgt l st M r) (kf : ¬ x ≤ 0 → Ev d X (pc + len) l st M r) : Ev d X pc l (.int x :: st) M r := Ev.br1 5 hc rfl (Ev.cond (p := x ≤ 0) (by simp [jb]) kt kf)
theorem Ev.ic0 {x y : Int32} {tgt : Nat} (hc : cdx X pc = some (.inr (.inr (26, tgt, b, v)), len)) (kt : x = y → Ev d X tgt l st M r) (kf : ¬ x = y → Ev d X (pc + len) l st M r) : Ev d X pc l (.int y :: .int x :: st) M r := Ev.br2 0 hc rfl (Ev.cond (p := x = y) (by simp [jb]) kt kf)
theorem Ev.ic1 {x y : Int32} {tgt : Nat} (hc : cdx X pc = some (.inr (.inr (27, tgt, b, v)), len)) (kt : ¬ x = y → Ev d X tgt l st M r) (kf : x = y → Ev d X (pc + len) l st M r) : Ev d X pc l (.int y :: .int x :: st) M r := Ev.br2 1 hc rfl (Ev.cond (p := ¬ x = y) (by simp [jb]) kt (fun h => kf (Decidable.not_not.mp h)))
theorem Ev.ic2 {x y : Int32} {tgt : Nat} (hc : cdx X pc = some (.inr (.inr (28, tgt, b, v)), len)) (kt : x < y → Ev d X tgt l st M r) (kf : ¬ x < y → Ev d X (pc + len) l st M r) : Ev d X pc l (.int y :: .int x :: st) M r := Ev.br2 2 hc rfl (Ev.cond (p := x < y) (by simp [jb]) kt kf)
theorem Ev.ic3 {x y : Int32} {tgt : Nat} (hc : cdx X pc = some (.inr (.inr (29, tgt, b, v)), len)) (kt : y ≤ x → Ev d X tgt l st M r) (kf : ¬ y ≤ x → Ev d X (pc + len) l st M r) : Ev d X pc l (.int y :: .int x :: st) M r := Ev.br2 3 hc rfl (Ev.cond (p := y ≤ x) (by simp [jb]) kt kf)
theorem Ev.ic4 {x y : Int32} {tgt : Nat} (hc : cdx X pc = some (.inr (.inr (30, tgt, b, v)), len)) (kt : y < x → Ev d X tgt l st M r) (kf : ¬ y < x → Ev d X (pc + len) l st M r) : Ev d X pc l (.int y :: .int x :: st) M r := Ev.br2 4 hc rfl (Ev.cond (p := y < x) (by simp [jb]) kt kf)
theorem Ev.ic5 {x y : Int32} {tgt : Nat} (hc : cdx X pc = some (.inr (.inr (31, tgt, b, v)), len)) (kt : x ≤ y → Ev d X tgt l st M r) (kf : ¬ x ≤ y → Ev d X (pc + len) l st M r) : Ev d X pc l (.int y :: .int x :: st) M r := Ev.br2 5 hc rfl (Ev.cond (p := x ≤ y) (by simp [jb]) kt kf)
end EV
end
section
/-! THE ABSTRACT MEMORY AND THE HEAP. G: where the made cells begin, where the places below 32 lie, the array classes, the object classes and slots. -/
abbrev SG : Type := Nat × (Nat → Nat) × (Nat → ClassId) × va_G
def slen : List Nat := [7, 6, 4, 4, 4, 4, 4, 2, 4, 7, 4, 4, 4, 5, 2, 4, 4, 2, 3, 6, 5]
def sbyt : List (List Int32) := [[107, 105, 110, 103, 100, 111, 109], [112, 108, 97, 99, 101, 115], [100, 97, 121, 115], [114, 97, 116, 101], [102, 114, 101, 101], [116, 105, 109, 101], [114, 111, 97, 100], [116, 111], [102, 114, 111, 109], [119, 97, 116, 99, 104, 101, 100], [108, 97, 110, 101], [102, 111, 114, 100], [98, 111, 97, 116], [102, 108, 111, 111, 100], [111, 110], [119, 97, 108, 107], [108, 111, 97, 100], [98, 121], [108, 97, 119], [115, 117, 110, 100, 97, 121], [108, 105, 103, 104, 116]]
def sidx : List Nat := [84, 90, 98, 106, 112, 116, 46, 130, 142, 150, 58, 60, 62, 64, 157, 69, 174, 185, 194, 195, 203]
def stx : List String := ["kingdom", "places", "days", "rate", "free", "time", "road", "to", "from", "watched", "lane", "ford", "boat", "flood", "on", "walk", "load", "by", "law", "sunday", "light"]
def ad (G : SG) (k : Nat) : Nat := if k < 32 then G.2.1 k else G.1 + (k - 32)
def cv (G : SG) (v : Value) : Value := match v with
  | .ref k => .ref (ad G k)
  | .int x => .int x
  | .long x => .long x
  | .float x => .float x
  | .double x => .double x
  | .null => .null
  | .retAddr x => .retAddr x
abbrev ADt : Type := (Nat → Int32) ⊕ (Nat → Int64) ⊕ (Nat → UInt32) ⊕ (Nat → UInt64) ⊕ (Nat → Option Nat)
def cdt (G : SG) (x : ADt) : ADt := match x with
  | .inr (.inr (.inr (.inr f))) => .inr (.inr (.inr (.inr (fun i => (f i).map (ad G)))))
  | .inl f => .inl f
  | .inr (.inl f) => .inr (.inl f)
  | .inr (.inr (.inl f)) => .inr (.inr (.inl f))
  | .inr (.inr (.inr (.inl f))) => .inr (.inr (.inr (.inl f)))
def ce (G : SG) (e : AE) : va_E := match e with
  | .inl (t, n, x) => .inl (G.2.2.1 t, n, cdt G x)
  | .inr (ci, fs) => .inr (ci, fs.map (cv G))
def lay (G : SG) (M : AM) : va_W := (List.range (cnt M 0)).map (fun k => (G.1 + k, ce G (M (32 + k))))
def tysA (G : SG) : List (ClassId × FieldType) := [(G.2.2.1 0, .int), (G.2.2.1 1, .long), (G.2.2.1 2, .byte), (G.2.2.1 3, .boolean), (G.2.2.1 4, .object RX1), (G.2.2.1 5, .object RX7), (G.2.2.1 6, .object RX3)]
theorem cv_cat (G : SG) (v : Value) : (cv G v).category = v.category := by cases v <;> rfl
theorem va_rf_cv (G : SG) (r : Option Nat) : cv G (va_rf r) = va_rf (r.map (ad G)) := by cases r <;> rfl
theorem lay_len (G : SG) (M : AM) : (lay G M).length = cnt M 0 := by simp [lay]
theorem lay_get {G : SG} {M : AM} {k : Nat} (h : k < cnt M 0) : (lay G M)[k]? = some (G.1 + k, ce G (M (32 + k))) := by
  simp [lay, List.getElem?_range h]
theorem lay_at {G : SG} {M : AM} {k : Nat} {q : Nat × va_E} (h : (lay G M)[k]? = some q) : k < cnt M 0 ∧ q = (G.1 + k, ce G (M (32 + k))) := by
  have hk : k < cnt M 0 := by rw [← lay_len G M]; exact (List.getElem?_eq_some_iff.mp h).1
  rw [lay_get hk] at h
  exact ⟨hk, (Option.some.inj h).symm⟩
theorem cnt_up {M : AM} {k i : Nat} {e : AE} (h : i ≠ k) : cnt (va_up M k e) i = cnt M i := by simp [cnt, va_up, h]
theorem lay_set {G : SG} {M : AM} {k : Nat} {e : AE} (h : k < cnt M 0) : (lay G M).set k (G.1 + k, ce G e) = lay G (va_up M (32 + k) e) := by
  have hc : cnt (va_up M (32 + k) e) 0 = cnt M 0 := cnt_up (by omega)
  refine List.ext_getElem? fun i => ?_
  by_cases hi : i = k
  · subst hi
    rw [List.getElem?_set_self (by rw [lay_len]; exact h), lay_get (by rw [hc]; exact h)]
    simp [va_up]
  · rw [List.getElem?_set_ne (fun z => hi z.symm)]
    by_cases hl : i < cnt M 0
    · rw [lay_get hl, lay_get (by rw [hc]; exact hl)]
      rw [va_up_ne _ _ (by omega)]
    · rw [List.getElem?_eq_none (by rw [lay_len]; omega), List.getElem?_eq_none (by rw [lay_len, hc]; omega)]
theorem cnt_new0 (M : AM) (e : AE) (sz : Nat) : cnt (mnew M e sz) 0 = cnt M 0 + 1 := by
  simp [mnew, cnt, va_up]
theorem cnt_new1 (M : AM) (e : AE) (sz : Nat) : cnt (mnew M e sz) 1 = cnt M 1 + sz := by
  simp [mnew, cnt, va_up]
theorem mnew_at (M : AM) (e : AE) (sz : Nat) : mnew M e sz (32 + cnt M 0) = e := by
  have h0 : (32 + cnt M 0) ≠ 0 := by omega
  have h1 : (32 + cnt M 0) ≠ 1 := by omega
  unfold mnew
  rw [va_up_ne _ _ h1, va_up_ne _ _ h0, va_up_self]
theorem mnew_ne {M : AM} {e : AE} {sz k : Nat} (h0 : k ≠ 0) (h1 : k ≠ 1) (h : k ≠ 32 + cnt M 0) : mnew M e sz k = M k := by
  unfold mnew
  rw [va_up_ne _ _ h1, va_up_ne _ _ h0, va_up_ne _ _ h]
theorem lay_push (G : SG) (M : AM) (e : AE) (sz : Nat) : lay G (mnew M e sz) = lay G M ++ [(G.1 + cnt M 0, ce G e)] := by
  unfold lay
  rw [cnt_new0, List.range_succ, List.map_append]
  congr 1
  · refine List.map_congr_left fun k hk => ?_
    have hk' := List.mem_range.mp hk
    rw [mnew_ne (by omega) (by omega) (by omega)]
  · simp only [List.map_cons, List.map_nil, mnew_at]
theorem lay_D (G : SG) (M : AM) : va_D (fun q => G.1 ≤ q) (lay G M) := by
  refine ⟨fun i j p q hi hj hpq => ?_, fun k q hk => ?_⟩
  · obtain ⟨-, rfl⟩ := lay_at hi
    obtain ⟨-, rfl⟩ := lay_at hj
    have : G.1 + i = G.1 + j := hpq
    omega
  · obtain ⟨-, rfl⟩ := lay_at hk
    exact Nat.le_add_right _ _
/-- the shape of the memory: the script, the Strings, holes elsewhere -/
def Wf (sc : Nat × (Nat → Int32)) (M : AM) : Prop := (∃ n, M 0 = .inr (n, [])) ∧ (∃ n, M 1 = .inr (n, [])) ∧ M 2 = .inl (7, sc.1, .inl sc.2) ∧ (∀ i, i < 21 → M (3 + i) = .inl (8, slen.getD i 0, .inl (fun j => (sbyt.getD i []).getD j 0))) ∧ (∀ k, 24 ≤ k → k < 32 → M k = .inr (99, [])) ∧ (∀ k, 32 + cnt M 0 ≤ k → M k = .inr (99, [])) ∧ (∀ k t n x, 32 ≤ k → M k = .inl (t, n, x) → t < 7)
theorem Wf.obj {sc : Nat × (Nat → Int32)} {M : AM} (h : Wf sc M) {k ci : Nat} {fs : List Value} (hk : M k = .inr (ci, fs)) (hf : fs ≠ []) : 32 ≤ k ∧ k - 32 < cnt M 0 := by
  obtain ⟨⟨n0, h0⟩, ⟨n1, h1⟩, h2, h3, h4, h5, -⟩ := h
  have e : ∀ c : Nat, M k = .inr (c, []) → False := fun c hc => by
    rw [hk] at hc
    exact hf (by injection hc with hc; exact congrArg Prod.snd hc)
  by_cases a : k < 32
  · exfalso
    by_cases a0 : k = 0
    · subst a0; exact e _ h0
    by_cases a1 : k = 1
    · subst a1; exact e _ h1
    by_cases a2 : k = 2
    · subst a2; rw [hk] at h2; cases h2
    by_cases a3 : k < 24
    · have := h3 (k - 3) (by omega)
      rw [show 3 + (k - 3) = k by omega, hk] at this
      cases this
    · exact e _ (h4 k (by omega) a)
  · by_cases b : 32 + cnt M 0 ≤ k
    · exact (e _ (h5 k b)).elim
    · omega
theorem Wf.arr {sc : Nat × (Nat → Int32)} {M : AM} (h : Wf sc M) {k t n : Nat} {x : ADt} (hk : M k = .inl (t, n, x)) (ht : t < 7) : 32 ≤ k ∧ k - 32 < cnt M 0 := by
  obtain ⟨⟨n0, h0⟩, ⟨n1, h1⟩, h2, h3, h4, h5, -⟩ := h
  by_cases a : k < 32
  · exfalso
    by_cases a0 : k = 0
    · subst a0; rw [hk] at h0; cases h0
    by_cases a1 : k = 1
    · subst a1; rw [hk] at h1; cases h1
    by_cases a2 : k = 2
    · subst a2
      rw [hk] at h2
      injection h2 with h2
      have : t = 7 := congrArg Prod.fst h2
      omega
    by_cases a3 : k < 24
    · have := h3 (k - 3) (by omega)
      rw [show 3 + (k - 3) = k by omega, hk] at this
      injection this with this
      have : t = 8 := congrArg Prod.fst this
      omega
    · have := h4 k (by omega) a
      rw [hk] at this; cases this
  · by_cases b : 32 + cnt M 0 ≤ k
    · have := h5 k b
      rw [hk] at this; cases this
    · omega
theorem Wf.up {sc : Nat × (Nat → Int32)} {M : AM} (h : Wf sc M) {k : Nat} {e : AE} (h32 : 32 ≤ k) (hk : k - 32 < cnt M 0) (he : ∀ t n x, e = .inl (t, n, x) → t < 7) : Wf sc (va_up M k e) := by
  obtain ⟨⟨n0, h0⟩, ⟨n1, h1⟩, h2, h3, h4, h5, h6⟩ := h
  have hc : cnt (va_up M k e) 0 = cnt M 0 := cnt_up (by omega)
  refine ⟨⟨n0, by rw [va_up_ne _ _ (by omega)]; exact h0⟩, ⟨n1, by rw [va_up_ne _ _ (by omega)]; exact h1⟩, by rw [va_up_ne _ _ (by omega)]; exact h2, fun i hi => by rw [va_up_ne _ _ (by omega)]; exact h3 i hi, fun j a b => by rw [va_up_ne _ _ (by omega)]; exact h4 j a b, fun j a => ?_, fun j t n x a b => ?_⟩
  · rw [hc] at a
    rw [va_up_ne _ _ (by omega)]
    exact h5 j a
  · by_cases hj : j = k
    · subst hj
      rw [va_up_self] at b
      exact he t n x b
    · rw [va_up_ne _ _ hj] at b
      exact h6 j t n x a b
theorem Wf.new {sc : Nat × (Nat → Int32)} {M : AM} (h : Wf sc M) {e : AE} {sz : Nat} (he : ∀ t n x, e = .inl (t, n, x) → t < 7) : Wf sc (mnew M e sz) := by
  obtain ⟨-, -, h2, h3, h4, h5, h6⟩ := h
  refine ⟨⟨cnt M 0 + 1, by simp [mnew, va_up]⟩, ⟨cnt M 1 + sz, by simp only [mnew, va_up, if_true, cnt]⟩, by rw [mnew_ne (by omega) (by omega) (by omega)]; exact h2, fun i hi => by rw [mnew_ne (by omega) (by omega) (by omega)]; exact h3 i hi, fun j a b => by rw [mnew_ne (by omega) (by omega) (by omega)]; exact h4 j a b, fun j a => ?_, fun j t n x a b => ?_⟩
  · rw [cnt_new0] at a
    rw [mnew_ne (by omega) (by omega) (by omega)]
    exact h5 j (by omega)
  · by_cases hj : j = 32 + cnt M 0
    · subst hj
      rw [mnew_at] at b
      exact he t n x b
    · rw [mnew_ne (by omega) (by omega) hj] at b
      exact h6 j t n x a b
theorem ad_ge {G : SG} {k : Nat} (h : 32 ≤ k) : ad G k = G.1 + (k - 32) := by
  unfold ad
  rw [if_neg (by omega)]
/-- what lay before the law began -/
def Old (G : SG) (sc : Nat × (Nat → Int32)) (adV : Nat → Nat) (U : State) (H : Heap) : Prop := va_X (G.2.1 2) sc.1 sc.2 U H ∧ G.2.1 2 < G.1 ∧ vk_S 21 slen sbyt (fun i => G.2.1 (3 + i)) adV (fun q => G.1 ≤ q) U H ∧ (∀ i, i < 21 → vk_R RX2 (sidx.getD i 0) (stx.getD i "") (G.2.1 (3 + i)) U) ∧ va_Z "java/lang/String" "COMPACT_STRINGS" "Z" (.int 1) (fun q => G.1 ≤ q) U H ∧ va_Zq "jdk/internal/util/Preconditions" "SIOOBE_FORMATTER" "Ljava/util/function/BiFunction;" (fun q => G.1 ≤ q) U H
theorem Old.go {G : SG} {sc : Nat × (Nat → Int32)} {adV : Nat → Nat} {s U : State} {H : Heap} {locs : List Loc} (h : Old G sc adV s s.heap) (hG : G.1 ≤ s.heap.size) (hS : va_S (fun q => G.1 ≤ q) s.heap H locs) (hU : U.heap = H) (hW : s.WarmedH U.vm) : Old G sc adV U U.heap := by
  subst hU
  obtain ⟨h1, h2, h3, h4, h5, h6⟩ := h
  have hk : ∀ a : Nat, a < s.heap.size → ¬ (fun q => G.1 ≤ q) a → U.heap[a]? = s.heap[a]? := hS.2.1
  refine ⟨(h1.moved hW.alike).kept (hk _ (by omega) (by show ¬ G.1 ≤ _; omega)), h2, (h3.moved hW.alike).kept hk, fun i hi => (h4 i hi).warm hW, (h5.moved hW.alike).kept hk, (h6.moved hW.alike).kept hk⟩
/-- locals -/
def LH (G : SG) (ls : Array Slot) (nL : Nat) (ll : AL) : Prop := ls.size = nL ∧ lv_wf ls ∧ ll.length = nL ∧ ∀ i v, gl ll i = some v → ls[i]? = some (.val (cv G v))
def prs (G : SG) (ll : AL) : List (Nat × Value) := (List.range ll.length).filterMap (fun i => (gl ll i).map (fun v => (i, cv G v)))
theorem gl_lt : ∀ {ll : AL} {i : Nat} {v : Value}, gl ll i = some v → i < ll.length
  | [], _, _, h => by cases h
  | _ :: t, 0, _, _ => Nat.zero_lt_succ _
  | _ :: t, i + 1, v, h => Nat.succ_lt_succ (gl_lt (ll := t) h)
theorem prs_mem {G : SG} {ll : AL} {i : Nat} {v : Value} (h : gl ll i = some v) : (i, cv G v) ∈ prs G ll :=
  List.mem_filterMap.mpr ⟨i, List.mem_range.mpr (gl_lt h), by rw [h]; rfl⟩
theorem LH.has {G : SG} {ls : Array Slot} {nL : Nat} {ll : AL} (h : LH G ls nL ll) : lv_has ls nL (prs G ll) := by
  refine ⟨h.1, h.2.1, fun q hq => ?_⟩
  obtain ⟨i, -, hi⟩ := List.mem_filterMap.mp hq
  cases hg : gl ll i with
  | none => rw [hg] at hi; cases hi
  | some v =>
    rw [hg] at hi
    cases hi
    exact h.2.2.2 i v hg
theorem st1_len : ∀ (ll : AL) (i : Nat) (v : Value), (st1 ll i v).length = ll.length
  | [], _, _ => rfl
  | _ :: _, 0, _ => rfl
  | _ :: t, n + 1, v => congrArg (· + 1) (st1_len t n v)
theorem st2_len : ∀ (ll : AL) (i : Nat) (v : Value), (st2 ll i v).length = ll.length
  | [], _, _ => rfl
  | [_], 0, _ => rfl
  | _ :: _ :: _, 0, _ => rfl
  | _ :: t, n + 1, v => congrArg (· + 1) (st2_len t n v)
theorem cl2_some {o : Option Value} {w : Value} (h : cl2 o = some w) : o = some w ∧ w.category = 1 := by
  cases o with
  | none => cases h
  | some x => cases x <;> first | (cases h; done) | (cases h; exact ⟨rfl, rfl⟩)
theorem gl_st1 : ∀ {ll : AL} {i j : Nat} {v w : Value}, gl (st1 ll i v) j = some w → (j = i ∧ w = v) ∨ (j ≠ i ∧ gl ll j = some w ∧ (j + 1 = i → w.category = 1))
  | [], _, _, _, _, h => by cases h
  | a :: t, 0, 0, v, w, h => Or.inl ⟨rfl, (Option.some.inj h).symm⟩
  | a :: t, 0, j + 1, v, w, h => Or.inr ⟨by omega, h, by omega⟩
  | a :: t, 1, 0, v, w, h => by
    obtain ⟨h1, h2⟩ := cl2_some (o := a) h
    exact Or.inr ⟨by omega, h1, fun _ => h2⟩
  | a :: t, n + 2, 0, v, w, h => Or.inr ⟨by omega, h, by omega⟩
  | a :: t, n + 1, j + 1, v, w, h => by
    rcases gl_st1 (ll := t) (i := n) (j := j) h with ⟨h1, h2⟩ | ⟨h1, h2, h3⟩
    · exact Or.inl ⟨by omega, h2⟩
    · exact Or.inr ⟨by omega, h2, fun q => h3 (by omega)⟩
theorem gl_st2 : ∀ {ll : AL} {i j : Nat} {v w : Value}, gl (st2 ll i v) j = some w → (j = i ∧ w = v) ∨ (j ≠ i ∧ j ≠ i + 1 ∧ gl ll j = some w ∧ (j + 1 = i → w.category = 1))
  | [], _, _, _, _, h => by cases h
  | a :: t, 0, 0, v, w, h => Or.inl ⟨rfl, (Option.some.inj h).symm⟩
  | [a], 0, j + 1, v, w, h => by cases h
  | a :: b :: u, 0, 1, v, w, h => by cases h
  | a :: b :: u, 0, j + 2, v, w, h => Or.inr ⟨by omega, by omega, h, by omega⟩
  | a :: t, 1, 0, v, w, h => by
    obtain ⟨h1, h2⟩ := cl2_some (o := a) h
    exact Or.inr ⟨by omega, by omega, h1, fun _ => h2⟩
  | a :: t, n + 2, 0, v, w, h => Or.inr ⟨by omega, by omega, h, by omega⟩
  | a :: t, n + 1, j + 1, v, w, h => by
    rcases gl_st2 (ll := t) (i := n) (j := j) h with ⟨h1, h2⟩ | ⟨h1, h2, h3, h4⟩
    · exact Or.inl ⟨by omega, h2⟩
    · exact Or.inr ⟨by omega, by omega, h3, fun q => h4 (by omega)⟩
theorem LH.st1 {G : SG} {ls ls' : Array Slot} {nL i : Nat} {ll : AL} {v : Value} (h : LH G ls nL ll) (h' : lv_has ls' nL ((i, cv G v) :: (prs G ll).filter (fun q => !(q.1 == i) && !(q.1 + 1 == i && q.2.category == 2)))) : LH G ls' nL (st1 ll i v) := by
  refine ⟨h'.1, h'.2.1, by rw [st1_len]; exact h.2.2.1, fun j w hw => ?_⟩
  refine h'.2.2 (j, cv G w) ?_
  rcases gl_st1 hw with ⟨rfl, rfl⟩ | ⟨h1, h2, h3⟩
  · exact List.mem_cons_self
  · refine List.mem_cons_of_mem _ (List.mem_filter.mpr ⟨prs_mem h2, ?_⟩)
    have e1 : (j == i) = false := by simpa using h1
    show (!(j == i) && !(j + 1 == i && (cv G w).category == 2)) = true
    rw [e1, cv_cat]
    by_cases hq : j + 1 = i
    · rw [h3 hq]; simp
    · have e2 : (j + 1 == i) = false := by simpa using hq
      rw [e2]; rfl
theorem LH.st2 {G : SG} {ls ls' : Array Slot} {nL i : Nat} {ll : AL} {v : Value} (h : LH G ls nL ll) (h' : lv_has ls' nL ((i, cv G v) :: (prs G ll).filter (fun q => !(q.1 == i) && (!(q.1 == i + 1) && !(q.1 + 1 == i && q.2.category == 2))))) : LH G ls' nL (st2 ll i v) := by
  refine ⟨h'.1, h'.2.1, by rw [st2_len]; exact h.2.2.1, fun j w hw => ?_⟩
  refine h'.2.2 (j, cv G w) ?_
  rcases gl_st2 hw with ⟨rfl, rfl⟩ | ⟨h1, h0, h2, h3⟩
  · exact List.mem_cons_self
  · refine List.mem_cons_of_mem _ (List.mem_filter.mpr ⟨prs_mem h2, ?_⟩)
    have e1 : (j == i) = false := by simpa using h1
    have e0 : (j == i + 1) = false := by simpa using h0
    show (!(j == i) && (!(j == i + 1) && !(j + 1 == i && (cv G w).category == 2))) = true
    rw [e1, e0, cv_cat]
    by_cases hq : j + 1 = i
    · rw [h3 hq]; simp
    · have e2 : (j + 1 == i) = false := by simpa using hq
      rw [e2]; rfl
theorem gl_none : ∀ (n i : Nat) (v : Value), ¬ gl (List.replicate n none) i = some v
  | 0, _, _, h => by cases h
  | n + 1, 0, _, h => by cases h
  | n + 1, i + 1, v, h => gl_none n i v h
theorem ent_len : ∀ (vs : List Value) (n : Nat), wsum vs ≤ n → (ent vs n).length = n
  | [], n, _ => List.length_replicate
  | v :: t, n, h => by
    have hs : wsum (v :: t) = v.category + wsum t := rfl
    cases v with
    | long x =>
      have hc : (Value.long x).category = 2 := rfl
      have := ent_len t (n - 2) (by omega)
      show (ent t (n - 2)).length + 1 + 1 = n
      omega
    | double x =>
      have hc : (Value.double x).category = 2 := rfl
      have := ent_len t (n - 2) (by omega)
      show (ent t (n - 2)).length + 1 + 1 = n
      omega
    | int x =>
      have hc : (Value.int x).category = 1 := rfl
      have := ent_len t (n - 1) (by omega)
      show (ent t (n - 1)).length + 1 = n
      omega
    | float x =>
      have hc : (Value.float x).category = 1 := rfl
      have := ent_len t (n - 1) (by omega)
      show (ent t (n - 1)).length + 1 = n
      omega
    | null =>
      have hc : (Value.null).category = 1 := rfl
      have := ent_len t (n - 1) (by omega)
      show (ent t (n - 1)).length + 1 = n
      omega
    | ref x =>
      have hc : (Value.ref x).category = 1 := rfl
      have := ent_len t (n - 1) (by omega)
      show (ent t (n - 1)).length + 1 = n
      omega
    | retAddr x =>
      have hc : (Value.retAddr x).category = 1 := rfl
      have := ent_len t (n - 1) (by omega)
      show (ent t (n - 1)).length + 1 = n
      omega
theorem ent_args (G : SG) : ∀ (vs : List Value) (n i0 i : Nat) (w : Value), gl (ent vs n) i = some w → (i0 + i, cv G w) ∈ lv_args i0 (vs.map (cv G))
  | [], n, i0, i, w, h => (gl_none n i w h).elim
  | v :: t, n, i0, i, w, h => by
    have one : ∀ (_ : ent (v :: t) n = some v :: ent t (n - 1)) (_ : v.category = 1), (i0 + i, cv G w) ∈ lv_args i0 ((v :: t).map (cv G)) := by
      intro he hc
      rw [he] at h
      show _ ∈ (i0, cv G v) :: lv_args (if (cv G v).category = 2 then i0 + 2 else i0 + 1) (t.map (cv G))
      rw [cv_cat, hc, if_neg (by decide)]
      cases i with
      | zero => cases h; exact List.mem_cons_self
      | succ i =>
        have := ent_args G t (n - 1) (i0 + 1) i w h
        rw [show i0 + (i + 1) = i0 + 1 + i by omega]
        exact List.mem_cons_of_mem _ this
    have two : ∀ (_ : ent (v :: t) n = some v :: none :: ent t (n - 2)) (_ : v.category = 2), (i0 + i, cv G w) ∈ lv_args i0 ((v :: t).map (cv G)) := by
      intro he hc
      rw [he] at h
      show _ ∈ (i0, cv G v) :: lv_args (if (cv G v).category = 2 then i0 + 2 else i0 + 1) (t.map (cv G))
      rw [cv_cat, hc, if_pos rfl]
      match i, h with
      | 0, h => cases h; exact List.mem_cons_self
      | 1, h => cases h
      | i + 2, h =>
        have := ent_args G t (n - 2) (i0 + 2) i w h
        rw [show i0 + (i + 2) = i0 + 2 + i by omega]
        exact List.mem_cons_of_mem _ this
    cases v <;> first | exact one rfl rfl | exact two rfl rfl
theorem lg_len : ∀ (vs : List Value), (lg_sl vs).length = wsum vs
  | [] => rfl
  | v :: t => by
    have := lg_len t
    show (List.flatMap _ (v :: t)).length = v.category + wsum t
    rw [List.flatMap_cons, List.length_append]
    show _ + (lg_sl t).length = _
    rw [this]
    rcases lv_cat v with h | h <;> rw [h] <;> rfl
theorem wsum_cv (G : SG) (vs : List Value) : wsum (vs.map (cv G)) = wsum vs := by
  unfold wsum
  rw [List.map_map]
  congr 1
  exact List.map_congr_left fun v _ => cv_cat G v
/-- at a method's entry -/
theorem LH.entry (G : SG) (vs : List Value) {n : Nat} (h : wsum vs ≤ n) : LH G ((lg_sl (vs.map (cv G)) ++ List.replicate (n - (lg_sl (vs.map (cv G))).length) Slot.unset).toArray) n (ent vs n) := by
  obtain ⟨h1, h2, h3⟩ := lv_entry (vs.map (cv G)) (n := n) (by rw [lg_len, wsum_cv]; exact h)
  refine ⟨h1, h2, ent_len vs n h, fun i w hw => ?_⟩
  have := ent_args G vs n 0 i w hw
  rw [Nat.zero_add] at this
  exact h3 _ this
/-- the tables' words hold on -/
def gword (w : Jvm.Cond) : Bool := goodWord w || (match w with | .fieldLinkNest .. => true | .methodLinkNest .. => true | .stringRef .. => true | .arrayOver (.object _) => true | _ => false)
theorem gword_go {w : Jvm.Cond} (hw : gword w = true) {s U : State} {args a' : Array Value} (hW : s.WarmedH U.vm) (h : w.before args s = true) : w.before a' U = true := by
  unfold gword at hw
  rcases Bool.or_eq_true_iff.mp hw with h1 | h1
  · exact word_at hW (good_of_word h1) h
  · split at h1
    · exact (va_Nw.warmF hW (va_Nw.of rfl h)).use rfl
    · exact (va_Nw.warmM hW (va_Nw.of rfl h)).use rfl
    · have h2 := Cond.stringRef_warmed hW h
      simp only [Cond.before, Cond.holds, Cond.value, State.names, State.poolOf?, State.resolvedAt?, State.vm_setVm] at h2 ⊢
      exact h2
    · exact va_AO.use (va_AO.moved hW.alike (va_AO.of h))
    · cases h1
/-- the words that hold on -/
def lw_t2 : List Jvm.Cond := lw_tbl.filter gword
theorem t2_in {w : Jvm.Cond} (h1 : w ∈ lw_tbl) (h2 : gword w = true) : w ∈ lw_t2 := List.mem_filter.mpr ⟨h1, h2⟩
theorem lw_go {s U : State} {args a' : Array Value} (hW : s.WarmedH U.vm) (hts : ∀ w ∈ lw_t2, w.before args s = true) : ∀ w ∈ lw_t2, w.before a' U = true := fun w hw => gword_go (List.mem_filter.mp hw).2 hW (hts w hw)
end
