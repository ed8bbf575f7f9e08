/-! the constructors as tables -/
noncomputable def kPIL : List (List (Nat × Instr)) := [[(0, .aload_n 0), (1, .invokespecial 3), (4, .aload_n 0), (5, .bipush 40), (7, .anewarray 9), (10, .putfield 11), (13, .aload_n 0), (14, .iconst 0), (15, .putfield 17), (18, .aload_n 0), (19, .iconst 0), (20, .putfield 21), (23, .iconst 0), (24, .istore_n 1), (25, .iload_n 1), (26, .bipush 40), (28, .if_icmp .ge 22), (31, .aload_n 0), (32, .getfield 11), (35, .iload_n 1), (36, .new 9), (39, .dup), (40, .invokespecial 24), (43, .aastore), (44, .iinc 1 1), (47, .goto (-22)), (50, .return_)], [(0, .aload_n 0), (1, .invokespecial 3), (4, .aload_n 0), (5, .iconst 0), (6, .putfield 9), (9, .aload_n 0), (10, .iconst 0), (11, .putfield 15), (14, .aload_n 0), (15, .iconst 0), (16, .putfield 18), (19, .aload_n 0), (20, .bipush 6), (22, .newarray .int), (24, .putfield 21), (27, .aload_n 0), (28, .new 25), (31, .dup), (32, .invokespecial 27), (35, .putfield 28), (38, .return_)], [(0, .aload_n 0), (1, .invokespecial 3), (4, .aload_n 0), (5, .iconst 4), (6, .newarray .int), (8, .putfield 11), (11, .aload_n 0), (12, .bipush 6), (14, .iconst 4), (15, .multianewarray 15 2), (19, .putfield 17), (22, .aload_n 0), (23, .iconst 4), (24, .newarray .boolean), (26, .putfield 20), (29, .aload_n 0), (30, .iconst 0), (31, .putfield 24), (34, .aload_n 0), (35, .iconst 0), (36, .putfield 28), (39, .aload_n 0), (40, .aload_n 1), (41, .putfield 32), (44, .return_)], [(0, .aload_n 0), (1, .invokespecial 3), (4, .aload_n 0), (5, .iconst 4), (6, .sipush 242), (9, .multianewarray 11 2), (13, .putfield 13), (16, .aload_n 0), (17, .iconst 4), (18, .newarray .int), (20, .putfield 18), (23, .aload_n 0), (24, .bipush 64), (26, .newarray .int), (28, .putfield 22), (31, .aload_n 0), (32, .bipush 6), (34, .newarray .int), (36, .putfield 25), (39, .aload_n 0), (40, .iconst 0), (41, .putfield 28), (44, .aload_n 0), (45, .iconst (-1)), (46, .putfield 32), (49, .return_)], [(0, .aload_n 0), (1, .invokespecial 3), (4, .aload_n 0), (5, .sipush 242), (8, .newarray .int), (10, .putfield 11), (13, .aload_n 0), (14, .iconst 0), (15, .putfield 15), (18, .aload_n 0), (19, .aload_n 1), (20, .putfield 19), (23, .return_)], [(0, .aload_n 0), (1, .invokespecial 3), (4, .aload_n 0), (5, .bipush 6), (7, .newarray .int), (9, .putfield 9), (12, .aload_n 0), (13, .bipush 6), (15, .newarray .int), (17, .putfield 15), (20, .aload_n 0), (21, .bipush 6), (23, .newarray .int), (25, .putfield 18), (28, .aload_n 0), (29, .bipush 6), (31, .newarray .int), (33, .putfield 21), (36, .aload_n 0), (37, .bipush 6), (39, .newarray .int), (41, .putfield 24), (44, .aload_n 0), (45, .bipush 60), (47, .newarray .int), (49, .putfield 27), (52, .aload_n 0), (53, .bipush 60), (55, .newarray .int), (57, .putfield 30), (60, .aload_n 0), (61, .iconst 0), (62, .putfield 33), (65, .aload_n 0), (66, .iconst 0), (67, .putfield 37), (70, .aload_n 0), (71, .iconst 0), (72, .putfield 40), (75, .aload_n 0), (76, .aload_n 1), (77, .putfield 43), (80, .aload_n 0), (81, .aload_n 2), (82, .putfield 47), (85, .return_)], [(0, .aload_n 0), (1, .invokespecial 3), (4, .aload_n 0), (5, .bipush 10), (7, .newarray .int), (9, .putfield 9), (12, .aload_n 0), (13, .bipush 10), (15, .newarray .int), (17, .putfield 15), (20, .aload_n 0), (21, .bipush 10), (23, .newarray .boolean), (25, .putfield 18), (28, .aload_n 0), (29, .iconst 0), (30, .putfield 22), (33, .return_)], [(0, .aload_n 0), (1, .invokespecial 3), (4, .aload_n 0), (5, .bipush 6), (7, .newarray .int), (9, .putfield 9), (12, .aload_n 0), (13, .bipush 6), (15, .newarray .int), (17, .putfield 15), (20, .aload_n 0), (21, .bipush 10), (23, .newarray .int), (25, .putfield 18), (28, .aload_n 0), (29, .bipush 10), (31, .newarray .int), (33, .putfield 21), (36, .aload_n 0), (37, .aload_n 1), (38, .putfield 24), (41, .aload_n 0), (42, .aload_n 2), (43, .putfield 28), (46, .return_)], [(0, .aload_n 0), (1, .invokespecial 3), (4, .aload_n 0), (5, .bipush 6), (7, .newarray .int), (9, .putfield 9), (12, .aload_n 0), (13, .bipush 6), (15, .newarray .int), (17, .putfield 15), (20, .aload_n 0), (21, .bipush 6), (23, .newarray .int), (25, .putfield 18), (28, .aload_n 0), (29, .bipush 6), (31, .newarray .int), (33, .putfield 21), (36, .aload_n 0), (37, .bipush 6), (39, .newarray .int), (41, .putfield 24), (44, .aload_n 0), (45, .bipush 6), (47, .newarray .int), (49, .putfield 27), (52, .aload_n 0), (53, .bipush 60), (55, .newarray .int), (57, .putfield 30), (60, .aload_n 0), (61, .iconst 0), (62, .putfield 33), (65, .aload_n 0), (66, .iconst 0), (67, .putfield 37), (70, .aload_n 0), (71, .iconst 0), (72, .putfield 40), (75, .return_)], [(0, .aload_n 0), (1, .invokespecial 3), (4, .aload_n 0), (5, .bipush 7), (7, .newarray .int), (9, .putfield 9), (12, .aload_n 0), (13, .bipush 60), (15, .newarray .int), (17, .putfield 15), (20, .aload_n 0), (21, .iconst 0), (22, .putfield 18), (25, .aload_n 0), (26, .aload_n 1), (27, .putfield 22), (30, .aload_n 0), (31, .aload_n 2), (32, .putfield 26), (35, .aload_n 0), (36, .aload_n 3), (37, .putfield 30), (40, .aload_n 0), (41, .aload 4), (43, .putfield 34), (46, .return_)], [(0, .aload_n 0), (1, .invokespecial 3), (4, .aload_n 0), (5, .sipush 240), (8, .newarray .int), (10, .putfield 9), (13, .aload_n 0), (14, .iconst 0), (15, .putfield 15), (18, .aload_n 0), (19, .iconst 0), (20, .putfield 19), (23, .return_)], [(0, .aload_n 0), (1, .invokespecial 1), (4, .aload_n 0), (5, .new 7), (8, .dup), (9, .invokespecial 9), (12, .putfield 10), (15, .aload_n 0), (16, .new 16), (19, .dup), (20, .aload_n 0), (21, .getfield 10), (24, .invokespecial 18), (27, .putfield 21), (30, .aload_n 0), (31, .new 25), (34, .dup), (35, .aload_n 0), (36, .getfield 10), (39, .invokespecial 27), (42, .putfield 28), (45, .aload_n 0), (46, .new 32), (49, .dup), (50, .invokespecial 34), (53, .putfield 35), (56, .aload_n 0), (57, .new 39), (60, .dup), (61, .invokespecial 41), (64, .putfield 42), (67, .aload_n 0), (68, .new 46), (71, .dup), (72, .invokespecial 48), (75, .putfield 49), (78, .aload_n 0), (79, .new 46), (82, .dup), (83, .invokespecial 48), (86, .putfield 53), (89, .aload_n 0), (90, .new 46), (93, .dup), (94, .invokespecial 48), (97, .putfield 56), (100, .aload_n 0), (101, .iconst 0), (102, .putfield 59), (105, .aload_n 0), (106, .new 63), (109, .dup), (110, .invokespecial 65), (113, .putfield 66), (116, .aload_n 0), (117, .new 70), (120, .dup), (121, .aload_n 0), (122, .getfield 42), (125, .aload_n 0), (126, .getfield 35), (129, .invokespecial 72), (132, .putfield 75), (135, .aload_n 0), (136, .new 79), (139, .dup), (140, .invokespecial 81), (143, .putfield 82), (146, .aload_n 0), (147, .new 79), (150, .dup), (151, .invokespecial 81), (154, .putfield 86), (157, .aload_n 0), (158, .new 89), (161, .dup), (162, .aload_n 0), (163, .getfield 42), (166, .aload_n 0), (167, .getfield 75), (170, .aload_n 0), (171, .getfield 82), (174, .aload_n 0), (175, .getfield 53), (178, .invokespecial 91), (181, .putfield 94), (184, .aload_n 0), (185, .new 98), (188, .dup), (189, .aload_n 0), (190, .getfield 42), (193, .aload_n 0), (194, .getfield 49), (197, .invokespecial 100), (200, .putfield 103), (203, .aload_n 0), (204, .iconst 5), (205, .newarray .int), (207, .putfield 107), (210, .aload_n 0), (211, .bipush 6), (213, .newarray .int), (215, .putfield 111), (218, .aload_n 0), (219, .bipush 32), (221, .newarray .int), (223, .putfield 114), (226, .aload_n 0), (227, .iconst 0), (228, .putfield 117), (231, .aload_n 0), (232, .lconst 0), (233, .putfield 121), (236, .return_)], [(0, .aload_n 0), (1, .invokespecial 3), (4, .aload_n 0), (5, .sipush 240), (8, .newarray .int), (10, .putfield 9), (13, .aload_n 0), (14, .sipush 2600), (17, .newarray .int), (19, .putfield 13), (22, .aload_n 0), (23, .sipush 2600), (26, .newarray .int), (28, .putfield 16), (31, .aload_n 0), (32, .iconst 5), (33, .newarray .int), (35, .putfield 19), (38, .aload_n 0), (39, .iconst 5), (40, .newarray .int), (42, .putfield 22), (45, .aload_n 0), (46, .sipush 700), (49, .newarray .int), (51, .putfield 25), (54, .aload_n 0), (55, .sipush 700), (58, .newarray .int), (60, .putfield 28), (63, .aload_n 0), (64, .sipush 700), (67, .newarray .int), (69, .putfield 31), (72, .aload_n 0), (73, .bipush 6), (75, .newarray .int), (77, .putfield 34), (80, .aload_n 0), (81, .bipush 80), (83, .newarray .int), (85, .putfield 37), (88, .aload_n 0), (89, .iconst 3), (90, .newarray .int), (92, .putfield 40), (95, .aload_n 0), (96, .bipush 24), (98, .newarray .int), (100, .putfield 43), (103, .aload_n 0), (104, .iconst 3), (105, .newarray .int), (107, .putfield 46), (110, .aload_n 0), (111, .bipush 24), (113, .newarray .int), (115, .putfield 49), (118, .aload_n 0), (119, .sipush 220), (122, .newarray .int), (124, .putfield 52), (127, .aload_n 0), (128, .iconst 5), (129, .newarray .int), (131, .putfield 55), (134, .aload_n 0), (135, .iconst (-1)), (136, .putfield 58), (139, .aload_n 0), (140, .bipush 60), (142, .newarray .int), (144, .putfield 62), (147, .aload_n 0), (148, .bipush 10), (150, .newarray .int), (152, .putfield 65), (155, .aload_n 0), (156, .bipush 6), (158, .newarray .int), (160, .putfield 68), (163, .aload_n 0), (164, .bipush 6), (166, .newarray .int), (168, .putfield 71), (171, .aload_n 0), (172, .bipush 6), (174, .newarray .int), (176, .putfield 74), (179, .aload_n 0), (180, .bipush 6), (182, .newarray .int), (184, .putfield 77), (187, .aload_n 0), (188, .sipush 8800), (191, .newarray .int), (193, .putfield 80), (196, .aload_n 0), (197, .bipush 6), (199, .newarray .int), (201, .putfield 83), (204, .aload_n 0), (205, .bipush 10), (207, .newarray .int), (209, .putfield 86), (212, .aload_n 0), (213, .bipush 10), (215, .newarray .int), (217, .putfield 89), (220, .aload_n 0), (221, .bipush 10), (223, .newarray .boolean), (225, .putfield 92), (228, .aload_n 0), (229, .bipush 39), (231, .newarray .int), (233, .putfield 96), (236, .aload_n 0), (237, .bipush 60), (239, .newarray .int), (241, .putfield 99), (244, .aload_n 0), (245, .bipush 10), (247, .newarray .int), (249, .putfield 102), (252, .aload_n 0), (253, .bipush 10), (255, .newarray .int), (257, .putfield 105), (260, .aload_n 0), (261, .bipush 10), (263, .newarray .boolean), (265, .putfield 108), (268, .aload_n 0), (269, .sipush 220), (272, .newarray .int), (274, .putfield 111), (277, .return_)]]
noncomputable def kfi {α : Type} (L : List (List (Nat × α))) (c i : Nat) : Option α := match (L.getD c []).find? (fun p => p.1 == i) with
  | some p => some p.2
  | none => none
noncomputable def kPI (m pc : Nat) : Option Instr := kfi kPIL m pc
noncomputable def kMLL : List Nat := [2, 1, 2, 1, 2, 3, 1, 3, 1, 5, 1, 1, 1]
noncomputable def kML (m : Nat) : Nat := kMLL.getD m 1
noncomputable def kMYL : List MethodName := [yX0_init, yX1_init, yX2_init, yX3_init, yX4_init, yX5_init, yX6_init, yX7_init, yX8_init, yX9_init, yX10_init, yX11_init, yX12_init]
noncomputable def kMY (m : Nat) : MethodName := kMYL.getD m ⟨"", "", ""⟩
noncomputable def kMCL : List ByteArray := [cX0_init, cX1_init, cX2_init, cX3_init, cX4_init, cX5_init, cX6_init, cX7_init, cX8_init, cX9_init, cX10_init, cX11_init, cX12_init]
noncomputable def kMC (m : Nat) : ByteArray := kMCL.getD m ⟨#[]⟩
noncomputable def kDfL : List (List (Option zV)) := [[none, some (.inl (0)), some (.inl (0))], [some (.inl (0)), some (.inl (0)), some (.inl (0)), none, none], [none, none, none, none, some (.inl (0)), some (.inl (0))], [none, none, none, none, some (.inl (0)), some (.inl (0))], [none, none, some (.inl (0))], [none, none, none, none, none, none, none, none, none, some (.inl (0)), some (.inl (0)), some (.inl (0))], [none, none, none, some (.inl (0))], [none, none, none, none, none, none], [none, none, none, none, none, none, none, some (.inl (0)), some (.inl (0)), some (.inl (0))], [none, none, none, none, none, none, some (.inl (0))], [none, some (.inl (0)), some (.inl (0))], [none, none, none, none, none, none, none, none, some (.inl (0)), none, none, none, none, none, none, none, none, none, some (.inl (0)), some (.inr (.inl 0))], [some (.inl (0)), none, some (.inl (0)), some (.inl (0)), some (.inl (0)), some (.inl (0)), none, none, none, none, none, none, none, some (.inl (0)), some (.inl (0)), none, none, none, none, some (.inl (0)), none, none, some (.inl (0)), none, none, some (.inl (0)), some (.inl (0)), none, none, none, none, none, none, some (.inl (0)), some (.inl (0)), some (.inl (0)), some (.inl (0)), some (.inl (0)), none, some (.inl (0)), some (.inr (.inl 0)), some (.inl (0)), some (.inl (0)), none, none, none, none, some (.inl (0)), none, none, none, none, none, some (.inl (0)), none, some (.inl (0))]]
noncomputable def kDf (c : Nat) : List (Option zV) := kDfL.getD c []
noncomputable def kTyL : List (List Nat) := [[3, 0, 0], [0, 0, 0, 3, 3], [3, 3, 3, 3, 0, 1], [3, 3, 3, 3, 0, 0], [3, 3, 0], [3, 3, 3, 3, 3, 3, 3, 3, 3, 0, 0, 0], [3, 3, 3, 0], [3, 3, 3, 3, 3, 3], [3, 3, 3, 3, 3, 3, 3, 0, 0, 0], [3, 3, 3, 3, 3, 3, 0], [3, 0, 0], [3, 3, 3, 3, 3, 3, 3, 3, 1, 3, 3, 3, 3, 3, 3, 3, 3, 3, 0, 2], [0, 3, 0, 0, 0, 0, 3, 3, 3, 3, 3, 3, 3, 0, 0, 3, 3, 3, 3, 0, 3, 3, 0, 3, 3, 0, 0, 3, 3, 3, 3, 3, 3, 0, 0, 0, 0, 0, 3, 0, 2, 0, 0, 3, 3, 3, 3, 0, 3, 3, 3, 3, 3, 0, 3, 1]]
noncomputable def kTy (c i : Nat) : Nat := (kTyL.getD c []).getD i 9
noncomputable def kNwL : List (List (Nat × Nat)) := [[(9, 8)], [(25, 8)], [], [], [], [], [], [], [], [], [], [(7, 10), (16, 2), (25, 4), (32, 3), (39, 1), (46, 8), (63, 0), (70, 5), (79, 6), (89, 9), (98, 7)], []]
noncomputable def kNwP : List (List Nat) := [[305], [216], [], [], [], [], [], [], [], [], [], [139, 155, 175, 189, 211, 298, 299, 313, 353, 374, 396], []]
noncomputable def kNw (m i : Nat) : Option Nat := kfi kNwL m i
noncomputable def kFlL : List (List (Nat × Nat × Nat)) := [[(11, (0, 0)), (17, (0, 1)), (21, (0, 2))], [(9, (1, 0)), (15, (1, 1)), (18, (1, 2)), (21, (1, 3)), (28, (1, 4))], [(11, (2, 1)), (17, (2, 2)), (20, (2, 3)), (24, (2, 4)), (28, (2, 5)), (32, (2, 0))], [(13, (3, 0)), (18, (3, 1)), (22, (3, 2)), (25, (3, 3)), (28, (3, 4)), (32, (3, 5))], [(11, (4, 1)), (15, (4, 2)), (19, (4, 0))], [(9, (5, 2)), (15, (5, 3)), (18, (5, 4)), (21, (5, 5)), (24, (5, 6)), (27, (5, 7)), (30, (5, 8)), (33, (5, 9)), (37, (5, 10)), (40, (5, 11)), (43, (5, 0)), (47, (5, 1))], [(9, (6, 0)), (15, (6, 1)), (18, (6, 2)), (22, (6, 3))], [(9, (7, 2)), (15, (7, 3)), (18, (7, 4)), (21, (7, 5)), (24, (7, 0)), (28, (7, 1))], [(9, (8, 0)), (15, (8, 1)), (18, (8, 2)), (21, (8, 3)), (24, (8, 4)), (27, (8, 5)), (30, (8, 6)), (33, (8, 7)), (37, (8, 8)), (40, (8, 9))], [(9, (9, 4)), (15, (9, 5)), (18, (9, 6)), (22, (9, 0)), (26, (9, 1)), (30, (9, 2)), (34, (9, 3))], [(9, (10, 0)), (15, (10, 1)), (19, (10, 2))], [(10, (11, 0)), (21, (11, 1)), (28, (11, 2)), (35, (11, 3)), (42, (11, 4)), (49, (11, 5)), (53, (11, 6)), (56, (11, 7)), (59, (11, 8)), (66, (11, 9)), (75, (11, 10)), (82, (11, 11)), (86, (11, 12)), (94, (11, 13)), (103, (11, 14)), (107, (11, 15)), (111, (11, 16)), (114, (11, 17)), (117, (11, 18)), (121, (11, 19))], [(9, (12, 1)), (13, (12, 6)), (16, (12, 7)), (19, (12, 8)), (22, (12, 9)), (25, (12, 10)), (28, (12, 11)), (31, (12, 12)), (34, (12, 15)), (37, (12, 16)), (40, (12, 17)), (43, (12, 18)), (46, (12, 20)), (49, (12, 21)), (52, (12, 23)), (55, (12, 24)), (58, (12, 25)), (62, (12, 27)), (65, (12, 28)), (68, (12, 29)), (71, (12, 30)), (74, (12, 31)), (77, (12, 32)), (80, (12, 38)), (83, (12, 43)), (86, (12, 44)), (89, (12, 45)), (92, (12, 46)), (96, (12, 48)), (99, (12, 49)), (102, (12, 50)), (105, (12, 51)), (108, (12, 52)), (111, (12, 54))]]
noncomputable def kFlP : List (List Nat) := [[306, 307, 308], [268, 274, 280, 284, 289], [163, 164, 165, 166, 167, 162], [195, 196, 197, 198, 200, 202], [182, 184, 181], [321, 323, 325, 328, 330, 332, 334, 336, 338, 340, 319, 320], [358, 361, 364, 367], [404, 405, 406, 407, 402, 403], [221, 226, 230, 235, 238, 241, 245, 248, 252, 255], [384, 386, 387, 380, 381, 382, 383], [144, 145, 147], [414, 415, 416, 417, 418, 419, 420, 421, 422, 423, 424, 425, 426, 427, 428, 429, 430, 431, 432, 433], [1023, 1028, 1029, 1030, 1031, 1032, 1033, 1034, 1037, 1038, 1039, 1040, 1042, 1043, 1045, 1046, 1047, 1049, 1050, 1051, 1052, 1053, 1054, 1060, 1065, 1066, 1067, 1068, 1070, 1071, 1072, 1073, 1074, 1076]]
noncomputable def kFl (m i : Nat) : Option (Nat × Nat) := kfi kFlL m i
noncomputable def kQaL : List (List (Nat × Nat)) := [[(9, 0)], [], [], [], [], [], [], [], [], [], [], [], []]
noncomputable def kQaP : List (List Nat) := [[305], [], [], [], [], [], [], [], [], [], [], [], []]
noncomputable def kQa (m i : Nat) : Bool := (kfi kQaL m i).isSome
noncomputable def kGaL : List (List (Nat × Nat)) := [[], [], [(15, 0)], [(11, 0)], [], [], [], [], [], [], [], [], []]
noncomputable def kGaP : List (List Nat) := [[], [], [161], [194], [], [], [], [], [], [], [], [], []]
noncomputable def kGa (m i : Nat) : Bool := (kfi kGaL m i).isSome
noncomputable def kClL : List (List (Nat × Nat × Nat × Bool)) := [[(3, (99, 1, false)), (24, (8, 1, true))], [(3, (99, 1, false)), (27, (8, 1, true))], [(3, (99, 1, false))], [(3, (99, 1, false))], [(3, (99, 1, false))], [(3, (99, 1, false))], [(3, (99, 1, false))], [(3, (99, 1, false))], [(3, (99, 1, false))], [(3, (99, 1, false))], [(3, (99, 1, false))], [(1, (99, 1, false)), (9, (10, 1, true)), (18, (2, 2, false)), (27, (4, 2, false)), (34, (3, 1, true)), (41, (1, 1, true)), (48, (8, 1, true)), (65, (0, 1, false)), (72, (5, 3, false)), (81, (6, 1, true)), (91, (9, 5, false)), (100, (7, 3, false))], [(3, (99, 1, false))]]
noncomputable def kClP : List (List Nat) := [[304, 9999], [215, 9999], [160], [193], [180], [318], [357], [401], [220], [379], [143], [136, 9999, 157, 177, 9999, 9999, 9999, 301, 315, 9999, 376, 398], [1021]]
noncomputable def kCl (m i : Nat) : Option (Nat × Nat × Bool) := kfi kClL m i
theorem kMY_cls {m : Nat} (h : m < 13) : (kMY m).cls = (vwCl.getD m ("", TX0, 0)).1 := of_decide_eq_true (yAll (f := fun m => decide ((kMY m).cls = (vwCl.getD m ("", TX0, 0)).1)) (n := 13) (by decide +kernel) h)
noncomputable def kCn (c : Nat) : String := (vwCl.getD c ("", TX0, 0)).1
noncomputable def kTp (c : Nat) : Nat → FieldType := match c with
  | 0 => tyX0
  | 1 => tyX1
  | 2 => tyX2
  | 3 => tyX3
  | 4 => tyX4
  | 5 => tyX5
  | 6 => tyX6
  | 7 => tyX7
  | 8 => tyX8
  | 9 => tyX9
  | 10 => tyX10
  | 11 => tyX11
  | _ => tyX12
theorem kCls : ∀ (ci : Nat) (q : vw_C), vwCl[ci]? = some q → zCls yALL ci q.1 q.2.1 q.2.2 (kTp ci) := by
  intro ci q hq
  match ci, hq with
  | 0, hq => cases hq; exact ⟨rfl, yu0, tyX0_ok, nmX0⟩
  | 1, hq => cases hq; exact ⟨rfl, yu1, tyX1_ok, nmX1⟩
  | 2, hq => cases hq; exact ⟨rfl, yu2, tyX2_ok, nmX2⟩
  | 3, hq => cases hq; exact ⟨rfl, yu3, tyX3_ok, nmX3⟩
  | 4, hq => cases hq; exact ⟨rfl, yu4, tyX4_ok, nmX4⟩
  | 5, hq => cases hq; exact ⟨rfl, yu5, tyX5_ok, nmX5⟩
  | 6, hq => cases hq; exact ⟨rfl, yu6, tyX6_ok, nmX6⟩
  | 7, hq => cases hq; exact ⟨rfl, yu7, tyX7_ok, nmX7⟩
  | 8, hq => cases hq; exact ⟨rfl, yu8, tyX8_ok, nmX8⟩
  | 9, hq => cases hq; exact ⟨rfl, yu9, tyX9_ok, nmX9⟩
  | 10, hq => cases hq; exact ⟨rfl, yu10, tyX10_ok, nmX10⟩
  | 11, hq => cases hq; exact ⟨rfl, yu11, tyX11_ok, nmX11⟩
  | 12, hq => cases hq; exact ⟨rfl, yu12, tyX12_ok, nmX12⟩
  | k + 13, hq => simp [vwCl] at hq
theorem kdf0 : ∀ (ad : Nat → Nat) (j : Nat), j < 3 → defaultValue (tyX0 j) = vp_V ((kDf 0).map (kv ad)) j
  | _, 0, _ => rfl
  | _, 1, _ => rfl
  | _, 2, _ => rfl
  | _, j + 3, h => absurd h (by omega)
theorem kdf1 : ∀ (ad : Nat → Nat) (j : Nat), j < 5 → defaultValue (tyX1 j) = vp_V ((kDf 1).map (kv ad)) j
  | _, 0, _ => rfl
  | _, 1, _ => rfl
  | _, 2, _ => rfl
  | _, 3, _ => rfl
  | _, 4, _ => rfl
  | _, j + 5, h => absurd h (by omega)
theorem kdf2 : ∀ (ad : Nat → Nat) (j : Nat), j < 6 → defaultValue (tyX2 j) = vp_V ((kDf 2).map (kv ad)) j
  | _, 0, _ => rfl
  | _, 1, _ => rfl
  | _, 2, _ => rfl
  | _, 3, _ => rfl
  | _, 4, _ => rfl
  | _, 5, _ => rfl
  | _, j + 6, h => absurd h (by omega)
theorem kdf3 : ∀ (ad : Nat → Nat) (j : Nat), j < 6 → defaultValue (tyX3 j) = vp_V ((kDf 3).map (kv ad)) j
  | _, 0, _ => rfl
  | _, 1, _ => rfl
  | _, 2, _ => rfl
  | _, 3, _ => rfl
  | _, 4, _ => rfl
  | _, 5, _ => rfl
  | _, j + 6, h => absurd h (by omega)
theorem kdf4 : ∀ (ad : Nat → Nat) (j : Nat), j < 3 → defaultValue (tyX4 j) = vp_V ((kDf 4).map (kv ad)) j
  | _, 0, _ => rfl
  | _, 1, _ => rfl
  | _, 2, _ => rfl
  | _, j + 3, h => absurd h (by omega)
theorem kdf5 : ∀ (ad : Nat → Nat) (j : Nat), j < 12 → defaultValue (tyX5 j) = vp_V ((kDf 5).map (kv ad)) j
  | _, 0, _ => rfl
  | _, 1, _ => rfl
  | _, 2, _ => rfl
  | _, 3, _ => rfl
  | _, 4, _ => rfl
  | _, 5, _ => rfl
  | _, 6, _ => rfl
  | _, 7, _ => rfl
  | _, 8, _ => rfl
  | _, 9, _ => rfl
  | _, 10, _ => rfl
  | _, 11, _ => rfl
  | _, j + 12, h => absurd h (by omega)
theorem kdf6 : ∀ (ad : Nat → Nat) (j : Nat), j < 4 → defaultValue (tyX6 j) = vp_V ((kDf 6).map (kv ad)) j
  | _, 0, _ => rfl
  | _, 1, _ => rfl
  | _, 2, _ => rfl
  | _, 3, _ => rfl
  | _, j + 4, h => absurd h (by omega)
theorem kdf7 : ∀ (ad : Nat → Nat) (j : Nat), j < 6 → defaultValue (tyX7 j) = vp_V ((kDf 7).map (kv ad)) j
  | _, 0, _ => rfl
  | _, 1, _ => rfl
  | _, 2, _ => rfl
  | _, 3, _ => rfl
  | _, 4, _ => rfl
  | _, 5, _ => rfl
  | _, j + 6, h => absurd h (by omega)
theorem kdf8 : ∀ (ad : Nat → Nat) (j : Nat), j < 10 → defaultValue (tyX8 j) = vp_V ((kDf 8).map (kv ad)) j
  | _, 0, _ => rfl
  | _, 1, _ => rfl
  | _, 2, _ => rfl
  | _, 3, _ => rfl
  | _, 4, _ => rfl
  | _, 5, _ => rfl
  | _, 6, _ => rfl
  | _, 7, _ => rfl
  | _, 8, _ => rfl
  | _, 9, _ => rfl
  | _, j + 10, h => absurd h (by omega)
theorem kdf9 : ∀ (ad : Nat → Nat) (j : Nat), j < 7 → defaultValue (tyX9 j) = vp_V ((kDf 9).map (kv ad)) j
  | _, 0, _ => rfl
  | _, 1, _ => rfl
  | _, 2, _ => rfl
  | _, 3, _ => rfl
  | _, 4, _ => rfl
  | _, 5, _ => rfl
  | _, 6, _ => rfl
  | _, j + 7, h => absurd h (by omega)
theorem kdf10 : ∀ (ad : Nat → Nat) (j : Nat), j < 3 → defaultValue (tyX10 j) = vp_V ((kDf 10).map (kv ad)) j
  | _, 0, _ => rfl
  | _, 1, _ => rfl
  | _, 2, _ => rfl
  | _, j + 3, h => absurd h (by omega)
theorem kdf11 : ∀ (ad : Nat → Nat) (j : Nat), j < 20 → defaultValue (tyX11 j) = vp_V ((kDf 11).map (kv ad)) j
  | _, 0, _ => rfl
  | _, 1, _ => rfl
  | _, 2, _ => rfl
  | _, 3, _ => rfl
  | _, 4, _ => rfl
  | _, 5, _ => rfl
  | _, 6, _ => rfl
  | _, 7, _ => rfl
  | _, 8, _ => rfl
  | _, 9, _ => rfl
  | _, 10, _ => rfl
  | _, 11, _ => rfl
  | _, 12, _ => rfl
  | _, 13, _ => rfl
  | _, 14, _ => rfl
  | _, 15, _ => rfl
  | _, 16, _ => rfl
  | _, 17, _ => rfl
  | _, 18, _ => rfl
  | _, 19, _ => rfl
  | _, j + 20, h => absurd h (by omega)
theorem kdf12 : ∀ (ad : Nat → Nat) (j : Nat), j < 56 → defaultValue (tyX12 j) = vp_V ((kDf 12).map (kv ad)) j
  | _, 0, _ => rfl
  | _, 1, _ => rfl
  | _, 2, _ => rfl
  | _, 3, _ => rfl
  | _, 4, _ => rfl
  | _, 5, _ => rfl
  | _, 6, _ => rfl
  | _, 7, _ => rfl
  | _, 8, _ => rfl
  | _, 9, _ => rfl
  | _, 10, _ => rfl
  | _, 11, _ => rfl
  | _, 12, _ => rfl
  | _, 13, _ => rfl
  | _, 14, _ => rfl
  | _, 15, _ => rfl
  | _, 16, _ => rfl
  | _, 17, _ => rfl
  | _, 18, _ => rfl
  | _, 19, _ => rfl
  | _, 20, _ => rfl
  | _, 21, _ => rfl
  | _, 22, _ => rfl
  | _, 23, _ => rfl
  | _, 24, _ => rfl
  | _, 25, _ => rfl
  | _, 26, _ => rfl
  | _, 27, _ => rfl
  | _, 28, _ => rfl
  | _, 29, _ => rfl
  | _, 30, _ => rfl
  | _, 31, _ => rfl
  | _, 32, _ => rfl
  | _, 33, _ => rfl
  | _, 34, _ => rfl
  | _, 35, _ => rfl
  | _, 36, _ => rfl
  | _, 37, _ => rfl
  | _, 38, _ => rfl
  | _, 39, _ => rfl
  | _, 40, _ => rfl
  | _, 41, _ => rfl
  | _, 42, _ => rfl
  | _, 43, _ => rfl
  | _, 44, _ => rfl
  | _, 45, _ => rfl
  | _, 46, _ => rfl
  | _, 47, _ => rfl
  | _, 48, _ => rfl
  | _, 49, _ => rfl
  | _, 50, _ => rfl
  | _, 51, _ => rfl
  | _, 52, _ => rfl
  | _, 53, _ => rfl
  | _, 54, _ => rfl
  | _, 55, _ => rfl
  | _, j + 56, h => absurd h (by omega)
theorem kdf : ∀ (ci : Nat) (q : vw_C), vwCl[ci]? = some q → ∀ (ad : Nat → Nat) (j : Nat), j < q.2.2 → defaultValue (kTp ci j) = vp_V ((kDf ci).map (kv ad)) j := by
  intro ci q hq
  match ci, hq with
  | 0, hq => cases hq; exact kdf0
  | 1, hq => cases hq; exact kdf1
  | 2, hq => cases hq; exact kdf2
  | 3, hq => cases hq; exact kdf3
  | 4, hq => cases hq; exact kdf4
  | 5, hq => cases hq; exact kdf5
  | 6, hq => cases hq; exact kdf6
  | 7, hq => cases hq; exact kdf7
  | 8, hq => cases hq; exact kdf8
  | 9, hq => cases hq; exact kdf9
  | 10, hq => cases hq; exact kdf10
  | 11, hq => cases hq; exact kdf11
  | 12, hq => cases hq; exact kdf12
  | k + 13, hq => simp [vwCl] at hq
noncomputable def kNwF (c i v q : Nat) : Bool := match vwCl[v]? with
  | some (C, _, Nf) => yhas q (.classLink (kCn c) i C) && (yhas (([300, 212, 156, 190, 176, 314, 354, 397, 217, 375, 140, 132, 1017] : List Nat).getD v 0) (.instantiable C Nf) && (yhas (([116, 114, 111, 113, 112, 117, 118, 120, 115, 119, 110, 109, 121] : List Nat).getD v 0) (.initialized C) && decide ((kDf v).length = Nf)))
  | none => false
theorem kNw_ok : ytabk kNwF kNwL kNwP = true := by decide +kernel
noncomputable def kfb (t : Nat) (ty : FieldType) : Bool := match t with
  | 0 => decide (ty = .int)
  | 1 => decide (ty = .boolean)
  | 2 => decide (ty = .long)
  | _ => kref ty
theorem kfb_ok {t : Nat} {ty : FieldType} (h : kfb t ty = true) : kft t ty := by
  match t, h with
  | 0, h => exact (of_decide_eq_true (p := ty = .int) h)
  | 1, h => exact (of_decide_eq_true (p := ty = .boolean) h)
  | 2, h => exact (of_decide_eq_true (p := ty = .long) h)
  | _ + 3, h => exact h
noncomputable def kFlF (c i : Nat) (v : Nat × Nat) (q : Nat) : Bool := match vwCl[v.1]? with
  | some (_, T, Nf) => decide (v.2 < Nf) && (yhas q (.fieldLink (kCn c) i (T v.2).1 (T v.2).2.1 (T v.2).2.2.1) && ((match parseFieldDescriptor (T v.2).2.2.1 with
    | some ty => kfb (kTy v.1 v.2) ty
    | none => false) && (!(T v.2).2.2.2 || decide ((T v.2).1 = kCn c))))
  | none => false
set_option maxRecDepth 20000 in
theorem kFl_ok : ytabk kFlF kFlL kFlP = true := by decide +kernel
theorem kQa_ok : ytabk (fun c i (_ : Nat) q => yhas q (.classLink (kCn c) i RX8)) kQaL kQaP = true := by decide +kernel
theorem kGa_ok : ytabk (fun c i (_ : Nat) q => yhas q (.classLink (kCn c) i "[[I")) kGaL kGaP = true := by decide +kernel
noncomputable def kClF (c i : Nat) (v : Nat × Nat × Bool) (q : Nat) : Bool := if v.1 = 99 then yhas q (.methodLink (kCn c) i objectInit) else
  yhas (([303, 214, 159, 192, 179, 317, 356, 400, 219, 378, 142, 135, 1020] : List Nat).getD v.1 0) (.code (kMY v.1) (kMC v.1) (kML v.1) none) && (plainName (kMY v.1).cls && (decide (kML v.1 ≤ 21) && (decide ((kMY v.1).name = "<init>") && (yhas (([116, 114, 111, 113, 112, 117, 118, 120, 115, 119, 110, 109, 121] : List Nat).getD v.1 0) (.initialized (kMY v.1).cls) && (yhas (([302, 213, 158, 191, 178, 316, 355, 399, 218, 377, 141, 134, 1019] : List Nat).getD v.1 0) (.instanceMethod (kMY v.1)) && (decide ((kMY v.1).cls ≠ "java/lang/invoke/MethodHandle") && (decide ((kMY v.1).cls ≠ "java/lang/invoke/VarHandle") && (decide ((parseMethodDescriptor (kMY v.1).desc).map (fun d => d.parameters.length) = some (v.2.1 - 1)) && (decide (0 < v.2.1) && (if v.2.2 = true then decide (Cond.methodLinkNest (kCn c) i (kMY v.1) RX11 ∈ kNest) else yhas q (.methodLink (kCn c) i (kMY v.1))))))))))))
set_option maxRecDepth 20000 in
theorem kCl_ok : ytabk kClF kClL kClP = true := by decide +kernel
theorem klt {α : Type} {L : List (List (Nat × α))} (hL : L.length = 13) {m i : Nat} {v : α} (h : kfi L m i = some v) : m < 13 ∧ m < L.length ∧ (i, v) ∈ L.getD m [] ∧ (kMY m).cls = kCn m := by
  unfold kfi at h
  cases hf : (L.getD m []).find? (fun p => p.1 == i) with
  | none => rw [hf] at h; cases h
  | some p =>
    rw [hf] at h
    obtain ⟨h1, h2⟩ := yfnd0 hf (Option.some.inj h)
    exact ⟨by omega, h1, h2, kMY_cls (by omega)⟩
theorem kOkN_ok : kOkN kMY kNw kDf yALL := by
  intro m idx ci h
  obtain ⟨-, h1, h2, h3⟩ := klt (L := kNwL) rfl h
  obtain ⟨q, hq⟩ := ytabk_in kNw_ok h1 h2
  rw [h3]
  unfold kNwF at hq
  split at hq
  case h_1 C T Nf hv =>
    simp only [Bool.and_eq_true, decide_eq_true_eq] at hq
    exact ⟨C, T, Nf, kTp ci, kCls ci _ hv, yhas_in hq.1, yhas_in hq.2.1, yhas_in hq.2.2.1, hq.2.2.2, kdf ci _ hv⟩
  case h_2 => cases hq
theorem kOkF_ok : kOkF kMY kFl kTy yALL := by
  intro m idx ci fi h
  obtain ⟨-, h1, h2, h3⟩ := klt (L := kFlL) rfl h
  obtain ⟨q, hq⟩ := ytabk_in kFl_ok h1 h2
  rw [h3]
  unfold kFlF at hq
  simp only at hq
  split at hq
  case h_1 C T Nf hv =>
    simp only [Bool.and_eq_true, Bool.or_eq_true, Bool.not_eq_true', decide_eq_true_eq] at hq
    obtain ⟨a1, a2, a3, a4⟩ := hq
    refine ⟨C, T, Nf, kTp ci, kCls ci _ hv, a1, yhas_in a2, ?_, fun hf => ?_⟩
    · split at a3
      case h_1 ty ht => exact ⟨ty, ht, kfb_ok a3⟩
      case h_2 => cases a3
    · rcases a4 with a4 | a4
      · rw [hf] at a4; cases a4
      · exact a4
  case h_2 => cases hq
theorem kOkA_ok : kOkA kMY kQa kGa yALL := by
  refine ⟨fun m i h => ?_, fun m i h => ?_, yWat_in (i := 154) (by decide +kernel), yWat_in (i := 174) (by decide +kernel), yWat_in (i := 137) (by decide +kernel), yWat_in (i := 138) (by decide +kernel)⟩
  · obtain ⟨v, hv⟩ := Option.isSome_iff_exists.mp h
    obtain ⟨-, h1, h2, h3⟩ := klt (L := kQaL) rfl hv
    obtain ⟨q, hq⟩ := ytabk_in kQa_ok h1 h2
    rw [h3]
    exact yhas_in hq
  · obtain ⟨v, hv⟩ := Option.isSome_iff_exists.mp h
    obtain ⟨-, h1, h2, h3⟩ := klt (L := kGaL) rfl hv
    obtain ⟨q, hq⟩ := ytabk_in kGa_ok h1 h2
    rw [h3]
    exact yhas_in hq
theorem kOkC_ok : kOkC kMY kMC kML kCl yALL := by
  intro m idx callee na nest h
  obtain ⟨-, h1, h2, h3⟩ := klt (L := kClL) rfl h
  obtain ⟨q, hq⟩ := ytabk_in kCl_ok h1 h2
  rw [h3]
  unfold kClF at hq
  simp only at hq
  refine ⟨fun h99 => ?_, fun h99 => ?_⟩
  · rw [if_pos h99] at hq
    exact yhas_in hq
  · rw [if_neg h99] at hq
    simp only [Bool.and_eq_true, decide_eq_true_eq] at hq
    obtain ⟨a1, a2, a3, a4, a5, a6, a7, a8, a9, a10, a11⟩ := hq
    refine ⟨yhas_in a1, a2, a3, a4, yhas_in a5, yhas_in a6, a7, a8, a9, a10, fun hn => ?_, fun hn => ?_⟩
    · rw [if_neg (by rw [hn]; decide)] at a11
      exact yhas_in a11
    · rw [if_pos hn] at a11
      exact of_decide_eq_true a11
noncomputable def kdecM (m : Nat) : Bool := (kPIL.getD m []).all (fun p => zok (kML m) p.2 && decide (decode (kMC m) p.1 = .ok (p.2, klen p.2)))
set_option maxRecDepth 20000 in
theorem kdec_ok : (List.range 13).all kdecM = true := by decide +kernel
theorem kOkI_ok : kOkI kPI kMC kML := by
  intro m pc i h
  obtain ⟨h0, h1, h2, h3⟩ := klt (L := kPIL) rfl h
  have := List.all_eq_true.mp (yAll kdec_ok h0) _ h2
  rw [Bool.and_eq_true] at this
  exact ⟨this.1, of_decide_eq_true this.2⟩
