/-! ===== the methods and what their instructions name: tables by program ===== -/
def xfind : List (Nat × Instr) → Nat → Option Instr
  | [], _ => none
  | (a, o) :: r, p => bif Nat.beq a p then some o else xfind r p
def xfin {α : Type} : List (Nat × α) → Nat → Option α
  | [], _ => none
  | (a, o) :: r, p => bif Nat.beq a p then some o else xfin r p
/-- TemplateScopes$ByParts.<init>(LTemplateScopes$Rendering;)V -/
def xk_0 : List (Nat × Instr) := [(0, .aload_n 0), (1, .invokespecial 3), (4, .aload_n 0), (5, .aload_n 1), (6, .putfield 9), (9, .aload_n 0), (10, .aload_n 1), (11, .getfield 15), (14, .putfield 21), (17, .aload_n 0), (18, .aload_n 1), (19, .getfield 22), (22, .putfield 26), (25, .return_)]
/-- TemplateScopes$ByParts.runList(LTemplateScopes$Template;III)I -/
def xk_1 : List (Nat × Instr) := [(0, .iload 4), (2, .bipush 40), (4, .if_icmp .lt 5), (7, .iconst 4), (8, .ireturn), (9, .iload_n 2), (10, .istore 5), (12, .iconst 0), (13, .istore 6), (15, .iload 6), (17, .bipush 60), (19, .if_icmp .ge 61), (22, .iload 5), (24, .iload_n 3), (25, .if_icmp .ge 55), (28, .aload_n 0), (29, .aload_n 1), (30, .iload 5), (32, .iload 4), (34, .invokevirtual 27), (37, .istore 7), (39, .iload 7), (41, .ifCond .eq 25), (44, .aload_n 0), (45, .getfield 26), (48, .iload 7), (50, .aload_n 1), (51, .getfield 31), (54, .aload_n 1), (55, .iload 5), (57, .invokevirtual 37), (60, .invokevirtual 41), (63, .iload 7), (65, .ireturn), (66, .aload_n 1), (67, .iload 5), (69, .invokevirtual 47), (72, .istore 5), (74, .iinc 6 1), (77, .goto (-62)), (80, .iconst 0), (81, .ireturn)]
/-- TemplateScopes$ByParts.runPart(LTemplateScopes$Template;II)I -/
def xk_2 : List (Nat × Instr) := [(0, .aload_n 0), (1, .getfield 9), (4, .invokevirtual 50), (7, .istore 4), (9, .iload 4), (11, .ifCond .eq 6), (14, .iload 4), (16, .ireturn), (17, .aload_n 1), (18, .iload_n 2), (19, .invokevirtual 54), (22, .istore 5), (24, .iload 5), (26, .tableswitch 85 2 7 #[38, 38, 53, 61, 69, 77]), (64, .aload_n 0), (65, .getfield 9), (68, .aload_n 1), (69, .iload_n 2), (70, .invokevirtual 57), (73, .iload 5), (75, .invokevirtual 60), (78, .ireturn), (79, .aload_n 0), (80, .aload_n 1), (81, .iload_n 2), (82, .iload_n 3), (83, .invokevirtual 64), (86, .ireturn), (87, .aload_n 0), (88, .aload_n 1), (89, .iload_n 2), (90, .iload_n 3), (91, .invokevirtual 67), (94, .ireturn), (95, .aload_n 0), (96, .aload_n 1), (97, .iload_n 2), (98, .iload_n 3), (99, .invokevirtual 70), (102, .ireturn), (103, .aload_n 0), (104, .aload_n 1), (105, .iload_n 2), (106, .iload_n 3), (107, .invokevirtual 73), (110, .ireturn), (111, .aload_n 0), (112, .getfield 9), (115, .aload_n 1), (116, .iload_n 2), (117, .invokevirtual 76), (120, .iload 5), (122, .invokevirtual 79), (125, .ireturn)]
/-- TemplateScopes$ByParts.runIncluded(LTemplateScopes$Template;II)I -/
def xk_3 : List (Nat × Instr) := [(0, .aload_n 0), (1, .getfield 21), (4, .aload_n 1), (5, .iload_n 2), (6, .invokevirtual 57), (9, .invokevirtual 86), (12, .istore 4), (14, .iload 4), (16, .iconst (-1)), (17, .if_icmp .ne 5), (20, .iconst 1), (21, .ireturn), (22, .aload_n 1), (23, .getfield 91), (26, .astore 5), (28, .aload 5), (30, .ifnonnull 5), (33, .iconst 4), (34, .ireturn), (35, .aload 5), (37, .aload_n 0), (38, .getfield 21), (41, .getfield 95), (44, .iload 4), (46, .invokevirtual 99), (49, .aload_n 0), (50, .getfield 26), (53, .aload_n 1), (54, .getfield 31), (57, .aload_n 1), (58, .iload_n 2), (59, .invokevirtual 37), (62, .invokevirtual 103), (65, .aload 5), (67, .invokevirtual 107), (70, .ifCond .ne 23), (73, .aload_n 0), (74, .getfield 26), (77, .iconst 5), (78, .aload 5), (80, .getfield 31), (83, .aload 5), (85, .invokevirtual 111), (88, .invokevirtual 41), (91, .iconst 5), (92, .ireturn), (93, .aload_n 0), (94, .getfield 21), (97, .invokevirtual 114), (100, .ifCond .ne 5), (103, .iconst 4), (104, .ireturn), (105, .aload_n 0), (106, .aload 5), (108, .iconst 0), (109, .aload 5), (111, .invokevirtual 117), (114, .iload_n 3), (115, .iconst 1), (116, .iadd), (117, .invokevirtual 82), (120, .istore 6), (122, .aload_n 0), (123, .getfield 21), (126, .invokevirtual 120), (129, .iload 6), (131, .ireturn)]
/-- TemplateScopes$ByParts.runLoop(LTemplateScopes$Template;II)I -/
def xk_4 : List (Nat × Instr) := [(0, .aload_n 0), (1, .getfield 21), (4, .aload_n 1), (5, .iload_n 2), (6, .invokevirtual 57), (9, .invokevirtual 86), (12, .istore 4), (14, .iload 4), (16, .iconst (-1)), (17, .if_icmp .ne 5), (20, .iconst 1), (21, .ireturn), (22, .aload_n 0), (23, .getfield 21), (26, .getfield 95), (29, .iload 4), (31, .invokevirtual 123), (34, .istore 5), (36, .iconst 0), (37, .istore 6), (39, .iconst 0), (40, .istore 7), (42, .iload 7), (44, .iload 5), (46, .if_icmp .ge 46), (49, .iload 6), (51, .ifCond .ne 41), (54, .aload_n 0), (55, .getfield 21), (58, .iload 4), (60, .iload 7), (62, .invokevirtual 128), (65, .ifCond .ne 5), (68, .iconst 4), (69, .ireturn), (70, .aload_n 0), (71, .aload_n 1), (72, .iload_n 2), (73, .iload_n 3), (74, .invokevirtual 132), (77, .istore 6), (79, .aload_n 0), (80, .getfield 21), (83, .invokevirtual 120), (86, .iinc 7 1), (89, .goto (-47)), (92, .iload 6), (94, .ireturn)]
/-- TemplateScopes$ByParts.runWithin(LTemplateScopes$Template;II)I -/
def xk_5 : List (Nat × Instr) := [(0, .aload_n 0), (1, .aload_n 1), (2, .iload_n 2), (3, .iconst 1), (4, .iadd), (5, .aload_n 1), (6, .iload_n 2), (7, .invokevirtual 47), (10, .iload_n 3), (11, .iconst 1), (12, .iadd), (13, .invokevirtual 82), (16, .ireturn)]
/-- TemplateScopes$ByParts.runCondition(LTemplateScopes$Template;II)I -/
def xk_6 : List (Nat × Instr) := [(0, .aload_n 0), (1, .getfield 9), (4, .aload_n 1), (5, .iload_n 2), (6, .invokevirtual 57), (9, .invokevirtual 135), (12, .ifCond .ne 5), (15, .iconst 0), (16, .ireturn), (17, .aload_n 0), (18, .aload_n 1), (19, .iload_n 2), (20, .iload_n 3), (21, .invokevirtual 132), (24, .ireturn)]
/-- TemplateScopes$ByParts.runSetting(LTemplateScopes$Template;II)I -/
def xk_7 : List (Nat × Instr) := [(0, .aload_n 0), (1, .getfield 9), (4, .invokevirtual 139), (7, .istore 4), (9, .iload 4), (11, .ifCond .ne 12), (14, .aload_n 0), (15, .aload_n 1), (16, .iload_n 2), (17, .iload_n 3), (18, .invokevirtual 132), (21, .istore 4), (23, .iload 4), (25, .ifCond .ne 15), (28, .aload_n 0), (29, .getfield 9), (32, .aload_n 1), (33, .iload_n 2), (34, .invokevirtual 57), (37, .invokevirtual 142), (40, .iload 4), (42, .ireturn)]
/-- TemplateScopes$ByText.<init>(LTemplateScopes$Rendering;)V -/
def xk_8 : List (Nat × Instr) := [(0, .aload_n 0), (1, .invokespecial 3), (4, .aload_n 0), (5, .aload_n 1), (6, .putfield 9), (9, .aload_n 0), (10, .aload_n 1), (11, .getfield 15), (14, .putfield 21), (17, .aload_n 0), (18, .new 22), (21, .dup), (22, .iconst 0), (23, .aconst_null), (24, .invokespecial 24), (27, .putfield 27), (30, .aload_n 0), (31, .new 31), (34, .dup), (35, .iconst 5), (36, .bipush 60), (38, .invokespecial 33), (41, .putfield 36), (44, .aload_n 0), (45, .bipush 40), (47, .newarray .int), (49, .putfield 40), (52, .aload_n 0), (53, .bipush 40), (55, .newarray .int), (57, .putfield 44), (60, .aload_n 0), (61, .bipush 40), (63, .newarray .int), (65, .putfield 47), (68, .aload_n 0), (69, .bipush 40), (71, .newarray .int), (73, .putfield 50), (76, .aload_n 0), (77, .bipush 40), (79, .newarray .int), (81, .putfield 53), (84, .return_)]
/-- TemplateScopes$ByText.run(LTemplateScopes$Texts;)V -/
def xk_9 : List (Nat × Instr) := [(0, .aload_n 0), (1, .getfield 36), (4, .iconst 0), (5, .aload_n 1), (6, .iconst 0), (7, .invokevirtual 56), (10, .aload_n 0), (11, .iconst 0), (12, .putfield 60), (15, .aload_n 0), (16, .iconst 0), (17, .putfield 64), (20, .aload_n 0), (21, .iconst 0), (22, .putfield 67), (25, .iconst 1), (26, .istore_n 2), (27, .iconst 0), (28, .istore_n 3), (29, .iload_n 3), (30, .ldc 70), (32, .if_icmp .ge 85), (35, .iload_n 2), (36, .ifCond .eq 81), (39, .aload_n 0), (40, .getfield 64), (43, .aload_n 0), (44, .getfield 36), (47, .aload_n 0), (48, .getfield 60), (51, .invokevirtual 71), (54, .if_icmp .lt 26), (57, .aload_n 0), (58, .getfield 60), (61, .ifCond .le 14), (64, .aload_n 0), (65, .invokevirtual 75), (68, .ifCond .eq 7), (71, .iconst 1), (72, .goto 4), (75, .iconst 0), (76, .istore_n 2), (77, .goto 34), (80, .aload_n 0), (81, .iconst 0), (82, .invokevirtual 79), (85, .bipush 125), (87, .if_icmp .ne 11), (90, .aload_n 0), (91, .invokevirtual 82), (94, .istore_n 2), (95, .goto 16), (98, .aload_n 0), (99, .invokevirtual 85), (102, .ifCond .ne 7), (105, .iconst 1), (106, .goto 4), (109, .iconst 0), (110, .istore_n 2), (111, .iinc 3 1), (114, .goto (-85)), (117, .return_)]
/-- TemplateScopes$ByText.endIncluded()Z -/
def xk_10 : List (Nat × Instr) := [(0, .aload_n 0), (1, .getfield 67), (4, .iconst 1), (5, .isub), (6, .istore_n 1), (7, .iload_n 1), (8, .ifCond .lt 12), (11, .iload_n 1), (12, .aload_n 0), (13, .getfield 47), (16, .arraylength), (17, .if_icmp .lt 5), (20, .iconst 0), (21, .ireturn), (22, .aload_n 0), (23, .getfield 21), (26, .invokevirtual 137), (29, .aload_n 0), (30, .dup), (31, .getfield 60), (34, .iconst 1), (35, .isub), (36, .putfield 60), (39, .aload_n 0), (40, .aload_n 0), (41, .getfield 47), (44, .iload_n 1), (45, .iaload), (46, .putfield 64), (49, .aload_n 0), (50, .iload_n 1), (51, .putfield 67), (54, .iconst 1), (55, .ireturn)]
/-- TemplateScopes$ByText.codeAhead(I)I -/
def xk_11 : List (Nat × Instr) := [(0, .aload_n 0), (1, .getfield 36), (4, .aload_n 0), (5, .getfield 60), (8, .aload_n 0), (9, .getfield 64), (12, .iload_n 1), (13, .iadd), (14, .invokevirtual 89), (17, .ireturn)]
/-- TemplateScopes$ByText.endBlock()Z -/
def xk_12 : List (Nat × Instr) := [(0, .aload_n 0), (1, .getfield 67), (4, .iconst 1), (5, .isub), (6, .istore_n 1), (7, .iload_n 1), (8, .ifCond .lt 21), (11, .iload_n 1), (12, .aload_n 0), (13, .getfield 40), (16, .arraylength), (17, .if_icmp .ge 12), (20, .iload_n 1), (21, .aload_n 0), (22, .getfield 44), (25, .arraylength), (26, .if_icmp .lt 5), (29, .iconst 0), (30, .ireturn), (31, .aload_n 0), (32, .getfield 40), (35, .iload_n 1), (36, .iaload), (37, .bipush 42), (39, .if_icmp .ne 20), (42, .aload_n 0), (43, .getfield 21), (46, .invokevirtual 137), (49, .aload_n 0), (50, .iload_n 1), (51, .invokevirtual 153), (54, .ifCond .eq 5), (57, .iconst 1), (58, .ireturn), (59, .aload_n 0), (60, .getfield 40), (63, .iload_n 1), (64, .iaload), (65, .bipush 61), (67, .if_icmp .ne 16), (70, .aload_n 0), (71, .getfield 9), (74, .aload_n 0), (75, .getfield 44), (78, .iload_n 1), (79, .iaload), (80, .invokevirtual 156), (83, .aload_n 0), (84, .iload_n 1), (85, .putfield 67), (88, .aload_n 0), (89, .dup), (90, .getfield 64), (93, .iconst 1), (94, .iadd), (95, .putfield 64), (98, .iconst 1), (99, .ireturn)]
/-- TemplateScopes$ByText.beginNextPass(I)Z -/
def xk_13 : List (Nat × Instr) := [(0, .iload_n 1), (1, .ifCond .lt 30), (4, .iload_n 1), (5, .aload_n 0), (6, .getfield 53), (9, .arraylength), (10, .if_icmp .ge 21), (13, .iload_n 1), (14, .aload_n 0), (15, .getfield 50), (18, .arraylength), (19, .if_icmp .ge 12), (22, .iload_n 1), (23, .aload_n 0), (24, .getfield 47), (27, .arraylength), (28, .if_icmp .lt 5), (31, .iconst 0), (32, .ireturn), (33, .aload_n 0), (34, .getfield 53), (37, .iload_n 1), (38, .dup2), (39, .iaload), (40, .iconst 1), (41, .iadd), (42, .iastore), (43, .aload_n 0), (44, .getfield 53), (47, .iload_n 1), (48, .iaload), (49, .aload_n 0), (50, .getfield 21), (53, .getfield 122), (56, .aload_n 0), (57, .getfield 50), (60, .iload_n 1), (61, .iaload), (62, .invokevirtual 71), (65, .if_icmp .lt 5), (68, .iconst 0), (69, .ireturn), (70, .aload_n 0), (71, .aload_n 0), (72, .getfield 47), (75, .iload_n 1), (76, .iaload), (77, .putfield 64), (80, .aload_n 0), (81, .getfield 21), (84, .aload_n 0), (85, .getfield 50), (88, .iload_n 1), (89, .iaload), (90, .aload_n 0), (91, .getfield 53), (94, .iload_n 1), (95, .iaload), (96, .invokevirtual 143), (99, .ireturn)]
/-- TemplateScopes$ByText.beginPart()I -/
def xk_14 : List (Nat × Instr) := [(0, .aload_n 0), (1, .getfield 9), (4, .invokevirtual 93), (7, .istore_n 1), (8, .iload_n 1), (9, .ifCond .eq 5), (12, .iload_n 1), (13, .ireturn), (14, .aload_n 0), (15, .iconst 0), (16, .invokevirtual 79), (19, .istore_n 2), (20, .aload_n 0), (21, .iconst 1), (22, .invokevirtual 79), (25, .istore_n 3), (26, .iload_n 2), (27, .bipush 126), (29, .if_icmp .ne 23), (32, .aload_n 0), (33, .dup), (34, .getfield 64), (37, .iconst 2), (38, .iadd), (39, .putfield 64), (42, .aload_n 0), (43, .getfield 9), (46, .iload_n 3), (47, .iconst 1), (48, .invokevirtual 96), (51, .ireturn), (52, .iload_n 2), (53, .bipush 123), (55, .if_icmp .eq 23), (58, .aload_n 0), (59, .dup), (60, .getfield 64), (63, .iconst 1), (64, .iadd), (65, .putfield 64), (68, .aload_n 0), (69, .getfield 9), (72, .iload_n 2), (73, .iconst 0), (74, .invokevirtual 96), (77, .ireturn), (78, .aload_n 0), (79, .iconst 2), (80, .invokevirtual 79), (83, .invokestatic 99), (86, .istore 4), (88, .aload_n 0), (89, .dup), (90, .getfield 64), (93, .iload 4), (95, .iconst (-1)), (96, .if_icmp .ne 7), (99, .iconst 3), (100, .goto 4), (103, .iconst 4), (104, .iadd), (105, .putfield 64), (108, .iload_n 3), (109, .lookupswitch 90 #[(33, 51), (42, 69), (61, 83), (63, 76), (94, 62)]), (160, .aload_n 0), (161, .getfield 9), (164, .iload 4), (166, .iconst 3), (167, .invokevirtual 102), (170, .ireturn), (171, .aload_n 0), (172, .iload 4), (174, .invokevirtual 105), (177, .ireturn), (178, .aload_n 0), (179, .iload 4), (181, .invokevirtual 108), (184, .ireturn), (185, .aload_n 0), (186, .iload 4), (188, .invokevirtual 111), (191, .ireturn), (192, .aload_n 0), (193, .iload 4), (195, .invokevirtual 114), (198, .ireturn), (199, .aload_n 0), (200, .getfield 9), (203, .iload_n 3), (204, .invokestatic 99), (207, .iconst 2), (208, .invokevirtual 102), (211, .ireturn)]
/-- TemplateScopes$ByText.beginIncluded(I)I -/
def xk_15 : List (Nat × Instr) := [(0, .aload_n 0), (1, .getfield 21), (4, .iload_n 1), (5, .invokevirtual 117), (8, .istore_n 2), (9, .iload_n 2), (10, .iconst (-1)), (11, .if_icmp .ne 5), (14, .iconst 1), (15, .ireturn), (16, .aload_n 0), (17, .getfield 60), (20, .iconst 4), (21, .if_icmp .lt 5), (24, .iconst 4), (25, .ireturn), (26, .aload_n 0), (27, .getfield 27), (30, .aload_n 0), (31, .getfield 21), (34, .getfield 122), (37, .iload_n 2), (38, .invokevirtual 123), (41, .aload_n 0), (42, .getfield 27), (45, .invokevirtual 127), (48, .ifCond .ne 5), (51, .iconst 5), (52, .ireturn), (53, .aload_n 0), (54, .bipush 94), (56, .iload_n 1), (57, .iload_n 2), (58, .invokevirtual 130), (61, .ifCond .eq 13), (64, .aload_n 0), (65, .getfield 21), (68, .invokevirtual 134), (71, .ifCond .ne 5), (74, .iconst 4), (75, .ireturn), (76, .aload_n 0), (77, .dup), (78, .getfield 60), (81, .iconst 1), (82, .iadd), (83, .putfield 60), (86, .aload_n 0), (87, .getfield 36), (90, .aload_n 0), (91, .getfield 60), (94, .aload_n 0), (95, .getfield 21), (98, .getfield 122), (101, .iload_n 2), (102, .invokevirtual 56), (105, .aload_n 0), (106, .iconst 0), (107, .putfield 64), (110, .iconst 0), (111, .ireturn)]
/-- TemplateScopes$ByText.push(III)Z -/
def xk_16 : List (Nat × Instr) := [(0, .aload_n 0), (1, .getfield 67), (4, .istore 4), (6, .iload 4), (8, .ifCond .lt 53), (11, .iload 4), (13, .aload_n 0), (14, .getfield 40), (17, .arraylength), (18, .if_icmp .ge 43), (21, .iload 4), (23, .aload_n 0), (24, .getfield 44), (27, .arraylength), (28, .if_icmp .ge 33), (31, .iload 4), (33, .aload_n 0), (34, .getfield 47), (37, .arraylength), (38, .if_icmp .ge 23), (41, .iload 4), (43, .aload_n 0), (44, .getfield 50), (47, .arraylength), (48, .if_icmp .ge 13), (51, .iload 4), (53, .aload_n 0), (54, .getfield 53), (57, .arraylength), (58, .if_icmp .lt 5), (61, .iconst 0), (62, .ireturn), (63, .aload_n 0), (64, .getfield 40), (67, .iload 4), (69, .iload_n 1), (70, .iastore), (71, .aload_n 0), (72, .getfield 44), (75, .iload 4), (77, .iload_n 2), (78, .iastore), (79, .aload_n 0), (80, .getfield 47), (83, .iload 4), (85, .aload_n 0), (86, .getfield 64), (89, .iastore), (90, .aload_n 0), (91, .getfield 50), (94, .iload 4), (96, .iload_n 3), (97, .iastore), (98, .aload_n 0), (99, .getfield 53), (102, .iload 4), (104, .iconst 0), (105, .iastore), (106, .aload_n 0), (107, .dup), (108, .getfield 67), (111, .iconst 1), (112, .iadd), (113, .putfield 67), (116, .iconst 1), (117, .ireturn)]
/-- TemplateScopes$ByText.beginLoop(I)I -/
def xk_17 : List (Nat × Instr) := [(0, .aload_n 0), (1, .getfield 21), (4, .iload_n 1), (5, .invokevirtual 117), (8, .istore_n 2), (9, .iload_n 2), (10, .iconst (-1)), (11, .if_icmp .ne 5), (14, .iconst 1), (15, .ireturn), (16, .aload_n 0), (17, .getfield 21), (20, .getfield 122), (23, .iload_n 2), (24, .invokevirtual 71), (27, .ifCond .ne 9), (30, .aload_n 0), (31, .invokevirtual 140), (34, .iconst 0), (35, .ireturn), (36, .aload_n 0), (37, .bipush 42), (39, .iload_n 1), (40, .iload_n 2), (41, .invokevirtual 130), (44, .ifCond .eq 19), (47, .aload_n 0), (48, .getfield 21), (51, .iload_n 2), (52, .iconst 0), (53, .invokevirtual 143), (56, .ifCond .eq 7), (59, .iconst 0), (60, .goto 4), (63, .iconst 4), (64, .ireturn)]
/-- TemplateScopes$ByText.skipBlock()V -/
def xk_18 : List (Nat × Instr) := [(0, .iconst 1), (1, .istore_n 1), (2, .iconst 0), (3, .istore_n 2), (4, .iload_n 2), (5, .bipush 60), (7, .if_icmp .ge 60), (10, .iload_n 1), (11, .ifCond .le 56), (14, .aload_n 0), (15, .iconst 0), (16, .invokevirtual 79), (19, .istore_n 3), (20, .iload_n 3), (21, .bipush 123), (23, .if_icmp .ne 9), (26, .iinc 1 1), (29, .goto 12), (32, .iload_n 3), (33, .bipush 125), (35, .if_icmp .ne 6), (38, .iinc 1 (-1)), (41, .aload_n 0), (42, .dup), (43, .getfield 64), (46, .iload_n 3), (47, .bipush 126), (49, .if_icmp .ne 7), (52, .iconst 2), (53, .goto 4), (56, .iconst 1), (57, .iadd), (58, .putfield 64), (61, .iinc 2 1), (64, .goto (-60)), (67, .return_)]
/-- TemplateScopes$ByText.beginCondition(I)I -/
def xk_19 : List (Nat × Instr) := [(0, .aload_n 0), (1, .getfield 9), (4, .iload_n 1), (5, .invokevirtual 147), (8, .ifCond .ne 9), (11, .aload_n 0), (12, .invokevirtual 140), (15, .iconst 0), (16, .ireturn), (17, .aload_n 0), (18, .bipush 63), (20, .iload_n 1), (21, .iconst (-1)), (22, .invokevirtual 130), (25, .ifCond .eq 7), (28, .iconst 0), (29, .goto 4), (32, .iconst 4), (33, .ireturn)]
/-- TemplateScopes$ByText.beginSetting(I)I -/
def xk_20 : List (Nat × Instr) := [(0, .aload_n 0), (1, .bipush 61), (3, .iload_n 1), (4, .iconst (-1)), (5, .invokevirtual 130), (8, .ifCond .eq 13), (11, .aload_n 0), (12, .getfield 9), (15, .invokevirtual 151), (18, .goto 4), (21, .iconst 4), (22, .ireturn)]
/-- TemplateScopes$History.<init>()V -/
def xk_21 : List (Nat × Instr) := [(0, .aload_n 0), (1, .invokespecial 3), (4, .aload_n 0), (5, .bipush 6), (7, .anewarray 9), (10, .putfield 11), (13, .iconst 0), (14, .istore_n 1), (15, .iload_n 1), (16, .aload_n 0), (17, .getfield 11), (20, .arraylength), (21, .if_icmp .ge 22), (24, .aload_n 0), (25, .getfield 11), (28, .iload_n 1), (29, .new 9), (32, .dup), (33, .invokespecial 17), (36, .aastore), (37, .iinc 1 1), (40, .goto (-25)), (43, .return_)]
/-- TemplateScopes$History.size()I -/
def xk_22 : List (Nat × Instr) := [(0, .aload_n 0), (1, .getfield 18), (4, .ireturn)]
/-- TemplateScopes$History.push(LTemplateScopes$State;)V -/
def xk_23 : List (Nat × Instr) := [(0, .aload_n 0), (1, .getfield 18), (4, .aload_n 0), (5, .getfield 11), (8, .arraylength), (9, .if_icmp .lt 7), (12, .aload_n 0), (13, .invokevirtual 22), (16, .aload_n 0), (17, .getfield 18), (20, .ifCond .lt 44), (23, .aload_n 0), (24, .getfield 18), (27, .aload_n 0), (28, .getfield 11), (31, .arraylength), (32, .if_icmp .ge 32), (35, .aload_n 0), (36, .getfield 11), (39, .aload_n 0), (40, .getfield 18), (43, .aaload), (44, .astore_n 2), (45, .aload_n 2), (46, .ifnull 18), (49, .aload_n 2), (50, .aload_n 1), (51, .invokevirtual 25), (54, .aload_n 0), (55, .dup), (56, .getfield 18), (59, .iconst 1), (60, .iadd), (61, .putfield 18), (64, .return_)]
/-- TemplateScopes$History.dropOldest()V -/
def xk_24 : List (Nat × Instr) := [(0, .aload_n 0), (1, .getfield 11), (4, .arraylength), (5, .ifCond .ne 4), (8, .return_), (9, .aload_n 0), (10, .getfield 11), (13, .iconst 0), (14, .aaload), (15, .astore_n 1), (16, .iconst 1), (17, .istore_n 2), (18, .iload_n 2), (19, .aload_n 0), (20, .getfield 11), (23, .arraylength), (24, .if_icmp .ge 23), (27, .aload_n 0), (28, .getfield 11), (31, .iload_n 2), (32, .iconst 1), (33, .isub), (34, .aload_n 0), (35, .getfield 11), (38, .iload_n 2), (39, .aaload), (40, .aastore), (41, .iinc 2 1), (44, .goto (-26)), (47, .aload_n 0), (48, .getfield 11), (51, .aload_n 0), (52, .getfield 11), (55, .arraylength), (56, .iconst 1), (57, .isub), (58, .aload_n 1), (59, .aastore), (60, .aload_n 0), (61, .iconst 0), (62, .aload_n 0), (63, .getfield 18), (66, .iconst 1), (67, .isub), (68, .invokestatic 29), (71, .putfield 18), (74, .return_)]
/-- TemplateScopes$History.pop(LTemplateScopes$State;)Z -/
def xk_25 : List (Nat × Instr) := [(0, .aload_n 0), (1, .getfield 18), (4, .iconst 1), (5, .isub), (6, .istore_n 2), (7, .iload_n 2), (8, .ifCond .lt 12), (11, .iload_n 2), (12, .aload_n 0), (13, .getfield 11), (16, .arraylength), (17, .if_icmp .lt 5), (20, .iconst 0), (21, .ireturn), (22, .aload_n 0), (23, .getfield 11), (26, .iload_n 2), (27, .aaload), (28, .astore_n 3), (29, .aload_n 3), (30, .ifnonnull 5), (33, .iconst 0), (34, .ireturn), (35, .aload_n 1), (36, .aload_n 3), (37, .invokevirtual 25), (40, .aload_n 0), (41, .iload_n 2), (42, .putfield 18), (45, .iconst 1), (46, .ireturn)]
/-- TemplateScopes$Outcome.<init>()V -/
def xk_26 : List (Nat × Instr) := [(0, .aload_n 0), (1, .invokespecial 3), (4, .aload_n 0), (5, .new 9), (8, .dup), (9, .iconst 1), (10, .sipush 200), (13, .invokespecial 11), (16, .putfield 14), (19, .aload_n 0), (20, .getfield 14), (23, .iconst 0), (24, .invokevirtual 20), (27, .aload_n 0), (28, .iconst 5), (29, .newarray .int), (31, .putfield 24), (34, .return_)]
/-- TemplateScopes$Outcome.copyFrom(LTemplateScopes$Outcome;)V -/
def xk_27 : List (Nat × Instr) := [(0, .aload_n 0), (1, .getfield 14), (4, .aload_n 1), (5, .getfield 14), (8, .invokevirtual 47), (11, .iconst 0), (12, .istore_n 2), (13, .iload_n 2), (14, .aload_n 0), (15, .getfield 24), (18, .arraylength), (19, .if_icmp .ge 20), (22, .aload_n 0), (23, .getfield 24), (26, .iload_n 2), (27, .aload_n 1), (28, .iload_n 2), (29, .invokevirtual 51), (32, .iastore), (33, .iinc 2 1), (36, .goto (-23)), (39, .aload_n 0), (40, .aload_n 1), (41, .getfield 28), (44, .putfield 28), (47, .aload_n 0), (48, .aload_n 1), (49, .getfield 32), (52, .putfield 32), (55, .aload_n 0), (56, .aload_n 1), (57, .getfield 35), (60, .putfield 35), (63, .aload_n 0), (64, .aload_n 1), (65, .getfield 38), (68, .putfield 38), (71, .aload_n 0), (72, .aload_n 1), (73, .getfield 41), (76, .putfield 41), (79, .aload_n 0), (80, .aload_n 1), (81, .getfield 44), (84, .putfield 44), (87, .return_)]
/-- TemplateScopes$Outcome.placeAt(I)I -/
def xk_28 : List (Nat × Instr) := [(0, .iload_n 1), (1, .ifCond .lt 21), (4, .iload_n 1), (5, .aload_n 0), (6, .getfield 24), (9, .arraylength), (10, .if_icmp .ge 12), (13, .aload_n 0), (14, .getfield 24), (17, .iload_n 1), (18, .iaload), (19, .goto 4), (22, .iconst 0), (23, .ireturn)]
/-- TemplateScopes$Outcome.begin()V -/
def xk_29 : List (Nat × Instr) := [(0, .aload_n 0), (1, .getfield 14), (4, .iconst 0), (5, .invokevirtual 20), (8, .aload_n 0), (9, .iconst 0), (10, .putfield 28), (13, .aload_n 0), (14, .iconst 0), (15, .putfield 32), (18, .aload_n 0), (19, .iconst 0), (20, .putfield 35), (23, .aload_n 0), (24, .iconst 0), (25, .putfield 38), (28, .aload_n 0), (29, .iconst 0), (30, .putfield 41), (33, .aload_n 0), (34, .iconst 0), (35, .putfield 44), (38, .return_)]
/-- TemplateScopes$Outcome.setPlace(II)V -/
def xk_30 : List (Nat × Instr) := [(0, .iload_n 1), (1, .ifCond .lt 19), (4, .iload_n 1), (5, .aload_n 0), (6, .getfield 24), (9, .arraylength), (10, .if_icmp .ge 10), (13, .aload_n 0), (14, .getfield 24), (17, .iload_n 1), (18, .iload_n 2), (19, .iastore), (20, .return_)]
/-- TemplateScopes$Outcome.fail(III)V -/
def xk_31 : List (Nat × Instr) := [(0, .aload_n 0), (1, .getfield 32), (4, .ifCond .ne 21), (7, .aload_n 0), (8, .iload_n 1), (9, .putfield 32), (12, .aload_n 0), (13, .iload_n 2), (14, .iload_n 3), (15, .invokevirtual 55), (18, .aload_n 0), (19, .iload_n 2), (20, .iconst 1), (21, .iadd), (22, .putfield 28), (25, .return_)]
/-- TemplateScopes$Rendering.<init>()V -/
def xk_32 : List (Nat × Instr) := [(0, .aload_n 0), (1, .invokespecial 3), (4, .aload_n 0), (5, .new 9), (8, .dup), (9, .invokespecial 11), (12, .putfield 12), (15, .aload_n 0), (16, .new 18), (19, .dup), (20, .invokespecial 20), (23, .putfield 21), (26, .aload_n 0), (27, .new 25), (30, .dup), (31, .bipush 40), (33, .bipush 24), (35, .invokespecial 27), (38, .putfield 30), (41, .return_)]
/-- TemplateScopes$Rendering.begin(LTemplateScopes$Texts;I)V -/
def xk_33 : List (Nat × Instr) := [(0, .aload_n 0), (1, .getfield 12), (4, .invokevirtual 34), (7, .aload_n 0), (8, .getfield 21), (11, .aload_n 1), (12, .iload_n 2), (13, .invokevirtual 37), (16, .aload_n 0), (17, .iconst 0), (18, .putfield 40), (21, .return_)]
/-- TemplateScopes$Rendering.countStep()I -/
def xk_34 : List (Nat × Instr) := [(0, .aload_n 0), (1, .getfield 12), (4, .getfield 44), (7, .sipush 200), (10, .if_icmp .lt 5), (13, .iconst 3), (14, .ireturn), (15, .aload_n 0), (16, .getfield 12), (19, .dup), (20, .getfield 44), (23, .iconst 1), (24, .iadd), (25, .putfield 44), (28, .iconst 0), (29, .ireturn)]
/-- TemplateScopes$Rendering.printValue(II)I -/
def xk_35 : List (Nat × Instr) := [(0, .aload_n 0), (1, .getfield 21), (4, .iload_n 1), (5, .invokevirtual 63), (8, .istore_n 3), (9, .iload_n 3), (10, .iconst (-1)), (11, .if_icmp .ne 5), (14, .iconst 1), (15, .ireturn), (16, .iconst 0), (17, .istore 4), (19, .iconst 0), (20, .istore 5), (22, .iload 5), (24, .aload_n 0), (25, .getfield 21), (28, .getfield 67), (31, .iload_n 3), (32, .invokevirtual 70), (35, .if_icmp .ge 65), (38, .iload 4), (40, .ifCond .ne 60), (43, .aload_n 0), (44, .getfield 21), (47, .getfield 67), (50, .iload_n 3), (51, .iload 5), (53, .invokevirtual 73), (56, .istore 6), (58, .iload_n 2), (59, .iconst 3), (60, .if_icmp .ne 20), (63, .iload 6), (65, .invokestatic 77), (68, .ifCond .eq 12), (71, .aload_n 0), (72, .bipush 126), (74, .iload_n 2), (75, .invokevirtual 81), (78, .istore 4), (80, .iload 4), (82, .ifCond .ne 12), (85, .aload_n 0), (86, .iload 6), (88, .iload_n 2), (89, .invokevirtual 81), (92, .istore 4), (94, .iinc 5 1), (97, .goto (-75)), (100, .iload 4), (102, .ireturn)]
/-- TemplateScopes$Rendering.print(II)I -/
def xk_36 : List (Nat × Instr) := [(0, .aload_n 0), (1, .getfield 40), (4, .ifCond .le 27), (7, .aload_n 0), (8, .getfield 30), (11, .aload_n 0), (12, .getfield 40), (15, .iconst 1), (16, .isub), (17, .iload_n 1), (18, .invokevirtual 47), (21, .ifCond .eq 7), (24, .iconst 0), (25, .goto 5), (28, .bipush 6), (30, .ireturn), (31, .aload_n 0), (32, .getfield 12), (35, .getfield 51), (38, .iconst 0), (39, .iload_n 1), (40, .invokevirtual 47), (43, .ifCond .ne 5), (46, .iconst 2), (47, .ireturn), (48, .iload_n 2), (49, .ifCond .ne 19), (52, .aload_n 0), (53, .getfield 12), (56, .dup), (57, .getfield 54), (60, .iconst 1), (61, .iadd), (62, .putfield 54), (65, .goto 37), (68, .iload_n 2), (69, .iconst 1), (70, .if_icmp .ne 19), (73, .aload_n 0), (74, .getfield 12), (77, .dup), (78, .getfield 57), (81, .iconst 1), (82, .iadd), (83, .putfield 57), (86, .goto 16), (89, .aload_n 0), (90, .getfield 12), (93, .dup), (94, .getfield 60), (97, .iconst 1), (98, .iadd), (99, .putfield 60), (102, .iconst 0), (103, .ireturn)]
/-- TemplateScopes$Rendering.holds(I)Z -/
def xk_37 : List (Nat × Instr) := [(0, .aload_n 0), (1, .getfield 21), (4, .getfield 67), (7, .aload_n 0), (8, .getfield 21), (11, .iload_n 1), (12, .invokevirtual 63), (15, .invokevirtual 70), (18, .ifCond .le 7), (21, .iconst 1), (22, .goto 4), (25, .iconst 0), (26, .ireturn)]
/-- TemplateScopes$Rendering.beginSetting()I -/
def xk_38 : List (Nat × Instr) := [(0, .aload_n 0), (1, .getfield 40), (4, .bipush 40), (6, .if_icmp .lt 5), (9, .iconst 4), (10, .ireturn), (11, .aload_n 0), (12, .getfield 30), (15, .aload_n 0), (16, .getfield 40), (19, .invokevirtual 84), (22, .aload_n 0), (23, .dup), (24, .getfield 40), (27, .iconst 1), (28, .iadd), (29, .putfield 40), (32, .iconst 0), (33, .ireturn)]
/-- TemplateScopes$Rendering.endSetting(I)V -/
def xk_39 : List (Nat × Instr) := [(0, .aload_n 0), (1, .iconst 0), (2, .aload_n 0), (3, .getfield 40), (6, .iconst 1), (7, .isub), (8, .invokestatic 88), (11, .putfield 40), (14, .aload_n 0), (15, .getfield 21), (18, .iload_n 1), (19, .aload_n 0), (20, .getfield 30), (23, .aload_n 0), (24, .getfield 40), (27, .invokevirtual 93), (30, .return_)]
/-- TemplateScopes$Scopes.<init>()V -/
def xk_40 : List (Nat × Instr) := [(0, .aload_n 0), (1, .invokespecial 3), (4, .aload_n 0), (5, .new 9), (8, .dup), (9, .sipush 410), (12, .bipush 24), (14, .invokespecial 11), (17, .putfield 14), (20, .return_)]
/-- TemplateScopes$Scopes.begin(LTemplateScopes$Texts;I)V -/
def xk_41 : List (Nat × Instr) := [(0, .aload_n 0), (1, .iconst 0), (2, .putfield 20), (5, .aload_n 0), (6, .invokevirtual 24), (9, .pop), (10, .iconst 0), (11, .istore_n 3), (12, .iload_n 3), (13, .bipush 8), (15, .if_icmp .ge 21), (18, .iload_n 3), (19, .iload_n 2), (20, .if_icmp .eq 10), (23, .aload_n 0), (24, .iload_n 3), (25, .aload_n 1), (26, .iload_n 3), (27, .invokevirtual 28), (30, .iinc 3 1), (33, .goto (-21)), (36, .return_)]
/-- TemplateScopes$Scopes.openOne()Z -/
def xk_42 : List (Nat × Instr) := [(0, .aload_n 0), (1, .getfield 20), (4, .bipush 40), (6, .if_icmp .le 5), (9, .iconst 0), (10, .ireturn), (11, .aload_n 0), (12, .dup), (13, .getfield 20), (16, .iconst 1), (17, .iadd), (18, .putfield 20), (21, .iconst 0), (22, .istore_n 1), (23, .iload_n 1), (24, .bipush 10), (26, .if_icmp .ge 21), (29, .aload_n 0), (30, .getfield 14), (33, .aload_n 0), (34, .iload_n 1), (35, .invokevirtual 32), (38, .invokevirtual 36), (41, .iinc 1 1), (44, .goto (-21)), (47, .iconst 1), (48, .ireturn)]
/-- TemplateScopes$Scopes.innermostRow(I)I -/
def xk_43 : List (Nat × Instr) := [(0, .aload_n 0), (1, .getfield 20), (4, .iconst 1), (5, .isub), (6, .bipush 10), (8, .imul), (9, .iload_n 1), (10, .iadd), (11, .ireturn)]
/-- TemplateScopes$Scopes.give(ILTemplateScopes$Texts;I)V -/
def xk_44 : List (Nat × Instr) := [(0, .aload_n 0), (1, .getfield 14), (4, .aload_n 0), (5, .iload_n 1), (6, .invokevirtual 32), (9, .aload_n 2), (10, .iload_n 3), (11, .invokevirtual 49), (14, .return_)]
/-- TemplateScopes$Scopes.rowOf(I)I -/
def xk_45 : List (Nat × Instr) := [(0, .aload_n 0), (1, .getfield 20), (4, .iconst 1), (5, .isub), (6, .istore_n 2), (7, .iload_n 2), (8, .ifCond .lt 30), (11, .iload_n 2), (12, .bipush 10), (14, .imul), (15, .iload_n 1), (16, .iadd), (17, .istore_n 3), (18, .aload_n 0), (19, .getfield 14), (22, .iload_n 3), (23, .invokevirtual 46), (26, .iconst (-1)), (27, .if_icmp .eq 5), (30, .iload_n 3), (31, .ireturn), (32, .iinc 2 (-1)), (35, .goto (-28)), (38, .iconst (-1)), (39, .ireturn)]
/-- TemplateScopes$Scopes.closeOne()V -/
def xk_46 : List (Nat × Instr) := [(0, .aload_n 0), (1, .iconst 0), (2, .aload_n 0), (3, .getfield 20), (6, .iconst 1), (7, .isub), (8, .invokestatic 40), (11, .putfield 20), (14, .return_)]
/-- TemplateScopes$Scopes.openPass(II)Z -/
def xk_47 : List (Nat × Instr) := [(0, .aload_n 0), (1, .invokevirtual 24), (4, .ifCond .ne 5), (7, .iconst 0), (8, .ireturn), (9, .aload_n 0), (10, .bipush 8), (12, .invokevirtual 32), (15, .istore_n 3), (16, .aload_n 0), (17, .getfield 14), (20, .iload_n 3), (21, .invokevirtual 52), (24, .iload_n 2), (25, .bipush 10), (27, .if_icmp .lt 22), (30, .aload_n 0), (31, .getfield 14), (34, .iload_n 3), (35, .bipush 48), (37, .iload_n 2), (38, .bipush 10), (40, .idiv), (41, .bipush 10), (43, .irem), (44, .iadd), (45, .invokevirtual 55), (48, .pop), (49, .aload_n 0), (50, .getfield 14), (53, .iload_n 3), (54, .bipush 48), (56, .iload_n 2), (57, .bipush 10), (59, .irem), (60, .iadd), (61, .invokevirtual 55), (64, .pop), (65, .aload_n 0), (66, .bipush 9), (68, .invokevirtual 32), (71, .istore 4), (73, .aload_n 0), (74, .getfield 14), (77, .iload 4), (79, .invokevirtual 52), (82, .aload_n 0), (83, .getfield 14), (86, .iload 4), (88, .aload_n 0), (89, .getfield 14), (92, .iload_n 1), (93, .iload_n 2), (94, .invokevirtual 59), (97, .invokevirtual 55), (100, .pop), (101, .iconst 1), (102, .ireturn)]
/-- TemplateScopes$State.<init>()V -/
def xk_48 : List (Nat × Instr) := [(0, .aload_n 0), (1, .invokespecial 3), (4, .aload_n 0), (5, .new 9), (8, .dup), (9, .bipush 8), (11, .bipush 24), (13, .invokespecial 11), (16, .putfield 14), (19, .aload_n 0), (20, .new 20), (23, .dup), (24, .invokespecial 22), (27, .putfield 23), (30, .return_)]
/-- TemplateScopes$State.copyFrom(LTemplateScopes$State;)V -/
def xk_49 : List (Nat × Instr) := [(0, .aload_n 0), (1, .getfield 14), (4, .aload_n 1), (5, .getfield 14), (8, .invokevirtual 27), (11, .aload_n 0), (12, .getfield 23), (15, .aload_n 1), (16, .getfield 23), (19, .invokevirtual 31), (22, .aload_n 0), (23, .aload_n 1), (24, .getfield 35), (27, .putfield 35), (30, .aload_n 0), (31, .aload_n 1), (32, .getfield 39), (35, .putfield 39), (38, .aload_n 0), (39, .aload_n 1), (40, .getfield 42), (43, .putfield 42), (46, .return_)]
/-- TemplateScopes$State.takeOutcome(LTemplateScopes$Outcome;)V -/
def xk_50 : List (Nat × Instr) := [(0, .aload_n 0), (1, .getfield 23), (4, .aload_n 1), (5, .invokevirtual 31), (8, .aload_n 0), (9, .dup), (10, .getfield 35), (13, .iconst 1), (14, .iadd), (15, .putfield 35), (18, .aload_n 1), (19, .getfield 45), (22, .ifCond .eq 13), (25, .aload_n 0), (26, .dup), (27, .getfield 39), (30, .iconst 1), (31, .iadd), (32, .putfield 39), (35, .aload_n 0), (36, .dup), (37, .getfield 42), (40, .aload_n 1), (41, .getfield 48), (44, .iconst 0), (45, .invokevirtual 51), (48, .iadd), (49, .putfield 42), (52, .return_)]
/-- TemplateScopes$Template.<init>(ILTemplateScopes$Template;)V -/
def xk_51 : List (Nat × Instr) := [(0, .aload_n 0), (1, .invokespecial 3), (4, .aload_n 0), (5, .iload_n 1), (6, .putfield 9), (9, .aload_n 0), (10, .aload_n 2), (11, .putfield 15), (14, .aload_n 0), (15, .bipush 60), (17, .newarray .int), (19, .putfield 19), (22, .aload_n 0), (23, .bipush 60), (25, .newarray .int), (27, .putfield 23), (30, .aload_n 0), (31, .bipush 60), (33, .newarray .int), (35, .putfield 26), (38, .aload_n 0), (39, .bipush 60), (41, .newarray .int), (43, .putfield 29), (46, .aload_n 0), (47, .bipush 60), (49, .newarray .int), (51, .putfield 32), (54, .aload_n 0), (55, .bipush 60), (57, .newarray .int), (59, .putfield 35), (62, .return_)]
/-- TemplateScopes$Template.readFrom(LTemplateScopes$Texts;I)V -/
def xk_52 : List (Nat × Instr) := [(0, .aload_n 0), (1, .iconst 0), (2, .putfield 38), (5, .aload_n 0), (6, .iconst 0), (7, .putfield 41), (10, .aload_n 0), (11, .iconst 0), (12, .putfield 44), (15, .aload_n 0), (16, .iconst 0), (17, .putfield 47), (20, .aload_n 0), (21, .aload_n 1), (22, .iload_n 2), (23, .invokevirtual 50), (26, .putfield 56), (29, .aload_n 0), (30, .aload_n 0), (31, .getfield 56), (34, .putfield 59), (37, .iconst 0), (38, .istore_n 3), (39, .iload_n 3), (40, .aload_n 0), (41, .getfield 56), (44, .if_icmp .ge 29), (47, .aload_n 0), (48, .iload_n 3), (49, .aload_n 1), (50, .iload_n 2), (51, .iload_n 3), (52, .invokevirtual 62), (55, .invokevirtual 66), (58, .ifCond .ne 9), (61, .aload_n 0), (62, .iload_n 3), (63, .putfield 59), (66, .return_), (67, .iinc 3 1), (70, .goto (-31)), (73, .return_)]
/-- TemplateScopes$Template.read(II)Z -/
def xk_53 : List (Nat × Instr) := [(0, .aload_n 0), (1, .getfield 47), (4, .tableswitch 121 1 5 #[36, 48, 76, 85, 104]), (40, .aload_n 0), (41, .iload_n 2), (42, .invokevirtual 76), (45, .aload_n 0), (46, .iconst 0), (47, .putfield 47), (50, .iconst 1), (51, .ireturn), (52, .iload_n 2), (53, .invokestatic 80), (56, .iconst 2), (57, .if_icmp .ne 14), (60, .aload_n 0), (61, .iload_n 2), (62, .invokestatic 83), (65, .invokevirtual 86), (68, .goto 11), (71, .aload_n 0), (72, .iload_n 2), (73, .invokestatic 80), (76, .invokevirtual 90), (79, .ireturn), (80, .aload_n 0), (81, .iload_n 2), (82, .invokestatic 83), (85, .invokevirtual 86), (88, .ireturn), (89, .iload_n 2), (90, .bipush 58), (92, .if_icmp .ne 14), (95, .aload_n 0), (96, .invokevirtual 93), (99, .ifCond .eq 7), (102, .iconst 1), (103, .goto 4), (106, .iconst 0), (107, .ireturn), (108, .aload_n 0), (109, .iconst 0), (110, .putfield 47), (113, .iload_n 2), (114, .bipush 125), (116, .if_icmp .ne 7), (119, .iconst 1), (120, .goto 4), (123, .iconst 0), (124, .ireturn), (125, .iload_n 2), (126, .bipush 125), (128, .if_icmp .ne 10), (131, .aload_n 0), (132, .invokevirtual 97), (135, .goto 9), (138, .aload_n 0), (139, .iload_n 1), (140, .iload_n 2), (141, .invokevirtual 100), (144, .ireturn)]
/-- TemplateScopes$Template.setCode(I)V -/
def xk_54 : List (Nat × Instr) := [(0, .aload_n 0), (1, .getfield 38), (4, .iconst 1), (5, .isub), (6, .istore_n 2), (7, .iload_n 2), (8, .ifCond .lt 19), (11, .iload_n 2), (12, .aload_n 0), (13, .getfield 26), (16, .arraylength), (17, .if_icmp .ge 10), (20, .aload_n 0), (21, .getfield 26), (24, .iload_n 2), (25, .iload_n 1), (26, .iastore), (27, .return_)]
/-- TemplateScopes$Template.kindWritten(I)I -/
def xk_55 : List (Nat × Instr) := [(0, .iload_n 0), (1, .lookupswitch 63 #[(33, 51), (42, 55), (61, 60), (63, 57), (94, 53)]), (52, .iconst 3), (53, .ireturn), (54, .iconst 4), (55, .ireturn), (56, .iconst 5), (57, .ireturn), (58, .bipush 6), (60, .ireturn), (61, .bipush 7), (63, .ireturn), (64, .iconst 2), (65, .ireturn)]
/-- TemplateScopes$Template.setName(I)Z -/
def xk_56 : List (Nat × Instr) := [(0, .aload_n 0), (1, .getfield 38), (4, .iconst 1), (5, .isub), (6, .istore_n 2), (7, .iload_n 1), (8, .iconst (-1)), (9, .if_icmp .eq 25), (12, .iload_n 2), (13, .ifCond .lt 21), (16, .iload_n 2), (17, .aload_n 0), (18, .getfield 29), (21, .arraylength), (22, .if_icmp .ge 12), (25, .iload_n 2), (26, .aload_n 0), (27, .getfield 19), (30, .arraylength), (31, .if_icmp .lt 5), (34, .iconst 0), (35, .ireturn), (36, .aload_n 0), (37, .getfield 29), (40, .iload_n 2), (41, .iload_n 1), (42, .iastore), (43, .aload_n 0), (44, .getfield 19), (47, .iload_n 2), (48, .iaload), (49, .istore_n 3), (50, .iload_n 3), (51, .iconst 5), (52, .if_icmp .eq 15), (55, .iload_n 3), (56, .bipush 6), (58, .if_icmp .eq 9), (61, .iload_n 3), (62, .bipush 7), (64, .if_icmp .ne 7), (67, .iconst 1), (68, .goto 4), (71, .iconst 0), (72, .istore 4), (74, .aload_n 0), (75, .iload 4), (77, .ifCond .eq 7), (80, .iconst 4), (81, .goto 4), (84, .iconst 5), (85, .putfield 47), (88, .iconst 1), (89, .ireturn)]
/-- TemplateScopes$Template.setKind(I)Z -/
def xk_57 : List (Nat × Instr) := [(0, .aload_n 0), (1, .getfield 38), (4, .iconst 1), (5, .isub), (6, .istore_n 2), (7, .iload_n 2), (8, .ifCond .lt 12), (11, .iload_n 2), (12, .aload_n 0), (13, .getfield 19), (16, .arraylength), (17, .if_icmp .lt 5), (20, .iconst 0), (21, .ireturn), (22, .aload_n 0), (23, .getfield 19), (26, .iload_n 2), (27, .iload_n 1), (28, .iastore), (29, .aload_n 0), (30, .iconst 3), (31, .putfield 47), (34, .iconst 1), (35, .ireturn)]
/-- TemplateScopes$Template.openLast()Z -/
def xk_58 : List (Nat × Instr) := [(0, .aload_n 0), (1, .getfield 41), (4, .ifCond .lt 15), (7, .aload_n 0), (8, .getfield 41), (11, .aload_n 0), (12, .getfield 35), (15, .arraylength), (16, .if_icmp .lt 5), (19, .iconst 0), (20, .ireturn), (21, .aload_n 0), (22, .getfield 35), (25, .aload_n 0), (26, .getfield 41), (29, .aload_n 0), (30, .getfield 38), (33, .iconst 1), (34, .isub), (35, .iastore), (36, .aload_n 0), (37, .dup), (38, .getfield 41), (41, .iconst 1), (42, .iadd), (43, .putfield 41), (46, .aload_n 0), (47, .iconst 0), (48, .putfield 47), (51, .iconst 1), (52, .ireturn)]
/-- TemplateScopes$Template.closeInnermost()Z -/
def xk_59 : List (Nat × Instr) := [(0, .aload_n 0), (1, .getfield 41), (4, .iconst 1), (5, .isub), (6, .istore_n 1), (7, .iload_n 1), (8, .ifCond .lt 12), (11, .iload_n 1), (12, .aload_n 0), (13, .getfield 35), (16, .arraylength), (17, .if_icmp .lt 5), (20, .iconst 0), (21, .ireturn), (22, .aload_n 0), (23, .getfield 35), (26, .iload_n 1), (27, .iaload), (28, .istore_n 2), (29, .aload_n 0), (30, .iload_n 1), (31, .putfield 41), (34, .iload_n 2), (35, .ifCond .lt 12), (38, .iload_n 2), (39, .aload_n 0), (40, .getfield 32), (43, .arraylength), (44, .if_icmp .lt 5), (47, .iconst 0), (48, .ireturn), (49, .aload_n 0), (50, .getfield 32), (53, .iload_n 2), (54, .aload_n 0), (55, .getfield 38), (58, .iastore), (59, .iconst 1), (60, .ireturn)]
/-- TemplateScopes$Template.addPart(II)Z -/
def xk_60 : List (Nat × Instr) := [(0, .aload_n 0), (1, .getfield 38), (4, .istore_n 3), (5, .iload_n 3), (6, .ifCond .lt 39), (9, .iload_n 3), (10, .aload_n 0), (11, .getfield 19), (14, .arraylength), (15, .if_icmp .ge 30), (18, .iload_n 3), (19, .aload_n 0), (20, .getfield 23), (23, .arraylength), (24, .if_icmp .ge 21), (27, .iload_n 3), (28, .aload_n 0), (29, .getfield 26), (32, .arraylength), (33, .if_icmp .ge 12), (36, .iload_n 3), (37, .aload_n 0), (38, .getfield 32), (41, .arraylength), (42, .if_icmp .lt 5), (45, .iconst 0), (46, .ireturn), (47, .aload_n 0), (48, .dup), (49, .getfield 38), (52, .iconst 1), (53, .iadd), (54, .putfield 38), (57, .aload_n 0), (58, .getfield 19), (61, .iload_n 3), (62, .iconst 0), (63, .iastore), (64, .aload_n 0), (65, .getfield 23), (68, .iload_n 3), (69, .iload_n 1), (70, .iastore), (71, .aload_n 0), (72, .getfield 26), (75, .iload_n 3), (76, .iload_n 2), (77, .iastore), (78, .aload_n 0), (79, .getfield 32), (82, .iload_n 3), (83, .aload_n 0), (84, .getfield 38), (87, .iastore), (88, .aload_n 0), (89, .aload_n 0), (90, .getfield 44), (93, .aload_n 0), (94, .getfield 41), (97, .invokestatic 103), (100, .putfield 44), (103, .iload_n 2), (104, .bipush 126), (106, .if_icmp .ne 18), (109, .aload_n 0), (110, .getfield 19), (113, .iload_n 3), (114, .iconst 1), (115, .iastore), (116, .aload_n 0), (117, .iconst 1), (118, .putfield 47), (121, .goto 21), (124, .iload_n 2), (125, .bipush 123), (127, .if_icmp .ne 15), (130, .aload_n 0), (131, .getfield 19), (134, .iload_n 3), (135, .iconst 2), (136, .iastore), (137, .aload_n 0), (138, .iconst 2), (139, .putfield 47), (142, .iconst 1), (143, .ireturn)]
/-- TemplateScopes$Template.errorPlace()I -/
def xk_61 : List (Nat × Instr) := [(0, .aload_n 0), (1, .getfield 59), (4, .ireturn)]
/-- TemplateScopes$Template.isWhole()Z -/
def xk_62 : List (Nat × Instr) := [(0, .aload_n 0), (1, .getfield 59), (4, .aload_n 0), (5, .getfield 56), (8, .if_icmp .ne 21), (11, .aload_n 0), (12, .getfield 47), (15, .ifCond .ne 14), (18, .aload_n 0), (19, .getfield 41), (22, .ifCond .ne 7), (25, .iconst 1), (26, .goto 4), (29, .iconst 0), (30, .ireturn)]
/-- TemplateScopes$Template.partCount()I -/
def xk_63 : List (Nat × Instr) := [(0, .aload_n 0), (1, .getfield 38), (4, .ireturn)]
/-- TemplateScopes$Template.kindOf(I)I -/
def xk_64 : List (Nat × Instr) := [(0, .iload_n 1), (1, .ifCond .lt 21), (4, .iload_n 1), (5, .aload_n 0), (6, .getfield 19), (9, .arraylength), (10, .if_icmp .ge 12), (13, .aload_n 0), (14, .getfield 19), (17, .iload_n 1), (18, .iaload), (19, .goto 4), (22, .iconst 0), (23, .ireturn)]
/-- TemplateScopes$Template.nameOf(I)I -/
def xk_65 : List (Nat × Instr) := [(0, .iload_n 1), (1, .ifCond .lt 21), (4, .iload_n 1), (5, .aload_n 0), (6, .getfield 29), (9, .arraylength), (10, .if_icmp .ge 12), (13, .aload_n 0), (14, .getfield 29), (17, .iload_n 1), (18, .iaload), (19, .goto 4), (22, .iconst 0), (23, .ireturn)]
/-- TemplateScopes$Template.placeOf(I)I -/
def xk_66 : List (Nat × Instr) := [(0, .iload_n 1), (1, .ifCond .lt 21), (4, .iload_n 1), (5, .aload_n 0), (6, .getfield 23), (9, .arraylength), (10, .if_icmp .ge 12), (13, .aload_n 0), (14, .getfield 23), (17, .iload_n 1), (18, .iaload), (19, .goto 4), (22, .iconst 0), (23, .ireturn)]
/-- TemplateScopes$Template.behind(I)I -/
def xk_67 : List (Nat × Instr) := [(0, .iload_n 1), (1, .ifCond .lt 21), (4, .iload_n 1), (5, .aload_n 0), (6, .getfield 32), (9, .arraylength), (10, .if_icmp .ge 12), (13, .aload_n 0), (14, .getfield 32), (17, .iload_n 1), (18, .iaload), (19, .goto 7), (22, .aload_n 0), (23, .getfield 38), (26, .ireturn)]
/-- TemplateScopes$Template.codeOf(I)I -/
def xk_68 : List (Nat × Instr) := [(0, .iload_n 1), (1, .ifCond .lt 21), (4, .iload_n 1), (5, .aload_n 0), (6, .getfield 26), (9, .arraylength), (10, .if_icmp .ge 12), (13, .aload_n 0), (14, .getfield 26), (17, .iload_n 1), (18, .iaload), (19, .goto 4), (22, .iconst 0), (23, .ireturn)]
/-- TemplateScopes$Template.deepest()I -/
def xk_69 : List (Nat × Instr) := [(0, .aload_n 0), (1, .getfield 38), (4, .ifCond .le 12), (7, .aload_n 0), (8, .getfield 44), (11, .iconst 1), (12, .iadd), (13, .goto 4), (16, .iconst 0), (17, .ireturn)]
/-- TemplateScopes$Template.namesUsed()I -/
def xk_70 : List (Nat × Instr) := [(0, .iconst 0), (1, .istore_n 1), (2, .iconst 0), (3, .istore_n 2), (4, .iload_n 2), (5, .aload_n 0), (6, .getfield 38), (9, .if_icmp .ge 36), (12, .aload_n 0), (13, .iload_n 2), (14, .invokevirtual 70), (17, .ifCond .eq 22), (20, .aload_n 0), (21, .iload_n 2), (22, .invokevirtual 70), (25, .iconst 1), (26, .if_icmp .eq 13), (29, .iload_n 1), (30, .iconst 1), (31, .aload_n 0), (32, .iload_n 2), (33, .invokevirtual 73), (36, .ishl), (37, .ior), (38, .istore_n 1), (39, .iinc 2 1), (42, .goto (-38)), (45, .iload_n 1), (46, .ireturn)]
/-- TemplateScopes$Template.namesGiven()I -/
def xk_71 : List (Nat × Instr) := [(0, .iconst 0), (1, .istore_n 1), (2, .iconst 0), (3, .istore_n 2), (4, .iload_n 2), (5, .aload_n 0), (6, .getfield 38), (9, .if_icmp .ge 29), (12, .aload_n 0), (13, .iload_n 2), (14, .invokevirtual 70), (17, .bipush 7), (19, .if_icmp .ne 13), (22, .iload_n 1), (23, .iconst 1), (24, .aload_n 0), (25, .iload_n 2), (26, .invokevirtual 73), (29, .ishl), (30, .ior), (31, .istore_n 1), (32, .iinc 2 1), (35, .goto (-31)), (38, .iload_n 1), (39, .ireturn)]
/-- TemplateScopes$Template.loopCount()I -/
def xk_72 : List (Nat × Instr) := [(0, .iconst 0), (1, .istore_n 1), (2, .iconst 0), (3, .istore_n 2), (4, .iload_n 2), (5, .aload_n 0), (6, .getfield 38), (9, .if_icmp .ge 21), (12, .aload_n 0), (13, .iload_n 2), (14, .invokevirtual 70), (17, .iconst 5), (18, .if_icmp .ne 6), (21, .iinc 1 1), (24, .iinc 2 1), (27, .goto (-23)), (30, .iload_n 1), (31, .ireturn)]
/-- TemplateScopes$Texts.<init>(II)V -/
def xk_73 : List (Nat × Instr) := [(0, .aload_n 0), (1, .invokespecial 3), (4, .aload_n 0), (5, .iload_n 2), (6, .putfield 9), (9, .aload_n 0), (10, .iconst 0), (11, .iload_n 1), (12, .iload_n 2), (13, .imul), (14, .invokestatic 15), (17, .newarray .char), (19, .putfield 21), (22, .aload_n 0), (23, .iconst 0), (24, .iload_n 1), (25, .invokestatic 15), (28, .newarray .int), (30, .putfield 25), (33, .iconst 0), (34, .istore_n 3), (35, .iload_n 3), (36, .aload_n 0), (37, .getfield 25), (40, .arraylength), (41, .if_icmp .ge 16), (44, .aload_n 0), (45, .getfield 25), (48, .iload_n 3), (49, .iconst (-1)), (50, .iastore), (51, .iinc 3 1), (54, .goto (-19)), (57, .return_)]
/-- TemplateScopes$Texts.clear(I)V -/
def xk_74 : List (Nat × Instr) := [(0, .iload_n 1), (1, .ifCond .lt 19), (4, .iload_n 1), (5, .aload_n 0), (6, .getfield 25), (9, .arraylength), (10, .if_icmp .ge 10), (13, .aload_n 0), (14, .getfield 25), (17, .iload_n 1), (18, .iconst 0), (19, .iastore), (20, .return_)]
/-- TemplateScopes$Texts.lengthOf(I)I -/
def xk_75 : List (Nat × Instr) := [(0, .iload_n 1), (1, .ifCond .lt 12), (4, .iload_n 1), (5, .aload_n 0), (6, .getfield 25), (9, .arraylength), (10, .if_icmp .lt 7), (13, .iconst (-1)), (14, .goto 9), (17, .aload_n 0), (18, .getfield 25), (21, .iload_n 1), (22, .iaload), (23, .ireturn)]
/-- TemplateScopes$Texts.codeAt(II)I -/
def xk_76 : List (Nat × Instr) := [(0, .iload_n 1), (1, .ifCond .lt 26), (4, .iload_n 1), (5, .aload_n 0), (6, .getfield 25), (9, .arraylength), (10, .if_icmp .ge 17), (13, .iload_n 2), (14, .ifCond .lt 13), (17, .iload_n 2), (18, .aload_n 0), (19, .getfield 25), (22, .iload_n 1), (23, .iaload), (24, .if_icmp .lt 5), (27, .iconst 0), (28, .ireturn), (29, .iload_n 1), (30, .aload_n 0), (31, .getfield 9), (34, .imul), (35, .iload_n 2), (36, .iadd), (37, .istore_n 3), (38, .iload_n 3), (39, .ifCond .lt 21), (42, .iload_n 3), (43, .aload_n 0), (44, .getfield 21), (47, .arraylength), (48, .if_icmp .ge 12), (51, .aload_n 0), (52, .getfield 21), (55, .iload_n 3), (56, .caload), (57, .goto 4), (60, .iconst 0), (61, .ireturn)]
/-- TemplateScopes$Texts.copyAll(LTemplateScopes$Texts;)V -/
def xk_77 : List (Nat × Instr) := [(0, .iconst 0), (1, .istore_n 2), (2, .iload_n 2), (3, .aload_n 0), (4, .getfield 25), (7, .arraylength), (8, .if_icmp .ge 16), (11, .aload_n 0), (12, .iload_n 2), (13, .aload_n 1), (14, .iload_n 2), (15, .invokevirtual 39), (18, .iinc 2 1), (21, .goto (-19)), (24, .return_)]
/-- TemplateScopes$Texts.copyRow(ILTemplateScopes$Texts;I)V -/
def xk_78 : List (Nat × Instr) := [(0, .iload_n 1), (1, .ifCond .lt 12), (4, .iload_n 1), (5, .aload_n 0), (6, .getfield 25), (9, .arraylength), (10, .if_icmp .lt 4), (13, .return_), (14, .aload_n 2), (15, .iload_n 3), (16, .invokevirtual 29), (19, .aload_n 0), (20, .getfield 9), (23, .invokestatic 33), (26, .istore 4), (28, .iconst 0), (29, .istore 5), (31, .iload 5), (33, .iload 4), (35, .if_icmp .ge 50), (38, .iload_n 1), (39, .aload_n 0), (40, .getfield 9), (43, .imul), (44, .iload 5), (46, .iadd), (47, .istore 6), (49, .iload 6), (51, .ifCond .lt 28), (54, .iload 6), (56, .aload_n 0), (57, .getfield 21), (60, .arraylength), (61, .if_icmp .ge 18), (64, .aload_n 0), (65, .getfield 21), (68, .iload 6), (70, .aload_n 2), (71, .iload_n 3), (72, .iload 5), (74, .invokevirtual 36), (77, .i2c), (78, .castore), (79, .iinc 5 1), (82, .goto (-51)), (85, .aload_n 0), (86, .getfield 25), (89, .iload_n 1), (90, .iload 4), (92, .iastore), (93, .return_)]
/-- TemplateScopes$Texts.add(II)Z -/
def xk_79 : List (Nat × Instr) := [(0, .iload_n 1), (1, .ifCond .lt 12), (4, .iload_n 1), (5, .aload_n 0), (6, .getfield 25), (9, .arraylength), (10, .if_icmp .lt 5), (13, .iconst 0), (14, .ireturn), (15, .aload_n 0), (16, .getfield 25), (19, .iload_n 1), (20, .iaload), (21, .istore_n 3), (22, .iload_n 1), (23, .aload_n 0), (24, .getfield 9), (27, .imul), (28, .iload_n 3), (29, .iadd), (30, .istore 4), (32, .iload_n 3), (33, .ifCond .lt 26), (36, .iload_n 3), (37, .aload_n 0), (38, .getfield 9), (41, .if_icmp .ge 18), (44, .iload 4), (46, .ifCond .lt 13), (49, .iload 4), (51, .aload_n 0), (52, .getfield 21), (55, .arraylength), (56, .if_icmp .lt 5), (59, .iconst 0), (60, .ireturn), (61, .aload_n 0), (62, .getfield 21), (65, .iload 4), (67, .iload_n 2), (68, .i2c), (69, .castore), (70, .aload_n 0), (71, .getfield 25), (74, .iload_n 1), (75, .iload_n 3), (76, .iconst 1), (77, .iadd), (78, .iastore), (79, .iconst 1), (80, .ireturn)]
/-- TemplateScopes$Texts.remove(I)V -/
def xk_80 : List (Nat × Instr) := [(0, .iload_n 1), (1, .ifCond .lt 19), (4, .iload_n 1), (5, .aload_n 0), (6, .getfield 25), (9, .arraylength), (10, .if_icmp .ge 10), (13, .aload_n 0), (14, .getfield 25), (17, .iload_n 1), (18, .iconst (-1)), (19, .iastore), (20, .return_)]
/-- TemplateScopes.<init>()V -/
def xk_81 : List (Nat × Instr) := [(0, .aload_n 0), (1, .invokespecial 1), (4, .aload_n 0), (5, .new 7), (8, .dup), (9, .iconst 1), (10, .bipush 60), (12, .invokespecial 11), (15, .putfield 14), (18, .aload_n 0), (19, .getfield 14), (22, .iconst 0), (23, .invokevirtual 18), (26, .aload_n 0), (27, .new 7), (30, .dup), (31, .iconst 1), (32, .bipush 60), (34, .invokespecial 11), (37, .putfield 22), (40, .aconst_null), (41, .astore_n 1), (42, .iconst 4), (43, .istore_n 2), (44, .iload_n 2), (45, .ifCond .le 19), (48, .new 25), (51, .dup), (52, .iload_n 2), (53, .aload_n 1), (54, .invokespecial 27), (57, .astore_n 1), (58, .iinc 2 (-1)), (61, .goto (-17)), (64, .aload_n 0), (65, .new 25), (68, .dup), (69, .iconst 0), (70, .aload_n 1), (71, .invokespecial 27), (74, .putfield 30), (77, .aload_n 0), (78, .new 34), (81, .dup), (82, .invokespecial 36), (85, .putfield 37), (88, .aload_n 0), (89, .new 41), (92, .dup), (93, .aload_n 0), (94, .getfield 37), (97, .invokespecial 43), (100, .putfield 46), (103, .aload_n 0), (104, .new 50), (107, .dup), (108, .aload_n 0), (109, .getfield 37), (112, .invokespecial 52), (115, .putfield 53), (118, .aload_n 0), (119, .new 57), (122, .dup), (123, .invokespecial 59), (126, .putfield 60), (129, .aload_n 0), (130, .new 57), (133, .dup), (134, .invokespecial 59), (137, .putfield 64), (140, .aload_n 0), (141, .new 67), (144, .dup), (145, .invokespecial 69), (148, .putfield 70), (151, .aload_n 0), (152, .iconst 0), (153, .putfield 74), (156, .return_)]
/-- TemplateScopes.clearTemplate()I -/
def xk_82 : List (Nat × Instr) := [(0, .aload_n 0), (1, .getfield 14), (4, .iconst 0), (5, .invokevirtual 92), (8, .istore_n 1), (9, .aload_n 0), (10, .getfield 14), (13, .iconst 0), (14, .invokevirtual 18), (17, .iload_n 1), (18, .ireturn)]
/-- TemplateScopes.templateLength()I -/
def xk_83 : List (Nat × Instr) := [(0, .aload_n 0), (1, .getfield 14), (4, .iconst 0), (5, .invokevirtual 92), (8, .ireturn)]
/-- TemplateScopes.firstError()I -/
def xk_84 : List (Nat × Instr) := [(0, .aload_n 0), (1, .getfield 30), (4, .aload_n 0), (5, .getfield 14), (8, .iconst 0), (9, .invokevirtual 96), (12, .aload_n 0), (13, .getfield 30), (16, .invokevirtual 100), (19, .ireturn)]
/-- TemplateScopes.nameWritten(I)I -/
def xk_85 : List (Nat × Instr) := [(0, .iload_n 0), (1, .bipush 97), (3, .if_icmp .lt 14), (6, .iload_n 0), (7, .bipush 104), (9, .if_icmp .gt 8), (12, .iload_n 0), (13, .bipush 97), (15, .isub), (16, .ireturn), (17, .iload_n 0), (18, .bipush 107), (20, .if_icmp .ne 6), (23, .bipush 8), (25, .ireturn), (26, .iload_n 0), (27, .bipush 120), (29, .if_icmp .ne 8), (32, .bipush 9), (34, .goto 4), (37, .iconst (-1)), (38, .ireturn)]
/-- TemplateScopes.isComplete()Z -/
def xk_86 : List (Nat × Instr) := [(0, .aload_n 0), (1, .getfield 30), (4, .aload_n 0), (5, .getfield 14), (8, .iconst 0), (9, .invokevirtual 96), (12, .aload_n 0), (13, .getfield 30), (16, .invokevirtual 104), (19, .ireturn)]
/-- TemplateScopes.outputLength()I -/
def xk_87 : List (Nat × Instr) := [(0, .aload_n 0), (1, .getfield 60), (4, .getfield 159), (7, .getfield 163), (10, .iconst 0), (11, .invokevirtual 92), (14, .ireturn)]
/-- TemplateScopes.hasFailed()Z -/
def xk_88 : List (Nat × Instr) := [(0, .aload_n 0), (1, .getfield 60), (4, .getfield 159), (7, .getfield 193), (10, .ifCond .eq 7), (13, .iconst 1), (14, .goto 4), (17, .iconst 0), (18, .ireturn)]
/-- TemplateScopes.failurePlaces()I -/
def xk_89 : List (Nat × Instr) := [(0, .aload_n 0), (1, .getfield 60), (4, .getfield 159), (7, .getfield 202), (10, .ireturn)]
/-- TemplateScopes.steps()I -/
def xk_90 : List (Nat × Instr) := [(0, .aload_n 0), (1, .getfield 60), (4, .getfield 159), (7, .getfield 213), (10, .ireturn)]
/-- TemplateScopes.plainPrinted()I -/
def xk_91 : List (Nat × Instr) := [(0, .aload_n 0), (1, .getfield 60), (4, .getfield 159), (7, .getfield 216), (10, .ireturn)]
/-- TemplateScopes.escapesPrinted()I -/
def xk_92 : List (Nat × Instr) := [(0, .aload_n 0), (1, .getfield 60), (4, .getfield 159), (7, .getfield 219), (10, .ireturn)]
/-- TemplateScopes.valuesPrinted()I -/
def xk_93 : List (Nat × Instr) := [(0, .aload_n 0), (1, .getfield 60), (4, .getfield 159), (7, .getfield 222), (10, .ireturn)]
/-- TemplateScopes.renderings()I -/
def xk_94 : List (Nat × Instr) := [(0, .aload_n 0), (1, .getfield 60), (4, .getfield 225), (7, .ireturn)]
/-- TemplateScopes.failures()I -/
def xk_95 : List (Nat × Instr) := [(0, .aload_n 0), (1, .getfield 60), (4, .getfield 228), (7, .ireturn)]
/-- TemplateScopes.printed()I -/
def xk_96 : List (Nat × Instr) := [(0, .aload_n 0), (1, .getfield 60), (4, .getfield 231), (7, .ireturn)]
/-- TemplateScopesLaw.cell([II)I -/
def xk_97 : List (Nat × Instr) := [(0, .iload_n 1), (1, .aload_n 0), (2, .arraylength), (3, .if_icmp .ge 9), (6, .aload_n 0), (7, .iload_n 1), (8, .iaload), (9, .goto 17), (12, .sipush 7919), (15, .iload_n 1), (16, .bipush 7), (18, .iadd), (19, .imul), (20, .iload_n 1), (21, .sipush 1117), (24, .iadd), (25, .imul), (26, .ireturn)]
/-- TemplateScopes.savedStates()I -/
def xk_98 : List (Nat × Instr) := [(0, .aload_n 0), (1, .getfield 70), (4, .invokevirtual 247), (7, .ireturn)]
/-- TemplateScopes.valueShare()D -/
def xk_99 : List (Nat × Instr) := [(0, .aload_n 0), (1, .invokevirtual 188), (4, .istore_n 1), (5, .iload_n 1), (6, .ifCond .le 14), (9, .aload_n 0), (10, .invokevirtual 255), (13, .i2d), (14, .iload_n 1), (15, .i2d), (16, .ddiv), (17, .goto 4), (20, .dconst 0), (21, .dreturn)]
/-- TemplateScopesLaw.low(II)I -/
def xk_100 : List (Nat × Instr) := [(0, .iload_n 0), (1, .ldc 7), (3, .iand), (4, .iload_n 1), (5, .irem), (6, .ireturn)]
/-- TemplateScopesLaw.changes(LTemplateScopes;III[I)I -/
def xk_101 : List (Nat × Instr) := [(0, .aload 4), (2, .iconst 0), (3, .iload_n 1), (4, .ifCond .ne 12), (7, .aload_n 0), (8, .iload_n 2), (9, .iload_n 3), (10, .invokevirtual 8), (13, .goto 87), (16, .iload_n 1), (17, .iconst 1), (18, .if_icmp .ne 11), (21, .aload_n 0), (22, .iload_n 2), (23, .invokevirtual 14), (26, .goto 74), (29, .iload_n 1), (30, .iconst 2), (31, .if_icmp .ne 11), (34, .aload_n 0), (35, .iload_n 2), (36, .invokevirtual 18), (39, .goto 61), (42, .iload_n 1), (43, .iconst 3), (44, .if_icmp .ne 12), (47, .aload_n 0), (48, .iload_n 2), (49, .iload_n 3), (50, .invokevirtual 21), (53, .goto 47), (56, .iload_n 1), (57, .iconst 4), (58, .if_icmp .ne 11), (61, .aload_n 0), (62, .iload_n 2), (63, .invokevirtual 24), (66, .goto 34), (69, .iload_n 1), (70, .iconst 5), (71, .if_icmp .ne 11), (74, .aload_n 0), (75, .iload_n 2), (76, .invokevirtual 27), (79, .goto 21), (82, .iload_n 1), (83, .bipush 6), (85, .if_icmp .ne 11), (88, .aload_n 0), (89, .iload_n 2), (90, .invokevirtual 30), (93, .goto 7), (96, .aload_n 0), (97, .invokevirtual 33), (100, .iastore), (101, .goto 15), (104, .astore 5), (106, .iconst 1), (107, .ireturn), (108, .astore 5), (110, .iconst 2), (111, .ireturn), (112, .astore 5), (114, .iconst 3), (115, .ireturn), (116, .iconst 0), (117, .ireturn)]
/-- TemplateScopesLaw.without(LTemplateScopes;I)I -/
def xk_102 : List (Nat × Instr) := [(0, .aload_n 0), (1, .iload_n 1), (2, .invokevirtual 43), (5, .ireturn), (6, .astore_n 2), (7, .bipush (-9)), (9, .ireturn)]
/-- TemplateScopesLaw.signOf(I)I -/
def xk_103 : List (Nat × Instr) := [(0, .iload_n 0), (1, .bipush 13), (3, .invokestatic 46), (6, .istore_n 1), (7, .iload_n 1), (8, .iconst 3), (9, .if_icmp .ge 8), (12, .bipush 123), (14, .goto 62), (17, .iload_n 1), (18, .iconst 3), (19, .if_icmp .ne 8), (22, .bipush 125), (24, .goto 52), (27, .iload_n 1), (28, .iconst 4), (29, .if_icmp .ne 8), (32, .bipush 126), (34, .goto 42), (37, .iload_n 1), (38, .iconst 5), (39, .if_icmp .ne 8), (42, .bipush 94), (44, .goto 32), (47, .iload_n 1), (48, .bipush 6), (50, .if_icmp .ne 8), (53, .bipush 42), (55, .goto 21), (58, .iload_n 1), (59, .bipush 7), (61, .if_icmp .ne 8), (64, .bipush 107), (66, .goto 10), (69, .bipush 97), (71, .iload_n 1), (72, .iadd), (73, .bipush 8), (75, .isub), (76, .ireturn)]
/-- TemplateScopesLaw.types(LTemplateScopes;LTemplateScopes;IZ)V -/
def xk_104 : List (Nat × Instr) := [(0, .iload_n 2), (1, .bipush 9), (3, .invokestatic 46), (6, .istore 4), (8, .bipush 97), (10, .iload_n 2), (11, .iconst 4), (12, .ishr), (13, .iconst 5), (14, .invokestatic 46), (17, .iadd), (18, .istore 5), (20, .iconst 0), (21, .istore 6), (23, .iload 4), (25, .iconst 2), (26, .if_icmp .ge 7), (29, .iconst 2), (30, .goto 14), (33, .iload 4), (35, .iconst 4), (36, .if_icmp .ge 7), (39, .iconst 4), (40, .goto 4), (43, .iconst 5), (44, .istore 7), (46, .iconst 0), (47, .istore 8), (49, .iload 8), (51, .iload 7), (53, .if_icmp .ge 185), (56, .aload_n 0), (57, .invokevirtual 51), (60, .bipush 60), (62, .if_icmp .ge 176), (65, .iload 4), (67, .iconst 2), (68, .if_icmp .ne 8), (71, .bipush 33), (73, .goto 40), (76, .iload 4), (78, .iconst 3), (79, .if_icmp .ne 8), (82, .bipush 94), (84, .goto 29), (87, .iload 4), (89, .bipush 6), (91, .if_icmp .ge 8), (94, .bipush 42), (96, .goto 17), (99, .iload 4), (101, .bipush 6), (103, .if_icmp .ne 8), (106, .bipush 63), (108, .goto 5), (111, .bipush 61), (113, .istore 9), (115, .iload 4), (117, .iconst 4), (118, .if_icmp .ge 8), (121, .bipush 125), (123, .goto 25), (126, .iload 8), (128, .iconst 3), (129, .if_icmp .ne 8), (132, .bipush 58), (134, .goto 14), (137, .iload_n 3), (138, .ifCond .eq 8), (141, .bipush 46), (143, .goto 5), (146, .bipush 125), (148, .istore 10), (150, .iload 4), (152, .ifCond .ne 8), (155, .bipush 46), (157, .goto 58), (160, .iload 4), (162, .iconst 1), (163, .if_icmp .ne 18), (166, .iload 8), (168, .ifCond .ne 8), (171, .bipush 126), (173, .goto 42), (176, .bipush 125), (178, .goto 37), (181, .iload 8), (183, .ifCond .ne 8), (186, .bipush 123), (188, .goto 27), (191, .iload 8), (193, .iconst 1), (194, .if_icmp .ne 8), (197, .iload 9), (199, .goto 16), (202, .iload 8), (204, .iconst 2), (205, .if_icmp .ne 8), (208, .iload 5), (210, .goto 5), (213, .iload 10), (215, .istore 11), (217, .aload_n 0), (218, .iload 11), (220, .invokevirtual 54), (223, .aload_n 1), (224, .iload 11), (226, .invokevirtual 54), (229, .iadd), (230, .istore 6), (232, .iinc 8 1), (235, .goto (-186)), (238, .return_)]
/-- TemplateScopes.failureReason()I -/
def xk_105 : List (Nat × Instr) := [(0, .aload_n 0), (1, .invokevirtual 197), (4, .ifCond .ne 13), (7, .new 85), (10, .dup), (11, .ldc 200), (13, .invokespecial 89), (16, .athrow), (17, .aload_n 0), (18, .getfield 60), (21, .getfield 159), (24, .getfield 193), (27, .ireturn)]
/-- TemplateScopes.failurePlace(I)I -/
def xk_106 : List (Nat × Instr) := [(0, .iload_n 1), (1, .ifCond .lt 11), (4, .iload_n 1), (5, .aload_n 0), (6, .invokevirtual 205), (9, .if_icmp .lt 13), (12, .new 172), (15, .dup), (16, .ldc 208), (18, .invokespecial 176), (21, .athrow), (22, .aload_n 0), (23, .getfield 60), (26, .getfield 159), (29, .iload_n 1), (30, .invokevirtual 210), (33, .ireturn)]
/-- TemplateScopes.hasValue(I)Z -/
def xk_107 : List (Nat × Instr) := [(0, .iload_n 1), (1, .invokestatic 126), (4, .aload_n 0), (5, .getfield 60), (8, .getfield 129), (11, .iload_n 1), (12, .invokevirtual 92), (15, .iconst (-1)), (16, .if_icmp .eq 7), (19, .iconst 1), (20, .goto 4), (23, .iconst 0), (24, .ireturn)]
/-- TemplateScopes.requireVariable(I)V -/
def xk_108 : List (Nat × Instr) := [(0, .iload_n 0), (1, .ifCond .lt 9), (4, .iload_n 0), (5, .bipush 8), (7, .if_icmp .lt 14), (10, .new 172), (13, .dup), (14, .ldc_w 332), (17, .invokespecial 176), (20, .athrow), (21, .return_)]
/-- TemplateScopes.isTemplate(I)Z -/
def xk_109 : List (Nat × Instr) := [(0, .aload_n 0), (1, .iload_n 1), (2, .invokevirtual 138), (5, .pop), (6, .aload_n 0), (7, .getfield 30), (10, .aload_n 0), (11, .getfield 60), (14, .getfield 129), (17, .iload_n 1), (18, .invokevirtual 96), (21, .aload_n 0), (22, .getfield 30), (25, .invokevirtual 104), (28, .ireturn)]
/-- TemplateScopes.requireValue(I)I -/
def xk_110 : List (Nat × Instr) := [(0, .iload_n 1), (1, .invokestatic 126), (4, .aload_n 0), (5, .getfield 60), (8, .getfield 129), (11, .iload_n 1), (12, .invokevirtual 92), (15, .istore_n 2), (16, .iload_n 2), (17, .iconst (-1)), (18, .if_icmp .ne 14), (21, .new 85), (24, .dup), (25, .ldc_w 334), (28, .invokespecial 89), (31, .athrow), (32, .iload_n 2), (33, .ireturn)]
/-- TemplateScopes.escapedLength(I)I -/
def xk_111 : List (Nat × Instr) := [(0, .aload_n 0), (1, .iload_n 1), (2, .invokevirtual 138), (5, .pop), (6, .aload_n 0), (7, .iload_n 1), (8, .invokevirtual 154), (11, .ireturn)]
/-- TemplateScopes.escapeAside(I)I -/
def xk_112 : List (Nat × Instr) := [(0, .aload_n 0), (1, .getfield 22), (4, .iconst 0), (5, .invokevirtual 18), (8, .iconst 0), (9, .istore_n 2), (10, .iload_n 2), (11, .aload_n 0), (12, .getfield 60), (15, .getfield 129), (18, .iload_n 1), (19, .invokevirtual 92), (22, .if_icmp .ge 50), (25, .aload_n 0), (26, .getfield 60), (29, .getfield 129), (32, .iload_n 1), (33, .iload_n 2), (34, .invokevirtual 177), (37, .istore_n 3), (38, .iload_n 3), (39, .invokestatic 340), (42, .ifCond .eq 14), (45, .aload_n 0), (46, .getfield 22), (49, .iconst 0), (50, .bipush 126), (52, .invokevirtual 81), (55, .pop), (56, .aload_n 0), (57, .getfield 22), (60, .iconst 0), (61, .iload_n 3), (62, .invokevirtual 81), (65, .pop), (66, .iinc 2 1), (69, .goto (-59)), (72, .aload_n 0), (73, .getfield 22), (76, .iconst 0), (77, .invokevirtual 92), (80, .ireturn)]
/-- TemplateScopes.isSpecial(I)Z -/
def xk_113 : List (Nat × Instr) := [(0, .iload_n 0), (1, .bipush 123), (3, .if_icmp .eq 15), (6, .iload_n 0), (7, .bipush 125), (9, .if_icmp .eq 9), (12, .iload_n 0), (13, .bipush 126), (15, .if_icmp .ne 7), (18, .iconst 1), (19, .goto 4), (22, .iconst 0), (23, .ireturn)]
/-- TemplateScopes.alikeBehindEscaping(I)I -/
def xk_114 : List (Nat × Instr) := [(0, .aload_n 0), (1, .iload_n 1), (2, .invokevirtual 138), (5, .istore_n 2), (6, .aload_n 0), (7, .iload_n 1), (8, .invokevirtual 154), (11, .pop), (12, .aload_n 0), (13, .getfield 30), (16, .aload_n 0), (17, .getfield 22), (20, .iconst 0), (21, .invokevirtual 96), (24, .aload_n 0), (25, .iconst (-1)), (26, .invokevirtual 180), (29, .aload_n 0), (30, .getfield 37), (33, .getfield 183), (36, .getfield 163), (39, .astore_n 3), (40, .iconst 0), (41, .istore 4), (43, .iconst 0), (44, .istore 5), (46, .iload 5), (48, .iload_n 2), (49, .if_icmp .ge 45), (52, .iload 5), (54, .aload_n 3), (55, .iconst 0), (56, .invokevirtual 92), (59, .if_icmp .ge 35), (62, .aload_n 3), (63, .iconst 0), (64, .iload 5), (66, .invokevirtual 177), (69, .aload_n 0), (70, .getfield 60), (73, .getfield 129), (76, .iload_n 1), (77, .iload 5), (79, .invokevirtual 177), (82, .if_icmp .ne 6), (85, .iinc 4 1), (88, .iinc 5 1), (91, .goto (-45)), (94, .iload 4), (96, .ireturn)]
/-- TemplateScopes.runByParts(I)V -/
def xk_115 : List (Nat × Instr) := [(0, .aload_n 0), (1, .getfield 37), (4, .aload_n 0), (5, .getfield 60), (8, .getfield 129), (11, .iload_n 1), (12, .invokevirtual 234), (15, .aload_n 0), (16, .getfield 46), (19, .aload_n 0), (20, .getfield 30), (23, .iconst 0), (24, .aload_n 0), (25, .getfield 30), (28, .invokevirtual 111), (31, .iconst 0), (32, .invokevirtual 343), (35, .pop), (36, .return_)]
/-- TemplateScopes.parts()I -/
def xk_116 : List (Nat × Instr) := [(0, .aload_n 0), (1, .invokevirtual 108), (4, .aload_n 0), (5, .getfield 30), (8, .invokevirtual 111), (11, .ireturn)]
/-- TemplateScopes.requireComplete()V -/
def xk_117 : List (Nat × Instr) := [(0, .aload_n 0), (1, .getfield 30), (4, .aload_n 0), (5, .getfield 14), (8, .iconst 0), (9, .invokevirtual 96), (12, .aload_n 0), (13, .getfield 30), (16, .invokevirtual 104), (19, .ifCond .ne 14), (22, .new 85), (25, .dup), (26, .ldc_w 336), (29, .invokespecial 89), (32, .athrow), (33, .return_)]
/-- TemplateScopes.depth()I -/
def xk_118 : List (Nat × Instr) := [(0, .aload_n 0), (1, .invokevirtual 108), (4, .aload_n 0), (5, .getfield 30), (8, .invokevirtual 114), (11, .ireturn)]
/-- TemplateScopes.names()I -/
def xk_119 : List (Nat × Instr) := [(0, .aload_n 0), (1, .invokevirtual 108), (4, .aload_n 0), (5, .getfield 30), (8, .invokevirtual 117), (11, .ireturn)]
/-- TemplateScopes.namesSet()I -/
def xk_120 : List (Nat × Instr) := [(0, .aload_n 0), (1, .invokevirtual 108), (4, .aload_n 0), (5, .getfield 30), (8, .invokevirtual 120), (11, .ireturn)]
/-- TemplateScopes.loops()I -/
def xk_121 : List (Nat × Instr) := [(0, .aload_n 0), (1, .invokevirtual 108), (4, .aload_n 0), (5, .getfield 30), (8, .invokevirtual 123), (11, .ireturn)]
/-- TemplateScopes.wouldPrint()I -/
def xk_122 : List (Nat × Instr) := [(0, .aload_n 0), (1, .invokevirtual 108), (4, .aload_n 0), (5, .iconst (-1)), (6, .invokevirtual 180), (9, .aload_n 0), (10, .getfield 37), (13, .getfield 183), (16, .getfield 163), (19, .iconst 0), (20, .invokevirtual 92), (23, .ireturn)]
/-- TemplateScopes.wouldPrintByText()I -/
def xk_123 : List (Nat × Instr) := [(0, .aload_n 0), (1, .invokevirtual 108), (4, .aload_n 0), (5, .getfield 37), (8, .aload_n 0), (9, .getfield 60), (12, .getfield 129), (15, .iconst (-1)), (16, .invokevirtual 234), (19, .aload_n 0), (20, .getfield 53), (23, .aload_n 0), (24, .getfield 14), (27, .invokevirtual 237), (30, .aload_n 0), (31, .getfield 37), (34, .getfield 183), (37, .getfield 163), (40, .iconst 0), (41, .invokevirtual 92), (44, .ireturn)]
/-- TemplateScopes.wouldFail()I -/
def xk_124 : List (Nat × Instr) := [(0, .aload_n 0), (1, .invokevirtual 108), (4, .aload_n 0), (5, .iconst (-1)), (6, .invokevirtual 180), (9, .aload_n 0), (10, .getfield 37), (13, .getfield 183), (16, .getfield 193), (19, .ireturn)]
/-- TemplateScopesLaw.fills(LTemplateScopes;LTemplateScopes;I)V -/
def xk_125 : List (Nat × Instr) := [(0, .aload_n 0), (1, .invokevirtual 57), (4, .aload_n 1), (5, .invokevirtual 57), (8, .iadd), (9, .istore_n 3), (10, .iconst 0), (11, .istore 4), (13, .iconst 0), (14, .istore 5), (16, .iload 5), (18, .bipush 8), (20, .if_icmp .ge 84), (23, .aload_n 0), (24, .invokevirtual 51), (27, .bipush 50), (29, .if_icmp .ge 75), (32, .iload_n 2), (33, .iconst 3), (34, .iload 5), (36, .imul), (37, .ishr), (38, .iload_n 2), (39, .iconst 2), (40, .iload 5), (42, .imul), (43, .ishr), (44, .ixor), (45, .istore 6), (47, .iload_n 2), (48, .iload 5), (50, .ishr), (51, .iconst 1), (52, .iand), (53, .ifCond .ne 18), (56, .iload 6), (58, .bipush 9), (60, .invokestatic 46), (63, .iconst 3), (64, .if_icmp .le 7), (67, .iconst 1), (68, .goto 4), (71, .iconst 0), (72, .istore 7), (74, .aload_n 0), (75, .aload_n 1), (76, .iload 6), (78, .iload 7), (80, .invokestatic 60), (83, .iload 4), (85, .iload 7), (87, .ifCond .eq 7), (90, .iconst 1), (91, .goto 4), (94, .iconst 0), (95, .iadd), (96, .istore 4), (98, .iinc 5 1), (101, .goto (-85)), (104, .iconst 0), (105, .istore 5), (107, .iload 5), (109, .iload 4), (111, .if_icmp .ge 32), (114, .aload_n 0), (115, .invokevirtual 51), (118, .bipush 60), (120, .if_icmp .ge 23), (123, .aload_n 0), (124, .bipush 125), (126, .invokevirtual 54), (129, .aload_n 1), (130, .bipush 125), (132, .invokevirtual 54), (135, .iadd), (136, .istore_n 3), (137, .iinc 5 1), (140, .goto (-33)), (143, .return_)]
/-- TemplateScopes.append(I)I -/
def xk_126 : List (Nat × Instr) := [(0, .iload_n 1), (1, .invokestatic 78), (4, .aload_n 0), (5, .getfield 14), (8, .iconst 0), (9, .iload_n 1), (10, .invokevirtual 81), (13, .ifCond .ne 13), (16, .new 85), (19, .dup), (20, .ldc 87), (22, .invokespecial 89), (25, .athrow), (26, .aload_n 0), (27, .getfield 14), (30, .iconst 0), (31, .invokevirtual 92), (34, .ireturn)]
/-- TemplateScopes.requireCode(I)V -/
def xk_127 : List (Nat × Instr) := [(0, .iload_n 0), (1, .bipush 33), (3, .if_icmp .lt 9), (6, .iload_n 0), (7, .bipush 126), (9, .if_icmp .le 14), (12, .new 327), (15, .dup), (16, .ldc_w 329), (19, .invokespecial 331), (22, .athrow), (23, .return_)]
/-- TemplateScopes.appendValue(II)I -/
def xk_128 : List (Nat × Instr) := [(0, .iload_n 1), (1, .invokestatic 126), (4, .iload_n 2), (5, .invokestatic 78), (8, .aload_n 0), (9, .getfield 60), (12, .getfield 129), (15, .iload_n 1), (16, .invokevirtual 92), (19, .istore_n 3), (20, .iload_n 3), (21, .bipush 24), (23, .if_icmp .lt 13), (26, .new 85), (29, .dup), (30, .ldc 132), (32, .invokespecial 89), (35, .athrow), (36, .aload_n 0), (37, .getfield 70), (40, .aload_n 0), (41, .getfield 60), (44, .invokevirtual 134), (47, .iload_n 3), (48, .iconst (-1)), (49, .if_icmp .ne 14), (52, .aload_n 0), (53, .getfield 60), (56, .getfield 129), (59, .iload_n 1), (60, .invokevirtual 18), (63, .aload_n 0), (64, .getfield 60), (67, .getfield 129), (70, .iload_n 1), (71, .iload_n 2), (72, .invokevirtual 81), (75, .pop), (76, .aload_n 0), (77, .getfield 60), (80, .getfield 129), (83, .iload_n 1), (84, .invokevirtual 92), (87, .ireturn)]
/-- TemplateScopes.removeValue(I)I -/
def xk_129 : List (Nat × Instr) := [(0, .aload_n 0), (1, .iload_n 1), (2, .invokevirtual 138), (5, .istore_n 2), (6, .aload_n 0), (7, .getfield 70), (10, .aload_n 0), (11, .getfield 60), (14, .invokevirtual 134), (17, .aload_n 0), (18, .getfield 60), (21, .getfield 129), (24, .iload_n 1), (25, .invokevirtual 141), (28, .iload_n 2), (29, .ireturn)]
/-- TemplateScopes.emptyValue(I)I -/
def xk_130 : List (Nat × Instr) := [(0, .iload_n 1), (1, .invokestatic 126), (4, .iconst 0), (5, .aload_n 0), (6, .getfield 60), (9, .getfield 129), (12, .iload_n 1), (13, .invokevirtual 92), (16, .invokestatic 144), (19, .istore_n 2), (20, .aload_n 0), (21, .getfield 70), (24, .aload_n 0), (25, .getfield 60), (28, .invokevirtual 134), (31, .aload_n 0), (32, .getfield 60), (35, .getfield 129), (38, .iload_n 1), (39, .invokevirtual 18), (42, .iload_n 2), (43, .ireturn)]
/-- TemplateScopes.copyValue(II)I -/
def xk_131 : List (Nat × Instr) := [(0, .iload_n 1), (1, .invokestatic 126), (4, .aload_n 0), (5, .iload_n 2), (6, .invokevirtual 138), (9, .istore_n 3), (10, .aload_n 0), (11, .getfield 70), (14, .aload_n 0), (15, .getfield 60), (18, .invokevirtual 134), (21, .aload_n 0), (22, .getfield 60), (25, .getfield 129), (28, .iload_n 1), (29, .aload_n 0), (30, .getfield 60), (33, .getfield 129), (36, .iload_n 2), (37, .invokevirtual 150), (40, .iload_n 3), (41, .ireturn)]
/-- TemplateScopes.escapeValue(I)I -/
def xk_132 : List (Nat × Instr) := [(0, .aload_n 0), (1, .iload_n 1), (2, .invokevirtual 138), (5, .pop), (6, .aload_n 0), (7, .iload_n 1), (8, .invokevirtual 154), (11, .istore_n 2), (12, .iload_n 2), (13, .bipush 24), (15, .if_icmp .le 13), (18, .new 85), (21, .dup), (22, .ldc 157), (24, .invokespecial 89), (27, .athrow), (28, .aload_n 0), (29, .getfield 70), (32, .aload_n 0), (33, .getfield 60), (36, .invokevirtual 134), (39, .aload_n 0), (40, .getfield 60), (43, .getfield 129), (46, .iload_n 1), (47, .aload_n 0), (48, .getfield 22), (51, .iconst 0), (52, .invokevirtual 150), (55, .iload_n 2), (56, .ireturn)]
/-- TemplateScopes.takeOutput(I)I -/
def xk_133 : List (Nat × Instr) := [(0, .iload_n 1), (1, .invokestatic 126), (4, .aload_n 0), (5, .iload_n 1), (6, .aload_n 0), (7, .getfield 60), (10, .getfield 159), (13, .getfield 163), (16, .invokevirtual 168), (19, .ireturn)]
/-- TemplateScopes.takeText(ILTemplateScopes$Texts;)I -/
def xk_134 : List (Nat × Instr) := [(0, .aload_n 2), (1, .iconst 0), (2, .invokevirtual 92), (5, .istore_n 3), (6, .iload_n 3), (7, .bipush 24), (9, .if_icmp .le 14), (12, .new 85), (15, .dup), (16, .ldc_w 338), (19, .invokespecial 89), (22, .athrow), (23, .aload_n 0), (24, .getfield 70), (27, .aload_n 0), (28, .getfield 60), (31, .invokevirtual 134), (34, .aload_n 0), (35, .getfield 60), (38, .getfield 129), (41, .iload_n 1), (42, .aload_n 2), (43, .iconst 0), (44, .invokevirtual 150), (47, .iload_n 3), (48, .ireturn)]
/-- TemplateScopes.takeTemplate(I)I -/
def xk_135 : List (Nat × Instr) := [(0, .iload_n 1), (1, .invokestatic 126), (4, .aload_n 0), (5, .iload_n 1), (6, .aload_n 0), (7, .getfield 14), (10, .invokevirtual 168), (13, .ireturn)]
/-- TemplateScopes.valueLength(I)I -/
def xk_136 : List (Nat × Instr) := [(0, .aload_n 0), (1, .iload_n 1), (2, .invokevirtual 138), (5, .ireturn)]
/-- TemplateScopes.valueCharacter(II)I -/
def xk_137 : List (Nat × Instr) := [(0, .aload_n 0), (1, .iload_n 1), (2, .invokevirtual 138), (5, .istore_n 3), (6, .iload_n 2), (7, .ifCond .lt 8), (10, .iload_n 2), (11, .iload_n 3), (12, .if_icmp .lt 13), (15, .new 172), (18, .dup), (19, .ldc 174), (21, .invokespecial 176), (24, .athrow), (25, .aload_n 0), (26, .getfield 60), (29, .getfield 129), (32, .iload_n 1), (33, .iload_n 2), (34, .invokevirtual 177), (37, .ireturn)]
/-- TemplateScopes.render()I -/
def xk_138 : List (Nat × Instr) := [(0, .aload_n 0), (1, .invokevirtual 108), (4, .aload_n 0), (5, .getfield 70), (8, .aload_n 0), (9, .getfield 60), (12, .invokevirtual 134), (15, .aload_n 0), (16, .iconst (-1)), (17, .invokevirtual 180), (20, .aload_n 0), (21, .getfield 60), (24, .aload_n 0), (25, .getfield 37), (28, .getfield 183), (31, .invokevirtual 184), (34, .aload_n 0), (35, .invokevirtual 188), (38, .ireturn)]
/-- TemplateScopes.outputCharacter(I)I -/
def xk_139 : List (Nat × Instr) := [(0, .iload_n 1), (1, .ifCond .lt 11), (4, .iload_n 1), (5, .aload_n 0), (6, .invokevirtual 188), (9, .if_icmp .lt 13), (12, .new 172), (15, .dup), (16, .ldc 191), (18, .invokespecial 176), (21, .athrow), (22, .aload_n 0), (23, .getfield 60), (26, .getfield 159), (29, .getfield 163), (32, .iconst 0), (33, .iload_n 1), (34, .invokevirtual 177), (37, .ireturn)]
/-- TemplateScopes.wouldPrintWithout(I)I -/
def xk_140 : List (Nat × Instr) := [(0, .iload_n 1), (1, .invokestatic 126), (4, .aload_n 0), (5, .invokevirtual 108), (8, .aload_n 0), (9, .iload_n 1), (10, .invokevirtual 180), (13, .aload_n 0), (14, .getfield 37), (17, .getfield 183), (20, .getfield 163), (23, .iconst 0), (24, .invokevirtual 92), (27, .ireturn)]
/-- TemplateScopes.undo()I -/
def xk_141 : List (Nat × Instr) := [(0, .aload_n 0), (1, .getfield 70), (4, .aload_n 0), (5, .getfield 60), (8, .invokevirtual 241), (11, .ifCond .ne 13), (14, .new 85), (17, .dup), (18, .ldc 245), (20, .invokespecial 89), (23, .athrow), (24, .aload_n 0), (25, .getfield 70), (28, .invokevirtual 247), (31, .ireturn)]
/-- TemplateScopesLaw.act(LTemplateScopes;I[I)I -/
def xk_142 : List (Nat × Instr) := [(0, .iload_n 1), (1, .iconst 5), (2, .ishr), (3, .istore_n 3), (4, .iload_n 1), (5, .bipush 22), (7, .ishr), (8, .bipush 9), (10, .invokestatic 46), (13, .ifCond .le 7), (16, .iconst 1), (17, .goto 4), (20, .iconst 0), (21, .istore 4), (23, .iload_n 1), (24, .bipush 24), (26, .invokestatic 46), (29, .istore 5), (31, .iload_n 3), (32, .iload 4), (34, .ifCond .eq 8), (37, .bipush 8), (39, .goto 5), (42, .bipush 10), (44, .invokestatic 46), (47, .istore 6), (49, .iload_n 3), (50, .bipush 12), (52, .ishr), (53, .iconst 1), (54, .iand), (55, .ifCond .ne 11), (58, .iload_n 3), (59, .iconst 4), (60, .invokestatic 46), (63, .goto 5), (66, .iload 6), (68, .istore 6), (70, .iload 5), (72, .bipush 8), (74, .if_icmp .ge 35), (77, .aload_n 0), (78, .iconst 0), (79, .iload 6), (81, .iload 4), (83, .ifCond .eq 12), (86, .iload_n 3), (87, .iconst 4), (88, .ishr), (89, .invokestatic 64), (92, .goto 12), (95, .iload_n 3), (96, .iconst 4), (97, .ishr), (98, .sipush 140), (101, .invokestatic 46), (104, .aload_n 2), (105, .invokestatic 67), (108, .ireturn), (109, .iload 5), (111, .bipush 16), (113, .if_icmp .ge 15), (116, .aload_n 0), (117, .bipush 7), (119, .iconst 0), (120, .iconst 0), (121, .aload_n 2), (122, .invokestatic 67), (125, .goto 125), (128, .iload 5), (130, .bipush 16), (132, .if_icmp .ne 15), (135, .aload_n 0), (136, .iconst 1), (137, .iload 6), (139, .iconst 0), (140, .aload_n 2), (141, .invokestatic 67), (144, .goto 106), (147, .iload 5), (149, .bipush 17), (151, .if_icmp .ne 15), (154, .aload_n 0), (155, .iconst 2), (156, .iload 6), (158, .iconst 0), (159, .aload_n 2), (160, .invokestatic 67), (163, .goto 87), (166, .iload 5), (168, .bipush 18), (170, .if_icmp .ne 32), (173, .aload_n 0), (174, .iconst 3), (175, .iload 6), (177, .iload_n 3), (178, .iconst 4), (179, .ishr), (180, .iload 4), (182, .ifCond .eq 8), (185, .bipush 8), (187, .goto 5), (190, .bipush 9), (192, .invokestatic 46), (195, .aload_n 2), (196, .invokestatic 67), (199, .goto 51), (202, .iload 5), (204, .bipush 19), (206, .if_icmp .ne 15), (209, .aload_n 0), (210, .iconst 4), (211, .iload 6), (213, .iconst 0), (214, .aload_n 2), (215, .invokestatic 67), (218, .goto 32), (221, .iload 5), (223, .bipush 22), (225, .if_icmp .ge 15), (228, .aload_n 0), (229, .iconst 5), (230, .iload 6), (232, .iconst 0), (233, .aload_n 2), (234, .invokestatic 67), (237, .goto 13), (240, .aload_n 0), (241, .bipush 6), (243, .iload 6), (245, .iconst 0), (246, .aload_n 2), (247, .invokestatic 67), (250, .ireturn)]
/-- TemplateScopesLaw.areAlike(LTemplateScopes;LTemplateScopes;)Z -/
def xk_143 : List (Nat × Instr) := [(0, .aload_n 0), (1, .invokevirtual 71), (4, .aload_n 1), (5, .invokevirtual 71), (8, .if_icmp .ne 106), (11, .aload_n 0), (12, .invokevirtual 74), (15, .aload_n 1), (16, .invokevirtual 74), (19, .if_icmp .ne 95), (22, .aload_n 0), (23, .invokevirtual 78), (26, .aload_n 1), (27, .invokevirtual 78), (30, .if_icmp .ne 84), (33, .aload_n 0), (34, .invokevirtual 81), (37, .aload_n 1), (38, .invokevirtual 81), (41, .if_icmp .ne 73), (44, .aload_n 0), (45, .invokevirtual 84), (48, .aload_n 1), (49, .invokevirtual 84), (52, .if_icmp .ne 62), (55, .aload_n 0), (56, .invokevirtual 87), (59, .aload_n 1), (60, .invokevirtual 87), (63, .if_icmp .ne 51), (66, .aload_n 0), (67, .invokevirtual 90), (70, .aload_n 1), (71, .invokevirtual 90), (74, .if_icmp .ne 40), (77, .aload_n 0), (78, .invokevirtual 93), (81, .aload_n 1), (82, .invokevirtual 93), (85, .if_icmp .ne 29), (88, .aload_n 0), (89, .invokevirtual 96), (92, .aload_n 1), (93, .invokevirtual 96), (96, .if_icmp .ne 18), (99, .aload_n 0), (100, .invokevirtual 99), (103, .aload_n 1), (104, .invokevirtual 99), (107, .if_icmp .ne 7), (110, .iconst 1), (111, .goto 4), (114, .iconst 0), (115, .istore_n 2), (116, .iconst 0), (117, .istore_n 3), (118, .iload_n 3), (119, .aload_n 0), (120, .invokevirtual 71), (123, .if_icmp .ge 32), (126, .iload_n 2), (127, .ifCond .eq 28), (130, .aload_n 0), (131, .iload_n 3), (132, .invokevirtual 102), (135, .aload_n 1), (136, .iload_n 3), (137, .invokevirtual 102), (140, .if_icmp .ne 7), (143, .iconst 1), (144, .goto 4), (147, .iconst 0), (148, .istore_n 2), (149, .iinc 3 1), (152, .goto (-34)), (155, .iconst 0), (156, .istore_n 3), (157, .iload_n 3), (158, .bipush 8), (160, .if_icmp .ge 107), (163, .iload_n 2), (164, .ifCond .eq 103), (167, .aload_n 0), (168, .iload_n 3), (169, .invokevirtual 105), (172, .aload_n 1), (173, .iload_n 3), (174, .invokevirtual 105), (177, .if_icmp .ne 28), (180, .aload_n 0), (181, .iload_n 3), (182, .invokevirtual 105), (185, .ifCond .eq 16), (188, .aload_n 0), (189, .iload_n 3), (190, .invokevirtual 109), (193, .aload_n 1), (194, .iload_n 3), (195, .invokevirtual 109), (198, .if_icmp .ne 7), (201, .iconst 1), (202, .goto 4), (205, .iconst 0), (206, .istore_n 2), (207, .iconst 0), (208, .istore 4), (210, .iload_n 2), (211, .ifCond .eq 50), (214, .aload_n 0), (215, .iload_n 3), (216, .invokevirtual 105), (219, .ifCond .eq 42), (222, .iload 4), (224, .aload_n 0), (225, .iload_n 3), (226, .invokevirtual 109), (229, .if_icmp .ge 32), (232, .aload_n 0), (233, .iload_n 3), (234, .iload 4), (236, .invokevirtual 112), (239, .aload_n 1), (240, .iload_n 3), (241, .iload 4), (243, .invokevirtual 112), (246, .if_icmp .ne 7), (249, .iconst 1), (250, .goto 4), (253, .iconst 0), (254, .istore_n 2), (255, .iinc 4 1), (258, .goto (-48)), (261, .iinc 3 1), (264, .goto (-107)), (267, .iload_n 2), (268, .ireturn)]
/-- TemplateScopesLaw.isOutputSo(LTemplateScopes;)Z -/
def xk_144 : List (Nat × Instr) := [(0, .aload_n 0), (1, .invokevirtual 71), (4, .istore_n 1), (5, .iload_n 1), (6, .ifCond .lt 135), (9, .iload_n 1), (10, .sipush 200), (13, .if_icmp .gt 128), (16, .aload_n 0), (17, .invokevirtual 84), (20, .aload_n 0), (21, .invokevirtual 87), (24, .iadd), (25, .aload_n 0), (26, .invokevirtual 90), (29, .iadd), (30, .iload_n 1), (31, .if_icmp .ne 110), (34, .aload_n 0), (35, .invokevirtual 81), (38, .ifCond .lt 103), (41, .aload_n 0), (42, .invokevirtual 81), (45, .sipush 200), (48, .if_icmp .gt 93), (51, .aload_n 0), (52, .invokevirtual 84), (55, .aload_n 0), (56, .invokevirtual 87), (59, .iadd), (60, .aload_n 0), (61, .invokevirtual 81), (64, .if_icmp .gt 77), (67, .aload_n 0), (68, .invokevirtual 96), (71, .aload_n 0), (72, .invokevirtual 93), (75, .if_icmp .gt 66), (78, .aload_n 0), (79, .invokevirtual 99), (82, .iload_n 1), (83, .if_icmp .lt 58), (86, .aload_n 0), (87, .invokevirtual 115), (90, .iload_n 1), (91, .ifCond .ne 7), (94, .dconst 0), (95, .goto 13), (98, .aload_n 0), (99, .invokevirtual 90), (102, .i2d), (103, .dconst 1), (104, .dmul), (105, .iload_n 1), (106, .i2d), (107, .ddiv), (108, .dcmp .l), (109, .ifCond .ne 32), (112, .aload_n 0), (113, .invokevirtual 93), (116, .ifCond .gt 21), (119, .iload_n 1), (120, .ifCond .ne 21), (123, .aload_n 0), (124, .invokevirtual 81), (127, .ifCond .ne 14), (130, .aload_n 0), (131, .invokevirtual 74), (134, .ifCond .ne 7), (137, .iconst 1), (138, .goto 4), (141, .iconst 0), (142, .istore_n 2), (143, .aload_n 0), (144, .invokevirtual 74), (147, .ifCond .ne 20), (150, .iload_n 2), (151, .ifCond .eq 14), (154, .aload_n 0), (155, .invokevirtual 78), (158, .ifCond .ne 7), (161, .iconst 1), (162, .goto 4), (165, .iconst 0), (166, .ireturn), (167, .aload_n 0), (168, .invokevirtual 119), (171, .istore_n 3), (172, .aload_n 0), (173, .invokevirtual 78), (176, .istore 4), (178, .iload_n 2), (179, .ifCond .eq 78), (182, .iload_n 3), (183, .ifCond .le 74), (186, .iload_n 3), (187, .bipush 7), (189, .if_icmp .ge 68), (192, .iload 4), (194, .ifCond .le 63), (197, .iload 4), (199, .bipush 7), (201, .if_icmp .ge 56), (204, .iload_n 3), (205, .iconst 5), (206, .if_icmp .ne 9), (209, .iload 4), (211, .iconst 1), (212, .if_icmp .le 45), (215, .iload_n 3), (216, .iconst 4), (217, .if_icmp .ne 9), (220, .iload 4), (222, .iconst 5), (223, .if_icmp .ne 34), (226, .iload_n 3), (227, .iconst 2), (228, .if_icmp .ne 10), (231, .iload_n 1), (232, .sipush 200), (235, .if_icmp .ne 22), (238, .iload_n 3), (239, .iconst 3), (240, .if_icmp .ne 13), (243, .aload_n 0), (244, .invokevirtual 81), (247, .sipush 200), (250, .if_icmp .ne 7), (253, .iconst 1), (254, .goto 4), (257, .iconst 0), (258, .istore_n 2), (259, .iconst 0), (260, .istore 5), (262, .iload 5), (264, .iload 4), (266, .if_icmp .ge 49), (269, .iload_n 2), (270, .ifCond .eq 37), (273, .aload_n 0), (274, .iload 5), (276, .invokevirtual 122), (279, .ifCond .lt 28), (282, .aload_n 0), (283, .iload 5), (285, .invokevirtual 122), (288, .iload 5), (290, .ifCond .ne 8), (293, .bipush 60), (295, .goto 5), (298, .bipush 25), (300, .if_icmp .ge 7), (303, .iconst 1), (304, .goto 4), (307, .iconst 0), (308, .istore_n 2), (309, .iinc 5 1), (312, .goto (-50)), (315, .iload_n 2), (316, .ireturn)]
/-- TemplateScopesLaw.isTemplateSo(LTemplateScopes;I)Z -/
def xk_145 : List (Nat × Instr) := [(0, .aload_n 0), (1, .invokevirtual 51), (4, .istore_n 2), (5, .aload_n 0), (6, .invokevirtual 125), (9, .istore_n 3), (10, .aload_n 0), (11, .invokevirtual 128), (14, .istore 4), (16, .iload 4), (18, .ifCond .ne 28), (21, .iload_n 3), (22, .ifCond .lt 22), (25, .iload_n 3), (26, .iload_n 2), (27, .if_icmp .gt 17), (30, .aload_n 0), (31, .iload_n 1), (32, .invokestatic 131), (35, .bipush (-9)), (37, .if_icmp .ne 7), (40, .iconst 1), (41, .goto 4), (44, .iconst 0), (45, .ireturn), (46, .aload_n 0), (47, .invokevirtual 135), (50, .istore 5), (52, .aload_n 0), (53, .invokevirtual 138), (56, .istore 6), (58, .aload_n 0), (59, .invokevirtual 141), (62, .istore 7), (64, .iload_n 3), (65, .iload_n 2), (66, .if_icmp .ne 93), (69, .iload 5), (71, .iload_n 2), (72, .if_icmp .gt 87), (75, .iload 6), (77, .iload 5), (79, .if_icmp .gt 80), (82, .iload 5), (84, .ifCond .ne 7), (87, .iconst 1), (88, .goto 4), (91, .iconst 0), (92, .iload_n 2), (93, .ifCond .ne 7), (96, .iconst 1), (97, .goto 4), (100, .iconst 0), (101, .if_icmp .ne 58), (104, .iload 6), (106, .ifCond .ne 7), (109, .iconst 1), (110, .goto 4), (113, .iconst 0), (114, .iload_n 2), (115, .ifCond .ne 7), (118, .iconst 1), (119, .goto 4), (122, .iconst 0), (123, .if_icmp .ne 36), (126, .aload_n 0), (127, .invokevirtual 144), (130, .iload 7), (132, .iconst (-1)), (133, .ixor), (134, .iand), (135, .ifCond .ne 24), (138, .iload 7), (140, .sipush 1024), (143, .if_icmp .ge 16), (146, .aload_n 0), (147, .invokevirtual 147), (150, .iload 5), (152, .if_icmp .gt 7), (155, .iconst 1), (156, .goto 4), (159, .iconst 0), (160, .istore 8), (162, .aload_n 0), (163, .invokevirtual 150), (166, .istore 9), (168, .aload_n 0), (169, .invokevirtual 153), (172, .istore 10), (174, .aload_n 0), (175, .invokevirtual 99), (178, .istore 11), (180, .aload_n 0), (181, .invokevirtual 96), (184, .istore 12), (186, .iload 8), (188, .ifCond .eq 146), (191, .aload_n 0), (192, .invokevirtual 156), (195, .iload 9), (197, .if_icmp .ne 137), (200, .iload 7), (202, .iload_n 1), (203, .ishr), (204, .iconst 1), (205, .iand), (206, .iconst 1), (207, .if_icmp .eq 18), (210, .iload 7), (212, .ifCond .ne 13), (215, .aload_n 0), (216, .iload_n 1), (217, .invokestatic 131), (220, .iload 9), (222, .if_icmp .ne 112), (225, .aload_n 0), (226, .invokevirtual 33), (229, .iload 9), (231, .if_icmp .ne 103), (234, .aload_n 0), (235, .invokevirtual 74), (238, .iload 10), (240, .ifCond .le 7), (243, .iconst 1), (244, .goto 4), (247, .iconst 0), (248, .if_icmp .ne 86), (251, .iload 10), (253, .ifCond .eq 12), (256, .aload_n 0), (257, .invokevirtual 119), (260, .iload 10), (262, .if_icmp .ne 72), (265, .aload_n 0), (266, .invokevirtual 99), (269, .iload 11), (271, .iload 9), (273, .iadd), (274, .if_icmp .ne 60), (277, .aload_n 0), (278, .invokevirtual 96), (281, .iload 12), (283, .iload 10), (285, .ifCond .le 7), (288, .iconst 1), (289, .goto 4), (292, .iconst 0), (293, .iadd), (294, .if_icmp .ne 40), (297, .aload_n 0), (298, .invokestatic 159), (301, .ifCond .eq 33), (304, .iload 7), (306, .ifCond .ne 24), (309, .aload_n 0), (310, .invokevirtual 90), (313, .ifCond .ne 21), (316, .iload 10), (318, .ifCond .ne 16), (321, .aload_n 0), (322, .invokevirtual 81), (325, .iload 5), (327, .if_icmp .ne 7), (330, .iconst 1), (331, .goto 4), (334, .iconst 0), (335, .istore 8), (337, .iload 8), (339, .ifCond .eq 23), (342, .aload_n 0), (343, .invokevirtual 163), (346, .ifCond .lt 16), (349, .aload_n 0), (350, .invokevirtual 99), (353, .iload 11), (355, .if_icmp .ne 7), (358, .iconst 1), (359, .goto 4), (362, .iconst 0), (363, .ireturn)]
/-- TemplateScopesLaw.isValueSo(LTemplateScopes;I[I)Z -/
def xk_146 : List (Nat × Instr) := [(0, .aload_n 0), (1, .iload_n 1), (2, .invokevirtual 105), (5, .ifCond .ne 21), (8, .aload_n 0), (9, .iconst 1), (10, .iload_n 1), (11, .iconst 0), (12, .aload_n 2), (13, .invokestatic 67), (16, .iconst 3), (17, .if_icmp .ne 7), (20, .iconst 1), (21, .goto 4), (24, .iconst 0), (25, .ireturn), (26, .aload_n 0), (27, .iload_n 1), (28, .invokevirtual 109), (31, .istore_n 3), (32, .aload_n 0), (33, .iload_n 1), (34, .invokevirtual 166), (37, .istore 4), (39, .aload_n 0), (40, .iload_n 1), (41, .invokevirtual 169), (44, .istore 5), (46, .aload_n 0), (47, .iconst 4), (48, .iload_n 1), (49, .iconst 0), (50, .aload_n 2), (51, .invokestatic 67), (54, .istore 6), (56, .iload_n 3), (57, .ifCond .lt 50), (60, .iload_n 3), (61, .bipush 24), (63, .if_icmp .gt 44), (66, .iload 4), (68, .iload_n 3), (69, .if_icmp .lt 38), (72, .iload 4), (74, .iconst 2), (75, .iload_n 3), (76, .imul), (77, .if_icmp .gt 30), (80, .iload 5), (82, .iload_n 3), (83, .if_icmp .ne 24), (86, .iload 6), (88, .iload 4), (90, .bipush 24), (92, .if_icmp .le 7), (95, .iconst 3), (96, .goto 4), (99, .iconst 0), (100, .if_icmp .ne 7), (103, .iconst 1), (104, .goto 4), (107, .iconst 0), (108, .istore 7), (110, .iload 6), (112, .ifCond .ne 48), (115, .iload 7), (117, .ifCond .eq 40), (120, .aload_n 2), (121, .iconst 0), (122, .iaload), (123, .iload 4), (125, .if_icmp .ne 32), (128, .aload_n 0), (129, .iload_n 1), (130, .invokevirtual 109), (133, .iload 4), (135, .if_icmp .ne 22), (138, .aload_n 0), (139, .iload_n 1), (140, .invokevirtual 172), (143, .ifCond .eq 14), (146, .aload_n 0), (147, .invokevirtual 163), (150, .ifCond .lt 7), (153, .iconst 1), (154, .goto 4), (157, .iconst 0), (158, .istore 7), (160, .iload 7), (162, .ifCond .eq 16), (165, .aload_n 0), (166, .iload_n 1), (167, .invokevirtual 109), (170, .iload_n 3), (171, .if_icmp .ne 7), (174, .iconst 1), (175, .goto 4), (178, .iconst 0), (179, .ireturn)]
/-- TemplateScopesLaw.law([I)Z -/
def xk_147 : List (Nat × Instr) := [(0, .new 9), (3, .dup), (4, .invokespecial 175), (7, .astore_n 1), (8, .new 9), (11, .dup), (12, .invokespecial 175), (15, .astore_n 2), (16, .iconst 1), (17, .newarray .int), (19, .astore_n 3), (20, .iconst 0), (21, .istore 4), (23, .iload 4), (25, .bipush 60), (27, .if_icmp .ge 240), (30, .aload_n 0), (31, .iload 4), (33, .invokestatic 176), (36, .istore 5), (38, .iload 4), (40, .iconst 4), (41, .irem), (42, .iconst 1), (43, .if_icmp .ne 12), (46, .aload_n 1), (47, .aload_n 2), (48, .iload 5), (50, .iconst 3), (51, .ishr), (52, .invokestatic 180), (55, .aload_n 1), (56, .invokevirtual 184), (59, .istore 6), (61, .aload_n 1), (62, .iload 5), (64, .aload_n 3), (65, .invokestatic 187), (68, .istore 7), (70, .aload_n 3), (71, .iconst 0), (72, .iaload), (73, .istore 8), (75, .iload 7), (77, .ifCond .eq 22), (80, .aload_n 1), (81, .aload_n 2), (82, .invokestatic 191), (85, .ifCond .eq 12), (88, .aload_n 1), (89, .invokevirtual 184), (92, .iload 6), (94, .if_icmp .eq 5), (97, .iconst 0), (98, .ireturn), (99, .iload 7), (101, .ifCond .ne 65), (104, .iload 5), (106, .bipush 9), (108, .ishr), (109, .iconst 1), (110, .iand), (111, .ifCond .ne 55), (114, .aload_n 1), (115, .invokevirtual 163), (118, .istore 9), (120, .iload 9), (122, .iload 6), (124, .bipush 6), (126, .if_icmp .ne 7), (129, .iconst 5), (130, .goto 5), (133, .iload 6), (135, .if_icmp .ne 29), (138, .aload_n 1), (139, .aload_n 2), (140, .invokestatic 191), (143, .ifCond .eq 21), (146, .aload_n 1), (147, .iload 5), (149, .aload_n 3), (150, .invokestatic 187), (153, .ifCond .ne 11), (156, .aload_n 3), (157, .iconst 0), (158, .iaload), (159, .iload 8), (161, .if_icmp .eq 5), (164, .iconst 0), (165, .ireturn), (166, .aload_n 2), (167, .iload 5), (169, .aload_n 3), (170, .invokestatic 187), (173, .iload 7), (175, .if_icmp .ne 31), (178, .iload 7), (180, .ifCond .ne 11), (183, .aload_n 3), (184, .iconst 0), (185, .iaload), (186, .iload 8), (188, .if_icmp .ne 18), (191, .aload_n 1), (192, .aload_n 2), (193, .invokestatic 191), (196, .ifCond .eq 10), (199, .aload_n 1), (200, .invokestatic 159), (203, .ifCond .ne 5), (206, .iconst 0), (207, .ireturn), (208, .iload 4), (210, .iconst 3), (211, .irem), (212, .iconst 2), (213, .if_icmp .ne 48), (216, .aload_n 1), (217, .iload 5), (219, .bipush 7), (221, .ishr), (222, .bipush 8), (224, .invokestatic 46), (227, .invokestatic 195), (230, .ifCond .eq 29), (233, .aload_n 1), (234, .iload 5), (236, .bipush 8), (238, .ishr), (239, .bipush 8), (241, .invokestatic 46), (244, .aload_n 3), (245, .invokestatic 199), (248, .ifCond .eq 11), (251, .aload_n 1), (252, .aload_n 2), (253, .invokestatic 191), (256, .ifCond .ne 5), (259, .iconst 0), (260, .ireturn), (261, .iinc 4 1), (264, .goto (-241)), (267, .aload_n 1), (268, .invokestatic 159), (271, .ireturn)]
def xcode : List (List (Nat × Instr)) := [xk_0, xk_1, xk_2, xk_3, xk_4, xk_5, xk_6, xk_7, xk_8, xk_9, xk_10, xk_11, xk_12, xk_13, xk_14, xk_15, xk_16, xk_17, xk_18, xk_19, xk_20, xk_21, xk_22, xk_23, xk_24, xk_25, xk_26, xk_27, xk_28, xk_29, xk_30, xk_31, xk_32, xk_33, xk_34, xk_35, xk_36, xk_37, xk_38, xk_39, xk_40, xk_41, xk_42, xk_43, xk_44, xk_45, xk_46, xk_47, xk_48, xk_49, xk_50, xk_51, xk_52, xk_53, xk_54, xk_55, xk_56, xk_57, xk_58, xk_59, xk_60, xk_61, xk_62, xk_63, xk_64, xk_65, xk_66, xk_67, xk_68, xk_69, xk_70, xk_71, xk_72, xk_73, xk_74, xk_75, xk_76, xk_77, xk_78, xk_79, xk_80, xk_81, xk_82, xk_83, xk_84, xk_85, xk_86, xk_87, xk_88, xk_89, xk_90, xk_91, xk_92, xk_93, xk_94, xk_95, xk_96, xk_97, xk_98, xk_99, xk_100, xk_101, xk_102, xk_103, xk_104, xk_105, xk_106, xk_107, xk_108, xk_109, xk_110, xk_111, xk_112, xk_113, xk_114, xk_115, xk_116, xk_117, xk_118, xk_119, xk_120, xk_121, xk_122, xk_123, xk_124, xk_125, xk_126, xk_127, xk_128, xk_129, xk_130, xk_131, xk_132, xk_133, xk_134, xk_135, xk_136, xk_137, xk_138, xk_139, xk_140, xk_141, xk_142, xk_143, xk_144, xk_145, xk_146, xk_147]
def xfetch (mi pc : Nat) : Option Instr := match xcode[mi]? with
  | some l => xfind l pc
  | none => none
/-- a method: its class, cells of its locals, number of parameters, kind (0 called by an object, 1 static, 2 <init>), kind of its answer, its handlers -/
def xmt : List (Nat × Nat × Nat × Nat × Nat × List (Nat × Nat × Nat × Nat)) := [(0, 2, 1, 2, 0, []), (0, 8, 4, 0, 1, []), (0, 6, 3, 0, 1, []), (0, 7, 3, 0, 1, []), (0, 8, 3, 0, 1, []), (0, 4, 3, 0, 1, []), (0, 4, 3, 0, 1, []), (0, 5, 3, 0, 1, []), (1, 2, 1, 2, 0, []), (1, 4, 1, 0, 0, []), (1, 2, 0, 0, 2, []), (1, 2, 1, 0, 1, []), (1, 2, 0, 0, 2, []), (1, 2, 1, 0, 2, []), (1, 5, 0, 0, 1, []), (1, 3, 1, 0, 1, []), (1, 5, 3, 0, 2, []), (1, 3, 1, 0, 1, []), (1, 4, 0, 0, 0, []), (1, 2, 1, 0, 1, []), (1, 2, 1, 0, 1, []), (2, 2, 0, 2, 0, []), (2, 1, 0, 0, 1, []), (2, 3, 1, 0, 0, []), (2, 3, 0, 0, 0, []), (2, 4, 1, 0, 2, []), (3, 1, 0, 2, 0, []), (3, 3, 1, 0, 0, []), (3, 2, 1, 0, 1, []), (3, 1, 0, 0, 0, []), (3, 3, 2, 0, 0, []), (3, 4, 3, 0, 0, []), (4, 1, 0, 2, 0, []), (4, 3, 2, 0, 0, []), (4, 1, 0, 0, 1, []), (4, 7, 2, 0, 1, []), (4, 3, 2, 0, 1, []), (4, 2, 1, 0, 2, []), (4, 1, 0, 0, 1, []), (4, 2, 1, 0, 0, []), (5, 1, 0, 2, 0, []), (5, 4, 2, 0, 0, []), (5, 2, 0, 0, 2, []), (5, 2, 1, 0, 1, []), (5, 4, 3, 0, 0, []), (5, 4, 1, 0, 1, []), (5, 1, 0, 0, 0, []), (5, 5, 2, 0, 2, []), (6, 1, 0, 2, 0, []), (6, 2, 1, 0, 0, []), (6, 2, 1, 0, 0, []), (7, 3, 2, 2, 0, []), (7, 4, 2, 0, 0, []), (7, 3, 2, 0, 2, []), (7, 3, 1, 0, 0, []), (7, 1, 1, 1, 1, []), (7, 5, 1, 0, 2, []), (7, 3, 1, 0, 2, []), (7, 1, 0, 0, 2, []), (7, 3, 0, 0, 2, []), (7, 4, 2, 0, 2, []), (7, 1, 0, 0, 1, []), (7, 1, 0, 0, 2, []), (7, 1, 0, 0, 1, []), (7, 2, 1, 0, 1, []), (7, 2, 1, 0, 1, []), (7, 2, 1, 0, 1, []), (7, 2, 1, 0, 1, []), (7, 2, 1, 0, 1, []), (7, 1, 0, 0, 1, []), (7, 3, 0, 0, 1, []), (7, 3, 0, 0, 1, []), (7, 3, 0, 0, 1, []), (8, 4, 2, 2, 0, []), (8, 2, 1, 0, 0, []), (8, 2, 1, 0, 1, []), (8, 4, 2, 0, 1, []), (8, 3, 1, 0, 0, []), (8, 7, 3, 0, 0, []), (8, 5, 2, 0, 2, []), (8, 2, 1, 0, 0, []), (9, 3, 0, 2, 0, []), (9, 2, 0, 0, 1, []), (9, 1, 0, 0, 1, []), (9, 1, 0, 0, 1, []), (9, 1, 1, 1, 1, []), (9, 1, 0, 0, 2, []), (9, 1, 0, 0, 1, []), (9, 1, 0, 0, 2, []), (9, 1, 0, 0, 1, []), (9, 1, 0, 0, 1, []), (9, 1, 0, 0, 1, []), (9, 1, 0, 0, 1, []), (9, 1, 0, 0, 1, []), (9, 1, 0, 0, 1, []), (9, 1, 0, 0, 1, []), (9, 1, 0, 0, 1, []), (11, 2, 2, 1, 1, []), (9, 1, 0, 0, 1, []), (9, 2, 0, 0, 4, []), (11, 2, 2, 1, 1, []), (11, 6, 5, 1, 1, [(0, 101, 104, 37), (0, 101, 108, 39), (0, 101, 112, 41)]), (11, 3, 2, 1, 1, [(0, 5, 6, 41)]), (11, 2, 1, 1, 1, []), (11, 12, 4, 1, 0, []), (9, 1, 0, 0, 1, []), (9, 2, 1, 0, 1, []), (9, 2, 1, 0, 2, []), (9, 1, 1, 1, 0, []), (9, 2, 1, 0, 2, []), (9, 3, 1, 0, 1, []), (9, 2, 1, 0, 1, []), (9, 4, 1, 0, 1, []), (9, 1, 1, 1, 2, []), (9, 6, 1, 0, 1, []), (9, 2, 1, 0, 0, []), (9, 1, 0, 0, 1, []), (9, 1, 0, 0, 0, []), (9, 1, 0, 0, 1, []), (9, 1, 0, 0, 1, []), (9, 1, 0, 0, 1, []), (9, 1, 0, 0, 1, []), (9, 1, 0, 0, 1, []), (9, 1, 0, 0, 1, []), (9, 1, 0, 0, 1, []), (11, 8, 3, 1, 0, []), (9, 2, 1, 0, 1, []), (9, 1, 1, 1, 0, []), (9, 4, 2, 0, 1, []), (9, 3, 1, 0, 1, []), (9, 3, 1, 0, 1, []), (9, 4, 2, 0, 1, []), (9, 3, 1, 0, 1, []), (9, 2, 1, 0, 1, []), (9, 4, 2, 0, 1, []), (9, 2, 1, 0, 1, []), (9, 2, 1, 0, 1, []), (9, 4, 2, 0, 1, []), (9, 1, 0, 0, 1, []), (9, 2, 1, 0, 1, []), (9, 2, 1, 0, 1, []), (9, 1, 0, 0, 1, []), (11, 7, 3, 1, 1, []), (11, 5, 2, 1, 2, []), (11, 6, 1, 1, 2, []), (11, 13, 2, 1, 2, []), (11, 8, 3, 1, 2, []), (11, 10, 1, 1, 2, [])]
def xown (mi : Nat) : Nat := match xmt[mi]? with
  | some q => q.1
  | none => 999
def xmaxL (mi : Nat) : Nat := match xmt[mi]? with
  | some q => q.2.1
  | none => 0
def xnp (mi : Nat) : Nat := match xmt[mi]? with
  | some q => q.2.2.1
  | none => 0
def xsk (mi : Nat) : Nat := match xmt[mi]? with
  | some q => q.2.2.2.1
  | none => 9
def xrk (mi : Nat) : Nat := match xmt[mi]? with
  | some q => q.2.2.2.2.1
  | none => 9
def xhh (mi : Nat) : List (Nat × Nat × Nat × Nat) := match xmt[mi]? with
  | some q => q.2.2.2.2.2
  | none => []
def xini (mi : Nat) : Bool := Nat.beq (xsk mi) 2
def xfldT : List (List (Nat × Nat × Nat × Nat × Nat)) := [[(9, 0, 0, 2, 1), (15, 4, 1, 2, 1), (21, 0, 1, 2, 1), (22, 4, 0, 2, 1), (26, 0, 2, 2, 1), (31, 7, 0, 0, 1), (91, 7, 1, 2, 1), (95, 5, 0, 2, 1)], [(9, 1, 0, 2, 1), (15, 4, 1, 2, 1), (21, 1, 1, 2, 1), (27, 1, 2, 2, 1), (36, 1, 3, 2, 1), (40, 1, 6, 2, 1), (44, 1, 7, 2, 1), (47, 1, 8, 2, 1), (50, 1, 9, 2, 1), (53, 1, 10, 2, 1), (60, 1, 4, 0, 0), (64, 1, 5, 0, 0), (67, 1, 11, 0, 0), (122, 5, 0, 2, 1)], [(11, 2, 0, 2, 1), (18, 2, 1, 0, 0)], [(14, 3, 0, 2, 1), (24, 3, 1, 2, 1), (28, 3, 2, 0, 0), (32, 3, 3, 0, 0), (35, 3, 4, 0, 0), (38, 3, 5, 0, 0), (41, 3, 6, 0, 0), (44, 3, 7, 0, 0)], [(12, 4, 0, 2, 1), (21, 4, 1, 2, 1), (30, 4, 2, 2, 1), (40, 4, 3, 0, 0), (44, 3, 4, 0, 0), (67, 5, 0, 2, 1), (51, 3, 0, 2, 1), (54, 3, 5, 0, 0), (57, 3, 6, 0, 0), (60, 3, 7, 0, 0)], [(14, 5, 0, 2, 1), (20, 5, 1, 0, 0)], [(14, 6, 0, 2, 1), (23, 6, 1, 2, 1), (35, 6, 2, 0, 0), (39, 6, 3, 0, 0), (42, 6, 4, 0, 0), (45, 3, 3, 0, 0), (48, 3, 0, 2, 1)], [(9, 7, 0, 0, 1), (15, 7, 1, 2, 1), (19, 7, 2, 2, 1), (23, 7, 3, 2, 1), (26, 7, 4, 2, 1), (29, 7, 5, 2, 1), (32, 7, 6, 2, 1), (35, 7, 7, 2, 1), (38, 7, 8, 0, 0), (41, 7, 9, 0, 0), (44, 7, 10, 0, 0), (47, 7, 11, 0, 0), (56, 7, 13, 0, 0), (59, 7, 12, 0, 0)], [(9, 8, 0, 0, 1), (21, 8, 1, 2, 1), (25, 8, 2, 2, 1)], [(14, 9, 0, 2, 1), (22, 9, 1, 2, 1), (30, 9, 2, 2, 1), (37, 9, 3, 2, 1), (46, 9, 4, 2, 1), (53, 9, 5, 2, 1), (60, 9, 6, 2, 1), (64, 9, 7, 2, 1), (70, 9, 8, 2, 1), (74, 9, 9, 1, 0), (159, 6, 1, 2, 1), (163, 3, 0, 2, 1), (193, 3, 3, 0, 0), (202, 3, 2, 0, 0), (213, 3, 4, 0, 0), (216, 3, 5, 0, 0), (219, 3, 6, 0, 0), (222, 3, 7, 0, 0), (225, 6, 2, 0, 0), (228, 6, 3, 0, 0), (231, 6, 4, 0, 0), (129, 6, 0, 2, 1), (183, 4, 0, 2, 1)], [], [], [], []]
def xfld (own i : Nat) : Option (Nat × Nat × Nat × Nat) := match xfldT[own]? with
  | some l => xfin l i
  | none => none
def xcalT : List (List (Nat × Nat)) := [[(27, 2), (37, 66), (41, 31), (47, 67), (50, 34), (54, 64), (57, 65), (60, 35), (64, 3), (67, 4), (70, 6), (73, 7), (76, 68), (79, 36), (86, 45), (99, 52), (103, 30), (107, 62), (111, 61), (114, 42), (117, 63), (82, 1), (120, 46), (123, 75), (128, 47), (132, 5), (135, 37), (139, 38), (142, 39)], [(24, 51), (33, 73), (56, 78), (71, 75), (75, 10), (79, 11), (82, 12), (85, 14), (137, 46), (89, 76), (153, 13), (156, 39), (143, 47), (93, 34), (96, 36), (99, 85), (102, 35), (105, 15), (108, 17), (111, 19), (114, 20), (117, 45), (123, 52), (127, 62), (130, 16), (134, 42), (140, 18), (147, 37), (151, 38)], [(17, 48), (22, 24), (25, 49)], [(11, 73), (20, 74), (47, 77), (51, 28), (55, 30)], [(11, 26), (20, 40), (27, 73), (34, 29), (37, 41), (63, 45), (70, 75), (73, 76), (77, 113), (81, 36), (47, 79), (84, 74), (93, 44)], [(11, 73), (24, 42), (28, 44), (32, 43), (36, 80), (49, 78), (46, 75), (52, 74), (55, 79), (59, 76)], [(11, 73), (22, 26), (27, 77), (31, 27), (51, 75)], [(50, 75), (62, 76), (66, 53), (76, 54), (80, 55), (83, 85), (86, 56), (90, 57), (93, 58), (97, 59), (100, 60), (70, 64), (73, 65)], [(39, 78), (29, 75), (36, 76)], [(11, 73), (18, 74), (27, 51), (36, 32), (43, 0), (52, 8), (59, 48), (69, 21), (92, 75), (96, 52), (100, 61), (104, 62), (247, 22), (188, 87), (255, 93), (197, 88), (205, 89), (210, 28), (126, 108), (138, 110), (154, 112), (177, 76), (340, 113), (81, 79), (180, 115), (234, 33), (111, 63), (343, 1), (108, 117), (114, 69), (117, 70), (120, 71), (123, 72), (237, 9), (78, 127), (134, 23), (141, 80), (150, 78), (168, 134), (184, 50), (241, 25)], [], [(8, 128), (14, 129), (18, 130), (21, 131), (24, 132), (27, 133), (30, 135), (33, 138), (43, 140), (46, 100), (51, 83), (54, 126), (57, 82), (60, 104), (64, 103), (67, 101), (71, 87), (74, 88), (78, 89), (81, 90), (84, 91), (87, 92), (90, 93), (93, 94), (96, 95), (99, 96), (102, 139), (105, 107), (109, 136), (112, 137), (115, 99), (119, 105), (122, 106), (125, 84), (128, 86), (131, 102), (135, 116), (138, 118), (141, 119), (144, 120), (147, 121), (150, 122), (153, 124), (156, 123), (159, 144), (163, 141), (166, 111), (169, 114), (172, 109), (175, 81), (176, 97), (180, 125), (184, 98), (187, 142), (191, 143), (195, 145), (199, 146)], [], []]
def xcal (own i : Nat) : Option Nat := match xcalT[own]? with
  | some l => xfin l i
  | none => none
def xmatT : List (List (Nat × Nat)) := [[], [], [(29, 0)], [], [(88, 0)], [(40, 0)], [], [(103, 0)], [(15, 0), (33, 1)], [(144, 0)], [], [], [], []]
def xmat (own i : Nat) : Option Nat := match xmatT[own]? with
  | some l => xfin l i
  | none => none
def xobjT : List (List (Nat × Nat)) := [[(3, 0)], [(3, 0)], [(3, 0)], [(3, 0)], [(3, 0)], [(3, 0)], [(3, 0)], [(3, 0)], [(3, 0)], [(1, 0)], [], [], [], []]
def xobj (own i : Nat) : Option Nat := match xobjT[own]? with
  | some l => xfin l i
  | none => none
def xclsT : List (List (Nat × Nat)) := [[], [(22, 7), (31, 8)], [(9, 6)], [(9, 8)], [(9, 3), (18, 5), (25, 8)], [(9, 8)], [(9, 8), (20, 3)], [], [], [(7, 8), (25, 7), (34, 4), (41, 0), (50, 1), (57, 6), (67, 2)], [], [(9, 9)], [], []]
def xcls (own i : Nat) : Option Nat := match xclsT[own]? with
  | some l => xfin l i
  | none => none
def xcatT : List (List (Nat × Nat)) := [[], [], [], [], [], [], [], [], [], [(85, 1), (172, 2), (327, 0)], [], [(37, 2), (39, 0), (41, 1)], [], []]
def xcat (own i : Nat) : Option Nat := match xcatT[own]? with
  | some l => xfin l i
  | none => none
def xcstT : List (List (Nat × (Int ⊕ (Option Nat) ⊕ Int64 ⊕ UInt64))) := [[], [(70, .inl 100000)], [], [], [], [], [], [], [], [], [], [(7, .inl 2147483647)], [], []]
def xcst (own i : Nat) : Option (Int ⊕ (Option Nat) ⊕ Int64 ⊕ UInt64) := match xcstT[own]? with
  | some l => xfin l i
  | none => none
def xthrT : List (Nat × Nat × Nat) := [(105, 7, 1), (106, 12, 2), (108, 10, 2), (110, 21, 1), (117, 22, 1), (126, 16, 1), (127, 12, 0), (128, 26, 1), (132, 18, 1), (134, 12, 1), (137, 15, 2), (139, 12, 2), (141, 14, 1)]
def xthr (mi pc : Nat) : Option Nat := match xthrT.find? (fun q => Nat.beq q.1 mi && Nat.beq q.2.1 pc) with
  | some q => some q.2.2
  | none => none
def xdfT : List (List (Int ⊕ (Option Nat) ⊕ Int64 ⊕ UInt64)) := [[.inr (.inl none), .inr (.inl none), .inr (.inl none)], [.inr (.inl none), .inr (.inl none), .inr (.inl none), .inr (.inl none), .inl 0, .inl 0, .inr (.inl none), .inr (.inl none), .inr (.inl none), .inr (.inl none), .inr (.inl none), .inl 0], [.inr (.inl none), .inl 0], [.inr (.inl none), .inr (.inl none), .inl 0, .inl 0, .inl 0, .inl 0, .inl 0, .inl 0], [.inr (.inl none), .inr (.inl none), .inr (.inl none), .inl 0], [.inr (.inl none), .inl 0], [.inr (.inl none), .inr (.inl none), .inl 0, .inl 0, .inl 0], [.inl 0, .inr (.inl none), .inr (.inl none), .inr (.inl none), .inr (.inl none), .inr (.inl none), .inr (.inl none), .inr (.inl none), .inl 0, .inl 0, .inl 0, .inl 0, .inl 0, .inl 0], [.inl 0, .inr (.inl none), .inr (.inl none)], [.inr (.inl none), .inr (.inl none), .inr (.inl none), .inr (.inl none), .inr (.inl none), .inr (.inl none), .inr (.inl none), .inr (.inl none), .inr (.inl none), .inl 0], [.inl 0, .inr (.inl none), .inr (.inl none), .inl 0, .inr (.inl none), .inl 0, .inr (.inl none), .inl 0, .inr (.inl none), .inl 0, .inl 0, .inl 0, .inl 0, .inl 0, .inl 0, .inl 0, .inl 0, .inl 0, .inr (.inl none), .inl 0, .inl 0, .inr (.inl none), .inl 0, .inl 0, .inl 0, .inl 0, .inl 0, .inr (.inl none), .inl 0, .inr (.inl none), .inr (.inl none), .inl 0, .inr (.inl none), .inr (.inl none), .inl 0, .inr (.inl none), .inr (.inl none), .inr (.inl none), .inr (.inl none), .inr (.inl none), .inr (.inl none), .inr (.inl none), .inr (.inl none), .inl 0, .inr (.inr (.inl 0))]]
def xdf (ci : Nat) : List (Int ⊕ (Option Nat) ⊕ Int64 ⊕ UInt64) := match xdfT[ci]? with
  | some l => l
  | none => []
/-! ===== a small machine over lists: what the methods' bytecode does, with addresses counted from the law's own beginning ===== -/
abbrev xV : Type := Int ⊕ (Option Nat) ⊕ Int64 ⊕ UInt64
abbrev xC : Type := Nat × List xV
abbrev xH : Type := List xC
abbrev xL : Type := Nat → Option xV
abbrev xR : Type := (Option xV ⊕ Nat) × xH × Nat
abbrev xin (x : Int) : Prop := -2147483648 ≤ x ∧ x ≤ 2147483647
def xcat2 : xV → Bool
  | .inr (.inr _) => true
  | _ => false
def xno2 : Option xV → Option xV
  | some (.inr (.inr _)) => none
  | o => o
def xset (lv : xL) (i : Nat) (v : xV) : xL := fun k => if k = i then some v else if k + 1 = i then xno2 (lv k) else lv k
def xset2 (lv : xL) (i : Nat) (v : xV) : xL := fun k => if k = i then some v else if k = i + 1 then none else if k + 1 = i then xno2 (lv k) else lv k
def xclr (lv : xL) (i : Nat) : xL := fun k => if k = i then none else if k + 1 = i then xno2 (lv k) else lv k
def xent : List xV → xL
  | [], _ => none
  | v :: _, 0 => some v
  | v :: vs, k + 1 => if xcat2 v = true then (match k with
    | 0 => none
    | k' + 1 => xent vs k') else xent vs k
/-- the cells of the locals that arguments take -/
def xasz : List xV → Nat
  | [] => 0
  | v :: vs => (if xcat2 v = true then 2 else 1) + xasz vs
def xkd : Nat → xV → Bool
  | 0, .inl _ => true
  | 1, .inl x => x == 0 || x == 1
  | 2, .inr (.inl _) => true
  | 3, .inr (.inr (.inl _)) => true
  | _, _ => false
def xpc (pc : Nat) (off : Int) : Nat := ((pc : Int) + off).toNat
/-- the last n of a stack, in the order in which they were put, and what lies below -/
def xpop (n : Nat) (st : List xV) : Option (List xV × List xV) := if n ≤ st.length then some ((st.take n).reverse, st.drop n) else none
def xcmp {α : Type} (c : ClassFile.Cond) (x y : Int) (a b : α) : α := match c with
  | .eq => if x = y then a else b
  | .ne => if x = y then b else a
  | .lt => if x < y then a else b
  | .ge => if x < y then b else a
  | .gt => if y < x then a else b
  | .le => if y < x then b else a
def xop {α : Type} (mi pc : Nat) (op : Instr) (lv : xL) (st : List xV) (ph : xH) (g : Nat) (K : Nat → xL → List xV → xH → α) (C : Nat → List xV → List xV → α) (Rt : Option xV → α) (Th : Nat → α) (z : α) : α :=
  match op with
  | .iconst n => if -128 ≤ n ∧ n ≤ 127 then K (pc + 1) lv (.inl n :: st) ph else z
  | .bipush n => if -128 ≤ n ∧ n ≤ 127 then K (pc + 2) lv (.inl n :: st) ph else z
  | .sipush n => if -32768 ≤ n ∧ n ≤ 32767 then K (pc + 3) lv (.inl n :: st) ph else z
  | .aconst_null => K (pc + 1) lv (.inr (.inl none) :: st) ph
  | .lconst k => K (pc + 1) lv (.inr (.inr (.inl (Int64.ofNat k))) :: st) ph
  | .dconst k => if k = 0 then K (pc + 1) lv (.inr (.inr (.inr FP.dconst0)) :: st) ph else K (pc + 1) lv (.inr (.inr (.inr FP.dconst1)) :: st) ph
  | .ldc i => match xcst (xown mi) i with
    | some (.inl x) => K (pc + 2) lv (.inl x :: st) ph
    | _ => z
  | .ldc2_w i => match xcst (xown mi) i with
    | some (.inr (.inr v)) => K (pc + 3) lv (.inr (.inr v) :: st) ph
    | _ => z
  | .iload_n k => match lv k with
    | some (.inl x) => K (pc + 1) lv (.inl x :: st) ph
    | _ => z
  | .iload k => match lv k with
    | some (.inl x) => K (pc + 2) lv (.inl x :: st) ph
    | _ => z
  | .aload_n k => match lv k with
    | some (.inr (.inl x)) => K (pc + 1) lv (.inr (.inl x) :: st) ph
    | _ => z
  | .aload k => match lv k with
    | some (.inr (.inl x)) => K (pc + 2) lv (.inr (.inl x) :: st) ph
    | _ => z
  | .lload_n k => match lv k with
    | some (.inr (.inr (.inl x))) => K (pc + 1) lv (.inr (.inr (.inl x)) :: st) ph
    | _ => z
  | .lload k => match lv k with
    | some (.inr (.inr (.inl x))) => K (pc + 2) lv (.inr (.inr (.inl x)) :: st) ph
    | _ => z
  | .dload_n k => match lv k with
    | some (.inr (.inr (.inr x))) => K (pc + 1) lv (.inr (.inr (.inr x)) :: st) ph
    | _ => z
  | .dload k => match lv k with
    | some (.inr (.inr (.inr x))) => K (pc + 2) lv (.inr (.inr (.inr x)) :: st) ph
    | _ => z
  | .istore_n k => match st with
    | .inl x :: st' => if (k : Nat) < xmaxL mi then K (pc + 1) (xset lv k (.inl x)) st' ph else z
    | _ => z
  | .istore k => match st with
    | .inl x :: st' => if k < xmaxL mi then K (pc + 2) (xset lv k (.inl x)) st' ph else z
    | _ => z
  | .astore_n k => match st with
    | .inr (.inl x) :: st' => if (k : Nat) < xmaxL mi then K (pc + 1) (xset lv k (.inr (.inl x))) st' ph else z
    | _ => z
  | .astore k => match st with
    | .inr (.inl x) :: st' => if k < xmaxL mi then K (pc + 2) (xset lv k (.inr (.inl x))) st' ph else z
    | _ => z
  | .lstore_n k => match st with
    | .inr (.inr (.inl x)) :: st' => if (k : Nat) + 1 < xmaxL mi then K (pc + 1) (xset2 lv k (.inr (.inr (.inl x)))) st' ph else z
    | _ => z
  | .lstore k => match st with
    | .inr (.inr (.inl x)) :: st' => if k + 1 < xmaxL mi then K (pc + 2) (xset2 lv k (.inr (.inr (.inl x)))) st' ph else z
    | _ => z
  | .dstore_n k => match st with
    | .inr (.inr (.inr x)) :: st' => if (k : Nat) + 1 < xmaxL mi then K (pc + 1) (xset2 lv k (.inr (.inr (.inr x)))) st' ph else z
    | _ => z
  | .dstore k => match st with
    | .inr (.inr (.inr x)) :: st' => if k + 1 < xmaxL mi then K (pc + 2) (xset2 lv k (.inr (.inr (.inr x)))) st' ph else z
    | _ => z
  | .iinc k n => match lv k with
    | some (.inl x) => if xin (x + n) ∧ k < xmaxL mi then K (pc + 3) (xset lv k (.inl (x + n))) st ph else z
    | _ => z
  | .iadd => match st with
    | .inl y :: .inl x :: st' => if xin (x + y) then K (pc + 1) lv (.inl (x + y) :: st') ph else z
    | _ => z
  | .isub => match st with
    | .inl y :: .inl x :: st' => if xin (x - y) then K (pc + 1) lv (.inl (x - y) :: st') ph else z
    | _ => z
  | .imul => match st with
    | .inl y :: .inl x :: st' => if xin (x * y) then K (pc + 1) lv (.inl (x * y) :: st') ph else z
    | _ => z
  | .idiv => match st with
    | .inl y :: .inl x :: st' => if 0 ≤ x ∧ 0 < y then K (pc + 1) lv (.inl (x / y) :: st') ph else z
    | _ => z
  | .irem => match st with
    | .inl y :: .inl x :: st' => if 0 ≤ x ∧ 0 < y then K (pc + 1) lv (.inl (x % y) :: st') ph else z
    | _ => z
  | .iand => match st with
    | .inl y :: .inl x :: st' => K (pc + 1) lv (.inl (Int32.ofInt x &&& Int32.ofInt y).toInt :: st') ph
    | _ => z
  | .ior => match st with
    | .inl y :: .inl x :: st' => K (pc + 1) lv (.inl (Int32.ofInt x ||| Int32.ofInt y).toInt :: st') ph
    | _ => z
  | .ixor => match st with
    | .inl y :: .inl x :: st' => K (pc + 1) lv (.inl (Int32.ofInt x ^^^ Int32.ofInt y).toInt :: st') ph
    | _ => z
  | .ishr => match st with
    | .inl y :: .inl x :: st' => K (pc + 1) lv (.inl (Int32.ofInt x >>> (Int32.ofInt y &&& 31)).toInt :: st') ph
    | _ => z
  | .ishl => match st with
    | .inl y :: .inl x :: st' => K (pc + 1) lv (.inl (Int32.ofInt x <<< (Int32.ofInt y &&& 31)).toInt :: st') ph
    | _ => z
  | .i2c => match st with
    | .inl x :: st' => if 0 ≤ x ∧ x ≤ 65535 then K (pc + 1) lv (.inl x :: st') ph else z
    | _ => z
  | .i2l => match st with
    | .inl x :: st' => K (pc + 1) lv (.inr (.inr (.inl (Int64.ofInt x))) :: st') ph
    | _ => z
  | .i2d => match st with
    | .inl x :: st' => K (pc + 1) lv (.inr (.inr (.inr (FP.i2d (Int32.ofInt x)))) :: st') ph
    | _ => z
  | .d2l => match st with
    | .inr (.inr (.inr x)) :: st' => K (pc + 1) lv (.inr (.inr (.inl (FP.d2l x))) :: st') ph
    | _ => z
  | .ladd => match st with
    | .inr (.inr (.inl y)) :: .inr (.inr (.inl x)) :: st' => K (pc + 1) lv (.inr (.inr (.inl (x + y))) :: st') ph
    | _ => z
  | .lsub => match st with
    | .inr (.inr (.inl y)) :: .inr (.inr (.inl x)) :: st' => K (pc + 1) lv (.inr (.inr (.inl (x - y))) :: st') ph
    | _ => z
  | .lmul => match st with
    | .inr (.inr (.inl y)) :: .inr (.inr (.inl x)) :: st' => K (pc + 1) lv (.inr (.inr (.inl (x * y))) :: st') ph
    | _ => z
  | .lshl => match st with
    | .inl y :: .inr (.inr (.inl x)) :: st' => K (pc + 1) lv (.inr (.inr (.inl (x <<< ((Int32.ofInt y).toInt64 &&& 63)))) :: st') ph
    | _ => z
  | .lcmp => match st with
    | .inr (.inr (.inl y)) :: .inr (.inr (.inl x)) :: st' => K (pc + 1) lv (.inl (lg_cmp x y).toInt :: st') ph
    | _ => z
  | .dcmp o => match st with
    | .inr (.inr (.inr y)) :: .inr (.inr (.inr x)) :: st' => K (pc + 1) lv (.inl (Op.cmpValue (FP.dcmp x y) o).toInt :: st') ph
    | _ => z
  | .dsub => match st with
    | .inr (.inr (.inr y)) :: .inr (.inr (.inr x)) :: st' => if FP.dsub x y &&& 0x7fffffffffffffff ≤ 0x7ff0000000000000 then K (pc + 1) lv (.inr (.inr (.inr (FP.dsub x y))) :: st') ph else z
    | _ => z
  | .dmul => match st with
    | .inr (.inr (.inr y)) :: .inr (.inr (.inr x)) :: st' => if FP.dmul x y &&& 0x7fffffffffffffff ≤ 0x7ff0000000000000 then K (pc + 1) lv (.inr (.inr (.inr (FP.dmul x y))) :: st') ph else z
    | _ => z
  | .ddiv => match st with
    | .inr (.inr (.inr y)) :: .inr (.inr (.inr x)) :: st' => if FP.ddiv x y &&& 0x7fffffffffffffff ≤ 0x7ff0000000000000 then K (pc + 1) lv (.inr (.inr (.inr (FP.ddiv x y))) :: st') ph else z
    | _ => z
  | .dup => match st with
    | .inl x :: st' => K (pc + 1) lv (.inl x :: .inl x :: st') ph
    | .inr (.inl x) :: st' => K (pc + 1) lv (.inr (.inl x) :: .inr (.inl x) :: st') ph
    | _ => z
  | .dup2 => match st with
    | .inl y :: .inr (.inl x) :: st' => K (pc + 1) lv (.inl y :: .inr (.inl x) :: .inl y :: .inr (.inl x) :: st') ph
    | _ => z
  | .pop => match st with
    | .inl _ :: st' => K (pc + 1) lv st' ph
    | .inr (.inl _) :: st' => K (pc + 1) lv st' ph
    | _ => z
  | .ifCond c off => match st with
    | .inl x :: st' => xcmp c x 0 (K (xpc pc off) lv st' ph) (K (pc + 3) lv st' ph)
    | _ => z
  | .if_icmp c off => match st with
    | .inl y :: .inl x :: st' => xcmp c x y (K (xpc pc off) lv st' ph) (K (pc + 3) lv st' ph)
    | _ => z
  | .goto off => K (xpc pc off) lv st ph
  | .ifnull off => match st with
    | .inr (.inl none) :: st' => K (xpc pc off) lv st' ph
    | .inr (.inl (some _)) :: st' => K (pc + 3) lv st' ph
    | _ => z
  | .ifnonnull off => match st with
    | .inr (.inl none) :: st' => K (pc + 3) lv st' ph
    | .inr (.inl (some _)) :: st' => K (xpc pc off) lv st' ph
    | _ => z
  | .tableswitch dflt lo hi offs => match st with
    | .inl x :: st' => if x < lo ∨ hi < x then K (xpc pc dflt) lv st' ph else match offs[(x - lo).toNat]? with
      | some off => K (xpc pc off) lv st' ph
      | none => z
    | _ => z
  | .lookupswitch dflt ps => match st with
    | .inl x :: st' => K (xpc pc (Op.lookupswitch.offset ps.toList dflt x)) lv st' ph
    | _ => z
  | .getfield i => match st with
    | .inr (.inl (some a)) :: st' => match xfld (xown mi) i with
      | some (ci, k, _, _) => match ph[a]? with
        | some (t, vs) => if t = ci then match vs[k]? with
          | some v => K (pc + 3) lv (v :: st') ph
          | none => z
          else z
        | none => z
      | none => z
    | _ => z
  | .putfield i => match st with
    | v :: .inr (.inl (some a)) :: st' => match xfld (xown mi) i with
      | some (ci, k, kd, fin) => match ph[a]? with
        | some (t, vs) => if t = ci ∧ k < vs.length ∧ xkd kd v = true ∧ (fin = 0 ∨ (xini mi = true ∧ xown mi = ci)) then K (pc + 3) lv st' (ph.set a (t, vs.set k v)) else z
        | none => z
      | none => z
    | _ => z
  | .iaload => match st with
    | .inl i :: .inr (.inl (some a)) :: st' => match ph[a]? with
      | some (t, vs) => if (t = 100 ∨ t = 200) ∧ 0 ≤ i then match vs[i.toNat]? with
        | some (.inl x) => K (pc + 1) lv (.inl x :: st') ph
        | _ => z
        else z
      | none => z
    | _ => z
  | .caload => match st with
    | .inl i :: .inr (.inl (some a)) :: st' => match ph[a]? with
      | some (t, vs) => if t = 101 ∧ 0 ≤ i then match vs[i.toNat]? with
        | some (.inl x) => K (pc + 1) lv (.inl x :: st') ph
        | _ => z
        else z
      | none => z
    | _ => z
  | .aaload => match st with
    | .inl i :: .inr (.inl (some a)) :: st' => match ph[a]? with
      | some (t, vs) => if t = 103 ∧ 0 ≤ i then match vs[i.toNat]? with
        | some (.inr (.inl x)) => K (pc + 1) lv (.inr (.inl x) :: st') ph
        | _ => z
        else z
      | none => z
    | _ => z
  | .iastore => match st with
    | .inl x :: .inl i :: .inr (.inl (some a)) :: st' => match ph[a]? with
      | some (t, vs) => if t = 100 ∧ 0 ≤ i ∧ i < vs.length then K (pc + 1) lv st' (ph.set a (t, vs.set i.toNat (.inl x))) else z
      | none => z
    | _ => z
  | .castore => match st with
    | .inl x :: .inl i :: .inr (.inl (some a)) :: st' => match ph[a]? with
      | some (t, vs) => if t = 101 ∧ 0 ≤ i ∧ i < vs.length ∧ 0 ≤ x ∧ x ≤ 65535 then K (pc + 1) lv st' (ph.set a (t, vs.set i.toNat (.inl x))) else z
      | none => z
    | _ => z
  | .aastore => match st with
    | .inr (.inl (some v)) :: .inl i :: .inr (.inl (some a)) :: st' => match ph[a]? with
      | some (t, vs) => match ph[v]? with
        | some (tv, _) => if t = 103 ∧ tv = 6 ∧ 0 ≤ i ∧ i < vs.length then K (pc + 1) lv st' (ph.set a (t, vs.set i.toNat (.inr (.inl (some v))))) else z
        | none => z
      | none => z
    | _ => z
  | .arraylength => match st with
    | .inr (.inl (some a)) :: st' => match ph[a]? with
      | some (t, vs) => if 100 ≤ t ∧ (vs.length : Int) ≤ 2147483647 then K (pc + 1) lv (.inl (vs.length : Int) :: st') ph else z
      | none => z
    | _ => z
  | .new i => match xthr mi pc with
    | some E => if st = [] then Th E else z
    | none => match xcls (xown mi) i with
      | some ci => if g = 0 then K (pc + 3) lv (.inr (.inl (some ph.length)) :: st) (ph ++ [(ci, xdf ci)]) else z
      | none => z
  | .newarray ty => match st with
    | .inl n :: st' => if g = 0 ∧ 0 ≤ n ∧ n ≤ 100000 then match ty with
      | .int => K (pc + 2) lv (.inr (.inl (some ph.length)) :: st') (ph ++ [(100, List.replicate n.toNat (.inl 0))])
      | .char => K (pc + 2) lv (.inr (.inl (some ph.length)) :: st') (ph ++ [(101, List.replicate n.toNat (.inl 0))])
      | _ => z
      else z
    | _ => z
  | .anewarray i => match st with
    | .inl n :: st' => if g = 0 ∧ 0 ≤ n ∧ n ≤ 100000 ∧ xcls (xown mi) i = some 6 then K (pc + 3) lv (.inr (.inl (some ph.length)) :: st') (ph ++ [(103, List.replicate n.toNat (.inr (.inl none)))]) else z
    | _ => z
  | .invokevirtual i => match xcal (xown mi) i with
    | some mi' => match xpop (xnp mi') st with
      | some (as, .inr (.inl (some a)) :: rest) => match ph[a]? with
        | some (t, _) => if t = xown mi' ∧ xsk mi' = 0 ∧ rest.length ≤ 4 ∧ xasz (.inr (.inl (some a)) :: as) ≤ xmaxL mi' then C mi' (.inr (.inl (some a)) :: as) rest else z
        | none => z
      | _ => z
    | none => z
  | .invokespecial i => match xobj (xown mi) i with
    | some _ => match st with
      | .inr (.inl (some _)) :: st' => if st'.length ≤ 4 then K (pc + 3) lv st' ph else z
      | _ => z
    | none => match xcal (xown mi) i with
      | some mi' => match xpop (xnp mi') st with
        | some (as, .inr (.inl (some a)) :: rest) => if xsk mi' = 2 ∧ rest.length ≤ 4 ∧ xasz (.inr (.inl (some a)) :: as) ≤ xmaxL mi' then C mi' (.inr (.inl (some a)) :: as) rest else z
        | _ => z
      | none => z
  | .invokestatic i => match xmat (xown mi) i with
    | some w => match st with
      | .inl y :: .inl x :: st' => if st'.length ≤ 4 then (if w = 0 then K (pc + 3) lv (.inl (if x < y then y else x) :: st') ph else K (pc + 3) lv (.inl (if y < x then y else x) :: st') ph) else z
      | _ => z
    | none => match xcal (xown mi) i with
      | some mi' => match xpop (xnp mi') st with
        | some (as, rest) => if xsk mi' = 1 ∧ rest.length ≤ 4 ∧ xasz as ≤ xmaxL mi' then C mi' as rest else z
        | _ => z
      | none => z
  | .ireturn => match st with
    | [.inl x] => if xrk mi = 1 ∨ (xrk mi = 2 ∧ (x = 0 ∨ x = 1)) then Rt (some (.inl x)) else z
    | _ => z
  | .lreturn => match st with
    | [.inr (.inr (.inl x))] => if xrk mi = 3 then Rt (some (.inr (.inr (.inl x)))) else z
    | _ => z
  | .dreturn => match st with
    | [.inr (.inr (.inr x))] => if xrk mi = 4 then Rt (some (.inr (.inr (.inr x)))) else z
    | _ => z
  | .return_ => match st with
    | [] => if xrk mi = 0 then Rt none else z
    | _ => z
  | _ => z
/-- where an exception of kind E that a call at pc throws is caught: behind the handler's store, which cell of the locals it goes to -/
def xhan (mi pc E : Nat) : Option (Nat × Nat) := match (xhh mi).find? (fun q => decide (q.1 ≤ pc) && decide (pc < q.2.1) && decide (xcat (xown mi) q.2.2.2 = some E)) with
  | some q => match xfetch mi q.2.2.1 with
    | some (.astore_n k) => some (q.2.2.1 + 1, (k : Nat))
    | some (.astore k) => some (q.2.2.1 + 2, k)
    | _ => none
  | none => none
def xr : Nat → Nat → Nat → Nat → xL → List xV → xH → Nat → Option xR
  | 0, _, _, _, _, _, _, _ => none
  | n + 1, d, mi, pc, lv, st, ph, g => match xfetch mi pc with
    | none => none
    | some op => xop mi pc op lv st ph g (fun pc' lv' st' ph' => xr n d mi pc' lv' st' ph' g)
      (fun mi' as rest => match d with
        | 0 => none
        | d' + 1 => match xr n d' mi' 0 (xent as) [] ph g with
          | none => none
          | some (.inl v, ph1, g1) => xr n (d' + 1) mi (pc + 3) lv (v.toList ++ rest) ph1 g1
          | some (.inr E, ph1, g1) => match xhan mi pc E with
            | some (pc', k) => xr n (d' + 1) mi pc' (xclr lv k) [] ph1 g1
            | none => some (.inr E, ph1, g1))
      (fun v => some (.inl v, ph, g)) (fun E => some (.inr E, ph, g + 1)) none
