def ov_id (i : Nat) : Nat := i
/-- a cell's shape by its region: an object (class, its fields: 0 int, 1 boolean, 2 a final reference, 3 a reference; the region it shows to, the index there), or an array (0 int, 1 char, 2 long, 3 Three, 4 Person, 10 the script, 11 SETS_WITH; its length; for references region and index) -/
abbrev ov_Sh : Type := (Nat × List (Nat × Nat × (Nat → Nat))) ⊕ (Nat × Nat × Nat × (Nat → Nat → Nat))
def ov_s0 : ov_Sh := .inl (11, [(2, 1, (fun _ => 0)), (3, 1, (fun _ => 1)), (2, 9, (fun _ => 0)), (2, 10, (fun _ => 0)), (2, 11, (fun _ => 0)), (2, 12, (fun _ => 0)), (2, 13, (fun _ => 0))])
def ov_s1 : ov_Sh := .inl (10, [(2, 2, ov_id), (2, 3, ov_id), (0, 0, ov_id), (2, 20, ov_id), (2, 4, ov_id), (2, 5, ov_id), (2, 21, ov_id), (0, 0, ov_id), (0, 0, ov_id), (0, 0, ov_id), (0, 0, ov_id)])
def ov_s2 : ov_Sh := .inr (3, 4, 6, fun i j => 4 * i + j)
def ov_s3 : ov_Sh := .inr (4, 12, 7, fun i j => 12 * i + j)
def ov_s4 : ov_Sh := .inl (0, [(2, 22, ov_id), (2, 23, ov_id), (2, 24, ov_id), (2, 25, ov_id), (2, 26, ov_id), (0, 0, ov_id), (2, 27, ov_id), (2, 28, ov_id)])
def ov_s5 : ov_Sh := .inl (6, [(2, 29, ov_id), (2, 30, ov_id), (2, 31, ov_id), (2, 32, ov_id), (0, 0, ov_id), (2, 33, ov_id)])
def ov_s6 : ov_Sh := .inl (8, [(0, 0, ov_id), (0, 0, ov_id), (0, 0, ov_id), (0, 0, ov_id), (0, 0, ov_id), (2, 34, ov_id), (2, 8, ov_id), (0, 0, ov_id), (0, 0, ov_id), (0, 0, ov_id), (0, 0, ov_id), (0, 0, ov_id)])
def ov_s7 : ov_Sh := .inl (3, [(2, 35, ov_id), (2, 36, ov_id), (2, 37, ov_id), (2, 38, ov_id), (2, 39, ov_id), (2, 40, ov_id), (0, 0, ov_id), (0, 0, ov_id)])
def ov_s8 : ov_Sh := .inl (4, [(2, 41, ov_id), (2, 42, ov_id), (2, 43, ov_id), (2, 44, ov_id), (0, 0, ov_id)])
def ov_s9 : ov_Sh := .inl (5, [(2, 45, ov_id), (0, 0, ov_id), (2, 8, (fun _ => 8)), (0, 0, ov_id), (0, 0, ov_id), (2, 46, ov_id), (2, 47, ov_id), (2, 48, ov_id), (0, 0, ov_id), (0, 0, ov_id)])
def ov_s10 : ov_Sh := .inl (7, [(2, 49, ov_id), (2, 50, ov_id), (2, 51, ov_id)])
def ov_s11 : ov_Sh := .inl (9, [(2, 52, ov_id), (0, 0, ov_id), (2, 53, ov_id)])
def ov_s12 : ov_Sh := .inl (2, [(2, 54, ov_id)])
def ov_s13 : ov_Sh := .inl (1, [(2, 55, ov_id), (0, 0, ov_id), (2, 56, ov_id), (2, 57, ov_id)])
def ov_s14 : ov_Sh := .inl (12, [(0, 0, ov_id), (0, 0, ov_id), (0, 0, ov_id), (2, 58, ov_id), (2, 59, ov_id), (2, 60, ov_id), (2, 61, ov_id), (2, 62, ov_id), (2, 63, ov_id), (2, 64, ov_id), (2, 65, ov_id), (2, 66, ov_id), (2, 67, ov_id), (2, 68, ov_id), (2, 69, ov_id), (2, 70, ov_id), (0, 0, ov_id), (0, 0, ov_id), (0, 0, ov_id), (2, 71, ov_id), (2, 72, ov_id), (2, 73, ov_id), (0, 0, ov_id), (2, 74, ov_id), (2, 75, ov_id), (2, 76, ov_id), (2, 77, ov_id), (2, 78, ov_id), (2, 79, ov_id), (2, 80, ov_id), (2, 81, ov_id), (2, 82, ov_id), (2, 83, ov_id), (2, 84, ov_id), (0, 0, ov_id), (0, 0, ov_id), (0, 0, ov_id), (0, 0, ov_id), (0, 0, ov_id), (0, 0, ov_id), (0, 0, ov_id), (0, 0, ov_id), (0, 0, ov_id), (2, 85, ov_id), (2, 86, ov_id), (2, 87, ov_id), (2, 88, ov_id), (1, 0, ov_id), (2, 89, ov_id), (0, 0, ov_id), (2, 90, ov_id), (2, 91, ov_id), (2, 92, ov_id), (2, 93, ov_id), (2, 94, ov_id), (0, 0, ov_id), (2, 95, ov_id), (2, 96, ov_id), (2, 97, ov_id), (2, 98, ov_id), (1, 0, ov_id), (1, 0, ov_id), (0, 0, ov_id), (2, 99, ov_id)])
def ov_s15 : ov_Sh := .inr (99, 0, 0, fun _ _ => 0)
def ov_s16 : ov_Sh := .inr (10, 0, 0, fun _ _ => 0)
def ov_s17 : ov_Sh := .inr (11, 6, 0, fun _ _ => 0)
def ov_s18 : ov_Sh := .inr (99, 0, 0, fun _ _ => 0)
def ov_s19 : ov_Sh := .inr (99, 0, 0, fun _ _ => 0)
def ov_s20 : ov_Sh := .inr (0, 10, 0, fun _ _ => 0)
def ov_s21 : ov_Sh := .inr (0, 20, 0, fun _ _ => 0)
def ov_s22 : ov_Sh := .inr (0, 99, 0, fun _ _ => 0)
def ov_s23 : ov_Sh := .inr (0, 99, 0, fun _ _ => 0)
def ov_s24 : ov_Sh := .inr (0, 99, 0, fun _ _ => 0)
def ov_s25 : ov_Sh := .inr (0, 99, 0, fun _ _ => 0)
def ov_s26 : ov_Sh := .inr (0, 99, 0, fun _ _ => 0)
def ov_s27 : ov_Sh := .inr (0, 10, 0, fun _ _ => 0)
def ov_s28 : ov_Sh := .inr (0, 10, 0, fun _ _ => 0)
def ov_s29 : ov_Sh := .inr (0, 108, 0, fun _ _ => 0)
def ov_s30 : ov_Sh := .inr (0, 9, 0, fun _ _ => 0)
def ov_s31 : ov_Sh := .inr (0, 9, 0, fun _ _ => 0)
def ov_s32 : ov_Sh := .inr (0, 9, 0, fun _ _ => 0)
def ov_s33 : ov_Sh := .inr (0, 4, 0, fun _ _ => 0)
def ov_s34 : ov_Sh := .inr (0, 3, 0, fun _ _ => 0)
def ov_s35 : ov_Sh := .inr (0, 10, 0, fun _ _ => 0)
def ov_s36 : ov_Sh := .inr (0, 10, 0, fun _ _ => 0)
def ov_s37 : ov_Sh := .inr (0, 10, 0, fun _ _ => 0)
def ov_s38 : ov_Sh := .inr (0, 10, 0, fun _ _ => 0)
def ov_s39 : ov_Sh := .inr (0, 10, 0, fun _ _ => 0)
def ov_s40 : ov_Sh := .inr (0, 3, 0, fun _ _ => 0)
def ov_s41 : ov_Sh := .inr (0, 30, 0, fun _ _ => 0)
def ov_s42 : ov_Sh := .inr (0, 30, 0, fun _ _ => 0)
def ov_s43 : ov_Sh := .inr (0, 30, 0, fun _ _ => 0)
def ov_s44 : ov_Sh := .inr (0, 30, 0, fun _ _ => 0)
def ov_s45 : ov_Sh := .inr (0, 400, 0, fun _ _ => 0)
def ov_s46 : ov_Sh := .inr (0, 401, 0, fun _ _ => 0)
def ov_s47 : ov_Sh := .inr (0, 401, 0, fun _ _ => 0)
def ov_s48 : ov_Sh := .inr (0, 401, 0, fun _ _ => 0)
def ov_s49 : ov_Sh := .inr (2, 81, 0, fun _ _ => 0)
def ov_s50 : ov_Sh := .inr (2, 81, 0, fun _ _ => 0)
def ov_s51 : ov_Sh := .inr (2, 81, 0, fun _ _ => 0)
def ov_s52 : ov_Sh := .inr (0, 12, 0, fun _ _ => 0)
def ov_s53 : ov_Sh := .inr (0, 36, 0, fun _ _ => 0)
def ov_s54 : ov_Sh := .inr (0, 82, 0, fun _ _ => 0)
def ov_s55 : ov_Sh := .inr (0, 9, 0, fun _ _ => 0)
def ov_s56 : ov_Sh := .inr (0, 9, 0, fun _ _ => 0)
def ov_s57 : ov_Sh := .inr (0, 3, 0, fun _ _ => 0)
def ov_s58 : ov_Sh := .inr (0, 4, 0, fun _ _ => 0)
def ov_s59 : ov_Sh := .inr (0, 4, 0, fun _ _ => 0)
def ov_s60 : ov_Sh := .inr (0, 4, 0, fun _ _ => 0)
def ov_s61 : ov_Sh := .inr (0, 4, 0, fun _ _ => 0)
def ov_s62 : ov_Sh := .inr (0, 12, 0, fun _ _ => 0)
def ov_s63 : ov_Sh := .inr (0, 10, 0, fun _ _ => 0)
def ov_s64 : ov_Sh := .inr (0, 120, 0, fun _ _ => 0)
def ov_s65 : ov_Sh := .inr (0, 48, 0, fun _ _ => 0)
def ov_s66 : ov_Sh := .inr (0, 36, 0, fun _ _ => 0)
def ov_s67 : ov_Sh := .inr (0, 120, 0, fun _ _ => 0)
def ov_s68 : ov_Sh := .inr (0, 120, 0, fun _ _ => 0)
def ov_s69 : ov_Sh := .inr (0, 120, 0, fun _ _ => 0)
def ov_s70 : ov_Sh := .inr (0, 120, 0, fun _ _ => 0)
def ov_s71 : ov_Sh := .inr (0, 20, 0, fun _ _ => 0)
def ov_s72 : ov_Sh := .inr (0, 12, 0, fun _ _ => 0)
def ov_s73 : ov_Sh := .inr (0, 4, 0, fun _ _ => 0)
def ov_s74 : ov_Sh := .inr (0, 99, 0, fun _ _ => 0)
def ov_s75 : ov_Sh := .inr (0, 99, 0, fun _ _ => 0)
def ov_s76 : ov_Sh := .inr (0, 99, 0, fun _ _ => 0)
def ov_s77 : ov_Sh := .inr (0, 99, 0, fun _ _ => 0)
def ov_s78 : ov_Sh := .inr (0, 99, 0, fun _ _ => 0)
def ov_s79 : ov_Sh := .inr (0, 4, 0, fun _ _ => 0)
def ov_s80 : ov_Sh := .inr (0, 4, 0, fun _ _ => 0)
def ov_s81 : ov_Sh := .inr (0, 4, 0, fun _ _ => 0)
def ov_s82 : ov_Sh := .inr (0, 4, 0, fun _ _ => 0)
def ov_s83 : ov_Sh := .inr (1, 45, 0, fun _ _ => 0)
def ov_s84 : ov_Sh := .inr (0, 400, 0, fun _ _ => 0)
def ov_s85 : ov_Sh := .inr (0, 600, 0, fun _ _ => 0)
def ov_s86 : ov_Sh := .inr (0, 4, 0, fun _ _ => 0)
def ov_s87 : ov_Sh := .inr (0, 4, 0, fun _ _ => 0)
def ov_s88 : ov_Sh := .inr (0, 46656, 0, fun _ _ => 0)
def ov_s89 : ov_Sh := .inr (0, 46656, 0, fun _ _ => 0)
def ov_s90 : ov_Sh := .inr (0, 108, 0, fun _ _ => 0)
def ov_s91 : ov_Sh := .inr (0, 351, 0, fun _ _ => 0)
def ov_s92 : ov_Sh := .inr (0, 9, 0, fun _ _ => 0)
def ov_s93 : ov_Sh := .inr (0, 9, 0, fun _ _ => 0)
def ov_s94 : ov_Sh := .inr (0, 9, 0, fun _ _ => 0)
def ov_s95 : ov_Sh := .inr (0, 9, 0, fun _ _ => 0)
def ov_s96 : ov_Sh := .inr (0, 3, 0, fun _ _ => 0)
def ov_s97 : ov_Sh := .inr (0, 36, 0, fun _ _ => 0)
def ov_s98 : ov_Sh := .inr (0, 16, 0, fun _ _ => 0)
def ov_s99 : ov_Sh := .inr (0, 2000, 0, fun _ _ => 0)
def ov_shl : List ov_Sh := [ov_s0, ov_s1, ov_s2, ov_s3, ov_s4, ov_s5, ov_s6, ov_s7, ov_s8, ov_s9, ov_s10, ov_s11, ov_s12, ov_s13, ov_s14, ov_s15, ov_s16, ov_s17, ov_s18, ov_s19, ov_s20, ov_s21, ov_s22, ov_s23, ov_s24, ov_s25, ov_s26, ov_s27, ov_s28, ov_s29, ov_s30, ov_s31, ov_s32, ov_s33, ov_s34, ov_s35, ov_s36, ov_s37, ov_s38, ov_s39, ov_s40, ov_s41, ov_s42, ov_s43, ov_s44, ov_s45, ov_s46, ov_s47, ov_s48, ov_s49, ov_s50, ov_s51, ov_s52, ov_s53, ov_s54, ov_s55, ov_s56, ov_s57, ov_s58, ov_s59, ov_s60, ov_s61, ov_s62, ov_s63, ov_s64, ov_s65, ov_s66, ov_s67, ov_s68, ov_s69, ov_s70, ov_s71, ov_s72, ov_s73, ov_s74, ov_s75, ov_s76, ov_s77, ov_s78, ov_s79, ov_s80, ov_s81, ov_s82, ov_s83, ov_s84, ov_s85, ov_s86, ov_s87, ov_s88, ov_s89, ov_s90, ov_s91, ov_s92, ov_s93, ov_s94, ov_s95, ov_s96, ov_s97, ov_s98, ov_s99]
def ov_nth {α : Type} (d : α) : List α → Nat → α
  | [], _ => d
  | a :: _, 0 => a
  | _ :: l, n + 1 => ov_nth d l n
def ov_sh (r : Nat) : ov_Sh := ov_nth (.inr (99, 0, 0, fun _ _ => 0)) ov_shl r
def ov_lk {α : Type} (i : Nat) : List (Nat × α) → Option α
  | [] => none
  | (k, v) :: l => match Nat.beq k i with
    | true => some v
    | false => ov_lk i l
def ov_cn : Nat → String := ov_nth "" ["OneEye$Book", "OneEye$Deal", "OneEye$Feelers", "OneEye$Person", "OneEye$Plan", "OneEye$Reader", "OneEye$Tables", "OneEye$Talk", "OneEye$Three", "OneEye$Way", "OneEye$World", "OneEye", "OneEyeModel", "OneEyeLaw", "java/lang/Integer", "java/lang/Math", "java/util/Arrays"]
def ov_fl : List (List (Nat × Nat × Nat)) := [[(9, 0, 0), (15, 0, 1), (18, 0, 2), (21, 0, 3), (24, 0, 4), (27, 0, 6), (30, 0, 7), (39, 0, 5)], [(9, 1, 0), (15, 1, 2), (18, 1, 3), (28, 1, 1)], [(11, 2, 0)], [(9, 3, 0), (15, 3, 1), (18, 3, 2), (21, 3, 3), (24, 3, 4), (27, 3, 5), (30, 3, 7), (40, 3, 6)], [(9, 4, 0), (15, 4, 1), (18, 4, 2), (21, 4, 3), (24, 4, 4)], [(9, 5, 0), (18, 5, 2), (22, 5, 4), (26, 5, 5), (29, 5, 6), (32, 5, 7), (35, 5, 1), (42, 5, 3), (45, 5, 8), (48, 5, 9), (89, 4, 4)], [(9, 6, 0), (15, 6, 1), (18, 6, 2), (21, 6, 3), (24, 6, 5), (39, 6, 4)], [(11, 7, 0), (15, 7, 1), (18, 7, 2)], [(9, 8, 5), (18, 8, 6), (22, 8, 0), (26, 8, 1), (29, 8, 2), (32, 8, 3), (35, 8, 4), (48, 8, 7), (51, 8, 8), (54, 8, 9), (57, 8, 10), (60, 8, 11), (78, 4, 4)], [(9, 9, 0), (15, 9, 2), (24, 9, 1)], [(11, 10, 0), (19, 10, 1), (23, 10, 3), (30, 10, 4), (37, 10, 5), (41, 10, 6), (44, 10, 10), (57, 10, 2), (72, 10, 7), (75, 10, 8), (78, 10, 9), (85, 8, 0), (88, 8, 1), (125, 8, 8), (128, 8, 7), (131, 8, 6), (135, 4, 4), (147, 4, 0), (150, 4, 2), (153, 4, 1), (164, 4, 3), (178, 8, 5), (188, 3, 7), (199, 8, 9), (208, 8, 2), (211, 8, 11), (214, 8, 3), (217, 8, 10), (223, 3, 5), (229, 3, 6), (232, 8, 4)], [(10, 11, 0), (16, 11, 1), (22, 11, 2), (29, 11, 3), (36, 11, 4), (43, 11, 5), (50, 11, 6), (54, 10, 8), (66, 10, 3), (78, 3, 7), (87, 5, 1), (97, 10, 2), (104, 5, 2), (114, 8, 6), (117, 4, 4), (122, 5, 3), (125, 5, 4), (128, 10, 9), (148, 3, 6), (151, 3, 5), (157, 10, 4), (186, 10, 5), (190, 6, 0), (203, 9, 1), (206, 9, 0), (209, 6, 1), (212, 6, 2), (225, 6, 4), (228, 6, 3), (234, 1, 1), (237, 1, 0), (240, 6, 5), (250, 0, 5), (253, 10, 10), (256, 10, 7)], [(7, 12, 3), (13, 12, 4), (16, 12, 5), (19, 12, 6), (22, 12, 7), (25, 12, 8), (28, 12, 9), (31, 12, 10), (34, 12, 11), (37, 12, 12), (40, 12, 13), (43, 12, 14), (46, 12, 15), (49, 12, 17), (53, 12, 19), (56, 12, 20), (59, 12, 21), (62, 12, 23), (65, 12, 24), (68, 12, 25), (71, 12, 26), (74, 12, 27), (77, 12, 28), (80, 12, 29), (83, 12, 30), (86, 12, 31), (89, 12, 32), (93, 12, 33), (96, 12, 42), (99, 12, 43), (102, 12, 44), (105, 12, 45), (109, 12, 46), (112, 12, 48), (115, 12, 50), (118, 12, 51), (121, 12, 52), (124, 12, 53), (127, 12, 54), (130, 12, 56), (133, 12, 57), (136, 12, 58), (139, 12, 59), (142, 12, 63), (145, 12, 0), (148, 12, 1), (153, 12, 2), (170, 12, 34), (177, 12, 35), (184, 12, 36), (187, 12, 37), (197, 12, 38), (203, 12, 39), (206, 12, 40), (228, 12, 41), (249, 12, 22), (252, 12, 16), (266, 12, 18), (285, 12, 47), (311, 12, 49), (341, 12, 55), (359, 12, 62), (362, 12, 60), (368, 12, 61)], [], [], [], []]
def ov_lf (c i : Nat) : Option (Nat × Nat) := ov_lk i (ov_nth [] ov_fl c)
/-- method links: 0 static, 1 virtual, 2 <init>; 3, 4, 5 the same of a nest mate; 6 Object.<init>, 7 arraycopy, 8 String.length, 9 String.charAt, 10 Math.max, 11 Math.min -/
def ov_ml0 : List (Nat × Nat × ov_M) := [(3, 6, mq_Eye_init), (33, 7, mq_Eye_init), (47, 1, mq_Book_gatherSayers), (51, 0, mq_Integer_bitCount), (57, 1, mq_Book_agreeWithout), (61, 0, mq_Arrays_fillI), (43, 3, mq_Eye_within), (67, 3, mq_Eye_withBit)]
def ov_ml1 : List (Nat × Nat × ov_M) := [(3, 6, mq_Eye_init), (21, 0, mq_Arrays_fillI), (32, 11, mq_Eye_init), (38, 1, mq_Deal_deal), (42, 1, mq_Deal_compare), (45, 10, mq_Eye_init), (48, 7, mq_Eye_init)]
def ov_ml2 : List (Nat × Nat × ov_M) := [(3, 6, mq_Eye_init), (16, 0, mq_Arrays_fillI), (22, 1, mq_Feelers_worthiestBut), (26, 1, mq_Feelers_dealOut), (34, 11, mq_Eye_init), (30, 3, mq_Eye_withBit), (40, 3, mq_Eye_holdsBit), (44, 3, mq_Eye_within)]
def ov_ml3 : List (Nat × Nat × ov_M) := [(3, 6, mq_Eye_init), (34, 7, mq_Eye_init), (43, 3, mq_Eye_within)]
def ov_ml4 : List (Nat × Nat × ov_M) := [(3, 6, mq_Eye_init), (32, 7, mq_Eye_init), (28, 3, mq_Eye_within)]
def ov_ml5 : List (Nat × Nat × ov_M) := [(3, 6, mq_Eye_init), (51, 1, mq_Reader_endOfRun), (55, 1, mq_Reader_signAt), (59, 0, mq_Reader_sortOf), (62, 1, mq_Reader_takeToken), (66, 1, mq_Reader_keepToken), (69, 1, mq_Reader_wordAt), (72, 1, mq_Reader_valueAt), (75, 1, mq_Reader_isWord), (80, 8, mq_Eye_init), (85, 9, mq_Eye_init), (92, 1, mq_Reader_token), (95, 1, mq_Reader_readStep), (99, 1, mq_Reader_blame), (102, 1, mq_Reader_expect), (105, 0, mq_Reader_mostOf), (108, 1, mq_Reader_expectNumber), (111, 1, mq_Plan_add), (17, 5, mq_Plan_init), (38, 3, mq_Eye_within)]
def ov_ml6 : List (Nat × Nat × ov_M) := [(3, 6, mq_Eye_init), (27, 0, mq_Arrays_fillI), (33, 7, mq_Eye_init), (47, 0, mq_Integer_bitCount), (53, 1, mq_Tables_closes), (65, 1, mq_Tables_goesRound), (69, 1, mq_Tables_wouldLend), (72, 1, mq_Tables_goesOn), (43, 3, mq_Eye_within), (57, 3, mq_Eye_holdsBit), (61, 3, mq_Eye_withBit)]
def ov_ml7 : List (Nat × Nat × ov_M) := [(3, 6, mq_Eye_init), (25, 0, mq_Arrays_fillJ), (31, 1, mq_Talk_moveEdge), (35, 1, mq_Talk_handOverFrom), (39, 1, mq_Talk_sayFrom), (44, 1, mq_Talk_say), (21, 3, mq_Eye_within)]
def ov_ml8 : List (Nat × Nat × ov_M) := [(3, 6, mq_Eye_init), (38, 7, mq_Eye_init), (44, 1, mq_Plan_copyFrom), (67, 1, mq_Three_placeOf), (71, 1, mq_Three_settledPlaceOf), (17, 5, mq_Plan_init), (63, 3, mq_Eye_within), (74, 3, mq_Eye_holdsBit)]
def ov_ml9 : List (Nat × Nat × ov_M) := [(3, 6, mq_Eye_init), (18, 11, mq_Eye_init), (28, 0, mq_Arrays_fillI), (34, 1, mq_Way_weigh), (38, 1, mq_Way_walk), (41, 1, mq_Way_cheapest), (45, 1, mq_Way_costFrom), (49, 3, mq_Eye_dangerAt), (52, 3, mq_Eye_within)]
def ov_ml10 : List (Nat × Nat × ov_M) := [(3, 6, mq_Eye_init), (36, 2, mq_Tables_init), (50, 1, mq_Three_copyFrom), (54, 1, mq_Person_copyFrom), (60, 7, mq_Eye_init), (66, 1, mq_Book_copyFrom), (69, 1, mq_Tables_copyFrom), (92, 1, mq_World_personOf), (96, 1, mq_Person_knowledgeOf), (104, 1, mq_World_draw), (107, 1, mq_World_act), (111, 1, mq_World_noisesNow), (115, 1, mq_World_endMinute), (121, 1, mq_World_threeAt), (140, 1, mq_World_begin), (144, 1, mq_World_workOn), (156, 1, mq_World_give), (160, 1, mq_World_see), (167, 1, mq_World_speak), (171, 1, mq_Three_occupy), (175, 1, mq_Three_holderOf), (181, 1, mq_Person_seeFact), (184, 1, mq_Book_write), (195, 1, mq_Person_believe), (202, 1, mq_World_finishGiving), (205, 1, mq_World_finishFeeling), (220, 1, mq_Three_firstWithEmptyHands), (226, 1, mq_World_hearNoises), (29, 5, mq_Book_init), (48, 5, mq_Three_init), (49, 5, mq_Person_init), (81, 3, mq_Eye_within), (100, 3, mq_Eye_withBit), (191, 3, mq_Eye_holdsBit)]
def ov_ml11 : List (Nat × Nat × ov_M) := [(1, 6, mq_Eye_init), (9, 2, mq_World_init), (58, 0, mq_Eye_within), (62, 1, mq_World_addThree), (70, 1, mq_World_personAt), (74, 1, mq_World_threeAt), (83, 0, mq_Eye_withBit), (90, 1, mq_Reader_append), (94, 1, mq_Reader_takeTape), (100, 1, mq_Reader_readPlan), (108, 1, mq_Three_follow), (132, 1, mq_World_passMinute), (135, 1, mq_Three_placeOf), (139, 1, mq_Person_knowledgeOf), (142, 1, mq_Person_originOf), (145, 1, mq_World_addNoise), (154, 1, mq_Three_tell), (161, 1, mq_Book_tell), (165, 1, mq_World_knowersOf), (168, 1, mq_Three_settledPlaceOf), (171, 0, mq_Eye_holdsBit), (175, 1, mq_Three_sendWord), (179, 1, mq_Three_mouthAndEar), (183, 1, mq_Talk_fewestActs), (195, 0, mq_Eye_dangerAt), (199, 1, mq_Way_find), (215, 1, mq_Feelers_leastSum), (219, 1, mq_Book_fewestLiars), (222, 1, mq_Tables_addWatch), (231, 1, mq_Deal_find), (243, 1, mq_Tables_smallestRing), (246, 1, mq_World_copyFrom), (21, 5, mq_Reader_init), (28, 5, mq_Talk_init), (35, 5, mq_Way_init), (42, 5, mq_Feelers_init), (49, 5, mq_Deal_init)]
def ov_ml12 : List (Nat × Nat × ov_M) := [(1, 6, mq_Eye_init), (156, 1, mq_Mod_isIn), (160, 1, mq_Mod_isFact), (164, 1, mq_Mod_isPerson), (167, 1, mq_Mod_isThree), (173, 1, mq_Mod_puts), (180, 1, mq_Mod_raw), (190, 1, mq_Mod_isLetter), (193, 1, mq_Mod_wordOf), (200, 1, mq_Mod_isDigit), (209, 1, mq_Mod_errs), (212, 1, mq_Mod_reads), (215, 1, mq_Mod_readNumber), (218, 1, mq_Mod_readThing), (222, 1, mq_Mod_readTo), (225, 1, mq_Mod_readStep), (231, 1, mq_Mod_readPlan), (234, 1, mq_Mod_thing), (237, 1, mq_Mod_draw), (240, 1, mq_Mod_handsOver), (243, 1, mq_Mod_feels), (246, 1, mq_Mod_holder), (255, 1, mq_Mod_sees), (259, 1, mq_Mod_says), (263, 1, mq_Mod_ends), (269, 1, mq_Mod_begins), (272, 1, mq_Mod_sounds), (276, 1, mq_Mod_goesBy), (279, 1, mq_Mod_isThing), (282, 1, mq_Mod_memberOf), (289, 1, mq_Mod_movedTo), (293, 1, mq_Mod_comes), (297, 1, mq_Mod_knowersOf), (300, 1, mq_Mod_placesOf), (303, 1, mq_Mod_errandFrom), (307, 1, mq_Mod_findsErrand), (314, 1, mq_Mod_stateOf), (317, 1, mq_Mod_talks), (320, 1, mq_Mod_talkFrom), (323, 1, mq_Mod_tolls), (326, 1, mq_Mod_dangerAt), (329, 1, mq_Mod_behind), (332, 1, mq_Mod_feltBy), (335, 1, mq_Mod_ones), (338, 1, mq_Mod_goTogether), (344, 1, mq_Mod_spread), (347, 1, mq_Mod_watcher), (350, 1, mq_Mod_grows), (353, 1, mq_Mod_isRing), (356, 1, mq_Mod_canRing), (365, 1, mq_Mod_kept), (371, 1, mq_Mod_keepsThrees), (374, 1, mq_Mod_keepsOthers)]
def ov_ml13 : List (Nat × Nat × ov_M) := [(9, 2, mq_Eye_init), (12, 2, mq_Mod_init), (13, 1, mq_Eye_state), (17, 1, mq_Mod_state), (18, 1, mq_Eye_three), (22, 1, mq_Mod_three), (23, 1, mq_Eye_fact), (27, 1, mq_Mod_fact), (28, 1, mq_Eye_trust), (32, 1, mq_Mod_trust), (33, 1, mq_Eye_feed), (37, 1, mq_Mod_feed), (38, 1, mq_Eye_end), (42, 1, mq_Mod_end), (43, 1, mq_Eye_text), (46, 1, mq_Mod_text), (47, 1, mq_Eye_fault), (50, 1, mq_Mod_fault), (51, 1, mq_Eye_minutes), (54, 1, mq_Mod_minutes), (55, 1, mq_Eye_where), (58, 1, mq_Mod_where), (59, 1, mq_Eye_knows), (62, 1, mq_Mod_knows), (63, 1, mq_Eye_origin), (67, 1, mq_Mod_origin), (68, 1, mq_Eye_noise), (71, 1, mq_Mod_noise), (72, 1, mq_Eye_heard), (75, 1, mq_Mod_heard), (76, 1, mq_Eye_held), (79, 1, mq_Mod_held), (80, 1, mq_Eye_of), (83, 1, mq_Mod_of), (84, 1, mq_Eye_book), (87, 1, mq_Mod_book), (88, 1, mq_Eye_errand), (92, 1, mq_Mod_errand), (93, 1, mq_Eye_talk), (96, 1, mq_Mod_talk), (97, 1, mq_Eye_danger), (101, 1, mq_Mod_danger), (102, 1, mq_Eye_way), (105, 1, mq_Mod_way), (106, 1, mq_Eye_spot), (110, 1, mq_Mod_spot), (111, 1, mq_Eye_felt), (115, 1, mq_Mod_felt), (116, 1, mq_Eye_liars), (119, 1, mq_Mod_liars), (120, 1, mq_Eye_watch), (123, 1, mq_Mod_watch), (124, 1, mq_Eye_watches), (127, 1, mq_Mod_watches), (128, 1, mq_Eye_lends), (132, 1, mq_Mod_lends), (133, 1, mq_Eye_ring), (136, 1, mq_Mod_ring), (137, 1, mq_Eye_image), (141, 1, mq_Mod_image), (142, 1, mq_Eye_look), (145, 1, mq_Mod_look)]
def ov_ml14 : List (Nat × Nat × ov_M) := []
def ov_ml15 : List (Nat × Nat × ov_M) := []
def ov_ml16 : List (Nat × Nat × ov_M) := []
def ov_mll : List (List (Nat × Nat × ov_M)) := [ov_ml0, ov_ml1, ov_ml2, ov_ml3, ov_ml4, ov_ml5, ov_ml6, ov_ml7, ov_ml8, ov_ml9, ov_ml10, ov_ml11, ov_ml12, ov_ml13, ov_ml14, ov_ml15, ov_ml16]
def ov_lm (c i : Nat) : Option (Nat × ov_M) := ov_lk i (ov_nth [] ov_mll c)
def ov_nl : List (List (Nat × Nat)) := [[], [], [], [], [], [(15, 4)], [], [], [(15, 4)], [], [(9, 8), (17, 3), (27, 0), (34, 6)], [(7, 10), (19, 5), (26, 7), (33, 9), (40, 2), (47, 1)], [], [(7, 11), (10, 12)], [], [], []]
def ov_ln (c i : Nat) : Option Nat := ov_lk i (ov_nth [] ov_nl c)
def ov_cl : List (List (Nat × Int32)) := [[], [(27, (1000000 : Int32))], [(15, (268435456 : Int32))], [], [], [], [], [], [], [], [(91, (99999 : Int32)), (119, (1664525 : Int32)), (120, (1013904223 : Int32))], [(131, (99999 : Int32))], [(108, (46656 : Int32)), (151, (1664525 : Int32)), (152, (1013904223 : Int32)), (275, (99999 : Int32)), (296, (1000000 : Int32))], [], [(265, (1431655765 : Int32)), (266, (858993459 : Int32)), (267, (252645135 : Int32))], [], []]
def ov_lc (c i : Nat) : Option Int32 := ov_lk i (ov_nth [] ov_cl c)
def ov_ll : List (List (Nat × Int64)) := [[], [], [], [], [], [], [], [(42, (-1 : Int64))], [], [], [], [], [], [], [], [], []]
def ov_lL (c i : Nat) : Option Int64 := ov_lk i (ov_nth [] ov_ll c)
def ov_kp : List (Nat × Int32) := [(0, 0), (1, 1), (2, 2), (3, 3), (4, 4), (5, 5), (6, 6), (7, 7), (8, 8), (9, 9), (10, 10), (11, 11), (12, 12), (13, 13), (14, 14), (15, 15), (16, 16), (17, 17), (18, 18), (19, 19), (20, 20), (21, 21), (22, 22), (23, 23), (24, 24), (25, 25), (26, 26), (27, 27), (28, 28), (29, 29), (30, 30), (31, 31), (32, 32), (33, 33), (34, 34), (35, 35), (36, 36), (37, 37), (38, 38), (39, 39), (40, 40), (41, 41), (42, 42), (43, 43), (44, 44), (45, 45), (48, 48), (57, 57), (59, 59), (61, 61), (63, 63), (65, 65), (80, 80), (81, 81), (82, 82), (90, 90), (97, 97), (98, 98), (99, 99), (100, 100), (101, 101), (102, 102), (103, 103), (104, 104), (105, 105), (108, 108), (109, 109), (111, 111), (114, 114), (115, 115), (116, 116), (117, 117), (118, 118), (120, 120), (121, 121), (122, 122), (216, 216), (240, 240), (255, 255), (351, 351), (380, 380), (399, 399), (400, 400), (401, 401), (480, 480), (511, 511), (512, 512), (600, 600), (729, 729), (1000, 1000), (2000, 2000), (4096, 4096), (10000, 10000)]
def ov_kn : List (Nat × Int32) := [(7, -8), (0, -1)]
/-- a constant, as it is written -/
def ov_k (n : Int) : Int32 := match n with
  | .ofNat a => (ov_lk a ov_kp).getD (Int32.ofInt n)
  | .negSucc a => (ov_lk a ov_kn).getD (Int32.ofInt n)
