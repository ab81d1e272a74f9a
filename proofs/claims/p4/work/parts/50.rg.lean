-- method 203: Model.begins([I)V
set_option maxRecDepth 100000 in
set_option maxHeartbeats 100000000 in
theorem ct_203_239 {L : Nat} {xs : Nat → Int32} {d b c : Nat} {h : hp} {cr : Nat → Nat → Option Nat} {Q : hp_Q} (hcr : CR cr)  (g : GI h)    (k : ∀ (h2 : hp) , GI h2 → FR [(239, 239, some (0, 0)), (239, 239, some (1, 1)), (239, 239, some (2, 2)), (239, 239, some (3, 3)), (239, 239, some (4, 4)), (239, 239, some (5, 5)), (239, 239, some (6, 6)), (239, 239, some (7, 7)), (239, 239, some (8, 8)), (239, 239, some (9, 9)), (239, 239, some (10, 10)), (239, 239, some (11, 11)), (239, 239, some (12, 12)), (239, 239, some (13, 13)), (239, 239, some (14, 14)), (239, 239, some (15, 15)), (239, 239, some (16, 16)), (239, 239, some (17, 17)), (239, 239, some (18, 18)), (239, 239, some (19, 19)), (239, 239, some (20, 20)), (239, 239, some (21, 21)), (239, 239, some (22, 22)), (239, 239, some (23, 23)), (239, 239, some (24, 24)), (239, 239, some (25, 25)), (239, 239, some (26, 26)), (239, 239, some (27, 27)), (239, 239, some (28, 28)), (239, 239, some (29, 29)), (239, 239, some (30, 30)), (239, 239, some (31, 31)), (239, 239, some (32, 32)), (239, 239, some (33, 33)), (239, 239, some (34, 34)), (239, 239, some (35, 35)), (239, 239, some (36, 36)), (239, 239, some (37, 37)), (239, 239, some (38, 38)), (239, 239, some (39, 39)), (239, 239, some (40, 40)), (239, 239, some (41, 41)), (239, 239, some (42, 42)), (239, 239, some (43, 43)), (239, 239, some (44, 44)), (239, 239, some (45, 45)), (239, 239, some (46, 46)), (239, 239, some (47, 47)), (239, 239, some (48, 48)), (239, 239, some (49, 49)), (239, 239, some (50, 50)), (239, 239, some (51, 51)), (239, 239, some (52, 52)), (239, 239, some (53, 53)), (239, 239, some (54, 54)), (239, 239, some (55, 55)), (239, 239, some (56, 56)), (239, 239, some (57, 57)), (239, 239, some (58, 58)), (239, 239, some (59, 59)), (239, 239, some (60, 60)), (239, 239, some (61, 61)), (239, 239, some (62, 62)), (239, 239, some (63, 63)), (239, 239, some (64, 64)), (239, 239, some (65, 65)), (239, 239, some (66, 66)), (239, 239, some (67, 67)), (239, 239, some (68, 68)), (239, 239, some (69, 69)), (239, 239, some (70, 70)), (239, 239, some (71, 71)), (239, 239, some (72, 72)), (239, 239, some (73, 73)), (239, 239, some (74, 74)), (239, 239, some (75, 75)), (239, 239, some (76, 76)), (239, 239, some (77, 77)), (239, 239, some (78, 78)), (239, 239, some (79, 79)), (239, 239, some (80, 80)), (239, 239, some (81, 81)), (239, 239, some (82, 82)), (239, 239, some (83, 83)), (239, 239, some (84, 84)), (239, 239, some (85, 85)), (239, 239, some (86, 86)), (239, 239, some (87, 87)), (239, 239, some (88, 88)), (239, 239, some (89, 89)), (239, 239, some (90, 90)), (239, 239, some (91, 91)), (239, 239, some (92, 92)), (239, 239, some (93, 93)), (239, 239, some (94, 94)), (239, 239, some (95, 95)), (239, 239, some (96, 96)), (239, 239, some (97, 97)), (239, 239, some (98, 98)), (239, 239, some (99, 99)), (239, 239, some (100, 100)), (239, 239, some (101, 101)), (239, 239, some (102, 102)), (239, 239, some (103, 103)), (239, 239, some (104, 104)), (239, 239, some (105, 105)), (239, 239, some (106, 106)), (239, 239, some (107, 107)), (239, 239, some (108, 108)), (239, 239, some (109, 109)), (239, 239, some (110, 110)), (239, 239, some (111, 111)), (239, 239, some (112, 112)), (239, 239, some (113, 113)), (239, 239, some (114, 114)), (239, 239, some (115, 115)), (239, 239, some (116, 116)), (239, 239, some (117, 117)), (239, 239, some (118, 118)), (239, 239, some (119, 119)), (239, 239, some (120, 120)), (239, 239, some (121, 121)), (239, 239, some (122, 122)), (239, 239, some (123, 123)), (239, 239, some (124, 124)), (239, 239, some (125, 125)), (239, 239, some (126, 126)), (239, 239, some (127, 127)), (239, 239, some (128, 128)), (239, 239, some (129, 129)), (239, 239, some (130, 130)), (239, 239, some (131, 131)), (239, 239, some (132, 132)), (239, 239, some (133, 133)), (239, 239, some (134, 134)), (239, 239, some (135, 135)), (239, 239, some (136, 136)), (239, 239, some (137, 137)), (239, 239, some (138, 138)), (239, 239, some (139, 139)), (239, 239, some (140, 140)), (239, 239, some (141, 141)), (239, 239, some (142, 142)), (239, 239, some (143, 143)), (239, 239, some (144, 144)), (239, 239, some (145, 145)), (239, 239, some (146, 146)), (239, 239, some (147, 147)), (239, 239, some (148, 148)), (239, 239, some (149, 149)), (239, 239, some (150, 150)), (239, 239, some (151, 151)), (239, 239, some (152, 152)), (239, 239, some (153, 153)), (239, 239, some (154, 154)), (239, 239, some (155, 155)), (239, 239, some (156, 156)), (239, 239, some (157, 157)), (239, 239, some (158, 158)), (239, 239, some (159, 159)), (239, 239, some (160, 160)), (239, 239, some (161, 161)), (239, 239, some (162, 162)), (239, 239, some (163, 163)), (239, 239, some (164, 164)), (239, 239, some (165, 165)), (239, 239, some (166, 166)), (239, 239, some (167, 167)), (239, 239, some (168, 168)), (239, 239, some (169, 169)), (239, 239, some (170, 170)), (239, 239, some (171, 171)), (239, 239, some (172, 172)), (239, 239, some (173, 173)), (239, 239, some (174, 174)), (239, 239, some (175, 175)), (239, 239, some (176, 176)), (239, 239, some (177, 177)), (239, 239, some (178, 178)), (239, 239, some (179, 179)), (239, 239, some (180, 180)), (239, 239, some (181, 181)), (239, 239, some (182, 182)), (239, 239, some (183, 183)), (239, 239, some (184, 184)), (239, 239, some (185, 185)), (239, 239, some (186, 186)), (239, 239, some (187, 187)), (239, 239, some (188, 188)), (239, 239, some (189, 189)), (239, 239, some (190, 190)), (239, 239, some (191, 191)), (239, 239, some (192, 192)), (239, 239, some (193, 193)), (239, 239, some (194, 194)), (239, 239, some (195, 195)), (239, 239, some (196, 196)), (239, 239, some (197, 197)), (239, 239, some (198, 198)), (239, 239, some (199, 199))] h h2 → (h2 239 5 = 9) → (h2 239 7 = 1) → (h2 239 15 = 0) → (h2 239 16 = 0) → (h2 239 17 = 0) → (h2 239 18 = 0) → (h2 239 0 = 0) → (h2 239 1 = 0) → (h2 239 2 = 0) → (h2 239 3 = 11) → (h2 239 4 = 11) → (h2 239 6 = 0) → (h2 239 8 = 3) → (h2 239 9 = 2) → Q (.inl none) (hp_w h2 cr) b c) : wp (md_xa (L, xs)) d 203 (0, [(0, .ref 239)], [], hp_w h cr, b, c) Q := by
  have F0 : FR [(239, 239, some (0, 0)), (239, 239, some (1, 1)), (239, 239, some (2, 2)), (239, 239, some (3, 3)), (239, 239, some (4, 4)), (239, 239, some (5, 5)), (239, 239, some (6, 6)), (239, 239, some (7, 7)), (239, 239, some (8, 8)), (239, 239, some (9, 9)), (239, 239, some (10, 10)), (239, 239, some (11, 11)), (239, 239, some (12, 12)), (239, 239, some (13, 13)), (239, 239, some (14, 14)), (239, 239, some (15, 15)), (239, 239, some (16, 16)), (239, 239, some (17, 17)), (239, 239, some (18, 18)), (239, 239, some (19, 19)), (239, 239, some (20, 20)), (239, 239, some (21, 21)), (239, 239, some (22, 22)), (239, 239, some (23, 23)), (239, 239, some (24, 24)), (239, 239, some (25, 25)), (239, 239, some (26, 26)), (239, 239, some (27, 27)), (239, 239, some (28, 28)), (239, 239, some (29, 29)), (239, 239, some (30, 30)), (239, 239, some (31, 31)), (239, 239, some (32, 32)), (239, 239, some (33, 33)), (239, 239, some (34, 34)), (239, 239, some (35, 35)), (239, 239, some (36, 36)), (239, 239, some (37, 37)), (239, 239, some (38, 38)), (239, 239, some (39, 39)), (239, 239, some (40, 40)), (239, 239, some (41, 41)), (239, 239, some (42, 42)), (239, 239, some (43, 43)), (239, 239, some (44, 44)), (239, 239, some (45, 45)), (239, 239, some (46, 46)), (239, 239, some (47, 47)), (239, 239, some (48, 48)), (239, 239, some (49, 49)), (239, 239, some (50, 50)), (239, 239, some (51, 51)), (239, 239, some (52, 52)), (239, 239, some (53, 53)), (239, 239, some (54, 54)), (239, 239, some (55, 55)), (239, 239, some (56, 56)), (239, 239, some (57, 57)), (239, 239, some (58, 58)), (239, 239, some (59, 59)), (239, 239, some (60, 60)), (239, 239, some (61, 61)), (239, 239, some (62, 62)), (239, 239, some (63, 63)), (239, 239, some (64, 64)), (239, 239, some (65, 65)), (239, 239, some (66, 66)), (239, 239, some (67, 67)), (239, 239, some (68, 68)), (239, 239, some (69, 69)), (239, 239, some (70, 70)), (239, 239, some (71, 71)), (239, 239, some (72, 72)), (239, 239, some (73, 73)), (239, 239, some (74, 74)), (239, 239, some (75, 75)), (239, 239, some (76, 76)), (239, 239, some (77, 77)), (239, 239, some (78, 78)), (239, 239, some (79, 79)), (239, 239, some (80, 80)), (239, 239, some (81, 81)), (239, 239, some (82, 82)), (239, 239, some (83, 83)), (239, 239, some (84, 84)), (239, 239, some (85, 85)), (239, 239, some (86, 86)), (239, 239, some (87, 87)), (239, 239, some (88, 88)), (239, 239, some (89, 89)), (239, 239, some (90, 90)), (239, 239, some (91, 91)), (239, 239, some (92, 92)), (239, 239, some (93, 93)), (239, 239, some (94, 94)), (239, 239, some (95, 95)), (239, 239, some (96, 96)), (239, 239, some (97, 97)), (239, 239, some (98, 98)), (239, 239, some (99, 99)), (239, 239, some (100, 100)), (239, 239, some (101, 101)), (239, 239, some (102, 102)), (239, 239, some (103, 103)), (239, 239, some (104, 104)), (239, 239, some (105, 105)), (239, 239, some (106, 106)), (239, 239, some (107, 107)), (239, 239, some (108, 108)), (239, 239, some (109, 109)), (239, 239, some (110, 110)), (239, 239, some (111, 111)), (239, 239, some (112, 112)), (239, 239, some (113, 113)), (239, 239, some (114, 114)), (239, 239, some (115, 115)), (239, 239, some (116, 116)), (239, 239, some (117, 117)), (239, 239, some (118, 118)), (239, 239, some (119, 119)), (239, 239, some (120, 120)), (239, 239, some (121, 121)), (239, 239, some (122, 122)), (239, 239, some (123, 123)), (239, 239, some (124, 124)), (239, 239, some (125, 125)), (239, 239, some (126, 126)), (239, 239, some (127, 127)), (239, 239, some (128, 128)), (239, 239, some (129, 129)), (239, 239, some (130, 130)), (239, 239, some (131, 131)), (239, 239, some (132, 132)), (239, 239, some (133, 133)), (239, 239, some (134, 134)), (239, 239, some (135, 135)), (239, 239, some (136, 136)), (239, 239, some (137, 137)), (239, 239, some (138, 138)), (239, 239, some (139, 139)), (239, 239, some (140, 140)), (239, 239, some (141, 141)), (239, 239, some (142, 142)), (239, 239, some (143, 143)), (239, 239, some (144, 144)), (239, 239, some (145, 145)), (239, 239, some (146, 146)), (239, 239, some (147, 147)), (239, 239, some (148, 148)), (239, 239, some (149, 149)), (239, 239, some (150, 150)), (239, 239, some (151, 151)), (239, 239, some (152, 152)), (239, 239, some (153, 153)), (239, 239, some (154, 154)), (239, 239, some (155, 155)), (239, 239, some (156, 156)), (239, 239, some (157, 157)), (239, 239, some (158, 158)), (239, 239, some (159, 159)), (239, 239, some (160, 160)), (239, 239, some (161, 161)), (239, 239, some (162, 162)), (239, 239, some (163, 163)), (239, 239, some (164, 164)), (239, 239, some (165, 165)), (239, 239, some (166, 166)), (239, 239, some (167, 167)), (239, 239, some (168, 168)), (239, 239, some (169, 169)), (239, 239, some (170, 170)), (239, 239, some (171, 171)), (239, 239, some (172, 172)), (239, 239, some (173, 173)), (239, 239, some (174, 174)), (239, 239, some (175, 175)), (239, 239, some (176, 176)), (239, 239, some (177, 177)), (239, 239, some (178, 178)), (239, 239, some (179, 179)), (239, 239, some (180, 180)), (239, 239, some (181, 181)), (239, 239, some (182, 182)), (239, 239, some (183, 183)), (239, 239, some (184, 184)), (239, 239, some (185, 185)), (239, 239, some (186, 186)), (239, 239, some (187, 187)), (239, 239, some (188, 188)), (239, 239, some (189, 189)), (239, 239, some (190, 190)), (239, 239, some (191, 191)), (239, 239, some (192, 192)), (239, 239, some (193, 193)), (239, 239, some (194, 194)), (239, 239, some (195, 195)), (239, 239, some (196, 196)), (239, 239, some (197, 197)), (239, 239, some (198, 198)), (239, 239, some (199, 199))] h h := FR.refl
  refine wi_iconst (n := 0) (nx := 1) (r1 := 0) (r2 := 0) (r3 := 0) rfl ?_
  refine wi_istore_n (i := 1) (e := 0) (lo2 := [(1, vi 0), (0, .ref 239)]) (nx := 2) (r1 := 0) (r2 := 0) (r3 := 0) rfl rfl ?_
  refine wi_iload_n (i := 1) (e := 0) (nx := 3) (r1 := 0) (r2 := 0) (r3 := 0) rfl rfl ?_
  refine wi_sipush (n := 200) (nx := 6) (r1 := 0) (r2 := 0) (r3 := 0) rfl (by decide) ?_
  refine wi_icmp (cd := .ge) (nx := 9) (r1 := 19) (r2 := 0) (r3 := 0) rfl (by omega) (by omega) (fun (q1 : 200 ≤ 0) => by exfalso; omega) (fun (q1 : ¬ (200 ≤ 0)) => ?_)
  refine wi_aload_n (i := 0) (x := 239) (nx := 10) (r1 := 0) (r2 := 0) (r3 := 0) rfl rfl ?_
  refine wi_iload_n (i := 1) (e := 0) (nx := 11) (r1 := 0) (r2 := 0) (r3 := 0) rfl rfl ?_
  refine wi_iconst (n := 0) (nx := 12) (r1 := 0) (r2 := 0) (r3 := 0) rfl ?_
  refine wr_is (k0 := 239) (a := 0) (f := 0) (x := 0) (bl := 0) (bh := 5) (nx := 13) (r1 := 0) (r2 := 0) (r3 := 0) rfl (by decide) rfl (by omega) (by omega) (by decide) g rfl (by omega) (fun h2 g2 w2 u2 => ?_)
  have F3 := F0.then rfl u2
  refine wr_iincL (i := 1) (n := 1) (v := 0) (1) ([(1, vi 1), (0, .ref 239)]) (nx := 16) (r1 := 0) (r2 := 0) (r3 := 0) rfl rfl (by decide) rfl ?_
  refine wi_goto (nx := 19) (r1 := 2) (r2 := 0) (r3 := 0) rfl ?_
  refine wi_iload_n (i := 1) (e := 1) (nx := 3) (r1 := 0) (r2 := 0) (r3 := 0) rfl rfl ?_
  refine wi_sipush (n := 200) (nx := 6) (r1 := 0) (r2 := 0) (r3 := 0) rfl (by decide) ?_
  refine wi_icmp (cd := .ge) (nx := 9) (r1 := 19) (r2 := 0) (r3 := 0) rfl (by omega) (by omega) (fun (q4 : 200 ≤ 1) => by exfalso; omega) (fun (q4 : ¬ (200 ≤ 1)) => ?_)
  refine wi_aload_n (i := 0) (x := 239) (nx := 10) (r1 := 0) (r2 := 0) (r3 := 0) rfl rfl ?_
  refine wi_iload_n (i := 1) (e := 1) (nx := 11) (r1 := 0) (r2 := 0) (r3 := 0) rfl rfl ?_
  refine wi_iconst (n := 0) (nx := 12) (r1 := 0) (r2 := 0) (r3 := 0) rfl ?_
  refine wr_is (k0 := 239) (a := 1) (f := 1) (x := 0) (bl := 0) (bh := 4) (nx := 13) (r1 := 0) (r2 := 0) (r3 := 0) rfl (by decide) rfl (by omega) (by omega) (by decide) g2 rfl (by omega) (fun h5 g5 w5 u5 => ?_)
  have F6 := F3.then rfl u5
  refine wr_iincL (i := 1) (n := 1) (v := 1) (2) ([(1, vi 2), (0, .ref 239)]) (nx := 16) (r1 := 0) (r2 := 0) (r3 := 0) rfl rfl (by decide) rfl ?_
  refine wi_goto (nx := 19) (r1 := 2) (r2 := 0) (r3 := 0) rfl ?_
  refine wi_iload_n (i := 1) (e := 2) (nx := 3) (r1 := 0) (r2 := 0) (r3 := 0) rfl rfl ?_
  refine wi_sipush (n := 200) (nx := 6) (r1 := 0) (r2 := 0) (r3 := 0) rfl (by decide) ?_
  refine wi_icmp (cd := .ge) (nx := 9) (r1 := 19) (r2 := 0) (r3 := 0) rfl (by omega) (by omega) (fun (q7 : 200 ≤ 2) => by exfalso; omega) (fun (q7 : ¬ (200 ≤ 2)) => ?_)
  refine wi_aload_n (i := 0) (x := 239) (nx := 10) (r1 := 0) (r2 := 0) (r3 := 0) rfl rfl ?_
  refine wi_iload_n (i := 1) (e := 2) (nx := 11) (r1 := 0) (r2 := 0) (r3 := 0) rfl rfl ?_
  refine wi_iconst (n := 0) (nx := 12) (r1 := 0) (r2 := 0) (r3 := 0) rfl ?_
  refine wr_is (k0 := 239) (a := 2) (f := 2) (x := 0) (bl := 0) (bh := 12) (nx := 13) (r1 := 0) (r2 := 0) (r3 := 0) rfl (by decide) rfl (by omega) (by omega) (by decide) g5 rfl (by omega) (fun h8 g8 w8 u8 => ?_)
  have F9 := F6.then rfl u8
  refine wr_iincL (i := 1) (n := 1) (v := 2) (3) ([(1, vi 3), (0, .ref 239)]) (nx := 16) (r1 := 0) (r2 := 0) (r3 := 0) rfl rfl (by decide) rfl ?_
  refine wi_goto (nx := 19) (r1 := 2) (r2 := 0) (r3 := 0) rfl ?_
  refine wi_iload_n (i := 1) (e := 3) (nx := 3) (r1 := 0) (r2 := 0) (r3 := 0) rfl rfl ?_
  refine wi_sipush (n := 200) (nx := 6) (r1 := 0) (r2 := 0) (r3 := 0) rfl (by decide) ?_
  refine wi_icmp (cd := .ge) (nx := 9) (r1 := 19) (r2 := 0) (r3 := 0) rfl (by omega) (by omega) (fun (q10 : 200 ≤ 3) => by exfalso; omega) (fun (q10 : ¬ (200 ≤ 3)) => ?_)
  refine wi_aload_n (i := 0) (x := 239) (nx := 10) (r1 := 0) (r2 := 0) (r3 := 0) rfl rfl ?_
  refine wi_iload_n (i := 1) (e := 3) (nx := 11) (r1 := 0) (r2 := 0) (r3 := 0) rfl rfl ?_
  refine wi_iconst (n := 0) (nx := 12) (r1 := 0) (r2 := 0) (r3 := 0) rfl ?_
  refine wr_is (k0 := 239) (a := 3) (f := 3) (x := 0) (bl := 0) (bh := 999) (nx := 13) (r1 := 0) (r2 := 0) (r3 := 0) rfl (by decide) rfl (by omega) (by omega) (by decide) g8 rfl (by omega) (fun h11 g11 w11 u11 => ?_)
  have F12 := F9.then rfl u11
  refine wr_iincL (i := 1) (n := 1) (v := 3) (4) ([(1, vi 4), (0, .ref 239)]) (nx := 16) (r1 := 0) (r2 := 0) (r3 := 0) rfl rfl (by decide) rfl ?_
  refine wi_goto (nx := 19) (r1 := 2) (r2 := 0) (r3 := 0) rfl ?_
  refine wi_iload_n (i := 1) (e := 4) (nx := 3) (r1 := 0) (r2 := 0) (r3 := 0) rfl rfl ?_
  refine wi_sipush (n := 200) (nx := 6) (r1 := 0) (r2 := 0) (r3 := 0) rfl (by decide) ?_
  refine wi_icmp (cd := .ge) (nx := 9) (r1 := 19) (r2 := 0) (r3 := 0) rfl (by omega) (by omega) (fun (q13 : 200 ≤ 4) => by exfalso; omega) (fun (q13 : ¬ (200 ≤ 4)) => ?_)
  refine wi_aload_n (i := 0) (x := 239) (nx := 10) (r1 := 0) (r2 := 0) (r3 := 0) rfl rfl ?_
  refine wi_iload_n (i := 1) (e := 4) (nx := 11) (r1 := 0) (r2 := 0) (r3 := 0) rfl rfl ?_
  refine wi_iconst (n := 0) (nx := 12) (r1 := 0) (r2 := 0) (r3 := 0) rfl ?_
  refine wr_is (k0 := 239) (a := 4) (f := 4) (x := 0) (bl := 0) (bh := 999) (nx := 13) (r1 := 0) (r2 := 0) (r3 := 0) rfl (by decide) rfl (by omega) (by omega) (by decide) g11 rfl (by omega) (fun h14 g14 w14 u14 => ?_)
  have F15 := F12.then rfl u14
  refine wr_iincL (i := 1) (n := 1) (v := 4) (5) ([(1, vi 5), (0, .ref 239)]) (nx := 16) (r1 := 0) (r2 := 0) (r3 := 0) rfl rfl (by decide) rfl ?_
  refine wi_goto (nx := 19) (r1 := 2) (r2 := 0) (r3 := 0) rfl ?_
  refine wi_iload_n (i := 1) (e := 5) (nx := 3) (r1 := 0) (r2 := 0) (r3 := 0) rfl rfl ?_
  refine wi_sipush (n := 200) (nx := 6) (r1 := 0) (r2 := 0) (r3 := 0) rfl (by decide) ?_
  refine wi_icmp (cd := .ge) (nx := 9) (r1 := 19) (r2 := 0) (r3 := 0) rfl (by omega) (by omega) (fun (q16 : 200 ≤ 5) => by exfalso; omega) (fun (q16 : ¬ (200 ≤ 5)) => ?_)
  refine wi_aload_n (i := 0) (x := 239) (nx := 10) (r1 := 0) (r2 := 0) (r3 := 0) rfl rfl ?_
  refine wi_iload_n (i := 1) (e := 5) (nx := 11) (r1 := 0) (r2 := 0) (r3 := 0) rfl rfl ?_
  refine wi_iconst (n := 0) (nx := 12) (r1 := 0) (r2 := 0) (r3 := 0) rfl ?_
  refine wr_is (k0 := 239) (a := 5) (f := 5) (x := 0) (bl := 0) (bh := 999) (nx := 13) (r1 := 0) (r2 := 0) (r3 := 0) rfl (by decide) rfl (by omega) (by omega) (by decide) g14 rfl (by omega) (fun h17 g17 w17 u17 => ?_)
  have F18 := F15.then rfl u17
  refine wr_iincL (i := 1) (n := 1) (v := 5) (6) ([(1, vi 6), (0, .ref 239)]) (nx := 16) (r1 := 0) (r2 := 0) (r3 := 0) rfl rfl (by decide) rfl ?_
  refine wi_goto (nx := 19) (r1 := 2) (r2 := 0) (r3 := 0) rfl ?_
  refine wi_iload_n (i := 1) (e := 6) (nx := 3) (r1 := 0) (r2 := 0) (r3 := 0) rfl rfl ?_
  refine wi_sipush (n := 200) (nx := 6) (r1 := 0) (r2 := 0) (r3 := 0) rfl (by decide) ?_
  refine wi_icmp (cd := .ge) (nx := 9) (r1 := 19) (r2 := 0) (r3 := 0) rfl (by omega) (by omega) (fun (q19 : 200 ≤ 6) => by exfalso; omega) (fun (q19 : ¬ (200 ≤ 6)) => ?_)
  refine wi_aload_n (i := 0) (x := 239) (nx := 10) (r1 := 0) (r2 := 0) (r3 := 0) rfl rfl ?_
  refine wi_iload_n (i := 1) (e := 6) (nx := 11) (r1 := 0) (r2 := 0) (r3 := 0) rfl rfl ?_
  refine wi_iconst (n := 0) (nx := 12) (r1 := 0) (r2 := 0) (r3 := 0) rfl ?_
  refine wr_is (k0 := 239) (a := 6) (f := 6) (x := 0) (bl := 0) (bh := 999) (nx := 13) (r1 := 0) (r2 := 0) (r3 := 0) rfl (by decide) rfl (by omega) (by omega) (by decide) g17 rfl (by omega) (fun h20 g20 w20 u20 => ?_)
  have F21 := F18.then rfl u20
  refine wr_iincL (i := 1) (n := 1) (v := 6) (7) ([(1, vi 7), (0, .ref 239)]) (nx := 16) (r1 := 0) (r2 := 0) (r3 := 0) rfl rfl (by decide) rfl ?_
  refine wi_goto (nx := 19) (r1 := 2) (r2 := 0) (r3 := 0) rfl ?_
  refine wi_iload_n (i := 1) (e := 7) (nx := 3) (r1 := 0) (r2 := 0) (r3 := 0) rfl rfl ?_
  refine wi_sipush (n := 200) (nx := 6) (r1 := 0) (r2 := 0) (r3 := 0) rfl (by decide) ?_
  refine wi_icmp (cd := .ge) (nx := 9) (r1 := 19) (r2 := 0) (r3 := 0) rfl (by omega) (by omega) (fun (q22 : 200 ≤ 7) => by exfalso; omega) (fun (q22 : ¬ (200 ≤ 7)) => ?_)
  refine wi_aload_n (i := 0) (x := 239) (nx := 10) (r1 := 0) (r2 := 0) (r3 := 0) rfl rfl ?_
  refine wi_iload_n (i := 1) (e := 7) (nx := 11) (r1 := 0) (r2 := 0) (r3 := 0) rfl rfl ?_
  refine wi_iconst (n := 0) (nx := 12) (r1 := 0) (r2 := 0) (r3 := 0) rfl ?_
  refine wr_is (k0 := 239) (a := 7) (f := 7) (x := 0) (bl := 0) (bh := 999) (nx := 13) (r1 := 0) (r2 := 0) (r3 := 0) rfl (by decide) rfl (by omega) (by omega) (by decide) g20 rfl (by omega) (fun h23 g23 w23 u23 => ?_)
  have F24 := F21.then rfl u23
  refine wr_iincL (i := 1) (n := 1) (v := 7) (8) ([(1, vi 8), (0, .ref 239)]) (nx := 16) (r1 := 0) (r2 := 0) (r3 := 0) rfl rfl (by decide) rfl ?_
  refine wi_goto (nx := 19) (r1 := 2) (r2 := 0) (r3 := 0) rfl ?_
  refine wi_iload_n (i := 1) (e := 8) (nx := 3) (r1 := 0) (r2 := 0) (r3 := 0) rfl rfl ?_
  refine wi_sipush (n := 200) (nx := 6) (r1 := 0) (r2 := 0) (r3 := 0) rfl (by decide) ?_
  refine wi_icmp (cd := .ge) (nx := 9) (r1 := 19) (r2 := 0) (r3 := 0) rfl (by omega) (by omega) (fun (q25 : 200 ≤ 8) => by exfalso; omega) (fun (q25 : ¬ (200 ≤ 8)) => ?_)
  refine wi_aload_n (i := 0) (x := 239) (nx := 10) (r1 := 0) (r2 := 0) (r3 := 0) rfl rfl ?_
  refine wi_iload_n (i := 1) (e := 8) (nx := 11) (r1 := 0) (r2 := 0) (r3 := 0) rfl rfl ?_
  refine wi_iconst (n := 0) (nx := 12) (r1 := 0) (r2 := 0) (r3 := 0) rfl ?_
  refine wr_is (k0 := 239) (a := 8) (f := 8) (x := 0) (bl := 0) (bh := 999) (nx := 13) (r1 := 0) (r2 := 0) (r3 := 0) rfl (by decide) rfl (by omega) (by omega) (by decide) g23 rfl (by omega) (fun h26 g26 w26 u26 => ?_)
  have F27 := F24.then rfl u26
  refine wr_iincL (i := 1) (n := 1) (v := 8) (9) ([(1, vi 9), (0, .ref 239)]) (nx := 16) (r1 := 0) (r2 := 0) (r3 := 0) rfl rfl (by decide) rfl ?_
  refine wi_goto (nx := 19) (r1 := 2) (r2 := 0) (r3 := 0) rfl ?_
  refine wi_iload_n (i := 1) (e := 9) (nx := 3) (r1 := 0) (r2 := 0) (r3 := 0) rfl rfl ?_
  refine wi_sipush (n := 200) (nx := 6) (r1 := 0) (r2 := 0) (r3 := 0) rfl (by decide) ?_
  refine wi_icmp (cd := .ge) (nx := 9) (r1 := 19) (r2 := 0) (r3 := 0) rfl (by omega) (by omega) (fun (q28 : 200 ≤ 9) => by exfalso; omega) (fun (q28 : ¬ (200 ≤ 9)) => ?_)
  refine wi_aload_n (i := 0) (x := 239) (nx := 10) (r1 := 0) (r2 := 0) (r3 := 0) rfl rfl ?_
  refine wi_iload_n (i := 1) (e := 9) (nx := 11) (r1 := 0) (r2 := 0) (r3 := 0) rfl rfl ?_
  refine wi_iconst (n := 0) (nx := 12) (r1 := 0) (r2 := 0) (r3 := 0) rfl ?_
  refine wr_is (k0 := 239) (a := 9) (f := 9) (x := 0) (bl := 0) (bh := 999) (nx := 13) (r1 := 0) (r2 := 0) (r3 := 0) rfl (by decide) rfl (by omega) (by omega) (by decide) g26 rfl (by omega) (fun h29 g29 w29 u29 => ?_)
  have F30 := F27.then rfl u29
  refine wr_iincL (i := 1) (n := 1) (v := 9) (10) ([(1, vi 10), (0, .ref 239)]) (nx := 16) (r1 := 0) (r2 := 0) (r3 := 0) rfl rfl (by decide) rfl ?_
  refine wi_goto (nx := 19) (r1 := 2) (r2 := 0) (r3 := 0) rfl ?_
  refine wi_iload_n (i := 1) (e := 10) (nx := 3) (r1 := 0) (r2 := 0) (r3 := 0) rfl rfl ?_
  refine wi_sipush (n := 200) (nx := 6) (r1 := 0) (r2 := 0) (r3 := 0) rfl (by decide) ?_
  refine wi_icmp (cd := .ge) (nx := 9) (r1 := 19) (r2 := 0) (r3 := 0) rfl (by omega) (by omega) (fun (q31 : 200 ≤ 10) => by exfalso; omega) (fun (q31 : ¬ (200 ≤ 10)) => ?_)
  refine wi_aload_n (i := 0) (x := 239) (nx := 10) (r1 := 0) (r2 := 0) (r3 := 0) rfl rfl ?_
  refine wi_iload_n (i := 1) (e := 10) (nx := 11) (r1 := 0) (r2 := 0) (r3 := 0) rfl rfl ?_
  refine wi_iconst (n := 0) (nx := 12) (r1 := 0) (r2 := 0) (r3 := 0) rfl ?_
  refine wr_is (k0 := 239) (a := 10) (f := 10) (x := 0) (bl := 0) (bh := 999) (nx := 13) (r1 := 0) (r2 := 0) (r3 := 0) rfl (by decide) rfl (by omega) (by omega) (by decide) g29 rfl (by omega) (fun h32 g32 w32 u32 => ?_)
  have F33 := F30.then rfl u32
  refine wr_iincL (i := 1) (n := 1) (v := 10) (11) ([(1, vi 11), (0, .ref 239)]) (nx := 16) (r1 := 0) (r2 := 0) (r3 := 0) rfl rfl (by decide) rfl ?_
  refine wi_goto (nx := 19) (r1 := 2) (r2 := 0) (r3 := 0) rfl ?_
  refine wi_iload_n (i := 1) (e := 11) (nx := 3) (r1 := 0) (r2 := 0) (r3 := 0) rfl rfl ?_
  refine wi_sipush (n := 200) (nx := 6) (r1 := 0) (r2 := 0) (r3 := 0) rfl (by decide) ?_
  refine wi_icmp (cd := .ge) (nx := 9) (r1 := 19) (r2 := 0) (r3 := 0) rfl (by omega) (by omega) (fun (q34 : 200 ≤ 11) => by exfalso; omega) (fun (q34 : ¬ (200 ≤ 11)) => ?_)
  refine wi_aload_n (i := 0) (x := 239) (nx := 10) (r1 := 0) (r2 := 0) (r3 := 0) rfl rfl ?_
  refine wi_iload_n (i := 1) (e := 11) (nx := 11) (r1 := 0) (r2 := 0) (r3 := 0) rfl rfl ?_
  refine wi_iconst (n := 0) (nx := 12) (r1 := 0) (r2 := 0) (r3 := 0) rfl ?_
  refine wr_is (k0 := 239) (a := 11) (f := 11) (x := 0) (bl := 0) (bh := 999) (nx := 13) (r1 := 0) (r2 := 0) (r3 := 0) rfl (by decide) rfl (by omega) (by omega) (by decide) g32 rfl (by omega) (fun h35 g35 w35 u35 => ?_)
  have F36 := F33.then rfl u35
  refine wr_iincL (i := 1) (n := 1) (v := 11) (12) ([(1, vi 12), (0, .ref 239)]) (nx := 16) (r1 := 0) (r2 := 0) (r3 := 0) rfl rfl (by decide) rfl ?_
  refine wi_goto (nx := 19) (r1 := 2) (r2 := 0) (r3 := 0) rfl ?_
  refine wi_iload_n (i := 1) (e := 12) (nx := 3) (r1 := 0) (r2 := 0) (r3 := 0) rfl rfl ?_
  refine wi_sipush (n := 200) (nx := 6) (r1 := 0) (r2 := 0) (r3 := 0) rfl (by decide) ?_
  refine wi_icmp (cd := .ge) (nx := 9) (r1 := 19) (r2 := 0) (r3 := 0) rfl (by omega) (by omega) (fun (q37 : 200 ≤ 12) => by exfalso; omega) (fun (q37 : ¬ (200 ≤ 12)) => ?_)
  refine wi_aload_n (i := 0) (x := 239) (nx := 10) (r1 := 0) (r2 := 0) (r3 := 0) rfl rfl ?_
  refine wi_iload_n (i := 1) (e := 12) (nx := 11) (r1 := 0) (r2 := 0) (r3 := 0) rfl rfl ?_
  refine wi_iconst (n := 0) (nx := 12) (r1 := 0) (r2 := 0) (r3 := 0) rfl ?_
  refine wr_is (k0 := 239) (a := 12) (f := 12) (x := 0) (bl := 0) (bh := 999) (nx := 13) (r1 := 0) (r2 := 0) (r3 := 0) rfl (by decide) rfl (by omega) (by omega) (by decide) g35 rfl (by omega) (fun h38 g38 w38 u38 => ?_)
  have F39 := F36.then rfl u38
  refine wr_iincL (i := 1) (n := 1) (v := 12) (13) ([(1, vi 13), (0, .ref 239)]) (nx := 16) (r1 := 0) (r2 := 0) (r3 := 0) rfl rfl (by decide) rfl ?_
  refine wi_goto (nx := 19) (r1 := 2) (r2 := 0) (r3 := 0) rfl ?_
  refine wi_iload_n (i := 1) (e := 13) (nx := 3) (r1 := 0) (r2 := 0) (r3 := 0) rfl rfl ?_
  refine wi_sipush (n := 200) (nx := 6) (r1 := 0) (r2 := 0) (r3 := 0) rfl (by decide) ?_
  refine wi_icmp (cd := .ge) (nx := 9) (r1 := 19) (r2 := 0) (r3 := 0) rfl (by omega) (by omega) (fun (q40 : 200 ≤ 13) => by exfalso; omega) (fun (q40 : ¬ (200 ≤ 13)) => ?_)
  refine wi_aload_n (i := 0) (x := 239) (nx := 10) (r1 := 0) (r2 := 0) (r3 := 0) rfl rfl ?_
  refine wi_iload_n (i := 1) (e := 13) (nx := 11) (r1 := 0) (r2 := 0) (r3 := 0) rfl rfl ?_
  refine wi_iconst (n := 0) (nx := 12) (r1 := 0) (r2 := 0) (r3 := 0) rfl ?_
  refine wr_is (k0 := 239) (a := 13) (f := 13) (x := 0) (bl := 0) (bh := 999) (nx := 13) (r1 := 0) (r2 := 0) (r3 := 0) rfl (by decide) rfl (by omega) (by omega) (by decide) g38 rfl (by omega) (fun h41 g41 w41 u41 => ?_)
  have F42 := F39.then rfl u41
  refine wr_iincL (i := 1) (n := 1) (v := 13) (14) ([(1, vi 14), (0, .ref 239)]) (nx := 16) (r1 := 0) (r2 := 0) (r3 := 0) rfl rfl (by decide) rfl ?_
  refine wi_goto (nx := 19) (r1 := 2) (r2 := 0) (r3 := 0) rfl ?_
  refine wi_iload_n (i := 1) (e := 14) (nx := 3) (r1 := 0) (r2 := 0) (r3 := 0) rfl rfl ?_
  refine wi_sipush (n := 200) (nx := 6) (r1 := 0) (r2 := 0) (r3 := 0) rfl (by decide) ?_
  refine wi_icmp (cd := .ge) (nx := 9) (r1 := 19) (r2 := 0) (r3 := 0) rfl (by omega) (by omega) (fun (q43 : 200 ≤ 14) => by exfalso; omega) (fun (q43 : ¬ (200 ≤ 14)) => ?_)
  refine wi_aload_n (i := 0) (x := 239) (nx := 10) (r1 := 0) (r2 := 0) (r3 := 0) rfl rfl ?_
  refine wi_iload_n (i := 1) (e := 14) (nx := 11) (r1 := 0) (r2 := 0) (r3 := 0) rfl rfl ?_
  refine wi_iconst (n := 0) (nx := 12) (r1 := 0) (r2 := 0) (r3 := 0) rfl ?_
  refine wr_is (k0 := 239) (a := 14) (f := 14) (x := 0) (bl := 0) (bh := 999) (nx := 13) (r1 := 0) (r2 := 0) (r3 := 0) rfl (by decide) rfl (by omega) (by omega) (by decide) g41 rfl (by omega) (fun h44 g44 w44 u44 => ?_)
  have F45 := F42.then rfl u44
  refine wr_iincL (i := 1) (n := 1) (v := 14) (15) ([(1, vi 15), (0, .ref 239)]) (nx := 16) (r1 := 0) (r2 := 0) (r3 := 0) rfl rfl (by decide) rfl ?_
  refine wi_goto (nx := 19) (r1 := 2) (r2 := 0) (r3 := 0) rfl ?_
  refine wi_iload_n (i := 1) (e := 15) (nx := 3) (r1 := 0) (r2 := 0) (r3 := 0) rfl rfl ?_
  refine wi_sipush (n := 200) (nx := 6) (r1 := 0) (r2 := 0) (r3 := 0) rfl (by decide) ?_
  refine wi_icmp (cd := .ge) (nx := 9) (r1 := 19) (r2 := 0) (r3 := 0) rfl (by omega) (by omega) (fun (q46 : 200 ≤ 15) => by exfalso; omega) (fun (q46 : ¬ (200 ≤ 15)) => ?_)
  refine wi_aload_n (i := 0) (x := 239) (nx := 10) (r1 := 0) (r2 := 0) (r3 := 0) rfl rfl ?_
  refine wi_iload_n (i := 1) (e := 15) (nx := 11) (r1 := 0) (r2 := 0) (r3 := 0) rfl rfl ?_
  refine wi_iconst (n := 0) (nx := 12) (r1 := 0) (r2 := 0) (r3 := 0) rfl ?_
  refine wr_is (k0 := 239) (a := 15) (f := 15) (x := 0) (bl := 0) (bh := 999) (nx := 13) (r1 := 0) (r2 := 0) (r3 := 0) rfl (by decide) rfl (by omega) (by omega) (by decide) g44 rfl (by omega) (fun h47 g47 w47 u47 => ?_)
  have F48 := F45.then rfl u47
  refine wr_iincL (i := 1) (n := 1) (v := 15) (16) ([(1, vi 16), (0, .ref 239)]) (nx := 16) (r1 := 0) (r2 := 0) (r3 := 0) rfl rfl (by decide) rfl ?_
  refine wi_goto (nx := 19) (r1 := 2) (r2 := 0) (r3 := 0) rfl ?_
  refine wi_iload_n (i := 1) (e := 16) (nx := 3) (r1 := 0) (r2 := 0) (r3 := 0) rfl rfl ?_
  refine wi_sipush (n := 200) (nx := 6) (r1 := 0) (r2 := 0) (r3 := 0) rfl (by decide) ?_
  refine wi_icmp (cd := .ge) (nx := 9) (r1 := 19) (r2 := 0) (r3 := 0) rfl (by omega) (by omega) (fun (q49 : 200 ≤ 16) => by exfalso; omega) (fun (q49 : ¬ (200 ≤ 16)) => ?_)
  refine wi_aload_n (i := 0) (x := 239) (nx := 10) (r1 := 0) (r2 := 0) (r3 := 0) rfl rfl ?_
  refine wi_iload_n (i := 1) (e := 16) (nx := 11) (r1 := 0) (r2 := 0) (r3 := 0) rfl rfl ?_
  refine wi_iconst (n := 0) (nx := 12) (r1 := 0) (r2 := 0) (r3 := 0) rfl ?_
  refine wr_is (k0 := 239) (a := 16) (f := 16) (x := 0) (bl := 0) (bh := 999) (nx := 13) (r1 := 0) (r2 := 0) (r3 := 0) rfl (by decide) rfl (by omega) (by omega) (by decide) g47 rfl (by omega) (fun h50 g50 w50 u50 => ?_)
  have F51 := F48.then rfl u50
  refine wr_iincL (i := 1) (n := 1) (v := 16) (17) ([(1, vi 17), (0, .ref 239)]) (nx := 16) (r1 := 0) (r2 := 0) (r3 := 0) rfl rfl (by decide) rfl ?_
  refine wi_goto (nx := 19) (r1 := 2) (r2 := 0) (r3 := 0) rfl ?_
  refine wi_iload_n (i := 1) (e := 17) (nx := 3) (r1 := 0) (r2 := 0) (r3 := 0) rfl rfl ?_
  refine wi_sipush (n := 200) (nx := 6) (r1 := 0) (r2 := 0) (r3 := 0) rfl (by decide) ?_
  refine wi_icmp (cd := .ge) (nx := 9) (r1 := 19) (r2 := 0) (r3 := 0) rfl (by omega) (by omega) (fun (q52 : 200 ≤ 17) => by exfalso; omega) (fun (q52 : ¬ (200 ≤ 17)) => ?_)
  refine wi_aload_n (i := 0) (x := 239) (nx := 10) (r1 := 0) (r2 := 0) (r3 := 0) rfl rfl ?_
  refine wi_iload_n (i := 1) (e := 17) (nx := 11) (r1 := 0) (r2 := 0) (r3 := 0) rfl rfl ?_
  refine wi_iconst (n := 0) (nx := 12) (r1 := 0) (r2 := 0) (r3 := 0) rfl ?_
  refine wr_is (k0 := 239) (a := 17) (f := 17) (x := 0) (bl := 0) (bh := 999) (nx := 13) (r1 := 0) (r2 := 0) (r3 := 0) rfl (by decide) rfl (by omega) (by omega) (by decide) g50 rfl (by omega) (fun h53 g53 w53 u53 => ?_)
  have F54 := F51.then rfl u53
  refine wr_iincL (i := 1) (n := 1) (v := 17) (18) ([(1, vi 18), (0, .ref 239)]) (nx := 16) (r1 := 0) (r2 := 0) (r3 := 0) rfl rfl (by decide) rfl ?_
  refine wi_goto (nx := 19) (r1 := 2) (r2 := 0) (r3 := 0) rfl ?_
  refine wi_iload_n (i := 1) (e := 18) (nx := 3) (r1 := 0) (r2 := 0) (r3 := 0) rfl rfl ?_
  refine wi_sipush (n := 200) (nx := 6) (r1 := 0) (r2 := 0) (r3 := 0) rfl (by decide) ?_
  refine wi_icmp (cd := .ge) (nx := 9) (r1 := 19) (r2 := 0) (r3 := 0) rfl (by omega) (by omega) (fun (q55 : 200 ≤ 18) => by exfalso; omega) (fun (q55 : ¬ (200 ≤ 18)) => ?_)
  refine wi_aload_n (i := 0) (x := 239) (nx := 10) (r1 := 0) (r2 := 0) (r3 := 0) rfl rfl ?_
  refine wi_iload_n (i := 1) (e := 18) (nx := 11) (r1 := 0) (r2 := 0) (r3 := 0) rfl rfl ?_
  refine wi_iconst (n := 0) (nx := 12) (r1 := 0) (r2 := 0) (r3 := 0) rfl ?_
  refine wr_is (k0 := 239) (a := 18) (f := 18) (x := 0) (bl := 0) (bh := 999) (nx := 13) (r1 := 0) (r2 := 0) (r3 := 0) rfl (by decide) rfl (by omega) (by omega) (by decide) g53 rfl (by omega) (fun h56 g56 w56 u56 => ?_)
  have F57 := F54.then rfl u56
  refine wr_iincL (i := 1) (n := 1) (v := 18) (19) ([(1, vi 19), (0, .ref 239)]) (nx := 16) (r1 := 0) (r2 := 0) (r3 := 0) rfl rfl (by decide) rfl ?_
  refine wi_goto (nx := 19) (r1 := 2) (r2 := 0) (r3 := 0) rfl ?_
  refine wi_iload_n (i := 1) (e := 19) (nx := 3) (r1 := 0) (r2 := 0) (r3 := 0) rfl rfl ?_
  refine wi_sipush (n := 200) (nx := 6) (r1 := 0) (r2 := 0) (r3 := 0) rfl (by decide) ?_
  refine wi_icmp (cd := .ge) (nx := 9) (r1 := 19) (r2 := 0) (r3 := 0) rfl (by omega) (by omega) (fun (q58 : 200 ≤ 19) => by exfalso; omega) (fun (q58 : ¬ (200 ≤ 19)) => ?_)
  refine wi_aload_n (i := 0) (x := 239) (nx := 10) (r1 := 0) (r2 := 0) (r3 := 0) rfl rfl ?_
  refine wi_iload_n (i := 1) (e := 19) (nx := 11) (r1 := 0) (r2 := 0) (r3 := 0) rfl rfl ?_
  refine wi_iconst (n := 0) (nx := 12) (r1 := 0) (r2 := 0) (r3 := 0) rfl ?_
  refine wr_is (k0 := 239) (a := 19) (f := 19) (x := 0) (bl := 0) (bh := 999) (nx := 13) (r1 := 0) (r2 := 0) (r3 := 0) rfl (by decide) rfl (by omega) (by omega) (by decide) g56 rfl (by omega) (fun h59 g59 w59 u59 => ?_)
  have F60 := F57.then rfl u59
  refine wr_iincL (i := 1) (n := 1) (v := 19) (20) ([(1, vi 20), (0, .ref 239)]) (nx := 16) (r1 := 0) (r2 := 0) (r3 := 0) rfl rfl (by decide) rfl ?_
  refine wi_goto (nx := 19) (r1 := 2) (r2 := 0) (r3 := 0) rfl ?_
  refine wi_iload_n (i := 1) (e := 20) (nx := 3) (r1 := 0) (r2 := 0) (r3 := 0) rfl rfl ?_
  refine wi_sipush (n := 200) (nx := 6) (r1 := 0) (r2 := 0) (r3 := 0) rfl (by decide) ?_
  refine wi_icmp (cd := .ge) (nx := 9) (r1 := 19) (r2 := 0) (r3 := 0) rfl (by omega) (by omega) (fun (q61 : 200 ≤ 20) => by exfalso; omega) (fun (q61 : ¬ (200 ≤ 20)) => ?_)
  refine wi_aload_n (i := 0) (x := 239) (nx := 10) (r1 := 0) (r2 := 0) (r3 := 0) rfl rfl ?_
  refine wi_iload_n (i := 1) (e := 20) (nx := 11) (r1 := 0) (r2 := 0) (r3 := 0) rfl rfl ?_
  refine wi_iconst (n := 0) (nx := 12) (r1 := 0) (r2 := 0) (r3 := 0) rfl ?_
  refine wr_is (k0 := 239) (a := 20) (f := 20) (x := 0) (bl := 0) (bh := 999) (nx := 13) (r1 := 0) (r2 := 0) (r3 := 0) rfl (by decide) rfl (by omega) (by omega) (by decide) g59 rfl (by omega) (fun h62 g62 w62 u62 => ?_)
  have F63 := F60.then rfl u62
  refine wr_iincL (i := 1) (n := 1) (v := 20) (21) ([(1, vi 21), (0, .ref 239)]) (nx := 16) (r1 := 0) (r2 := 0) (r3 := 0) rfl rfl (by decide) rfl ?_
  refine wi_goto (nx := 19) (r1 := 2) (r2 := 0) (r3 := 0) rfl ?_
  refine wi_iload_n (i := 1) (e := 21) (nx := 3) (r1 := 0) (r2 := 0) (r3 := 0) rfl rfl ?_
  refine wi_sipush (n := 200) (nx := 6) (r1 := 0) (r2 := 0) (r3 := 0) rfl (by decide) ?_
  refine wi_icmp (cd := .ge) (nx := 9) (r1 := 19) (r2 := 0) (r3 := 0) rfl (by omega) (by omega) (fun (q64 : 200 ≤ 21) => by exfalso; omega) (fun (q64 : ¬ (200 ≤ 21)) => ?_)
  refine wi_aload_n (i := 0) (x := 239) (nx := 10) (r1 := 0) (r2 := 0) (r3 := 0) rfl rfl ?_
  refine wi_iload_n (i := 1) (e := 21) (nx := 11) (r1 := 0) (r2 := 0) (r3 := 0) rfl rfl ?_
  refine wi_iconst (n := 0) (nx := 12) (r1 := 0) (r2 := 0) (r3 := 0) rfl ?_
  refine wr_is (k0 := 239) (a := 21) (f := 21) (x := 0) (bl := 0) (bh := 999) (nx := 13) (r1 := 0) (r2 := 0) (r3 := 0) rfl (by decide) rfl (by omega) (by omega) (by decide) g62 rfl (by omega) (fun h65 g65 w65 u65 => ?_)
  have F66 := F63.then rfl u65
  refine wr_iincL (i := 1) (n := 1) (v := 21) (22) ([(1, vi 22), (0, .ref 239)]) (nx := 16) (r1 := 0) (r2 := 0) (r3 := 0) rfl rfl (by decide) rfl ?_
  refine wi_goto (nx := 19) (r1 := 2) (r2 := 0) (r3 := 0) rfl ?_
  refine wi_iload_n (i := 1) (e := 22) (nx := 3) (r1 := 0) (r2 := 0) (r3 := 0) rfl rfl ?_
  refine wi_sipush (n := 200) (nx := 6) (r1 := 0) (r2 := 0) (r3 := 0) rfl (by decide) ?_
  refine wi_icmp (cd := .ge) (nx := 9) (r1 := 19) (r2 := 0) (r3 := 0) rfl (by omega) (by omega) (fun (q67 : 200 ≤ 22) => by exfalso; omega) (fun (q67 : ¬ (200 ≤ 22)) => ?_)
  refine wi_aload_n (i := 0) (x := 239) (nx := 10) (r1 := 0) (r2 := 0) (r3 := 0) rfl rfl ?_
  refine wi_iload_n (i := 1) (e := 22) (nx := 11) (r1 := 0) (r2 := 0) (r3 := 0) rfl rfl ?_
  refine wi_iconst (n := 0) (nx := 12) (r1 := 0) (r2 := 0) (r3 := 0) rfl ?_
  refine wr_is (k0 := 239) (a := 22) (f := 22) (x := 0) (bl := 0) (bh := 999) (nx := 13) (r1 := 0) (r2 := 0) (r3 := 0) rfl (by decide) rfl (by omega) (by omega) (by decide) g65 rfl (by omega) (fun h68 g68 w68 u68 => ?_)
  have F69 := F66.then rfl u68
  refine wr_iincL (i := 1) (n := 1) (v := 22) (23) ([(1, vi 23), (0, .ref 239)]) (nx := 16) (r1 := 0) (r2 := 0) (r3 := 0) rfl rfl (by decide) rfl ?_
  refine wi_goto (nx := 19) (r1 := 2) (r2 := 0) (r3 := 0) rfl ?_
  refine wi_iload_n (i := 1) (e := 23) (nx := 3) (r1 := 0) (r2 := 0) (r3 := 0) rfl rfl ?_
  refine wi_sipush (n := 200) (nx := 6) (r1 := 0) (r2 := 0) (r3 := 0) rfl (by decide) ?_
  refine wi_icmp (cd := .ge) (nx := 9) (r1 := 19) (r2 := 0) (r3 := 0) rfl (by omega) (by omega) (fun (q70 : 200 ≤ 23) => by exfalso; omega) (fun (q70 : ¬ (200 ≤ 23)) => ?_)
  refine wi_aload_n (i := 0) (x := 239) (nx := 10) (r1 := 0) (r2 := 0) (r3 := 0) rfl rfl ?_
  refine wi_iload_n (i := 1) (e := 23) (nx := 11) (r1 := 0) (r2 := 0) (r3 := 0) rfl rfl ?_
  refine wi_iconst (n := 0) (nx := 12) (r1 := 0) (r2 := 0) (r3 := 0) rfl ?_
  refine wr_is (k0 := 239) (a := 23) (f := 23) (x := 0) (bl := 0) (bh := 999) (nx := 13) (r1 := 0) (r2 := 0) (r3 := 0) rfl (by decide) rfl (by omega) (by omega) (by decide) g68 rfl (by omega) (fun h71 g71 w71 u71 => ?_)
  have F72 := F69.then rfl u71
  refine wr_iincL (i := 1) (n := 1) (v := 23) (24) ([(1, vi 24), (0, .ref 239)]) (nx := 16) (r1 := 0) (r2 := 0) (r3 := 0) rfl rfl (by decide) rfl ?_
  refine wi_goto (nx := 19) (r1 := 2) (r2 := 0) (r3 := 0) rfl ?_
  refine wi_iload_n (i := 1) (e := 24) (nx := 3) (r1 := 0) (r2 := 0) (r3 := 0) rfl rfl ?_
  refine wi_sipush (n := 200) (nx := 6) (r1 := 0) (r2 := 0) (r3 := 0) rfl (by decide) ?_
  refine wi_icmp (cd := .ge) (nx := 9) (r1 := 19) (r2 := 0) (r3 := 0) rfl (by omega) (by omega) (fun (q73 : 200 ≤ 24) => by exfalso; omega) (fun (q73 : ¬ (200 ≤ 24)) => ?_)
  refine wi_aload_n (i := 0) (x := 239) (nx := 10) (r1 := 0) (r2 := 0) (r3 := 0) rfl rfl ?_
  refine wi_iload_n (i := 1) (e := 24) (nx := 11) (r1 := 0) (r2 := 0) (r3 := 0) rfl rfl ?_
  refine wi_iconst (n := 0) (nx := 12) (r1 := 0) (r2 := 0) (r3 := 0) rfl ?_
  refine wr_is (k0 := 239) (a := 24) (f := 24) (x := 0) (bl := 0) (bh := 999) (nx := 13) (r1 := 0) (r2 := 0) (r3 := 0) rfl (by decide) rfl (by omega) (by omega) (by decide) g71 rfl (by omega) (fun h74 g74 w74 u74 => ?_)
  have F75 := F72.then rfl u74
  refine wr_iincL (i := 1) (n := 1) (v := 24) (25) ([(1, vi 25), (0, .ref 239)]) (nx := 16) (r1 := 0) (r2 := 0) (r3 := 0) rfl rfl (by decide) rfl ?_
  refine wi_goto (nx := 19) (r1 := 2) (r2 := 0) (r3 := 0) rfl ?_
  refine wi_iload_n (i := 1) (e := 25) (nx := 3) (r1 := 0) (r2 := 0) (r3 := 0) rfl rfl ?_
  refine wi_sipush (n := 200) (nx := 6) (r1 := 0) (r2 := 0) (r3 := 0) rfl (by decide) ?_
  refine wi_icmp (cd := .ge) (nx := 9) (r1 := 19) (r2 := 0) (r3 := 0) rfl (by omega) (by omega) (fun (q76 : 200 ≤ 25) => by exfalso; omega) (fun (q76 : ¬ (200 ≤ 25)) => ?_)
  refine wi_aload_n (i := 0) (x := 239) (nx := 10) (r1 := 0) (r2 := 0) (r3 := 0) rfl rfl ?_
  refine wi_iload_n (i := 1) (e := 25) (nx := 11) (r1 := 0) (r2 := 0) (r3 := 0) rfl rfl ?_
  refine wi_iconst (n := 0) (nx := 12) (r1 := 0) (r2 := 0) (r3 := 0) rfl ?_
  refine wr_is (k0 := 239) (a := 25) (f := 25) (x := 0) (bl := 0) (bh := 999) (nx := 13) (r1 := 0) (r2 := 0) (r3 := 0) rfl (by decide) rfl (by omega) (by omega) (by decide) g74 rfl (by omega) (fun h77 g77 w77 u77 => ?_)
  have F78 := F75.then rfl u77
  refine wr_iincL (i := 1) (n := 1) (v := 25) (26) ([(1, vi 26), (0, .ref 239)]) (nx := 16) (r1 := 0) (r2 := 0) (r3 := 0) rfl rfl (by decide) rfl ?_
  refine wi_goto (nx := 19) (r1 := 2) (r2 := 0) (r3 := 0) rfl ?_
  refine wi_iload_n (i := 1) (e := 26) (nx := 3) (r1 := 0) (r2 := 0) (r3 := 0) rfl rfl ?_
  refine wi_sipush (n := 200) (nx := 6) (r1 := 0) (r2 := 0) (r3 := 0) rfl (by decide) ?_
  refine wi_icmp (cd := .ge) (nx := 9) (r1 := 19) (r2 := 0) (r3 := 0) rfl (by omega) (by omega) (fun (q79 : 200 ≤ 26) => by exfalso; omega) (fun (q79 : ¬ (200 ≤ 26)) => ?_)
  refine wi_aload_n (i := 0) (x := 239) (nx := 10) (r1 := 0) (r2 := 0) (r3 := 0) rfl rfl ?_
  refine wi_iload_n (i := 1) (e := 26) (nx := 11) (r1 := 0) (r2 := 0) (r3 := 0) rfl rfl ?_
  refine wi_iconst (n := 0) (nx := 12) (r1 := 0) (r2 := 0) (r3 := 0) rfl ?_
  refine wr_is (k0 := 239) (a := 26) (f := 26) (x := 0) (bl := 0) (bh := 999) (nx := 13) (r1 := 0) (r2 := 0) (r3 := 0) rfl (by decide) rfl (by omega) (by omega) (by decide) g77 rfl (by omega) (fun h80 g80 w80 u80 => ?_)
  have F81 := F78.then rfl u80
  refine wr_iincL (i := 1) (n := 1) (v := 26) (27) ([(1, vi 27), (0, .ref 239)]) (nx := 16) (r1 := 0) (r2 := 0) (r3 := 0) rfl rfl (by decide) rfl ?_
  refine wi_goto (nx := 19) (r1 := 2) (r2 := 0) (r3 := 0) rfl ?_
  refine wi_iload_n (i := 1) (e := 27) (nx := 3) (r1 := 0) (r2 := 0) (r3 := 0) rfl rfl ?_
  refine wi_sipush (n := 200) (nx := 6) (r1 := 0) (r2 := 0) (r3 := 0) rfl (by decide) ?_
  refine wi_icmp (cd := .ge) (nx := 9) (r1 := 19) (r2 := 0) (r3 := 0) rfl (by omega) (by omega) (fun (q82 : 200 ≤ 27) => by exfalso; omega) (fun (q82 : ¬ (200 ≤ 27)) => ?_)
  refine wi_aload_n (i := 0) (x := 239) (nx := 10) (r1 := 0) (r2 := 0) (r3 := 0) rfl rfl ?_
  refine wi_iload_n (i := 1) (e := 27) (nx := 11) (r1 := 0) (r2 := 0) (r3 := 0) rfl rfl ?_
  refine wi_iconst (n := 0) (nx := 12) (r1 := 0) (r2 := 0) (r3 := 0) rfl ?_
  refine wr_is (k0 := 239) (a := 27) (f := 27) (x := 0) (bl := 0) (bh := 999) (nx := 13) (r1 := 0) (r2 := 0) (r3 := 0) rfl (by decide) rfl (by omega) (by omega) (by decide) g80 rfl (by omega) (fun h83 g83 w83 u83 => ?_)
  have F84 := F81.then rfl u83
  refine wr_iincL (i := 1) (n := 1) (v := 27) (28) ([(1, vi 28), (0, .ref 239)]) (nx := 16) (r1 := 0) (r2 := 0) (r3 := 0) rfl rfl (by decide) rfl ?_
  refine wi_goto (nx := 19) (r1 := 2) (r2 := 0) (r3 := 0) rfl ?_
  refine wi_iload_n (i := 1) (e := 28) (nx := 3) (r1 := 0) (r2 := 0) (r3 := 0) rfl rfl ?_
  refine wi_sipush (n := 200) (nx := 6) (r1 := 0) (r2 := 0) (r3 := 0) rfl (by decide) ?_
  refine wi_icmp (cd := .ge) (nx := 9) (r1 := 19) (r2 := 0) (r3 := 0) rfl (by omega) (by omega) (fun (q85 : 200 ≤ 28) => by exfalso; omega) (fun (q85 : ¬ (200 ≤ 28)) => ?_)
  refine wi_aload_n (i := 0) (x := 239) (nx := 10) (r1 := 0) (r2 := 0) (r3 := 0) rfl rfl ?_
  refine wi_iload_n (i := 1) (e := 28) (nx := 11) (r1 := 0) (r2 := 0) (r3 := 0) rfl rfl ?_
  refine wi_iconst (n := 0) (nx := 12) (r1 := 0) (r2 := 0) (r3 := 0) rfl ?_
  refine wr_is (k0 := 239) (a := 28) (f := 28) (x := 0) (bl := 0) (bh := 999) (nx := 13) (r1 := 0) (r2 := 0) (r3 := 0) rfl (by decide) rfl (by omega) (by omega) (by decide) g83 rfl (by omega) (fun h86 g86 w86 u86 => ?_)
  have F87 := F84.then rfl u86
  refine wr_iincL (i := 1) (n := 1) (v := 28) (29) ([(1, vi 29), (0, .ref 239)]) (nx := 16) (r1 := 0) (r2 := 0) (r3 := 0) rfl rfl (by decide) rfl ?_
  refine wi_goto (nx := 19) (r1 := 2) (r2 := 0) (r3 := 0) rfl ?_
  refine wi_iload_n (i := 1) (e := 29) (nx := 3) (r1 := 0) (r2 := 0) (r3 := 0) rfl rfl ?_
  refine wi_sipush (n := 200) (nx := 6) (r1 := 0) (r2 := 0) (r3 := 0) rfl (by decide) ?_
  refine wi_icmp (cd := .ge) (nx := 9) (r1 := 19) (r2 := 0) (r3 := 0) rfl (by omega) (by omega) (fun (q88 : 200 ≤ 29) => by exfalso; omega) (fun (q88 : ¬ (200 ≤ 29)) => ?_)
  refine wi_aload_n (i := 0) (x := 239) (nx := 10) (r1 := 0) (r2 := 0) (r3 := 0) rfl rfl ?_
  refine wi_iload_n (i := 1) (e := 29) (nx := 11) (r1 := 0) (r2 := 0) (r3 := 0) rfl rfl ?_
  refine wi_iconst (n := 0) (nx := 12) (r1 := 0) (r2 := 0) (r3 := 0) rfl ?_
  refine wr_is (k0 := 239) (a := 29) (f := 29) (x := 0) (bl := 0) (bh := 999) (nx := 13) (r1 := 0) (r2 := 0) (r3 := 0) rfl (by decide) rfl (by omega) (by omega) (by decide) g86 rfl (by omega) (fun h89 g89 w89 u89 => ?_)
  have F90 := F87.then rfl u89
  refine wr_iincL (i := 1) (n := 1) (v := 29) (30) ([(1, vi 30), (0, .ref 239)]) (nx := 16) (r1 := 0) (r2 := 0) (r3 := 0) rfl rfl (by decide) rfl ?_
  refine wi_goto (nx := 19) (r1 := 2) (r2 := 0) (r3 := 0) rfl ?_
  refine wi_iload_n (i := 1) (e := 30) (nx := 3) (r1 := 0) (r2 := 0) (r3 := 0) rfl rfl ?_
  refine wi_sipush (n := 200) (nx := 6) (r1 := 0) (r2 := 0) (r3 := 0) rfl (by decide) ?_
  refine wi_icmp (cd := .ge) (nx := 9) (r1 := 19) (r2 := 0) (r3 := 0) rfl (by omega) (by omega) (fun (q91 : 200 ≤ 30) => by exfalso; omega) (fun (q91 : ¬ (200 ≤ 30)) => ?_)
  refine wi_aload_n (i := 0) (x := 239) (nx := 10) (r1 := 0) (r2 := 0) (r3 := 0) rfl rfl ?_
  refine wi_iload_n (i := 1) (e := 30) (nx := 11) (r1 := 0) (r2 := 0) (r3 := 0) rfl rfl ?_
  refine wi_iconst (n := 0) (nx := 12) (r1 := 0) (r2 := 0) (r3 := 0) rfl ?_
  refine wr_is (k0 := 239) (a := 30) (f := 30) (x := 0) (bl := 0) (bh := 999) (nx := 13) (r1 := 0) (r2 := 0) (r3 := 0) rfl (by decide) rfl (by omega) (by omega) (by decide) g89 rfl (by omega) (fun h92 g92 w92 u92 => ?_)
  have F93 := F90.then rfl u92
  refine wr_iincL (i := 1) (n := 1) (v := 30) (31) ([(1, vi 31), (0, .ref 239)]) (nx := 16) (r1 := 0) (r2 := 0) (r3 := 0) rfl rfl (by decide) rfl ?_
  refine wi_goto (nx := 19) (r1 := 2) (r2 := 0) (r3 := 0) rfl ?_
  refine wi_iload_n (i := 1) (e := 31) (nx := 3) (r1 := 0) (r2 := 0) (r3 := 0) rfl rfl ?_
  refine wi_sipush (n := 200) (nx := 6) (r1 := 0) (r2 := 0) (r3 := 0) rfl (by decide) ?_
  refine wi_icmp (cd := .ge) (nx := 9) (r1 := 19) (r2 := 0) (r3 := 0) rfl (by omega) (by omega) (fun (q94 : 200 ≤ 31) => by exfalso; omega) (fun (q94 : ¬ (200 ≤ 31)) => ?_)
  refine wi_aload_n (i := 0) (x := 239) (nx := 10) (r1 := 0) (r2 := 0) (r3 := 0) rfl rfl ?_
  refine wi_iload_n (i := 1) (e := 31) (nx := 11) (r1 := 0) (r2 := 0) (r3 := 0) rfl rfl ?_
  refine wi_iconst (n := 0) (nx := 12) (r1 := 0) (r2 := 0) (r3 := 0) rfl ?_
  refine wr_is (k0 := 239) (a := 31) (f := 31) (x := 0) (bl := 0) (bh := 4) (nx := 13) (r1 := 0) (r2 := 0) (r3 := 0) rfl (by decide) rfl (by omega) (by omega) (by decide) g92 rfl (by omega) (fun h95 g95 w95 u95 => ?_)
  have F96 := F93.then rfl u95
  refine wr_iincL (i := 1) (n := 1) (v := 31) (32) ([(1, vi 32), (0, .ref 239)]) (nx := 16) (r1 := 0) (r2 := 0) (r3 := 0) rfl rfl (by decide) rfl ?_
  refine wi_goto (nx := 19) (r1 := 2) (r2 := 0) (r3 := 0) rfl ?_
  refine wi_iload_n (i := 1) (e := 32) (nx := 3) (r1 := 0) (r2 := 0) (r3 := 0) rfl rfl ?_
  refine wi_sipush (n := 200) (nx := 6) (r1 := 0) (r2 := 0) (r3 := 0) rfl (by decide) ?_
  refine wi_icmp (cd := .ge) (nx := 9) (r1 := 19) (r2 := 0) (r3 := 0) rfl (by omega) (by omega) (fun (q97 : 200 ≤ 32) => by exfalso; omega) (fun (q97 : ¬ (200 ≤ 32)) => ?_)
  refine wi_aload_n (i := 0) (x := 239) (nx := 10) (r1 := 0) (r2 := 0) (r3 := 0) rfl rfl ?_
  refine wi_iload_n (i := 1) (e := 32) (nx := 11) (r1 := 0) (r2 := 0) (r3 := 0) rfl rfl ?_
  refine wi_iconst (n := 0) (nx := 12) (r1 := 0) (r2 := 0) (r3 := 0) rfl ?_
  refine wr_is (k0 := 239) (a := 32) (f := 32) (x := 0) (bl := 0) (bh := 4) (nx := 13) (r1 := 0) (r2 := 0) (r3 := 0) rfl (by decide) rfl (by omega) (by omega) (by decide) g95 rfl (by omega) (fun h98 g98 w98 u98 => ?_)
  have F99 := F96.then rfl u98
  refine wr_iincL (i := 1) (n := 1) (v := 32) (33) ([(1, vi 33), (0, .ref 239)]) (nx := 16) (r1 := 0) (r2 := 0) (r3 := 0) rfl rfl (by decide) rfl ?_
  refine wi_goto (nx := 19) (r1 := 2) (r2 := 0) (r3 := 0) rfl ?_
  refine wi_iload_n (i := 1) (e := 33) (nx := 3) (r1 := 0) (r2 := 0) (r3 := 0) rfl rfl ?_
  refine wi_sipush (n := 200) (nx := 6) (r1 := 0) (r2 := 0) (r3 := 0) rfl (by decide) ?_
  refine wi_icmp (cd := .ge) (nx := 9) (r1 := 19) (r2 := 0) (r3 := 0) rfl (by omega) (by omega) (fun (q100 : 200 ≤ 33) => by exfalso; omega) (fun (q100 : ¬ (200 ≤ 33)) => ?_)
  refine wi_aload_n (i := 0) (x := 239) (nx := 10) (r1 := 0) (r2 := 0) (r3 := 0) rfl rfl ?_
  refine wi_iload_n (i := 1) (e := 33) (nx := 11) (r1 := 0) (r2 := 0) (r3 := 0) rfl rfl ?_
  refine wi_iconst (n := 0) (nx := 12) (r1 := 0) (r2 := 0) (r3 := 0) rfl ?_
  refine wr_is (k0 := 239) (a := 33) (f := 33) (x := 0) (bl := 0) (bh := 4) (nx := 13) (r1 := 0) (r2 := 0) (r3 := 0) rfl (by decide) rfl (by omega) (by omega) (by decide) g98 rfl (by omega) (fun h101 g101 w101 u101 => ?_)
  have F102 := F99.then rfl u101
  refine wr_iincL (i := 1) (n := 1) (v := 33) (34) ([(1, vi 34), (0, .ref 239)]) (nx := 16) (r1 := 0) (r2 := 0) (r3 := 0) rfl rfl (by decide) rfl ?_
  refine wi_goto (nx := 19) (r1 := 2) (r2 := 0) (r3 := 0) rfl ?_
  refine wi_iload_n (i := 1) (e := 34) (nx := 3) (r1 := 0) (r2 := 0) (r3 := 0) rfl rfl ?_
  refine wi_sipush (n := 200) (nx := 6) (r1 := 0) (r2 := 0) (r3 := 0) rfl (by decide) ?_
  refine wi_icmp (cd := .ge) (nx := 9) (r1 := 19) (r2 := 0) (r3 := 0) rfl (by omega) (by omega) (fun (q103 : 200 ≤ 34) => by exfalso; omega) (fun (q103 : ¬ (200 ≤ 34)) => ?_)
  refine wi_aload_n (i := 0) (x := 239) (nx := 10) (r1 := 0) (r2 := 0) (r3 := 0) rfl rfl ?_
  refine wi_iload_n (i := 1) (e := 34) (nx := 11) (r1 := 0) (r2 := 0) (r3 := 0) rfl rfl ?_
  refine wi_iconst (n := 0) (nx := 12) (r1 := 0) (r2 := 0) (r3 := 0) rfl ?_
  refine wr_is (k0 := 239) (a := 34) (f := 34) (x := 0) (bl := 0) (bh := 4) (nx := 13) (r1 := 0) (r2 := 0) (r3 := 0) rfl (by decide) rfl (by omega) (by omega) (by decide) g101 rfl (by omega) (fun h104 g104 w104 u104 => ?_)
  have F105 := F102.then rfl u104
  refine wr_iincL (i := 1) (n := 1) (v := 34) (35) ([(1, vi 35), (0, .ref 239)]) (nx := 16) (r1 := 0) (r2 := 0) (r3 := 0) rfl rfl (by decide) rfl ?_
  refine wi_goto (nx := 19) (r1 := 2) (r2 := 0) (r3 := 0) rfl ?_
  refine wi_iload_n (i := 1) (e := 35) (nx := 3) (r1 := 0) (r2 := 0) (r3 := 0) rfl rfl ?_
  refine wi_sipush (n := 200) (nx := 6) (r1 := 0) (r2 := 0) (r3 := 0) rfl (by decide) ?_
  refine wi_icmp (cd := .ge) (nx := 9) (r1 := 19) (r2 := 0) (r3 := 0) rfl (by omega) (by omega) (fun (q106 : 200 ≤ 35) => by exfalso; omega) (fun (q106 : ¬ (200 ≤ 35)) => ?_)
  refine wi_aload_n (i := 0) (x := 239) (nx := 10) (r1 := 0) (r2 := 0) (r3 := 0) rfl rfl ?_
  refine wi_iload_n (i := 1) (e := 35) (nx := 11) (r1 := 0) (r2 := 0) (r3 := 0) rfl rfl ?_
  refine wi_iconst (n := 0) (nx := 12) (r1 := 0) (r2 := 0) (r3 := 0) rfl ?_
  refine wr_is (k0 := 239) (a := 35) (f := 35) (x := 0) (bl := 0) (bh := 4) (nx := 13) (r1 := 0) (r2 := 0) (r3 := 0) rfl (by decide) rfl (by omega) (by omega) (by decide) g104 rfl (by omega) (fun h107 g107 w107 u107 => ?_)
  have F108 := F105.then rfl u107
  refine wr_iincL (i := 1) (n := 1) (v := 35) (36) ([(1, vi 36), (0, .ref 239)]) (nx := 16) (r1 := 0) (r2 := 0) (r3 := 0) rfl rfl (by decide) rfl ?_
  refine wi_goto (nx := 19) (r1 := 2) (r2 := 0) (r3 := 0) rfl ?_
  refine wi_iload_n (i := 1) (e := 36) (nx := 3) (r1 := 0) (r2 := 0) (r3 := 0) rfl rfl ?_
  refine wi_sipush (n := 200) (nx := 6) (r1 := 0) (r2 := 0) (r3 := 0) rfl (by decide) ?_
  refine wi_icmp (cd := .ge) (nx := 9) (r1 := 19) (r2 := 0) (r3 := 0) rfl (by omega) (by omega) (fun (q109 : 200 ≤ 36) => by exfalso; omega) (fun (q109 : ¬ (200 ≤ 36)) => ?_)
  refine wi_aload_n (i := 0) (x := 239) (nx := 10) (r1 := 0) (r2 := 0) (r3 := 0) rfl rfl ?_
  refine wi_iload_n (i := 1) (e := 36) (nx := 11) (r1 := 0) (r2 := 0) (r3 := 0) rfl rfl ?_
  refine wi_iconst (n := 0) (nx := 12) (r1 := 0) (r2 := 0) (r3 := 0) rfl ?_
  refine wr_is (k0 := 239) (a := 36) (f := 36) (x := 0) (bl := 0) (bh := 4) (nx := 13) (r1 := 0) (r2 := 0) (r3 := 0) rfl (by decide) rfl (by omega) (by omega) (by decide) g107 rfl (by omega) (fun h110 g110 w110 u110 => ?_)
  have F111 := F108.then rfl u110
  refine wr_iincL (i := 1) (n := 1) (v := 36) (37) ([(1, vi 37), (0, .ref 239)]) (nx := 16) (r1 := 0) (r2 := 0) (r3 := 0) rfl rfl (by decide) rfl ?_
  refine wi_goto (nx := 19) (r1 := 2) (r2 := 0) (r3 := 0) rfl ?_
  refine wi_iload_n (i := 1) (e := 37) (nx := 3) (r1 := 0) (r2 := 0) (r3 := 0) rfl rfl ?_
  refine wi_sipush (n := 200) (nx := 6) (r1 := 0) (r2 := 0) (r3 := 0) rfl (by decide) ?_
  refine wi_icmp (cd := .ge) (nx := 9) (r1 := 19) (r2 := 0) (r3 := 0) rfl (by omega) (by omega) (fun (q112 : 200 ≤ 37) => by exfalso; omega) (fun (q112 : ¬ (200 ≤ 37)) => ?_)
  refine wi_aload_n (i := 0) (x := 239) (nx := 10) (r1 := 0) (r2 := 0) (r3 := 0) rfl rfl ?_
  refine wi_iload_n (i := 1) (e := 37) (nx := 11) (r1 := 0) (r2 := 0) (r3 := 0) rfl rfl ?_
  refine wi_iconst (n := 0) (nx := 12) (r1 := 0) (r2 := 0) (r3 := 0) rfl ?_
  refine wr_is (k0 := 239) (a := 37) (f := 37) (x := 0) (bl := 0) (bh := 4) (nx := 13) (r1 := 0) (r2 := 0) (r3 := 0) rfl (by decide) rfl (by omega) (by omega) (by decide) g110 rfl (by omega) (fun h113 g113 w113 u113 => ?_)
  have F114 := F111.then rfl u113
  refine wr_iincL (i := 1) (n := 1) (v := 37) (38) ([(1, vi 38), (0, .ref 239)]) (nx := 16) (r1 := 0) (r2 := 0) (r3 := 0) rfl rfl (by decide) rfl ?_
  refine wi_goto (nx := 19) (r1 := 2) (r2 := 0) (r3 := 0) rfl ?_
  refine wi_iload_n (i := 1) (e := 38) (nx := 3) (r1 := 0) (r2 := 0) (r3 := 0) rfl rfl ?_
  refine wi_sipush (n := 200) (nx := 6) (r1 := 0) (r2 := 0) (r3 := 0) rfl (by decide) ?_
  refine wi_icmp (cd := .ge) (nx := 9) (r1 := 19) (r2 := 0) (r3 := 0) rfl (by omega) (by omega) (fun (q115 : 200 ≤ 38) => by exfalso; omega) (fun (q115 : ¬ (200 ≤ 38)) => ?_)
  refine wi_aload_n (i := 0) (x := 239) (nx := 10) (r1 := 0) (r2 := 0) (r3 := 0) rfl rfl ?_
  refine wi_iload_n (i := 1) (e := 38) (nx := 11) (r1 := 0) (r2 := 0) (r3 := 0) rfl rfl ?_
  refine wi_iconst (n := 0) (nx := 12) (r1 := 0) (r2 := 0) (r3 := 0) rfl ?_
  refine wr_is (k0 := 239) (a := 38) (f := 38) (x := 0) (bl := 0) (bh := 4) (nx := 13) (r1 := 0) (r2 := 0) (r3 := 0) rfl (by decide) rfl (by omega) (by omega) (by decide) g113 rfl (by omega) (fun h116 g116 w116 u116 => ?_)
  have F117 := F114.then rfl u116
  refine wr_iincL (i := 1) (n := 1) (v := 38) (39) ([(1, vi 39), (0, .ref 239)]) (nx := 16) (r1 := 0) (r2 := 0) (r3 := 0) rfl rfl (by decide) rfl ?_
  refine wi_goto (nx := 19) (r1 := 2) (r2 := 0) (r3 := 0) rfl ?_
  refine wi_iload_n (i := 1) (e := 39) (nx := 3) (r1 := 0) (r2 := 0) (r3 := 0) rfl rfl ?_
  refine wi_sipush (n := 200) (nx := 6) (r1 := 0) (r2 := 0) (r3 := 0) rfl (by decide) ?_
  refine wi_icmp (cd := .ge) (nx := 9) (r1 := 19) (r2 := 0) (r3 := 0) rfl (by omega) (by omega) (fun (q118 : 200 ≤ 39) => by exfalso; omega) (fun (q118 : ¬ (200 ≤ 39)) => ?_)
  refine wi_aload_n (i := 0) (x := 239) (nx := 10) (r1 := 0) (r2 := 0) (r3 := 0) rfl rfl ?_
  refine wi_iload_n (i := 1) (e := 39) (nx := 11) (r1 := 0) (r2 := 0) (r3 := 0) rfl rfl ?_
  refine wi_iconst (n := 0) (nx := 12) (r1 := 0) (r2 := 0) (r3 := 0) rfl ?_
  refine wr_is (k0 := 239) (a := 39) (f := 39) (x := 0) (bl := 0) (bh := 4) (nx := 13) (r1 := 0) (r2 := 0) (r3 := 0) rfl (by decide) rfl (by omega) (by omega) (by decide) g116 rfl (by omega) (fun h119 g119 w119 u119 => ?_)
  have F120 := F117.then rfl u119
  refine wr_iincL (i := 1) (n := 1) (v := 39) (40) ([(1, vi 40), (0, .ref 239)]) (nx := 16) (r1 := 0) (r2 := 0) (r3 := 0) rfl rfl (by decide) rfl ?_
  refine wi_goto (nx := 19) (r1 := 2) (r2 := 0) (r3 := 0) rfl ?_
  refine wi_iload_n (i := 1) (e := 40) (nx := 3) (r1 := 0) (r2 := 0) (r3 := 0) rfl rfl ?_
  refine wi_sipush (n := 200) (nx := 6) (r1 := 0) (r2 := 0) (r3 := 0) rfl (by decide) ?_
  refine wi_icmp (cd := .ge) (nx := 9) (r1 := 19) (r2 := 0) (r3 := 0) rfl (by omega) (by omega) (fun (q121 : 200 ≤ 40) => by exfalso; omega) (fun (q121 : ¬ (200 ≤ 40)) => ?_)
  refine wi_aload_n (i := 0) (x := 239) (nx := 10) (r1 := 0) (r2 := 0) (r3 := 0) rfl rfl ?_
  refine wi_iload_n (i := 1) (e := 40) (nx := 11) (r1 := 0) (r2 := 0) (r3 := 0) rfl rfl ?_
  refine wi_iconst (n := 0) (nx := 12) (r1 := 0) (r2 := 0) (r3 := 0) rfl ?_
  refine wr_is (k0 := 239) (a := 40) (f := 40) (x := 0) (bl := 0) (bh := 4) (nx := 13) (r1 := 0) (r2 := 0) (r3 := 0) rfl (by decide) rfl (by omega) (by omega) (by decide) g119 rfl (by omega) (fun h122 g122 w122 u122 => ?_)
  have F123 := F120.then rfl u122
  refine wr_iincL (i := 1) (n := 1) (v := 40) (41) ([(1, vi 41), (0, .ref 239)]) (nx := 16) (r1 := 0) (r2 := 0) (r3 := 0) rfl rfl (by decide) rfl ?_
  refine wi_goto (nx := 19) (r1 := 2) (r2 := 0) (r3 := 0) rfl ?_
  refine wi_iload_n (i := 1) (e := 41) (nx := 3) (r1 := 0) (r2 := 0) (r3 := 0) rfl rfl ?_
  refine wi_sipush (n := 200) (nx := 6) (r1 := 0) (r2 := 0) (r3 := 0) rfl (by decide) ?_
  refine wi_icmp (cd := .ge) (nx := 9) (r1 := 19) (r2 := 0) (r3 := 0) rfl (by omega) (by omega) (fun (q124 : 200 ≤ 41) => by exfalso; omega) (fun (q124 : ¬ (200 ≤ 41)) => ?_)
  refine wi_aload_n (i := 0) (x := 239) (nx := 10) (r1 := 0) (r2 := 0) (r3 := 0) rfl rfl ?_
  refine wi_iload_n (i := 1) (e := 41) (nx := 11) (r1 := 0) (r2 := 0) (r3 := 0) rfl rfl ?_
  refine wi_iconst (n := 0) (nx := 12) (r1 := 0) (r2 := 0) (r3 := 0) rfl ?_
  refine wr_is (k0 := 239) (a := 41) (f := 41) (x := 0) (bl := 0) (bh := 4) (nx := 13) (r1 := 0) (r2 := 0) (r3 := 0) rfl (by decide) rfl (by omega) (by omega) (by decide) g122 rfl (by omega) (fun h125 g125 w125 u125 => ?_)
  have F126 := F123.then rfl u125
  refine wr_iincL (i := 1) (n := 1) (v := 41) (42) ([(1, vi 42), (0, .ref 239)]) (nx := 16) (r1 := 0) (r2 := 0) (r3 := 0) rfl rfl (by decide) rfl ?_
  refine wi_goto (nx := 19) (r1 := 2) (r2 := 0) (r3 := 0) rfl ?_
  refine wi_iload_n (i := 1) (e := 42) (nx := 3) (r1 := 0) (r2 := 0) (r3 := 0) rfl rfl ?_
  refine wi_sipush (n := 200) (nx := 6) (r1 := 0) (r2 := 0) (r3 := 0) rfl (by decide) ?_
  refine wi_icmp (cd := .ge) (nx := 9) (r1 := 19) (r2 := 0) (r3 := 0) rfl (by omega) (by omega) (fun (q127 : 200 ≤ 42) => by exfalso; omega) (fun (q127 : ¬ (200 ≤ 42)) => ?_)
  refine wi_aload_n (i := 0) (x := 239) (nx := 10) (r1 := 0) (r2 := 0) (r3 := 0) rfl rfl ?_
  refine wi_iload_n (i := 1) (e := 42) (nx := 11) (r1 := 0) (r2 := 0) (r3 := 0) rfl rfl ?_
  refine wi_iconst (n := 0) (nx := 12) (r1 := 0) (r2 := 0) (r3 := 0) rfl ?_
  refine wr_is (k0 := 239) (a := 42) (f := 42) (x := 0) (bl := 0) (bh := 4) (nx := 13) (r1 := 0) (r2 := 0) (r3 := 0) rfl (by decide) rfl (by omega) (by omega) (by decide) g125 rfl (by omega) (fun h128 g128 w128 u128 => ?_)
  have F129 := F126.then rfl u128
  refine wr_iincL (i := 1) (n := 1) (v := 42) (43) ([(1, vi 43), (0, .ref 239)]) (nx := 16) (r1 := 0) (r2 := 0) (r3 := 0) rfl rfl (by decide) rfl ?_
  refine wi_goto (nx := 19) (r1 := 2) (r2 := 0) (r3 := 0) rfl ?_
  refine wi_iload_n (i := 1) (e := 43) (nx := 3) (r1 := 0) (r2 := 0) (r3 := 0) rfl rfl ?_
  refine wi_sipush (n := 200) (nx := 6) (r1 := 0) (r2 := 0) (r3 := 0) rfl (by decide) ?_
  refine wi_icmp (cd := .ge) (nx := 9) (r1 := 19) (r2 := 0) (r3 := 0) rfl (by omega) (by omega) (fun (q130 : 200 ≤ 43) => by exfalso; omega) (fun (q130 : ¬ (200 ≤ 43)) => ?_)
  refine wi_aload_n (i := 0) (x := 239) (nx := 10) (r1 := 0) (r2 := 0) (r3 := 0) rfl rfl ?_
  refine wi_iload_n (i := 1) (e := 43) (nx := 11) (r1 := 0) (r2 := 0) (r3 := 0) rfl rfl ?_
  refine wi_iconst (n := 0) (nx := 12) (r1 := 0) (r2 := 0) (r3 := 0) rfl ?_
  refine wr_is (k0 := 239) (a := 43) (f := 43) (x := 0) (bl := 0) (bh := 999) (nx := 13) (r1 := 0) (r2 := 0) (r3 := 0) rfl (by decide) rfl (by omega) (by omega) (by decide) g128 rfl (by omega) (fun h131 g131 w131 u131 => ?_)
  have F132 := F129.then rfl u131
  refine wr_iincL (i := 1) (n := 1) (v := 43) (44) ([(1, vi 44), (0, .ref 239)]) (nx := 16) (r1 := 0) (r2 := 0) (r3 := 0) rfl rfl (by decide) rfl ?_
  refine wi_goto (nx := 19) (r1 := 2) (r2 := 0) (r3 := 0) rfl ?_
  refine wi_iload_n (i := 1) (e := 44) (nx := 3) (r1 := 0) (r2 := 0) (r3 := 0) rfl rfl ?_
  refine wi_sipush (n := 200) (nx := 6) (r1 := 0) (r2 := 0) (r3 := 0) rfl (by decide) ?_
  refine wi_icmp (cd := .ge) (nx := 9) (r1 := 19) (r2 := 0) (r3 := 0) rfl (by omega) (by omega) (fun (q133 : 200 ≤ 44) => by exfalso; omega) (fun (q133 : ¬ (200 ≤ 44)) => ?_)
  refine wi_aload_n (i := 0) (x := 239) (nx := 10) (r1 := 0) (r2 := 0) (r3 := 0) rfl rfl ?_
  refine wi_iload_n (i := 1) (e := 44) (nx := 11) (r1 := 0) (r2 := 0) (r3 := 0) rfl rfl ?_
  refine wi_iconst (n := 0) (nx := 12) (r1 := 0) (r2 := 0) (r3 := 0) rfl ?_
  refine wr_is (k0 := 239) (a := 44) (f := 44) (x := 0) (bl := 0) (bh := 999) (nx := 13) (r1 := 0) (r2 := 0) (r3 := 0) rfl (by decide) rfl (by omega) (by omega) (by decide) g131 rfl (by omega) (fun h134 g134 w134 u134 => ?_)
  have F135 := F132.then rfl u134
  refine wr_iincL (i := 1) (n := 1) (v := 44) (45) ([(1, vi 45), (0, .ref 239)]) (nx := 16) (r1 := 0) (r2 := 0) (r3 := 0) rfl rfl (by decide) rfl ?_
  refine wi_goto (nx := 19) (r1 := 2) (r2 := 0) (r3 := 0) rfl ?_
  refine wi_iload_n (i := 1) (e := 45) (nx := 3) (r1 := 0) (r2 := 0) (r3 := 0) rfl rfl ?_
  refine wi_sipush (n := 200) (nx := 6) (r1 := 0) (r2 := 0) (r3 := 0) rfl (by decide) ?_
  refine wi_icmp (cd := .ge) (nx := 9) (r1 := 19) (r2 := 0) (r3 := 0) rfl (by omega) (by omega) (fun (q136 : 200 ≤ 45) => by exfalso; omega) (fun (q136 : ¬ (200 ≤ 45)) => ?_)
  refine wi_aload_n (i := 0) (x := 239) (nx := 10) (r1 := 0) (r2 := 0) (r3 := 0) rfl rfl ?_
  refine wi_iload_n (i := 1) (e := 45) (nx := 11) (r1 := 0) (r2 := 0) (r3 := 0) rfl rfl ?_
  refine wi_iconst (n := 0) (nx := 12) (r1 := 0) (r2 := 0) (r3 := 0) rfl ?_
  refine wr_is (k0 := 239) (a := 45) (f := 45) (x := 0) (bl := 0) (bh := 999) (nx := 13) (r1 := 0) (r2 := 0) (r3 := 0) rfl (by decide) rfl (by omega) (by omega) (by decide) g134 rfl (by omega) (fun h137 g137 w137 u137 => ?_)
  have F138 := F135.then rfl u137
  refine wr_iincL (i := 1) (n := 1) (v := 45) (46) ([(1, vi 46), (0, .ref 239)]) (nx := 16) (r1 := 0) (r2 := 0) (r3 := 0) rfl rfl (by decide) rfl ?_
  refine wi_goto (nx := 19) (r1 := 2) (r2 := 0) (r3 := 0) rfl ?_
  refine wi_iload_n (i := 1) (e := 46) (nx := 3) (r1 := 0) (r2 := 0) (r3 := 0) rfl rfl ?_
  refine wi_sipush (n := 200) (nx := 6) (r1 := 0) (r2 := 0) (r3 := 0) rfl (by decide) ?_
  refine wi_icmp (cd := .ge) (nx := 9) (r1 := 19) (r2 := 0) (r3 := 0) rfl (by omega) (by omega) (fun (q139 : 200 ≤ 46) => by exfalso; omega) (fun (q139 : ¬ (200 ≤ 46)) => ?_)
  refine wi_aload_n (i := 0) (x := 239) (nx := 10) (r1 := 0) (r2 := 0) (r3 := 0) rfl rfl ?_
  refine wi_iload_n (i := 1) (e := 46) (nx := 11) (r1 := 0) (r2 := 0) (r3 := 0) rfl rfl ?_
  refine wi_iconst (n := 0) (nx := 12) (r1 := 0) (r2 := 0) (r3 := 0) rfl ?_
  refine wr_is (k0 := 239) (a := 46) (f := 46) (x := 0) (bl := 0) (bh := 999) (nx := 13) (r1 := 0) (r2 := 0) (r3 := 0) rfl (by decide) rfl (by omega) (by omega) (by decide) g137 rfl (by omega) (fun h140 g140 w140 u140 => ?_)
  have F141 := F138.then rfl u140
  refine wr_iincL (i := 1) (n := 1) (v := 46) (47) ([(1, vi 47), (0, .ref 239)]) (nx := 16) (r1 := 0) (r2 := 0) (r3 := 0) rfl rfl (by decide) rfl ?_
  refine wi_goto (nx := 19) (r1 := 2) (r2 := 0) (r3 := 0) rfl ?_
  refine wi_iload_n (i := 1) (e := 47) (nx := 3) (r1 := 0) (r2 := 0) (r3 := 0) rfl rfl ?_
  refine wi_sipush (n := 200) (nx := 6) (r1 := 0) (r2 := 0) (r3 := 0) rfl (by decide) ?_
  refine wi_icmp (cd := .ge) (nx := 9) (r1 := 19) (r2 := 0) (r3 := 0) rfl (by omega) (by omega) (fun (q142 : 200 ≤ 47) => by exfalso; omega) (fun (q142 : ¬ (200 ≤ 47)) => ?_)
  refine wi_aload_n (i := 0) (x := 239) (nx := 10) (r1 := 0) (r2 := 0) (r3 := 0) rfl rfl ?_
  refine wi_iload_n (i := 1) (e := 47) (nx := 11) (r1 := 0) (r2 := 0) (r3 := 0) rfl rfl ?_
  refine wi_iconst (n := 0) (nx := 12) (r1 := 0) (r2 := 0) (r3 := 0) rfl ?_
  refine wr_is (k0 := 239) (a := 47) (f := 47) (x := 0) (bl := 0) (bh := 999) (nx := 13) (r1 := 0) (r2 := 0) (r3 := 0) rfl (by decide) rfl (by omega) (by omega) (by decide) g140 rfl (by omega) (fun h143 g143 w143 u143 => ?_)
  have F144 := F141.then rfl u143
  refine wr_iincL (i := 1) (n := 1) (v := 47) (48) ([(1, vi 48), (0, .ref 239)]) (nx := 16) (r1 := 0) (r2 := 0) (r3 := 0) rfl rfl (by decide) rfl ?_
  refine wi_goto (nx := 19) (r1 := 2) (r2 := 0) (r3 := 0) rfl ?_
  refine wi_iload_n (i := 1) (e := 48) (nx := 3) (r1 := 0) (r2 := 0) (r3 := 0) rfl rfl ?_
  refine wi_sipush (n := 200) (nx := 6) (r1 := 0) (r2 := 0) (r3 := 0) rfl (by decide) ?_
  refine wi_icmp (cd := .ge) (nx := 9) (r1 := 19) (r2 := 0) (r3 := 0) rfl (by omega) (by omega) (fun (q145 : 200 ≤ 48) => by exfalso; omega) (fun (q145 : ¬ (200 ≤ 48)) => ?_)
  refine wi_aload_n (i := 0) (x := 239) (nx := 10) (r1 := 0) (r2 := 0) (r3 := 0) rfl rfl ?_
  refine wi_iload_n (i := 1) (e := 48) (nx := 11) (r1 := 0) (r2 := 0) (r3 := 0) rfl rfl ?_
  refine wi_iconst (n := 0) (nx := 12) (r1 := 0) (r2 := 0) (r3 := 0) rfl ?_
  refine wr_is (k0 := 239) (a := 48) (f := 48) (x := 0) (bl := 0) (bh := 999) (nx := 13) (r1 := 0) (r2 := 0) (r3 := 0) rfl (by decide) rfl (by omega) (by omega) (by decide) g143 rfl (by omega) (fun h146 g146 w146 u146 => ?_)
  have F147 := F144.then rfl u146
  refine wr_iincL (i := 1) (n := 1) (v := 48) (49) ([(1, vi 49), (0, .ref 239)]) (nx := 16) (r1 := 0) (r2 := 0) (r3 := 0) rfl rfl (by decide) rfl ?_
  refine wi_goto (nx := 19) (r1 := 2) (r2 := 0) (r3 := 0) rfl ?_
  refine wi_iload_n (i := 1) (e := 49) (nx := 3) (r1 := 0) (r2 := 0) (r3 := 0) rfl rfl ?_
  refine wi_sipush (n := 200) (nx := 6) (r1 := 0) (r2 := 0) (r3 := 0) rfl (by decide) ?_
  refine wi_icmp (cd := .ge) (nx := 9) (r1 := 19) (r2 := 0) (r3 := 0) rfl (by omega) (by omega) (fun (q148 : 200 ≤ 49) => by exfalso; omega) (fun (q148 : ¬ (200 ≤ 49)) => ?_)
  refine wi_aload_n (i := 0) (x := 239) (nx := 10) (r1 := 0) (r2 := 0) (r3 := 0) rfl rfl ?_
  refine wi_iload_n (i := 1) (e := 49) (nx := 11) (r1 := 0) (r2 := 0) (r3 := 0) rfl rfl ?_
  refine wi_iconst (n := 0) (nx := 12) (r1 := 0) (r2 := 0) (r3 := 0) rfl ?_
  refine wr_is (k0 := 239) (a := 49) (f := 49) (x := 0) (bl := 0) (bh := 999) (nx := 13) (r1 := 0) (r2 := 0) (r3 := 0) rfl (by decide) rfl (by omega) (by omega) (by decide) g146 rfl (by omega) (fun h149 g149 w149 u149 => ?_)
  have F150 := F147.then rfl u149
  refine wr_iincL (i := 1) (n := 1) (v := 49) (50) ([(1, vi 50), (0, .ref 239)]) (nx := 16) (r1 := 0) (r2 := 0) (r3 := 0) rfl rfl (by decide) rfl ?_
  refine wi_goto (nx := 19) (r1 := 2) (r2 := 0) (r3 := 0) rfl ?_
  refine wi_iload_n (i := 1) (e := 50) (nx := 3) (r1 := 0) (r2 := 0) (r3 := 0) rfl rfl ?_
  refine wi_sipush (n := 200) (nx := 6) (r1 := 0) (r2 := 0) (r3 := 0) rfl (by decide) ?_
  refine wi_icmp (cd := .ge) (nx := 9) (r1 := 19) (r2 := 0) (r3 := 0) rfl (by omega) (by omega) (fun (q151 : 200 ≤ 50) => by exfalso; omega) (fun (q151 : ¬ (200 ≤ 50)) => ?_)
  refine wi_aload_n (i := 0) (x := 239) (nx := 10) (r1 := 0) (r2 := 0) (r3 := 0) rfl rfl ?_
  refine wi_iload_n (i := 1) (e := 50) (nx := 11) (r1 := 0) (r2 := 0) (r3 := 0) rfl rfl ?_
  refine wi_iconst (n := 0) (nx := 12) (r1 := 0) (r2 := 0) (r3 := 0) rfl ?_
  refine wr_is (k0 := 239) (a := 50) (f := 50) (x := 0) (bl := 0) (bh := 999) (nx := 13) (r1 := 0) (r2 := 0) (r3 := 0) rfl (by decide) rfl (by omega) (by omega) (by decide) g149 rfl (by omega) (fun h152 g152 w152 u152 => ?_)
  have F153 := F150.then rfl u152
  refine wr_iincL (i := 1) (n := 1) (v := 50) (51) ([(1, vi 51), (0, .ref 239)]) (nx := 16) (r1 := 0) (r2 := 0) (r3 := 0) rfl rfl (by decide) rfl ?_
  refine wi_goto (nx := 19) (r1 := 2) (r2 := 0) (r3 := 0) rfl ?_
  refine wi_iload_n (i := 1) (e := 51) (nx := 3) (r1 := 0) (r2 := 0) (r3 := 0) rfl rfl ?_
  refine wi_sipush (n := 200) (nx := 6) (r1 := 0) (r2 := 0) (r3 := 0) rfl (by decide) ?_
  refine wi_icmp (cd := .ge) (nx := 9) (r1 := 19) (r2 := 0) (r3 := 0) rfl (by omega) (by omega) (fun (q154 : 200 ≤ 51) => by exfalso; omega) (fun (q154 : ¬ (200 ≤ 51)) => ?_)
  refine wi_aload_n (i := 0) (x := 239) (nx := 10) (r1 := 0) (r2 := 0) (r3 := 0) rfl rfl ?_
  refine wi_iload_n (i := 1) (e := 51) (nx := 11) (r1 := 0) (r2 := 0) (r3 := 0) rfl rfl ?_
  refine wi_iconst (n := 0) (nx := 12) (r1 := 0) (r2 := 0) (r3 := 0) rfl ?_
  refine wr_is (k0 := 239) (a := 51) (f := 51) (x := 0) (bl := 0) (bh := 999) (nx := 13) (r1 := 0) (r2 := 0) (r3 := 0) rfl (by decide) rfl (by omega) (by omega) (by decide) g152 rfl (by omega) (fun h155 g155 w155 u155 => ?_)
  have F156 := F153.then rfl u155
  refine wr_iincL (i := 1) (n := 1) (v := 51) (52) ([(1, vi 52), (0, .ref 239)]) (nx := 16) (r1 := 0) (r2 := 0) (r3 := 0) rfl rfl (by decide) rfl ?_
  refine wi_goto (nx := 19) (r1 := 2) (r2 := 0) (r3 := 0) rfl ?_
  refine wi_iload_n (i := 1) (e := 52) (nx := 3) (r1 := 0) (r2 := 0) (r3 := 0) rfl rfl ?_
  refine wi_sipush (n := 200) (nx := 6) (r1 := 0) (r2 := 0) (r3 := 0) rfl (by decide) ?_
  refine wi_icmp (cd := .ge) (nx := 9) (r1 := 19) (r2 := 0) (r3 := 0) rfl (by omega) (by omega) (fun (q157 : 200 ≤ 52) => by exfalso; omega) (fun (q157 : ¬ (200 ≤ 52)) => ?_)
  refine wi_aload_n (i := 0) (x := 239) (nx := 10) (r1 := 0) (r2 := 0) (r3 := 0) rfl rfl ?_
  refine wi_iload_n (i := 1) (e := 52) (nx := 11) (r1 := 0) (r2 := 0) (r3 := 0) rfl rfl ?_
  refine wi_iconst (n := 0) (nx := 12) (r1 := 0) (r2 := 0) (r3 := 0) rfl ?_
  refine wr_is (k0 := 239) (a := 52) (f := 52) (x := 0) (bl := 0) (bh := 999) (nx := 13) (r1 := 0) (r2 := 0) (r3 := 0) rfl (by decide) rfl (by omega) (by omega) (by decide) g155 rfl (by omega) (fun h158 g158 w158 u158 => ?_)
  have F159 := F156.then rfl u158
  refine wr_iincL (i := 1) (n := 1) (v := 52) (53) ([(1, vi 53), (0, .ref 239)]) (nx := 16) (r1 := 0) (r2 := 0) (r3 := 0) rfl rfl (by decide) rfl ?_
  refine wi_goto (nx := 19) (r1 := 2) (r2 := 0) (r3 := 0) rfl ?_
  refine wi_iload_n (i := 1) (e := 53) (nx := 3) (r1 := 0) (r2 := 0) (r3 := 0) rfl rfl ?_
  refine wi_sipush (n := 200) (nx := 6) (r1 := 0) (r2 := 0) (r3 := 0) rfl (by decide) ?_
  refine wi_icmp (cd := .ge) (nx := 9) (r1 := 19) (r2 := 0) (r3 := 0) rfl (by omega) (by omega) (fun (q160 : 200 ≤ 53) => by exfalso; omega) (fun (q160 : ¬ (200 ≤ 53)) => ?_)
  refine wi_aload_n (i := 0) (x := 239) (nx := 10) (r1 := 0) (r2 := 0) (r3 := 0) rfl rfl ?_
  refine wi_iload_n (i := 1) (e := 53) (nx := 11) (r1 := 0) (r2 := 0) (r3 := 0) rfl rfl ?_
  refine wi_iconst (n := 0) (nx := 12) (r1 := 0) (r2 := 0) (r3 := 0) rfl ?_
  refine wr_is (k0 := 239) (a := 53) (f := 53) (x := 0) (bl := 0) (bh := 999) (nx := 13) (r1 := 0) (r2 := 0) (r3 := 0) rfl (by decide) rfl (by omega) (by omega) (by decide) g158 rfl (by omega) (fun h161 g161 w161 u161 => ?_)
  have F162 := F159.then rfl u161
  refine wr_iincL (i := 1) (n := 1) (v := 53) (54) ([(1, vi 54), (0, .ref 239)]) (nx := 16) (r1 := 0) (r2 := 0) (r3 := 0) rfl rfl (by decide) rfl ?_
  refine wi_goto (nx := 19) (r1 := 2) (r2 := 0) (r3 := 0) rfl ?_
  refine wi_iload_n (i := 1) (e := 54) (nx := 3) (r1 := 0) (r2 := 0) (r3 := 0) rfl rfl ?_
  refine wi_sipush (n := 200) (nx := 6) (r1 := 0) (r2 := 0) (r3 := 0) rfl (by decide) ?_
  refine wi_icmp (cd := .ge) (nx := 9) (r1 := 19) (r2 := 0) (r3 := 0) rfl (by omega) (by omega) (fun (q163 : 200 ≤ 54) => by exfalso; omega) (fun (q163 : ¬ (200 ≤ 54)) => ?_)
  refine wi_aload_n (i := 0) (x := 239) (nx := 10) (r1 := 0) (r2 := 0) (r3 := 0) rfl rfl ?_
  refine wi_iload_n (i := 1) (e := 54) (nx := 11) (r1 := 0) (r2 := 0) (r3 := 0) rfl rfl ?_
  refine wi_iconst (n := 0) (nx := 12) (r1 := 0) (r2 := 0) (r3 := 0) rfl ?_
  refine wr_is (k0 := 239) (a := 54) (f := 54) (x := 0) (bl := 0) (bh := 999) (nx := 13) (r1 := 0) (r2 := 0) (r3 := 0) rfl (by decide) rfl (by omega) (by omega) (by decide) g161 rfl (by omega) (fun h164 g164 w164 u164 => ?_)
  have F165 := F162.then rfl u164
  refine wr_iincL (i := 1) (n := 1) (v := 54) (55) ([(1, vi 55), (0, .ref 239)]) (nx := 16) (r1 := 0) (r2 := 0) (r3 := 0) rfl rfl (by decide) rfl ?_
  refine wi_goto (nx := 19) (r1 := 2) (r2 := 0) (r3 := 0) rfl ?_
  refine wi_iload_n (i := 1) (e := 55) (nx := 3) (r1 := 0) (r2 := 0) (r3 := 0) rfl rfl ?_
  refine wi_sipush (n := 200) (nx := 6) (r1 := 0) (r2 := 0) (r3 := 0) rfl (by decide) ?_
  refine wi_icmp (cd := .ge) (nx := 9) (r1 := 19) (r2 := 0) (r3 := 0) rfl (by omega) (by omega) (fun (q166 : 200 ≤ 55) => by exfalso; omega) (fun (q166 : ¬ (200 ≤ 55)) => ?_)
  refine wi_aload_n (i := 0) (x := 239) (nx := 10) (r1 := 0) (r2 := 0) (r3 := 0) rfl rfl ?_
  refine wi_iload_n (i := 1) (e := 55) (nx := 11) (r1 := 0) (r2 := 0) (r3 := 0) rfl rfl ?_
  refine wi_iconst (n := 0) (nx := 12) (r1 := 0) (r2 := 0) (r3 := 0) rfl ?_
  refine wr_is (k0 := 239) (a := 55) (f := 55) (x := 0) (bl := 0) (bh := 20000) (nx := 13) (r1 := 0) (r2 := 0) (r3 := 0) rfl (by decide) rfl (by omega) (by omega) (by decide) g164 rfl (by omega) (fun h167 g167 w167 u167 => ?_)
  have F168 := F165.then rfl u167
  refine wr_iincL (i := 1) (n := 1) (v := 55) (56) ([(1, vi 56), (0, .ref 239)]) (nx := 16) (r1 := 0) (r2 := 0) (r3 := 0) rfl rfl (by decide) rfl ?_
  refine wi_goto (nx := 19) (r1 := 2) (r2 := 0) (r3 := 0) rfl ?_
  refine wi_iload_n (i := 1) (e := 56) (nx := 3) (r1 := 0) (r2 := 0) (r3 := 0) rfl rfl ?_
  refine wi_sipush (n := 200) (nx := 6) (r1 := 0) (r2 := 0) (r3 := 0) rfl (by decide) ?_
  refine wi_icmp (cd := .ge) (nx := 9) (r1 := 19) (r2 := 0) (r3 := 0) rfl (by omega) (by omega) (fun (q169 : 200 ≤ 56) => by exfalso; omega) (fun (q169 : ¬ (200 ≤ 56)) => ?_)
  refine wi_aload_n (i := 0) (x := 239) (nx := 10) (r1 := 0) (r2 := 0) (r3 := 0) rfl rfl ?_
  refine wi_iload_n (i := 1) (e := 56) (nx := 11) (r1 := 0) (r2 := 0) (r3 := 0) rfl rfl ?_
  refine wi_iconst (n := 0) (nx := 12) (r1 := 0) (r2 := 0) (r3 := 0) rfl ?_
  refine wr_is (k0 := 239) (a := 56) (f := 56) (x := 0) (bl := 0) (bh := 20000) (nx := 13) (r1 := 0) (r2 := 0) (r3 := 0) rfl (by decide) rfl (by omega) (by omega) (by decide) g167 rfl (by omega) (fun h170 g170 w170 u170 => ?_)
  have F171 := F168.then rfl u170
  refine wr_iincL (i := 1) (n := 1) (v := 56) (57) ([(1, vi 57), (0, .ref 239)]) (nx := 16) (r1 := 0) (r2 := 0) (r3 := 0) rfl rfl (by decide) rfl ?_
  refine wi_goto (nx := 19) (r1 := 2) (r2 := 0) (r3 := 0) rfl ?_
  refine wi_iload_n (i := 1) (e := 57) (nx := 3) (r1 := 0) (r2 := 0) (r3 := 0) rfl rfl ?_
  refine wi_sipush (n := 200) (nx := 6) (r1 := 0) (r2 := 0) (r3 := 0) rfl (by decide) ?_
  refine wi_icmp (cd := .ge) (nx := 9) (r1 := 19) (r2 := 0) (r3 := 0) rfl (by omega) (by omega) (fun (q172 : 200 ≤ 57) => by exfalso; omega) (fun (q172 : ¬ (200 ≤ 57)) => ?_)
  refine wi_aload_n (i := 0) (x := 239) (nx := 10) (r1 := 0) (r2 := 0) (r3 := 0) rfl rfl ?_
  refine wi_iload_n (i := 1) (e := 57) (nx := 11) (r1 := 0) (r2 := 0) (r3 := 0) rfl rfl ?_
  refine wi_iconst (n := 0) (nx := 12) (r1 := 0) (r2 := 0) (r3 := 0) rfl ?_
  refine wr_is (k0 := 239) (a := 57) (f := 57) (x := 0) (bl := 0) (bh := 20000) (nx := 13) (r1 := 0) (r2 := 0) (r3 := 0) rfl (by decide) rfl (by omega) (by omega) (by decide) g170 rfl (by omega) (fun h173 g173 w173 u173 => ?_)
  have F174 := F171.then rfl u173
  refine wr_iincL (i := 1) (n := 1) (v := 57) (58) ([(1, vi 58), (0, .ref 239)]) (nx := 16) (r1 := 0) (r2 := 0) (r3 := 0) rfl rfl (by decide) rfl ?_
  refine wi_goto (nx := 19) (r1 := 2) (r2 := 0) (r3 := 0) rfl ?_
  refine wi_iload_n (i := 1) (e := 58) (nx := 3) (r1 := 0) (r2 := 0) (r3 := 0) rfl rfl ?_
  refine wi_sipush (n := 200) (nx := 6) (r1 := 0) (r2 := 0) (r3 := 0) rfl (by decide) ?_
  refine wi_icmp (cd := .ge) (nx := 9) (r1 := 19) (r2 := 0) (r3 := 0) rfl (by omega) (by omega) (fun (q175 : 200 ≤ 58) => by exfalso; omega) (fun (q175 : ¬ (200 ≤ 58)) => ?_)
  refine wi_aload_n (i := 0) (x := 239) (nx := 10) (r1 := 0) (r2 := 0) (r3 := 0) rfl rfl ?_
  refine wi_iload_n (i := 1) (e := 58) (nx := 11) (r1 := 0) (r2 := 0) (r3 := 0) rfl rfl ?_
  refine wi_iconst (n := 0) (nx := 12) (r1 := 0) (r2 := 0) (r3 := 0) rfl ?_
  refine wr_is (k0 := 239) (a := 58) (f := 58) (x := 0) (bl := 0) (bh := 20000) (nx := 13) (r1 := 0) (r2 := 0) (r3 := 0) rfl (by decide) rfl (by omega) (by omega) (by decide) g173 rfl (by omega) (fun h176 g176 w176 u176 => ?_)
  have F177 := F174.then rfl u176
  refine wr_iincL (i := 1) (n := 1) (v := 58) (59) ([(1, vi 59), (0, .ref 239)]) (nx := 16) (r1 := 0) (r2 := 0) (r3 := 0) rfl rfl (by decide) rfl ?_
  refine wi_goto (nx := 19) (r1 := 2) (r2 := 0) (r3 := 0) rfl ?_
  refine wi_iload_n (i := 1) (e := 59) (nx := 3) (r1 := 0) (r2 := 0) (r3 := 0) rfl rfl ?_
  refine wi_sipush (n := 200) (nx := 6) (r1 := 0) (r2 := 0) (r3 := 0) rfl (by decide) ?_
  refine wi_icmp (cd := .ge) (nx := 9) (r1 := 19) (r2 := 0) (r3 := 0) rfl (by omega) (by omega) (fun (q178 : 200 ≤ 59) => by exfalso; omega) (fun (q178 : ¬ (200 ≤ 59)) => ?_)
  refine wi_aload_n (i := 0) (x := 239) (nx := 10) (r1 := 0) (r2 := 0) (r3 := 0) rfl rfl ?_
  refine wi_iload_n (i := 1) (e := 59) (nx := 11) (r1 := 0) (r2 := 0) (r3 := 0) rfl rfl ?_
  refine wi_iconst (n := 0) (nx := 12) (r1 := 0) (r2 := 0) (r3 := 0) rfl ?_
  refine wr_is (k0 := 239) (a := 59) (f := 59) (x := 0) (bl := 0) (bh := 20000) (nx := 13) (r1 := 0) (r2 := 0) (r3 := 0) rfl (by decide) rfl (by omega) (by omega) (by decide) g176 rfl (by omega) (fun h179 g179 w179 u179 => ?_)
  have F180 := F177.then rfl u179
  refine wr_iincL (i := 1) (n := 1) (v := 59) (60) ([(1, vi 60), (0, .ref 239)]) (nx := 16) (r1 := 0) (r2 := 0) (r3 := 0) rfl rfl (by decide) rfl ?_
  refine wi_goto (nx := 19) (r1 := 2) (r2 := 0) (r3 := 0) rfl ?_
  refine wi_iload_n (i := 1) (e := 60) (nx := 3) (r1 := 0) (r2 := 0) (r3 := 0) rfl rfl ?_
  refine wi_sipush (n := 200) (nx := 6) (r1 := 0) (r2 := 0) (r3 := 0) rfl (by decide) ?_
  refine wi_icmp (cd := .ge) (nx := 9) (r1 := 19) (r2 := 0) (r3 := 0) rfl (by omega) (by omega) (fun (q181 : 200 ≤ 60) => by exfalso; omega) (fun (q181 : ¬ (200 ≤ 60)) => ?_)
  refine wi_aload_n (i := 0) (x := 239) (nx := 10) (r1 := 0) (r2 := 0) (r3 := 0) rfl rfl ?_
  refine wi_iload_n (i := 1) (e := 60) (nx := 11) (r1 := 0) (r2 := 0) (r3 := 0) rfl rfl ?_
  refine wi_iconst (n := 0) (nx := 12) (r1 := 0) (r2 := 0) (r3 := 0) rfl ?_
  refine wr_is (k0 := 239) (a := 60) (f := 60) (x := 0) (bl := 0) (bh := 20000) (nx := 13) (r1 := 0) (r2 := 0) (r3 := 0) rfl (by decide) rfl (by omega) (by omega) (by decide) g179 rfl (by omega) (fun h182 g182 w182 u182 => ?_)
  have F183 := F180.then rfl u182
  refine wr_iincL (i := 1) (n := 1) (v := 60) (61) ([(1, vi 61), (0, .ref 239)]) (nx := 16) (r1 := 0) (r2 := 0) (r3 := 0) rfl rfl (by decide) rfl ?_
  refine wi_goto (nx := 19) (r1 := 2) (r2 := 0) (r3 := 0) rfl ?_
  refine wi_iload_n (i := 1) (e := 61) (nx := 3) (r1 := 0) (r2 := 0) (r3 := 0) rfl rfl ?_
  refine wi_sipush (n := 200) (nx := 6) (r1 := 0) (r2 := 0) (r3 := 0) rfl (by decide) ?_
  refine wi_icmp (cd := .ge) (nx := 9) (r1 := 19) (r2 := 0) (r3 := 0) rfl (by omega) (by omega) (fun (q184 : 200 ≤ 61) => by exfalso; omega) (fun (q184 : ¬ (200 ≤ 61)) => ?_)
  refine wi_aload_n (i := 0) (x := 239) (nx := 10) (r1 := 0) (r2 := 0) (r3 := 0) rfl rfl ?_
  refine wi_iload_n (i := 1) (e := 61) (nx := 11) (r1 := 0) (r2 := 0) (r3 := 0) rfl rfl ?_
  refine wi_iconst (n := 0) (nx := 12) (r1 := 0) (r2 := 0) (r3 := 0) rfl ?_
  refine wr_is (k0 := 239) (a := 61) (f := 61) (x := 0) (bl := 0) (bh := 20000) (nx := 13) (r1 := 0) (r2 := 0) (r3 := 0) rfl (by decide) rfl (by omega) (by omega) (by decide) g182 rfl (by omega) (fun h185 g185 w185 u185 => ?_)
  have F186 := F183.then rfl u185
  refine wr_iincL (i := 1) (n := 1) (v := 61) (62) ([(1, vi 62), (0, .ref 239)]) (nx := 16) (r1 := 0) (r2 := 0) (r3 := 0) rfl rfl (by decide) rfl ?_
  refine wi_goto (nx := 19) (r1 := 2) (r2 := 0) (r3 := 0) rfl ?_
  refine wi_iload_n (i := 1) (e := 62) (nx := 3) (r1 := 0) (r2 := 0) (r3 := 0) rfl rfl ?_
  refine wi_sipush (n := 200) (nx := 6) (r1 := 0) (r2 := 0) (r3 := 0) rfl (by decide) ?_
  refine wi_icmp (cd := .ge) (nx := 9) (r1 := 19) (r2 := 0) (r3 := 0) rfl (by omega) (by omega) (fun (q187 : 200 ≤ 62) => by exfalso; omega) (fun (q187 : ¬ (200 ≤ 62)) => ?_)
  refine wi_aload_n (i := 0) (x := 239) (nx := 10) (r1 := 0) (r2 := 0) (r3 := 0) rfl rfl ?_
  refine wi_iload_n (i := 1) (e := 62) (nx := 11) (r1 := 0) (r2 := 0) (r3 := 0) rfl rfl ?_
  refine wi_iconst (n := 0) (nx := 12) (r1 := 0) (r2 := 0) (r3 := 0) rfl ?_
  refine wr_is (k0 := 239) (a := 62) (f := 62) (x := 0) (bl := 0) (bh := 20000) (nx := 13) (r1 := 0) (r2 := 0) (r3 := 0) rfl (by decide) rfl (by omega) (by omega) (by decide) g185 rfl (by omega) (fun h188 g188 w188 u188 => ?_)
  have F189 := F186.then rfl u188
  refine wr_iincL (i := 1) (n := 1) (v := 62) (63) ([(1, vi 63), (0, .ref 239)]) (nx := 16) (r1 := 0) (r2 := 0) (r3 := 0) rfl rfl (by decide) rfl ?_
  refine wi_goto (nx := 19) (r1 := 2) (r2 := 0) (r3 := 0) rfl ?_
  refine wi_iload_n (i := 1) (e := 63) (nx := 3) (r1 := 0) (r2 := 0) (r3 := 0) rfl rfl ?_
  refine wi_sipush (n := 200) (nx := 6) (r1 := 0) (r2 := 0) (r3 := 0) rfl (by decide) ?_
  refine wi_icmp (cd := .ge) (nx := 9) (r1 := 19) (r2 := 0) (r3 := 0) rfl (by omega) (by omega) (fun (q190 : 200 ≤ 63) => by exfalso; omega) (fun (q190 : ¬ (200 ≤ 63)) => ?_)
  refine wi_aload_n (i := 0) (x := 239) (nx := 10) (r1 := 0) (r2 := 0) (r3 := 0) rfl rfl ?_
  refine wi_iload_n (i := 1) (e := 63) (nx := 11) (r1 := 0) (r2 := 0) (r3 := 0) rfl rfl ?_
  refine wi_iconst (n := 0) (nx := 12) (r1 := 0) (r2 := 0) (r3 := 0) rfl ?_
  refine wr_is (k0 := 239) (a := 63) (f := 63) (x := 0) (bl := 0) (bh := 20000) (nx := 13) (r1 := 0) (r2 := 0) (r3 := 0) rfl (by decide) rfl (by omega) (by omega) (by decide) g188 rfl (by omega) (fun h191 g191 w191 u191 => ?_)
  have F192 := F189.then rfl u191
  refine wr_iincL (i := 1) (n := 1) (v := 63) (64) ([(1, vi 64), (0, .ref 239)]) (nx := 16) (r1 := 0) (r2 := 0) (r3 := 0) rfl rfl (by decide) rfl ?_
  refine wi_goto (nx := 19) (r1 := 2) (r2 := 0) (r3 := 0) rfl ?_
  refine wi_iload_n (i := 1) (e := 64) (nx := 3) (r1 := 0) (r2 := 0) (r3 := 0) rfl rfl ?_
  refine wi_sipush (n := 200) (nx := 6) (r1 := 0) (r2 := 0) (r3 := 0) rfl (by decide) ?_
  refine wi_icmp (cd := .ge) (nx := 9) (r1 := 19) (r2 := 0) (r3 := 0) rfl (by omega) (by omega) (fun (q193 : 200 ≤ 64) => by exfalso; omega) (fun (q193 : ¬ (200 ≤ 64)) => ?_)
  refine wi_aload_n (i := 0) (x := 239) (nx := 10) (r1 := 0) (r2 := 0) (r3 := 0) rfl rfl ?_
  refine wi_iload_n (i := 1) (e := 64) (nx := 11) (r1 := 0) (r2 := 0) (r3 := 0) rfl rfl ?_
  refine wi_iconst (n := 0) (nx := 12) (r1 := 0) (r2 := 0) (r3 := 0) rfl ?_
  refine wr_is (k0 := 239) (a := 64) (f := 64) (x := 0) (bl := 0) (bh := 20000) (nx := 13) (r1 := 0) (r2 := 0) (r3 := 0) rfl (by decide) rfl (by omega) (by omega) (by decide) g191 rfl (by omega) (fun h194 g194 w194 u194 => ?_)
  have F195 := F192.then rfl u194
  refine wr_iincL (i := 1) (n := 1) (v := 64) (65) ([(1, vi 65), (0, .ref 239)]) (nx := 16) (r1 := 0) (r2 := 0) (r3 := 0) rfl rfl (by decide) rfl ?_
  refine wi_goto (nx := 19) (r1 := 2) (r2 := 0) (r3 := 0) rfl ?_
  refine wi_iload_n (i := 1) (e := 65) (nx := 3) (r1 := 0) (r2 := 0) (r3 := 0) rfl rfl ?_
  refine wi_sipush (n := 200) (nx := 6) (r1 := 0) (r2 := 0) (r3 := 0) rfl (by decide) ?_
  refine wi_icmp (cd := .ge) (nx := 9) (r1 := 19) (r2 := 0) (r3 := 0) rfl (by omega) (by omega) (fun (q196 : 200 ≤ 65) => by exfalso; omega) (fun (q196 : ¬ (200 ≤ 65)) => ?_)
  refine wi_aload_n (i := 0) (x := 239) (nx := 10) (r1 := 0) (r2 := 0) (r3 := 0) rfl rfl ?_
  refine wi_iload_n (i := 1) (e := 65) (nx := 11) (r1 := 0) (r2 := 0) (r3 := 0) rfl rfl ?_
  refine wi_iconst (n := 0) (nx := 12) (r1 := 0) (r2 := 0) (r3 := 0) rfl ?_
  refine wr_is (k0 := 239) (a := 65) (f := 65) (x := 0) (bl := 0) (bh := 20000) (nx := 13) (r1 := 0) (r2 := 0) (r3 := 0) rfl (by decide) rfl (by omega) (by omega) (by decide) g194 rfl (by omega) (fun h197 g197 w197 u197 => ?_)
  have F198 := F195.then rfl u197
  refine wr_iincL (i := 1) (n := 1) (v := 65) (66) ([(1, vi 66), (0, .ref 239)]) (nx := 16) (r1 := 0) (r2 := 0) (r3 := 0) rfl rfl (by decide) rfl ?_
  refine wi_goto (nx := 19) (r1 := 2) (r2 := 0) (r3 := 0) rfl ?_
  refine wi_iload_n (i := 1) (e := 66) (nx := 3) (r1 := 0) (r2 := 0) (r3 := 0) rfl rfl ?_
  refine wi_sipush (n := 200) (nx := 6) (r1 := 0) (r2 := 0) (r3 := 0) rfl (by decide) ?_
  refine wi_icmp (cd := .ge) (nx := 9) (r1 := 19) (r2 := 0) (r3 := 0) rfl (by omega) (by omega) (fun (q199 : 200 ≤ 66) => by exfalso; omega) (fun (q199 : ¬ (200 ≤ 66)) => ?_)
  refine wi_aload_n (i := 0) (x := 239) (nx := 10) (r1 := 0) (r2 := 0) (r3 := 0) rfl rfl ?_
  refine wi_iload_n (i := 1) (e := 66) (nx := 11) (r1 := 0) (r2 := 0) (r3 := 0) rfl rfl ?_
  refine wi_iconst (n := 0) (nx := 12) (r1 := 0) (r2 := 0) (r3 := 0) rfl ?_
  refine wr_is (k0 := 239) (a := 66) (f := 66) (x := 0) (bl := 0) (bh := 20000) (nx := 13) (r1 := 0) (r2 := 0) (r3 := 0) rfl (by decide) rfl (by omega) (by omega) (by decide) g197 rfl (by omega) (fun h200 g200 w200 u200 => ?_)
  have F201 := F198.then rfl u200
  refine wr_iincL (i := 1) (n := 1) (v := 66) (67) ([(1, vi 67), (0, .ref 239)]) (nx := 16) (r1 := 0) (r2 := 0) (r3 := 0) rfl rfl (by decide) rfl ?_
  refine wi_goto (nx := 19) (r1 := 2) (r2 := 0) (r3 := 0) rfl ?_
  refine wi_iload_n (i := 1) (e := 67) (nx := 3) (r1 := 0) (r2 := 0) (r3 := 0) rfl rfl ?_
  refine wi_sipush (n := 200) (nx := 6) (r1 := 0) (r2 := 0) (r3 := 0) rfl (by decide) ?_
  refine wi_icmp (cd := .ge) (nx := 9) (r1 := 19) (r2 := 0) (r3 := 0) rfl (by omega) (by omega) (fun (q202 : 200 ≤ 67) => by exfalso; omega) (fun (q202 : ¬ (200 ≤ 67)) => ?_)
  refine wi_aload_n (i := 0) (x := 239) (nx := 10) (r1 := 0) (r2 := 0) (r3 := 0) rfl rfl ?_
  refine wi_iload_n (i := 1) (e := 67) (nx := 11) (r1 := 0) (r2 := 0) (r3 := 0) rfl rfl ?_
  refine wi_iconst (n := 0) (nx := 12) (r1 := 0) (r2 := 0) (r3 := 0) rfl ?_
  refine wr_is (k0 := 239) (a := 67) (f := 67) (x := 0) (bl := 0) (bh := 0) (nx := 13) (r1 := 0) (r2 := 0) (r3 := 0) rfl (by decide) rfl (by omega) (by omega) (by decide) g200 rfl (by omega) (fun h203 g203 w203 u203 => ?_)
  have F204 := F201.then rfl u203
  refine wr_iincL (i := 1) (n := 1) (v := 67) (68) ([(1, vi 68), (0, .ref 239)]) (nx := 16) (r1 := 0) (r2 := 0) (r3 := 0) rfl rfl (by decide) rfl ?_
  refine wi_goto (nx := 19) (r1 := 2) (r2 := 0) (r3 := 0) rfl ?_
  refine wi_iload_n (i := 1) (e := 68) (nx := 3) (r1 := 0) (r2 := 0) (r3 := 0) rfl rfl ?_
  refine wi_sipush (n := 200) (nx := 6) (r1 := 0) (r2 := 0) (r3 := 0) rfl (by decide) ?_
  refine wi_icmp (cd := .ge) (nx := 9) (r1 := 19) (r2 := 0) (r3 := 0) rfl (by omega) (by omega) (fun (q205 : 200 ≤ 68) => by exfalso; omega) (fun (q205 : ¬ (200 ≤ 68)) => ?_)
  refine wi_aload_n (i := 0) (x := 239) (nx := 10) (r1 := 0) (r2 := 0) (r3 := 0) rfl rfl ?_
  refine wi_iload_n (i := 1) (e := 68) (nx := 11) (r1 := 0) (r2 := 0) (r3 := 0) rfl rfl ?_
  refine wi_iconst (n := 0) (nx := 12) (r1 := 0) (r2 := 0) (r3 := 0) rfl ?_
  refine wr_is (k0 := 239) (a := 68) (f := 68) (x := 0) (bl := -1) (bh := 0) (nx := 13) (r1 := 0) (r2 := 0) (r3 := 0) rfl (by decide) rfl (by omega) (by omega) (by decide) g203 rfl (by omega) (fun h206 g206 w206 u206 => ?_)
  have F207 := F204.then rfl u206
  refine wr_iincL (i := 1) (n := 1) (v := 68) (69) ([(1, vi 69), (0, .ref 239)]) (nx := 16) (r1 := 0) (r2 := 0) (r3 := 0) rfl rfl (by decide) rfl ?_
  refine wi_goto (nx := 19) (r1 := 2) (r2 := 0) (r3 := 0) rfl ?_
  refine wi_iload_n (i := 1) (e := 69) (nx := 3) (r1 := 0) (r2 := 0) (r3 := 0) rfl rfl ?_
  refine wi_sipush (n := 200) (nx := 6) (r1 := 0) (r2 := 0) (r3 := 0) rfl (by decide) ?_
  refine wi_icmp (cd := .ge) (nx := 9) (r1 := 19) (r2 := 0) (r3 := 0) rfl (by omega) (by omega) (fun (q208 : 200 ≤ 69) => by exfalso; omega) (fun (q208 : ¬ (200 ≤ 69)) => ?_)
  refine wi_aload_n (i := 0) (x := 239) (nx := 10) (r1 := 0) (r2 := 0) (r3 := 0) rfl rfl ?_
  refine wi_iload_n (i := 1) (e := 69) (nx := 11) (r1 := 0) (r2 := 0) (r3 := 0) rfl rfl ?_
  refine wi_iconst (n := 0) (nx := 12) (r1 := 0) (r2 := 0) (r3 := 0) rfl ?_
  refine wr_is (k0 := 239) (a := 69) (f := 69) (x := 0) (bl := 0) (bh := 0) (nx := 13) (r1 := 0) (r2 := 0) (r3 := 0) rfl (by decide) rfl (by omega) (by omega) (by decide) g206 rfl (by omega) (fun h209 g209 w209 u209 => ?_)
  have F210 := F207.then rfl u209
  refine wr_iincL (i := 1) (n := 1) (v := 69) (70) ([(1, vi 70), (0, .ref 239)]) (nx := 16) (r1 := 0) (r2 := 0) (r3 := 0) rfl rfl (by decide) rfl ?_
  refine wi_goto (nx := 19) (r1 := 2) (r2 := 0) (r3 := 0) rfl ?_
  refine wi_iload_n (i := 1) (e := 70) (nx := 3) (r1 := 0) (r2 := 0) (r3 := 0) rfl rfl ?_
  refine wi_sipush (n := 200) (nx := 6) (r1 := 0) (r2 := 0) (r3 := 0) rfl (by decide) ?_
  refine wi_icmp (cd := .ge) (nx := 9) (r1 := 19) (r2 := 0) (r3 := 0) rfl (by omega) (by omega) (fun (q211 : 200 ≤ 70) => by exfalso; omega) (fun (q211 : ¬ (200 ≤ 70)) => ?_)
  refine wi_aload_n (i := 0) (x := 239) (nx := 10) (r1 := 0) (r2 := 0) (r3 := 0) rfl rfl ?_
  refine wi_iload_n (i := 1) (e := 70) (nx := 11) (r1 := 0) (r2 := 0) (r3 := 0) rfl rfl ?_
  refine wi_iconst (n := 0) (nx := 12) (r1 := 0) (r2 := 0) (r3 := 0) rfl ?_
  refine wr_is (k0 := 239) (a := 70) (f := 70) (x := 0) (bl := -2147483648) (bh := 2147483647) (nx := 13) (r1 := 0) (r2 := 0) (r3 := 0) rfl (by decide) rfl (by omega) (by omega) (by decide) g209 rfl (by omega) (fun h212 g212 w212 u212 => ?_)
  have F213 := F210.then rfl u212
  refine wr_iincL (i := 1) (n := 1) (v := 70) (71) ([(1, vi 71), (0, .ref 239)]) (nx := 16) (r1 := 0) (r2 := 0) (r3 := 0) rfl rfl (by decide) rfl ?_
  refine wi_goto (nx := 19) (r1 := 2) (r2 := 0) (r3 := 0) rfl ?_
  refine wi_iload_n (i := 1) (e := 71) (nx := 3) (r1 := 0) (r2 := 0) (r3 := 0) rfl rfl ?_
  refine wi_sipush (n := 200) (nx := 6) (r1 := 0) (r2 := 0) (r3 := 0) rfl (by decide) ?_
  refine wi_icmp (cd := .ge) (nx := 9) (r1 := 19) (r2 := 0) (r3 := 0) rfl (by omega) (by omega) (fun (q214 : 200 ≤ 71) => by exfalso; omega) (fun (q214 : ¬ (200 ≤ 71)) => ?_)
  refine wi_aload_n (i := 0) (x := 239) (nx := 10) (r1 := 0) (r2 := 0) (r3 := 0) rfl rfl ?_
  refine wi_iload_n (i := 1) (e := 71) (nx := 11) (r1 := 0) (r2 := 0) (r3 := 0) rfl rfl ?_
  refine wi_iconst (n := 0) (nx := 12) (r1 := 0) (r2 := 0) (r3 := 0) rfl ?_
  refine wr_is (k0 := 239) (a := 71) (f := 71) (x := 0) (bl := -2147483648) (bh := 2147483647) (nx := 13) (r1 := 0) (r2 := 0) (r3 := 0) rfl (by decide) rfl (by omega) (by omega) (by decide) g212 rfl (by omega) (fun h215 g215 w215 u215 => ?_)
  have F216 := F213.then rfl u215
  refine wr_iincL (i := 1) (n := 1) (v := 71) (72) ([(1, vi 72), (0, .ref 239)]) (nx := 16) (r1 := 0) (r2 := 0) (r3 := 0) rfl rfl (by decide) rfl ?_
  refine wi_goto (nx := 19) (r1 := 2) (r2 := 0) (r3 := 0) rfl ?_
  refine wi_iload_n (i := 1) (e := 72) (nx := 3) (r1 := 0) (r2 := 0) (r3 := 0) rfl rfl ?_
  refine wi_sipush (n := 200) (nx := 6) (r1 := 0) (r2 := 0) (r3 := 0) rfl (by decide) ?_
  refine wi_icmp (cd := .ge) (nx := 9) (r1 := 19) (r2 := 0) (r3 := 0) rfl (by omega) (by omega) (fun (q217 : 200 ≤ 72) => by exfalso; omega) (fun (q217 : ¬ (200 ≤ 72)) => ?_)
  refine wi_aload_n (i := 0) (x := 239) (nx := 10) (r1 := 0) (r2 := 0) (r3 := 0) rfl rfl ?_
  refine wi_iload_n (i := 1) (e := 72) (nx := 11) (r1 := 0) (r2 := 0) (r3 := 0) rfl rfl ?_
  refine wi_iconst (n := 0) (nx := 12) (r1 := 0) (r2 := 0) (r3 := 0) rfl ?_
  refine wr_is (k0 := 239) (a := 72) (f := 72) (x := 0) (bl := -2147483648) (bh := 2147483647) (nx := 13) (r1 := 0) (r2 := 0) (r3 := 0) rfl (by decide) rfl (by omega) (by omega) (by decide) g215 rfl (by omega) (fun h218 g218 w218 u218 => ?_)
  have F219 := F216.then rfl u218
  refine wr_iincL (i := 1) (n := 1) (v := 72) (73) ([(1, vi 73), (0, .ref 239)]) (nx := 16) (r1 := 0) (r2 := 0) (r3 := 0) rfl rfl (by decide) rfl ?_
  refine wi_goto (nx := 19) (r1 := 2) (r2 := 0) (r3 := 0) rfl ?_
  refine wi_iload_n (i := 1) (e := 73) (nx := 3) (r1 := 0) (r2 := 0) (r3 := 0) rfl rfl ?_
  refine wi_sipush (n := 200) (nx := 6) (r1 := 0) (r2 := 0) (r3 := 0) rfl (by decide) ?_
  refine wi_icmp (cd := .ge) (nx := 9) (r1 := 19) (r2 := 0) (r3 := 0) rfl (by omega) (by omega) (fun (q220 : 200 ≤ 73) => by exfalso; omega) (fun (q220 : ¬ (200 ≤ 73)) => ?_)
  refine wi_aload_n (i := 0) (x := 239) (nx := 10) (r1 := 0) (r2 := 0) (r3 := 0) rfl rfl ?_
  refine wi_iload_n (i := 1) (e := 73) (nx := 11) (r1 := 0) (r2 := 0) (r3 := 0) rfl rfl ?_
  refine wi_iconst (n := 0) (nx := 12) (r1 := 0) (r2 := 0) (r3 := 0) rfl ?_
  refine wr_is (k0 := 239) (a := 73) (f := 73) (x := 0) (bl := 0) (bh := 0) (nx := 13) (r1 := 0) (r2 := 0) (r3 := 0) rfl (by decide) rfl (by omega) (by omega) (by decide) g218 rfl (by omega) (fun h221 g221 w221 u221 => ?_)
  have F222 := F219.then rfl u221
  refine wr_iincL (i := 1) (n := 1) (v := 73) (74) ([(1, vi 74), (0, .ref 239)]) (nx := 16) (r1 := 0) (r2 := 0) (r3 := 0) rfl rfl (by decide) rfl ?_
  refine wi_goto (nx := 19) (r1 := 2) (r2 := 0) (r3 := 0) rfl ?_
  refine wi_iload_n (i := 1) (e := 74) (nx := 3) (r1 := 0) (r2 := 0) (r3 := 0) rfl rfl ?_
  refine wi_sipush (n := 200) (nx := 6) (r1 := 0) (r2 := 0) (r3 := 0) rfl (by decide) ?_
  refine wi_icmp (cd := .ge) (nx := 9) (r1 := 19) (r2 := 0) (r3 := 0) rfl (by omega) (by omega) (fun (q223 : 200 ≤ 74) => by exfalso; omega) (fun (q223 : ¬ (200 ≤ 74)) => ?_)
  refine wi_aload_n (i := 0) (x := 239) (nx := 10) (r1 := 0) (r2 := 0) (r3 := 0) rfl rfl ?_
  refine wi_iload_n (i := 1) (e := 74) (nx := 11) (r1 := 0) (r2 := 0) (r3 := 0) rfl rfl ?_
  refine wi_iconst (n := 0) (nx := 12) (r1 := 0) (r2 := 0) (r3 := 0) rfl ?_
  refine wr_is (k0 := 239) (a := 74) (f := 74) (x := 0) (bl := 0) (bh := 11) (nx := 13) (r1 := 0) (r2 := 0) (r3 := 0) rfl (by decide) rfl (by omega) (by omega) (by decide) g221 rfl (by omega) (fun h224 g224 w224 u224 => ?_)
  have F225 := F222.then rfl u224
  refine wr_iincL (i := 1) (n := 1) (v := 74) (75) ([(1, vi 75), (0, .ref 239)]) (nx := 16) (r1 := 0) (r2 := 0) (r3 := 0) rfl rfl (by decide) rfl ?_
  refine wi_goto (nx := 19) (r1 := 2) (r2 := 0) (r3 := 0) rfl ?_
  refine wi_iload_n (i := 1) (e := 75) (nx := 3) (r1 := 0) (r2 := 0) (r3 := 0) rfl rfl ?_
  refine wi_sipush (n := 200) (nx := 6) (r1 := 0) (r2 := 0) (r3 := 0) rfl (by decide) ?_
  refine wi_icmp (cd := .ge) (nx := 9) (r1 := 19) (r2 := 0) (r3 := 0) rfl (by omega) (by omega) (fun (q226 : 200 ≤ 75) => by exfalso; omega) (fun (q226 : ¬ (200 ≤ 75)) => ?_)
  refine wi_aload_n (i := 0) (x := 239) (nx := 10) (r1 := 0) (r2 := 0) (r3 := 0) rfl rfl ?_
  refine wi_iload_n (i := 1) (e := 75) (nx := 11) (r1 := 0) (r2 := 0) (r3 := 0) rfl rfl ?_
  refine wi_iconst (n := 0) (nx := 12) (r1 := 0) (r2 := 0) (r3 := 0) rfl ?_
  refine wr_is (k0 := 239) (a := 75) (f := 75) (x := 0) (bl := 0) (bh := 11) (nx := 13) (r1 := 0) (r2 := 0) (r3 := 0) rfl (by decide) rfl (by omega) (by omega) (by decide) g224 rfl (by omega) (fun h227 g227 w227 u227 => ?_)
  have F228 := F225.then rfl u227
  refine wr_iincL (i := 1) (n := 1) (v := 75) (76) ([(1, vi 76), (0, .ref 239)]) (nx := 16) (r1 := 0) (r2 := 0) (r3 := 0) rfl rfl (by decide) rfl ?_
  refine wi_goto (nx := 19) (r1 := 2) (r2 := 0) (r3 := 0) rfl ?_
  refine wi_iload_n (i := 1) (e := 76) (nx := 3) (r1 := 0) (r2 := 0) (r3 := 0) rfl rfl ?_
  refine wi_sipush (n := 200) (nx := 6) (r1 := 0) (r2 := 0) (r3 := 0) rfl (by decide) ?_
  refine wi_icmp (cd := .ge) (nx := 9) (r1 := 19) (r2 := 0) (r3 := 0) rfl (by omega) (by omega) (fun (q229 : 200 ≤ 76) => by exfalso; omega) (fun (q229 : ¬ (200 ≤ 76)) => ?_)
  refine wi_aload_n (i := 0) (x := 239) (nx := 10) (r1 := 0) (r2 := 0) (r3 := 0) rfl rfl ?_
  refine wi_iload_n (i := 1) (e := 76) (nx := 11) (r1 := 0) (r2 := 0) (r3 := 0) rfl rfl ?_
  refine wi_iconst (n := 0) (nx := 12) (r1 := 0) (r2 := 0) (r3 := 0) rfl ?_
  refine wr_is (k0 := 239) (a := 76) (f := 76) (x := 0) (bl := 0) (bh := 11) (nx := 13) (r1 := 0) (r2 := 0) (r3 := 0) rfl (by decide) rfl (by omega) (by omega) (by decide) g227 rfl (by omega) (fun h230 g230 w230 u230 => ?_)
  have F231 := F228.then rfl u230
  refine wr_iincL (i := 1) (n := 1) (v := 76) (77) ([(1, vi 77), (0, .ref 239)]) (nx := 16) (r1 := 0) (r2 := 0) (r3 := 0) rfl rfl (by decide) rfl ?_
  refine wi_goto (nx := 19) (r1 := 2) (r2 := 0) (r3 := 0) rfl ?_
  refine wi_iload_n (i := 1) (e := 77) (nx := 3) (r1 := 0) (r2 := 0) (r3 := 0) rfl rfl ?_
  refine wi_sipush (n := 200) (nx := 6) (r1 := 0) (r2 := 0) (r3 := 0) rfl (by decide) ?_
  refine wi_icmp (cd := .ge) (nx := 9) (r1 := 19) (r2 := 0) (r3 := 0) rfl (by omega) (by omega) (fun (q232 : 200 ≤ 77) => by exfalso; omega) (fun (q232 : ¬ (200 ≤ 77)) => ?_)
  refine wi_aload_n (i := 0) (x := 239) (nx := 10) (r1 := 0) (r2 := 0) (r3 := 0) rfl rfl ?_
  refine wi_iload_n (i := 1) (e := 77) (nx := 11) (r1 := 0) (r2 := 0) (r3 := 0) rfl rfl ?_
  refine wi_iconst (n := 0) (nx := 12) (r1 := 0) (r2 := 0) (r3 := 0) rfl ?_
  refine wr_is (k0 := 239) (a := 77) (f := 77) (x := 0) (bl := 0) (bh := 11) (nx := 13) (r1 := 0) (r2 := 0) (r3 := 0) rfl (by decide) rfl (by omega) (by omega) (by decide) g230 rfl (by omega) (fun h233 g233 w233 u233 => ?_)
  have F234 := F231.then rfl u233
  refine wr_iincL (i := 1) (n := 1) (v := 77) (78) ([(1, vi 78), (0, .ref 239)]) (nx := 16) (r1 := 0) (r2 := 0) (r3 := 0) rfl rfl (by decide) rfl ?_
  refine wi_goto (nx := 19) (r1 := 2) (r2 := 0) (r3 := 0) rfl ?_
  refine wi_iload_n (i := 1) (e := 78) (nx := 3) (r1 := 0) (r2 := 0) (r3 := 0) rfl rfl ?_
  refine wi_sipush (n := 200) (nx := 6) (r1 := 0) (r2 := 0) (r3 := 0) rfl (by decide) ?_
  refine wi_icmp (cd := .ge) (nx := 9) (r1 := 19) (r2 := 0) (r3 := 0) rfl (by omega) (by omega) (fun (q235 : 200 ≤ 78) => by exfalso; omega) (fun (q235 : ¬ (200 ≤ 78)) => ?_)
  refine wi_aload_n (i := 0) (x := 239) (nx := 10) (r1 := 0) (r2 := 0) (r3 := 0) rfl rfl ?_
  refine wi_iload_n (i := 1) (e := 78) (nx := 11) (r1 := 0) (r2 := 0) (r3 := 0) rfl rfl ?_
  refine wi_iconst (n := 0) (nx := 12) (r1 := 0) (r2 := 0) (r3 := 0) rfl ?_
  refine wr_is (k0 := 239) (a := 78) (f := 78) (x := 0) (bl := 0) (bh := 11) (nx := 13) (r1 := 0) (r2 := 0) (r3 := 0) rfl (by decide) rfl (by omega) (by omega) (by decide) g233 rfl (by omega) (fun h236 g236 w236 u236 => ?_)
  have F237 := F234.then rfl u236
  refine wr_iincL (i := 1) (n := 1) (v := 78) (79) ([(1, vi 79), (0, .ref 239)]) (nx := 16) (r1 := 0) (r2 := 0) (r3 := 0) rfl rfl (by decide) rfl ?_
  refine wi_goto (nx := 19) (r1 := 2) (r2 := 0) (r3 := 0) rfl ?_
  refine wi_iload_n (i := 1) (e := 79) (nx := 3) (r1 := 0) (r2 := 0) (r3 := 0) rfl rfl ?_
  refine wi_sipush (n := 200) (nx := 6) (r1 := 0) (r2 := 0) (r3 := 0) rfl (by decide) ?_
  refine wi_icmp (cd := .ge) (nx := 9) (r1 := 19) (r2 := 0) (r3 := 0) rfl (by omega) (by omega) (fun (q238 : 200 ≤ 79) => by exfalso; omega) (fun (q238 : ¬ (200 ≤ 79)) => ?_)
  refine wi_aload_n (i := 0) (x := 239) (nx := 10) (r1 := 0) (r2 := 0) (r3 := 0) rfl rfl ?_
  refine wi_iload_n (i := 1) (e := 79) (nx := 11) (r1 := 0) (r2 := 0) (r3 := 0) rfl rfl ?_
  refine wi_iconst (n := 0) (nx := 12) (r1 := 0) (r2 := 0) (r3 := 0) rfl ?_
  refine wr_is (k0 := 239) (a := 79) (f := 79) (x := 0) (bl := 0) (bh := 11) (nx := 13) (r1 := 0) (r2 := 0) (r3 := 0) rfl (by decide) rfl (by omega) (by omega) (by decide) g236 rfl (by omega) (fun h239 g239 w239 u239 => ?_)
  have F240 := F237.then rfl u239
  refine wr_iincL (i := 1) (n := 1) (v := 79) (80) ([(1, vi 80), (0, .ref 239)]) (nx := 16) (r1 := 0) (r2 := 0) (r3 := 0) rfl rfl (by decide) rfl ?_
  refine wi_goto (nx := 19) (r1 := 2) (r2 := 0) (r3 := 0) rfl ?_
  refine wi_iload_n (i := 1) (e := 80) (nx := 3) (r1 := 0) (r2 := 0) (r3 := 0) rfl rfl ?_
  refine wi_sipush (n := 200) (nx := 6) (r1 := 0) (r2 := 0) (r3 := 0) rfl (by decide) ?_
  refine wi_icmp (cd := .ge) (nx := 9) (r1 := 19) (r2 := 0) (r3 := 0) rfl (by omega) (by omega) (fun (q241 : 200 ≤ 80) => by exfalso; omega) (fun (q241 : ¬ (200 ≤ 80)) => ?_)
  refine wi_aload_n (i := 0) (x := 239) (nx := 10) (r1 := 0) (r2 := 0) (r3 := 0) rfl rfl ?_
  refine wi_iload_n (i := 1) (e := 80) (nx := 11) (r1 := 0) (r2 := 0) (r3 := 0) rfl rfl ?_
  refine wi_iconst (n := 0) (nx := 12) (r1 := 0) (r2 := 0) (r3 := 0) rfl ?_
  refine wr_is (k0 := 239) (a := 80) (f := 80) (x := 0) (bl := 0) (bh := 11) (nx := 13) (r1 := 0) (r2 := 0) (r3 := 0) rfl (by decide) rfl (by omega) (by omega) (by decide) g239 rfl (by omega) (fun h242 g242 w242 u242 => ?_)
  have F243 := F240.then rfl u242
  refine wr_iincL (i := 1) (n := 1) (v := 80) (81) ([(1, vi 81), (0, .ref 239)]) (nx := 16) (r1 := 0) (r2 := 0) (r3 := 0) rfl rfl (by decide) rfl ?_
  refine wi_goto (nx := 19) (r1 := 2) (r2 := 0) (r3 := 0) rfl ?_
  refine wi_iload_n (i := 1) (e := 81) (nx := 3) (r1 := 0) (r2 := 0) (r3 := 0) rfl rfl ?_
  refine wi_sipush (n := 200) (nx := 6) (r1 := 0) (r2 := 0) (r3 := 0) rfl (by decide) ?_
  refine wi_icmp (cd := .ge) (nx := 9) (r1 := 19) (r2 := 0) (r3 := 0) rfl (by omega) (by omega) (fun (q244 : 200 ≤ 81) => by exfalso; omega) (fun (q244 : ¬ (200 ≤ 81)) => ?_)
  refine wi_aload_n (i := 0) (x := 239) (nx := 10) (r1 := 0) (r2 := 0) (r3 := 0) rfl rfl ?_
  refine wi_iload_n (i := 1) (e := 81) (nx := 11) (r1 := 0) (r2 := 0) (r3 := 0) rfl rfl ?_
  refine wi_iconst (n := 0) (nx := 12) (r1 := 0) (r2 := 0) (r3 := 0) rfl ?_
  refine wr_is (k0 := 239) (a := 81) (f := 81) (x := 0) (bl := 0) (bh := 11) (nx := 13) (r1 := 0) (r2 := 0) (r3 := 0) rfl (by decide) rfl (by omega) (by omega) (by decide) g242 rfl (by omega) (fun h245 g245 w245 u245 => ?_)
  have F246 := F243.then rfl u245
  refine wr_iincL (i := 1) (n := 1) (v := 81) (82) ([(1, vi 82), (0, .ref 239)]) (nx := 16) (r1 := 0) (r2 := 0) (r3 := 0) rfl rfl (by decide) rfl ?_
  refine wi_goto (nx := 19) (r1 := 2) (r2 := 0) (r3 := 0) rfl ?_
  refine wi_iload_n (i := 1) (e := 82) (nx := 3) (r1 := 0) (r2 := 0) (r3 := 0) rfl rfl ?_
  refine wi_sipush (n := 200) (nx := 6) (r1 := 0) (r2 := 0) (r3 := 0) rfl (by decide) ?_
  refine wi_icmp (cd := .ge) (nx := 9) (r1 := 19) (r2 := 0) (r3 := 0) rfl (by omega) (by omega) (fun (q247 : 200 ≤ 82) => by exfalso; omega) (fun (q247 : ¬ (200 ≤ 82)) => ?_)
  refine wi_aload_n (i := 0) (x := 239) (nx := 10) (r1 := 0) (r2 := 0) (r3 := 0) rfl rfl ?_
  refine wi_iload_n (i := 1) (e := 82) (nx := 11) (r1 := 0) (r2 := 0) (r3 := 0) rfl rfl ?_
  refine wi_iconst (n := 0) (nx := 12) (r1 := 0) (r2 := 0) (r3 := 0) rfl ?_
  refine wr_is (k0 := 239) (a := 82) (f := 82) (x := 0) (bl := 0) (bh := 11) (nx := 13) (r1 := 0) (r2 := 0) (r3 := 0) rfl (by decide) rfl (by omega) (by omega) (by decide) g245 rfl (by omega) (fun h248 g248 w248 u248 => ?_)
  have F249 := F246.then rfl u248
  refine wr_iincL (i := 1) (n := 1) (v := 82) (83) ([(1, vi 83), (0, .ref 239)]) (nx := 16) (r1 := 0) (r2 := 0) (r3 := 0) rfl rfl (by decide) rfl ?_
  refine wi_goto (nx := 19) (r1 := 2) (r2 := 0) (r3 := 0) rfl ?_
  refine wi_iload_n (i := 1) (e := 83) (nx := 3) (r1 := 0) (r2 := 0) (r3 := 0) rfl rfl ?_
  refine wi_sipush (n := 200) (nx := 6) (r1 := 0) (r2 := 0) (r3 := 0) rfl (by decide) ?_
  refine wi_icmp (cd := .ge) (nx := 9) (r1 := 19) (r2 := 0) (r3 := 0) rfl (by omega) (by omega) (fun (q250 : 200 ≤ 83) => by exfalso; omega) (fun (q250 : ¬ (200 ≤ 83)) => ?_)
  refine wi_aload_n (i := 0) (x := 239) (nx := 10) (r1 := 0) (r2 := 0) (r3 := 0) rfl rfl ?_
  refine wi_iload_n (i := 1) (e := 83) (nx := 11) (r1 := 0) (r2 := 0) (r3 := 0) rfl rfl ?_
  refine wi_iconst (n := 0) (nx := 12) (r1 := 0) (r2 := 0) (r3 := 0) rfl ?_
  refine wr_is (k0 := 239) (a := 83) (f := 83) (x := 0) (bl := 0) (bh := 11) (nx := 13) (r1 := 0) (r2 := 0) (r3 := 0) rfl (by decide) rfl (by omega) (by omega) (by decide) g248 rfl (by omega) (fun h251 g251 w251 u251 => ?_)
  have F252 := F249.then rfl u251
  refine wr_iincL (i := 1) (n := 1) (v := 83) (84) ([(1, vi 84), (0, .ref 239)]) (nx := 16) (r1 := 0) (r2 := 0) (r3 := 0) rfl rfl (by decide) rfl ?_
  refine wi_goto (nx := 19) (r1 := 2) (r2 := 0) (r3 := 0) rfl ?_
  refine wi_iload_n (i := 1) (e := 84) (nx := 3) (r1 := 0) (r2 := 0) (r3 := 0) rfl rfl ?_
  refine wi_sipush (n := 200) (nx := 6) (r1 := 0) (r2 := 0) (r3 := 0) rfl (by decide) ?_
  refine wi_icmp (cd := .ge) (nx := 9) (r1 := 19) (r2 := 0) (r3 := 0) rfl (by omega) (by omega) (fun (q253 : 200 ≤ 84) => by exfalso; omega) (fun (q253 : ¬ (200 ≤ 84)) => ?_)
  refine wi_aload_n (i := 0) (x := 239) (nx := 10) (r1 := 0) (r2 := 0) (r3 := 0) rfl rfl ?_
  refine wi_iload_n (i := 1) (e := 84) (nx := 11) (r1 := 0) (r2 := 0) (r3 := 0) rfl rfl ?_
  refine wi_iconst (n := 0) (nx := 12) (r1 := 0) (r2 := 0) (r3 := 0) rfl ?_
  refine wr_is (k0 := 239) (a := 84) (f := 84) (x := 0) (bl := 0) (bh := 11) (nx := 13) (r1 := 0) (r2 := 0) (r3 := 0) rfl (by decide) rfl (by omega) (by omega) (by decide) g251 rfl (by omega) (fun h254 g254 w254 u254 => ?_)
  have F255 := F252.then rfl u254
  refine wr_iincL (i := 1) (n := 1) (v := 84) (85) ([(1, vi 85), (0, .ref 239)]) (nx := 16) (r1 := 0) (r2 := 0) (r3 := 0) rfl rfl (by decide) rfl ?_
  refine wi_goto (nx := 19) (r1 := 2) (r2 := 0) (r3 := 0) rfl ?_
  refine wi_iload_n (i := 1) (e := 85) (nx := 3) (r1 := 0) (r2 := 0) (r3 := 0) rfl rfl ?_
  refine wi_sipush (n := 200) (nx := 6) (r1 := 0) (r2 := 0) (r3 := 0) rfl (by decide) ?_
  refine wi_icmp (cd := .ge) (nx := 9) (r1 := 19) (r2 := 0) (r3 := 0) rfl (by omega) (by omega) (fun (q256 : 200 ≤ 85) => by exfalso; omega) (fun (q256 : ¬ (200 ≤ 85)) => ?_)
  refine wi_aload_n (i := 0) (x := 239) (nx := 10) (r1 := 0) (r2 := 0) (r3 := 0) rfl rfl ?_
  refine wi_iload_n (i := 1) (e := 85) (nx := 11) (r1 := 0) (r2 := 0) (r3 := 0) rfl rfl ?_
  refine wi_iconst (n := 0) (nx := 12) (r1 := 0) (r2 := 0) (r3 := 0) rfl ?_
  refine wr_is (k0 := 239) (a := 85) (f := 85) (x := 0) (bl := 0) (bh := 11) (nx := 13) (r1 := 0) (r2 := 0) (r3 := 0) rfl (by decide) rfl (by omega) (by omega) (by decide) g254 rfl (by omega) (fun h257 g257 w257 u257 => ?_)
  have F258 := F255.then rfl u257
  refine wr_iincL (i := 1) (n := 1) (v := 85) (86) ([(1, vi 86), (0, .ref 239)]) (nx := 16) (r1 := 0) (r2 := 0) (r3 := 0) rfl rfl (by decide) rfl ?_
  refine wi_goto (nx := 19) (r1 := 2) (r2 := 0) (r3 := 0) rfl ?_
  refine wi_iload_n (i := 1) (e := 86) (nx := 3) (r1 := 0) (r2 := 0) (r3 := 0) rfl rfl ?_
  refine wi_sipush (n := 200) (nx := 6) (r1 := 0) (r2 := 0) (r3 := 0) rfl (by decide) ?_
  refine wi_icmp (cd := .ge) (nx := 9) (r1 := 19) (r2 := 0) (r3 := 0) rfl (by omega) (by omega) (fun (q259 : 200 ≤ 86) => by exfalso; omega) (fun (q259 : ¬ (200 ≤ 86)) => ?_)
  refine wi_aload_n (i := 0) (x := 239) (nx := 10) (r1 := 0) (r2 := 0) (r3 := 0) rfl rfl ?_
  refine wi_iload_n (i := 1) (e := 86) (nx := 11) (r1 := 0) (r2 := 0) (r3 := 0) rfl rfl ?_
  refine wi_iconst (n := 0) (nx := 12) (r1 := 0) (r2 := 0) (r3 := 0) rfl ?_
  refine wr_is (k0 := 239) (a := 86) (f := 86) (x := 0) (bl := 0) (bh := 11) (nx := 13) (r1 := 0) (r2 := 0) (r3 := 0) rfl (by decide) rfl (by omega) (by omega) (by decide) g257 rfl (by omega) (fun h260 g260 w260 u260 => ?_)
  have F261 := F258.then rfl u260
  refine wr_iincL (i := 1) (n := 1) (v := 86) (87) ([(1, vi 87), (0, .ref 239)]) (nx := 16) (r1 := 0) (r2 := 0) (r3 := 0) rfl rfl (by decide) rfl ?_
  refine wi_goto (nx := 19) (r1 := 2) (r2 := 0) (r3 := 0) rfl ?_
  refine wi_iload_n (i := 1) (e := 87) (nx := 3) (r1 := 0) (r2 := 0) (r3 := 0) rfl rfl ?_
  refine wi_sipush (n := 200) (nx := 6) (r1 := 0) (r2 := 0) (r3 := 0) rfl (by decide) ?_
  refine wi_icmp (cd := .ge) (nx := 9) (r1 := 19) (r2 := 0) (r3 := 0) rfl (by omega) (by omega) (fun (q262 : 200 ≤ 87) => by exfalso; omega) (fun (q262 : ¬ (200 ≤ 87)) => ?_)
  refine wi_aload_n (i := 0) (x := 239) (nx := 10) (r1 := 0) (r2 := 0) (r3 := 0) rfl rfl ?_
  refine wi_iload_n (i := 1) (e := 87) (nx := 11) (r1 := 0) (r2 := 0) (r3 := 0) rfl rfl ?_
  refine wi_iconst (n := 0) (nx := 12) (r1 := 0) (r2 := 0) (r3 := 0) rfl ?_
  refine wr_is (k0 := 239) (a := 87) (f := 87) (x := 0) (bl := 0) (bh := 11) (nx := 13) (r1 := 0) (r2 := 0) (r3 := 0) rfl (by decide) rfl (by omega) (by omega) (by decide) g260 rfl (by omega) (fun h263 g263 w263 u263 => ?_)
  have F264 := F261.then rfl u263
  refine wr_iincL (i := 1) (n := 1) (v := 87) (88) ([(1, vi 88), (0, .ref 239)]) (nx := 16) (r1 := 0) (r2 := 0) (r3 := 0) rfl rfl (by decide) rfl ?_
  refine wi_goto (nx := 19) (r1 := 2) (r2 := 0) (r3 := 0) rfl ?_
  refine wi_iload_n (i := 1) (e := 88) (nx := 3) (r1 := 0) (r2 := 0) (r3 := 0) rfl rfl ?_
  refine wi_sipush (n := 200) (nx := 6) (r1 := 0) (r2 := 0) (r3 := 0) rfl (by decide) ?_
  refine wi_icmp (cd := .ge) (nx := 9) (r1 := 19) (r2 := 0) (r3 := 0) rfl (by omega) (by omega) (fun (q265 : 200 ≤ 88) => by exfalso; omega) (fun (q265 : ¬ (200 ≤ 88)) => ?_)
  refine wi_aload_n (i := 0) (x := 239) (nx := 10) (r1 := 0) (r2 := 0) (r3 := 0) rfl rfl ?_
  refine wi_iload_n (i := 1) (e := 88) (nx := 11) (r1 := 0) (r2 := 0) (r3 := 0) rfl rfl ?_
  refine wi_iconst (n := 0) (nx := 12) (r1 := 0) (r2 := 0) (r3 := 0) rfl ?_
  refine wr_is (k0 := 239) (a := 88) (f := 88) (x := 0) (bl := 0) (bh := 11) (nx := 13) (r1 := 0) (r2 := 0) (r3 := 0) rfl (by decide) rfl (by omega) (by omega) (by decide) g263 rfl (by omega) (fun h266 g266 w266 u266 => ?_)
  have F267 := F264.then rfl u266
  refine wr_iincL (i := 1) (n := 1) (v := 88) (89) ([(1, vi 89), (0, .ref 239)]) (nx := 16) (r1 := 0) (r2 := 0) (r3 := 0) rfl rfl (by decide) rfl ?_
  refine wi_goto (nx := 19) (r1 := 2) (r2 := 0) (r3 := 0) rfl ?_
  refine wi_iload_n (i := 1) (e := 89) (nx := 3) (r1 := 0) (r2 := 0) (r3 := 0) rfl rfl ?_
  refine wi_sipush (n := 200) (nx := 6) (r1 := 0) (r2 := 0) (r3 := 0) rfl (by decide) ?_
  refine wi_icmp (cd := .ge) (nx := 9) (r1 := 19) (r2 := 0) (r3 := 0) rfl (by omega) (by omega) (fun (q268 : 200 ≤ 89) => by exfalso; omega) (fun (q268 : ¬ (200 ≤ 89)) => ?_)
  refine wi_aload_n (i := 0) (x := 239) (nx := 10) (r1 := 0) (r2 := 0) (r3 := 0) rfl rfl ?_
  refine wi_iload_n (i := 1) (e := 89) (nx := 11) (r1 := 0) (r2 := 0) (r3 := 0) rfl rfl ?_
  refine wi_iconst (n := 0) (nx := 12) (r1 := 0) (r2 := 0) (r3 := 0) rfl ?_
  refine wr_is (k0 := 239) (a := 89) (f := 89) (x := 0) (bl := 0) (bh := 11) (nx := 13) (r1 := 0) (r2 := 0) (r3 := 0) rfl (by decide) rfl (by omega) (by omega) (by decide) g266 rfl (by omega) (fun h269 g269 w269 u269 => ?_)
  have F270 := F267.then rfl u269
  refine wr_iincL (i := 1) (n := 1) (v := 89) (90) ([(1, vi 90), (0, .ref 239)]) (nx := 16) (r1 := 0) (r2 := 0) (r3 := 0) rfl rfl (by decide) rfl ?_
  refine wi_goto (nx := 19) (r1 := 2) (r2 := 0) (r3 := 0) rfl ?_
  refine wi_iload_n (i := 1) (e := 90) (nx := 3) (r1 := 0) (r2 := 0) (r3 := 0) rfl rfl ?_
  refine wi_sipush (n := 200) (nx := 6) (r1 := 0) (r2 := 0) (r3 := 0) rfl (by decide) ?_
  refine wi_icmp (cd := .ge) (nx := 9) (r1 := 19) (r2 := 0) (r3 := 0) rfl (by omega) (by omega) (fun (q271 : 200 ≤ 90) => by exfalso; omega) (fun (q271 : ¬ (200 ≤ 90)) => ?_)
  refine wi_aload_n (i := 0) (x := 239) (nx := 10) (r1 := 0) (r2 := 0) (r3 := 0) rfl rfl ?_
  refine wi_iload_n (i := 1) (e := 90) (nx := 11) (r1 := 0) (r2 := 0) (r3 := 0) rfl rfl ?_
  refine wi_iconst (n := 0) (nx := 12) (r1 := 0) (r2 := 0) (r3 := 0) rfl ?_
  refine wr_is (k0 := 239) (a := 90) (f := 90) (x := 0) (bl := 0) (bh := 11) (nx := 13) (r1 := 0) (r2 := 0) (r3 := 0) rfl (by decide) rfl (by omega) (by omega) (by decide) g269 rfl (by omega) (fun h272 g272 w272 u272 => ?_)
  have F273 := F270.then rfl u272
  refine wr_iincL (i := 1) (n := 1) (v := 90) (91) ([(1, vi 91), (0, .ref 239)]) (nx := 16) (r1 := 0) (r2 := 0) (r3 := 0) rfl rfl (by decide) rfl ?_
  refine wi_goto (nx := 19) (r1 := 2) (r2 := 0) (r3 := 0) rfl ?_
  refine wi_iload_n (i := 1) (e := 91) (nx := 3) (r1 := 0) (r2 := 0) (r3 := 0) rfl rfl ?_
  refine wi_sipush (n := 200) (nx := 6) (r1 := 0) (r2 := 0) (r3 := 0) rfl (by decide) ?_
  refine wi_icmp (cd := .ge) (nx := 9) (r1 := 19) (r2 := 0) (r3 := 0) rfl (by omega) (by omega) (fun (q274 : 200 ≤ 91) => by exfalso; omega) (fun (q274 : ¬ (200 ≤ 91)) => ?_)
  refine wi_aload_n (i := 0) (x := 239) (nx := 10) (r1 := 0) (r2 := 0) (r3 := 0) rfl rfl ?_
  refine wi_iload_n (i := 1) (e := 91) (nx := 11) (r1 := 0) (r2 := 0) (r3 := 0) rfl rfl ?_
  refine wi_iconst (n := 0) (nx := 12) (r1 := 0) (r2 := 0) (r3 := 0) rfl ?_
  refine wr_is (k0 := 239) (a := 91) (f := 91) (x := 0) (bl := 0) (bh := 11) (nx := 13) (r1 := 0) (r2 := 0) (r3 := 0) rfl (by decide) rfl (by omega) (by omega) (by decide) g272 rfl (by omega) (fun h275 g275 w275 u275 => ?_)
  have F276 := F273.then rfl u275
  refine wr_iincL (i := 1) (n := 1) (v := 91) (92) ([(1, vi 92), (0, .ref 239)]) (nx := 16) (r1 := 0) (r2 := 0) (r3 := 0) rfl rfl (by decide) rfl ?_
  refine wi_goto (nx := 19) (r1 := 2) (r2 := 0) (r3 := 0) rfl ?_
  refine wi_iload_n (i := 1) (e := 92) (nx := 3) (r1 := 0) (r2 := 0) (r3 := 0) rfl rfl ?_
  refine wi_sipush (n := 200) (nx := 6) (r1 := 0) (r2 := 0) (r3 := 0) rfl (by decide) ?_
  refine wi_icmp (cd := .ge) (nx := 9) (r1 := 19) (r2 := 0) (r3 := 0) rfl (by omega) (by omega) (fun (q277 : 200 ≤ 92) => by exfalso; omega) (fun (q277 : ¬ (200 ≤ 92)) => ?_)
  refine wi_aload_n (i := 0) (x := 239) (nx := 10) (r1 := 0) (r2 := 0) (r3 := 0) rfl rfl ?_
  refine wi_iload_n (i := 1) (e := 92) (nx := 11) (r1 := 0) (r2 := 0) (r3 := 0) rfl rfl ?_
  refine wi_iconst (n := 0) (nx := 12) (r1 := 0) (r2 := 0) (r3 := 0) rfl ?_
  refine wr_is (k0 := 239) (a := 92) (f := 92) (x := 0) (bl := 0) (bh := 11) (nx := 13) (r1 := 0) (r2 := 0) (r3 := 0) rfl (by decide) rfl (by omega) (by omega) (by decide) g275 rfl (by omega) (fun h278 g278 w278 u278 => ?_)
  have F279 := F276.then rfl u278
  refine wr_iincL (i := 1) (n := 1) (v := 92) (93) ([(1, vi 93), (0, .ref 239)]) (nx := 16) (r1 := 0) (r2 := 0) (r3 := 0) rfl rfl (by decide) rfl ?_
  refine wi_goto (nx := 19) (r1 := 2) (r2 := 0) (r3 := 0) rfl ?_
  refine wi_iload_n (i := 1) (e := 93) (nx := 3) (r1 := 0) (r2 := 0) (r3 := 0) rfl rfl ?_
  refine wi_sipush (n := 200) (nx := 6) (r1 := 0) (r2 := 0) (r3 := 0) rfl (by decide) ?_
  refine wi_icmp (cd := .ge) (nx := 9) (r1 := 19) (r2 := 0) (r3 := 0) rfl (by omega) (by omega) (fun (q280 : 200 ≤ 93) => by exfalso; omega) (fun (q280 : ¬ (200 ≤ 93)) => ?_)
  refine wi_aload_n (i := 0) (x := 239) (nx := 10) (r1 := 0) (r2 := 0) (r3 := 0) rfl rfl ?_
  refine wi_iload_n (i := 1) (e := 93) (nx := 11) (r1 := 0) (r2 := 0) (r3 := 0) rfl rfl ?_
  refine wi_iconst (n := 0) (nx := 12) (r1 := 0) (r2 := 0) (r3 := 0) rfl ?_
  refine wr_is (k0 := 239) (a := 93) (f := 93) (x := 0) (bl := 0) (bh := 11) (nx := 13) (r1 := 0) (r2 := 0) (r3 := 0) rfl (by decide) rfl (by omega) (by omega) (by decide) g278 rfl (by omega) (fun h281 g281 w281 u281 => ?_)
  have F282 := F279.then rfl u281
  refine wr_iincL (i := 1) (n := 1) (v := 93) (94) ([(1, vi 94), (0, .ref 239)]) (nx := 16) (r1 := 0) (r2 := 0) (r3 := 0) rfl rfl (by decide) rfl ?_
  refine wi_goto (nx := 19) (r1 := 2) (r2 := 0) (r3 := 0) rfl ?_
  refine wi_iload_n (i := 1) (e := 94) (nx := 3) (r1 := 0) (r2 := 0) (r3 := 0) rfl rfl ?_
  refine wi_sipush (n := 200) (nx := 6) (r1 := 0) (r2 := 0) (r3 := 0) rfl (by decide) ?_
  refine wi_icmp (cd := .ge) (nx := 9) (r1 := 19) (r2 := 0) (r3 := 0) rfl (by omega) (by omega) (fun (q283 : 200 ≤ 94) => by exfalso; omega) (fun (q283 : ¬ (200 ≤ 94)) => ?_)
  refine wi_aload_n (i := 0) (x := 239) (nx := 10) (r1 := 0) (r2 := 0) (r3 := 0) rfl rfl ?_
  refine wi_iload_n (i := 1) (e := 94) (nx := 11) (r1 := 0) (r2 := 0) (r3 := 0) rfl rfl ?_
  refine wi_iconst (n := 0) (nx := 12) (r1 := 0) (r2 := 0) (r3 := 0) rfl ?_
  refine wr_is (k0 := 239) (a := 94) (f := 94) (x := 0) (bl := 0) (bh := 11) (nx := 13) (r1 := 0) (r2 := 0) (r3 := 0) rfl (by decide) rfl (by omega) (by omega) (by decide) g281 rfl (by omega) (fun h284 g284 w284 u284 => ?_)
  have F285 := F282.then rfl u284
  refine wr_iincL (i := 1) (n := 1) (v := 94) (95) ([(1, vi 95), (0, .ref 239)]) (nx := 16) (r1 := 0) (r2 := 0) (r3 := 0) rfl rfl (by decide) rfl ?_
  refine wi_goto (nx := 19) (r1 := 2) (r2 := 0) (r3 := 0) rfl ?_
  refine wi_iload_n (i := 1) (e := 95) (nx := 3) (r1 := 0) (r2 := 0) (r3 := 0) rfl rfl ?_
  refine wi_sipush (n := 200) (nx := 6) (r1 := 0) (r2 := 0) (r3 := 0) rfl (by decide) ?_
  refine wi_icmp (cd := .ge) (nx := 9) (r1 := 19) (r2 := 0) (r3 := 0) rfl (by omega) (by omega) (fun (q286 : 200 ≤ 95) => by exfalso; omega) (fun (q286 : ¬ (200 ≤ 95)) => ?_)
  refine wi_aload_n (i := 0) (x := 239) (nx := 10) (r1 := 0) (r2 := 0) (r3 := 0) rfl rfl ?_
  refine wi_iload_n (i := 1) (e := 95) (nx := 11) (r1 := 0) (r2 := 0) (r3 := 0) rfl rfl ?_
  refine wi_iconst (n := 0) (nx := 12) (r1 := 0) (r2 := 0) (r3 := 0) rfl ?_
  refine wr_is (k0 := 239) (a := 95) (f := 95) (x := 0) (bl := 0) (bh := 11) (nx := 13) (r1 := 0) (r2 := 0) (r3 := 0) rfl (by decide) rfl (by omega) (by omega) (by decide) g284 rfl (by omega) (fun h287 g287 w287 u287 => ?_)
  have F288 := F285.then rfl u287
  refine wr_iincL (i := 1) (n := 1) (v := 95) (96) ([(1, vi 96), (0, .ref 239)]) (nx := 16) (r1 := 0) (r2 := 0) (r3 := 0) rfl rfl (by decide) rfl ?_
  refine wi_goto (nx := 19) (r1 := 2) (r2 := 0) (r3 := 0) rfl ?_
  refine wi_iload_n (i := 1) (e := 96) (nx := 3) (r1 := 0) (r2 := 0) (r3 := 0) rfl rfl ?_
  refine wi_sipush (n := 200) (nx := 6) (r1 := 0) (r2 := 0) (r3 := 0) rfl (by decide) ?_
  refine wi_icmp (cd := .ge) (nx := 9) (r1 := 19) (r2 := 0) (r3 := 0) rfl (by omega) (by omega) (fun (q289 : 200 ≤ 96) => by exfalso; omega) (fun (q289 : ¬ (200 ≤ 96)) => ?_)
  refine wi_aload_n (i := 0) (x := 239) (nx := 10) (r1 := 0) (r2 := 0) (r3 := 0) rfl rfl ?_
  refine wi_iload_n (i := 1) (e := 96) (nx := 11) (r1 := 0) (r2 := 0) (r3 := 0) rfl rfl ?_
  refine wi_iconst (n := 0) (nx := 12) (r1 := 0) (r2 := 0) (r3 := 0) rfl ?_
  refine wr_is (k0 := 239) (a := 96) (f := 96) (x := 0) (bl := 0) (bh := 11) (nx := 13) (r1 := 0) (r2 := 0) (r3 := 0) rfl (by decide) rfl (by omega) (by omega) (by decide) g287 rfl (by omega) (fun h290 g290 w290 u290 => ?_)
  have F291 := F288.then rfl u290
  refine wr_iincL (i := 1) (n := 1) (v := 96) (97) ([(1, vi 97), (0, .ref 239)]) (nx := 16) (r1 := 0) (r2 := 0) (r3 := 0) rfl rfl (by decide) rfl ?_
  refine wi_goto (nx := 19) (r1 := 2) (r2 := 0) (r3 := 0) rfl ?_
  refine wi_iload_n (i := 1) (e := 97) (nx := 3) (r1 := 0) (r2 := 0) (r3 := 0) rfl rfl ?_
  refine wi_sipush (n := 200) (nx := 6) (r1 := 0) (r2 := 0) (r3 := 0) rfl (by decide) ?_
  refine wi_icmp (cd := .ge) (nx := 9) (r1 := 19) (r2 := 0) (r3 := 0) rfl (by omega) (by omega) (fun (q292 : 200 ≤ 97) => by exfalso; omega) (fun (q292 : ¬ (200 ≤ 97)) => ?_)
  refine wi_aload_n (i := 0) (x := 239) (nx := 10) (r1 := 0) (r2 := 0) (r3 := 0) rfl rfl ?_
  refine wi_iload_n (i := 1) (e := 97) (nx := 11) (r1 := 0) (r2 := 0) (r3 := 0) rfl rfl ?_
  refine wi_iconst (n := 0) (nx := 12) (r1 := 0) (r2 := 0) (r3 := 0) rfl ?_
  refine wr_is (k0 := 239) (a := 97) (f := 97) (x := 0) (bl := 0) (bh := 11) (nx := 13) (r1 := 0) (r2 := 0) (r3 := 0) rfl (by decide) rfl (by omega) (by omega) (by decide) g290 rfl (by omega) (fun h293 g293 w293 u293 => ?_)
  have F294 := F291.then rfl u293
  refine wr_iincL (i := 1) (n := 1) (v := 97) (98) ([(1, vi 98), (0, .ref 239)]) (nx := 16) (r1 := 0) (r2 := 0) (r3 := 0) rfl rfl (by decide) rfl ?_
  refine wi_goto (nx := 19) (r1 := 2) (r2 := 0) (r3 := 0) rfl ?_
  refine wi_iload_n (i := 1) (e := 98) (nx := 3) (r1 := 0) (r2 := 0) (r3 := 0) rfl rfl ?_
  refine wi_sipush (n := 200) (nx := 6) (r1 := 0) (r2 := 0) (r3 := 0) rfl (by decide) ?_
  refine wi_icmp (cd := .ge) (nx := 9) (r1 := 19) (r2 := 0) (r3 := 0) rfl (by omega) (by omega) (fun (q295 : 200 ≤ 98) => by exfalso; omega) (fun (q295 : ¬ (200 ≤ 98)) => ?_)
  refine wi_aload_n (i := 0) (x := 239) (nx := 10) (r1 := 0) (r2 := 0) (r3 := 0) rfl rfl ?_
  refine wi_iload_n (i := 1) (e := 98) (nx := 11) (r1 := 0) (r2 := 0) (r3 := 0) rfl rfl ?_
  refine wi_iconst (n := 0) (nx := 12) (r1 := 0) (r2 := 0) (r3 := 0) rfl ?_
  refine wr_is (k0 := 239) (a := 98) (f := 98) (x := 0) (bl := 0) (bh := 0) (nx := 13) (r1 := 0) (r2 := 0) (r3 := 0) rfl (by decide) rfl (by omega) (by omega) (by decide) g293 rfl (by omega) (fun h296 g296 w296 u296 => ?_)
  have F297 := F294.then rfl u296
  refine wr_iincL (i := 1) (n := 1) (v := 98) (99) ([(1, vi 99), (0, .ref 239)]) (nx := 16) (r1 := 0) (r2 := 0) (r3 := 0) rfl rfl (by decide) rfl ?_
  refine wi_goto (nx := 19) (r1 := 2) (r2 := 0) (r3 := 0) rfl ?_
  refine wi_iload_n (i := 1) (e := 99) (nx := 3) (r1 := 0) (r2 := 0) (r3 := 0) rfl rfl ?_
  refine wi_sipush (n := 200) (nx := 6) (r1 := 0) (r2 := 0) (r3 := 0) rfl (by decide) ?_
  refine wi_icmp (cd := .ge) (nx := 9) (r1 := 19) (r2 := 0) (r3 := 0) rfl (by omega) (by omega) (fun (q298 : 200 ≤ 99) => by exfalso; omega) (fun (q298 : ¬ (200 ≤ 99)) => ?_)
  refine wi_aload_n (i := 0) (x := 239) (nx := 10) (r1 := 0) (r2 := 0) (r3 := 0) rfl rfl ?_
  refine wi_iload_n (i := 1) (e := 99) (nx := 11) (r1 := 0) (r2 := 0) (r3 := 0) rfl rfl ?_
  refine wi_iconst (n := 0) (nx := 12) (r1 := 0) (r2 := 0) (r3 := 0) rfl ?_
  refine wr_is (k0 := 239) (a := 99) (f := 99) (x := 0) (bl := 0) (bh := 0) (nx := 13) (r1 := 0) (r2 := 0) (r3 := 0) rfl (by decide) rfl (by omega) (by omega) (by decide) g296 rfl (by omega) (fun h299 g299 w299 u299 => ?_)
  have F300 := F297.then rfl u299
  refine wr_iincL (i := 1) (n := 1) (v := 99) (100) ([(1, vi 100), (0, .ref 239)]) (nx := 16) (r1 := 0) (r2 := 0) (r3 := 0) rfl rfl (by decide) rfl ?_
  refine wi_goto (nx := 19) (r1 := 2) (r2 := 0) (r3 := 0) rfl ?_
  refine wi_iload_n (i := 1) (e := 100) (nx := 3) (r1 := 0) (r2 := 0) (r3 := 0) rfl rfl ?_
  refine wi_sipush (n := 200) (nx := 6) (r1 := 0) (r2 := 0) (r3 := 0) rfl (by decide) ?_
  refine wi_icmp (cd := .ge) (nx := 9) (r1 := 19) (r2 := 0) (r3 := 0) rfl (by omega) (by omega) (fun (q301 : 200 ≤ 100) => by exfalso; omega) (fun (q301 : ¬ (200 ≤ 100)) => ?_)
  refine wi_aload_n (i := 0) (x := 239) (nx := 10) (r1 := 0) (r2 := 0) (r3 := 0) rfl rfl ?_
  refine wi_iload_n (i := 1) (e := 100) (nx := 11) (r1 := 0) (r2 := 0) (r3 := 0) rfl rfl ?_
  refine wi_iconst (n := 0) (nx := 12) (r1 := 0) (r2 := 0) (r3 := 0) rfl ?_
  refine wr_is (k0 := 239) (a := 100) (f := 100) (x := 0) (bl := 0) (bh := 0) (nx := 13) (r1 := 0) (r2 := 0) (r3 := 0) rfl (by decide) rfl (by omega) (by omega) (by decide) g299 rfl (by omega) (fun h302 g302 w302 u302 => ?_)
  have F303 := F300.then rfl u302
  refine wr_iincL (i := 1) (n := 1) (v := 100) (101) ([(1, vi 101), (0, .ref 239)]) (nx := 16) (r1 := 0) (r2 := 0) (r3 := 0) rfl rfl (by decide) rfl ?_
  refine wi_goto (nx := 19) (r1 := 2) (r2 := 0) (r3 := 0) rfl ?_
  refine wi_iload_n (i := 1) (e := 101) (nx := 3) (r1 := 0) (r2 := 0) (r3 := 0) rfl rfl ?_
  refine wi_sipush (n := 200) (nx := 6) (r1 := 0) (r2 := 0) (r3 := 0) rfl (by decide) ?_
  refine wi_icmp (cd := .ge) (nx := 9) (r1 := 19) (r2 := 0) (r3 := 0) rfl (by omega) (by omega) (fun (q304 : 200 ≤ 101) => by exfalso; omega) (fun (q304 : ¬ (200 ≤ 101)) => ?_)
  refine wi_aload_n (i := 0) (x := 239) (nx := 10) (r1 := 0) (r2 := 0) (r3 := 0) rfl rfl ?_
  refine wi_iload_n (i := 1) (e := 101) (nx := 11) (r1 := 0) (r2 := 0) (r3 := 0) rfl rfl ?_
  refine wi_iconst (n := 0) (nx := 12) (r1 := 0) (r2 := 0) (r3 := 0) rfl ?_
  refine wr_is (k0 := 239) (a := 101) (f := 101) (x := 0) (bl := 0) (bh := 0) (nx := 13) (r1 := 0) (r2 := 0) (r3 := 0) rfl (by decide) rfl (by omega) (by omega) (by decide) g302 rfl (by omega) (fun h305 g305 w305 u305 => ?_)
  have F306 := F303.then rfl u305
  refine wr_iincL (i := 1) (n := 1) (v := 101) (102) ([(1, vi 102), (0, .ref 239)]) (nx := 16) (r1 := 0) (r2 := 0) (r3 := 0) rfl rfl (by decide) rfl ?_
  refine wi_goto (nx := 19) (r1 := 2) (r2 := 0) (r3 := 0) rfl ?_
  refine wi_iload_n (i := 1) (e := 102) (nx := 3) (r1 := 0) (r2 := 0) (r3 := 0) rfl rfl ?_
  refine wi_sipush (n := 200) (nx := 6) (r1 := 0) (r2 := 0) (r3 := 0) rfl (by decide) ?_
  refine wi_icmp (cd := .ge) (nx := 9) (r1 := 19) (r2 := 0) (r3 := 0) rfl (by omega) (by omega) (fun (q307 : 200 ≤ 102) => by exfalso; omega) (fun (q307 : ¬ (200 ≤ 102)) => ?_)
  refine wi_aload_n (i := 0) (x := 239) (nx := 10) (r1 := 0) (r2 := 0) (r3 := 0) rfl rfl ?_
  refine wi_iload_n (i := 1) (e := 102) (nx := 11) (r1 := 0) (r2 := 0) (r3 := 0) rfl rfl ?_
  refine wi_iconst (n := 0) (nx := 12) (r1 := 0) (r2 := 0) (r3 := 0) rfl ?_
  refine wr_is (k0 := 239) (a := 102) (f := 102) (x := 0) (bl := 0) (bh := 0) (nx := 13) (r1 := 0) (r2 := 0) (r3 := 0) rfl (by decide) rfl (by omega) (by omega) (by decide) g305 rfl (by omega) (fun h308 g308 w308 u308 => ?_)
  have F309 := F306.then rfl u308
  refine wr_iincL (i := 1) (n := 1) (v := 102) (103) ([(1, vi 103), (0, .ref 239)]) (nx := 16) (r1 := 0) (r2 := 0) (r3 := 0) rfl rfl (by decide) rfl ?_
  refine wi_goto (nx := 19) (r1 := 2) (r2 := 0) (r3 := 0) rfl ?_
  refine wi_iload_n (i := 1) (e := 103) (nx := 3) (r1 := 0) (r2 := 0) (r3 := 0) rfl rfl ?_
  refine wi_sipush (n := 200) (nx := 6) (r1 := 0) (r2 := 0) (r3 := 0) rfl (by decide) ?_
  refine wi_icmp (cd := .ge) (nx := 9) (r1 := 19) (r2 := 0) (r3 := 0) rfl (by omega) (by omega) (fun (q310 : 200 ≤ 103) => by exfalso; omega) (fun (q310 : ¬ (200 ≤ 103)) => ?_)
  refine wi_aload_n (i := 0) (x := 239) (nx := 10) (r1 := 0) (r2 := 0) (r3 := 0) rfl rfl ?_
  refine wi_iload_n (i := 1) (e := 103) (nx := 11) (r1 := 0) (r2 := 0) (r3 := 0) rfl rfl ?_
  refine wi_iconst (n := 0) (nx := 12) (r1 := 0) (r2 := 0) (r3 := 0) rfl ?_
  refine wr_is (k0 := 239) (a := 103) (f := 103) (x := 0) (bl := 0) (bh := 11) (nx := 13) (r1 := 0) (r2 := 0) (r3 := 0) rfl (by decide) rfl (by omega) (by omega) (by decide) g308 rfl (by omega) (fun h311 g311 w311 u311 => ?_)
  have F312 := F309.then rfl u311
  refine wr_iincL (i := 1) (n := 1) (v := 103) (104) ([(1, vi 104), (0, .ref 239)]) (nx := 16) (r1 := 0) (r2 := 0) (r3 := 0) rfl rfl (by decide) rfl ?_
  refine wi_goto (nx := 19) (r1 := 2) (r2 := 0) (r3 := 0) rfl ?_
  refine wi_iload_n (i := 1) (e := 104) (nx := 3) (r1 := 0) (r2 := 0) (r3 := 0) rfl rfl ?_
  refine wi_sipush (n := 200) (nx := 6) (r1 := 0) (r2 := 0) (r3 := 0) rfl (by decide) ?_
  refine wi_icmp (cd := .ge) (nx := 9) (r1 := 19) (r2 := 0) (r3 := 0) rfl (by omega) (by omega) (fun (q313 : 200 ≤ 104) => by exfalso; omega) (fun (q313 : ¬ (200 ≤ 104)) => ?_)
  refine wi_aload_n (i := 0) (x := 239) (nx := 10) (r1 := 0) (r2 := 0) (r3 := 0) rfl rfl ?_
  refine wi_iload_n (i := 1) (e := 104) (nx := 11) (r1 := 0) (r2 := 0) (r3 := 0) rfl rfl ?_
  refine wi_iconst (n := 0) (nx := 12) (r1 := 0) (r2 := 0) (r3 := 0) rfl ?_
  refine wr_is (k0 := 239) (a := 104) (f := 104) (x := 0) (bl := 0) (bh := 11) (nx := 13) (r1 := 0) (r2 := 0) (r3 := 0) rfl (by decide) rfl (by omega) (by omega) (by decide) g311 rfl (by omega) (fun h314 g314 w314 u314 => ?_)
  have F315 := F312.then rfl u314
  refine wr_iincL (i := 1) (n := 1) (v := 104) (105) ([(1, vi 105), (0, .ref 239)]) (nx := 16) (r1 := 0) (r2 := 0) (r3 := 0) rfl rfl (by decide) rfl ?_
  refine wi_goto (nx := 19) (r1 := 2) (r2 := 0) (r3 := 0) rfl ?_
  refine wi_iload_n (i := 1) (e := 105) (nx := 3) (r1 := 0) (r2 := 0) (r3 := 0) rfl rfl ?_
  refine wi_sipush (n := 200) (nx := 6) (r1 := 0) (r2 := 0) (r3 := 0) rfl (by decide) ?_
  refine wi_icmp (cd := .ge) (nx := 9) (r1 := 19) (r2 := 0) (r3 := 0) rfl (by omega) (by omega) (fun (q316 : 200 ≤ 105) => by exfalso; omega) (fun (q316 : ¬ (200 ≤ 105)) => ?_)
  refine wi_aload_n (i := 0) (x := 239) (nx := 10) (r1 := 0) (r2 := 0) (r3 := 0) rfl rfl ?_
  refine wi_iload_n (i := 1) (e := 105) (nx := 11) (r1 := 0) (r2 := 0) (r3 := 0) rfl rfl ?_
  refine wi_iconst (n := 0) (nx := 12) (r1 := 0) (r2 := 0) (r3 := 0) rfl ?_
  refine wr_is (k0 := 239) (a := 105) (f := 105) (x := 0) (bl := 0) (bh := 11) (nx := 13) (r1 := 0) (r2 := 0) (r3 := 0) rfl (by decide) rfl (by omega) (by omega) (by decide) g314 rfl (by omega) (fun h317 g317 w317 u317 => ?_)
  have F318 := F315.then rfl u317
  refine wr_iincL (i := 1) (n := 1) (v := 105) (106) ([(1, vi 106), (0, .ref 239)]) (nx := 16) (r1 := 0) (r2 := 0) (r3 := 0) rfl rfl (by decide) rfl ?_
  refine wi_goto (nx := 19) (r1 := 2) (r2 := 0) (r3 := 0) rfl ?_
  refine wi_iload_n (i := 1) (e := 106) (nx := 3) (r1 := 0) (r2 := 0) (r3 := 0) rfl rfl ?_
  refine wi_sipush (n := 200) (nx := 6) (r1 := 0) (r2 := 0) (r3 := 0) rfl (by decide) ?_
  refine wi_icmp (cd := .ge) (nx := 9) (r1 := 19) (r2 := 0) (r3 := 0) rfl (by omega) (by omega) (fun (q319 : 200 ≤ 106) => by exfalso; omega) (fun (q319 : ¬ (200 ≤ 106)) => ?_)
  refine wi_aload_n (i := 0) (x := 239) (nx := 10) (r1 := 0) (r2 := 0) (r3 := 0) rfl rfl ?_
  refine wi_iload_n (i := 1) (e := 106) (nx := 11) (r1 := 0) (r2 := 0) (r3 := 0) rfl rfl ?_
  refine wi_iconst (n := 0) (nx := 12) (r1 := 0) (r2 := 0) (r3 := 0) rfl ?_
  refine wr_is (k0 := 239) (a := 106) (f := 106) (x := 0) (bl := 0) (bh := 0) (nx := 13) (r1 := 0) (r2 := 0) (r3 := 0) rfl (by decide) rfl (by omega) (by omega) (by decide) g317 rfl (by omega) (fun h320 g320 w320 u320 => ?_)
  have F321 := F318.then rfl u320
  refine wr_iincL (i := 1) (n := 1) (v := 106) (107) ([(1, vi 107), (0, .ref 239)]) (nx := 16) (r1 := 0) (r2 := 0) (r3 := 0) rfl rfl (by decide) rfl ?_
  refine wi_goto (nx := 19) (r1 := 2) (r2 := 0) (r3 := 0) rfl ?_
  refine wi_iload_n (i := 1) (e := 107) (nx := 3) (r1 := 0) (r2 := 0) (r3 := 0) rfl rfl ?_
  refine wi_sipush (n := 200) (nx := 6) (r1 := 0) (r2 := 0) (r3 := 0) rfl (by decide) ?_
  refine wi_icmp (cd := .ge) (nx := 9) (r1 := 19) (r2 := 0) (r3 := 0) rfl (by omega) (by omega) (fun (q322 : 200 ≤ 107) => by exfalso; omega) (fun (q322 : ¬ (200 ≤ 107)) => ?_)
  refine wi_aload_n (i := 0) (x := 239) (nx := 10) (r1 := 0) (r2 := 0) (r3 := 0) rfl rfl ?_
  refine wi_iload_n (i := 1) (e := 107) (nx := 11) (r1 := 0) (r2 := 0) (r3 := 0) rfl rfl ?_
  refine wi_iconst (n := 0) (nx := 12) (r1 := 0) (r2 := 0) (r3 := 0) rfl ?_
  refine wr_is (k0 := 239) (a := 107) (f := 107) (x := 0) (bl := 0) (bh := 11) (nx := 13) (r1 := 0) (r2 := 0) (r3 := 0) rfl (by decide) rfl (by omega) (by omega) (by decide) g320 rfl (by omega) (fun h323 g323 w323 u323 => ?_)
  have F324 := F321.then rfl u323
  refine wr_iincL (i := 1) (n := 1) (v := 107) (108) ([(1, vi 108), (0, .ref 239)]) (nx := 16) (r1 := 0) (r2 := 0) (r3 := 0) rfl rfl (by decide) rfl ?_
  refine wi_goto (nx := 19) (r1 := 2) (r2 := 0) (r3 := 0) rfl ?_
  refine wi_iload_n (i := 1) (e := 108) (nx := 3) (r1 := 0) (r2 := 0) (r3 := 0) rfl rfl ?_
  refine wi_sipush (n := 200) (nx := 6) (r1 := 0) (r2 := 0) (r3 := 0) rfl (by decide) ?_
  refine wi_icmp (cd := .ge) (nx := 9) (r1 := 19) (r2 := 0) (r3 := 0) rfl (by omega) (by omega) (fun (q325 : 200 ≤ 108) => by exfalso; omega) (fun (q325 : ¬ (200 ≤ 108)) => ?_)
  refine wi_aload_n (i := 0) (x := 239) (nx := 10) (r1 := 0) (r2 := 0) (r3 := 0) rfl rfl ?_
  refine wi_iload_n (i := 1) (e := 108) (nx := 11) (r1 := 0) (r2 := 0) (r3 := 0) rfl rfl ?_
  refine wi_iconst (n := 0) (nx := 12) (r1 := 0) (r2 := 0) (r3 := 0) rfl ?_
  refine wr_is (k0 := 239) (a := 108) (f := 108) (x := 0) (bl := 0) (bh := 11) (nx := 13) (r1 := 0) (r2 := 0) (r3 := 0) rfl (by decide) rfl (by omega) (by omega) (by decide) g323 rfl (by omega) (fun h326 g326 w326 u326 => ?_)
  have F327 := F324.then rfl u326
  refine wr_iincL (i := 1) (n := 1) (v := 108) (109) ([(1, vi 109), (0, .ref 239)]) (nx := 16) (r1 := 0) (r2 := 0) (r3 := 0) rfl rfl (by decide) rfl ?_
  refine wi_goto (nx := 19) (r1 := 2) (r2 := 0) (r3 := 0) rfl ?_
  refine wi_iload_n (i := 1) (e := 109) (nx := 3) (r1 := 0) (r2 := 0) (r3 := 0) rfl rfl ?_
  refine wi_sipush (n := 200) (nx := 6) (r1 := 0) (r2 := 0) (r3 := 0) rfl (by decide) ?_
  refine wi_icmp (cd := .ge) (nx := 9) (r1 := 19) (r2 := 0) (r3 := 0) rfl (by omega) (by omega) (fun (q328 : 200 ≤ 109) => by exfalso; omega) (fun (q328 : ¬ (200 ≤ 109)) => ?_)
  refine wi_aload_n (i := 0) (x := 239) (nx := 10) (r1 := 0) (r2 := 0) (r3 := 0) rfl rfl ?_
  refine wi_iload_n (i := 1) (e := 109) (nx := 11) (r1 := 0) (r2 := 0) (r3 := 0) rfl rfl ?_
  refine wi_iconst (n := 0) (nx := 12) (r1 := 0) (r2 := 0) (r3 := 0) rfl ?_
  refine wr_is (k0 := 239) (a := 109) (f := 109) (x := 0) (bl := 0) (bh := 11) (nx := 13) (r1 := 0) (r2 := 0) (r3 := 0) rfl (by decide) rfl (by omega) (by omega) (by decide) g326 rfl (by omega) (fun h329 g329 w329 u329 => ?_)
  have F330 := F327.then rfl u329
  refine wr_iincL (i := 1) (n := 1) (v := 109) (110) ([(1, vi 110), (0, .ref 239)]) (nx := 16) (r1 := 0) (r2 := 0) (r3 := 0) rfl rfl (by decide) rfl ?_
  refine wi_goto (nx := 19) (r1 := 2) (r2 := 0) (r3 := 0) rfl ?_
  refine wi_iload_n (i := 1) (e := 110) (nx := 3) (r1 := 0) (r2 := 0) (r3 := 0) rfl rfl ?_
  refine wi_sipush (n := 200) (nx := 6) (r1 := 0) (r2 := 0) (r3 := 0) rfl (by decide) ?_
  refine wi_icmp (cd := .ge) (nx := 9) (r1 := 19) (r2 := 0) (r3 := 0) rfl (by omega) (by omega) (fun (q331 : 200 ≤ 110) => by exfalso; omega) (fun (q331 : ¬ (200 ≤ 110)) => ?_)
  refine wi_aload_n (i := 0) (x := 239) (nx := 10) (r1 := 0) (r2 := 0) (r3 := 0) rfl rfl ?_
  refine wi_iload_n (i := 1) (e := 110) (nx := 11) (r1 := 0) (r2 := 0) (r3 := 0) rfl rfl ?_
  refine wi_iconst (n := 0) (nx := 12) (r1 := 0) (r2 := 0) (r3 := 0) rfl ?_
  refine wr_is (k0 := 239) (a := 110) (f := 110) (x := 0) (bl := 0) (bh := 11) (nx := 13) (r1 := 0) (r2 := 0) (r3 := 0) rfl (by decide) rfl (by omega) (by omega) (by decide) g329 rfl (by omega) (fun h332 g332 w332 u332 => ?_)
  have F333 := F330.then rfl u332
  refine wr_iincL (i := 1) (n := 1) (v := 110) (111) ([(1, vi 111), (0, .ref 239)]) (nx := 16) (r1 := 0) (r2 := 0) (r3 := 0) rfl rfl (by decide) rfl ?_
  refine wi_goto (nx := 19) (r1 := 2) (r2 := 0) (r3 := 0) rfl ?_
  refine wi_iload_n (i := 1) (e := 111) (nx := 3) (r1 := 0) (r2 := 0) (r3 := 0) rfl rfl ?_
  refine wi_sipush (n := 200) (nx := 6) (r1 := 0) (r2 := 0) (r3 := 0) rfl (by decide) ?_
  refine wi_icmp (cd := .ge) (nx := 9) (r1 := 19) (r2 := 0) (r3 := 0) rfl (by omega) (by omega) (fun (q334 : 200 ≤ 111) => by exfalso; omega) (fun (q334 : ¬ (200 ≤ 111)) => ?_)
  refine wi_aload_n (i := 0) (x := 239) (nx := 10) (r1 := 0) (r2 := 0) (r3 := 0) rfl rfl ?_
  refine wi_iload_n (i := 1) (e := 111) (nx := 11) (r1 := 0) (r2 := 0) (r3 := 0) rfl rfl ?_
  refine wi_iconst (n := 0) (nx := 12) (r1 := 0) (r2 := 0) (r3 := 0) rfl ?_
  refine wr_is (k0 := 239) (a := 111) (f := 111) (x := 0) (bl := 0) (bh := 11) (nx := 13) (r1 := 0) (r2 := 0) (r3 := 0) rfl (by decide) rfl (by omega) (by omega) (by decide) g332 rfl (by omega) (fun h335 g335 w335 u335 => ?_)
  have F336 := F333.then rfl u335
  refine wr_iincL (i := 1) (n := 1) (v := 111) (112) ([(1, vi 112), (0, .ref 239)]) (nx := 16) (r1 := 0) (r2 := 0) (r3 := 0) rfl rfl (by decide) rfl ?_
  refine wi_goto (nx := 19) (r1 := 2) (r2 := 0) (r3 := 0) rfl ?_
  refine wi_iload_n (i := 1) (e := 112) (nx := 3) (r1 := 0) (r2 := 0) (r3 := 0) rfl rfl ?_
  refine wi_sipush (n := 200) (nx := 6) (r1 := 0) (r2 := 0) (r3 := 0) rfl (by decide) ?_
  refine wi_icmp (cd := .ge) (nx := 9) (r1 := 19) (r2 := 0) (r3 := 0) rfl (by omega) (by omega) (fun (q337 : 200 ≤ 112) => by exfalso; omega) (fun (q337 : ¬ (200 ≤ 112)) => ?_)
  refine wi_aload_n (i := 0) (x := 239) (nx := 10) (r1 := 0) (r2 := 0) (r3 := 0) rfl rfl ?_
  refine wi_iload_n (i := 1) (e := 112) (nx := 11) (r1 := 0) (r2 := 0) (r3 := 0) rfl rfl ?_
  refine wi_iconst (n := 0) (nx := 12) (r1 := 0) (r2 := 0) (r3 := 0) rfl ?_
  refine wr_is (k0 := 239) (a := 112) (f := 112) (x := 0) (bl := 0) (bh := 11) (nx := 13) (r1 := 0) (r2 := 0) (r3 := 0) rfl (by decide) rfl (by omega) (by omega) (by decide) g335 rfl (by omega) (fun h338 g338 w338 u338 => ?_)
  have F339 := F336.then rfl u338
  refine wr_iincL (i := 1) (n := 1) (v := 112) (113) ([(1, vi 113), (0, .ref 239)]) (nx := 16) (r1 := 0) (r2 := 0) (r3 := 0) rfl rfl (by decide) rfl ?_
  refine wi_goto (nx := 19) (r1 := 2) (r2 := 0) (r3 := 0) rfl ?_
  refine wi_iload_n (i := 1) (e := 113) (nx := 3) (r1 := 0) (r2 := 0) (r3 := 0) rfl rfl ?_
  refine wi_sipush (n := 200) (nx := 6) (r1 := 0) (r2 := 0) (r3 := 0) rfl (by decide) ?_
  refine wi_icmp (cd := .ge) (nx := 9) (r1 := 19) (r2 := 0) (r3 := 0) rfl (by omega) (by omega) (fun (q340 : 200 ≤ 113) => by exfalso; omega) (fun (q340 : ¬ (200 ≤ 113)) => ?_)
  refine wi_aload_n (i := 0) (x := 239) (nx := 10) (r1 := 0) (r2 := 0) (r3 := 0) rfl rfl ?_
  refine wi_iload_n (i := 1) (e := 113) (nx := 11) (r1 := 0) (r2 := 0) (r3 := 0) rfl rfl ?_
  refine wi_iconst (n := 0) (nx := 12) (r1 := 0) (r2 := 0) (r3 := 0) rfl ?_
  refine wr_is (k0 := 239) (a := 113) (f := 113) (x := 0) (bl := 0) (bh := 11) (nx := 13) (r1 := 0) (r2 := 0) (r3 := 0) rfl (by decide) rfl (by omega) (by omega) (by decide) g338 rfl (by omega) (fun h341 g341 w341 u341 => ?_)
  have F342 := F339.then rfl u341
  refine wr_iincL (i := 1) (n := 1) (v := 113) (114) ([(1, vi 114), (0, .ref 239)]) (nx := 16) (r1 := 0) (r2 := 0) (r3 := 0) rfl rfl (by decide) rfl ?_
  refine wi_goto (nx := 19) (r1 := 2) (r2 := 0) (r3 := 0) rfl ?_
  refine wi_iload_n (i := 1) (e := 114) (nx := 3) (r1 := 0) (r2 := 0) (r3 := 0) rfl rfl ?_
  refine wi_sipush (n := 200) (nx := 6) (r1 := 0) (r2 := 0) (r3 := 0) rfl (by decide) ?_
  refine wi_icmp (cd := .ge) (nx := 9) (r1 := 19) (r2 := 0) (r3 := 0) rfl (by omega) (by omega) (fun (q343 : 200 ≤ 114) => by exfalso; omega) (fun (q343 : ¬ (200 ≤ 114)) => ?_)
  refine wi_aload_n (i := 0) (x := 239) (nx := 10) (r1 := 0) (r2 := 0) (r3 := 0) rfl rfl ?_
  refine wi_iload_n (i := 1) (e := 114) (nx := 11) (r1 := 0) (r2 := 0) (r3 := 0) rfl rfl ?_
  refine wi_iconst (n := 0) (nx := 12) (r1 := 0) (r2 := 0) (r3 := 0) rfl ?_
  refine wr_is (k0 := 239) (a := 114) (f := 114) (x := 0) (bl := 0) (bh := 11) (nx := 13) (r1 := 0) (r2 := 0) (r3 := 0) rfl (by decide) rfl (by omega) (by omega) (by decide) g341 rfl (by omega) (fun h344 g344 w344 u344 => ?_)
  have F345 := F342.then rfl u344
  refine wr_iincL (i := 1) (n := 1) (v := 114) (115) ([(1, vi 115), (0, .ref 239)]) (nx := 16) (r1 := 0) (r2 := 0) (r3 := 0) rfl rfl (by decide) rfl ?_
  refine wi_goto (nx := 19) (r1 := 2) (r2 := 0) (r3 := 0) rfl ?_
  refine wi_iload_n (i := 1) (e := 115) (nx := 3) (r1 := 0) (r2 := 0) (r3 := 0) rfl rfl ?_
  refine wi_sipush (n := 200) (nx := 6) (r1 := 0) (r2 := 0) (r3 := 0) rfl (by decide) ?_
  refine wi_icmp (cd := .ge) (nx := 9) (r1 := 19) (r2 := 0) (r3 := 0) rfl (by omega) (by omega) (fun (q346 : 200 ≤ 115) => by exfalso; omega) (fun (q346 : ¬ (200 ≤ 115)) => ?_)
  refine wi_aload_n (i := 0) (x := 239) (nx := 10) (r1 := 0) (r2 := 0) (r3 := 0) rfl rfl ?_
  refine wi_iload_n (i := 1) (e := 115) (nx := 11) (r1 := 0) (r2 := 0) (r3 := 0) rfl rfl ?_
  refine wi_iconst (n := 0) (nx := 12) (r1 := 0) (r2 := 0) (r3 := 0) rfl ?_
  refine wr_is (k0 := 239) (a := 115) (f := 115) (x := 0) (bl := 0) (bh := 11) (nx := 13) (r1 := 0) (r2 := 0) (r3 := 0) rfl (by decide) rfl (by omega) (by omega) (by decide) g344 rfl (by omega) (fun h347 g347 w347 u347 => ?_)
  have F348 := F345.then rfl u347
  refine wr_iincL (i := 1) (n := 1) (v := 115) (116) ([(1, vi 116), (0, .ref 239)]) (nx := 16) (r1 := 0) (r2 := 0) (r3 := 0) rfl rfl (by decide) rfl ?_
  refine wi_goto (nx := 19) (r1 := 2) (r2 := 0) (r3 := 0) rfl ?_
  refine wi_iload_n (i := 1) (e := 116) (nx := 3) (r1 := 0) (r2 := 0) (r3 := 0) rfl rfl ?_
  refine wi_sipush (n := 200) (nx := 6) (r1 := 0) (r2 := 0) (r3 := 0) rfl (by decide) ?_
  refine wi_icmp (cd := .ge) (nx := 9) (r1 := 19) (r2 := 0) (r3 := 0) rfl (by omega) (by omega) (fun (q349 : 200 ≤ 116) => by exfalso; omega) (fun (q349 : ¬ (200 ≤ 116)) => ?_)
  refine wi_aload_n (i := 0) (x := 239) (nx := 10) (r1 := 0) (r2 := 0) (r3 := 0) rfl rfl ?_
  refine wi_iload_n (i := 1) (e := 116) (nx := 11) (r1 := 0) (r2 := 0) (r3 := 0) rfl rfl ?_
  refine wi_iconst (n := 0) (nx := 12) (r1 := 0) (r2 := 0) (r3 := 0) rfl ?_
  refine wr_is (k0 := 239) (a := 116) (f := 116) (x := 0) (bl := 0) (bh := 11) (nx := 13) (r1 := 0) (r2 := 0) (r3 := 0) rfl (by decide) rfl (by omega) (by omega) (by decide) g347 rfl (by omega) (fun h350 g350 w350 u350 => ?_)
  have F351 := F348.then rfl u350
  refine wr_iincL (i := 1) (n := 1) (v := 116) (117) ([(1, vi 117), (0, .ref 239)]) (nx := 16) (r1 := 0) (r2 := 0) (r3 := 0) rfl rfl (by decide) rfl ?_
  refine wi_goto (nx := 19) (r1 := 2) (r2 := 0) (r3 := 0) rfl ?_
  refine wi_iload_n (i := 1) (e := 117) (nx := 3) (r1 := 0) (r2 := 0) (r3 := 0) rfl rfl ?_
  refine wi_sipush (n := 200) (nx := 6) (r1 := 0) (r2 := 0) (r3 := 0) rfl (by decide) ?_
  refine wi_icmp (cd := .ge) (nx := 9) (r1 := 19) (r2 := 0) (r3 := 0) rfl (by omega) (by omega) (fun (q352 : 200 ≤ 117) => by exfalso; omega) (fun (q352 : ¬ (200 ≤ 117)) => ?_)
  refine wi_aload_n (i := 0) (x := 239) (nx := 10) (r1 := 0) (r2 := 0) (r3 := 0) rfl rfl ?_
  refine wi_iload_n (i := 1) (e := 117) (nx := 11) (r1 := 0) (r2 := 0) (r3 := 0) rfl rfl ?_
  refine wi_iconst (n := 0) (nx := 12) (r1 := 0) (r2 := 0) (r3 := 0) rfl ?_
  refine wr_is (k0 := 239) (a := 117) (f := 117) (x := 0) (bl := 0) (bh := 11) (nx := 13) (r1 := 0) (r2 := 0) (r3 := 0) rfl (by decide) rfl (by omega) (by omega) (by decide) g350 rfl (by omega) (fun h353 g353 w353 u353 => ?_)
  have F354 := F351.then rfl u353
  refine wr_iincL (i := 1) (n := 1) (v := 117) (118) ([(1, vi 118), (0, .ref 239)]) (nx := 16) (r1 := 0) (r2 := 0) (r3 := 0) rfl rfl (by decide) rfl ?_
  refine wi_goto (nx := 19) (r1 := 2) (r2 := 0) (r3 := 0) rfl ?_
  refine wi_iload_n (i := 1) (e := 118) (nx := 3) (r1 := 0) (r2 := 0) (r3 := 0) rfl rfl ?_
  refine wi_sipush (n := 200) (nx := 6) (r1 := 0) (r2 := 0) (r3 := 0) rfl (by decide) ?_
  refine wi_icmp (cd := .ge) (nx := 9) (r1 := 19) (r2 := 0) (r3 := 0) rfl (by omega) (by omega) (fun (q355 : 200 ≤ 118) => by exfalso; omega) (fun (q355 : ¬ (200 ≤ 118)) => ?_)
  refine wi_aload_n (i := 0) (x := 239) (nx := 10) (r1 := 0) (r2 := 0) (r3 := 0) rfl rfl ?_
  refine wi_iload_n (i := 1) (e := 118) (nx := 11) (r1 := 0) (r2 := 0) (r3 := 0) rfl rfl ?_
  refine wi_iconst (n := 0) (nx := 12) (r1 := 0) (r2 := 0) (r3 := 0) rfl ?_
  refine wr_is (k0 := 239) (a := 118) (f := 118) (x := 0) (bl := 0) (bh := 11) (nx := 13) (r1 := 0) (r2 := 0) (r3 := 0) rfl (by decide) rfl (by omega) (by omega) (by decide) g353 rfl (by omega) (fun h356 g356 w356 u356 => ?_)
  have F357 := F354.then rfl u356
  refine wr_iincL (i := 1) (n := 1) (v := 118) (119) ([(1, vi 119), (0, .ref 239)]) (nx := 16) (r1 := 0) (r2 := 0) (r3 := 0) rfl rfl (by decide) rfl ?_
  refine wi_goto (nx := 19) (r1 := 2) (r2 := 0) (r3 := 0) rfl ?_
  refine wi_iload_n (i := 1) (e := 119) (nx := 3) (r1 := 0) (r2 := 0) (r3 := 0) rfl rfl ?_
  refine wi_sipush (n := 200) (nx := 6) (r1 := 0) (r2 := 0) (r3 := 0) rfl (by decide) ?_
  refine wi_icmp (cd := .ge) (nx := 9) (r1 := 19) (r2 := 0) (r3 := 0) rfl (by omega) (by omega) (fun (q358 : 200 ≤ 119) => by exfalso; omega) (fun (q358 : ¬ (200 ≤ 119)) => ?_)
  refine wi_aload_n (i := 0) (x := 239) (nx := 10) (r1 := 0) (r2 := 0) (r3 := 0) rfl rfl ?_
  refine wi_iload_n (i := 1) (e := 119) (nx := 11) (r1 := 0) (r2 := 0) (r3 := 0) rfl rfl ?_
  refine wi_iconst (n := 0) (nx := 12) (r1 := 0) (r2 := 0) (r3 := 0) rfl ?_
  refine wr_is (k0 := 239) (a := 119) (f := 119) (x := 0) (bl := 0) (bh := 0) (nx := 13) (r1 := 0) (r2 := 0) (r3 := 0) rfl (by decide) rfl (by omega) (by omega) (by decide) g356 rfl (by omega) (fun h359 g359 w359 u359 => ?_)
  have F360 := F357.then rfl u359
  refine wr_iincL (i := 1) (n := 1) (v := 119) (120) ([(1, vi 120), (0, .ref 239)]) (nx := 16) (r1 := 0) (r2 := 0) (r3 := 0) rfl rfl (by decide) rfl ?_
  refine wi_goto (nx := 19) (r1 := 2) (r2 := 0) (r3 := 0) rfl ?_
  refine wi_iload_n (i := 1) (e := 120) (nx := 3) (r1 := 0) (r2 := 0) (r3 := 0) rfl rfl ?_
  refine wi_sipush (n := 200) (nx := 6) (r1 := 0) (r2 := 0) (r3 := 0) rfl (by decide) ?_
  refine wi_icmp (cd := .ge) (nx := 9) (r1 := 19) (r2 := 0) (r3 := 0) rfl (by omega) (by omega) (fun (q361 : 200 ≤ 120) => by exfalso; omega) (fun (q361 : ¬ (200 ≤ 120)) => ?_)
  refine wi_aload_n (i := 0) (x := 239) (nx := 10) (r1 := 0) (r2 := 0) (r3 := 0) rfl rfl ?_
  refine wi_iload_n (i := 1) (e := 120) (nx := 11) (r1 := 0) (r2 := 0) (r3 := 0) rfl rfl ?_
  refine wi_iconst (n := 0) (nx := 12) (r1 := 0) (r2 := 0) (r3 := 0) rfl ?_
  refine wr_is (k0 := 239) (a := 120) (f := 120) (x := 0) (bl := -2147483648) (bh := 2147483647) (nx := 13) (r1 := 0) (r2 := 0) (r3 := 0) rfl (by decide) rfl (by omega) (by omega) (by decide) g359 rfl (by omega) (fun h362 g362 w362 u362 => ?_)
  have F363 := F360.then rfl u362
  refine wr_iincL (i := 1) (n := 1) (v := 120) (121) ([(1, vi 121), (0, .ref 239)]) (nx := 16) (r1 := 0) (r2 := 0) (r3 := 0) rfl rfl (by decide) rfl ?_
  refine wi_goto (nx := 19) (r1 := 2) (r2 := 0) (r3 := 0) rfl ?_
  refine wi_iload_n (i := 1) (e := 121) (nx := 3) (r1 := 0) (r2 := 0) (r3 := 0) rfl rfl ?_
  refine wi_sipush (n := 200) (nx := 6) (r1 := 0) (r2 := 0) (r3 := 0) rfl (by decide) ?_
  refine wi_icmp (cd := .ge) (nx := 9) (r1 := 19) (r2 := 0) (r3 := 0) rfl (by omega) (by omega) (fun (q364 : 200 ≤ 121) => by exfalso; omega) (fun (q364 : ¬ (200 ≤ 121)) => ?_)
  refine wi_aload_n (i := 0) (x := 239) (nx := 10) (r1 := 0) (r2 := 0) (r3 := 0) rfl rfl ?_
  refine wi_iload_n (i := 1) (e := 121) (nx := 11) (r1 := 0) (r2 := 0) (r3 := 0) rfl rfl ?_
  refine wi_iconst (n := 0) (nx := 12) (r1 := 0) (r2 := 0) (r3 := 0) rfl ?_
  refine wr_is (k0 := 239) (a := 121) (f := 121) (x := 0) (bl := -2147483648) (bh := 2147483647) (nx := 13) (r1 := 0) (r2 := 0) (r3 := 0) rfl (by decide) rfl (by omega) (by omega) (by decide) g362 rfl (by omega) (fun h365 g365 w365 u365 => ?_)
  have F366 := F363.then rfl u365
  refine wr_iincL (i := 1) (n := 1) (v := 121) (122) ([(1, vi 122), (0, .ref 239)]) (nx := 16) (r1 := 0) (r2 := 0) (r3 := 0) rfl rfl (by decide) rfl ?_
  refine wi_goto (nx := 19) (r1 := 2) (r2 := 0) (r3 := 0) rfl ?_
  refine wi_iload_n (i := 1) (e := 122) (nx := 3) (r1 := 0) (r2 := 0) (r3 := 0) rfl rfl ?_
  refine wi_sipush (n := 200) (nx := 6) (r1 := 0) (r2 := 0) (r3 := 0) rfl (by decide) ?_
  refine wi_icmp (cd := .ge) (nx := 9) (r1 := 19) (r2 := 0) (r3 := 0) rfl (by omega) (by omega) (fun (q367 : 200 ≤ 122) => by exfalso; omega) (fun (q367 : ¬ (200 ≤ 122)) => ?_)
  refine wi_aload_n (i := 0) (x := 239) (nx := 10) (r1 := 0) (r2 := 0) (r3 := 0) rfl rfl ?_
  refine wi_iload_n (i := 1) (e := 122) (nx := 11) (r1 := 0) (r2 := 0) (r3 := 0) rfl rfl ?_
  refine wi_iconst (n := 0) (nx := 12) (r1 := 0) (r2 := 0) (r3 := 0) rfl ?_
  refine wr_is (k0 := 239) (a := 122) (f := 122) (x := 0) (bl := -2147483648) (bh := 2147483647) (nx := 13) (r1 := 0) (r2 := 0) (r3 := 0) rfl (by decide) rfl (by omega) (by omega) (by decide) g365 rfl (by omega) (fun h368 g368 w368 u368 => ?_)
  have F369 := F366.then rfl u368
  refine wr_iincL (i := 1) (n := 1) (v := 122) (123) ([(1, vi 123), (0, .ref 239)]) (nx := 16) (r1 := 0) (r2 := 0) (r3 := 0) rfl rfl (by decide) rfl ?_
  refine wi_goto (nx := 19) (r1 := 2) (r2 := 0) (r3 := 0) rfl ?_
  refine wi_iload_n (i := 1) (e := 123) (nx := 3) (r1 := 0) (r2 := 0) (r3 := 0) rfl rfl ?_
  refine wi_sipush (n := 200) (nx := 6) (r1 := 0) (r2 := 0) (r3 := 0) rfl (by decide) ?_
  refine wi_icmp (cd := .ge) (nx := 9) (r1 := 19) (r2 := 0) (r3 := 0) rfl (by omega) (by omega) (fun (q370 : 200 ≤ 123) => by exfalso; omega) (fun (q370 : ¬ (200 ≤ 123)) => ?_)
  refine wi_aload_n (i := 0) (x := 239) (nx := 10) (r1 := 0) (r2 := 0) (r3 := 0) rfl rfl ?_
  refine wi_iload_n (i := 1) (e := 123) (nx := 11) (r1 := 0) (r2 := 0) (r3 := 0) rfl rfl ?_
  refine wi_iconst (n := 0) (nx := 12) (r1 := 0) (r2 := 0) (r3 := 0) rfl ?_
  refine wr_is (k0 := 239) (a := 123) (f := 123) (x := 0) (bl := -2147483648) (bh := 2147483647) (nx := 13) (r1 := 0) (r2 := 0) (r3 := 0) rfl (by decide) rfl (by omega) (by omega) (by decide) g368 rfl (by omega) (fun h371 g371 w371 u371 => ?_)
  have F372 := F369.then rfl u371
  refine wr_iincL (i := 1) (n := 1) (v := 123) (124) ([(1, vi 124), (0, .ref 239)]) (nx := 16) (r1 := 0) (r2 := 0) (r3 := 0) rfl rfl (by decide) rfl ?_
  refine wi_goto (nx := 19) (r1 := 2) (r2 := 0) (r3 := 0) rfl ?_
  refine wi_iload_n (i := 1) (e := 124) (nx := 3) (r1 := 0) (r2 := 0) (r3 := 0) rfl rfl ?_
  refine wi_sipush (n := 200) (nx := 6) (r1 := 0) (r2 := 0) (r3 := 0) rfl (by decide) ?_
  refine wi_icmp (cd := .ge) (nx := 9) (r1 := 19) (r2 := 0) (r3 := 0) rfl (by omega) (by omega) (fun (q373 : 200 ≤ 124) => by exfalso; omega) (fun (q373 : ¬ (200 ≤ 124)) => ?_)
  refine wi_aload_n (i := 0) (x := 239) (nx := 10) (r1 := 0) (r2 := 0) (r3 := 0) rfl rfl ?_
  refine wi_iload_n (i := 1) (e := 124) (nx := 11) (r1 := 0) (r2 := 0) (r3 := 0) rfl rfl ?_
  refine wi_iconst (n := 0) (nx := 12) (r1 := 0) (r2 := 0) (r3 := 0) rfl ?_
  refine wr_is (k0 := 239) (a := 124) (f := 124) (x := 0) (bl := -2147483648) (bh := 2147483647) (nx := 13) (r1 := 0) (r2 := 0) (r3 := 0) rfl (by decide) rfl (by omega) (by omega) (by decide) g371 rfl (by omega) (fun h374 g374 w374 u374 => ?_)
  have F375 := F372.then rfl u374
  refine wr_iincL (i := 1) (n := 1) (v := 124) (125) ([(1, vi 125), (0, .ref 239)]) (nx := 16) (r1 := 0) (r2 := 0) (r3 := 0) rfl rfl (by decide) rfl ?_
  refine wi_goto (nx := 19) (r1 := 2) (r2 := 0) (r3 := 0) rfl ?_
  refine wi_iload_n (i := 1) (e := 125) (nx := 3) (r1 := 0) (r2 := 0) (r3 := 0) rfl rfl ?_
  refine wi_sipush (n := 200) (nx := 6) (r1 := 0) (r2 := 0) (r3 := 0) rfl (by decide) ?_
  refine wi_icmp (cd := .ge) (nx := 9) (r1 := 19) (r2 := 0) (r3 := 0) rfl (by omega) (by omega) (fun (q376 : 200 ≤ 125) => by exfalso; omega) (fun (q376 : ¬ (200 ≤ 125)) => ?_)
  refine wi_aload_n (i := 0) (x := 239) (nx := 10) (r1 := 0) (r2 := 0) (r3 := 0) rfl rfl ?_
  refine wi_iload_n (i := 1) (e := 125) (nx := 11) (r1 := 0) (r2 := 0) (r3 := 0) rfl rfl ?_
  refine wi_iconst (n := 0) (nx := 12) (r1 := 0) (r2 := 0) (r3 := 0) rfl ?_
  refine wr_is (k0 := 239) (a := 125) (f := 125) (x := 0) (bl := -2147483648) (bh := 2147483647) (nx := 13) (r1 := 0) (r2 := 0) (r3 := 0) rfl (by decide) rfl (by omega) (by omega) (by decide) g374 rfl (by omega) (fun h377 g377 w377 u377 => ?_)
  have F378 := F375.then rfl u377
  refine wr_iincL (i := 1) (n := 1) (v := 125) (126) ([(1, vi 126), (0, .ref 239)]) (nx := 16) (r1 := 0) (r2 := 0) (r3 := 0) rfl rfl (by decide) rfl ?_
  refine wi_goto (nx := 19) (r1 := 2) (r2 := 0) (r3 := 0) rfl ?_
  refine wi_iload_n (i := 1) (e := 126) (nx := 3) (r1 := 0) (r2 := 0) (r3 := 0) rfl rfl ?_
  refine wi_sipush (n := 200) (nx := 6) (r1 := 0) (r2 := 0) (r3 := 0) rfl (by decide) ?_
  refine wi_icmp (cd := .ge) (nx := 9) (r1 := 19) (r2 := 0) (r3 := 0) rfl (by omega) (by omega) (fun (q379 : 200 ≤ 126) => by exfalso; omega) (fun (q379 : ¬ (200 ≤ 126)) => ?_)
  refine wi_aload_n (i := 0) (x := 239) (nx := 10) (r1 := 0) (r2 := 0) (r3 := 0) rfl rfl ?_
  refine wi_iload_n (i := 1) (e := 126) (nx := 11) (r1 := 0) (r2 := 0) (r3 := 0) rfl rfl ?_
  refine wi_iconst (n := 0) (nx := 12) (r1 := 0) (r2 := 0) (r3 := 0) rfl ?_
  refine wr_is (k0 := 239) (a := 126) (f := 126) (x := 0) (bl := -2147483648) (bh := 2147483647) (nx := 13) (r1 := 0) (r2 := 0) (r3 := 0) rfl (by decide) rfl (by omega) (by omega) (by decide) g377 rfl (by omega) (fun h380 g380 w380 u380 => ?_)
  have F381 := F378.then rfl u380
  refine wr_iincL (i := 1) (n := 1) (v := 126) (127) ([(1, vi 127), (0, .ref 239)]) (nx := 16) (r1 := 0) (r2 := 0) (r3 := 0) rfl rfl (by decide) rfl ?_
  refine wi_goto (nx := 19) (r1 := 2) (r2 := 0) (r3 := 0) rfl ?_
  refine wi_iload_n (i := 1) (e := 127) (nx := 3) (r1 := 0) (r2 := 0) (r3 := 0) rfl rfl ?_
  refine wi_sipush (n := 200) (nx := 6) (r1 := 0) (r2 := 0) (r3 := 0) rfl (by decide) ?_
  refine wi_icmp (cd := .ge) (nx := 9) (r1 := 19) (r2 := 0) (r3 := 0) rfl (by omega) (by omega) (fun (q382 : 200 ≤ 127) => by exfalso; omega) (fun (q382 : ¬ (200 ≤ 127)) => ?_)
  refine wi_aload_n (i := 0) (x := 239) (nx := 10) (r1 := 0) (r2 := 0) (r3 := 0) rfl rfl ?_
  refine wi_iload_n (i := 1) (e := 127) (nx := 11) (r1 := 0) (r2 := 0) (r3 := 0) rfl rfl ?_
  refine wi_iconst (n := 0) (nx := 12) (r1 := 0) (r2 := 0) (r3 := 0) rfl ?_
  refine wr_is (k0 := 239) (a := 127) (f := 127) (x := 0) (bl := -2147483648) (bh := 2147483647) (nx := 13) (r1 := 0) (r2 := 0) (r3 := 0) rfl (by decide) rfl (by omega) (by omega) (by decide) g380 rfl (by omega) (fun h383 g383 w383 u383 => ?_)
  have F384 := F381.then rfl u383
  refine wr_iincL (i := 1) (n := 1) (v := 127) (128) ([(1, vi 128), (0, .ref 239)]) (nx := 16) (r1 := 0) (r2 := 0) (r3 := 0) rfl rfl (by decide) rfl ?_
  refine wi_goto (nx := 19) (r1 := 2) (r2 := 0) (r3 := 0) rfl ?_
  refine wi_iload_n (i := 1) (e := 128) (nx := 3) (r1 := 0) (r2 := 0) (r3 := 0) rfl rfl ?_
  refine wi_sipush (n := 200) (nx := 6) (r1 := 0) (r2 := 0) (r3 := 0) rfl (by decide) ?_
  refine wi_icmp (cd := .ge) (nx := 9) (r1 := 19) (r2 := 0) (r3 := 0) rfl (by omega) (by omega) (fun (q385 : 200 ≤ 128) => by exfalso; omega) (fun (q385 : ¬ (200 ≤ 128)) => ?_)
  refine wi_aload_n (i := 0) (x := 239) (nx := 10) (r1 := 0) (r2 := 0) (r3 := 0) rfl rfl ?_
  refine wi_iload_n (i := 1) (e := 128) (nx := 11) (r1 := 0) (r2 := 0) (r3 := 0) rfl rfl ?_
  refine wi_iconst (n := 0) (nx := 12) (r1 := 0) (r2 := 0) (r3 := 0) rfl ?_
  refine wr_is (k0 := 239) (a := 128) (f := 128) (x := 0) (bl := -2147483648) (bh := 2147483647) (nx := 13) (r1 := 0) (r2 := 0) (r3 := 0) rfl (by decide) rfl (by omega) (by omega) (by decide) g383 rfl (by omega) (fun h386 g386 w386 u386 => ?_)
  have F387 := F384.then rfl u386
  refine wr_iincL (i := 1) (n := 1) (v := 128) (129) ([(1, vi 129), (0, .ref 239)]) (nx := 16) (r1 := 0) (r2 := 0) (r3 := 0) rfl rfl (by decide) rfl ?_
  refine wi_goto (nx := 19) (r1 := 2) (r2 := 0) (r3 := 0) rfl ?_
  refine wi_iload_n (i := 1) (e := 129) (nx := 3) (r1 := 0) (r2 := 0) (r3 := 0) rfl rfl ?_
  refine wi_sipush (n := 200) (nx := 6) (r1 := 0) (r2 := 0) (r3 := 0) rfl (by decide) ?_
  refine wi_icmp (cd := .ge) (nx := 9) (r1 := 19) (r2 := 0) (r3 := 0) rfl (by omega) (by omega) (fun (q388 : 200 ≤ 129) => by exfalso; omega) (fun (q388 : ¬ (200 ≤ 129)) => ?_)
  refine wi_aload_n (i := 0) (x := 239) (nx := 10) (r1 := 0) (r2 := 0) (r3 := 0) rfl rfl ?_
  refine wi_iload_n (i := 1) (e := 129) (nx := 11) (r1 := 0) (r2 := 0) (r3 := 0) rfl rfl ?_
  refine wi_iconst (n := 0) (nx := 12) (r1 := 0) (r2 := 0) (r3 := 0) rfl ?_
  refine wr_is (k0 := 239) (a := 129) (f := 129) (x := 0) (bl := -2147483648) (bh := 2147483647) (nx := 13) (r1 := 0) (r2 := 0) (r3 := 0) rfl (by decide) rfl (by omega) (by omega) (by decide) g386 rfl (by omega) (fun h389 g389 w389 u389 => ?_)
  have F390 := F387.then rfl u389
  refine wr_iincL (i := 1) (n := 1) (v := 129) (130) ([(1, vi 130), (0, .ref 239)]) (nx := 16) (r1 := 0) (r2 := 0) (r3 := 0) rfl rfl (by decide) rfl ?_
  refine wi_goto (nx := 19) (r1 := 2) (r2 := 0) (r3 := 0) rfl ?_
  refine wi_iload_n (i := 1) (e := 130) (nx := 3) (r1 := 0) (r2 := 0) (r3 := 0) rfl rfl ?_
  refine wi_sipush (n := 200) (nx := 6) (r1 := 0) (r2 := 0) (r3 := 0) rfl (by decide) ?_
  refine wi_icmp (cd := .ge) (nx := 9) (r1 := 19) (r2 := 0) (r3 := 0) rfl (by omega) (by omega) (fun (q391 : 200 ≤ 130) => by exfalso; omega) (fun (q391 : ¬ (200 ≤ 130)) => ?_)
  refine wi_aload_n (i := 0) (x := 239) (nx := 10) (r1 := 0) (r2 := 0) (r3 := 0) rfl rfl ?_
  refine wi_iload_n (i := 1) (e := 130) (nx := 11) (r1 := 0) (r2 := 0) (r3 := 0) rfl rfl ?_
  refine wi_iconst (n := 0) (nx := 12) (r1 := 0) (r2 := 0) (r3 := 0) rfl ?_
  refine wr_is (k0 := 239) (a := 130) (f := 130) (x := 0) (bl := -2147483648) (bh := 2147483647) (nx := 13) (r1 := 0) (r2 := 0) (r3 := 0) rfl (by decide) rfl (by omega) (by omega) (by decide) g389 rfl (by omega) (fun h392 g392 w392 u392 => ?_)
  have F393 := F390.then rfl u392
  refine wr_iincL (i := 1) (n := 1) (v := 130) (131) ([(1, vi 131), (0, .ref 239)]) (nx := 16) (r1 := 0) (r2 := 0) (r3 := 0) rfl rfl (by decide) rfl ?_
  refine wi_goto (nx := 19) (r1 := 2) (r2 := 0) (r3 := 0) rfl ?_
  refine wi_iload_n (i := 1) (e := 131) (nx := 3) (r1 := 0) (r2 := 0) (r3 := 0) rfl rfl ?_
  refine wi_sipush (n := 200) (nx := 6) (r1 := 0) (r2 := 0) (r3 := 0) rfl (by decide) ?_
  refine wi_icmp (cd := .ge) (nx := 9) (r1 := 19) (r2 := 0) (r3 := 0) rfl (by omega) (by omega) (fun (q394 : 200 ≤ 131) => by exfalso; omega) (fun (q394 : ¬ (200 ≤ 131)) => ?_)
  refine wi_aload_n (i := 0) (x := 239) (nx := 10) (r1 := 0) (r2 := 0) (r3 := 0) rfl rfl ?_
  refine wi_iload_n (i := 1) (e := 131) (nx := 11) (r1 := 0) (r2 := 0) (r3 := 0) rfl rfl ?_
  refine wi_iconst (n := 0) (nx := 12) (r1 := 0) (r2 := 0) (r3 := 0) rfl ?_
  refine wr_is (k0 := 239) (a := 131) (f := 131) (x := 0) (bl := -2147483648) (bh := 2147483647) (nx := 13) (r1 := 0) (r2 := 0) (r3 := 0) rfl (by decide) rfl (by omega) (by omega) (by decide) g392 rfl (by omega) (fun h395 g395 w395 u395 => ?_)
  have F396 := F393.then rfl u395
  refine wr_iincL (i := 1) (n := 1) (v := 131) (132) ([(1, vi 132), (0, .ref 239)]) (nx := 16) (r1 := 0) (r2 := 0) (r3 := 0) rfl rfl (by decide) rfl ?_
  refine wi_goto (nx := 19) (r1 := 2) (r2 := 0) (r3 := 0) rfl ?_
  refine wi_iload_n (i := 1) (e := 132) (nx := 3) (r1 := 0) (r2 := 0) (r3 := 0) rfl rfl ?_
  refine wi_sipush (n := 200) (nx := 6) (r1 := 0) (r2 := 0) (r3 := 0) rfl (by decide) ?_
  refine wi_icmp (cd := .ge) (nx := 9) (r1 := 19) (r2 := 0) (r3 := 0) rfl (by omega) (by omega) (fun (q397 : 200 ≤ 132) => by exfalso; omega) (fun (q397 : ¬ (200 ≤ 132)) => ?_)
  refine wi_aload_n (i := 0) (x := 239) (nx := 10) (r1 := 0) (r2 := 0) (r3 := 0) rfl rfl ?_
  refine wi_iload_n (i := 1) (e := 132) (nx := 11) (r1 := 0) (r2 := 0) (r3 := 0) rfl rfl ?_
  refine wi_iconst (n := 0) (nx := 12) (r1 := 0) (r2 := 0) (r3 := 0) rfl ?_
  refine wr_is (k0 := 239) (a := 132) (f := 132) (x := 0) (bl := -2147483648) (bh := 2147483647) (nx := 13) (r1 := 0) (r2 := 0) (r3 := 0) rfl (by decide) rfl (by omega) (by omega) (by decide) g395 rfl (by omega) (fun h398 g398 w398 u398 => ?_)
  have F399 := F396.then rfl u398
  refine wr_iincL (i := 1) (n := 1) (v := 132) (133) ([(1, vi 133), (0, .ref 239)]) (nx := 16) (r1 := 0) (r2 := 0) (r3 := 0) rfl rfl (by decide) rfl ?_
  refine wi_goto (nx := 19) (r1 := 2) (r2 := 0) (r3 := 0) rfl ?_
  refine wi_iload_n (i := 1) (e := 133) (nx := 3) (r1 := 0) (r2 := 0) (r3 := 0) rfl rfl ?_
  refine wi_sipush (n := 200) (nx := 6) (r1 := 0) (r2 := 0) (r3 := 0) rfl (by decide) ?_
  refine wi_icmp (cd := .ge) (nx := 9) (r1 := 19) (r2 := 0) (r3 := 0) rfl (by omega) (by omega) (fun (q400 : 200 ≤ 133) => by exfalso; omega) (fun (q400 : ¬ (200 ≤ 133)) => ?_)
  refine wi_aload_n (i := 0) (x := 239) (nx := 10) (r1 := 0) (r2 := 0) (r3 := 0) rfl rfl ?_
  refine wi_iload_n (i := 1) (e := 133) (nx := 11) (r1 := 0) (r2 := 0) (r3 := 0) rfl rfl ?_
  refine wi_iconst (n := 0) (nx := 12) (r1 := 0) (r2 := 0) (r3 := 0) rfl ?_
  refine wr_is (k0 := 239) (a := 133) (f := 133) (x := 0) (bl := -2147483648) (bh := 2147483647) (nx := 13) (r1 := 0) (r2 := 0) (r3 := 0) rfl (by decide) rfl (by omega) (by omega) (by decide) g398 rfl (by omega) (fun h401 g401 w401 u401 => ?_)
  have F402 := F399.then rfl u401
  refine wr_iincL (i := 1) (n := 1) (v := 133) (134) ([(1, vi 134), (0, .ref 239)]) (nx := 16) (r1 := 0) (r2 := 0) (r3 := 0) rfl rfl (by decide) rfl ?_
  refine wi_goto (nx := 19) (r1 := 2) (r2 := 0) (r3 := 0) rfl ?_
  refine wi_iload_n (i := 1) (e := 134) (nx := 3) (r1 := 0) (r2 := 0) (r3 := 0) rfl rfl ?_
  refine wi_sipush (n := 200) (nx := 6) (r1 := 0) (r2 := 0) (r3 := 0) rfl (by decide) ?_
  refine wi_icmp (cd := .ge) (nx := 9) (r1 := 19) (r2 := 0) (r3 := 0) rfl (by omega) (by omega) (fun (q403 : 200 ≤ 134) => by exfalso; omega) (fun (q403 : ¬ (200 ≤ 134)) => ?_)
  refine wi_aload_n (i := 0) (x := 239) (nx := 10) (r1 := 0) (r2 := 0) (r3 := 0) rfl rfl ?_
  refine wi_iload_n (i := 1) (e := 134) (nx := 11) (r1 := 0) (r2 := 0) (r3 := 0) rfl rfl ?_
  refine wi_iconst (n := 0) (nx := 12) (r1 := 0) (r2 := 0) (r3 := 0) rfl ?_
  refine wr_is (k0 := 239) (a := 134) (f := 134) (x := 0) (bl := -2147483648) (bh := 2147483647) (nx := 13) (r1 := 0) (r2 := 0) (r3 := 0) rfl (by decide) rfl (by omega) (by omega) (by decide) g401 rfl (by omega) (fun h404 g404 w404 u404 => ?_)
  have F405 := F402.then rfl u404
  refine wr_iincL (i := 1) (n := 1) (v := 134) (135) ([(1, vi 135), (0, .ref 239)]) (nx := 16) (r1 := 0) (r2 := 0) (r3 := 0) rfl rfl (by decide) rfl ?_
  refine wi_goto (nx := 19) (r1 := 2) (r2 := 0) (r3 := 0) rfl ?_
  refine wi_iload_n (i := 1) (e := 135) (nx := 3) (r1 := 0) (r2 := 0) (r3 := 0) rfl rfl ?_
  refine wi_sipush (n := 200) (nx := 6) (r1 := 0) (r2 := 0) (r3 := 0) rfl (by decide) ?_
  refine wi_icmp (cd := .ge) (nx := 9) (r1 := 19) (r2 := 0) (r3 := 0) rfl (by omega) (by omega) (fun (q406 : 200 ≤ 135) => by exfalso; omega) (fun (q406 : ¬ (200 ≤ 135)) => ?_)
  refine wi_aload_n (i := 0) (x := 239) (nx := 10) (r1 := 0) (r2 := 0) (r3 := 0) rfl rfl ?_
  refine wi_iload_n (i := 1) (e := 135) (nx := 11) (r1 := 0) (r2 := 0) (r3 := 0) rfl rfl ?_
  refine wi_iconst (n := 0) (nx := 12) (r1 := 0) (r2 := 0) (r3 := 0) rfl ?_
  refine wr_is (k0 := 239) (a := 135) (f := 135) (x := 0) (bl := -2147483648) (bh := 2147483647) (nx := 13) (r1 := 0) (r2 := 0) (r3 := 0) rfl (by decide) rfl (by omega) (by omega) (by decide) g404 rfl (by omega) (fun h407 g407 w407 u407 => ?_)
  have F408 := F405.then rfl u407
  refine wr_iincL (i := 1) (n := 1) (v := 135) (136) ([(1, vi 136), (0, .ref 239)]) (nx := 16) (r1 := 0) (r2 := 0) (r3 := 0) rfl rfl (by decide) rfl ?_
  refine wi_goto (nx := 19) (r1 := 2) (r2 := 0) (r3 := 0) rfl ?_
  refine wi_iload_n (i := 1) (e := 136) (nx := 3) (r1 := 0) (r2 := 0) (r3 := 0) rfl rfl ?_
  refine wi_sipush (n := 200) (nx := 6) (r1 := 0) (r2 := 0) (r3 := 0) rfl (by decide) ?_
  refine wi_icmp (cd := .ge) (nx := 9) (r1 := 19) (r2 := 0) (r3 := 0) rfl (by omega) (by omega) (fun (q409 : 200 ≤ 136) => by exfalso; omega) (fun (q409 : ¬ (200 ≤ 136)) => ?_)
  refine wi_aload_n (i := 0) (x := 239) (nx := 10) (r1 := 0) (r2 := 0) (r3 := 0) rfl rfl ?_
  refine wi_iload_n (i := 1) (e := 136) (nx := 11) (r1 := 0) (r2 := 0) (r3 := 0) rfl rfl ?_
  refine wi_iconst (n := 0) (nx := 12) (r1 := 0) (r2 := 0) (r3 := 0) rfl ?_
  refine wr_is (k0 := 239) (a := 136) (f := 136) (x := 0) (bl := -2147483648) (bh := 2147483647) (nx := 13) (r1 := 0) (r2 := 0) (r3 := 0) rfl (by decide) rfl (by omega) (by omega) (by decide) g407 rfl (by omega) (fun h410 g410 w410 u410 => ?_)
  have F411 := F408.then rfl u410
  refine wr_iincL (i := 1) (n := 1) (v := 136) (137) ([(1, vi 137), (0, .ref 239)]) (nx := 16) (r1 := 0) (r2 := 0) (r3 := 0) rfl rfl (by decide) rfl ?_
  refine wi_goto (nx := 19) (r1 := 2) (r2 := 0) (r3 := 0) rfl ?_
  refine wi_iload_n (i := 1) (e := 137) (nx := 3) (r1 := 0) (r2 := 0) (r3 := 0) rfl rfl ?_
  refine wi_sipush (n := 200) (nx := 6) (r1 := 0) (r2 := 0) (r3 := 0) rfl (by decide) ?_
  refine wi_icmp (cd := .ge) (nx := 9) (r1 := 19) (r2 := 0) (r3 := 0) rfl (by omega) (by omega) (fun (q412 : 200 ≤ 137) => by exfalso; omega) (fun (q412 : ¬ (200 ≤ 137)) => ?_)
  refine wi_aload_n (i := 0) (x := 239) (nx := 10) (r1 := 0) (r2 := 0) (r3 := 0) rfl rfl ?_
  refine wi_iload_n (i := 1) (e := 137) (nx := 11) (r1 := 0) (r2 := 0) (r3 := 0) rfl rfl ?_
  refine wi_iconst (n := 0) (nx := 12) (r1 := 0) (r2 := 0) (r3 := 0) rfl ?_
  refine wr_is (k0 := 239) (a := 137) (f := 137) (x := 0) (bl := -2147483648) (bh := 2147483647) (nx := 13) (r1 := 0) (r2 := 0) (r3 := 0) rfl (by decide) rfl (by omega) (by omega) (by decide) g410 rfl (by omega) (fun h413 g413 w413 u413 => ?_)
  have F414 := F411.then rfl u413
  refine wr_iincL (i := 1) (n := 1) (v := 137) (138) ([(1, vi 138), (0, .ref 239)]) (nx := 16) (r1 := 0) (r2 := 0) (r3 := 0) rfl rfl (by decide) rfl ?_
  refine wi_goto (nx := 19) (r1 := 2) (r2 := 0) (r3 := 0) rfl ?_
  refine wi_iload_n (i := 1) (e := 138) (nx := 3) (r1 := 0) (r2 := 0) (r3 := 0) rfl rfl ?_
  refine wi_sipush (n := 200) (nx := 6) (r1 := 0) (r2 := 0) (r3 := 0) rfl (by decide) ?_
  refine wi_icmp (cd := .ge) (nx := 9) (r1 := 19) (r2 := 0) (r3 := 0) rfl (by omega) (by omega) (fun (q415 : 200 ≤ 138) => by exfalso; omega) (fun (q415 : ¬ (200 ≤ 138)) => ?_)
  refine wi_aload_n (i := 0) (x := 239) (nx := 10) (r1 := 0) (r2 := 0) (r3 := 0) rfl rfl ?_
  refine wi_iload_n (i := 1) (e := 138) (nx := 11) (r1 := 0) (r2 := 0) (r3 := 0) rfl rfl ?_
  refine wi_iconst (n := 0) (nx := 12) (r1 := 0) (r2 := 0) (r3 := 0) rfl ?_
  refine wr_is (k0 := 239) (a := 138) (f := 138) (x := 0) (bl := -2147483648) (bh := 2147483647) (nx := 13) (r1 := 0) (r2 := 0) (r3 := 0) rfl (by decide) rfl (by omega) (by omega) (by decide) g413 rfl (by omega) (fun h416 g416 w416 u416 => ?_)
  have F417 := F414.then rfl u416
  refine wr_iincL (i := 1) (n := 1) (v := 138) (139) ([(1, vi 139), (0, .ref 239)]) (nx := 16) (r1 := 0) (r2 := 0) (r3 := 0) rfl rfl (by decide) rfl ?_
  refine wi_goto (nx := 19) (r1 := 2) (r2 := 0) (r3 := 0) rfl ?_
  refine wi_iload_n (i := 1) (e := 139) (nx := 3) (r1 := 0) (r2 := 0) (r3 := 0) rfl rfl ?_
  refine wi_sipush (n := 200) (nx := 6) (r1 := 0) (r2 := 0) (r3 := 0) rfl (by decide) ?_
  refine wi_icmp (cd := .ge) (nx := 9) (r1 := 19) (r2 := 0) (r3 := 0) rfl (by omega) (by omega) (fun (q418 : 200 ≤ 139) => by exfalso; omega) (fun (q418 : ¬ (200 ≤ 139)) => ?_)
  refine wi_aload_n (i := 0) (x := 239) (nx := 10) (r1 := 0) (r2 := 0) (r3 := 0) rfl rfl ?_
  refine wi_iload_n (i := 1) (e := 139) (nx := 11) (r1 := 0) (r2 := 0) (r3 := 0) rfl rfl ?_
  refine wi_iconst (n := 0) (nx := 12) (r1 := 0) (r2 := 0) (r3 := 0) rfl ?_
  refine wr_is (k0 := 239) (a := 139) (f := 139) (x := 0) (bl := -2147483648) (bh := 2147483647) (nx := 13) (r1 := 0) (r2 := 0) (r3 := 0) rfl (by decide) rfl (by omega) (by omega) (by decide) g416 rfl (by omega) (fun h419 g419 w419 u419 => ?_)
  have F420 := F417.then rfl u419
  refine wr_iincL (i := 1) (n := 1) (v := 139) (140) ([(1, vi 140), (0, .ref 239)]) (nx := 16) (r1 := 0) (r2 := 0) (r3 := 0) rfl rfl (by decide) rfl ?_
  refine wi_goto (nx := 19) (r1 := 2) (r2 := 0) (r3 := 0) rfl ?_
  refine wi_iload_n (i := 1) (e := 140) (nx := 3) (r1 := 0) (r2 := 0) (r3 := 0) rfl rfl ?_
  refine wi_sipush (n := 200) (nx := 6) (r1 := 0) (r2 := 0) (r3 := 0) rfl (by decide) ?_
  refine wi_icmp (cd := .ge) (nx := 9) (r1 := 19) (r2 := 0) (r3 := 0) rfl (by omega) (by omega) (fun (q421 : 200 ≤ 140) => by exfalso; omega) (fun (q421 : ¬ (200 ≤ 140)) => ?_)
  refine wi_aload_n (i := 0) (x := 239) (nx := 10) (r1 := 0) (r2 := 0) (r3 := 0) rfl rfl ?_
  refine wi_iload_n (i := 1) (e := 140) (nx := 11) (r1 := 0) (r2 := 0) (r3 := 0) rfl rfl ?_
  refine wi_iconst (n := 0) (nx := 12) (r1 := 0) (r2 := 0) (r3 := 0) rfl ?_
  refine wr_is (k0 := 239) (a := 140) (f := 140) (x := 0) (bl := -2147483648) (bh := 2147483647) (nx := 13) (r1 := 0) (r2 := 0) (r3 := 0) rfl (by decide) rfl (by omega) (by omega) (by decide) g419 rfl (by omega) (fun h422 g422 w422 u422 => ?_)
  have F423 := F420.then rfl u422
  refine wr_iincL (i := 1) (n := 1) (v := 140) (141) ([(1, vi 141), (0, .ref 239)]) (nx := 16) (r1 := 0) (r2 := 0) (r3 := 0) rfl rfl (by decide) rfl ?_
  refine wi_goto (nx := 19) (r1 := 2) (r2 := 0) (r3 := 0) rfl ?_
  refine wi_iload_n (i := 1) (e := 141) (nx := 3) (r1 := 0) (r2 := 0) (r3 := 0) rfl rfl ?_
  refine wi_sipush (n := 200) (nx := 6) (r1 := 0) (r2 := 0) (r3 := 0) rfl (by decide) ?_
  refine wi_icmp (cd := .ge) (nx := 9) (r1 := 19) (r2 := 0) (r3 := 0) rfl (by omega) (by omega) (fun (q424 : 200 ≤ 141) => by exfalso; omega) (fun (q424 : ¬ (200 ≤ 141)) => ?_)
  refine wi_aload_n (i := 0) (x := 239) (nx := 10) (r1 := 0) (r2 := 0) (r3 := 0) rfl rfl ?_
  refine wi_iload_n (i := 1) (e := 141) (nx := 11) (r1 := 0) (r2 := 0) (r3 := 0) rfl rfl ?_
  refine wi_iconst (n := 0) (nx := 12) (r1 := 0) (r2 := 0) (r3 := 0) rfl ?_
  refine wr_is (k0 := 239) (a := 141) (f := 141) (x := 0) (bl := -2147483648) (bh := 2147483647) (nx := 13) (r1 := 0) (r2 := 0) (r3 := 0) rfl (by decide) rfl (by omega) (by omega) (by decide) g422 rfl (by omega) (fun h425 g425 w425 u425 => ?_)
  have F426 := F423.then rfl u425
  refine wr_iincL (i := 1) (n := 1) (v := 141) (142) ([(1, vi 142), (0, .ref 239)]) (nx := 16) (r1 := 0) (r2 := 0) (r3 := 0) rfl rfl (by decide) rfl ?_
  refine wi_goto (nx := 19) (r1 := 2) (r2 := 0) (r3 := 0) rfl ?_
  refine wi_iload_n (i := 1) (e := 142) (nx := 3) (r1 := 0) (r2 := 0) (r3 := 0) rfl rfl ?_
  refine wi_sipush (n := 200) (nx := 6) (r1 := 0) (r2 := 0) (r3 := 0) rfl (by decide) ?_
  refine wi_icmp (cd := .ge) (nx := 9) (r1 := 19) (r2 := 0) (r3 := 0) rfl (by omega) (by omega) (fun (q427 : 200 ≤ 142) => by exfalso; omega) (fun (q427 : ¬ (200 ≤ 142)) => ?_)
  refine wi_aload_n (i := 0) (x := 239) (nx := 10) (r1 := 0) (r2 := 0) (r3 := 0) rfl rfl ?_
  refine wi_iload_n (i := 1) (e := 142) (nx := 11) (r1 := 0) (r2 := 0) (r3 := 0) rfl rfl ?_
  refine wi_iconst (n := 0) (nx := 12) (r1 := 0) (r2 := 0) (r3 := 0) rfl ?_
  refine wr_is (k0 := 239) (a := 142) (f := 142) (x := 0) (bl := -2147483648) (bh := 2147483647) (nx := 13) (r1 := 0) (r2 := 0) (r3 := 0) rfl (by decide) rfl (by omega) (by omega) (by decide) g425 rfl (by omega) (fun h428 g428 w428 u428 => ?_)
  have F429 := F426.then rfl u428
  refine wr_iincL (i := 1) (n := 1) (v := 142) (143) ([(1, vi 143), (0, .ref 239)]) (nx := 16) (r1 := 0) (r2 := 0) (r3 := 0) rfl rfl (by decide) rfl ?_
  refine wi_goto (nx := 19) (r1 := 2) (r2 := 0) (r3 := 0) rfl ?_
  refine wi_iload_n (i := 1) (e := 143) (nx := 3) (r1 := 0) (r2 := 0) (r3 := 0) rfl rfl ?_
  refine wi_sipush (n := 200) (nx := 6) (r1 := 0) (r2 := 0) (r3 := 0) rfl (by decide) ?_
  refine wi_icmp (cd := .ge) (nx := 9) (r1 := 19) (r2 := 0) (r3 := 0) rfl (by omega) (by omega) (fun (q430 : 200 ≤ 143) => by exfalso; omega) (fun (q430 : ¬ (200 ≤ 143)) => ?_)
  refine wi_aload_n (i := 0) (x := 239) (nx := 10) (r1 := 0) (r2 := 0) (r3 := 0) rfl rfl ?_
  refine wi_iload_n (i := 1) (e := 143) (nx := 11) (r1 := 0) (r2 := 0) (r3 := 0) rfl rfl ?_
  refine wi_iconst (n := 0) (nx := 12) (r1 := 0) (r2 := 0) (r3 := 0) rfl ?_
  refine wr_is (k0 := 239) (a := 143) (f := 143) (x := 0) (bl := -2147483648) (bh := 2147483647) (nx := 13) (r1 := 0) (r2 := 0) (r3 := 0) rfl (by decide) rfl (by omega) (by omega) (by decide) g428 rfl (by omega) (fun h431 g431 w431 u431 => ?_)
  have F432 := F429.then rfl u431
  refine wr_iincL (i := 1) (n := 1) (v := 143) (144) ([(1, vi 144), (0, .ref 239)]) (nx := 16) (r1 := 0) (r2 := 0) (r3 := 0) rfl rfl (by decide) rfl ?_
  refine wi_goto (nx := 19) (r1 := 2) (r2 := 0) (r3 := 0) rfl ?_
  refine wi_iload_n (i := 1) (e := 144) (nx := 3) (r1 := 0) (r2 := 0) (r3 := 0) rfl rfl ?_
  refine wi_sipush (n := 200) (nx := 6) (r1 := 0) (r2 := 0) (r3 := 0) rfl (by decide) ?_
  refine wi_icmp (cd := .ge) (nx := 9) (r1 := 19) (r2 := 0) (r3 := 0) rfl (by omega) (by omega) (fun (q433 : 200 ≤ 144) => by exfalso; omega) (fun (q433 : ¬ (200 ≤ 144)) => ?_)
  refine wi_aload_n (i := 0) (x := 239) (nx := 10) (r1 := 0) (r2 := 0) (r3 := 0) rfl rfl ?_
  refine wi_iload_n (i := 1) (e := 144) (nx := 11) (r1 := 0) (r2 := 0) (r3 := 0) rfl rfl ?_
  refine wi_iconst (n := 0) (nx := 12) (r1 := 0) (r2 := 0) (r3 := 0) rfl ?_
  refine wr_is (k0 := 239) (a := 144) (f := 144) (x := 0) (bl := -2147483648) (bh := 2147483647) (nx := 13) (r1 := 0) (r2 := 0) (r3 := 0) rfl (by decide) rfl (by omega) (by omega) (by decide) g431 rfl (by omega) (fun h434 g434 w434 u434 => ?_)
  have F435 := F432.then rfl u434
  refine wr_iincL (i := 1) (n := 1) (v := 144) (145) ([(1, vi 145), (0, .ref 239)]) (nx := 16) (r1 := 0) (r2 := 0) (r3 := 0) rfl rfl (by decide) rfl ?_
  refine wi_goto (nx := 19) (r1 := 2) (r2 := 0) (r3 := 0) rfl ?_
  refine wi_iload_n (i := 1) (e := 145) (nx := 3) (r1 := 0) (r2 := 0) (r3 := 0) rfl rfl ?_
  refine wi_sipush (n := 200) (nx := 6) (r1 := 0) (r2 := 0) (r3 := 0) rfl (by decide) ?_
  refine wi_icmp (cd := .ge) (nx := 9) (r1 := 19) (r2 := 0) (r3 := 0) rfl (by omega) (by omega) (fun (q436 : 200 ≤ 145) => by exfalso; omega) (fun (q436 : ¬ (200 ≤ 145)) => ?_)
  refine wi_aload_n (i := 0) (x := 239) (nx := 10) (r1 := 0) (r2 := 0) (r3 := 0) rfl rfl ?_
  refine wi_iload_n (i := 1) (e := 145) (nx := 11) (r1 := 0) (r2 := 0) (r3 := 0) rfl rfl ?_
  refine wi_iconst (n := 0) (nx := 12) (r1 := 0) (r2 := 0) (r3 := 0) rfl ?_
  refine wr_is (k0 := 239) (a := 145) (f := 145) (x := 0) (bl := -2147483648) (bh := 2147483647) (nx := 13) (r1 := 0) (r2 := 0) (r3 := 0) rfl (by decide) rfl (by omega) (by omega) (by decide) g434 rfl (by omega) (fun h437 g437 w437 u437 => ?_)
  have F438 := F435.then rfl u437
  refine wr_iincL (i := 1) (n := 1) (v := 145) (146) ([(1, vi 146), (0, .ref 239)]) (nx := 16) (r1 := 0) (r2 := 0) (r3 := 0) rfl rfl (by decide) rfl ?_
  refine wi_goto (nx := 19) (r1 := 2) (r2 := 0) (r3 := 0) rfl ?_
  refine wi_iload_n (i := 1) (e := 146) (nx := 3) (r1 := 0) (r2 := 0) (r3 := 0) rfl rfl ?_
  refine wi_sipush (n := 200) (nx := 6) (r1 := 0) (r2 := 0) (r3 := 0) rfl (by decide) ?_
  refine wi_icmp (cd := .ge) (nx := 9) (r1 := 19) (r2 := 0) (r3 := 0) rfl (by omega) (by omega) (fun (q439 : 200 ≤ 146) => by exfalso; omega) (fun (q439 : ¬ (200 ≤ 146)) => ?_)
  refine wi_aload_n (i := 0) (x := 239) (nx := 10) (r1 := 0) (r2 := 0) (r3 := 0) rfl rfl ?_
  refine wi_iload_n (i := 1) (e := 146) (nx := 11) (r1 := 0) (r2 := 0) (r3 := 0) rfl rfl ?_
  refine wi_iconst (n := 0) (nx := 12) (r1 := 0) (r2 := 0) (r3 := 0) rfl ?_
  refine wr_is (k0 := 239) (a := 146) (f := 146) (x := 0) (bl := -2147483648) (bh := 2147483647) (nx := 13) (r1 := 0) (r2 := 0) (r3 := 0) rfl (by decide) rfl (by omega) (by omega) (by decide) g437 rfl (by omega) (fun h440 g440 w440 u440 => ?_)
  have F441 := F438.then rfl u440
  refine wr_iincL (i := 1) (n := 1) (v := 146) (147) ([(1, vi 147), (0, .ref 239)]) (nx := 16) (r1 := 0) (r2 := 0) (r3 := 0) rfl rfl (by decide) rfl ?_
  refine wi_goto (nx := 19) (r1 := 2) (r2 := 0) (r3 := 0) rfl ?_
  refine wi_iload_n (i := 1) (e := 147) (nx := 3) (r1 := 0) (r2 := 0) (r3 := 0) rfl rfl ?_
  refine wi_sipush (n := 200) (nx := 6) (r1 := 0) (r2 := 0) (r3 := 0) rfl (by decide) ?_
  refine wi_icmp (cd := .ge) (nx := 9) (r1 := 19) (r2 := 0) (r3 := 0) rfl (by omega) (by omega) (fun (q442 : 200 ≤ 147) => by exfalso; omega) (fun (q442 : ¬ (200 ≤ 147)) => ?_)
  refine wi_aload_n (i := 0) (x := 239) (nx := 10) (r1 := 0) (r2 := 0) (r3 := 0) rfl rfl ?_
  refine wi_iload_n (i := 1) (e := 147) (nx := 11) (r1 := 0) (r2 := 0) (r3 := 0) rfl rfl ?_
  refine wi_iconst (n := 0) (nx := 12) (r1 := 0) (r2 := 0) (r3 := 0) rfl ?_
  refine wr_is (k0 := 239) (a := 147) (f := 147) (x := 0) (bl := -2147483648) (bh := 2147483647) (nx := 13) (r1 := 0) (r2 := 0) (r3 := 0) rfl (by decide) rfl (by omega) (by omega) (by decide) g440 rfl (by omega) (fun h443 g443 w443 u443 => ?_)
  have F444 := F441.then rfl u443
  refine wr_iincL (i := 1) (n := 1) (v := 147) (148) ([(1, vi 148), (0, .ref 239)]) (nx := 16) (r1 := 0) (r2 := 0) (r3 := 0) rfl rfl (by decide) rfl ?_
  refine wi_goto (nx := 19) (r1 := 2) (r2 := 0) (r3 := 0) rfl ?_
  refine wi_iload_n (i := 1) (e := 148) (nx := 3) (r1 := 0) (r2 := 0) (r3 := 0) rfl rfl ?_
  refine wi_sipush (n := 200) (nx := 6) (r1 := 0) (r2 := 0) (r3 := 0) rfl (by decide) ?_
  refine wi_icmp (cd := .ge) (nx := 9) (r1 := 19) (r2 := 0) (r3 := 0) rfl (by omega) (by omega) (fun (q445 : 200 ≤ 148) => by exfalso; omega) (fun (q445 : ¬ (200 ≤ 148)) => ?_)
  refine wi_aload_n (i := 0) (x := 239) (nx := 10) (r1 := 0) (r2 := 0) (r3 := 0) rfl rfl ?_
  refine wi_iload_n (i := 1) (e := 148) (nx := 11) (r1 := 0) (r2 := 0) (r3 := 0) rfl rfl ?_
  refine wi_iconst (n := 0) (nx := 12) (r1 := 0) (r2 := 0) (r3 := 0) rfl ?_
  refine wr_is (k0 := 239) (a := 148) (f := 148) (x := 0) (bl := -2147483648) (bh := 2147483647) (nx := 13) (r1 := 0) (r2 := 0) (r3 := 0) rfl (by decide) rfl (by omega) (by omega) (by decide) g443 rfl (by omega) (fun h446 g446 w446 u446 => ?_)
  have F447 := F444.then rfl u446
  refine wr_iincL (i := 1) (n := 1) (v := 148) (149) ([(1, vi 149), (0, .ref 239)]) (nx := 16) (r1 := 0) (r2 := 0) (r3 := 0) rfl rfl (by decide) rfl ?_
  refine wi_goto (nx := 19) (r1 := 2) (r2 := 0) (r3 := 0) rfl ?_
  refine wi_iload_n (i := 1) (e := 149) (nx := 3) (r1 := 0) (r2 := 0) (r3 := 0) rfl rfl ?_
  refine wi_sipush (n := 200) (nx := 6) (r1 := 0) (r2 := 0) (r3 := 0) rfl (by decide) ?_
  refine wi_icmp (cd := .ge) (nx := 9) (r1 := 19) (r2 := 0) (r3 := 0) rfl (by omega) (by omega) (fun (q448 : 200 ≤ 149) => by exfalso; omega) (fun (q448 : ¬ (200 ≤ 149)) => ?_)
  refine wi_aload_n (i := 0) (x := 239) (nx := 10) (r1 := 0) (r2 := 0) (r3 := 0) rfl rfl ?_
  refine wi_iload_n (i := 1) (e := 149) (nx := 11) (r1 := 0) (r2 := 0) (r3 := 0) rfl rfl ?_
  refine wi_iconst (n := 0) (nx := 12) (r1 := 0) (r2 := 0) (r3 := 0) rfl ?_
  refine wr_is (k0 := 239) (a := 149) (f := 149) (x := 0) (bl := -2147483648) (bh := 2147483647) (nx := 13) (r1 := 0) (r2 := 0) (r3 := 0) rfl (by decide) rfl (by omega) (by omega) (by decide) g446 rfl (by omega) (fun h449 g449 w449 u449 => ?_)
  have F450 := F447.then rfl u449
  refine wr_iincL (i := 1) (n := 1) (v := 149) (150) ([(1, vi 150), (0, .ref 239)]) (nx := 16) (r1 := 0) (r2 := 0) (r3 := 0) rfl rfl (by decide) rfl ?_
  refine wi_goto (nx := 19) (r1 := 2) (r2 := 0) (r3 := 0) rfl ?_
  refine wi_iload_n (i := 1) (e := 150) (nx := 3) (r1 := 0) (r2 := 0) (r3 := 0) rfl rfl ?_
  refine wi_sipush (n := 200) (nx := 6) (r1 := 0) (r2 := 0) (r3 := 0) rfl (by decide) ?_
  refine wi_icmp (cd := .ge) (nx := 9) (r1 := 19) (r2 := 0) (r3 := 0) rfl (by omega) (by omega) (fun (q451 : 200 ≤ 150) => by exfalso; omega) (fun (q451 : ¬ (200 ≤ 150)) => ?_)
  refine wi_aload_n (i := 0) (x := 239) (nx := 10) (r1 := 0) (r2 := 0) (r3 := 0) rfl rfl ?_
  refine wi_iload_n (i := 1) (e := 150) (nx := 11) (r1 := 0) (r2 := 0) (r3 := 0) rfl rfl ?_
  refine wi_iconst (n := 0) (nx := 12) (r1 := 0) (r2 := 0) (r3 := 0) rfl ?_
  refine wr_is (k0 := 239) (a := 150) (f := 150) (x := 0) (bl := -2147483648) (bh := 2147483647) (nx := 13) (r1 := 0) (r2 := 0) (r3 := 0) rfl (by decide) rfl (by omega) (by omega) (by decide) g449 rfl (by omega) (fun h452 g452 w452 u452 => ?_)
  have F453 := F450.then rfl u452
  refine wr_iincL (i := 1) (n := 1) (v := 150) (151) ([(1, vi 151), (0, .ref 239)]) (nx := 16) (r1 := 0) (r2 := 0) (r3 := 0) rfl rfl (by decide) rfl ?_
  refine wi_goto (nx := 19) (r1 := 2) (r2 := 0) (r3 := 0) rfl ?_
  refine wi_iload_n (i := 1) (e := 151) (nx := 3) (r1 := 0) (r2 := 0) (r3 := 0) rfl rfl ?_
  refine wi_sipush (n := 200) (nx := 6) (r1 := 0) (r2 := 0) (r3 := 0) rfl (by decide) ?_
  refine wi_icmp (cd := .ge) (nx := 9) (r1 := 19) (r2 := 0) (r3 := 0) rfl (by omega) (by omega) (fun (q454 : 200 ≤ 151) => by exfalso; omega) (fun (q454 : ¬ (200 ≤ 151)) => ?_)
  refine wi_aload_n (i := 0) (x := 239) (nx := 10) (r1 := 0) (r2 := 0) (r3 := 0) rfl rfl ?_
  refine wi_iload_n (i := 1) (e := 151) (nx := 11) (r1 := 0) (r2 := 0) (r3 := 0) rfl rfl ?_
  refine wi_iconst (n := 0) (nx := 12) (r1 := 0) (r2 := 0) (r3 := 0) rfl ?_
  refine wr_is (k0 := 239) (a := 151) (f := 151) (x := 0) (bl := -2147483648) (bh := 2147483647) (nx := 13) (r1 := 0) (r2 := 0) (r3 := 0) rfl (by decide) rfl (by omega) (by omega) (by decide) g452 rfl (by omega) (fun h455 g455 w455 u455 => ?_)
  have F456 := F453.then rfl u455
  refine wr_iincL (i := 1) (n := 1) (v := 151) (152) ([(1, vi 152), (0, .ref 239)]) (nx := 16) (r1 := 0) (r2 := 0) (r3 := 0) rfl rfl (by decide) rfl ?_
  refine wi_goto (nx := 19) (r1 := 2) (r2 := 0) (r3 := 0) rfl ?_
  refine wi_iload_n (i := 1) (e := 152) (nx := 3) (r1 := 0) (r2 := 0) (r3 := 0) rfl rfl ?_
  refine wi_sipush (n := 200) (nx := 6) (r1 := 0) (r2 := 0) (r3 := 0) rfl (by decide) ?_
  refine wi_icmp (cd := .ge) (nx := 9) (r1 := 19) (r2 := 0) (r3 := 0) rfl (by omega) (by omega) (fun (q457 : 200 ≤ 152) => by exfalso; omega) (fun (q457 : ¬ (200 ≤ 152)) => ?_)
  refine wi_aload_n (i := 0) (x := 239) (nx := 10) (r1 := 0) (r2 := 0) (r3 := 0) rfl rfl ?_
  refine wi_iload_n (i := 1) (e := 152) (nx := 11) (r1 := 0) (r2 := 0) (r3 := 0) rfl rfl ?_
  refine wi_iconst (n := 0) (nx := 12) (r1 := 0) (r2 := 0) (r3 := 0) rfl ?_
  refine wr_is (k0 := 239) (a := 152) (f := 152) (x := 0) (bl := -2147483648) (bh := 2147483647) (nx := 13) (r1 := 0) (r2 := 0) (r3 := 0) rfl (by decide) rfl (by omega) (by omega) (by decide) g455 rfl (by omega) (fun h458 g458 w458 u458 => ?_)
  have F459 := F456.then rfl u458
  refine wr_iincL (i := 1) (n := 1) (v := 152) (153) ([(1, vi 153), (0, .ref 239)]) (nx := 16) (r1 := 0) (r2 := 0) (r3 := 0) rfl rfl (by decide) rfl ?_
  refine wi_goto (nx := 19) (r1 := 2) (r2 := 0) (r3 := 0) rfl ?_
  refine wi_iload_n (i := 1) (e := 153) (nx := 3) (r1 := 0) (r2 := 0) (r3 := 0) rfl rfl ?_
  refine wi_sipush (n := 200) (nx := 6) (r1 := 0) (r2 := 0) (r3 := 0) rfl (by decide) ?_
  refine wi_icmp (cd := .ge) (nx := 9) (r1 := 19) (r2 := 0) (r3 := 0) rfl (by omega) (by omega) (fun (q460 : 200 ≤ 153) => by exfalso; omega) (fun (q460 : ¬ (200 ≤ 153)) => ?_)
  refine wi_aload_n (i := 0) (x := 239) (nx := 10) (r1 := 0) (r2 := 0) (r3 := 0) rfl rfl ?_
  refine wi_iload_n (i := 1) (e := 153) (nx := 11) (r1 := 0) (r2 := 0) (r3 := 0) rfl rfl ?_
  refine wi_iconst (n := 0) (nx := 12) (r1 := 0) (r2 := 0) (r3 := 0) rfl ?_
  refine wr_is (k0 := 239) (a := 153) (f := 153) (x := 0) (bl := -2147483648) (bh := 2147483647) (nx := 13) (r1 := 0) (r2 := 0) (r3 := 0) rfl (by decide) rfl (by omega) (by omega) (by decide) g458 rfl (by omega) (fun h461 g461 w461 u461 => ?_)
  have F462 := F459.then rfl u461
  refine wr_iincL (i := 1) (n := 1) (v := 153) (154) ([(1, vi 154), (0, .ref 239)]) (nx := 16) (r1 := 0) (r2 := 0) (r3 := 0) rfl rfl (by decide) rfl ?_
  refine wi_goto (nx := 19) (r1 := 2) (r2 := 0) (r3 := 0) rfl ?_
  refine wi_iload_n (i := 1) (e := 154) (nx := 3) (r1 := 0) (r2 := 0) (r3 := 0) rfl rfl ?_
  refine wi_sipush (n := 200) (nx := 6) (r1 := 0) (r2 := 0) (r3 := 0) rfl (by decide) ?_
  refine wi_icmp (cd := .ge) (nx := 9) (r1 := 19) (r2 := 0) (r3 := 0) rfl (by omega) (by omega) (fun (q463 : 200 ≤ 154) => by exfalso; omega) (fun (q463 : ¬ (200 ≤ 154)) => ?_)
  refine wi_aload_n (i := 0) (x := 239) (nx := 10) (r1 := 0) (r2 := 0) (r3 := 0) rfl rfl ?_
  refine wi_iload_n (i := 1) (e := 154) (nx := 11) (r1 := 0) (r2 := 0) (r3 := 0) rfl rfl ?_
  refine wi_iconst (n := 0) (nx := 12) (r1 := 0) (r2 := 0) (r3 := 0) rfl ?_
  refine wr_is (k0 := 239) (a := 154) (f := 154) (x := 0) (bl := -2147483648) (bh := 2147483647) (nx := 13) (r1 := 0) (r2 := 0) (r3 := 0) rfl (by decide) rfl (by omega) (by omega) (by decide) g461 rfl (by omega) (fun h464 g464 w464 u464 => ?_)
  have F465 := F462.then rfl u464
  refine wr_iincL (i := 1) (n := 1) (v := 154) (155) ([(1, vi 155), (0, .ref 239)]) (nx := 16) (r1 := 0) (r2 := 0) (r3 := 0) rfl rfl (by decide) rfl ?_
  refine wi_goto (nx := 19) (r1 := 2) (r2 := 0) (r3 := 0) rfl ?_
  refine wi_iload_n (i := 1) (e := 155) (nx := 3) (r1 := 0) (r2 := 0) (r3 := 0) rfl rfl ?_
  refine wi_sipush (n := 200) (nx := 6) (r1 := 0) (r2 := 0) (r3 := 0) rfl (by decide) ?_
  refine wi_icmp (cd := .ge) (nx := 9) (r1 := 19) (r2 := 0) (r3 := 0) rfl (by omega) (by omega) (fun (q466 : 200 ≤ 155) => by exfalso; omega) (fun (q466 : ¬ (200 ≤ 155)) => ?_)
  refine wi_aload_n (i := 0) (x := 239) (nx := 10) (r1 := 0) (r2 := 0) (r3 := 0) rfl rfl ?_
  refine wi_iload_n (i := 1) (e := 155) (nx := 11) (r1 := 0) (r2 := 0) (r3 := 0) rfl rfl ?_
  refine wi_iconst (n := 0) (nx := 12) (r1 := 0) (r2 := 0) (r3 := 0) rfl ?_
  refine wr_is (k0 := 239) (a := 155) (f := 155) (x := 0) (bl := -2147483648) (bh := 2147483647) (nx := 13) (r1 := 0) (r2 := 0) (r3 := 0) rfl (by decide) rfl (by omega) (by omega) (by decide) g464 rfl (by omega) (fun h467 g467 w467 u467 => ?_)
  have F468 := F465.then rfl u467
  refine wr_iincL (i := 1) (n := 1) (v := 155) (156) ([(1, vi 156), (0, .ref 239)]) (nx := 16) (r1 := 0) (r2 := 0) (r3 := 0) rfl rfl (by decide) rfl ?_
  refine wi_goto (nx := 19) (r1 := 2) (r2 := 0) (r3 := 0) rfl ?_
  refine wi_iload_n (i := 1) (e := 156) (nx := 3) (r1 := 0) (r2 := 0) (r3 := 0) rfl rfl ?_
  refine wi_sipush (n := 200) (nx := 6) (r1 := 0) (r2 := 0) (r3 := 0) rfl (by decide) ?_
  refine wi_icmp (cd := .ge) (nx := 9) (r1 := 19) (r2 := 0) (r3 := 0) rfl (by omega) (by omega) (fun (q469 : 200 ≤ 156) => by exfalso; omega) (fun (q469 : ¬ (200 ≤ 156)) => ?_)
  refine wi_aload_n (i := 0) (x := 239) (nx := 10) (r1 := 0) (r2 := 0) (r3 := 0) rfl rfl ?_
  refine wi_iload_n (i := 1) (e := 156) (nx := 11) (r1 := 0) (r2 := 0) (r3 := 0) rfl rfl ?_
  refine wi_iconst (n := 0) (nx := 12) (r1 := 0) (r2 := 0) (r3 := 0) rfl ?_
  refine wr_is (k0 := 239) (a := 156) (f := 156) (x := 0) (bl := -2147483648) (bh := 2147483647) (nx := 13) (r1 := 0) (r2 := 0) (r3 := 0) rfl (by decide) rfl (by omega) (by omega) (by decide) g467 rfl (by omega) (fun h470 g470 w470 u470 => ?_)
  have F471 := F468.then rfl u470
  refine wr_iincL (i := 1) (n := 1) (v := 156) (157) ([(1, vi 157), (0, .ref 239)]) (nx := 16) (r1 := 0) (r2 := 0) (r3 := 0) rfl rfl (by decide) rfl ?_
  refine wi_goto (nx := 19) (r1 := 2) (r2 := 0) (r3 := 0) rfl ?_
  refine wi_iload_n (i := 1) (e := 157) (nx := 3) (r1 := 0) (r2 := 0) (r3 := 0) rfl rfl ?_
  refine wi_sipush (n := 200) (nx := 6) (r1 := 0) (r2 := 0) (r3 := 0) rfl (by decide) ?_
  refine wi_icmp (cd := .ge) (nx := 9) (r1 := 19) (r2 := 0) (r3 := 0) rfl (by omega) (by omega) (fun (q472 : 200 ≤ 157) => by exfalso; omega) (fun (q472 : ¬ (200 ≤ 157)) => ?_)
  refine wi_aload_n (i := 0) (x := 239) (nx := 10) (r1 := 0) (r2 := 0) (r3 := 0) rfl rfl ?_
  refine wi_iload_n (i := 1) (e := 157) (nx := 11) (r1 := 0) (r2 := 0) (r3 := 0) rfl rfl ?_
  refine wi_iconst (n := 0) (nx := 12) (r1 := 0) (r2 := 0) (r3 := 0) rfl ?_
  refine wr_is (k0 := 239) (a := 157) (f := 157) (x := 0) (bl := -2147483648) (bh := 2147483647) (nx := 13) (r1 := 0) (r2 := 0) (r3 := 0) rfl (by decide) rfl (by omega) (by omega) (by decide) g470 rfl (by omega) (fun h473 g473 w473 u473 => ?_)
  have F474 := F471.then rfl u473
  refine wr_iincL (i := 1) (n := 1) (v := 157) (158) ([(1, vi 158), (0, .ref 239)]) (nx := 16) (r1 := 0) (r2 := 0) (r3 := 0) rfl rfl (by decide) rfl ?_
  refine wi_goto (nx := 19) (r1 := 2) (r2 := 0) (r3 := 0) rfl ?_
  refine wi_iload_n (i := 1) (e := 158) (nx := 3) (r1 := 0) (r2 := 0) (r3 := 0) rfl rfl ?_
  refine wi_sipush (n := 200) (nx := 6) (r1 := 0) (r2 := 0) (r3 := 0) rfl (by decide) ?_
  refine wi_icmp (cd := .ge) (nx := 9) (r1 := 19) (r2 := 0) (r3 := 0) rfl (by omega) (by omega) (fun (q475 : 200 ≤ 158) => by exfalso; omega) (fun (q475 : ¬ (200 ≤ 158)) => ?_)
  refine wi_aload_n (i := 0) (x := 239) (nx := 10) (r1 := 0) (r2 := 0) (r3 := 0) rfl rfl ?_
  refine wi_iload_n (i := 1) (e := 158) (nx := 11) (r1 := 0) (r2 := 0) (r3 := 0) rfl rfl ?_
  refine wi_iconst (n := 0) (nx := 12) (r1 := 0) (r2 := 0) (r3 := 0) rfl ?_
  refine wr_is (k0 := 239) (a := 158) (f := 158) (x := 0) (bl := -2147483648) (bh := 2147483647) (nx := 13) (r1 := 0) (r2 := 0) (r3 := 0) rfl (by decide) rfl (by omega) (by omega) (by decide) g473 rfl (by omega) (fun h476 g476 w476 u476 => ?_)
  have F477 := F474.then rfl u476
  refine wr_iincL (i := 1) (n := 1) (v := 158) (159) ([(1, vi 159), (0, .ref 239)]) (nx := 16) (r1 := 0) (r2 := 0) (r3 := 0) rfl rfl (by decide) rfl ?_
  refine wi_goto (nx := 19) (r1 := 2) (r2 := 0) (r3 := 0) rfl ?_
  refine wi_iload_n (i := 1) (e := 159) (nx := 3) (r1 := 0) (r2 := 0) (r3 := 0) rfl rfl ?_
  refine wi_sipush (n := 200) (nx := 6) (r1 := 0) (r2 := 0) (r3 := 0) rfl (by decide) ?_
  refine wi_icmp (cd := .ge) (nx := 9) (r1 := 19) (r2 := 0) (r3 := 0) rfl (by omega) (by omega) (fun (q478 : 200 ≤ 159) => by exfalso; omega) (fun (q478 : ¬ (200 ≤ 159)) => ?_)
  refine wi_aload_n (i := 0) (x := 239) (nx := 10) (r1 := 0) (r2 := 0) (r3 := 0) rfl rfl ?_
  refine wi_iload_n (i := 1) (e := 159) (nx := 11) (r1 := 0) (r2 := 0) (r3 := 0) rfl rfl ?_
  refine wi_iconst (n := 0) (nx := 12) (r1 := 0) (r2 := 0) (r3 := 0) rfl ?_
  refine wr_is (k0 := 239) (a := 159) (f := 159) (x := 0) (bl := -2147483648) (bh := 2147483647) (nx := 13) (r1 := 0) (r2 := 0) (r3 := 0) rfl (by decide) rfl (by omega) (by omega) (by decide) g476 rfl (by omega) (fun h479 g479 w479 u479 => ?_)
  have F480 := F477.then rfl u479
  refine wr_iincL (i := 1) (n := 1) (v := 159) (160) ([(1, vi 160), (0, .ref 239)]) (nx := 16) (r1 := 0) (r2 := 0) (r3 := 0) rfl rfl (by decide) rfl ?_
  refine wi_goto (nx := 19) (r1 := 2) (r2 := 0) (r3 := 0) rfl ?_
  refine wi_iload_n (i := 1) (e := 160) (nx := 3) (r1 := 0) (r2 := 0) (r3 := 0) rfl rfl ?_
  refine wi_sipush (n := 200) (nx := 6) (r1 := 0) (r2 := 0) (r3 := 0) rfl (by decide) ?_
  refine wi_icmp (cd := .ge) (nx := 9) (r1 := 19) (r2 := 0) (r3 := 0) rfl (by omega) (by omega) (fun (q481 : 200 ≤ 160) => by exfalso; omega) (fun (q481 : ¬ (200 ≤ 160)) => ?_)
  refine wi_aload_n (i := 0) (x := 239) (nx := 10) (r1 := 0) (r2 := 0) (r3 := 0) rfl rfl ?_
  refine wi_iload_n (i := 1) (e := 160) (nx := 11) (r1 := 0) (r2 := 0) (r3 := 0) rfl rfl ?_
  refine wi_iconst (n := 0) (nx := 12) (r1 := 0) (r2 := 0) (r3 := 0) rfl ?_
  refine wr_is (k0 := 239) (a := 160) (f := 160) (x := 0) (bl := -2147483648) (bh := 2147483647) (nx := 13) (r1 := 0) (r2 := 0) (r3 := 0) rfl (by decide) rfl (by omega) (by omega) (by decide) g479 rfl (by omega) (fun h482 g482 w482 u482 => ?_)
  have F483 := F480.then rfl u482
  refine wr_iincL (i := 1) (n := 1) (v := 160) (161) ([(1, vi 161), (0, .ref 239)]) (nx := 16) (r1 := 0) (r2 := 0) (r3 := 0) rfl rfl (by decide) rfl ?_
  refine wi_goto (nx := 19) (r1 := 2) (r2 := 0) (r3 := 0) rfl ?_
  refine wi_iload_n (i := 1) (e := 161) (nx := 3) (r1 := 0) (r2 := 0) (r3 := 0) rfl rfl ?_
  refine wi_sipush (n := 200) (nx := 6) (r1 := 0) (r2 := 0) (r3 := 0) rfl (by decide) ?_
  refine wi_icmp (cd := .ge) (nx := 9) (r1 := 19) (r2 := 0) (r3 := 0) rfl (by omega) (by omega) (fun (q484 : 200 ≤ 161) => by exfalso; omega) (fun (q484 : ¬ (200 ≤ 161)) => ?_)
  refine wi_aload_n (i := 0) (x := 239) (nx := 10) (r1 := 0) (r2 := 0) (r3 := 0) rfl rfl ?_
  refine wi_iload_n (i := 1) (e := 161) (nx := 11) (r1 := 0) (r2 := 0) (r3 := 0) rfl rfl ?_
  refine wi_iconst (n := 0) (nx := 12) (r1 := 0) (r2 := 0) (r3 := 0) rfl ?_
  refine wr_is (k0 := 239) (a := 161) (f := 161) (x := 0) (bl := -2147483648) (bh := 2147483647) (nx := 13) (r1 := 0) (r2 := 0) (r3 := 0) rfl (by decide) rfl (by omega) (by omega) (by decide) g482 rfl (by omega) (fun h485 g485 w485 u485 => ?_)
  have F486 := F483.then rfl u485
  refine wr_iincL (i := 1) (n := 1) (v := 161) (162) ([(1, vi 162), (0, .ref 239)]) (nx := 16) (r1 := 0) (r2 := 0) (r3 := 0) rfl rfl (by decide) rfl ?_
  refine wi_goto (nx := 19) (r1 := 2) (r2 := 0) (r3 := 0) rfl ?_
  refine wi_iload_n (i := 1) (e := 162) (nx := 3) (r1 := 0) (r2 := 0) (r3 := 0) rfl rfl ?_
  refine wi_sipush (n := 200) (nx := 6) (r1 := 0) (r2 := 0) (r3 := 0) rfl (by decide) ?_
  refine wi_icmp (cd := .ge) (nx := 9) (r1 := 19) (r2 := 0) (r3 := 0) rfl (by omega) (by omega) (fun (q487 : 200 ≤ 162) => by exfalso; omega) (fun (q487 : ¬ (200 ≤ 162)) => ?_)
  refine wi_aload_n (i := 0) (x := 239) (nx := 10) (r1 := 0) (r2 := 0) (r3 := 0) rfl rfl ?_
  refine wi_iload_n (i := 1) (e := 162) (nx := 11) (r1 := 0) (r2 := 0) (r3 := 0) rfl rfl ?_
  refine wi_iconst (n := 0) (nx := 12) (r1 := 0) (r2 := 0) (r3 := 0) rfl ?_
  refine wr_is (k0 := 239) (a := 162) (f := 162) (x := 0) (bl := -2147483648) (bh := 2147483647) (nx := 13) (r1 := 0) (r2 := 0) (r3 := 0) rfl (by decide) rfl (by omega) (by omega) (by decide) g485 rfl (by omega) (fun h488 g488 w488 u488 => ?_)
  have F489 := F486.then rfl u488
  refine wr_iincL (i := 1) (n := 1) (v := 162) (163) ([(1, vi 163), (0, .ref 239)]) (nx := 16) (r1 := 0) (r2 := 0) (r3 := 0) rfl rfl (by decide) rfl ?_
  refine wi_goto (nx := 19) (r1 := 2) (r2 := 0) (r3 := 0) rfl ?_
  refine wi_iload_n (i := 1) (e := 163) (nx := 3) (r1 := 0) (r2 := 0) (r3 := 0) rfl rfl ?_
  refine wi_sipush (n := 200) (nx := 6) (r1 := 0) (r2 := 0) (r3 := 0) rfl (by decide) ?_
  refine wi_icmp (cd := .ge) (nx := 9) (r1 := 19) (r2 := 0) (r3 := 0) rfl (by omega) (by omega) (fun (q490 : 200 ≤ 163) => by exfalso; omega) (fun (q490 : ¬ (200 ≤ 163)) => ?_)
  refine wi_aload_n (i := 0) (x := 239) (nx := 10) (r1 := 0) (r2 := 0) (r3 := 0) rfl rfl ?_
  refine wi_iload_n (i := 1) (e := 163) (nx := 11) (r1 := 0) (r2 := 0) (r3 := 0) rfl rfl ?_
  refine wi_iconst (n := 0) (nx := 12) (r1 := 0) (r2 := 0) (r3 := 0) rfl ?_
  refine wr_is (k0 := 239) (a := 163) (f := 163) (x := 0) (bl := -2147483648) (bh := 2147483647) (nx := 13) (r1 := 0) (r2 := 0) (r3 := 0) rfl (by decide) rfl (by omega) (by omega) (by decide) g488 rfl (by omega) (fun h491 g491 w491 u491 => ?_)
  have F492 := F489.then rfl u491
  refine wr_iincL (i := 1) (n := 1) (v := 163) (164) ([(1, vi 164), (0, .ref 239)]) (nx := 16) (r1 := 0) (r2 := 0) (r3 := 0) rfl rfl (by decide) rfl ?_
  refine wi_goto (nx := 19) (r1 := 2) (r2 := 0) (r3 := 0) rfl ?_
  refine wi_iload_n (i := 1) (e := 164) (nx := 3) (r1 := 0) (r2 := 0) (r3 := 0) rfl rfl ?_
  refine wi_sipush (n := 200) (nx := 6) (r1 := 0) (r2 := 0) (r3 := 0) rfl (by decide) ?_
  refine wi_icmp (cd := .ge) (nx := 9) (r1 := 19) (r2 := 0) (r3 := 0) rfl (by omega) (by omega) (fun (q493 : 200 ≤ 164) => by exfalso; omega) (fun (q493 : ¬ (200 ≤ 164)) => ?_)
  refine wi_aload_n (i := 0) (x := 239) (nx := 10) (r1 := 0) (r2 := 0) (r3 := 0) rfl rfl ?_
  refine wi_iload_n (i := 1) (e := 164) (nx := 11) (r1 := 0) (r2 := 0) (r3 := 0) rfl rfl ?_
  refine wi_iconst (n := 0) (nx := 12) (r1 := 0) (r2 := 0) (r3 := 0) rfl ?_
  refine wr_is (k0 := 239) (a := 164) (f := 164) (x := 0) (bl := -2147483648) (bh := 2147483647) (nx := 13) (r1 := 0) (r2 := 0) (r3 := 0) rfl (by decide) rfl (by omega) (by omega) (by decide) g491 rfl (by omega) (fun h494 g494 w494 u494 => ?_)
  have F495 := F492.then rfl u494
  refine wr_iincL (i := 1) (n := 1) (v := 164) (165) ([(1, vi 165), (0, .ref 239)]) (nx := 16) (r1 := 0) (r2 := 0) (r3 := 0) rfl rfl (by decide) rfl ?_
  refine wi_goto (nx := 19) (r1 := 2) (r2 := 0) (r3 := 0) rfl ?_
  refine wi_iload_n (i := 1) (e := 165) (nx := 3) (r1 := 0) (r2 := 0) (r3 := 0) rfl rfl ?_
  refine wi_sipush (n := 200) (nx := 6) (r1 := 0) (r2 := 0) (r3 := 0) rfl (by decide) ?_
  refine wi_icmp (cd := .ge) (nx := 9) (r1 := 19) (r2 := 0) (r3 := 0) rfl (by omega) (by omega) (fun (q496 : 200 ≤ 165) => by exfalso; omega) (fun (q496 : ¬ (200 ≤ 165)) => ?_)
  refine wi_aload_n (i := 0) (x := 239) (nx := 10) (r1 := 0) (r2 := 0) (r3 := 0) rfl rfl ?_
  refine wi_iload_n (i := 1) (e := 165) (nx := 11) (r1 := 0) (r2 := 0) (r3 := 0) rfl rfl ?_
  refine wi_iconst (n := 0) (nx := 12) (r1 := 0) (r2 := 0) (r3 := 0) rfl ?_
  refine wr_is (k0 := 239) (a := 165) (f := 165) (x := 0) (bl := -2147483648) (bh := 2147483647) (nx := 13) (r1 := 0) (r2 := 0) (r3 := 0) rfl (by decide) rfl (by omega) (by omega) (by decide) g494 rfl (by omega) (fun h497 g497 w497 u497 => ?_)
  have F498 := F495.then rfl u497
  refine wr_iincL (i := 1) (n := 1) (v := 165) (166) ([(1, vi 166), (0, .ref 239)]) (nx := 16) (r1 := 0) (r2 := 0) (r3 := 0) rfl rfl (by decide) rfl ?_
  refine wi_goto (nx := 19) (r1 := 2) (r2 := 0) (r3 := 0) rfl ?_
  refine wi_iload_n (i := 1) (e := 166) (nx := 3) (r1 := 0) (r2 := 0) (r3 := 0) rfl rfl ?_
  refine wi_sipush (n := 200) (nx := 6) (r1 := 0) (r2 := 0) (r3 := 0) rfl (by decide) ?_
  refine wi_icmp (cd := .ge) (nx := 9) (r1 := 19) (r2 := 0) (r3 := 0) rfl (by omega) (by omega) (fun (q499 : 200 ≤ 166) => by exfalso; omega) (fun (q499 : ¬ (200 ≤ 166)) => ?_)
  refine wi_aload_n (i := 0) (x := 239) (nx := 10) (r1 := 0) (r2 := 0) (r3 := 0) rfl rfl ?_
  refine wi_iload_n (i := 1) (e := 166) (nx := 11) (r1 := 0) (r2 := 0) (r3 := 0) rfl rfl ?_
  refine wi_iconst (n := 0) (nx := 12) (r1 := 0) (r2 := 0) (r3 := 0) rfl ?_
  refine wr_is (k0 := 239) (a := 166) (f := 166) (x := 0) (bl := -2147483648) (bh := 2147483647) (nx := 13) (r1 := 0) (r2 := 0) (r3 := 0) rfl (by decide) rfl (by omega) (by omega) (by decide) g497 rfl (by omega) (fun h500 g500 w500 u500 => ?_)
  have F501 := F498.then rfl u500
  refine wr_iincL (i := 1) (n := 1) (v := 166) (167) ([(1, vi 167), (0, .ref 239)]) (nx := 16) (r1 := 0) (r2 := 0) (r3 := 0) rfl rfl (by decide) rfl ?_
  refine wi_goto (nx := 19) (r1 := 2) (r2 := 0) (r3 := 0) rfl ?_
  refine wi_iload_n (i := 1) (e := 167) (nx := 3) (r1 := 0) (r2 := 0) (r3 := 0) rfl rfl ?_
  refine wi_sipush (n := 200) (nx := 6) (r1 := 0) (r2 := 0) (r3 := 0) rfl (by decide) ?_
  refine wi_icmp (cd := .ge) (nx := 9) (r1 := 19) (r2 := 0) (r3 := 0) rfl (by omega) (by omega) (fun (q502 : 200 ≤ 167) => by exfalso; omega) (fun (q502 : ¬ (200 ≤ 167)) => ?_)
  refine wi_aload_n (i := 0) (x := 239) (nx := 10) (r1 := 0) (r2 := 0) (r3 := 0) rfl rfl ?_
  refine wi_iload_n (i := 1) (e := 167) (nx := 11) (r1 := 0) (r2 := 0) (r3 := 0) rfl rfl ?_
  refine wi_iconst (n := 0) (nx := 12) (r1 := 0) (r2 := 0) (r3 := 0) rfl ?_
  refine wr_is (k0 := 239) (a := 167) (f := 167) (x := 0) (bl := -2147483648) (bh := 2147483647) (nx := 13) (r1 := 0) (r2 := 0) (r3 := 0) rfl (by decide) rfl (by omega) (by omega) (by decide) g500 rfl (by omega) (fun h503 g503 w503 u503 => ?_)
  have F504 := F501.then rfl u503
  refine wr_iincL (i := 1) (n := 1) (v := 167) (168) ([(1, vi 168), (0, .ref 239)]) (nx := 16) (r1 := 0) (r2 := 0) (r3 := 0) rfl rfl (by decide) rfl ?_
  refine wi_goto (nx := 19) (r1 := 2) (r2 := 0) (r3 := 0) rfl ?_
  refine wi_iload_n (i := 1) (e := 168) (nx := 3) (r1 := 0) (r2 := 0) (r3 := 0) rfl rfl ?_
  refine wi_sipush (n := 200) (nx := 6) (r1 := 0) (r2 := 0) (r3 := 0) rfl (by decide) ?_
  refine wi_icmp (cd := .ge) (nx := 9) (r1 := 19) (r2 := 0) (r3 := 0) rfl (by omega) (by omega) (fun (q505 : 200 ≤ 168) => by exfalso; omega) (fun (q505 : ¬ (200 ≤ 168)) => ?_)
  refine wi_aload_n (i := 0) (x := 239) (nx := 10) (r1 := 0) (r2 := 0) (r3 := 0) rfl rfl ?_
  refine wi_iload_n (i := 1) (e := 168) (nx := 11) (r1 := 0) (r2 := 0) (r3 := 0) rfl rfl ?_
  refine wi_iconst (n := 0) (nx := 12) (r1 := 0) (r2 := 0) (r3 := 0) rfl ?_
  refine wr_is (k0 := 239) (a := 168) (f := 168) (x := 0) (bl := -2147483648) (bh := 2147483647) (nx := 13) (r1 := 0) (r2 := 0) (r3 := 0) rfl (by decide) rfl (by omega) (by omega) (by decide) g503 rfl (by omega) (fun h506 g506 w506 u506 => ?_)
  have F507 := F504.then rfl u506
  refine wr_iincL (i := 1) (n := 1) (v := 168) (169) ([(1, vi 169), (0, .ref 239)]) (nx := 16) (r1 := 0) (r2 := 0) (r3 := 0) rfl rfl (by decide) rfl ?_
  refine wi_goto (nx := 19) (r1 := 2) (r2 := 0) (r3 := 0) rfl ?_
  refine wi_iload_n (i := 1) (e := 169) (nx := 3) (r1 := 0) (r2 := 0) (r3 := 0) rfl rfl ?_
  refine wi_sipush (n := 200) (nx := 6) (r1 := 0) (r2 := 0) (r3 := 0) rfl (by decide) ?_
  refine wi_icmp (cd := .ge) (nx := 9) (r1 := 19) (r2 := 0) (r3 := 0) rfl (by omega) (by omega) (fun (q508 : 200 ≤ 169) => by exfalso; omega) (fun (q508 : ¬ (200 ≤ 169)) => ?_)
  refine wi_aload_n (i := 0) (x := 239) (nx := 10) (r1 := 0) (r2 := 0) (r3 := 0) rfl rfl ?_
  refine wi_iload_n (i := 1) (e := 169) (nx := 11) (r1 := 0) (r2 := 0) (r3 := 0) rfl rfl ?_
  refine wi_iconst (n := 0) (nx := 12) (r1 := 0) (r2 := 0) (r3 := 0) rfl ?_
  refine wr_is (k0 := 239) (a := 169) (f := 169) (x := 0) (bl := -2147483648) (bh := 2147483647) (nx := 13) (r1 := 0) (r2 := 0) (r3 := 0) rfl (by decide) rfl (by omega) (by omega) (by decide) g506 rfl (by omega) (fun h509 g509 w509 u509 => ?_)
  have F510 := F507.then rfl u509
  refine wr_iincL (i := 1) (n := 1) (v := 169) (170) ([(1, vi 170), (0, .ref 239)]) (nx := 16) (r1 := 0) (r2 := 0) (r3 := 0) rfl rfl (by decide) rfl ?_
  refine wi_goto (nx := 19) (r1 := 2) (r2 := 0) (r3 := 0) rfl ?_
  refine wi_iload_n (i := 1) (e := 170) (nx := 3) (r1 := 0) (r2 := 0) (r3 := 0) rfl rfl ?_
  refine wi_sipush (n := 200) (nx := 6) (r1 := 0) (r2 := 0) (r3 := 0) rfl (by decide) ?_
  refine wi_icmp (cd := .ge) (nx := 9) (r1 := 19) (r2 := 0) (r3 := 0) rfl (by omega) (by omega) (fun (q511 : 200 ≤ 170) => by exfalso; omega) (fun (q511 : ¬ (200 ≤ 170)) => ?_)
  refine wi_aload_n (i := 0) (x := 239) (nx := 10) (r1 := 0) (r2 := 0) (r3 := 0) rfl rfl ?_
  refine wi_iload_n (i := 1) (e := 170) (nx := 11) (r1 := 0) (r2 := 0) (r3 := 0) rfl rfl ?_
  refine wi_iconst (n := 0) (nx := 12) (r1 := 0) (r2 := 0) (r3 := 0) rfl ?_
  refine wr_is (k0 := 239) (a := 170) (f := 170) (x := 0) (bl := -2147483648) (bh := 2147483647) (nx := 13) (r1 := 0) (r2 := 0) (r3 := 0) rfl (by decide) rfl (by omega) (by omega) (by decide) g509 rfl (by omega) (fun h512 g512 w512 u512 => ?_)
  have F513 := F510.then rfl u512
  refine wr_iincL (i := 1) (n := 1) (v := 170) (171) ([(1, vi 171), (0, .ref 239)]) (nx := 16) (r1 := 0) (r2 := 0) (r3 := 0) rfl rfl (by decide) rfl ?_
  refine wi_goto (nx := 19) (r1 := 2) (r2 := 0) (r3 := 0) rfl ?_
  refine wi_iload_n (i := 1) (e := 171) (nx := 3) (r1 := 0) (r2 := 0) (r3 := 0) rfl rfl ?_
  refine wi_sipush (n := 200) (nx := 6) (r1 := 0) (r2 := 0) (r3 := 0) rfl (by decide) ?_
  refine wi_icmp (cd := .ge) (nx := 9) (r1 := 19) (r2 := 0) (r3 := 0) rfl (by omega) (by omega) (fun (q514 : 200 ≤ 171) => by exfalso; omega) (fun (q514 : ¬ (200 ≤ 171)) => ?_)
  refine wi_aload_n (i := 0) (x := 239) (nx := 10) (r1 := 0) (r2 := 0) (r3 := 0) rfl rfl ?_
  refine wi_iload_n (i := 1) (e := 171) (nx := 11) (r1 := 0) (r2 := 0) (r3 := 0) rfl rfl ?_
  refine wi_iconst (n := 0) (nx := 12) (r1 := 0) (r2 := 0) (r3 := 0) rfl ?_
  refine wr_is (k0 := 239) (a := 171) (f := 171) (x := 0) (bl := -2147483648) (bh := 2147483647) (nx := 13) (r1 := 0) (r2 := 0) (r3 := 0) rfl (by decide) rfl (by omega) (by omega) (by decide) g512 rfl (by omega) (fun h515 g515 w515 u515 => ?_)
  have F516 := F513.then rfl u515
  refine wr_iincL (i := 1) (n := 1) (v := 171) (172) ([(1, vi 172), (0, .ref 239)]) (nx := 16) (r1 := 0) (r2 := 0) (r3 := 0) rfl rfl (by decide) rfl ?_
  refine wi_goto (nx := 19) (r1 := 2) (r2 := 0) (r3 := 0) rfl ?_
  refine wi_iload_n (i := 1) (e := 172) (nx := 3) (r1 := 0) (r2 := 0) (r3 := 0) rfl rfl ?_
  refine wi_sipush (n := 200) (nx := 6) (r1 := 0) (r2 := 0) (r3 := 0) rfl (by decide) ?_
  refine wi_icmp (cd := .ge) (nx := 9) (r1 := 19) (r2 := 0) (r3 := 0) rfl (by omega) (by omega) (fun (q517 : 200 ≤ 172) => by exfalso; omega) (fun (q517 : ¬ (200 ≤ 172)) => ?_)
  refine wi_aload_n (i := 0) (x := 239) (nx := 10) (r1 := 0) (r2 := 0) (r3 := 0) rfl rfl ?_
  refine wi_iload_n (i := 1) (e := 172) (nx := 11) (r1 := 0) (r2 := 0) (r3 := 0) rfl rfl ?_
  refine wi_iconst (n := 0) (nx := 12) (r1 := 0) (r2 := 0) (r3 := 0) rfl ?_
  refine wr_is (k0 := 239) (a := 172) (f := 172) (x := 0) (bl := -2147483648) (bh := 2147483647) (nx := 13) (r1 := 0) (r2 := 0) (r3 := 0) rfl (by decide) rfl (by omega) (by omega) (by decide) g515 rfl (by omega) (fun h518 g518 w518 u518 => ?_)
  have F519 := F516.then rfl u518
  refine wr_iincL (i := 1) (n := 1) (v := 172) (173) ([(1, vi 173), (0, .ref 239)]) (nx := 16) (r1 := 0) (r2 := 0) (r3 := 0) rfl rfl (by decide) rfl ?_
  refine wi_goto (nx := 19) (r1 := 2) (r2 := 0) (r3 := 0) rfl ?_
  refine wi_iload_n (i := 1) (e := 173) (nx := 3) (r1 := 0) (r2 := 0) (r3 := 0) rfl rfl ?_
  refine wi_sipush (n := 200) (nx := 6) (r1 := 0) (r2 := 0) (r3 := 0) rfl (by decide) ?_
  refine wi_icmp (cd := .ge) (nx := 9) (r1 := 19) (r2 := 0) (r3 := 0) rfl (by omega) (by omega) (fun (q520 : 200 ≤ 173) => by exfalso; omega) (fun (q520 : ¬ (200 ≤ 173)) => ?_)
  refine wi_aload_n (i := 0) (x := 239) (nx := 10) (r1 := 0) (r2 := 0) (r3 := 0) rfl rfl ?_
  refine wi_iload_n (i := 1) (e := 173) (nx := 11) (r1 := 0) (r2 := 0) (r3 := 0) rfl rfl ?_
  refine wi_iconst (n := 0) (nx := 12) (r1 := 0) (r2 := 0) (r3 := 0) rfl ?_
  refine wr_is (k0 := 239) (a := 173) (f := 173) (x := 0) (bl := -2147483648) (bh := 2147483647) (nx := 13) (r1 := 0) (r2 := 0) (r3 := 0) rfl (by decide) rfl (by omega) (by omega) (by decide) g518 rfl (by omega) (fun h521 g521 w521 u521 => ?_)
  have F522 := F519.then rfl u521
  refine wr_iincL (i := 1) (n := 1) (v := 173) (174) ([(1, vi 174), (0, .ref 239)]) (nx := 16) (r1 := 0) (r2 := 0) (r3 := 0) rfl rfl (by decide) rfl ?_
  refine wi_goto (nx := 19) (r1 := 2) (r2 := 0) (r3 := 0) rfl ?_
  refine wi_iload_n (i := 1) (e := 174) (nx := 3) (r1 := 0) (r2 := 0) (r3 := 0) rfl rfl ?_
  refine wi_sipush (n := 200) (nx := 6) (r1 := 0) (r2 := 0) (r3 := 0) rfl (by decide) ?_
  refine wi_icmp (cd := .ge) (nx := 9) (r1 := 19) (r2 := 0) (r3 := 0) rfl (by omega) (by omega) (fun (q523 : 200 ≤ 174) => by exfalso; omega) (fun (q523 : ¬ (200 ≤ 174)) => ?_)
  refine wi_aload_n (i := 0) (x := 239) (nx := 10) (r1 := 0) (r2 := 0) (r3 := 0) rfl rfl ?_
  refine wi_iload_n (i := 1) (e := 174) (nx := 11) (r1 := 0) (r2 := 0) (r3 := 0) rfl rfl ?_
  refine wi_iconst (n := 0) (nx := 12) (r1 := 0) (r2 := 0) (r3 := 0) rfl ?_
  refine wr_is (k0 := 239) (a := 174) (f := 174) (x := 0) (bl := -2147483648) (bh := 2147483647) (nx := 13) (r1 := 0) (r2 := 0) (r3 := 0) rfl (by decide) rfl (by omega) (by omega) (by decide) g521 rfl (by omega) (fun h524 g524 w524 u524 => ?_)
  have F525 := F522.then rfl u524
  refine wr_iincL (i := 1) (n := 1) (v := 174) (175) ([(1, vi 175), (0, .ref 239)]) (nx := 16) (r1 := 0) (r2 := 0) (r3 := 0) rfl rfl (by decide) rfl ?_
  refine wi_goto (nx := 19) (r1 := 2) (r2 := 0) (r3 := 0) rfl ?_
  refine wi_iload_n (i := 1) (e := 175) (nx := 3) (r1 := 0) (r2 := 0) (r3 := 0) rfl rfl ?_
  refine wi_sipush (n := 200) (nx := 6) (r1 := 0) (r2 := 0) (r3 := 0) rfl (by decide) ?_
  refine wi_icmp (cd := .ge) (nx := 9) (r1 := 19) (r2 := 0) (r3 := 0) rfl (by omega) (by omega) (fun (q526 : 200 ≤ 175) => by exfalso; omega) (fun (q526 : ¬ (200 ≤ 175)) => ?_)
  refine wi_aload_n (i := 0) (x := 239) (nx := 10) (r1 := 0) (r2 := 0) (r3 := 0) rfl rfl ?_
  refine wi_iload_n (i := 1) (e := 175) (nx := 11) (r1 := 0) (r2 := 0) (r3 := 0) rfl rfl ?_
  refine wi_iconst (n := 0) (nx := 12) (r1 := 0) (r2 := 0) (r3 := 0) rfl ?_
  refine wr_is (k0 := 239) (a := 175) (f := 175) (x := 0) (bl := -2147483648) (bh := 2147483647) (nx := 13) (r1 := 0) (r2 := 0) (r3 := 0) rfl (by decide) rfl (by omega) (by omega) (by decide) g524 rfl (by omega) (fun h527 g527 w527 u527 => ?_)
  have F528 := F525.then rfl u527
  refine wr_iincL (i := 1) (n := 1) (v := 175) (176) ([(1, vi 176), (0, .ref 239)]) (nx := 16) (r1 := 0) (r2 := 0) (r3 := 0) rfl rfl (by decide) rfl ?_
  refine wi_goto (nx := 19) (r1 := 2) (r2 := 0) (r3 := 0) rfl ?_
  refine wi_iload_n (i := 1) (e := 176) (nx := 3) (r1 := 0) (r2 := 0) (r3 := 0) rfl rfl ?_
  refine wi_sipush (n := 200) (nx := 6) (r1 := 0) (r2 := 0) (r3 := 0) rfl (by decide) ?_
  refine wi_icmp (cd := .ge) (nx := 9) (r1 := 19) (r2 := 0) (r3 := 0) rfl (by omega) (by omega) (fun (q529 : 200 ≤ 176) => by exfalso; omega) (fun (q529 : ¬ (200 ≤ 176)) => ?_)
  refine wi_aload_n (i := 0) (x := 239) (nx := 10) (r1 := 0) (r2 := 0) (r3 := 0) rfl rfl ?_
  refine wi_iload_n (i := 1) (e := 176) (nx := 11) (r1 := 0) (r2 := 0) (r3 := 0) rfl rfl ?_
  refine wi_iconst (n := 0) (nx := 12) (r1 := 0) (r2 := 0) (r3 := 0) rfl ?_
  refine wr_is (k0 := 239) (a := 176) (f := 176) (x := 0) (bl := -2147483648) (bh := 2147483647) (nx := 13) (r1 := 0) (r2 := 0) (r3 := 0) rfl (by decide) rfl (by omega) (by omega) (by decide) g527 rfl (by omega) (fun h530 g530 w530 u530 => ?_)
  have F531 := F528.then rfl u530
  refine wr_iincL (i := 1) (n := 1) (v := 176) (177) ([(1, vi 177), (0, .ref 239)]) (nx := 16) (r1 := 0) (r2 := 0) (r3 := 0) rfl rfl (by decide) rfl ?_
  refine wi_goto (nx := 19) (r1 := 2) (r2 := 0) (r3 := 0) rfl ?_
  refine wi_iload_n (i := 1) (e := 177) (nx := 3) (r1 := 0) (r2 := 0) (r3 := 0) rfl rfl ?_
  refine wi_sipush (n := 200) (nx := 6) (r1 := 0) (r2 := 0) (r3 := 0) rfl (by decide) ?_
  refine wi_icmp (cd := .ge) (nx := 9) (r1 := 19) (r2 := 0) (r3 := 0) rfl (by omega) (by omega) (fun (q532 : 200 ≤ 177) => by exfalso; omega) (fun (q532 : ¬ (200 ≤ 177)) => ?_)
  refine wi_aload_n (i := 0) (x := 239) (nx := 10) (r1 := 0) (r2 := 0) (r3 := 0) rfl rfl ?_
  refine wi_iload_n (i := 1) (e := 177) (nx := 11) (r1 := 0) (r2 := 0) (r3 := 0) rfl rfl ?_
  refine wi_iconst (n := 0) (nx := 12) (r1 := 0) (r2 := 0) (r3 := 0) rfl ?_
  refine wr_is (k0 := 239) (a := 177) (f := 177) (x := 0) (bl := -2147483648) (bh := 2147483647) (nx := 13) (r1 := 0) (r2 := 0) (r3 := 0) rfl (by decide) rfl (by omega) (by omega) (by decide) g530 rfl (by omega) (fun h533 g533 w533 u533 => ?_)
  have F534 := F531.then rfl u533
  refine wr_iincL (i := 1) (n := 1) (v := 177) (178) ([(1, vi 178), (0, .ref 239)]) (nx := 16) (r1 := 0) (r2 := 0) (r3 := 0) rfl rfl (by decide) rfl ?_
  refine wi_goto (nx := 19) (r1 := 2) (r2 := 0) (r3 := 0) rfl ?_
  refine wi_iload_n (i := 1) (e := 178) (nx := 3) (r1 := 0) (r2 := 0) (r3 := 0) rfl rfl ?_
  refine wi_sipush (n := 200) (nx := 6) (r1 := 0) (r2 := 0) (r3 := 0) rfl (by decide) ?_
  refine wi_icmp (cd := .ge) (nx := 9) (r1 := 19) (r2 := 0) (r3 := 0) rfl (by omega) (by omega) (fun (q535 : 200 ≤ 178) => by exfalso; omega) (fun (q535 : ¬ (200 ≤ 178)) => ?_)
  refine wi_aload_n (i := 0) (x := 239) (nx := 10) (r1 := 0) (r2 := 0) (r3 := 0) rfl rfl ?_
  refine wi_iload_n (i := 1) (e := 178) (nx := 11) (r1 := 0) (r2 := 0) (r3 := 0) rfl rfl ?_
  refine wi_iconst (n := 0) (nx := 12) (r1 := 0) (r2 := 0) (r3 := 0) rfl ?_
  refine wr_is (k0 := 239) (a := 178) (f := 178) (x := 0) (bl := -2147483648) (bh := 2147483647) (nx := 13) (r1 := 0) (r2 := 0) (r3 := 0) rfl (by decide) rfl (by omega) (by omega) (by decide) g533 rfl (by omega) (fun h536 g536 w536 u536 => ?_)
  have F537 := F534.then rfl u536
  refine wr_iincL (i := 1) (n := 1) (v := 178) (179) ([(1, vi 179), (0, .ref 239)]) (nx := 16) (r1 := 0) (r2 := 0) (r3 := 0) rfl rfl (by decide) rfl ?_
  refine wi_goto (nx := 19) (r1 := 2) (r2 := 0) (r3 := 0) rfl ?_
  refine wi_iload_n (i := 1) (e := 179) (nx := 3) (r1 := 0) (r2 := 0) (r3 := 0) rfl rfl ?_
  refine wi_sipush (n := 200) (nx := 6) (r1 := 0) (r2 := 0) (r3 := 0) rfl (by decide) ?_
  refine wi_icmp (cd := .ge) (nx := 9) (r1 := 19) (r2 := 0) (r3 := 0) rfl (by omega) (by omega) (fun (q538 : 200 ≤ 179) => by exfalso; omega) (fun (q538 : ¬ (200 ≤ 179)) => ?_)
  refine wi_aload_n (i := 0) (x := 239) (nx := 10) (r1 := 0) (r2 := 0) (r3 := 0) rfl rfl ?_
  refine wi_iload_n (i := 1) (e := 179) (nx := 11) (r1 := 0) (r2 := 0) (r3 := 0) rfl rfl ?_
  refine wi_iconst (n := 0) (nx := 12) (r1 := 0) (r2 := 0) (r3 := 0) rfl ?_
  refine wr_is (k0 := 239) (a := 179) (f := 179) (x := 0) (bl := -2147483648) (bh := 2147483647) (nx := 13) (r1 := 0) (r2 := 0) (r3 := 0) rfl (by decide) rfl (by omega) (by omega) (by decide) g536 rfl (by omega) (fun h539 g539 w539 u539 => ?_)
  have F540 := F537.then rfl u539
  refine wr_iincL (i := 1) (n := 1) (v := 179) (180) ([(1, vi 180), (0, .ref 239)]) (nx := 16) (r1 := 0) (r2 := 0) (r3 := 0) rfl rfl (by decide) rfl ?_
  refine wi_goto (nx := 19) (r1 := 2) (r2 := 0) (r3 := 0) rfl ?_
  refine wi_iload_n (i := 1) (e := 180) (nx := 3) (r1 := 0) (r2 := 0) (r3 := 0) rfl rfl ?_
  refine wi_sipush (n := 200) (nx := 6) (r1 := 0) (r2 := 0) (r3 := 0) rfl (by decide) ?_
  refine wi_icmp (cd := .ge) (nx := 9) (r1 := 19) (r2 := 0) (r3 := 0) rfl (by omega) (by omega) (fun (q541 : 200 ≤ 180) => by exfalso; omega) (fun (q541 : ¬ (200 ≤ 180)) => ?_)
  refine wi_aload_n (i := 0) (x := 239) (nx := 10) (r1 := 0) (r2 := 0) (r3 := 0) rfl rfl ?_
  refine wi_iload_n (i := 1) (e := 180) (nx := 11) (r1 := 0) (r2 := 0) (r3 := 0) rfl rfl ?_
  refine wi_iconst (n := 0) (nx := 12) (r1 := 0) (r2 := 0) (r3 := 0) rfl ?_
  refine wr_is (k0 := 239) (a := 180) (f := 180) (x := 0) (bl := -2147483648) (bh := 2147483647) (nx := 13) (r1 := 0) (r2 := 0) (r3 := 0) rfl (by decide) rfl (by omega) (by omega) (by decide) g539 rfl (by omega) (fun h542 g542 w542 u542 => ?_)
  have F543 := F540.then rfl u542
  refine wr_iincL (i := 1) (n := 1) (v := 180) (181) ([(1, vi 181), (0, .ref 239)]) (nx := 16) (r1 := 0) (r2 := 0) (r3 := 0) rfl rfl (by decide) rfl ?_
  refine wi_goto (nx := 19) (r1 := 2) (r2 := 0) (r3 := 0) rfl ?_
  refine wi_iload_n (i := 1) (e := 181) (nx := 3) (r1 := 0) (r2 := 0) (r3 := 0) rfl rfl ?_
  refine wi_sipush (n := 200) (nx := 6) (r1 := 0) (r2 := 0) (r3 := 0) rfl (by decide) ?_
  refine wi_icmp (cd := .ge) (nx := 9) (r1 := 19) (r2 := 0) (r3 := 0) rfl (by omega) (by omega) (fun (q544 : 200 ≤ 181) => by exfalso; omega) (fun (q544 : ¬ (200 ≤ 181)) => ?_)
  refine wi_aload_n (i := 0) (x := 239) (nx := 10) (r1 := 0) (r2 := 0) (r3 := 0) rfl rfl ?_
  refine wi_iload_n (i := 1) (e := 181) (nx := 11) (r1 := 0) (r2 := 0) (r3 := 0) rfl rfl ?_
  refine wi_iconst (n := 0) (nx := 12) (r1 := 0) (r2 := 0) (r3 := 0) rfl ?_
  refine wr_is (k0 := 239) (a := 181) (f := 181) (x := 0) (bl := -2147483648) (bh := 2147483647) (nx := 13) (r1 := 0) (r2 := 0) (r3 := 0) rfl (by decide) rfl (by omega) (by omega) (by decide) g542 rfl (by omega) (fun h545 g545 w545 u545 => ?_)
  have F546 := F543.then rfl u545
  refine wr_iincL (i := 1) (n := 1) (v := 181) (182) ([(1, vi 182), (0, .ref 239)]) (nx := 16) (r1 := 0) (r2 := 0) (r3 := 0) rfl rfl (by decide) rfl ?_
  refine wi_goto (nx := 19) (r1 := 2) (r2 := 0) (r3 := 0) rfl ?_
  refine wi_iload_n (i := 1) (e := 182) (nx := 3) (r1 := 0) (r2 := 0) (r3 := 0) rfl rfl ?_
  refine wi_sipush (n := 200) (nx := 6) (r1 := 0) (r2 := 0) (r3 := 0) rfl (by decide) ?_
  refine wi_icmp (cd := .ge) (nx := 9) (r1 := 19) (r2 := 0) (r3 := 0) rfl (by omega) (by omega) (fun (q547 : 200 ≤ 182) => by exfalso; omega) (fun (q547 : ¬ (200 ≤ 182)) => ?_)
  refine wi_aload_n (i := 0) (x := 239) (nx := 10) (r1 := 0) (r2 := 0) (r3 := 0) rfl rfl ?_
  refine wi_iload_n (i := 1) (e := 182) (nx := 11) (r1 := 0) (r2 := 0) (r3 := 0) rfl rfl ?_
  refine wi_iconst (n := 0) (nx := 12) (r1 := 0) (r2 := 0) (r3 := 0) rfl ?_
  refine wr_is (k0 := 239) (a := 182) (f := 182) (x := 0) (bl := -2147483648) (bh := 2147483647) (nx := 13) (r1 := 0) (r2 := 0) (r3 := 0) rfl (by decide) rfl (by omega) (by omega) (by decide) g545 rfl (by omega) (fun h548 g548 w548 u548 => ?_)
  have F549 := F546.then rfl u548
  refine wr_iincL (i := 1) (n := 1) (v := 182) (183) ([(1, vi 183), (0, .ref 239)]) (nx := 16) (r1 := 0) (r2 := 0) (r3 := 0) rfl rfl (by decide) rfl ?_
  refine wi_goto (nx := 19) (r1 := 2) (r2 := 0) (r3 := 0) rfl ?_
  refine wi_iload_n (i := 1) (e := 183) (nx := 3) (r1 := 0) (r2 := 0) (r3 := 0) rfl rfl ?_
  refine wi_sipush (n := 200) (nx := 6) (r1 := 0) (r2 := 0) (r3 := 0) rfl (by decide) ?_
  refine wi_icmp (cd := .ge) (nx := 9) (r1 := 19) (r2 := 0) (r3 := 0) rfl (by omega) (by omega) (fun (q550 : 200 ≤ 183) => by exfalso; omega) (fun (q550 : ¬ (200 ≤ 183)) => ?_)
  refine wi_aload_n (i := 0) (x := 239) (nx := 10) (r1 := 0) (r2 := 0) (r3 := 0) rfl rfl ?_
  refine wi_iload_n (i := 1) (e := 183) (nx := 11) (r1 := 0) (r2 := 0) (r3 := 0) rfl rfl ?_
  refine wi_iconst (n := 0) (nx := 12) (r1 := 0) (r2 := 0) (r3 := 0) rfl ?_
  refine wr_is (k0 := 239) (a := 183) (f := 183) (x := 0) (bl := -2147483648) (bh := 2147483647) (nx := 13) (r1 := 0) (r2 := 0) (r3 := 0) rfl (by decide) rfl (by omega) (by omega) (by decide) g548 rfl (by omega) (fun h551 g551 w551 u551 => ?_)
  have F552 := F549.then rfl u551
  refine wr_iincL (i := 1) (n := 1) (v := 183) (184) ([(1, vi 184), (0, .ref 239)]) (nx := 16) (r1 := 0) (r2 := 0) (r3 := 0) rfl rfl (by decide) rfl ?_
  refine wi_goto (nx := 19) (r1 := 2) (r2 := 0) (r3 := 0) rfl ?_
  refine wi_iload_n (i := 1) (e := 184) (nx := 3) (r1 := 0) (r2 := 0) (r3 := 0) rfl rfl ?_
  refine wi_sipush (n := 200) (nx := 6) (r1 := 0) (r2 := 0) (r3 := 0) rfl (by decide) ?_
  refine wi_icmp (cd := .ge) (nx := 9) (r1 := 19) (r2 := 0) (r3 := 0) rfl (by omega) (by omega) (fun (q553 : 200 ≤ 184) => by exfalso; omega) (fun (q553 : ¬ (200 ≤ 184)) => ?_)
  refine wi_aload_n (i := 0) (x := 239) (nx := 10) (r1 := 0) (r2 := 0) (r3 := 0) rfl rfl ?_
  refine wi_iload_n (i := 1) (e := 184) (nx := 11) (r1 := 0) (r2 := 0) (r3 := 0) rfl rfl ?_
  refine wi_iconst (n := 0) (nx := 12) (r1 := 0) (r2 := 0) (r3 := 0) rfl ?_
  refine wr_is (k0 := 239) (a := 184) (f := 184) (x := 0) (bl := -2147483648) (bh := 2147483647) (nx := 13) (r1 := 0) (r2 := 0) (r3 := 0) rfl (by decide) rfl (by omega) (by omega) (by decide) g551 rfl (by omega) (fun h554 g554 w554 u554 => ?_)
  have F555 := F552.then rfl u554
  refine wr_iincL (i := 1) (n := 1) (v := 184) (185) ([(1, vi 185), (0, .ref 239)]) (nx := 16) (r1 := 0) (r2 := 0) (r3 := 0) rfl rfl (by decide) rfl ?_
  refine wi_goto (nx := 19) (r1 := 2) (r2 := 0) (r3 := 0) rfl ?_
  refine wi_iload_n (i := 1) (e := 185) (nx := 3) (r1 := 0) (r2 := 0) (r3 := 0) rfl rfl ?_
  refine wi_sipush (n := 200) (nx := 6) (r1 := 0) (r2 := 0) (r3 := 0) rfl (by decide) ?_
  refine wi_icmp (cd := .ge) (nx := 9) (r1 := 19) (r2 := 0) (r3 := 0) rfl (by omega) (by omega) (fun (q556 : 200 ≤ 185) => by exfalso; omega) (fun (q556 : ¬ (200 ≤ 185)) => ?_)
  refine wi_aload_n (i := 0) (x := 239) (nx := 10) (r1 := 0) (r2 := 0) (r3 := 0) rfl rfl ?_
  refine wi_iload_n (i := 1) (e := 185) (nx := 11) (r1 := 0) (r2 := 0) (r3 := 0) rfl rfl ?_
  refine wi_iconst (n := 0) (nx := 12) (r1 := 0) (r2 := 0) (r3 := 0) rfl ?_
  refine wr_is (k0 := 239) (a := 185) (f := 185) (x := 0) (bl := -2147483648) (bh := 2147483647) (nx := 13) (r1 := 0) (r2 := 0) (r3 := 0) rfl (by decide) rfl (by omega) (by omega) (by decide) g554 rfl (by omega) (fun h557 g557 w557 u557 => ?_)
  have F558 := F555.then rfl u557
  refine wr_iincL (i := 1) (n := 1) (v := 185) (186) ([(1, vi 186), (0, .ref 239)]) (nx := 16) (r1 := 0) (r2 := 0) (r3 := 0) rfl rfl (by decide) rfl ?_
  refine wi_goto (nx := 19) (r1 := 2) (r2 := 0) (r3 := 0) rfl ?_
  refine wi_iload_n (i := 1) (e := 186) (nx := 3) (r1 := 0) (r2 := 0) (r3 := 0) rfl rfl ?_
  refine wi_sipush (n := 200) (nx := 6) (r1 := 0) (r2 := 0) (r3 := 0) rfl (by decide) ?_
  refine wi_icmp (cd := .ge) (nx := 9) (r1 := 19) (r2 := 0) (r3 := 0) rfl (by omega) (by omega) (fun (q559 : 200 ≤ 186) => by exfalso; omega) (fun (q559 : ¬ (200 ≤ 186)) => ?_)
  refine wi_aload_n (i := 0) (x := 239) (nx := 10) (r1 := 0) (r2 := 0) (r3 := 0) rfl rfl ?_
  refine wi_iload_n (i := 1) (e := 186) (nx := 11) (r1 := 0) (r2 := 0) (r3 := 0) rfl rfl ?_
  refine wi_iconst (n := 0) (nx := 12) (r1 := 0) (r2 := 0) (r3 := 0) rfl ?_
  refine wr_is (k0 := 239) (a := 186) (f := 186) (x := 0) (bl := -2147483648) (bh := 2147483647) (nx := 13) (r1 := 0) (r2 := 0) (r3 := 0) rfl (by decide) rfl (by omega) (by omega) (by decide) g557 rfl (by omega) (fun h560 g560 w560 u560 => ?_)
  have F561 := F558.then rfl u560
  refine wr_iincL (i := 1) (n := 1) (v := 186) (187) ([(1, vi 187), (0, .ref 239)]) (nx := 16) (r1 := 0) (r2 := 0) (r3 := 0) rfl rfl (by decide) rfl ?_
  refine wi_goto (nx := 19) (r1 := 2) (r2 := 0) (r3 := 0) rfl ?_
  refine wi_iload_n (i := 1) (e := 187) (nx := 3) (r1 := 0) (r2 := 0) (r3 := 0) rfl rfl ?_
  refine wi_sipush (n := 200) (nx := 6) (r1 := 0) (r2 := 0) (r3 := 0) rfl (by decide) ?_
  refine wi_icmp (cd := .ge) (nx := 9) (r1 := 19) (r2 := 0) (r3 := 0) rfl (by omega) (by omega) (fun (q562 : 200 ≤ 187) => by exfalso; omega) (fun (q562 : ¬ (200 ≤ 187)) => ?_)
  refine wi_aload_n (i := 0) (x := 239) (nx := 10) (r1 := 0) (r2 := 0) (r3 := 0) rfl rfl ?_
  refine wi_iload_n (i := 1) (e := 187) (nx := 11) (r1 := 0) (r2 := 0) (r3 := 0) rfl rfl ?_
  refine wi_iconst (n := 0) (nx := 12) (r1 := 0) (r2 := 0) (r3 := 0) rfl ?_
  refine wr_is (k0 := 239) (a := 187) (f := 187) (x := 0) (bl := -2147483648) (bh := 2147483647) (nx := 13) (r1 := 0) (r2 := 0) (r3 := 0) rfl (by decide) rfl (by omega) (by omega) (by decide) g560 rfl (by omega) (fun h563 g563 w563 u563 => ?_)
  have F564 := F561.then rfl u563
  refine wr_iincL (i := 1) (n := 1) (v := 187) (188) ([(1, vi 188), (0, .ref 239)]) (nx := 16) (r1 := 0) (r2 := 0) (r3 := 0) rfl rfl (by decide) rfl ?_
  refine wi_goto (nx := 19) (r1 := 2) (r2 := 0) (r3 := 0) rfl ?_
  refine wi_iload_n (i := 1) (e := 188) (nx := 3) (r1 := 0) (r2 := 0) (r3 := 0) rfl rfl ?_
  refine wi_sipush (n := 200) (nx := 6) (r1 := 0) (r2 := 0) (r3 := 0) rfl (by decide) ?_
  refine wi_icmp (cd := .ge) (nx := 9) (r1 := 19) (r2 := 0) (r3 := 0) rfl (by omega) (by omega) (fun (q565 : 200 ≤ 188) => by exfalso; omega) (fun (q565 : ¬ (200 ≤ 188)) => ?_)
  refine wi_aload_n (i := 0) (x := 239) (nx := 10) (r1 := 0) (r2 := 0) (r3 := 0) rfl rfl ?_
  refine wi_iload_n (i := 1) (e := 188) (nx := 11) (r1 := 0) (r2 := 0) (r3 := 0) rfl rfl ?_
  refine wi_iconst (n := 0) (nx := 12) (r1 := 0) (r2 := 0) (r3 := 0) rfl ?_
  refine wr_is (k0 := 239) (a := 188) (f := 188) (x := 0) (bl := -2147483648) (bh := 2147483647) (nx := 13) (r1 := 0) (r2 := 0) (r3 := 0) rfl (by decide) rfl (by omega) (by omega) (by decide) g563 rfl (by omega) (fun h566 g566 w566 u566 => ?_)
  have F567 := F564.then rfl u566
  refine wr_iincL (i := 1) (n := 1) (v := 188) (189) ([(1, vi 189), (0, .ref 239)]) (nx := 16) (r1 := 0) (r2 := 0) (r3 := 0) rfl rfl (by decide) rfl ?_
  refine wi_goto (nx := 19) (r1 := 2) (r2 := 0) (r3 := 0) rfl ?_
  refine wi_iload_n (i := 1) (e := 189) (nx := 3) (r1 := 0) (r2 := 0) (r3 := 0) rfl rfl ?_
  refine wi_sipush (n := 200) (nx := 6) (r1 := 0) (r2 := 0) (r3 := 0) rfl (by decide) ?_
  refine wi_icmp (cd := .ge) (nx := 9) (r1 := 19) (r2 := 0) (r3 := 0) rfl (by omega) (by omega) (fun (q568 : 200 ≤ 189) => by exfalso; omega) (fun (q568 : ¬ (200 ≤ 189)) => ?_)
  refine wi_aload_n (i := 0) (x := 239) (nx := 10) (r1 := 0) (r2 := 0) (r3 := 0) rfl rfl ?_
  refine wi_iload_n (i := 1) (e := 189) (nx := 11) (r1 := 0) (r2 := 0) (r3 := 0) rfl rfl ?_
  refine wi_iconst (n := 0) (nx := 12) (r1 := 0) (r2 := 0) (r3 := 0) rfl ?_
  refine wr_is (k0 := 239) (a := 189) (f := 189) (x := 0) (bl := -2147483648) (bh := 2147483647) (nx := 13) (r1 := 0) (r2 := 0) (r3 := 0) rfl (by decide) rfl (by omega) (by omega) (by decide) g566 rfl (by omega) (fun h569 g569 w569 u569 => ?_)
  have F570 := F567.then rfl u569
  refine wr_iincL (i := 1) (n := 1) (v := 189) (190) ([(1, vi 190), (0, .ref 239)]) (nx := 16) (r1 := 0) (r2 := 0) (r3 := 0) rfl rfl (by decide) rfl ?_
  refine wi_goto (nx := 19) (r1 := 2) (r2 := 0) (r3 := 0) rfl ?_
  refine wi_iload_n (i := 1) (e := 190) (nx := 3) (r1 := 0) (r2 := 0) (r3 := 0) rfl rfl ?_
  refine wi_sipush (n := 200) (nx := 6) (r1 := 0) (r2 := 0) (r3 := 0) rfl (by decide) ?_
  refine wi_icmp (cd := .ge) (nx := 9) (r1 := 19) (r2 := 0) (r3 := 0) rfl (by omega) (by omega) (fun (q571 : 200 ≤ 190) => by exfalso; omega) (fun (q571 : ¬ (200 ≤ 190)) => ?_)
  refine wi_aload_n (i := 0) (x := 239) (nx := 10) (r1 := 0) (r2 := 0) (r3 := 0) rfl rfl ?_
  refine wi_iload_n (i := 1) (e := 190) (nx := 11) (r1 := 0) (r2 := 0) (r3 := 0) rfl rfl ?_
  refine wi_iconst (n := 0) (nx := 12) (r1 := 0) (r2 := 0) (r3 := 0) rfl ?_
  refine wr_is (k0 := 239) (a := 190) (f := 190) (x := 0) (bl := -2147483648) (bh := 2147483647) (nx := 13) (r1 := 0) (r2 := 0) (r3 := 0) rfl (by decide) rfl (by omega) (by omega) (by decide) g569 rfl (by omega) (fun h572 g572 w572 u572 => ?_)
  have F573 := F570.then rfl u572
  refine wr_iincL (i := 1) (n := 1) (v := 190) (191) ([(1, vi 191), (0, .ref 239)]) (nx := 16) (r1 := 0) (r2 := 0) (r3 := 0) rfl rfl (by decide) rfl ?_
  refine wi_goto (nx := 19) (r1 := 2) (r2 := 0) (r3 := 0) rfl ?_
  refine wi_iload_n (i := 1) (e := 191) (nx := 3) (r1 := 0) (r2 := 0) (r3 := 0) rfl rfl ?_
  refine wi_sipush (n := 200) (nx := 6) (r1 := 0) (r2 := 0) (r3 := 0) rfl (by decide) ?_
  refine wi_icmp (cd := .ge) (nx := 9) (r1 := 19) (r2 := 0) (r3 := 0) rfl (by omega) (by omega) (fun (q574 : 200 ≤ 191) => by exfalso; omega) (fun (q574 : ¬ (200 ≤ 191)) => ?_)
  refine wi_aload_n (i := 0) (x := 239) (nx := 10) (r1 := 0) (r2 := 0) (r3 := 0) rfl rfl ?_
  refine wi_iload_n (i := 1) (e := 191) (nx := 11) (r1 := 0) (r2 := 0) (r3 := 0) rfl rfl ?_
  refine wi_iconst (n := 0) (nx := 12) (r1 := 0) (r2 := 0) (r3 := 0) rfl ?_
  refine wr_is (k0 := 239) (a := 191) (f := 191) (x := 0) (bl := -2147483648) (bh := 2147483647) (nx := 13) (r1 := 0) (r2 := 0) (r3 := 0) rfl (by decide) rfl (by omega) (by omega) (by decide) g572 rfl (by omega) (fun h575 g575 w575 u575 => ?_)
  have F576 := F573.then rfl u575
  refine wr_iincL (i := 1) (n := 1) (v := 191) (192) ([(1, vi 192), (0, .ref 239)]) (nx := 16) (r1 := 0) (r2 := 0) (r3 := 0) rfl rfl (by decide) rfl ?_
  refine wi_goto (nx := 19) (r1 := 2) (r2 := 0) (r3 := 0) rfl ?_
  refine wi_iload_n (i := 1) (e := 192) (nx := 3) (r1 := 0) (r2 := 0) (r3 := 0) rfl rfl ?_
  refine wi_sipush (n := 200) (nx := 6) (r1 := 0) (r2 := 0) (r3 := 0) rfl (by decide) ?_
  refine wi_icmp (cd := .ge) (nx := 9) (r1 := 19) (r2 := 0) (r3 := 0) rfl (by omega) (by omega) (fun (q577 : 200 ≤ 192) => by exfalso; omega) (fun (q577 : ¬ (200 ≤ 192)) => ?_)
  refine wi_aload_n (i := 0) (x := 239) (nx := 10) (r1 := 0) (r2 := 0) (r3 := 0) rfl rfl ?_
  refine wi_iload_n (i := 1) (e := 192) (nx := 11) (r1 := 0) (r2 := 0) (r3 := 0) rfl rfl ?_
  refine wi_iconst (n := 0) (nx := 12) (r1 := 0) (r2 := 0) (r3 := 0) rfl ?_
  refine wr_is (k0 := 239) (a := 192) (f := 192) (x := 0) (bl := -2147483648) (bh := 2147483647) (nx := 13) (r1 := 0) (r2 := 0) (r3 := 0) rfl (by decide) rfl (by omega) (by omega) (by decide) g575 rfl (by omega) (fun h578 g578 w578 u578 => ?_)
  have F579 := F576.then rfl u578
  refine wr_iincL (i := 1) (n := 1) (v := 192) (193) ([(1, vi 193), (0, .ref 239)]) (nx := 16) (r1 := 0) (r2 := 0) (r3 := 0) rfl rfl (by decide) rfl ?_
  refine wi_goto (nx := 19) (r1 := 2) (r2 := 0) (r3 := 0) rfl ?_
  refine wi_iload_n (i := 1) (e := 193) (nx := 3) (r1 := 0) (r2 := 0) (r3 := 0) rfl rfl ?_
  refine wi_sipush (n := 200) (nx := 6) (r1 := 0) (r2 := 0) (r3 := 0) rfl (by decide) ?_
  refine wi_icmp (cd := .ge) (nx := 9) (r1 := 19) (r2 := 0) (r3 := 0) rfl (by omega) (by omega) (fun (q580 : 200 ≤ 193) => by exfalso; omega) (fun (q580 : ¬ (200 ≤ 193)) => ?_)
  refine wi_aload_n (i := 0) (x := 239) (nx := 10) (r1 := 0) (r2 := 0) (r3 := 0) rfl rfl ?_
  refine wi_iload_n (i := 1) (e := 193) (nx := 11) (r1 := 0) (r2 := 0) (r3 := 0) rfl rfl ?_
  refine wi_iconst (n := 0) (nx := 12) (r1 := 0) (r2 := 0) (r3 := 0) rfl ?_
  refine wr_is (k0 := 239) (a := 193) (f := 193) (x := 0) (bl := -2147483648) (bh := 2147483647) (nx := 13) (r1 := 0) (r2 := 0) (r3 := 0) rfl (by decide) rfl (by omega) (by omega) (by decide) g578 rfl (by omega) (fun h581 g581 w581 u581 => ?_)
  have F582 := F579.then rfl u581
  refine wr_iincL (i := 1) (n := 1) (v := 193) (194) ([(1, vi 194), (0, .ref 239)]) (nx := 16) (r1 := 0) (r2 := 0) (r3 := 0) rfl rfl (by decide) rfl ?_
  refine wi_goto (nx := 19) (r1 := 2) (r2 := 0) (r3 := 0) rfl ?_
  refine wi_iload_n (i := 1) (e := 194) (nx := 3) (r1 := 0) (r2 := 0) (r3 := 0) rfl rfl ?_
  refine wi_sipush (n := 200) (nx := 6) (r1 := 0) (r2 := 0) (r3 := 0) rfl (by decide) ?_
  refine wi_icmp (cd := .ge) (nx := 9) (r1 := 19) (r2 := 0) (r3 := 0) rfl (by omega) (by omega) (fun (q583 : 200 ≤ 194) => by exfalso; omega) (fun (q583 : ¬ (200 ≤ 194)) => ?_)
  refine wi_aload_n (i := 0) (x := 239) (nx := 10) (r1 := 0) (r2 := 0) (r3 := 0) rfl rfl ?_
  refine wi_iload_n (i := 1) (e := 194) (nx := 11) (r1 := 0) (r2 := 0) (r3 := 0) rfl rfl ?_
  refine wi_iconst (n := 0) (nx := 12) (r1 := 0) (r2 := 0) (r3 := 0) rfl ?_
  refine wr_is (k0 := 239) (a := 194) (f := 194) (x := 0) (bl := -2147483648) (bh := 2147483647) (nx := 13) (r1 := 0) (r2 := 0) (r3 := 0) rfl (by decide) rfl (by omega) (by omega) (by decide) g581 rfl (by omega) (fun h584 g584 w584 u584 => ?_)
  have F585 := F582.then rfl u584
  refine wr_iincL (i := 1) (n := 1) (v := 194) (195) ([(1, vi 195), (0, .ref 239)]) (nx := 16) (r1 := 0) (r2 := 0) (r3 := 0) rfl rfl (by decide) rfl ?_
  refine wi_goto (nx := 19) (r1 := 2) (r2 := 0) (r3 := 0) rfl ?_
  refine wi_iload_n (i := 1) (e := 195) (nx := 3) (r1 := 0) (r2 := 0) (r3 := 0) rfl rfl ?_
  refine wi_sipush (n := 200) (nx := 6) (r1 := 0) (r2 := 0) (r3 := 0) rfl (by decide) ?_
  refine wi_icmp (cd := .ge) (nx := 9) (r1 := 19) (r2 := 0) (r3 := 0) rfl (by omega) (by omega) (fun (q586 : 200 ≤ 195) => by exfalso; omega) (fun (q586 : ¬ (200 ≤ 195)) => ?_)
  refine wi_aload_n (i := 0) (x := 239) (nx := 10) (r1 := 0) (r2 := 0) (r3 := 0) rfl rfl ?_
  refine wi_iload_n (i := 1) (e := 195) (nx := 11) (r1 := 0) (r2 := 0) (r3 := 0) rfl rfl ?_
  refine wi_iconst (n := 0) (nx := 12) (r1 := 0) (r2 := 0) (r3 := 0) rfl ?_
  refine wr_is (k0 := 239) (a := 195) (f := 195) (x := 0) (bl := -2147483648) (bh := 2147483647) (nx := 13) (r1 := 0) (r2 := 0) (r3 := 0) rfl (by decide) rfl (by omega) (by omega) (by decide) g584 rfl (by omega) (fun h587 g587 w587 u587 => ?_)
  have F588 := F585.then rfl u587
  refine wr_iincL (i := 1) (n := 1) (v := 195) (196) ([(1, vi 196), (0, .ref 239)]) (nx := 16) (r1 := 0) (r2 := 0) (r3 := 0) rfl rfl (by decide) rfl ?_
  refine wi_goto (nx := 19) (r1 := 2) (r2 := 0) (r3 := 0) rfl ?_
  refine wi_iload_n (i := 1) (e := 196) (nx := 3) (r1 := 0) (r2 := 0) (r3 := 0) rfl rfl ?_
  refine wi_sipush (n := 200) (nx := 6) (r1 := 0) (r2 := 0) (r3 := 0) rfl (by decide) ?_
  refine wi_icmp (cd := .ge) (nx := 9) (r1 := 19) (r2 := 0) (r3 := 0) rfl (by omega) (by omega) (fun (q589 : 200 ≤ 196) => by exfalso; omega) (fun (q589 : ¬ (200 ≤ 196)) => ?_)
  refine wi_aload_n (i := 0) (x := 239) (nx := 10) (r1 := 0) (r2 := 0) (r3 := 0) rfl rfl ?_
  refine wi_iload_n (i := 1) (e := 196) (nx := 11) (r1 := 0) (r2 := 0) (r3 := 0) rfl rfl ?_
  refine wi_iconst (n := 0) (nx := 12) (r1 := 0) (r2 := 0) (r3 := 0) rfl ?_
  refine wr_is (k0 := 239) (a := 196) (f := 196) (x := 0) (bl := -2147483648) (bh := 2147483647) (nx := 13) (r1 := 0) (r2 := 0) (r3 := 0) rfl (by decide) rfl (by omega) (by omega) (by decide) g587 rfl (by omega) (fun h590 g590 w590 u590 => ?_)
  have F591 := F588.then rfl u590
  refine wr_iincL (i := 1) (n := 1) (v := 196) (197) ([(1, vi 197), (0, .ref 239)]) (nx := 16) (r1 := 0) (r2 := 0) (r3 := 0) rfl rfl (by decide) rfl ?_
  refine wi_goto (nx := 19) (r1 := 2) (r2 := 0) (r3 := 0) rfl ?_
  refine wi_iload_n (i := 1) (e := 197) (nx := 3) (r1 := 0) (r2 := 0) (r3 := 0) rfl rfl ?_
  refine wi_sipush (n := 200) (nx := 6) (r1 := 0) (r2 := 0) (r3 := 0) rfl (by decide) ?_
  refine wi_icmp (cd := .ge) (nx := 9) (r1 := 19) (r2 := 0) (r3 := 0) rfl (by omega) (by omega) (fun (q592 : 200 ≤ 197) => by exfalso; omega) (fun (q592 : ¬ (200 ≤ 197)) => ?_)
  refine wi_aload_n (i := 0) (x := 239) (nx := 10) (r1 := 0) (r2 := 0) (r3 := 0) rfl rfl ?_
  refine wi_iload_n (i := 1) (e := 197) (nx := 11) (r1 := 0) (r2 := 0) (r3 := 0) rfl rfl ?_
  refine wi_iconst (n := 0) (nx := 12) (r1 := 0) (r2 := 0) (r3 := 0) rfl ?_
  refine wr_is (k0 := 239) (a := 197) (f := 197) (x := 0) (bl := -2147483648) (bh := 2147483647) (nx := 13) (r1 := 0) (r2 := 0) (r3 := 0) rfl (by decide) rfl (by omega) (by omega) (by decide) g590 rfl (by omega) (fun h593 g593 w593 u593 => ?_)
  have F594 := F591.then rfl u593
  refine wr_iincL (i := 1) (n := 1) (v := 197) (198) ([(1, vi 198), (0, .ref 239)]) (nx := 16) (r1 := 0) (r2 := 0) (r3 := 0) rfl rfl (by decide) rfl ?_
  refine wi_goto (nx := 19) (r1 := 2) (r2 := 0) (r3 := 0) rfl ?_
  refine wi_iload_n (i := 1) (e := 198) (nx := 3) (r1 := 0) (r2 := 0) (r3 := 0) rfl rfl ?_
  refine wi_sipush (n := 200) (nx := 6) (r1 := 0) (r2 := 0) (r3 := 0) rfl (by decide) ?_
  refine wi_icmp (cd := .ge) (nx := 9) (r1 := 19) (r2 := 0) (r3 := 0) rfl (by omega) (by omega) (fun (q595 : 200 ≤ 198) => by exfalso; omega) (fun (q595 : ¬ (200 ≤ 198)) => ?_)
  refine wi_aload_n (i := 0) (x := 239) (nx := 10) (r1 := 0) (r2 := 0) (r3 := 0) rfl rfl ?_
  refine wi_iload_n (i := 1) (e := 198) (nx := 11) (r1 := 0) (r2 := 0) (r3 := 0) rfl rfl ?_
  refine wi_iconst (n := 0) (nx := 12) (r1 := 0) (r2 := 0) (r3 := 0) rfl ?_
  refine wr_is (k0 := 239) (a := 198) (f := 198) (x := 0) (bl := -2147483648) (bh := 2147483647) (nx := 13) (r1 := 0) (r2 := 0) (r3 := 0) rfl (by decide) rfl (by omega) (by omega) (by decide) g593 rfl (by omega) (fun h596 g596 w596 u596 => ?_)
  have F597 := F594.then rfl u596
  refine wr_iincL (i := 1) (n := 1) (v := 198) (199) ([(1, vi 199), (0, .ref 239)]) (nx := 16) (r1 := 0) (r2 := 0) (r3 := 0) rfl rfl (by decide) rfl ?_
  refine wi_goto (nx := 19) (r1 := 2) (r2 := 0) (r3 := 0) rfl ?_
  refine wi_iload_n (i := 1) (e := 199) (nx := 3) (r1 := 0) (r2 := 0) (r3 := 0) rfl rfl ?_
  refine wi_sipush (n := 200) (nx := 6) (r1 := 0) (r2 := 0) (r3 := 0) rfl (by decide) ?_
  refine wi_icmp (cd := .ge) (nx := 9) (r1 := 19) (r2 := 0) (r3 := 0) rfl (by omega) (by omega) (fun (q598 : 200 ≤ 199) => by exfalso; omega) (fun (q598 : ¬ (200 ≤ 199)) => ?_)
  refine wi_aload_n (i := 0) (x := 239) (nx := 10) (r1 := 0) (r2 := 0) (r3 := 0) rfl rfl ?_
  refine wi_iload_n (i := 1) (e := 199) (nx := 11) (r1 := 0) (r2 := 0) (r3 := 0) rfl rfl ?_
  refine wi_iconst (n := 0) (nx := 12) (r1 := 0) (r2 := 0) (r3 := 0) rfl ?_
  refine wr_is (k0 := 239) (a := 199) (f := 199) (x := 0) (bl := -2147483648) (bh := 2147483647) (nx := 13) (r1 := 0) (r2 := 0) (r3 := 0) rfl (by decide) rfl (by omega) (by omega) (by decide) g596 rfl (by omega) (fun h599 g599 w599 u599 => ?_)
  have F600 := F597.then rfl u599
  refine wr_iincL (i := 1) (n := 1) (v := 199) (200) ([(1, vi 200), (0, .ref 239)]) (nx := 16) (r1 := 0) (r2 := 0) (r3 := 0) rfl rfl (by decide) rfl ?_
  refine wi_goto (nx := 19) (r1 := 2) (r2 := 0) (r3 := 0) rfl ?_
  refine wi_iload_n (i := 1) (e := 200) (nx := 3) (r1 := 0) (r2 := 0) (r3 := 0) rfl rfl ?_
  refine wi_sipush (n := 200) (nx := 6) (r1 := 0) (r2 := 0) (r3 := 0) rfl (by decide) ?_
  refine wi_icmp (cd := .ge) (nx := 9) (r1 := 19) (r2 := 0) (r3 := 0) rfl (by omega) (by omega) (fun (q601 : 200 ≤ 200) => ?_) (fun (q601 : ¬ (200 ≤ 200)) => by exfalso; omega)
  refine wi_aload_n (i := 0) (x := 239) (nx := 20) (r1 := 0) (r2 := 0) (r3 := 0) rfl rfl ?_
  refine wi_iconst (n := 3) (nx := 21) (r1 := 0) (r2 := 0) (r3 := 0) rfl ?_
  refine wi_bipush (n := 11) (nx := 23) (r1 := 0) (r2 := 0) (r3 := 0) rfl (by decide) ?_
  refine wr_is (k0 := 239) (a := 3) (f := 3) (x := 11) (bl := 0) (bh := 999) (nx := 24) (r1 := 0) (r2 := 0) (r3 := 0) rfl (by decide) rfl (by omega) (by omega) (by decide) g599 rfl (by omega) (fun h602 g602 w602 u602 => ?_)
  have F603 := F600.then rfl u602
  refine wi_aload_n (i := 0) (x := 239) (nx := 25) (r1 := 0) (r2 := 0) (r3 := 0) rfl rfl ?_
  refine wi_iconst (n := 4) (nx := 26) (r1 := 0) (r2 := 0) (r3 := 0) rfl ?_
  refine wi_bipush (n := 11) (nx := 28) (r1 := 0) (r2 := 0) (r3 := 0) rfl (by decide) ?_
  refine wr_is (k0 := 239) (a := 4) (f := 4) (x := 11) (bl := 0) (bh := 999) (nx := 29) (r1 := 0) (r2 := 0) (r3 := 0) rfl (by decide) rfl (by omega) (by omega) (by decide) g602 rfl (by omega) (fun h604 g604 w604 u604 => ?_)
  have F605 := F603.then rfl u604
  refine wi_aload_n (i := 0) (x := 239) (nx := 30) (r1 := 0) (r2 := 0) (r3 := 0) rfl rfl ?_
  refine wi_iconst (n := 5) (nx := 31) (r1 := 0) (r2 := 0) (r3 := 0) rfl ?_
  refine wi_bipush (n := 9) (nx := 33) (r1 := 0) (r2 := 0) (r3 := 0) rfl (by decide) ?_
  refine wr_is (k0 := 239) (a := 5) (f := 5) (x := 9) (bl := 0) (bh := 999) (nx := 34) (r1 := 0) (r2 := 0) (r3 := 0) rfl (by decide) rfl (by omega) (by omega) (by decide) g604 rfl (by omega) (fun h606 g606 w606 u606 => ?_)
  have F607 := F605.then rfl u606
  refine wi_aload_n (i := 0) (x := 239) (nx := 35) (r1 := 0) (r2 := 0) (r3 := 0) rfl rfl ?_
  refine wi_bipush (n := 7) (nx := 37) (r1 := 0) (r2 := 0) (r3 := 0) rfl (by decide) ?_
  refine wi_iconst (n := 1) (nx := 38) (r1 := 0) (r2 := 0) (r3 := 0) rfl ?_
  refine wr_is (k0 := 239) (a := 7) (f := 7) (x := 1) (bl := 0) (bh := 999) (nx := 39) (r1 := 0) (r2 := 0) (r3 := 0) rfl (by decide) rfl (by omega) (by omega) (by decide) g606 rfl (by omega) (fun h608 g608 w608 u608 => ?_)
  have F609 := F607.then rfl u608
  refine wi_aload_n (i := 0) (x := 239) (nx := 40) (r1 := 0) (r2 := 0) (r3 := 0) rfl rfl ?_
  refine wi_bipush (n := 8) (nx := 42) (r1 := 0) (r2 := 0) (r3 := 0) rfl (by decide) ?_
  refine wi_iconst (n := 3) (nx := 43) (r1 := 0) (r2 := 0) (r3 := 0) rfl ?_
  refine wr_is (k0 := 239) (a := 8) (f := 8) (x := 3) (bl := 0) (bh := 999) (nx := 44) (r1 := 0) (r2 := 0) (r3 := 0) rfl (by decide) rfl (by omega) (by omega) (by decide) g608 rfl (by omega) (fun h610 g610 w610 u610 => ?_)
  have F611 := F609.then rfl u610
  refine wi_aload_n (i := 0) (x := 239) (nx := 45) (r1 := 0) (r2 := 0) (r3 := 0) rfl rfl ?_
  refine wi_bipush (n := 9) (nx := 47) (r1 := 0) (r2 := 0) (r3 := 0) rfl (by decide) ?_
  refine wi_iconst (n := 2) (nx := 48) (r1 := 0) (r2 := 0) (r3 := 0) rfl ?_
  refine wr_is (k0 := 239) (a := 9) (f := 9) (x := 2) (bl := 0) (bh := 999) (nx := 49) (r1 := 0) (r2 := 0) (r3 := 0) rfl (by decide) rfl (by omega) (by omega) (by decide) g610 rfl (by omega) (fun h612 g612 w612 u612 => ?_)
  have F613 := F611.then rfl u612
  refine wi_aload_n (i := 0) (x := 239) (nx := 50) (r1 := 0) (r2 := 0) (r3 := 0) rfl rfl ?_
  refine wi_bipush (n := 68) (nx := 52) (r1 := 0) (r2 := 0) (r3 := 0) rfl (by decide) ?_
  refine wi_iconst (n := (-1)) (nx := 53) (r1 := 0) (r2 := 0) (r3 := 0) rfl ?_
  refine wr_is (k0 := 239) (a := 68) (f := 68) (x := -1) (bl := -1) (bh := 0) (nx := 54) (r1 := 0) (r2 := 0) (r3 := 0) rfl (by decide) rfl (by omega) (by omega) (by decide) g612 rfl (by omega) (fun h614 g614 w614 u614 => ?_)
  have F615 := F613.then rfl u614
  refine wi_return (nx := 55) (r1 := 0) (r2 := 0) (r3 := 0) rfl rfl ?_
  have e616 : h614 239 5 = 9 := ((u614 239 5 rfl).trans ((u612 239 5 rfl).trans ((u610 239 5 rfl).trans ((u608 239 5 rfl).trans w606))))
  have e617 : h614 239 7 = 1 := ((u614 239 7 rfl).trans ((u612 239 7 rfl).trans ((u610 239 7 rfl).trans w608)))
  have e618 : h614 239 15 = 0 := ((u614 239 15 rfl).trans ((u612 239 15 rfl).trans ((u610 239 15 rfl).trans ((u608 239 15 rfl).trans ((u606 239 15 rfl).trans ((u604 239 15 rfl).trans ((u602 239 15 rfl).trans ((u599 239 15 rfl).trans ((u596 239 15 rfl).trans ((u593 239 15 rfl).trans ((u590 239 15 rfl).trans ((u587 239 15 rfl).trans ((u584 239 15 rfl).trans ((u581 239 15 rfl).trans ((u578 239 15 rfl).trans ((u575 239 15 rfl).trans ((u572 239 15 rfl).trans ((u569 239 15 rfl).trans ((u566 239 15 rfl).trans ((u563 239 15 rfl).trans ((u560 239 15 rfl).trans ((u557 239 15 rfl).trans ((u554 239 15 rfl).trans ((u551 239 15 rfl).trans ((u548 239 15 rfl).trans ((u545 239 15 rfl).trans ((u542 239 15 rfl).trans ((u539 239 15 rfl).trans ((u536 239 15 rfl).trans ((u533 239 15 rfl).trans ((u530 239 15 rfl).trans ((u527 239 15 rfl).trans ((u524 239 15 rfl).trans ((u521 239 15 rfl).trans ((u518 239 15 rfl).trans ((u515 239 15 rfl).trans ((u512 239 15 rfl).trans ((u509 239 15 rfl).trans ((u506 239 15 rfl).trans ((u503 239 15 rfl).trans ((u500 239 15 rfl).trans ((u497 239 15 rfl).trans ((u494 239 15 rfl).trans ((u491 239 15 rfl).trans ((u488 239 15 rfl).trans ((u485 239 15 rfl).trans ((u482 239 15 rfl).trans ((u479 239 15 rfl).trans ((u476 239 15 rfl).trans ((u473 239 15 rfl).trans ((u470 239 15 rfl).trans ((u467 239 15 rfl).trans ((u464 239 15 rfl).trans ((u461 239 15 rfl).trans ((u458 239 15 rfl).trans ((u455 239 15 rfl).trans ((u452 239 15 rfl).trans ((u449 239 15 rfl).trans ((u446 239 15 rfl).trans ((u443 239 15 rfl).trans ((u440 239 15 rfl).trans ((u437 239 15 rfl).trans ((u434 239 15 rfl).trans ((u431 239 15 rfl).trans ((u428 239 15 rfl).trans ((u425 239 15 rfl).trans ((u422 239 15 rfl).trans ((u419 239 15 rfl).trans ((u416 239 15 rfl).trans ((u413 239 15 rfl).trans ((u410 239 15 rfl).trans ((u407 239 15 rfl).trans ((u404 239 15 rfl).trans ((u401 239 15 rfl).trans ((u398 239 15 rfl).trans ((u395 239 15 rfl).trans ((u392 239 15 rfl).trans ((u389 239 15 rfl).trans ((u386 239 15 rfl).trans ((u383 239 15 rfl).trans ((u380 239 15 rfl).trans ((u377 239 15 rfl).trans ((u374 239 15 rfl).trans ((u371 239 15 rfl).trans ((u368 239 15 rfl).trans ((u365 239 15 rfl).trans ((u362 239 15 rfl).trans ((u359 239 15 rfl).trans ((u356 239 15 rfl).trans ((u353 239 15 rfl).trans ((u350 239 15 rfl).trans ((u347 239 15 rfl).trans ((u344 239 15 rfl).trans ((u341 239 15 rfl).trans ((u338 239 15 rfl).trans ((u335 239 15 rfl).trans ((u332 239 15 rfl).trans ((u329 239 15 rfl).trans ((u326 239 15 rfl).trans ((u323 239 15 rfl).trans ((u320 239 15 rfl).trans ((u317 239 15 rfl).trans ((u314 239 15 rfl).trans ((u311 239 15 rfl).trans ((u308 239 15 rfl).trans ((u305 239 15 rfl).trans ((u302 239 15 rfl).trans ((u299 239 15 rfl).trans ((u296 239 15 rfl).trans ((u293 239 15 rfl).trans ((u290 239 15 rfl).trans ((u287 239 15 rfl).trans ((u284 239 15 rfl).trans ((u281 239 15 rfl).trans ((u278 239 15 rfl).trans ((u275 239 15 rfl).trans ((u272 239 15 rfl).trans ((u269 239 15 rfl).trans ((u266 239 15 rfl).trans ((u263 239 15 rfl).trans ((u260 239 15 rfl).trans ((u257 239 15 rfl).trans ((u254 239 15 rfl).trans ((u251 239 15 rfl).trans ((u248 239 15 rfl).trans ((u245 239 15 rfl).trans ((u242 239 15 rfl).trans ((u239 239 15 rfl).trans ((u236 239 15 rfl).trans ((u233 239 15 rfl).trans ((u230 239 15 rfl).trans ((u227 239 15 rfl).trans ((u224 239 15 rfl).trans ((u221 239 15 rfl).trans ((u218 239 15 rfl).trans ((u215 239 15 rfl).trans ((u212 239 15 rfl).trans ((u209 239 15 rfl).trans ((u206 239 15 rfl).trans ((u203 239 15 rfl).trans ((u200 239 15 rfl).trans ((u197 239 15 rfl).trans ((u194 239 15 rfl).trans ((u191 239 15 rfl).trans ((u188 239 15 rfl).trans ((u185 239 15 rfl).trans ((u182 239 15 rfl).trans ((u179 239 15 rfl).trans ((u176 239 15 rfl).trans ((u173 239 15 rfl).trans ((u170 239 15 rfl).trans ((u167 239 15 rfl).trans ((u164 239 15 rfl).trans ((u161 239 15 rfl).trans ((u158 239 15 rfl).trans ((u155 239 15 rfl).trans ((u152 239 15 rfl).trans ((u149 239 15 rfl).trans ((u146 239 15 rfl).trans ((u143 239 15 rfl).trans ((u140 239 15 rfl).trans ((u137 239 15 rfl).trans ((u134 239 15 rfl).trans ((u131 239 15 rfl).trans ((u128 239 15 rfl).trans ((u125 239 15 rfl).trans ((u122 239 15 rfl).trans ((u119 239 15 rfl).trans ((u116 239 15 rfl).trans ((u113 239 15 rfl).trans ((u110 239 15 rfl).trans ((u107 239 15 rfl).trans ((u104 239 15 rfl).trans ((u101 239 15 rfl).trans ((u98 239 15 rfl).trans ((u95 239 15 rfl).trans ((u92 239 15 rfl).trans ((u89 239 15 rfl).trans ((u86 239 15 rfl).trans ((u83 239 15 rfl).trans ((u80 239 15 rfl).trans ((u77 239 15 rfl).trans ((u74 239 15 rfl).trans ((u71 239 15 rfl).trans ((u68 239 15 rfl).trans ((u65 239 15 rfl).trans ((u62 239 15 rfl).trans ((u59 239 15 rfl).trans ((u56 239 15 rfl).trans ((u53 239 15 rfl).trans ((u50 239 15 rfl).trans w47)))))))))))))))))))))))))))))))))))))))))))))))))))))))))))))))))))))))))))))))))))))))))))))))))))))))))))))))))))))))))))))))))))))))))))))))))))))))))))))))))))))))))))))))))))))))))))))))
  have e619 : h614 239 16 = 0 := ((u614 239 16 rfl).trans ((u612 239 16 rfl).trans ((u610 239 16 rfl).trans ((u608 239 16 rfl).trans ((u606 239 16 rfl).trans ((u604 239 16 rfl).trans ((u602 239 16 rfl).trans ((u599 239 16 rfl).trans ((u596 239 16 rfl).trans ((u593 239 16 rfl).trans ((u590 239 16 rfl).trans ((u587 239 16 rfl).trans ((u584 239 16 rfl).trans ((u581 239 16 rfl).trans ((u578 239 16 rfl).trans ((u575 239 16 rfl).trans ((u572 239 16 rfl).trans ((u569 239 16 rfl).trans ((u566 239 16 rfl).trans ((u563 239 16 rfl).trans ((u560 239 16 rfl).trans ((u557 239 16 rfl).trans ((u554 239 16 rfl).trans ((u551 239 16 rfl).trans ((u548 239 16 rfl).trans ((u545 239 16 rfl).trans ((u542 239 16 rfl).trans ((u539 239 16 rfl).trans ((u536 239 16 rfl).trans ((u533 239 16 rfl).trans ((u530 239 16 rfl).trans ((u527 239 16 rfl).trans ((u524 239 16 rfl).trans ((u521 239 16 rfl).trans ((u518 239 16 rfl).trans ((u515 239 16 rfl).trans ((u512 239 16 rfl).trans ((u509 239 16 rfl).trans ((u506 239 16 rfl).trans ((u503 239 16 rfl).trans ((u500 239 16 rfl).trans ((u497 239 16 rfl).trans ((u494 239 16 rfl).trans ((u491 239 16 rfl).trans ((u488 239 16 rfl).trans ((u485 239 16 rfl).trans ((u482 239 16 rfl).trans ((u479 239 16 rfl).trans ((u476 239 16 rfl).trans ((u473 239 16 rfl).trans ((u470 239 16 rfl).trans ((u467 239 16 rfl).trans ((u464 239 16 rfl).trans ((u461 239 16 rfl).trans ((u458 239 16 rfl).trans ((u455 239 16 rfl).trans ((u452 239 16 rfl).trans ((u449 239 16 rfl).trans ((u446 239 16 rfl).trans ((u443 239 16 rfl).trans ((u440 239 16 rfl).trans ((u437 239 16 rfl).trans ((u434 239 16 rfl).trans ((u431 239 16 rfl).trans ((u428 239 16 rfl).trans ((u425 239 16 rfl).trans ((u422 239 16 rfl).trans ((u419 239 16 rfl).trans ((u416 239 16 rfl).trans ((u413 239 16 rfl).trans ((u410 239 16 rfl).trans ((u407 239 16 rfl).trans ((u404 239 16 rfl).trans ((u401 239 16 rfl).trans ((u398 239 16 rfl).trans ((u395 239 16 rfl).trans ((u392 239 16 rfl).trans ((u389 239 16 rfl).trans ((u386 239 16 rfl).trans ((u383 239 16 rfl).trans ((u380 239 16 rfl).trans ((u377 239 16 rfl).trans ((u374 239 16 rfl).trans ((u371 239 16 rfl).trans ((u368 239 16 rfl).trans ((u365 239 16 rfl).trans ((u362 239 16 rfl).trans ((u359 239 16 rfl).trans ((u356 239 16 rfl).trans ((u353 239 16 rfl).trans ((u350 239 16 rfl).trans ((u347 239 16 rfl).trans ((u344 239 16 rfl).trans ((u341 239 16 rfl).trans ((u338 239 16 rfl).trans ((u335 239 16 rfl).trans ((u332 239 16 rfl).trans ((u329 239 16 rfl).trans ((u326 239 16 rfl).trans ((u323 239 16 rfl).trans ((u320 239 16 rfl).trans ((u317 239 16 rfl).trans ((u314 239 16 rfl).trans ((u311 239 16 rfl).trans ((u308 239 16 rfl).trans ((u305 239 16 rfl).trans ((u302 239 16 rfl).trans ((u299 239 16 rfl).trans ((u296 239 16 rfl).trans ((u293 239 16 rfl).trans ((u290 239 16 rfl).trans ((u287 239 16 rfl).trans ((u284 239 16 rfl).trans ((u281 239 16 rfl).trans ((u278 239 16 rfl).trans ((u275 239 16 rfl).trans ((u272 239 16 rfl).trans ((u269 239 16 rfl).trans ((u266 239 16 rfl).trans ((u263 239 16 rfl).trans ((u260 239 16 rfl).trans ((u257 239 16 rfl).trans ((u254 239 16 rfl).trans ((u251 239 16 rfl).trans ((u248 239 16 rfl).trans ((u245 239 16 rfl).trans ((u242 239 16 rfl).trans ((u239 239 16 rfl).trans ((u236 239 16 rfl).trans ((u233 239 16 rfl).trans ((u230 239 16 rfl).trans ((u227 239 16 rfl).trans ((u224 239 16 rfl).trans ((u221 239 16 rfl).trans ((u218 239 16 rfl).trans ((u215 239 16 rfl).trans ((u212 239 16 rfl).trans ((u209 239 16 rfl).trans ((u206 239 16 rfl).trans ((u203 239 16 rfl).trans ((u200 239 16 rfl).trans ((u197 239 16 rfl).trans ((u194 239 16 rfl).trans ((u191 239 16 rfl).trans ((u188 239 16 rfl).trans ((u185 239 16 rfl).trans ((u182 239 16 rfl).trans ((u179 239 16 rfl).trans ((u176 239 16 rfl).trans ((u173 239 16 rfl).trans ((u170 239 16 rfl).trans ((u167 239 16 rfl).trans ((u164 239 16 rfl).trans ((u161 239 16 rfl).trans ((u158 239 16 rfl).trans ((u155 239 16 rfl).trans ((u152 239 16 rfl).trans ((u149 239 16 rfl).trans ((u146 239 16 rfl).trans ((u143 239 16 rfl).trans ((u140 239 16 rfl).trans ((u137 239 16 rfl).trans ((u134 239 16 rfl).trans ((u131 239 16 rfl).trans ((u128 239 16 rfl).trans ((u125 239 16 rfl).trans ((u122 239 16 rfl).trans ((u119 239 16 rfl).trans ((u116 239 16 rfl).trans ((u113 239 16 rfl).trans ((u110 239 16 rfl).trans ((u107 239 16 rfl).trans ((u104 239 16 rfl).trans ((u101 239 16 rfl).trans ((u98 239 16 rfl).trans ((u95 239 16 rfl).trans ((u92 239 16 rfl).trans ((u89 239 16 rfl).trans ((u86 239 16 rfl).trans ((u83 239 16 rfl).trans ((u80 239 16 rfl).trans ((u77 239 16 rfl).trans ((u74 239 16 rfl).trans ((u71 239 16 rfl).trans ((u68 239 16 rfl).trans ((u65 239 16 rfl).trans ((u62 239 16 rfl).trans ((u59 239 16 rfl).trans ((u56 239 16 rfl).trans ((u53 239 16 rfl).trans w50))))))))))))))))))))))))))))))))))))))))))))))))))))))))))))))))))))))))))))))))))))))))))))))))))))))))))))))))))))))))))))))))))))))))))))))))))))))))))))))))))))))))))))))))))))))))))))))
  have e620 : h614 239 17 = 0 := ((u614 239 17 rfl).trans ((u612 239 17 rfl).trans ((u610 239 17 rfl).trans ((u608 239 17 rfl).trans ((u606 239 17 rfl).trans ((u604 239 17 rfl).trans ((u602 239 17 rfl).trans ((u599 239 17 rfl).trans ((u596 239 17 rfl).trans ((u593 239 17 rfl).trans ((u590 239 17 rfl).trans ((u587 239 17 rfl).trans ((u584 239 17 rfl).trans ((u581 239 17 rfl).trans ((u578 239 17 rfl).trans ((u575 239 17 rfl).trans ((u572 239 17 rfl).trans ((u569 239 17 rfl).trans ((u566 239 17 rfl).trans ((u563 239 17 rfl).trans ((u560 239 17 rfl).trans ((u557 239 17 rfl).trans ((u554 239 17 rfl).trans ((u551 239 17 rfl).trans ((u548 239 17 rfl).trans ((u545 239 17 rfl).trans ((u542 239 17 rfl).trans ((u539 239 17 rfl).trans ((u536 239 17 rfl).trans ((u533 239 17 rfl).trans ((u530 239 17 rfl).trans ((u527 239 17 rfl).trans ((u524 239 17 rfl).trans ((u521 239 17 rfl).trans ((u518 239 17 rfl).trans ((u515 239 17 rfl).trans ((u512 239 17 rfl).trans ((u509 239 17 rfl).trans ((u506 239 17 rfl).trans ((u503 239 17 rfl).trans ((u500 239 17 rfl).trans ((u497 239 17 rfl).trans ((u494 239 17 rfl).trans ((u491 239 17 rfl).trans ((u488 239 17 rfl).trans ((u485 239 17 rfl).trans ((u482 239 17 rfl).trans ((u479 239 17 rfl).trans ((u476 239 17 rfl).trans ((u473 239 17 rfl).trans ((u470 239 17 rfl).trans ((u467 239 17 rfl).trans ((u464 239 17 rfl).trans ((u461 239 17 rfl).trans ((u458 239 17 rfl).trans ((u455 239 17 rfl).trans ((u452 239 17 rfl).trans ((u449 239 17 rfl).trans ((u446 239 17 rfl).trans ((u443 239 17 rfl).trans ((u440 239 17 rfl).trans ((u437 239 17 rfl).trans ((u434 239 17 rfl).trans ((u431 239 17 rfl).trans ((u428 239 17 rfl).trans ((u425 239 17 rfl).trans ((u422 239 17 rfl).trans ((u419 239 17 rfl).trans ((u416 239 17 rfl).trans ((u413 239 17 rfl).trans ((u410 239 17 rfl).trans ((u407 239 17 rfl).trans ((u404 239 17 rfl).trans ((u401 239 17 rfl).trans ((u398 239 17 rfl).trans ((u395 239 17 rfl).trans ((u392 239 17 rfl).trans ((u389 239 17 rfl).trans ((u386 239 17 rfl).trans ((u383 239 17 rfl).trans ((u380 239 17 rfl).trans ((u377 239 17 rfl).trans ((u374 239 17 rfl).trans ((u371 239 17 rfl).trans ((u368 239 17 rfl).trans ((u365 239 17 rfl).trans ((u362 239 17 rfl).trans ((u359 239 17 rfl).trans ((u356 239 17 rfl).trans ((u353 239 17 rfl).trans ((u350 239 17 rfl).trans ((u347 239 17 rfl).trans ((u344 239 17 rfl).trans ((u341 239 17 rfl).trans ((u338 239 17 rfl).trans ((u335 239 17 rfl).trans ((u332 239 17 rfl).trans ((u329 239 17 rfl).trans ((u326 239 17 rfl).trans ((u323 239 17 rfl).trans ((u320 239 17 rfl).trans ((u317 239 17 rfl).trans ((u314 239 17 rfl).trans ((u311 239 17 rfl).trans ((u308 239 17 rfl).trans ((u305 239 17 rfl).trans ((u302 239 17 rfl).trans ((u299 239 17 rfl).trans ((u296 239 17 rfl).trans ((u293 239 17 rfl).trans ((u290 239 17 rfl).trans ((u287 239 17 rfl).trans ((u284 239 17 rfl).trans ((u281 239 17 rfl).trans ((u278 239 17 rfl).trans ((u275 239 17 rfl).trans ((u272 239 17 rfl).trans ((u269 239 17 rfl).trans ((u266 239 17 rfl).trans ((u263 239 17 rfl).trans ((u260 239 17 rfl).trans ((u257 239 17 rfl).trans ((u254 239 17 rfl).trans ((u251 239 17 rfl).trans ((u248 239 17 rfl).trans ((u245 239 17 rfl).trans ((u242 239 17 rfl).trans ((u239 239 17 rfl).trans ((u236 239 17 rfl).trans ((u233 239 17 rfl).trans ((u230 239 17 rfl).trans ((u227 239 17 rfl).trans ((u224 239 17 rfl).trans ((u221 239 17 rfl).trans ((u218 239 17 rfl).trans ((u215 239 17 rfl).trans ((u212 239 17 rfl).trans ((u209 239 17 rfl).trans ((u206 239 17 rfl).trans ((u203 239 17 rfl).trans ((u200 239 17 rfl).trans ((u197 239 17 rfl).trans ((u194 239 17 rfl).trans ((u191 239 17 rfl).trans ((u188 239 17 rfl).trans ((u185 239 17 rfl).trans ((u182 239 17 rfl).trans ((u179 239 17 rfl).trans ((u176 239 17 rfl).trans ((u173 239 17 rfl).trans ((u170 239 17 rfl).trans ((u167 239 17 rfl).trans ((u164 239 17 rfl).trans ((u161 239 17 rfl).trans ((u158 239 17 rfl).trans ((u155 239 17 rfl).trans ((u152 239 17 rfl).trans ((u149 239 17 rfl).trans ((u146 239 17 rfl).trans ((u143 239 17 rfl).trans ((u140 239 17 rfl).trans ((u137 239 17 rfl).trans ((u134 239 17 rfl).trans ((u131 239 17 rfl).trans ((u128 239 17 rfl).trans ((u125 239 17 rfl).trans ((u122 239 17 rfl).trans ((u119 239 17 rfl).trans ((u116 239 17 rfl).trans ((u113 239 17 rfl).trans ((u110 239 17 rfl).trans ((u107 239 17 rfl).trans ((u104 239 17 rfl).trans ((u101 239 17 rfl).trans ((u98 239 17 rfl).trans ((u95 239 17 rfl).trans ((u92 239 17 rfl).trans ((u89 239 17 rfl).trans ((u86 239 17 rfl).trans ((u83 239 17 rfl).trans ((u80 239 17 rfl).trans ((u77 239 17 rfl).trans ((u74 239 17 rfl).trans ((u71 239 17 rfl).trans ((u68 239 17 rfl).trans ((u65 239 17 rfl).trans ((u62 239 17 rfl).trans ((u59 239 17 rfl).trans ((u56 239 17 rfl).trans w53)))))))))))))))))))))))))))))))))))))))))))))))))))))))))))))))))))))))))))))))))))))))))))))))))))))))))))))))))))))))))))))))))))))))))))))))))))))))))))))))))))))))))))))))))))))))))))))
  have e621 : h614 239 18 = 0 := ((u614 239 18 rfl).trans ((u612 239 18 rfl).trans ((u610 239 18 rfl).trans ((u608 239 18 rfl).trans ((u606 239 18 rfl).trans ((u604 239 18 rfl).trans ((u602 239 18 rfl).trans ((u599 239 18 rfl).trans ((u596 239 18 rfl).trans ((u593 239 18 rfl).trans ((u590 239 18 rfl).trans ((u587 239 18 rfl).trans ((u584 239 18 rfl).trans ((u581 239 18 rfl).trans ((u578 239 18 rfl).trans ((u575 239 18 rfl).trans ((u572 239 18 rfl).trans ((u569 239 18 rfl).trans ((u566 239 18 rfl).trans ((u563 239 18 rfl).trans ((u560 239 18 rfl).trans ((u557 239 18 rfl).trans ((u554 239 18 rfl).trans ((u551 239 18 rfl).trans ((u548 239 18 rfl).trans ((u545 239 18 rfl).trans ((u542 239 18 rfl).trans ((u539 239 18 rfl).trans ((u536 239 18 rfl).trans ((u533 239 18 rfl).trans ((u530 239 18 rfl).trans ((u527 239 18 rfl).trans ((u524 239 18 rfl).trans ((u521 239 18 rfl).trans ((u518 239 18 rfl).trans ((u515 239 18 rfl).trans ((u512 239 18 rfl).trans ((u509 239 18 rfl).trans ((u506 239 18 rfl).trans ((u503 239 18 rfl).trans ((u500 239 18 rfl).trans ((u497 239 18 rfl).trans ((u494 239 18 rfl).trans ((u491 239 18 rfl).trans ((u488 239 18 rfl).trans ((u485 239 18 rfl).trans ((u482 239 18 rfl).trans ((u479 239 18 rfl).trans ((u476 239 18 rfl).trans ((u473 239 18 rfl).trans ((u470 239 18 rfl).trans ((u467 239 18 rfl).trans ((u464 239 18 rfl).trans ((u461 239 18 rfl).trans ((u458 239 18 rfl).trans ((u455 239 18 rfl).trans ((u452 239 18 rfl).trans ((u449 239 18 rfl).trans ((u446 239 18 rfl).trans ((u443 239 18 rfl).trans ((u440 239 18 rfl).trans ((u437 239 18 rfl).trans ((u434 239 18 rfl).trans ((u431 239 18 rfl).trans ((u428 239 18 rfl).trans ((u425 239 18 rfl).trans ((u422 239 18 rfl).trans ((u419 239 18 rfl).trans ((u416 239 18 rfl).trans ((u413 239 18 rfl).trans ((u410 239 18 rfl).trans ((u407 239 18 rfl).trans ((u404 239 18 rfl).trans ((u401 239 18 rfl).trans ((u398 239 18 rfl).trans ((u395 239 18 rfl).trans ((u392 239 18 rfl).trans ((u389 239 18 rfl).trans ((u386 239 18 rfl).trans ((u383 239 18 rfl).trans ((u380 239 18 rfl).trans ((u377 239 18 rfl).trans ((u374 239 18 rfl).trans ((u371 239 18 rfl).trans ((u368 239 18 rfl).trans ((u365 239 18 rfl).trans ((u362 239 18 rfl).trans ((u359 239 18 rfl).trans ((u356 239 18 rfl).trans ((u353 239 18 rfl).trans ((u350 239 18 rfl).trans ((u347 239 18 rfl).trans ((u344 239 18 rfl).trans ((u341 239 18 rfl).trans ((u338 239 18 rfl).trans ((u335 239 18 rfl).trans ((u332 239 18 rfl).trans ((u329 239 18 rfl).trans ((u326 239 18 rfl).trans ((u323 239 18 rfl).trans ((u320 239 18 rfl).trans ((u317 239 18 rfl).trans ((u314 239 18 rfl).trans ((u311 239 18 rfl).trans ((u308 239 18 rfl).trans ((u305 239 18 rfl).trans ((u302 239 18 rfl).trans ((u299 239 18 rfl).trans ((u296 239 18 rfl).trans ((u293 239 18 rfl).trans ((u290 239 18 rfl).trans ((u287 239 18 rfl).trans ((u284 239 18 rfl).trans ((u281 239 18 rfl).trans ((u278 239 18 rfl).trans ((u275 239 18 rfl).trans ((u272 239 18 rfl).trans ((u269 239 18 rfl).trans ((u266 239 18 rfl).trans ((u263 239 18 rfl).trans ((u260 239 18 rfl).trans ((u257 239 18 rfl).trans ((u254 239 18 rfl).trans ((u251 239 18 rfl).trans ((u248 239 18 rfl).trans ((u245 239 18 rfl).trans ((u242 239 18 rfl).trans ((u239 239 18 rfl).trans ((u236 239 18 rfl).trans ((u233 239 18 rfl).trans ((u230 239 18 rfl).trans ((u227 239 18 rfl).trans ((u224 239 18 rfl).trans ((u221 239 18 rfl).trans ((u218 239 18 rfl).trans ((u215 239 18 rfl).trans ((u212 239 18 rfl).trans ((u209 239 18 rfl).trans ((u206 239 18 rfl).trans ((u203 239 18 rfl).trans ((u200 239 18 rfl).trans ((u197 239 18 rfl).trans ((u194 239 18 rfl).trans ((u191 239 18 rfl).trans ((u188 239 18 rfl).trans ((u185 239 18 rfl).trans ((u182 239 18 rfl).trans ((u179 239 18 rfl).trans ((u176 239 18 rfl).trans ((u173 239 18 rfl).trans ((u170 239 18 rfl).trans ((u167 239 18 rfl).trans ((u164 239 18 rfl).trans ((u161 239 18 rfl).trans ((u158 239 18 rfl).trans ((u155 239 18 rfl).trans ((u152 239 18 rfl).trans ((u149 239 18 rfl).trans ((u146 239 18 rfl).trans ((u143 239 18 rfl).trans ((u140 239 18 rfl).trans ((u137 239 18 rfl).trans ((u134 239 18 rfl).trans ((u131 239 18 rfl).trans ((u128 239 18 rfl).trans ((u125 239 18 rfl).trans ((u122 239 18 rfl).trans ((u119 239 18 rfl).trans ((u116 239 18 rfl).trans ((u113 239 18 rfl).trans ((u110 239 18 rfl).trans ((u107 239 18 rfl).trans ((u104 239 18 rfl).trans ((u101 239 18 rfl).trans ((u98 239 18 rfl).trans ((u95 239 18 rfl).trans ((u92 239 18 rfl).trans ((u89 239 18 rfl).trans ((u86 239 18 rfl).trans ((u83 239 18 rfl).trans ((u80 239 18 rfl).trans ((u77 239 18 rfl).trans ((u74 239 18 rfl).trans ((u71 239 18 rfl).trans ((u68 239 18 rfl).trans ((u65 239 18 rfl).trans ((u62 239 18 rfl).trans ((u59 239 18 rfl).trans w56))))))))))))))))))))))))))))))))))))))))))))))))))))))))))))))))))))))))))))))))))))))))))))))))))))))))))))))))))))))))))))))))))))))))))))))))))))))))))))))))))))))))))))))))))))))))))))
  have e622 : h614 239 0 = 0 := ((u614 239 0 rfl).trans ((u612 239 0 rfl).trans ((u610 239 0 rfl).trans ((u608 239 0 rfl).trans ((u606 239 0 rfl).trans ((u604 239 0 rfl).trans ((u602 239 0 rfl).trans ((u599 239 0 rfl).trans ((u596 239 0 rfl).trans ((u593 239 0 rfl).trans ((u590 239 0 rfl).trans ((u587 239 0 rfl).trans ((u584 239 0 rfl).trans ((u581 239 0 rfl).trans ((u578 239 0 rfl).trans ((u575 239 0 rfl).trans ((u572 239 0 rfl).trans ((u569 239 0 rfl).trans ((u566 239 0 rfl).trans ((u563 239 0 rfl).trans ((u560 239 0 rfl).trans ((u557 239 0 rfl).trans ((u554 239 0 rfl).trans ((u551 239 0 rfl).trans ((u548 239 0 rfl).trans ((u545 239 0 rfl).trans ((u542 239 0 rfl).trans ((u539 239 0 rfl).trans ((u536 239 0 rfl).trans ((u533 239 0 rfl).trans ((u530 239 0 rfl).trans ((u527 239 0 rfl).trans ((u524 239 0 rfl).trans ((u521 239 0 rfl).trans ((u518 239 0 rfl).trans ((u515 239 0 rfl).trans ((u512 239 0 rfl).trans ((u509 239 0 rfl).trans ((u506 239 0 rfl).trans ((u503 239 0 rfl).trans ((u500 239 0 rfl).trans ((u497 239 0 rfl).trans ((u494 239 0 rfl).trans ((u491 239 0 rfl).trans ((u488 239 0 rfl).trans ((u485 239 0 rfl).trans ((u482 239 0 rfl).trans ((u479 239 0 rfl).trans ((u476 239 0 rfl).trans ((u473 239 0 rfl).trans ((u470 239 0 rfl).trans ((u467 239 0 rfl).trans ((u464 239 0 rfl).trans ((u461 239 0 rfl).trans ((u458 239 0 rfl).trans ((u455 239 0 rfl).trans ((u452 239 0 rfl).trans ((u449 239 0 rfl).trans ((u446 239 0 rfl).trans ((u443 239 0 rfl).trans ((u440 239 0 rfl).trans ((u437 239 0 rfl).trans ((u434 239 0 rfl).trans ((u431 239 0 rfl).trans ((u428 239 0 rfl).trans ((u425 239 0 rfl).trans ((u422 239 0 rfl).trans ((u419 239 0 rfl).trans ((u416 239 0 rfl).trans ((u413 239 0 rfl).trans ((u410 239 0 rfl).trans ((u407 239 0 rfl).trans ((u404 239 0 rfl).trans ((u401 239 0 rfl).trans ((u398 239 0 rfl).trans ((u395 239 0 rfl).trans ((u392 239 0 rfl).trans ((u389 239 0 rfl).trans ((u386 239 0 rfl).trans ((u383 239 0 rfl).trans ((u380 239 0 rfl).trans ((u377 239 0 rfl).trans ((u374 239 0 rfl).trans ((u371 239 0 rfl).trans ((u368 239 0 rfl).trans ((u365 239 0 rfl).trans ((u362 239 0 rfl).trans ((u359 239 0 rfl).trans ((u356 239 0 rfl).trans ((u353 239 0 rfl).trans ((u350 239 0 rfl).trans ((u347 239 0 rfl).trans ((u344 239 0 rfl).trans ((u341 239 0 rfl).trans ((u338 239 0 rfl).trans ((u335 239 0 rfl).trans ((u332 239 0 rfl).trans ((u329 239 0 rfl).trans ((u326 239 0 rfl).trans ((u323 239 0 rfl).trans ((u320 239 0 rfl).trans ((u317 239 0 rfl).trans ((u314 239 0 rfl).trans ((u311 239 0 rfl).trans ((u308 239 0 rfl).trans ((u305 239 0 rfl).trans ((u302 239 0 rfl).trans ((u299 239 0 rfl).trans ((u296 239 0 rfl).trans ((u293 239 0 rfl).trans ((u290 239 0 rfl).trans ((u287 239 0 rfl).trans ((u284 239 0 rfl).trans ((u281 239 0 rfl).trans ((u278 239 0 rfl).trans ((u275 239 0 rfl).trans ((u272 239 0 rfl).trans ((u269 239 0 rfl).trans ((u266 239 0 rfl).trans ((u263 239 0 rfl).trans ((u260 239 0 rfl).trans ((u257 239 0 rfl).trans ((u254 239 0 rfl).trans ((u251 239 0 rfl).trans ((u248 239 0 rfl).trans ((u245 239 0 rfl).trans ((u242 239 0 rfl).trans ((u239 239 0 rfl).trans ((u236 239 0 rfl).trans ((u233 239 0 rfl).trans ((u230 239 0 rfl).trans ((u227 239 0 rfl).trans ((u224 239 0 rfl).trans ((u221 239 0 rfl).trans ((u218 239 0 rfl).trans ((u215 239 0 rfl).trans ((u212 239 0 rfl).trans ((u209 239 0 rfl).trans ((u206 239 0 rfl).trans ((u203 239 0 rfl).trans ((u200 239 0 rfl).trans ((u197 239 0 rfl).trans ((u194 239 0 rfl).trans ((u191 239 0 rfl).trans ((u188 239 0 rfl).trans ((u185 239 0 rfl).trans ((u182 239 0 rfl).trans ((u179 239 0 rfl).trans ((u176 239 0 rfl).trans ((u173 239 0 rfl).trans ((u170 239 0 rfl).trans ((u167 239 0 rfl).trans ((u164 239 0 rfl).trans ((u161 239 0 rfl).trans ((u158 239 0 rfl).trans ((u155 239 0 rfl).trans ((u152 239 0 rfl).trans ((u149 239 0 rfl).trans ((u146 239 0 rfl).trans ((u143 239 0 rfl).trans ((u140 239 0 rfl).trans ((u137 239 0 rfl).trans ((u134 239 0 rfl).trans ((u131 239 0 rfl).trans ((u128 239 0 rfl).trans ((u125 239 0 rfl).trans ((u122 239 0 rfl).trans ((u119 239 0 rfl).trans ((u116 239 0 rfl).trans ((u113 239 0 rfl).trans ((u110 239 0 rfl).trans ((u107 239 0 rfl).trans ((u104 239 0 rfl).trans ((u101 239 0 rfl).trans ((u98 239 0 rfl).trans ((u95 239 0 rfl).trans ((u92 239 0 rfl).trans ((u89 239 0 rfl).trans ((u86 239 0 rfl).trans ((u83 239 0 rfl).trans ((u80 239 0 rfl).trans ((u77 239 0 rfl).trans ((u74 239 0 rfl).trans ((u71 239 0 rfl).trans ((u68 239 0 rfl).trans ((u65 239 0 rfl).trans ((u62 239 0 rfl).trans ((u59 239 0 rfl).trans ((u56 239 0 rfl).trans ((u53 239 0 rfl).trans ((u50 239 0 rfl).trans ((u47 239 0 rfl).trans ((u44 239 0 rfl).trans ((u41 239 0 rfl).trans ((u38 239 0 rfl).trans ((u35 239 0 rfl).trans ((u32 239 0 rfl).trans ((u29 239 0 rfl).trans ((u26 239 0 rfl).trans ((u23 239 0 rfl).trans ((u20 239 0 rfl).trans ((u17 239 0 rfl).trans ((u14 239 0 rfl).trans ((u11 239 0 rfl).trans ((u8 239 0 rfl).trans ((u5 239 0 rfl).trans w2))))))))))))))))))))))))))))))))))))))))))))))))))))))))))))))))))))))))))))))))))))))))))))))))))))))))))))))))))))))))))))))))))))))))))))))))))))))))))))))))))))))))))))))))))))))))))))))))))))))))))))))
  have e623 : h614 239 1 = 0 := ((u614 239 1 rfl).trans ((u612 239 1 rfl).trans ((u610 239 1 rfl).trans ((u608 239 1 rfl).trans ((u606 239 1 rfl).trans ((u604 239 1 rfl).trans ((u602 239 1 rfl).trans ((u599 239 1 rfl).trans ((u596 239 1 rfl).trans ((u593 239 1 rfl).trans ((u590 239 1 rfl).trans ((u587 239 1 rfl).trans ((u584 239 1 rfl).trans ((u581 239 1 rfl).trans ((u578 239 1 rfl).trans ((u575 239 1 rfl).trans ((u572 239 1 rfl).trans ((u569 239 1 rfl).trans ((u566 239 1 rfl).trans ((u563 239 1 rfl).trans ((u560 239 1 rfl).trans ((u557 239 1 rfl).trans ((u554 239 1 rfl).trans ((u551 239 1 rfl).trans ((u548 239 1 rfl).trans ((u545 239 1 rfl).trans ((u542 239 1 rfl).trans ((u539 239 1 rfl).trans ((u536 239 1 rfl).trans ((u533 239 1 rfl).trans ((u530 239 1 rfl).trans ((u527 239 1 rfl).trans ((u524 239 1 rfl).trans ((u521 239 1 rfl).trans ((u518 239 1 rfl).trans ((u515 239 1 rfl).trans ((u512 239 1 rfl).trans ((u509 239 1 rfl).trans ((u506 239 1 rfl).trans ((u503 239 1 rfl).trans ((u500 239 1 rfl).trans ((u497 239 1 rfl).trans ((u494 239 1 rfl).trans ((u491 239 1 rfl).trans ((u488 239 1 rfl).trans ((u485 239 1 rfl).trans ((u482 239 1 rfl).trans ((u479 239 1 rfl).trans ((u476 239 1 rfl).trans ((u473 239 1 rfl).trans ((u470 239 1 rfl).trans ((u467 239 1 rfl).trans ((u464 239 1 rfl).trans ((u461 239 1 rfl).trans ((u458 239 1 rfl).trans ((u455 239 1 rfl).trans ((u452 239 1 rfl).trans ((u449 239 1 rfl).trans ((u446 239 1 rfl).trans ((u443 239 1 rfl).trans ((u440 239 1 rfl).trans ((u437 239 1 rfl).trans ((u434 239 1 rfl).trans ((u431 239 1 rfl).trans ((u428 239 1 rfl).trans ((u425 239 1 rfl).trans ((u422 239 1 rfl).trans ((u419 239 1 rfl).trans ((u416 239 1 rfl).trans ((u413 239 1 rfl).trans ((u410 239 1 rfl).trans ((u407 239 1 rfl).trans ((u404 239 1 rfl).trans ((u401 239 1 rfl).trans ((u398 239 1 rfl).trans ((u395 239 1 rfl).trans ((u392 239 1 rfl).trans ((u389 239 1 rfl).trans ((u386 239 1 rfl).trans ((u383 239 1 rfl).trans ((u380 239 1 rfl).trans ((u377 239 1 rfl).trans ((u374 239 1 rfl).trans ((u371 239 1 rfl).trans ((u368 239 1 rfl).trans ((u365 239 1 rfl).trans ((u362 239 1 rfl).trans ((u359 239 1 rfl).trans ((u356 239 1 rfl).trans ((u353 239 1 rfl).trans ((u350 239 1 rfl).trans ((u347 239 1 rfl).trans ((u344 239 1 rfl).trans ((u341 239 1 rfl).trans ((u338 239 1 rfl).trans ((u335 239 1 rfl).trans ((u332 239 1 rfl).trans ((u329 239 1 rfl).trans ((u326 239 1 rfl).trans ((u323 239 1 rfl).trans ((u320 239 1 rfl).trans ((u317 239 1 rfl).trans ((u314 239 1 rfl).trans ((u311 239 1 rfl).trans ((u308 239 1 rfl).trans ((u305 239 1 rfl).trans ((u302 239 1 rfl).trans ((u299 239 1 rfl).trans ((u296 239 1 rfl).trans ((u293 239 1 rfl).trans ((u290 239 1 rfl).trans ((u287 239 1 rfl).trans ((u284 239 1 rfl).trans ((u281 239 1 rfl).trans ((u278 239 1 rfl).trans ((u275 239 1 rfl).trans ((u272 239 1 rfl).trans ((u269 239 1 rfl).trans ((u266 239 1 rfl).trans ((u263 239 1 rfl).trans ((u260 239 1 rfl).trans ((u257 239 1 rfl).trans ((u254 239 1 rfl).trans ((u251 239 1 rfl).trans ((u248 239 1 rfl).trans ((u245 239 1 rfl).trans ((u242 239 1 rfl).trans ((u239 239 1 rfl).trans ((u236 239 1 rfl).trans ((u233 239 1 rfl).trans ((u230 239 1 rfl).trans ((u227 239 1 rfl).trans ((u224 239 1 rfl).trans ((u221 239 1 rfl).trans ((u218 239 1 rfl).trans ((u215 239 1 rfl).trans ((u212 239 1 rfl).trans ((u209 239 1 rfl).trans ((u206 239 1 rfl).trans ((u203 239 1 rfl).trans ((u200 239 1 rfl).trans ((u197 239 1 rfl).trans ((u194 239 1 rfl).trans ((u191 239 1 rfl).trans ((u188 239 1 rfl).trans ((u185 239 1 rfl).trans ((u182 239 1 rfl).trans ((u179 239 1 rfl).trans ((u176 239 1 rfl).trans ((u173 239 1 rfl).trans ((u170 239 1 rfl).trans ((u167 239 1 rfl).trans ((u164 239 1 rfl).trans ((u161 239 1 rfl).trans ((u158 239 1 rfl).trans ((u155 239 1 rfl).trans ((u152 239 1 rfl).trans ((u149 239 1 rfl).trans ((u146 239 1 rfl).trans ((u143 239 1 rfl).trans ((u140 239 1 rfl).trans ((u137 239 1 rfl).trans ((u134 239 1 rfl).trans ((u131 239 1 rfl).trans ((u128 239 1 rfl).trans ((u125 239 1 rfl).trans ((u122 239 1 rfl).trans ((u119 239 1 rfl).trans ((u116 239 1 rfl).trans ((u113 239 1 rfl).trans ((u110 239 1 rfl).trans ((u107 239 1 rfl).trans ((u104 239 1 rfl).trans ((u101 239 1 rfl).trans ((u98 239 1 rfl).trans ((u95 239 1 rfl).trans ((u92 239 1 rfl).trans ((u89 239 1 rfl).trans ((u86 239 1 rfl).trans ((u83 239 1 rfl).trans ((u80 239 1 rfl).trans ((u77 239 1 rfl).trans ((u74 239 1 rfl).trans ((u71 239 1 rfl).trans ((u68 239 1 rfl).trans ((u65 239 1 rfl).trans ((u62 239 1 rfl).trans ((u59 239 1 rfl).trans ((u56 239 1 rfl).trans ((u53 239 1 rfl).trans ((u50 239 1 rfl).trans ((u47 239 1 rfl).trans ((u44 239 1 rfl).trans ((u41 239 1 rfl).trans ((u38 239 1 rfl).trans ((u35 239 1 rfl).trans ((u32 239 1 rfl).trans ((u29 239 1 rfl).trans ((u26 239 1 rfl).trans ((u23 239 1 rfl).trans ((u20 239 1 rfl).trans ((u17 239 1 rfl).trans ((u14 239 1 rfl).trans ((u11 239 1 rfl).trans ((u8 239 1 rfl).trans w5)))))))))))))))))))))))))))))))))))))))))))))))))))))))))))))))))))))))))))))))))))))))))))))))))))))))))))))))))))))))))))))))))))))))))))))))))))))))))))))))))))))))))))))))))))))))))))))))))))))))))))))
  have e624 : h614 239 2 = 0 := ((u614 239 2 rfl).trans ((u612 239 2 rfl).trans ((u610 239 2 rfl).trans ((u608 239 2 rfl).trans ((u606 239 2 rfl).trans ((u604 239 2 rfl).trans ((u602 239 2 rfl).trans ((u599 239 2 rfl).trans ((u596 239 2 rfl).trans ((u593 239 2 rfl).trans ((u590 239 2 rfl).trans ((u587 239 2 rfl).trans ((u584 239 2 rfl).trans ((u581 239 2 rfl).trans ((u578 239 2 rfl).trans ((u575 239 2 rfl).trans ((u572 239 2 rfl).trans ((u569 239 2 rfl).trans ((u566 239 2 rfl).trans ((u563 239 2 rfl).trans ((u560 239 2 rfl).trans ((u557 239 2 rfl).trans ((u554 239 2 rfl).trans ((u551 239 2 rfl).trans ((u548 239 2 rfl).trans ((u545 239 2 rfl).trans ((u542 239 2 rfl).trans ((u539 239 2 rfl).trans ((u536 239 2 rfl).trans ((u533 239 2 rfl).trans ((u530 239 2 rfl).trans ((u527 239 2 rfl).trans ((u524 239 2 rfl).trans ((u521 239 2 rfl).trans ((u518 239 2 rfl).trans ((u515 239 2 rfl).trans ((u512 239 2 rfl).trans ((u509 239 2 rfl).trans ((u506 239 2 rfl).trans ((u503 239 2 rfl).trans ((u500 239 2 rfl).trans ((u497 239 2 rfl).trans ((u494 239 2 rfl).trans ((u491 239 2 rfl).trans ((u488 239 2 rfl).trans ((u485 239 2 rfl).trans ((u482 239 2 rfl).trans ((u479 239 2 rfl).trans ((u476 239 2 rfl).trans ((u473 239 2 rfl).trans ((u470 239 2 rfl).trans ((u467 239 2 rfl).trans ((u464 239 2 rfl).trans ((u461 239 2 rfl).trans ((u458 239 2 rfl).trans ((u455 239 2 rfl).trans ((u452 239 2 rfl).trans ((u449 239 2 rfl).trans ((u446 239 2 rfl).trans ((u443 239 2 rfl).trans ((u440 239 2 rfl).trans ((u437 239 2 rfl).trans ((u434 239 2 rfl).trans ((u431 239 2 rfl).trans ((u428 239 2 rfl).trans ((u425 239 2 rfl).trans ((u422 239 2 rfl).trans ((u419 239 2 rfl).trans ((u416 239 2 rfl).trans ((u413 239 2 rfl).trans ((u410 239 2 rfl).trans ((u407 239 2 rfl).trans ((u404 239 2 rfl).trans ((u401 239 2 rfl).trans ((u398 239 2 rfl).trans ((u395 239 2 rfl).trans ((u392 239 2 rfl).trans ((u389 239 2 rfl).trans ((u386 239 2 rfl).trans ((u383 239 2 rfl).trans ((u380 239 2 rfl).trans ((u377 239 2 rfl).trans ((u374 239 2 rfl).trans ((u371 239 2 rfl).trans ((u368 239 2 rfl).trans ((u365 239 2 rfl).trans ((u362 239 2 rfl).trans ((u359 239 2 rfl).trans ((u356 239 2 rfl).trans ((u353 239 2 rfl).trans ((u350 239 2 rfl).trans ((u347 239 2 rfl).trans ((u344 239 2 rfl).trans ((u341 239 2 rfl).trans ((u338 239 2 rfl).trans ((u335 239 2 rfl).trans ((u332 239 2 rfl).trans ((u329 239 2 rfl).trans ((u326 239 2 rfl).trans ((u323 239 2 rfl).trans ((u320 239 2 rfl).trans ((u317 239 2 rfl).trans ((u314 239 2 rfl).trans ((u311 239 2 rfl).trans ((u308 239 2 rfl).trans ((u305 239 2 rfl).trans ((u302 239 2 rfl).trans ((u299 239 2 rfl).trans ((u296 239 2 rfl).trans ((u293 239 2 rfl).trans ((u290 239 2 rfl).trans ((u287 239 2 rfl).trans ((u284 239 2 rfl).trans ((u281 239 2 rfl).trans ((u278 239 2 rfl).trans ((u275 239 2 rfl).trans ((u272 239 2 rfl).trans ((u269 239 2 rfl).trans ((u266 239 2 rfl).trans ((u263 239 2 rfl).trans ((u260 239 2 rfl).trans ((u257 239 2 rfl).trans ((u254 239 2 rfl).trans ((u251 239 2 rfl).trans ((u248 239 2 rfl).trans ((u245 239 2 rfl).trans ((u242 239 2 rfl).trans ((u239 239 2 rfl).trans ((u236 239 2 rfl).trans ((u233 239 2 rfl).trans ((u230 239 2 rfl).trans ((u227 239 2 rfl).trans ((u224 239 2 rfl).trans ((u221 239 2 rfl).trans ((u218 239 2 rfl).trans ((u215 239 2 rfl).trans ((u212 239 2 rfl).trans ((u209 239 2 rfl).trans ((u206 239 2 rfl).trans ((u203 239 2 rfl).trans ((u200 239 2 rfl).trans ((u197 239 2 rfl).trans ((u194 239 2 rfl).trans ((u191 239 2 rfl).trans ((u188 239 2 rfl).trans ((u185 239 2 rfl).trans ((u182 239 2 rfl).trans ((u179 239 2 rfl).trans ((u176 239 2 rfl).trans ((u173 239 2 rfl).trans ((u170 239 2 rfl).trans ((u167 239 2 rfl).trans ((u164 239 2 rfl).trans ((u161 239 2 rfl).trans ((u158 239 2 rfl).trans ((u155 239 2 rfl).trans ((u152 239 2 rfl).trans ((u149 239 2 rfl).trans ((u146 239 2 rfl).trans ((u143 239 2 rfl).trans ((u140 239 2 rfl).trans ((u137 239 2 rfl).trans ((u134 239 2 rfl).trans ((u131 239 2 rfl).trans ((u128 239 2 rfl).trans ((u125 239 2 rfl).trans ((u122 239 2 rfl).trans ((u119 239 2 rfl).trans ((u116 239 2 rfl).trans ((u113 239 2 rfl).trans ((u110 239 2 rfl).trans ((u107 239 2 rfl).trans ((u104 239 2 rfl).trans ((u101 239 2 rfl).trans ((u98 239 2 rfl).trans ((u95 239 2 rfl).trans ((u92 239 2 rfl).trans ((u89 239 2 rfl).trans ((u86 239 2 rfl).trans ((u83 239 2 rfl).trans ((u80 239 2 rfl).trans ((u77 239 2 rfl).trans ((u74 239 2 rfl).trans ((u71 239 2 rfl).trans ((u68 239 2 rfl).trans ((u65 239 2 rfl).trans ((u62 239 2 rfl).trans ((u59 239 2 rfl).trans ((u56 239 2 rfl).trans ((u53 239 2 rfl).trans ((u50 239 2 rfl).trans ((u47 239 2 rfl).trans ((u44 239 2 rfl).trans ((u41 239 2 rfl).trans ((u38 239 2 rfl).trans ((u35 239 2 rfl).trans ((u32 239 2 rfl).trans ((u29 239 2 rfl).trans ((u26 239 2 rfl).trans ((u23 239 2 rfl).trans ((u20 239 2 rfl).trans ((u17 239 2 rfl).trans ((u14 239 2 rfl).trans ((u11 239 2 rfl).trans w8))))))))))))))))))))))))))))))))))))))))))))))))))))))))))))))))))))))))))))))))))))))))))))))))))))))))))))))))))))))))))))))))))))))))))))))))))))))))))))))))))))))))))))))))))))))))))))))))))))))))))))
  have e625 : h614 239 3 = 11 := ((u614 239 3 rfl).trans ((u612 239 3 rfl).trans ((u610 239 3 rfl).trans ((u608 239 3 rfl).trans ((u606 239 3 rfl).trans ((u604 239 3 rfl).trans w602))))))
  have e626 : h614 239 4 = 11 := ((u614 239 4 rfl).trans ((u612 239 4 rfl).trans ((u610 239 4 rfl).trans ((u608 239 4 rfl).trans ((u606 239 4 rfl).trans w604)))))
  have e627 : h614 239 6 = 0 := ((u614 239 6 rfl).trans ((u612 239 6 rfl).trans ((u610 239 6 rfl).trans ((u608 239 6 rfl).trans ((u606 239 6 rfl).trans ((u604 239 6 rfl).trans ((u602 239 6 rfl).trans ((u599 239 6 rfl).trans ((u596 239 6 rfl).trans ((u593 239 6 rfl).trans ((u590 239 6 rfl).trans ((u587 239 6 rfl).trans ((u584 239 6 rfl).trans ((u581 239 6 rfl).trans ((u578 239 6 rfl).trans ((u575 239 6 rfl).trans ((u572 239 6 rfl).trans ((u569 239 6 rfl).trans ((u566 239 6 rfl).trans ((u563 239 6 rfl).trans ((u560 239 6 rfl).trans ((u557 239 6 rfl).trans ((u554 239 6 rfl).trans ((u551 239 6 rfl).trans ((u548 239 6 rfl).trans ((u545 239 6 rfl).trans ((u542 239 6 rfl).trans ((u539 239 6 rfl).trans ((u536 239 6 rfl).trans ((u533 239 6 rfl).trans ((u530 239 6 rfl).trans ((u527 239 6 rfl).trans ((u524 239 6 rfl).trans ((u521 239 6 rfl).trans ((u518 239 6 rfl).trans ((u515 239 6 rfl).trans ((u512 239 6 rfl).trans ((u509 239 6 rfl).trans ((u506 239 6 rfl).trans ((u503 239 6 rfl).trans ((u500 239 6 rfl).trans ((u497 239 6 rfl).trans ((u494 239 6 rfl).trans ((u491 239 6 rfl).trans ((u488 239 6 rfl).trans ((u485 239 6 rfl).trans ((u482 239 6 rfl).trans ((u479 239 6 rfl).trans ((u476 239 6 rfl).trans ((u473 239 6 rfl).trans ((u470 239 6 rfl).trans ((u467 239 6 rfl).trans ((u464 239 6 rfl).trans ((u461 239 6 rfl).trans ((u458 239 6 rfl).trans ((u455 239 6 rfl).trans ((u452 239 6 rfl).trans ((u449 239 6 rfl).trans ((u446 239 6 rfl).trans ((u443 239 6 rfl).trans ((u440 239 6 rfl).trans ((u437 239 6 rfl).trans ((u434 239 6 rfl).trans ((u431 239 6 rfl).trans ((u428 239 6 rfl).trans ((u425 239 6 rfl).trans ((u422 239 6 rfl).trans ((u419 239 6 rfl).trans ((u416 239 6 rfl).trans ((u413 239 6 rfl).trans ((u410 239 6 rfl).trans ((u407 239 6 rfl).trans ((u404 239 6 rfl).trans ((u401 239 6 rfl).trans ((u398 239 6 rfl).trans ((u395 239 6 rfl).trans ((u392 239 6 rfl).trans ((u389 239 6 rfl).trans ((u386 239 6 rfl).trans ((u383 239 6 rfl).trans ((u380 239 6 rfl).trans ((u377 239 6 rfl).trans ((u374 239 6 rfl).trans ((u371 239 6 rfl).trans ((u368 239 6 rfl).trans ((u365 239 6 rfl).trans ((u362 239 6 rfl).trans ((u359 239 6 rfl).trans ((u356 239 6 rfl).trans ((u353 239 6 rfl).trans ((u350 239 6 rfl).trans ((u347 239 6 rfl).trans ((u344 239 6 rfl).trans ((u341 239 6 rfl).trans ((u338 239 6 rfl).trans ((u335 239 6 rfl).trans ((u332 239 6 rfl).trans ((u329 239 6 rfl).trans ((u326 239 6 rfl).trans ((u323 239 6 rfl).trans ((u320 239 6 rfl).trans ((u317 239 6 rfl).trans ((u314 239 6 rfl).trans ((u311 239 6 rfl).trans ((u308 239 6 rfl).trans ((u305 239 6 rfl).trans ((u302 239 6 rfl).trans ((u299 239 6 rfl).trans ((u296 239 6 rfl).trans ((u293 239 6 rfl).trans ((u290 239 6 rfl).trans ((u287 239 6 rfl).trans ((u284 239 6 rfl).trans ((u281 239 6 rfl).trans ((u278 239 6 rfl).trans ((u275 239 6 rfl).trans ((u272 239 6 rfl).trans ((u269 239 6 rfl).trans ((u266 239 6 rfl).trans ((u263 239 6 rfl).trans ((u260 239 6 rfl).trans ((u257 239 6 rfl).trans ((u254 239 6 rfl).trans ((u251 239 6 rfl).trans ((u248 239 6 rfl).trans ((u245 239 6 rfl).trans ((u242 239 6 rfl).trans ((u239 239 6 rfl).trans ((u236 239 6 rfl).trans ((u233 239 6 rfl).trans ((u230 239 6 rfl).trans ((u227 239 6 rfl).trans ((u224 239 6 rfl).trans ((u221 239 6 rfl).trans ((u218 239 6 rfl).trans ((u215 239 6 rfl).trans ((u212 239 6 rfl).trans ((u209 239 6 rfl).trans ((u206 239 6 rfl).trans ((u203 239 6 rfl).trans ((u200 239 6 rfl).trans ((u197 239 6 rfl).trans ((u194 239 6 rfl).trans ((u191 239 6 rfl).trans ((u188 239 6 rfl).trans ((u185 239 6 rfl).trans ((u182 239 6 rfl).trans ((u179 239 6 rfl).trans ((u176 239 6 rfl).trans ((u173 239 6 rfl).trans ((u170 239 6 rfl).trans ((u167 239 6 rfl).trans ((u164 239 6 rfl).trans ((u161 239 6 rfl).trans ((u158 239 6 rfl).trans ((u155 239 6 rfl).trans ((u152 239 6 rfl).trans ((u149 239 6 rfl).trans ((u146 239 6 rfl).trans ((u143 239 6 rfl).trans ((u140 239 6 rfl).trans ((u137 239 6 rfl).trans ((u134 239 6 rfl).trans ((u131 239 6 rfl).trans ((u128 239 6 rfl).trans ((u125 239 6 rfl).trans ((u122 239 6 rfl).trans ((u119 239 6 rfl).trans ((u116 239 6 rfl).trans ((u113 239 6 rfl).trans ((u110 239 6 rfl).trans ((u107 239 6 rfl).trans ((u104 239 6 rfl).trans ((u101 239 6 rfl).trans ((u98 239 6 rfl).trans ((u95 239 6 rfl).trans ((u92 239 6 rfl).trans ((u89 239 6 rfl).trans ((u86 239 6 rfl).trans ((u83 239 6 rfl).trans ((u80 239 6 rfl).trans ((u77 239 6 rfl).trans ((u74 239 6 rfl).trans ((u71 239 6 rfl).trans ((u68 239 6 rfl).trans ((u65 239 6 rfl).trans ((u62 239 6 rfl).trans ((u59 239 6 rfl).trans ((u56 239 6 rfl).trans ((u53 239 6 rfl).trans ((u50 239 6 rfl).trans ((u47 239 6 rfl).trans ((u44 239 6 rfl).trans ((u41 239 6 rfl).trans ((u38 239 6 rfl).trans ((u35 239 6 rfl).trans ((u32 239 6 rfl).trans ((u29 239 6 rfl).trans ((u26 239 6 rfl).trans ((u23 239 6 rfl).trans w20))))))))))))))))))))))))))))))))))))))))))))))))))))))))))))))))))))))))))))))))))))))))))))))))))))))))))))))))))))))))))))))))))))))))))))))))))))))))))))))))))))))))))))))))))))))))))))))))))))))))
  have e628 : h614 239 8 = 3 := ((u614 239 8 rfl).trans ((u612 239 8 rfl).trans w610))
  have e629 : h614 239 9 = 2 := ((u614 239 9 rfl).trans w612)
  exact k h614 g614 F615 (show (h614 239 5) = 9 by omega) (show (h614 239 7) = 1 by omega) (show (h614 239 15) = 0 by omega) (show (h614 239 16) = 0 by omega) (show (h614 239 17) = 0 by omega) (show (h614 239 18) = 0 by omega) (show (h614 239 0) = 0 by omega) (show (h614 239 1) = 0 by omega) (show (h614 239 2) = 0 by omega) (show (h614 239 3) = 11 by omega) (show (h614 239 4) = 11 by omega) (show (h614 239 6) = 0 by omega) (show (h614 239 8) = 3 by omega) (show (h614 239 9) = 2 by omega)
