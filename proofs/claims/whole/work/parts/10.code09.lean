def cd_X12_stands : mm_K mm_H := [(0, s_aload 0 1), (1, s_pushI 1 2), (2, s_putZ 12 53 5), (5, s_aload 0 6), (6, s_aload 0 7), (7, s_get 12 37 10), (10, s_putI 12 38 13), (13, s_aload 0 14), (14, s_aload 0 15), (15, s_get 12 39 18), (18, s_putI 12 40 21), (21, s_aload 0 22), (22, s_aload 0 23), (23, s_get 12 46 26), (26, s_putI 12 47 29), (29, s_pushI 0 30), (30, s_istore 1 31), (31, s_iload 1 32), (32, s_pushI 8 34), (34, s_icmp (fun x y => y ≤ x) 88 37), (37, s_aload 0 38), (38, s_get 12 41 41), (41, s_pushI 8 43), (43, s_iload 1 44), (44, s_bin (fun x y => x + y) 45), (45, s_aload 0 46), (46, s_get 12 41 49), (49, s_iload 1 50), (50, s_lald 51), (51, s_last 52), (52, s_aload 0 53), (53, s_get 12 43 56), (56, s_pushI 8 58), (58, s_iload 1 59), (59, s_bin (fun x y => x + y) 60), (60, s_aload 0 61), (61, s_get 12 43 64), (64, s_iload 1 65), (65, s_iald 66), (66, s_iast 67), (67, s_aload 0 68), (68, s_get 12 44 71), (71, s_pushI 8 73), (73, s_iload 1 74), (74, s_bin (fun x y => x + y) 75), (75, s_aload 0 76), (76, s_get 12 44 79), (79, s_iload 1 80), (80, s_iald 81), (81, s_iast 82), (82, s_iinc 1 1 85), (85, s_goto 31), (88, s_pushI 0 89), (89, s_istore 1 90), (90, s_iload 1 91), (91, s_pushI 3 92), (92, s_icmp (fun x y => y ≤ x) 129 95), (95, s_aload 0 96), (96, s_get 12 48 99), (99, s_pushI 3 100), (100, s_iload 1 101), (101, s_bin (fun x y => x + y) 102), (102, s_aload 0 103), (103, s_get 12 48 106), (106, s_iload 1 107), (107, s_iald 108), (108, s_iast 109), (109, s_aload 0 110), (110, s_get 12 49 113), (113, s_pushI 3 114), (114, s_iload 1 115), (115, s_bin (fun x y => x + y) 116), (116, s_aload 0 117), (117, s_get 12 49 120), (120, s_iload 1 121), (121, s_iald 122), (122, s_iast 123), (123, s_iinc 1 1 126), (126, s_goto 90), (129, s_pushI 0 130), (130, s_istore 1 131), (131, s_iload 1 132), (132, s_aload 0 133), (133, s_get 12 51 136), (136, s_icmp (fun x y => y ≤ x) 161 139), (139, s_aload 0 140), (140, s_get 12 50 143), (143, s_pushI 1600 146), (146, s_iload 1 147), (147, s_bin (fun x y => x + y) 148), (148, s_aload 0 149), (149, s_get 12 50 152), (152, s_iload 1 153), (153, s_iald 154), (154, s_iast 155), (155, s_iinc 1 1 158), (158, s_goto 131), (161, s_pushI 0 162), (162, s_istore 1 163), (163, s_iload 1 164), (164, s_pushI 210 167), (167, s_icmp (fun x y => y ≤ x) 183 170), (170, s_aload 0 171), (171, s_get 12 55 174), (174, s_iload 1 175), (175, s_pushI 0 176), (176, s_iast 177), (177, s_iinc 1 1 180), (180, s_goto 163), (183, s_pushI 0 184), (184, s_istore 1 185), (185, s_iload 1 186), (186, s_aload 0 187), (187, s_get 12 40 190), (190, s_icmp (fun x y => y ≤ x) 234 193), (193, s_aload 0 194), (194, s_get 12 55 197), (197, s_pushI 1 198), (198, s_pushI 3 199), (199, s_iload 1 200), (200, s_bin (fun x y => x * y) 201), (201, s_bin (fun x y => x + y) 202), (202, s_aload 0 203), (203, s_get 12 42 206), (206, s_iload 1 207), (207, s_iald 208), (208, s_iast 209), (209, s_aload 0 210), (210, s_get 12 55 213), (213, s_pushI 2 214), (214, s_pushI 3 215), (215, s_iload 1 216), (216, s_bin (fun x y => x * y) 217), (217, s_bin (fun x y => x + y) 218), (218, s_pushI 10 220), (220, s_aload 0 221), (221, s_get 12 43 224), (224, s_iload 1 225), (225, s_iald 226), (226, s_bin (fun x y => x * y) 227), (227, s_iast 228), (228, s_iinc 1 1 231), (231, s_goto 185), (234, s_pushI 0 235), (235, s_istore 1 236), (236, s_iload 1 237), (237, s_pushI 64 239), (239, s_icmp (fun x y => y ≤ x) 263 242), (242, s_aload 0 243), (243, s_get 12 55 246), (246, s_pushI 25 248), (248, s_iload 1 249), (249, s_bin (fun x y => x + y) 250), (250, s_aload 0 251), (251, s_get 12 45 254), (254, s_iload 1 255), (255, s_iald 256), (256, s_iast 257), (257, s_iinc 1 1 260), (260, s_goto 236), (263, s_aload 0 264), (264, s_pushI 0 265), (265, s_putI 12 73 268), (268, s_aload 0 269), (269, s_pushI 0 270), (270, s_putI 12 67 273), (273, s_vret)]
set_option maxRecDepth 100000 in
set_option maxHeartbeats 4000000 in
theorem ok_X12_stands (l : Launch) : mm_CodeOK l mm_I0 RX12 cX12_stands 2 none cd_X12_stands := by
  intro p e R s m args below meth c Q σ cA D A kc ks d C X
  have hx := X.1
  have hb := X.2.1
  have hown := X.2.2.2.1
  have hts := X.2.2.2.2.1
  refine mm_fc (ss_aload_n hx hb (by decide +kernel : decode cX12_stands 0 = .ok (.aload_n 0, 1)) rfl) ?_
  refine mm_fc (ss_iconst hx hb (by decide +kernel : decode cX12_stands 1 = .ok (.iconst 1, 1)) (by decide)) ?_
  refine mm_fc (ss_putZ X rfl in_X12 tyX12_ok nmX12 (by decide) rfl rfl rfl rfl wd_6_99 (by decide +kernel : decode cX12_stands 2 = .ok (.putfield 375, 3))) ?_
  refine mm_fc (ss_aload_n hx hb (by decide +kernel : decode cX12_stands 5 = .ok (.aload_n 0, 1)) rfl) ?_
  refine mm_fc (ss_aload_n hx hb (by decide +kernel : decode cX12_stands 6 = .ok (.aload_n 0, 1)) rfl) ?_
  refine mm_fc (ss_get X rfl in_X12 (by decide) rfl wd_6_83 (by decide +kernel : decode cX12_stands 7 = .ok (.getfield 317, 3))) ?_
  refine mm_fc (ss_putI X rfl in_X12 tyX12_ok nmX12 (by decide) rfl rfl rfl rfl wd_6_84 (by decide +kernel : decode cX12_stands 10 = .ok (.putfield 379, 3))) ?_
  refine mm_fc (ss_aload_n hx hb (by decide +kernel : decode cX12_stands 13 = .ok (.aload_n 0, 1)) rfl) ?_
  refine mm_fc (ss_aload_n hx hb (by decide +kernel : decode cX12_stands 14 = .ok (.aload_n 0, 1)) rfl) ?_
  refine mm_fc (ss_get X rfl in_X12 (by decide) rfl wd_6_85 (by decide +kernel : decode cX12_stands 15 = .ok (.getfield 298, 3))) ?_
  refine mm_fc (ss_putI X rfl in_X12 tyX12_ok nmX12 (by decide) rfl rfl rfl rfl wd_6_86 (by decide +kernel : decode cX12_stands 18 = .ok (.putfield 382, 3))) ?_
  refine mm_fc (ss_aload_n hx hb (by decide +kernel : decode cX12_stands 21 = .ok (.aload_n 0, 1)) rfl) ?_
  refine mm_fc (ss_aload_n hx hb (by decide +kernel : decode cX12_stands 22 = .ok (.aload_n 0, 1)) rfl) ?_
  refine mm_fc (ss_get X rfl in_X12 (by decide) rfl wd_6_92 (by decide +kernel : decode cX12_stands 23 = .ok (.getfield 360, 3))) ?_
  refine mm_fc (ss_putI X rfl in_X12 tyX12_ok nmX12 (by decide) rfl rfl rfl rfl wd_6_93 (by decide +kernel : decode cX12_stands 26 = .ok (.putfield 385, 3))) ?_
  refine mm_fc (ss_iconst hx hb (by decide +kernel : decode cX12_stands 29 = .ok (.iconst 0, 1)) (by decide)) ?_
  refine mm_fc (ss_istore_n hx hb (by decide +kernel : decode cX12_stands 30 = .ok (.istore_n 1, 1)) rfl (by decide)) ?_
  refine mm_fc (ss_iload_n hx hb (by decide +kernel : decode cX12_stands 31 = .ok (.iload_n 1, 1)) rfl) ?_
  refine mm_fc (ss_bipush hx hb (by decide +kernel : decode cX12_stands 32 = .ok (.bipush 8, 2)) (by decide)) ?_
  refine mm_fc (ss_icmpge hx hb (by decide +kernel : decode cX12_stands 34 = .ok (.if_icmp .ge 54, 3)) (by decide)) ?_
  refine mm_fc (ss_aload_n hx hb (by decide +kernel : decode cX12_stands 37 = .ok (.aload_n 0, 1)) rfl) ?_
  refine mm_fc (ss_get X rfl in_X12 (by decide) rfl wd_6_87 (by decide +kernel : decode cX12_stands 38 = .ok (.getfield 96, 3))) ?_
  refine mm_fc (ss_bipush hx hb (by decide +kernel : decode cX12_stands 41 = .ok (.bipush 8, 2)) (by decide)) ?_
  refine mm_fc (ss_iload_n hx hb (by decide +kernel : decode cX12_stands 43 = .ok (.iload_n 1, 1)) rfl) ?_
  refine mm_fc (ss_iadd hx hb (by decide +kernel : decode cX12_stands 44 = .ok (.iadd, 1))) ?_
  refine mm_fc (ss_aload_n hx hb (by decide +kernel : decode cX12_stands 45 = .ok (.aload_n 0, 1)) rfl) ?_
  refine mm_fc (ss_get X rfl in_X12 (by decide) rfl wd_6_87 (by decide +kernel : decode cX12_stands 46 = .ok (.getfield 96, 3))) ?_
  refine mm_fc (ss_iload_n hx hb (by decide +kernel : decode cX12_stands 49 = .ok (.iload_n 1, 1)) rfl) ?_
  refine mm_fc (ss_lald X (by decide +kernel : decode cX12_stands 50 = .ok (.laload, 1))) ?_
  refine mm_fc (ss_last X (by decide +kernel : decode cX12_stands 51 = .ok (.lastore, 1))) ?_
  refine mm_fc (ss_aload_n hx hb (by decide +kernel : decode cX12_stands 52 = .ok (.aload_n 0, 1)) rfl) ?_
  refine mm_fc (ss_get X rfl in_X12 (by decide) rfl wd_6_89 (by decide +kernel : decode cX12_stands 53 = .ok (.getfield 103, 3))) ?_
  refine mm_fc (ss_bipush hx hb (by decide +kernel : decode cX12_stands 56 = .ok (.bipush 8, 2)) (by decide)) ?_
  refine mm_fc (ss_iload_n hx hb (by decide +kernel : decode cX12_stands 58 = .ok (.iload_n 1, 1)) rfl) ?_
  refine mm_fc (ss_iadd hx hb (by decide +kernel : decode cX12_stands 59 = .ok (.iadd, 1))) ?_
  refine mm_fc (ss_aload_n hx hb (by decide +kernel : decode cX12_stands 60 = .ok (.aload_n 0, 1)) rfl) ?_
  refine mm_fc (ss_get X rfl in_X12 (by decide) rfl wd_6_89 (by decide +kernel : decode cX12_stands 61 = .ok (.getfield 103, 3))) ?_
  refine mm_fc (ss_iload_n hx hb (by decide +kernel : decode cX12_stands 64 = .ok (.iload_n 1, 1)) rfl) ?_
  refine mm_fc (ss_iald X (by decide +kernel : decode cX12_stands 65 = .ok (.iaload, 1))) ?_
  refine mm_fc (ss_iast X (by decide +kernel : decode cX12_stands 66 = .ok (.iastore, 1))) ?_
  refine mm_fc (ss_aload_n hx hb (by decide +kernel : decode cX12_stands 67 = .ok (.aload_n 0, 1)) rfl) ?_
  refine mm_fc (ss_get X rfl in_X12 (by decide) rfl wd_6_90 (by decide +kernel : decode cX12_stands 68 = .ok (.getfield 106, 3))) ?_
  refine mm_fc (ss_bipush hx hb (by decide +kernel : decode cX12_stands 71 = .ok (.bipush 8, 2)) (by decide)) ?_
  refine mm_fc (ss_iload_n hx hb (by decide +kernel : decode cX12_stands 73 = .ok (.iload_n 1, 1)) rfl) ?_
  refine mm_fc (ss_iadd hx hb (by decide +kernel : decode cX12_stands 74 = .ok (.iadd, 1))) ?_
  refine mm_fc (ss_aload_n hx hb (by decide +kernel : decode cX12_stands 75 = .ok (.aload_n 0, 1)) rfl) ?_
  refine mm_fc (ss_get X rfl in_X12 (by decide) rfl wd_6_90 (by decide +kernel : decode cX12_stands 76 = .ok (.getfield 106, 3))) ?_
  refine mm_fc (ss_iload_n hx hb (by decide +kernel : decode cX12_stands 79 = .ok (.iload_n 1, 1)) rfl) ?_
  refine mm_fc (ss_iald X (by decide +kernel : decode cX12_stands 80 = .ok (.iaload, 1))) ?_
  refine mm_fc (ss_iast X (by decide +kernel : decode cX12_stands 81 = .ok (.iastore, 1))) ?_
  refine mm_fc (ss_iinc hx hb (by decide +kernel : decode cX12_stands 82 = .ok (.iinc 1 1, 3)) (by decide) (by decide)) ?_
  refine mm_fc (ss_goto hx hb (by decide +kernel : decode cX12_stands 85 = .ok (.goto (-54), 3)) (by decide)) ?_
  refine mm_fc (ss_iconst hx hb (by decide +kernel : decode cX12_stands 88 = .ok (.iconst 0, 1)) (by decide)) ?_
  refine mm_fc (ss_istore_n hx hb (by decide +kernel : decode cX12_stands 89 = .ok (.istore_n 1, 1)) rfl (by decide)) ?_
  refine mm_fc (ss_iload_n hx hb (by decide +kernel : decode cX12_stands 90 = .ok (.iload_n 1, 1)) rfl) ?_
  refine mm_fc (ss_iconst hx hb (by decide +kernel : decode cX12_stands 91 = .ok (.iconst 3, 1)) (by decide)) ?_
  refine mm_fc (ss_icmpge hx hb (by decide +kernel : decode cX12_stands 92 = .ok (.if_icmp .ge 37, 3)) (by decide)) ?_
  refine mm_fc (ss_aload_n hx hb (by decide +kernel : decode cX12_stands 95 = .ok (.aload_n 0, 1)) rfl) ?_
  refine mm_fc (ss_get X rfl in_X12 (by decide) rfl wd_6_94 (by decide +kernel : decode cX12_stands 96 = .ok (.getfield 112, 3))) ?_
  refine mm_fc (ss_iconst hx hb (by decide +kernel : decode cX12_stands 99 = .ok (.iconst 3, 1)) (by decide)) ?_
  refine mm_fc (ss_iload_n hx hb (by decide +kernel : decode cX12_stands 100 = .ok (.iload_n 1, 1)) rfl) ?_
  refine mm_fc (ss_iadd hx hb (by decide +kernel : decode cX12_stands 101 = .ok (.iadd, 1))) ?_
  refine mm_fc (ss_aload_n hx hb (by decide +kernel : decode cX12_stands 102 = .ok (.aload_n 0, 1)) rfl) ?_
  refine mm_fc (ss_get X rfl in_X12 (by decide) rfl wd_6_94 (by decide +kernel : decode cX12_stands 103 = .ok (.getfield 112, 3))) ?_
  refine mm_fc (ss_iload_n hx hb (by decide +kernel : decode cX12_stands 106 = .ok (.iload_n 1, 1)) rfl) ?_
  refine mm_fc (ss_iald X (by decide +kernel : decode cX12_stands 107 = .ok (.iaload, 1))) ?_
  refine mm_fc (ss_iast X (by decide +kernel : decode cX12_stands 108 = .ok (.iastore, 1))) ?_
  refine mm_fc (ss_aload_n hx hb (by decide +kernel : decode cX12_stands 109 = .ok (.aload_n 0, 1)) rfl) ?_
  refine mm_fc (ss_get X rfl in_X12 (by decide) rfl wd_6_95 (by decide +kernel : decode cX12_stands 110 = .ok (.getfield 115, 3))) ?_
  refine mm_fc (ss_iconst hx hb (by decide +kernel : decode cX12_stands 113 = .ok (.iconst 3, 1)) (by decide)) ?_
  refine mm_fc (ss_iload_n hx hb (by decide +kernel : decode cX12_stands 114 = .ok (.iload_n 1, 1)) rfl) ?_
  refine mm_fc (ss_iadd hx hb (by decide +kernel : decode cX12_stands 115 = .ok (.iadd, 1))) ?_
  refine mm_fc (ss_aload_n hx hb (by decide +kernel : decode cX12_stands 116 = .ok (.aload_n 0, 1)) rfl) ?_
  refine mm_fc (ss_get X rfl in_X12 (by decide) rfl wd_6_95 (by decide +kernel : decode cX12_stands 117 = .ok (.getfield 115, 3))) ?_
  refine mm_fc (ss_iload_n hx hb (by decide +kernel : decode cX12_stands 120 = .ok (.iload_n 1, 1)) rfl) ?_
  refine mm_fc (ss_iald X (by decide +kernel : decode cX12_stands 121 = .ok (.iaload, 1))) ?_
  refine mm_fc (ss_iast X (by decide +kernel : decode cX12_stands 122 = .ok (.iastore, 1))) ?_
  refine mm_fc (ss_iinc hx hb (by decide +kernel : decode cX12_stands 123 = .ok (.iinc 1 1, 3)) (by decide) (by decide)) ?_
  refine mm_fc (ss_goto hx hb (by decide +kernel : decode cX12_stands 126 = .ok (.goto (-36), 3)) (by decide)) ?_
  refine mm_fc (ss_iconst hx hb (by decide +kernel : decode cX12_stands 129 = .ok (.iconst 0, 1)) (by decide)) ?_
  refine mm_fc (ss_istore_n hx hb (by decide +kernel : decode cX12_stands 130 = .ok (.istore_n 1, 1)) rfl (by decide)) ?_
  refine mm_fc (ss_iload_n hx hb (by decide +kernel : decode cX12_stands 131 = .ok (.iload_n 1, 1)) rfl) ?_
  refine mm_fc (ss_aload_n hx hb (by decide +kernel : decode cX12_stands 132 = .ok (.aload_n 0, 1)) rfl) ?_
  refine mm_fc (ss_get X rfl in_X12 (by decide) rfl wd_6_97 (by decide +kernel : decode cX12_stands 133 = .ok (.getfield 345, 3))) ?_
  refine mm_fc (ss_icmpge hx hb (by decide +kernel : decode cX12_stands 136 = .ok (.if_icmp .ge 25, 3)) (by decide)) ?_
  refine mm_fc (ss_aload_n hx hb (by decide +kernel : decode cX12_stands 139 = .ok (.aload_n 0, 1)) rfl) ?_
  refine mm_fc (ss_get X rfl in_X12 (by decide) rfl wd_6_96 (by decide +kernel : decode cX12_stands 140 = .ok (.getfield 118, 3))) ?_
  refine mm_fc (ss_sipush hx hb (by decide +kernel : decode cX12_stands 143 = .ok (.sipush 1600, 3)) (by decide)) ?_
  refine mm_fc (ss_iload_n hx hb (by decide +kernel : decode cX12_stands 146 = .ok (.iload_n 1, 1)) rfl) ?_
  refine mm_fc (ss_iadd hx hb (by decide +kernel : decode cX12_stands 147 = .ok (.iadd, 1))) ?_
  refine mm_fc (ss_aload_n hx hb (by decide +kernel : decode cX12_stands 148 = .ok (.aload_n 0, 1)) rfl) ?_
  refine mm_fc (ss_get X rfl in_X12 (by decide) rfl wd_6_96 (by decide +kernel : decode cX12_stands 149 = .ok (.getfield 118, 3))) ?_
  refine mm_fc (ss_iload_n hx hb (by decide +kernel : decode cX12_stands 152 = .ok (.iload_n 1, 1)) rfl) ?_
  refine mm_fc (ss_iald X (by decide +kernel : decode cX12_stands 153 = .ok (.iaload, 1))) ?_
  refine mm_fc (ss_iast X (by decide +kernel : decode cX12_stands 154 = .ok (.iastore, 1))) ?_
  refine mm_fc (ss_iinc hx hb (by decide +kernel : decode cX12_stands 155 = .ok (.iinc 1 1, 3)) (by decide) (by decide)) ?_
  refine mm_fc (ss_goto hx hb (by decide +kernel : decode cX12_stands 158 = .ok (.goto (-27), 3)) (by decide)) ?_
  refine mm_fc (ss_iconst hx hb (by decide +kernel : decode cX12_stands 161 = .ok (.iconst 0, 1)) (by decide)) ?_
  refine mm_fc (ss_istore_n hx hb (by decide +kernel : decode cX12_stands 162 = .ok (.istore_n 1, 1)) rfl (by decide)) ?_
  refine mm_fc (ss_iload_n hx hb (by decide +kernel : decode cX12_stands 163 = .ok (.iload_n 1, 1)) rfl) ?_
  refine mm_fc (ss_sipush hx hb (by decide +kernel : decode cX12_stands 164 = .ok (.sipush 210, 3)) (by decide)) ?_
  refine mm_fc (ss_icmpge hx hb (by decide +kernel : decode cX12_stands 167 = .ok (.if_icmp .ge 16, 3)) (by decide)) ?_
  refine mm_fc (ss_aload_n hx hb (by decide +kernel : decode cX12_stands 170 = .ok (.aload_n 0, 1)) rfl) ?_
  refine mm_fc (ss_get X rfl in_X12 (by decide) rfl wd_6_101 (by decide +kernel : decode cX12_stands 171 = .ok (.getfield 121, 3))) ?_
  refine mm_fc (ss_iload_n hx hb (by decide +kernel : decode cX12_stands 174 = .ok (.iload_n 1, 1)) rfl) ?_
  refine mm_fc (ss_iconst hx hb (by decide +kernel : decode cX12_stands 175 = .ok (.iconst 0, 1)) (by decide)) ?_
  refine mm_fc (ss_iast X (by decide +kernel : decode cX12_stands 176 = .ok (.iastore, 1))) ?_
  refine mm_fc (ss_iinc hx hb (by decide +kernel : decode cX12_stands 177 = .ok (.iinc 1 1, 3)) (by decide) (by decide)) ?_
  refine mm_fc (ss_goto hx hb (by decide +kernel : decode cX12_stands 180 = .ok (.goto (-17), 3)) (by decide)) ?_
  refine mm_fc (ss_iconst hx hb (by decide +kernel : decode cX12_stands 183 = .ok (.iconst 0, 1)) (by decide)) ?_
  refine mm_fc (ss_istore_n hx hb (by decide +kernel : decode cX12_stands 184 = .ok (.istore_n 1, 1)) rfl (by decide)) ?_
  refine mm_fc (ss_iload_n hx hb (by decide +kernel : decode cX12_stands 185 = .ok (.iload_n 1, 1)) rfl) ?_
  refine mm_fc (ss_aload_n hx hb (by decide +kernel : decode cX12_stands 186 = .ok (.aload_n 0, 1)) rfl) ?_
  refine mm_fc (ss_get X rfl in_X12 (by decide) rfl wd_6_86 (by decide +kernel : decode cX12_stands 187 = .ok (.getfield 382, 3))) ?_
  refine mm_fc (ss_icmpge hx hb (by decide +kernel : decode cX12_stands 190 = .ok (.if_icmp .ge 44, 3)) (by decide)) ?_
  refine mm_fc (ss_aload_n hx hb (by decide +kernel : decode cX12_stands 193 = .ok (.aload_n 0, 1)) rfl) ?_
  refine mm_fc (ss_get X rfl in_X12 (by decide) rfl wd_6_101 (by decide +kernel : decode cX12_stands 194 = .ok (.getfield 121, 3))) ?_
  refine mm_fc (ss_iconst hx hb (by decide +kernel : decode cX12_stands 197 = .ok (.iconst 1, 1)) (by decide)) ?_
  refine mm_fc (ss_iconst hx hb (by decide +kernel : decode cX12_stands 198 = .ok (.iconst 3, 1)) (by decide)) ?_
  refine mm_fc (ss_iload_n hx hb (by decide +kernel : decode cX12_stands 199 = .ok (.iload_n 1, 1)) rfl) ?_
  refine mm_fc (ss_imul hx hb (by decide +kernel : decode cX12_stands 200 = .ok (.imul, 1))) ?_
  refine mm_fc (ss_iadd hx hb (by decide +kernel : decode cX12_stands 201 = .ok (.iadd, 1))) ?_
  refine mm_fc (ss_aload_n hx hb (by decide +kernel : decode cX12_stands 202 = .ok (.aload_n 0, 1)) rfl) ?_
  refine mm_fc (ss_get X rfl in_X12 (by decide) rfl wd_6_88 (by decide +kernel : decode cX12_stands 203 = .ok (.getfield 100, 3))) ?_
  refine mm_fc (ss_iload_n hx hb (by decide +kernel : decode cX12_stands 206 = .ok (.iload_n 1, 1)) rfl) ?_
  refine mm_fc (ss_iald X (by decide +kernel : decode cX12_stands 207 = .ok (.iaload, 1))) ?_
  refine mm_fc (ss_iast X (by decide +kernel : decode cX12_stands 208 = .ok (.iastore, 1))) ?_
  refine mm_fc (ss_aload_n hx hb (by decide +kernel : decode cX12_stands 209 = .ok (.aload_n 0, 1)) rfl) ?_
  refine mm_fc (ss_get X rfl in_X12 (by decide) rfl wd_6_101 (by decide +kernel : decode cX12_stands 210 = .ok (.getfield 121, 3))) ?_
  refine mm_fc (ss_iconst hx hb (by decide +kernel : decode cX12_stands 213 = .ok (.iconst 2, 1)) (by decide)) ?_
  refine mm_fc (ss_iconst hx hb (by decide +kernel : decode cX12_stands 214 = .ok (.iconst 3, 1)) (by decide)) ?_
  refine mm_fc (ss_iload_n hx hb (by decide +kernel : decode cX12_stands 215 = .ok (.iload_n 1, 1)) rfl) ?_
  refine mm_fc (ss_imul hx hb (by decide +kernel : decode cX12_stands 216 = .ok (.imul, 1))) ?_
  refine mm_fc (ss_iadd hx hb (by decide +kernel : decode cX12_stands 217 = .ok (.iadd, 1))) ?_
  refine mm_fc (ss_bipush hx hb (by decide +kernel : decode cX12_stands 218 = .ok (.bipush 10, 2)) (by decide)) ?_
  refine mm_fc (ss_aload_n hx hb (by decide +kernel : decode cX12_stands 220 = .ok (.aload_n 0, 1)) rfl) ?_
  refine mm_fc (ss_get X rfl in_X12 (by decide) rfl wd_6_89 (by decide +kernel : decode cX12_stands 221 = .ok (.getfield 103, 3))) ?_
  refine mm_fc (ss_iload_n hx hb (by decide +kernel : decode cX12_stands 224 = .ok (.iload_n 1, 1)) rfl) ?_
  refine mm_fc (ss_iald X (by decide +kernel : decode cX12_stands 225 = .ok (.iaload, 1))) ?_
  refine mm_fc (ss_imul hx hb (by decide +kernel : decode cX12_stands 226 = .ok (.imul, 1))) ?_
  refine mm_fc (ss_iast X (by decide +kernel : decode cX12_stands 227 = .ok (.iastore, 1))) ?_
  refine mm_fc (ss_iinc hx hb (by decide +kernel : decode cX12_stands 228 = .ok (.iinc 1 1, 3)) (by decide) (by decide)) ?_
  refine mm_fc (ss_goto hx hb (by decide +kernel : decode cX12_stands 231 = .ok (.goto (-46), 3)) (by decide)) ?_
  refine mm_fc (ss_iconst hx hb (by decide +kernel : decode cX12_stands 234 = .ok (.iconst 0, 1)) (by decide)) ?_
  refine mm_fc (ss_istore_n hx hb (by decide +kernel : decode cX12_stands 235 = .ok (.istore_n 1, 1)) rfl (by decide)) ?_
  refine mm_fc (ss_iload_n hx hb (by decide +kernel : decode cX12_stands 236 = .ok (.iload_n 1, 1)) rfl) ?_
  refine mm_fc (ss_bipush hx hb (by decide +kernel : decode cX12_stands 237 = .ok (.bipush 64, 2)) (by decide)) ?_
  refine mm_fc (ss_icmpge hx hb (by decide +kernel : decode cX12_stands 239 = .ok (.if_icmp .ge 24, 3)) (by decide)) ?_
  refine mm_fc (ss_aload_n hx hb (by decide +kernel : decode cX12_stands 242 = .ok (.aload_n 0, 1)) rfl) ?_
  refine mm_fc (ss_get X rfl in_X12 (by decide) rfl wd_6_101 (by decide +kernel : decode cX12_stands 243 = .ok (.getfield 121, 3))) ?_
  refine mm_fc (ss_bipush hx hb (by decide +kernel : decode cX12_stands 246 = .ok (.bipush 25, 2)) (by decide)) ?_
  refine mm_fc (ss_iload_n hx hb (by decide +kernel : decode cX12_stands 248 = .ok (.iload_n 1, 1)) rfl) ?_
  refine mm_fc (ss_iadd hx hb (by decide +kernel : decode cX12_stands 249 = .ok (.iadd, 1))) ?_
  refine mm_fc (ss_aload_n hx hb (by decide +kernel : decode cX12_stands 250 = .ok (.aload_n 0, 1)) rfl) ?_
  refine mm_fc (ss_get X rfl in_X12 (by decide) rfl wd_6_91 (by decide +kernel : decode cX12_stands 251 = .ok (.getfield 109, 3))) ?_
  refine mm_fc (ss_iload_n hx hb (by decide +kernel : decode cX12_stands 254 = .ok (.iload_n 1, 1)) rfl) ?_
  refine mm_fc (ss_iald X (by decide +kernel : decode cX12_stands 255 = .ok (.iaload, 1))) ?_
  refine mm_fc (ss_iast X (by decide +kernel : decode cX12_stands 256 = .ok (.iastore, 1))) ?_
  refine mm_fc (ss_iinc hx hb (by decide +kernel : decode cX12_stands 257 = .ok (.iinc 1 1, 3)) (by decide) (by decide)) ?_
  refine mm_fc (ss_goto hx hb (by decide +kernel : decode cX12_stands 260 = .ok (.goto (-24), 3)) (by decide)) ?_
  refine mm_fc (ss_aload_n hx hb (by decide +kernel : decode cX12_stands 263 = .ok (.aload_n 0, 1)) rfl) ?_
  refine mm_fc (ss_iconst hx hb (by decide +kernel : decode cX12_stands 264 = .ok (.iconst 0, 1)) (by decide)) ?_
  refine mm_fc (ss_putI X rfl in_X12 tyX12_ok nmX12 (by decide) rfl rfl rfl rfl wd_6_119 (by decide +kernel : decode cX12_stands 265 = .ok (.putfield 388, 3))) ?_
  refine mm_fc (ss_aload_n hx hb (by decide +kernel : decode cX12_stands 268 = .ok (.aload_n 0, 1)) rfl) ?_
  refine mm_fc (ss_iconst hx hb (by decide +kernel : decode cX12_stands 269 = .ok (.iconst 0, 1)) (by decide)) ?_
  refine mm_fc (ss_putI X rfl in_X12 tyX12_ok nmX12 (by decide) rfl rfl rfl rfl wd_6_113 (by decide +kernel : decode cX12_stands 270 = .ok (.putfield 391, 3))) ?_
  refine mm_fc (ss_vret (by decide +kernel : decode cX12_stands 273 = .ok (.return_, 1)) rfl) ?_
  exact mm_fn
def cd_X12_fault : mm_K mm_H := [(0, s_iload 1 1), (1, s_if (fun x => ¬ x = 0) 11 4), (4, s_aload 0 5), (5, s_get 12 7 8), (8, s_goto 24), (11, s_iload 1 12), (12, s_pushI 1 13), (13, s_icmp (fun x y => ¬ x = y) 23 16), (16, s_aload 0 17), (17, s_get 12 8 20), (20, s_goto 24), (23, s_pushI (-1) 24), (24, s_iret)]
set_option maxRecDepth 100000 in
set_option maxHeartbeats 4000000 in
theorem ok_X12_fault (l : Launch) : mm_CodeOK l mm_I0 RX12 cX12_fault 2 (some .int) cd_X12_fault := by
  intro p e R s m args below meth c Q σ cA D A kc ks d C X
  have hx := X.1
  have hb := X.2.1
  have hown := X.2.2.2.1
  have hts := X.2.2.2.2.1
  refine mm_fc (ss_iload_n hx hb (by decide +kernel : decode cX12_fault 0 = .ok (.iload_n 1, 1)) rfl) ?_
  refine mm_fc (ss_ifne hx hb (by decide +kernel : decode cX12_fault 1 = .ok (.ifCond .ne 10, 3)) (by decide)) ?_
  refine mm_fc (ss_aload_n hx hb (by decide +kernel : decode cX12_fault 4 = .ok (.aload_n 0, 1)) rfl) ?_
  refine mm_fc (ss_get X rfl in_X12 (by decide) rfl wd_6_53 (by decide +kernel : decode cX12_fault 5 = .ok (.getfield 369, 3))) ?_
  refine mm_fc (ss_goto hx hb (by decide +kernel : decode cX12_fault 8 = .ok (.goto 16, 3)) (by decide)) ?_
  refine mm_fc (ss_iload_n hx hb (by decide +kernel : decode cX12_fault 11 = .ok (.iload_n 1, 1)) rfl) ?_
  refine mm_fc (ss_iconst hx hb (by decide +kernel : decode cX12_fault 12 = .ok (.iconst 1, 1)) (by decide)) ?_
  refine mm_fc (ss_icmpne hx hb (by decide +kernel : decode cX12_fault 13 = .ok (.if_icmp .ne 10, 3)) (by decide)) ?_
  refine mm_fc (ss_aload_n hx hb (by decide +kernel : decode cX12_fault 16 = .ok (.aload_n 0, 1)) rfl) ?_
  refine mm_fc (ss_get X rfl in_X12 (by decide) rfl wd_6_54 (by decide +kernel : decode cX12_fault 17 = .ok (.getfield 13, 3))) ?_
  refine mm_fc (ss_goto hx hb (by decide +kernel : decode cX12_fault 20 = .ok (.goto 4, 3)) (by decide)) ?_
  refine mm_fc (ss_iconst hx hb (by decide +kernel : decode cX12_fault 23 = .ok (.iconst (-1), 1)) (by decide)) ?_
  refine mm_fc (ss_iret (by decide +kernel : decode cX12_fault 24 = .ok (.ireturn, 1)) rfl) ?_
  exact mm_fn
def cd_X12_isPerson : mm_K mm_H := [(0, s_lload 1 1), (1, s_pushL 0 2), (2, s_aload 0 3), (3, s_get 12 40 6), (6, s_pushI 1 7), (7, s_bin (fun x y => x - y) 8), (8, s_i2l 9), (9, s_callS 188 3 1 12), (12, s_zret)]
set_option maxRecDepth 100000 in
set_option maxHeartbeats 4000000 in
theorem ok_X12_isPerson (l : Launch) : mm_CodeOK l mm_I0 RX12 cX12_isPerson 3 (some .boolean) cd_X12_isPerson := by
  intro p e R s m args below meth c Q σ cA D A kc ks d C X
  have hx := X.1
  have hb := X.2.1
  have hown := X.2.2.2.1
  have hts := X.2.2.2.2.1
  refine mm_fc (ss_lload_n hx hb (by decide +kernel : decode cX12_isPerson 0 = .ok (.lload_n 1, 1)) rfl) ?_
  refine mm_fc (ss_lconst hx hb (by decide +kernel : decode cX12_isPerson 1 = .ok (.lconst 0, 1)) (by decide)) ?_
  refine mm_fc (ss_aload_n hx hb (by decide +kernel : decode cX12_isPerson 2 = .ok (.aload_n 0, 1)) rfl) ?_
  refine mm_fc (ss_get X rfl in_X12 (by decide) rfl wd_6_86 (by decide +kernel : decode cX12_isPerson 3 = .ok (.getfield 382, 3))) ?_
  refine mm_fc (ss_iconst hx hb (by decide +kernel : decode cX12_isPerson 6 = .ok (.iconst 1, 1)) (by decide)) ?_
  refine mm_fc (ss_isub hx hb (by decide +kernel : decode cX12_isPerson 7 = .ok (.isub, 1))) ?_
  refine mm_fc (ss_i2l hx hb (by decide +kernel : decode cX12_isPerson 8 = .ok (.i2l, 1))) ?_
  refine mm_fc (ss_callS X rfl wd_7_196 wd_1_13 wd_7_194 wd_7_195 (by decide +kernel) (by decide +kernel) (by decide) (by decide +kernel : decode cX12_isPerson 9 = .ok (.invokestatic 280, 3))) ?_
  refine mm_fc (ss_zret (by decide +kernel : decode cX12_isPerson 12 = .ok (.ireturn, 1)) rfl) ?_
  exact mm_fn
def cd_X12_isOther : mm_K mm_H := [(0, s_aload 0 1), (1, s_lload 2 2), (2, s_callV 12 214 1 1 5), (5, s_if (fun x => x = 0) 19 8), (8, s_lload 2 9), (9, s_iload 1 10), (10, s_i2l 11), (11, s_lcmp 12), (12, s_if (fun x => x = 0) 19 15), (15, s_pushI 1 16), (16, s_goto 20), (19, s_pushI 0 20), (20, s_zret)]
set_option maxRecDepth 100000 in
set_option maxHeartbeats 4000000 in
theorem ok_X12_isOther (l : Launch) : mm_CodeOK l mm_I0 RX12 cX12_isOther 4 (some .boolean) cd_X12_isOther := by
  intro p e R s m args below meth c Q σ cA D A kc ks d C X
  have hx := X.1
  have hb := X.2.1
  have hown := X.2.2.2.1
  have hts := X.2.2.2.2.1
  refine mm_fc (ss_aload_n hx hb (by decide +kernel : decode cX12_isOther 0 = .ok (.aload_n 0, 1)) rfl) ?_
  refine mm_fc (ss_lload_n hx hb (by decide +kernel : decode cX12_isOther 1 = .ok (.lload_n 2, 1)) rfl) ?_
  refine mm_fc (ss_callV X rfl rfl wd_8_173 wd_1_13 wd_8_170 wd_8_172 wd_p_100 (by decide +kernel) (by decide +kernel) (by decide) (by decide +kernel : decode cX12_isOther 2 = .ok (.invokevirtual 394, 3))) ?_
  refine mm_fc (ss_ifeq hx hb (by decide +kernel : decode cX12_isOther 5 = .ok (.ifCond .eq 14, 3)) (by decide)) ?_
  refine mm_fc (ss_lload_n hx hb (by decide +kernel : decode cX12_isOther 8 = .ok (.lload_n 2, 1)) rfl) ?_
  refine mm_fc (ss_iload_n hx hb (by decide +kernel : decode cX12_isOther 9 = .ok (.iload_n 1, 1)) rfl) ?_
  refine mm_fc (ss_i2l hx hb (by decide +kernel : decode cX12_isOther 10 = .ok (.i2l, 1))) ?_
  refine mm_fc (ss_lcmp hx hb (by decide +kernel : decode cX12_isOther 11 = .ok (.lcmp, 1))) ?_
  refine mm_fc (ss_ifeq hx hb (by decide +kernel : decode cX12_isOther 12 = .ok (.ifCond .eq 7, 3)) (by decide)) ?_
  refine mm_fc (ss_iconst hx hb (by decide +kernel : decode cX12_isOther 15 = .ok (.iconst 1, 1)) (by decide)) ?_
  refine mm_fc (ss_goto hx hb (by decide +kernel : decode cX12_isOther 16 = .ok (.goto 4, 3)) (by decide)) ?_
  refine mm_fc (ss_iconst hx hb (by decide +kernel : decode cX12_isOther 19 = .ok (.iconst 0, 1)) (by decide)) ?_
  refine mm_fc (ss_zret (by decide +kernel : decode cX12_isOther 20 = .ok (.ireturn, 1)) rfl) ?_
  exact mm_fn
def cd_X12_areTwo : mm_K mm_H := [(0, s_aload 0 1), (1, s_iload 1 2), (2, s_i2l 3), (3, s_callV 12 214 1 1 6), (6, s_if (fun x => x = 0) 23 9), (9, s_aload 0 10), (10, s_iload 1 11), (11, s_iload 2 12), (12, s_i2l 13), (13, s_callV 12 215 2 1 16), (16, s_if (fun x => x = 0) 23 19), (19, s_pushI 1 20), (20, s_goto 24), (23, s_pushI 0 24), (24, s_zret)]
set_option maxRecDepth 100000 in
set_option maxHeartbeats 4000000 in
theorem ok_X12_areTwo (l : Launch) : mm_CodeOK l mm_I0 RX12 cX12_areTwo 3 (some .boolean) cd_X12_areTwo := by
  intro p e R s m args below meth c Q σ cA D A kc ks d C X
  have hx := X.1
  have hb := X.2.1
  have hown := X.2.2.2.1
  have hts := X.2.2.2.2.1
  refine mm_fc (ss_aload_n hx hb (by decide +kernel : decode cX12_areTwo 0 = .ok (.aload_n 0, 1)) rfl) ?_
  refine mm_fc (ss_iload_n hx hb (by decide +kernel : decode cX12_areTwo 1 = .ok (.iload_n 1, 1)) rfl) ?_
  refine mm_fc (ss_i2l hx hb (by decide +kernel : decode cX12_areTwo 2 = .ok (.i2l, 1))) ?_
  refine mm_fc (ss_callV X rfl rfl wd_8_173 wd_1_13 wd_8_170 wd_8_172 wd_p_100 (by decide +kernel) (by decide +kernel) (by decide) (by decide +kernel : decode cX12_areTwo 3 = .ok (.invokevirtual 394, 3))) ?_
  refine mm_fc (ss_ifeq hx hb (by decide +kernel : decode cX12_areTwo 6 = .ok (.ifCond .eq 17, 3)) (by decide)) ?_
  refine mm_fc (ss_aload_n hx hb (by decide +kernel : decode cX12_areTwo 9 = .ok (.aload_n 0, 1)) rfl) ?_
  refine mm_fc (ss_iload_n hx hb (by decide +kernel : decode cX12_areTwo 10 = .ok (.iload_n 1, 1)) rfl) ?_
  refine mm_fc (ss_iload_n hx hb (by decide +kernel : decode cX12_areTwo 11 = .ok (.iload_n 2, 1)) rfl) ?_
  refine mm_fc (ss_i2l hx hb (by decide +kernel : decode cX12_areTwo 12 = .ok (.i2l, 1))) ?_
  refine mm_fc (ss_callV X rfl rfl wd_8_202 wd_1_13 wd_8_199 wd_8_201 wd_p_104 (by decide +kernel) (by decide +kernel) (by decide) (by decide +kernel : decode cX12_areTwo 13 = .ok (.invokevirtual 398, 3))) ?_
  refine mm_fc (ss_ifeq hx hb (by decide +kernel : decode cX12_areTwo 16 = .ok (.ifCond .eq 7, 3)) (by decide)) ?_
  refine mm_fc (ss_iconst hx hb (by decide +kernel : decode cX12_areTwo 19 = .ok (.iconst 1, 1)) (by decide)) ?_
  refine mm_fc (ss_goto hx hb (by decide +kernel : decode cX12_areTwo 20 = .ok (.goto 4, 3)) (by decide)) ?_
  refine mm_fc (ss_iconst hx hb (by decide +kernel : decode cX12_areTwo 23 = .ok (.iconst 0, 1)) (by decide)) ?_
  refine mm_fc (ss_zret (by decide +kernel : decode cX12_areTwo 24 = .ok (.ireturn, 1)) rfl) ?_
  exact mm_fn
def cd_X12_isHouse : mm_K mm_H := [(0, s_aload 0 1), (1, s_get 12 53 4), (4, s_if (fun x => x = 0) 27 7), (7, s_iload 1 8), (8, s_i2l 9), (9, s_pushL 0 10), (10, s_aload 0 11), (11, s_get 12 38 14), (14, s_pushI 1 15), (15, s_bin (fun x y => x - y) 16), (16, s_i2l 17), (17, s_callS 188 3 1 20), (20, s_if (fun x => x = 0) 27 23), (23, s_pushI 1 24), (24, s_goto 28), (27, s_pushI 0 28), (28, s_zret)]
set_option maxRecDepth 100000 in
set_option maxHeartbeats 4000000 in
theorem ok_X12_isHouse (l : Launch) : mm_CodeOK l mm_I0 RX12 cX12_isHouse 2 (some .boolean) cd_X12_isHouse := by
  intro p e R s m args below meth c Q σ cA D A kc ks d C X
  have hx := X.1
  have hb := X.2.1
  have hown := X.2.2.2.1
  have hts := X.2.2.2.2.1
  refine mm_fc (ss_aload_n hx hb (by decide +kernel : decode cX12_isHouse 0 = .ok (.aload_n 0, 1)) rfl) ?_
  refine mm_fc (ss_get X rfl in_X12 (by decide) rfl wd_6_99 (by decide +kernel : decode cX12_isHouse 1 = .ok (.getfield 375, 3))) ?_
  refine mm_fc (ss_ifeq hx hb (by decide +kernel : decode cX12_isHouse 4 = .ok (.ifCond .eq 23, 3)) (by decide)) ?_
  refine mm_fc (ss_iload_n hx hb (by decide +kernel : decode cX12_isHouse 7 = .ok (.iload_n 1, 1)) rfl) ?_
  refine mm_fc (ss_i2l hx hb (by decide +kernel : decode cX12_isHouse 8 = .ok (.i2l, 1))) ?_
  refine mm_fc (ss_lconst hx hb (by decide +kernel : decode cX12_isHouse 9 = .ok (.lconst 0, 1)) (by decide)) ?_
  refine mm_fc (ss_aload_n hx hb (by decide +kernel : decode cX12_isHouse 10 = .ok (.aload_n 0, 1)) rfl) ?_
  refine mm_fc (ss_get X rfl in_X12 (by decide) rfl wd_6_84 (by decide +kernel : decode cX12_isHouse 11 = .ok (.getfield 379, 3))) ?_
  refine mm_fc (ss_iconst hx hb (by decide +kernel : decode cX12_isHouse 14 = .ok (.iconst 1, 1)) (by decide)) ?_
  refine mm_fc (ss_isub hx hb (by decide +kernel : decode cX12_isHouse 15 = .ok (.isub, 1))) ?_
  refine mm_fc (ss_i2l hx hb (by decide +kernel : decode cX12_isHouse 16 = .ok (.i2l, 1))) ?_
  refine mm_fc (ss_callS X rfl wd_7_196 wd_1_13 wd_7_194 wd_7_195 (by decide +kernel) (by decide +kernel) (by decide) (by decide +kernel : decode cX12_isHouse 17 = .ok (.invokestatic 280, 3))) ?_
  refine mm_fc (ss_ifeq hx hb (by decide +kernel : decode cX12_isHouse 20 = .ok (.ifCond .eq 7, 3)) (by decide)) ?_
  refine mm_fc (ss_iconst hx hb (by decide +kernel : decode cX12_isHouse 23 = .ok (.iconst 1, 1)) (by decide)) ?_
  refine mm_fc (ss_goto hx hb (by decide +kernel : decode cX12_isHouse 24 = .ok (.goto 4, 3)) (by decide)) ?_
  refine mm_fc (ss_iconst hx hb (by decide +kernel : decode cX12_isHouse 27 = .ok (.iconst 0, 1)) (by decide)) ?_
  refine mm_fc (ss_zret (by decide +kernel : decode cX12_isHouse 28 = .ok (.ireturn, 1)) rfl) ?_
  exact mm_fn
def cd_X12_houseOf : mm_K mm_H := [(0, s_aload 0 1), (1, s_get 12 55 4), (4, s_pushI 1 5), (5, s_pushI 3 6), (6, s_iload 1 7), (7, s_bin (fun x y => x * y) 8), (8, s_bin (fun x y => x + y) 9), (9, s_iald 10), (10, s_iret)]
set_option maxRecDepth 100000 in
set_option maxHeartbeats 4000000 in
theorem ok_X12_houseOf (l : Launch) : mm_CodeOK l mm_I0 RX12 cX12_houseOf 2 (some .int) cd_X12_houseOf := by
  intro p e R s m args below meth c Q σ cA D A kc ks d C X
  have hx := X.1
  have hb := X.2.1
  have hown := X.2.2.2.1
  have hts := X.2.2.2.2.1
  refine mm_fc (ss_aload_n hx hb (by decide +kernel : decode cX12_houseOf 0 = .ok (.aload_n 0, 1)) rfl) ?_
  refine mm_fc (ss_get X rfl in_X12 (by decide) rfl wd_6_101 (by decide +kernel : decode cX12_houseOf 1 = .ok (.getfield 121, 3))) ?_
  refine mm_fc (ss_iconst hx hb (by decide +kernel : decode cX12_houseOf 4 = .ok (.iconst 1, 1)) (by decide)) ?_
  refine mm_fc (ss_iconst hx hb (by decide +kernel : decode cX12_houseOf 5 = .ok (.iconst 3, 1)) (by decide)) ?_
  refine mm_fc (ss_iload_n hx hb (by decide +kernel : decode cX12_houseOf 6 = .ok (.iload_n 1, 1)) rfl) ?_
  refine mm_fc (ss_imul hx hb (by decide +kernel : decode cX12_houseOf 7 = .ok (.imul, 1))) ?_
  refine mm_fc (ss_iadd hx hb (by decide +kernel : decode cX12_houseOf 8 = .ok (.iadd, 1))) ?_
  refine mm_fc (ss_iald X (by decide +kernel : decode cX12_houseOf 9 = .ok (.iaload, 1))) ?_
  refine mm_fc (ss_iret (by decide +kernel : decode cX12_houseOf 10 = .ok (.ireturn, 1)) rfl) ?_
  exact mm_fn
def cd_X12_lookOf : mm_K mm_H := [(0, s_aload 0 1), (1, s_get 12 55 4), (4, s_pushI 2 5), (5, s_pushI 3 6), (6, s_iload 1 7), (7, s_bin (fun x y => x * y) 8), (8, s_bin (fun x y => x + y) 9), (9, s_iald 10), (10, s_iret)]
set_option maxRecDepth 100000 in
set_option maxHeartbeats 4000000 in
theorem ok_X12_lookOf (l : Launch) : mm_CodeOK l mm_I0 RX12 cX12_lookOf 2 (some .int) cd_X12_lookOf := by
  intro p e R s m args below meth c Q σ cA D A kc ks d C X
  have hx := X.1
  have hb := X.2.1
  have hown := X.2.2.2.1
  have hts := X.2.2.2.2.1
  refine mm_fc (ss_aload_n hx hb (by decide +kernel : decode cX12_lookOf 0 = .ok (.aload_n 0, 1)) rfl) ?_
  refine mm_fc (ss_get X rfl in_X12 (by decide) rfl wd_6_101 (by decide +kernel : decode cX12_lookOf 1 = .ok (.getfield 121, 3))) ?_
  refine mm_fc (ss_iconst hx hb (by decide +kernel : decode cX12_lookOf 4 = .ok (.iconst 2, 1)) (by decide)) ?_
  refine mm_fc (ss_iconst hx hb (by decide +kernel : decode cX12_lookOf 5 = .ok (.iconst 3, 1)) (by decide)) ?_
  refine mm_fc (ss_iload_n hx hb (by decide +kernel : decode cX12_lookOf 6 = .ok (.iload_n 1, 1)) rfl) ?_
  refine mm_fc (ss_imul hx hb (by decide +kernel : decode cX12_lookOf 7 = .ok (.imul, 1))) ?_
  refine mm_fc (ss_iadd hx hb (by decide +kernel : decode cX12_lookOf 8 = .ok (.iadd, 1))) ?_
  refine mm_fc (ss_iald X (by decide +kernel : decode cX12_lookOf 9 = .ok (.iaload, 1))) ?_
  refine mm_fc (ss_iret (by decide +kernel : decode cX12_lookOf 10 = .ok (.ireturn, 1)) rfl) ?_
  exact mm_fn
def cd_X12_doesSpare : mm_K mm_H := [(0, s_aload 0 1), (1, s_get 12 55 4), (4, s_pushI 3 5), (5, s_pushI 3 6), (6, s_iload 1 7), (7, s_bin (fun x y => x * y) 8), (8, s_bin (fun x y => x + y) 9), (9, s_iald 10), (10, s_pushI 1 11), (11, s_icmp (fun x y => ¬ x = y) 18 14), (14, s_pushI 1 15), (15, s_goto 19), (18, s_pushI 0 19), (19, s_zret)]
set_option maxRecDepth 100000 in
set_option maxHeartbeats 4000000 in
theorem ok_X12_doesSpare (l : Launch) : mm_CodeOK l mm_I0 RX12 cX12_doesSpare 2 (some .boolean) cd_X12_doesSpare := by
  intro p e R s m args below meth c Q σ cA D A kc ks d C X
  have hx := X.1
  have hb := X.2.1
  have hown := X.2.2.2.1
  have hts := X.2.2.2.2.1
  refine mm_fc (ss_aload_n hx hb (by decide +kernel : decode cX12_doesSpare 0 = .ok (.aload_n 0, 1)) rfl) ?_
  refine mm_fc (ss_get X rfl in_X12 (by decide) rfl wd_6_101 (by decide +kernel : decode cX12_doesSpare 1 = .ok (.getfield 121, 3))) ?_
  refine mm_fc (ss_iconst hx hb (by decide +kernel : decode cX12_doesSpare 4 = .ok (.iconst 3, 1)) (by decide)) ?_
  refine mm_fc (ss_iconst hx hb (by decide +kernel : decode cX12_doesSpare 5 = .ok (.iconst 3, 1)) (by decide)) ?_
  refine mm_fc (ss_iload_n hx hb (by decide +kernel : decode cX12_doesSpare 6 = .ok (.iload_n 1, 1)) rfl) ?_
  refine mm_fc (ss_imul hx hb (by decide +kernel : decode cX12_doesSpare 7 = .ok (.imul, 1))) ?_
  refine mm_fc (ss_iadd hx hb (by decide +kernel : decode cX12_doesSpare 8 = .ok (.iadd, 1))) ?_
  refine mm_fc (ss_iald X (by decide +kernel : decode cX12_doesSpare 9 = .ok (.iaload, 1))) ?_
  refine mm_fc (ss_iconst hx hb (by decide +kernel : decode cX12_doesSpare 10 = .ok (.iconst 1, 1)) (by decide)) ?_
  refine mm_fc (ss_icmpne hx hb (by decide +kernel : decode cX12_doesSpare 11 = .ok (.if_icmp .ne 7, 3)) (by decide)) ?_
  refine mm_fc (ss_iconst hx hb (by decide +kernel : decode cX12_doesSpare 14 = .ok (.iconst 1, 1)) (by decide)) ?_
  refine mm_fc (ss_goto hx hb (by decide +kernel : decode cX12_doesSpare 15 = .ok (.goto 4, 3)) (by decide)) ?_
  refine mm_fc (ss_iconst hx hb (by decide +kernel : decode cX12_doesSpare 18 = .ok (.iconst 0, 1)) (by decide)) ?_
  refine mm_fc (ss_zret (by decide +kernel : decode cX12_doesSpare 19 = .ok (.ireturn, 1)) rfl) ?_
  exact mm_fn
def cd_X12_faceOf : mm_K mm_H := [(0, s_aload 0 1), (1, s_get 12 43 4), (4, s_pushI 8 6), (6, s_iload 1 7), (7, s_bin (fun x y => x + y) 8), (8, s_iald 9), (9, s_iret)]
set_option maxRecDepth 100000 in
set_option maxHeartbeats 4000000 in
theorem ok_X12_faceOf (l : Launch) : mm_CodeOK l mm_I0 RX12 cX12_faceOf 2 (some .int) cd_X12_faceOf := by
  intro p e R s m args below meth c Q σ cA D A kc ks d C X
  have hx := X.1
  have hb := X.2.1
  have hown := X.2.2.2.1
  have hts := X.2.2.2.2.1
  refine mm_fc (ss_aload_n hx hb (by decide +kernel : decode cX12_faceOf 0 = .ok (.aload_n 0, 1)) rfl) ?_
  refine mm_fc (ss_get X rfl in_X12 (by decide) rfl wd_6_89 (by decide +kernel : decode cX12_faceOf 1 = .ok (.getfield 103, 3))) ?_
  refine mm_fc (ss_bipush hx hb (by decide +kernel : decode cX12_faceOf 4 = .ok (.bipush 8, 2)) (by decide)) ?_
  refine mm_fc (ss_iload_n hx hb (by decide +kernel : decode cX12_faceOf 6 = .ok (.iload_n 1, 1)) rfl) ?_
  refine mm_fc (ss_iadd hx hb (by decide +kernel : decode cX12_faceOf 7 = .ok (.iadd, 1))) ?_
  refine mm_fc (ss_iald X (by decide +kernel : decode cX12_faceOf 8 = .ok (.iaload, 1))) ?_
  refine mm_fc (ss_iret (by decide +kernel : decode cX12_faceOf 9 = .ok (.ireturn, 1)) rfl) ?_
  exact mm_fn
def cd_X12_kindOf : mm_K mm_H := [(0, s_aload 0 1), (1, s_get 12 44 4), (4, s_pushI 8 6), (6, s_iload 1 7), (7, s_bin (fun x y => x + y) 8), (8, s_iald 9), (9, s_iret)]
set_option maxRecDepth 100000 in
set_option maxHeartbeats 4000000 in
theorem ok_X12_kindOf (l : Launch) : mm_CodeOK l mm_I0 RX12 cX12_kindOf 2 (some .int) cd_X12_kindOf := by
  intro p e R s m args below meth c Q σ cA D A kc ks d C X
  have hx := X.1
  have hb := X.2.1
  have hown := X.2.2.2.1
  have hts := X.2.2.2.2.1
  refine mm_fc (ss_aload_n hx hb (by decide +kernel : decode cX12_kindOf 0 = .ok (.aload_n 0, 1)) rfl) ?_
  refine mm_fc (ss_get X rfl in_X12 (by decide) rfl wd_6_90 (by decide +kernel : decode cX12_kindOf 1 = .ok (.getfield 106, 3))) ?_
  refine mm_fc (ss_bipush hx hb (by decide +kernel : decode cX12_kindOf 4 = .ok (.bipush 8, 2)) (by decide)) ?_
  refine mm_fc (ss_iload_n hx hb (by decide +kernel : decode cX12_kindOf 6 = .ok (.iload_n 1, 1)) rfl) ?_
  refine mm_fc (ss_iadd hx hb (by decide +kernel : decode cX12_kindOf 7 = .ok (.iadd, 1))) ?_
  refine mm_fc (ss_iald X (by decide +kernel : decode cX12_kindOf 8 = .ok (.iaload, 1))) ?_
  refine mm_fc (ss_iret (by decide +kernel : decode cX12_kindOf 9 = .ok (.ireturn, 1)) rfl) ?_
  exact mm_fn
def cd_X12_thoughtOf : mm_K mm_H := [(0, s_aload 0 1), (1, s_get 12 55 4), (4, s_pushI 25 6), (6, s_pushI 8 8), (8, s_iload 1 9), (9, s_bin (fun x y => x * y) 10), (10, s_bin (fun x y => x + y) 11), (11, s_iload 2 12), (12, s_bin (fun x y => x + y) 13), (13, s_iald 14), (14, s_iret)]
set_option maxRecDepth 100000 in
set_option maxHeartbeats 4000000 in
theorem ok_X12_thoughtOf (l : Launch) : mm_CodeOK l mm_I0 RX12 cX12_thoughtOf 3 (some .int) cd_X12_thoughtOf := by
  intro p e R s m args below meth c Q σ cA D A kc ks d C X
  have hx := X.1
  have hb := X.2.1
  have hown := X.2.2.2.1
  have hts := X.2.2.2.2.1
  refine mm_fc (ss_aload_n hx hb (by decide +kernel : decode cX12_thoughtOf 0 = .ok (.aload_n 0, 1)) rfl) ?_
  refine mm_fc (ss_get X rfl in_X12 (by decide) rfl wd_6_101 (by decide +kernel : decode cX12_thoughtOf 1 = .ok (.getfield 121, 3))) ?_
  refine mm_fc (ss_bipush hx hb (by decide +kernel : decode cX12_thoughtOf 4 = .ok (.bipush 25, 2)) (by decide)) ?_
  refine mm_fc (ss_bipush hx hb (by decide +kernel : decode cX12_thoughtOf 6 = .ok (.bipush 8, 2)) (by decide)) ?_
  refine mm_fc (ss_iload_n hx hb (by decide +kernel : decode cX12_thoughtOf 8 = .ok (.iload_n 1, 1)) rfl) ?_
  refine mm_fc (ss_imul hx hb (by decide +kernel : decode cX12_thoughtOf 9 = .ok (.imul, 1))) ?_
  refine mm_fc (ss_iadd hx hb (by decide +kernel : decode cX12_thoughtOf 10 = .ok (.iadd, 1))) ?_
  refine mm_fc (ss_iload_n hx hb (by decide +kernel : decode cX12_thoughtOf 11 = .ok (.iload_n 2, 1)) rfl) ?_
  refine mm_fc (ss_iadd hx hb (by decide +kernel : decode cX12_thoughtOf 12 = .ok (.iadd, 1))) ?_
  refine mm_fc (ss_iald X (by decide +kernel : decode cX12_thoughtOf 13 = .ok (.iaload, 1))) ?_
  refine mm_fc (ss_iret (by decide +kernel : decode cX12_thoughtOf 14 = .ok (.ireturn, 1)) rfl) ?_
  exact mm_fn
def cd_X12_whoIn : mm_K mm_H := [(0, s_pushI 0 1), (1, s_istore 2 2), (2, s_iload 2 3), (3, s_aload 0 4), (4, s_get 12 40 7), (7, s_icmp (fun x y => y ≤ x) 27 10), (10, s_aload 0 11), (11, s_iload 2 12), (12, s_callV 12 218 1 1 15), (15, s_iload 1 16), (16, s_icmp (fun x y => ¬ x = y) 21 19), (19, s_iload 2 20), (20, s_iret), (21, s_iinc 2 1 24), (24, s_goto 2), (27, s_pushI (-1) 28), (28, s_iret)]
set_option maxRecDepth 100000 in
set_option maxHeartbeats 4000000 in
theorem ok_X12_whoIn (l : Launch) : mm_CodeOK l mm_I0 RX12 cX12_whoIn 3 (some .int) cd_X12_whoIn := by
  intro p e R s m args below meth c Q σ cA D A kc ks d C X
  have hx := X.1
  have hb := X.2.1
  have hown := X.2.2.2.1
  have hts := X.2.2.2.2.1
  refine mm_fc (ss_iconst hx hb (by decide +kernel : decode cX12_whoIn 0 = .ok (.iconst 0, 1)) (by decide)) ?_
  refine mm_fc (ss_istore_n hx hb (by decide +kernel : decode cX12_whoIn 1 = .ok (.istore_n 2, 1)) rfl (by decide)) ?_
  refine mm_fc (ss_iload_n hx hb (by decide +kernel : decode cX12_whoIn 2 = .ok (.iload_n 2, 1)) rfl) ?_
  refine mm_fc (ss_aload_n hx hb (by decide +kernel : decode cX12_whoIn 3 = .ok (.aload_n 0, 1)) rfl) ?_
  refine mm_fc (ss_get X rfl in_X12 (by decide) rfl wd_6_86 (by decide +kernel : decode cX12_whoIn 4 = .ok (.getfield 382, 3))) ?_
  refine mm_fc (ss_icmpge hx hb (by decide +kernel : decode cX12_whoIn 7 = .ok (.if_icmp .ge 20, 3)) (by decide)) ?_
  refine mm_fc (ss_aload_n hx hb (by decide +kernel : decode cX12_whoIn 10 = .ok (.aload_n 0, 1)) rfl) ?_
  refine mm_fc (ss_iload_n hx hb (by decide +kernel : decode cX12_whoIn 11 = .ok (.iload_n 2, 1)) rfl) ?_
  refine mm_fc (ss_callV X rfl rfl wd_8_121 wd_1_13 wd_8_118 wd_8_120 wd_p_90 (by decide +kernel) (by decide +kernel) (by decide) (by decide +kernel : decode cX12_whoIn 12 = .ok (.invokevirtual 402, 3))) ?_
  refine mm_fc (ss_iload_n hx hb (by decide +kernel : decode cX12_whoIn 15 = .ok (.iload_n 1, 1)) rfl) ?_
  refine mm_fc (ss_icmpne hx hb (by decide +kernel : decode cX12_whoIn 16 = .ok (.if_icmp .ne 5, 3)) (by decide)) ?_
  refine mm_fc (ss_iload_n hx hb (by decide +kernel : decode cX12_whoIn 19 = .ok (.iload_n 2, 1)) rfl) ?_
  refine mm_fc (ss_iret (by decide +kernel : decode cX12_whoIn 20 = .ok (.ireturn, 1)) rfl) ?_
  refine mm_fc (ss_iinc hx hb (by decide +kernel : decode cX12_whoIn 21 = .ok (.iinc 2 1, 3)) (by decide) (by decide)) ?_
  refine mm_fc (ss_goto hx hb (by decide +kernel : decode cX12_whoIn 24 = .ok (.goto (-22), 3)) (by decide)) ?_
  refine mm_fc (ss_iconst hx hb (by decide +kernel : decode cX12_whoIn 27 = .ok (.iconst (-1), 1)) (by decide)) ?_
  refine mm_fc (ss_iret (by decide +kernel : decode cX12_whoIn 28 = .ok (.ireturn, 1)) rfl) ?_
  exact mm_fn
def cd_X12_neighbour : mm_K mm_H := [(0, s_aload 0 1), (1, s_aload 0 2), (2, s_iload 1 3), (3, s_callV 12 218 1 1 6), (6, s_iload 2 7), (7, s_if (fun x => ¬ x = 0) 14 10), (10, s_pushI (-1) 11), (11, s_goto 15), (14, s_pushI 1 15), (15, s_bin (fun x y => x + y) 16), (16, s_callV 12 224 1 1 19), (19, s_iret)]
set_option maxRecDepth 100000 in
set_option maxHeartbeats 4000000 in
theorem ok_X12_neighbour (l : Launch) : mm_CodeOK l mm_I0 RX12 cX12_neighbour 3 (some .int) cd_X12_neighbour := by
  intro p e R s m args below meth c Q σ cA D A kc ks d C X
  have hx := X.1
  have hb := X.2.1
  have hown := X.2.2.2.1
  have hts := X.2.2.2.2.1
  refine mm_fc (ss_aload_n hx hb (by decide +kernel : decode cX12_neighbour 0 = .ok (.aload_n 0, 1)) rfl) ?_
  refine mm_fc (ss_aload_n hx hb (by decide +kernel : decode cX12_neighbour 1 = .ok (.aload_n 0, 1)) rfl) ?_
  refine mm_fc (ss_iload_n hx hb (by decide +kernel : decode cX12_neighbour 2 = .ok (.iload_n 1, 1)) rfl) ?_
  refine mm_fc (ss_callV X rfl rfl wd_8_121 wd_1_13 wd_8_118 wd_8_120 wd_p_90 (by decide +kernel) (by decide +kernel) (by decide) (by decide +kernel : decode cX12_neighbour 3 = .ok (.invokevirtual 402, 3))) ?_
  refine mm_fc (ss_iload_n hx hb (by decide +kernel : decode cX12_neighbour 6 = .ok (.iload_n 2, 1)) rfl) ?_
  refine mm_fc (ss_ifne hx hb (by decide +kernel : decode cX12_neighbour 7 = .ok (.ifCond .ne 7, 3)) (by decide)) ?_
  refine mm_fc (ss_iconst hx hb (by decide +kernel : decode cX12_neighbour 10 = .ok (.iconst (-1), 1)) (by decide)) ?_
  refine mm_fc (ss_goto hx hb (by decide +kernel : decode cX12_neighbour 11 = .ok (.goto 4, 3)) (by decide)) ?_
  refine mm_fc (ss_iconst hx hb (by decide +kernel : decode cX12_neighbour 14 = .ok (.iconst 1, 1)) (by decide)) ?_
  refine mm_fc (ss_iadd hx hb (by decide +kernel : decode cX12_neighbour 15 = .ok (.iadd, 1))) ?_
  refine mm_fc (ss_callV X rfl rfl wd_8_117 wd_1_13 wd_8_114 wd_8_116 wd_p_89 (by decide +kernel) (by decide +kernel) (by decide) (by decide +kernel : decode cX12_neighbour 16 = .ok (.invokevirtual 406, 3))) ?_
  refine mm_fc (ss_iret (by decide +kernel : decode cX12_neighbour 19 = .ok (.ireturn, 1)) rfl) ?_
  exact mm_fn
def cd_X12_codesTell : mm_K mm_H := [(0, s_aload 0 1), (1, s_iload 1 2), (2, s_putI 12 54 5), (5, s_aload 0 6), (6, s_pushI 0 7), (7, s_putI 12 108 10), (10, s_aload 0 11), (11, s_get 12 48 14), (14, s_pushI 3 15), (15, s_iload 1 16), (16, s_bin (fun x y => x + y) 17), (17, s_iald 18), (18, s_kill 19 [3] (s_istore 2 19)), (19, s_iload 2 20), (20, s_aload 0 21), (21, s_get 12 49 24), (24, s_pushI 3 25), (25, s_iload 1 26), (26, s_bin (fun x y => x + y) 27), (27, s_iald 28), (28, s_icmp (fun x y => y ≤ x) 142 31), (31, s_aload 0 32), (32, s_get 12 50 35), (35, s_pushI 1600 38), (38, s_iload 2 39), (39, s_bin (fun x y => x + y) 40), (40, s_iald 41), (41, s_istore 3 42), (42, s_iload 3 43), (43, s_pushI 1000 46), (46, s_icmp (fun x y => x < y) 62 49), (49, s_aload 0 50), (50, s_iload 3 51), (51, s_pushI 1000 54), (54, s_bin (fun x y => x - y) 55), (55, s_i2l 56), (56, s_callV 12 306 1 0 59), (59, s_goto 136), (62, s_iload 3 63), (63, s_pushI 40 65), (65, s_icmp (fun x y => x < y) 84 68), (68, s_aload 0 69), (69, s_aload 0 70), (70, s_iload 3 71), (71, s_pushI 40 73), (73, s_bin (fun x y => x - y) 74), (74, s_pushI 0 75), (75, s_callV 12 308 2 2 78), (78, s_callV 12 306 1 0 81), (81, s_goto 136), (84, s_iload 3 85), (85, s_pushI 13 87), (87, s_icmp (fun x y => ¬ x = y) 98 90), (90, s_aload 0 91), (91, s_pushL 1 92), (92, s_callV 12 306 1 0 95), (95, s_goto 136), (98, s_iload 3 99), (99, s_pushI 12 101), (101, s_icmp (fun x y => ¬ x = y) 131 104), (104, s_aload 0 105), (105, s_get 12 107 108), (108, s_aload 0 109), (109, s_get 12 108 112), (112, s_pushI 1 113), (113, s_bin (fun x y => x - y) 114), (114, s_pushL 1 115), (115, s_aload 0 116), (116, s_get 12 107 119), (119, s_aload 0 120), (120, s_get 12 108 123), (123, s_pushI 1 124), (124, s_bin (fun x y => x - y) 125), (125, s_lald 126), (126, s_lbin (fun x y => x - y) 127), (127, s_last 128), (128, s_goto 136), (131, s_aload 0 132), (132, s_iload 3 133), (133, s_callV 12 307 1 0 136), (136, s_iinc 2 1 139), (139, s_kill 19 [3] (s_goto 19)), (142, s_aload 0 143), (143, s_get 12 107 146), (146, s_pushI 0 147), (147, s_lald 148), (148, s_lret)]
set_option maxRecDepth 100000 in
set_option maxHeartbeats 4000000 in
theorem ok_X12_codesTell (l : Launch) : mm_CodeOK l mm_I0 RX12 cX12_codesTell 4 (some .long) cd_X12_codesTell := by
  intro p e R s m args below meth c Q σ cA D A kc ks d C X
  have hx := X.1
  have hb := X.2.1
  have hown := X.2.2.2.1
  have hts := X.2.2.2.2.1
  refine mm_fc (ss_aload_n hx hb (by decide +kernel : decode cX12_codesTell 0 = .ok (.aload_n 0, 1)) rfl) ?_
  refine mm_fc (ss_iload_n hx hb (by decide +kernel : decode cX12_codesTell 1 = .ok (.iload_n 1, 1)) rfl) ?_
  refine mm_fc (ss_putI X rfl in_X12 tyX12_ok nmX12 (by decide) rfl rfl rfl rfl wd_6_100 (by decide +kernel : decode cX12_codesTell 2 = .ok (.putfield 295, 3))) ?_
  refine mm_fc (ss_aload_n hx hb (by decide +kernel : decode cX12_codesTell 5 = .ok (.aload_n 0, 1)) rfl) ?_
  refine mm_fc (ss_iconst hx hb (by decide +kernel : decode cX12_codesTell 6 = .ok (.iconst 0, 1)) (by decide)) ?_
  refine mm_fc (ss_putI X rfl in_X12 tyX12_ok nmX12 (by decide) rfl rfl rfl rfl wd_6_154 (by decide +kernel : decode cX12_codesTell 7 = .ok (.putfield 409, 3))) ?_
  refine mm_fc (ss_aload_n hx hb (by decide +kernel : decode cX12_codesTell 10 = .ok (.aload_n 0, 1)) rfl) ?_
  refine mm_fc (ss_get X rfl in_X12 (by decide) rfl wd_6_94 (by decide +kernel : decode cX12_codesTell 11 = .ok (.getfield 112, 3))) ?_
  refine mm_fc (ss_iconst hx hb (by decide +kernel : decode cX12_codesTell 14 = .ok (.iconst 3, 1)) (by decide)) ?_
  refine mm_fc (ss_iload_n hx hb (by decide +kernel : decode cX12_codesTell 15 = .ok (.iload_n 1, 1)) rfl) ?_
  refine mm_fc (ss_iadd hx hb (by decide +kernel : decode cX12_codesTell 16 = .ok (.iadd, 1))) ?_
  refine mm_fc (ss_iald X (by decide +kernel : decode cX12_codesTell 17 = .ok (.iaload, 1))) ?_
  refine mm_fc (ss_kill (ss_istore_n hx hb (by decide +kernel : decode cX12_codesTell 18 = .ok (.istore_n 2, 1)) rfl (by decide))) ?_
  refine mm_fc (ss_iload_n hx hb (by decide +kernel : decode cX12_codesTell 19 = .ok (.iload_n 2, 1)) rfl) ?_
  refine mm_fc (ss_aload_n hx hb (by decide +kernel : decode cX12_codesTell 20 = .ok (.aload_n 0, 1)) rfl) ?_
  refine mm_fc (ss_get X rfl in_X12 (by decide) rfl wd_6_95 (by decide +kernel : decode cX12_codesTell 21 = .ok (.getfield 115, 3))) ?_
  refine mm_fc (ss_iconst hx hb (by decide +kernel : decode cX12_codesTell 24 = .ok (.iconst 3, 1)) (by decide)) ?_
  refine mm_fc (ss_iload_n hx hb (by decide +kernel : decode cX12_codesTell 25 = .ok (.iload_n 1, 1)) rfl) ?_
  refine mm_fc (ss_iadd hx hb (by decide +kernel : decode cX12_codesTell 26 = .ok (.iadd, 1))) ?_
  refine mm_fc (ss_iald X (by decide +kernel : decode cX12_codesTell 27 = .ok (.iaload, 1))) ?_
  refine mm_fc (ss_icmpge hx hb (by decide +kernel : decode cX12_codesTell 28 = .ok (.if_icmp .ge 114, 3)) (by decide)) ?_
  refine mm_fc (ss_aload_n hx hb (by decide +kernel : decode cX12_codesTell 31 = .ok (.aload_n 0, 1)) rfl) ?_
  refine mm_fc (ss_get X rfl in_X12 (by decide) rfl wd_6_96 (by decide +kernel : decode cX12_codesTell 32 = .ok (.getfield 118, 3))) ?_
  refine mm_fc (ss_sipush hx hb (by decide +kernel : decode cX12_codesTell 35 = .ok (.sipush 1600, 3)) (by decide)) ?_
  refine mm_fc (ss_iload_n hx hb (by decide +kernel : decode cX12_codesTell 38 = .ok (.iload_n 2, 1)) rfl) ?_
  refine mm_fc (ss_iadd hx hb (by decide +kernel : decode cX12_codesTell 39 = .ok (.iadd, 1))) ?_
  refine mm_fc (ss_iald X (by decide +kernel : decode cX12_codesTell 40 = .ok (.iaload, 1))) ?_
  refine mm_fc (ss_istore_n hx hb (by decide +kernel : decode cX12_codesTell 41 = .ok (.istore_n 3, 1)) rfl (by decide)) ?_
  refine mm_fc (ss_iload_n hx hb (by decide +kernel : decode cX12_codesTell 42 = .ok (.iload_n 3, 1)) rfl) ?_
  refine mm_fc (ss_sipush hx hb (by decide +kernel : decode cX12_codesTell 43 = .ok (.sipush 1000, 3)) (by decide)) ?_
  refine mm_fc (ss_icmplt hx hb (by decide +kernel : decode cX12_codesTell 46 = .ok (.if_icmp .lt 16, 3)) (by decide)) ?_
  refine mm_fc (ss_aload_n hx hb (by decide +kernel : decode cX12_codesTell 49 = .ok (.aload_n 0, 1)) rfl) ?_
  refine mm_fc (ss_iload_n hx hb (by decide +kernel : decode cX12_codesTell 50 = .ok (.iload_n 3, 1)) rfl) ?_
  refine mm_fc (ss_sipush hx hb (by decide +kernel : decode cX12_codesTell 51 = .ok (.sipush 1000, 3)) (by decide)) ?_
  refine mm_fc (ss_isub hx hb (by decide +kernel : decode cX12_codesTell 54 = .ok (.isub, 1))) ?_
  refine mm_fc (ss_i2l hx hb (by decide +kernel : decode cX12_codesTell 55 = .ok (.i2l, 1))) ?_
  refine mm_fc (ss_callV X rfl rfl wd_8_145 wd_1_13 wd_8_142 wd_8_144 wd_p_96 (by decide +kernel) (by decide +kernel) (by decide) (by decide +kernel : decode cX12_codesTell 56 = .ok (.invokevirtual 412, 3))) ?_
  refine mm_fc (ss_goto hx hb (by decide +kernel : decode cX12_codesTell 59 = .ok (.goto 77, 3)) (by decide)) ?_
  refine mm_fc (ss_iload_n hx hb (by decide +kernel : decode cX12_codesTell 62 = .ok (.iload_n 3, 1)) rfl) ?_
  refine mm_fc (ss_bipush hx hb (by decide +kernel : decode cX12_codesTell 63 = .ok (.bipush 40, 2)) (by decide)) ?_
  refine mm_fc (ss_icmplt hx hb (by decide +kernel : decode cX12_codesTell 65 = .ok (.if_icmp .lt 19, 3)) (by decide)) ?_
  refine mm_fc (ss_aload_n hx hb (by decide +kernel : decode cX12_codesTell 68 = .ok (.aload_n 0, 1)) rfl) ?_
  refine mm_fc (ss_aload_n hx hb (by decide +kernel : decode cX12_codesTell 69 = .ok (.aload_n 0, 1)) rfl) ?_
  refine mm_fc (ss_iload_n hx hb (by decide +kernel : decode cX12_codesTell 70 = .ok (.iload_n 3, 1)) rfl) ?_
  refine mm_fc (ss_bipush hx hb (by decide +kernel : decode cX12_codesTell 71 = .ok (.bipush 40, 2)) (by decide)) ?_
  refine mm_fc (ss_isub hx hb (by decide +kernel : decode cX12_codesTell 73 = .ok (.isub, 1))) ?_
  refine mm_fc (ss_iconst hx hb (by decide +kernel : decode cX12_codesTell 74 = .ok (.iconst 0, 1)) (by decide)) ?_
  refine mm_fc (ss_callV X rfl rfl wd_8_149 wd_1_13 wd_8_146 wd_8_148 wd_p_97 (by decide +kernel) (by decide +kernel) (by decide) (by decide +kernel : decode cX12_codesTell 75 = .ok (.invokevirtual 416, 3))) ?_
  refine mm_fc (ss_callV X rfl rfl wd_8_145 wd_1_13 wd_8_142 wd_8_144 wd_p_96 (by decide +kernel) (by decide +kernel) (by decide) (by decide +kernel : decode cX12_codesTell 78 = .ok (.invokevirtual 412, 3))) ?_
  refine mm_fc (ss_goto hx hb (by decide +kernel : decode cX12_codesTell 81 = .ok (.goto 55, 3)) (by decide)) ?_
  refine mm_fc (ss_iload_n hx hb (by decide +kernel : decode cX12_codesTell 84 = .ok (.iload_n 3, 1)) rfl) ?_
  refine mm_fc (ss_bipush hx hb (by decide +kernel : decode cX12_codesTell 85 = .ok (.bipush 13, 2)) (by decide)) ?_
  refine mm_fc (ss_icmpne hx hb (by decide +kernel : decode cX12_codesTell 87 = .ok (.if_icmp .ne 11, 3)) (by decide)) ?_
  refine mm_fc (ss_aload_n hx hb (by decide +kernel : decode cX12_codesTell 90 = .ok (.aload_n 0, 1)) rfl) ?_
  refine mm_fc (ss_lconst hx hb (by decide +kernel : decode cX12_codesTell 91 = .ok (.lconst 1, 1)) (by decide)) ?_
  refine mm_fc (ss_callV X rfl rfl wd_8_145 wd_1_13 wd_8_142 wd_8_144 wd_p_96 (by decide +kernel) (by decide +kernel) (by decide) (by decide +kernel : decode cX12_codesTell 92 = .ok (.invokevirtual 412, 3))) ?_
  refine mm_fc (ss_goto hx hb (by decide +kernel : decode cX12_codesTell 95 = .ok (.goto 41, 3)) (by decide)) ?_
  refine mm_fc (ss_iload_n hx hb (by decide +kernel : decode cX12_codesTell 98 = .ok (.iload_n 3, 1)) rfl) ?_
  refine mm_fc (ss_bipush hx hb (by decide +kernel : decode cX12_codesTell 99 = .ok (.bipush 12, 2)) (by decide)) ?_
  refine mm_fc (ss_icmpne hx hb (by decide +kernel : decode cX12_codesTell 101 = .ok (.if_icmp .ne 30, 3)) (by decide)) ?_
  refine mm_fc (ss_aload_n hx hb (by decide +kernel : decode cX12_codesTell 104 = .ok (.aload_n 0, 1)) rfl) ?_
  refine mm_fc (ss_get X rfl in_X12 (by decide) rfl wd_6_153 (by decide +kernel : decode cX12_codesTell 105 = .ok (.getfield 228, 3))) ?_
  refine mm_fc (ss_aload_n hx hb (by decide +kernel : decode cX12_codesTell 108 = .ok (.aload_n 0, 1)) rfl) ?_
  refine mm_fc (ss_get X rfl in_X12 (by decide) rfl wd_6_154 (by decide +kernel : decode cX12_codesTell 109 = .ok (.getfield 409, 3))) ?_
  refine mm_fc (ss_iconst hx hb (by decide +kernel : decode cX12_codesTell 112 = .ok (.iconst 1, 1)) (by decide)) ?_
  refine mm_fc (ss_isub hx hb (by decide +kernel : decode cX12_codesTell 113 = .ok (.isub, 1))) ?_
  refine mm_fc (ss_lconst hx hb (by decide +kernel : decode cX12_codesTell 114 = .ok (.lconst 1, 1)) (by decide)) ?_
  refine mm_fc (ss_aload_n hx hb (by decide +kernel : decode cX12_codesTell 115 = .ok (.aload_n 0, 1)) rfl) ?_
  refine mm_fc (ss_get X rfl in_X12 (by decide) rfl wd_6_153 (by decide +kernel : decode cX12_codesTell 116 = .ok (.getfield 228, 3))) ?_
  refine mm_fc (ss_aload_n hx hb (by decide +kernel : decode cX12_codesTell 119 = .ok (.aload_n 0, 1)) rfl) ?_
  refine mm_fc (ss_get X rfl in_X12 (by decide) rfl wd_6_154 (by decide +kernel : decode cX12_codesTell 120 = .ok (.getfield 409, 3))) ?_
  refine mm_fc (ss_iconst hx hb (by decide +kernel : decode cX12_codesTell 123 = .ok (.iconst 1, 1)) (by decide)) ?_
  refine mm_fc (ss_isub hx hb (by decide +kernel : decode cX12_codesTell 124 = .ok (.isub, 1))) ?_
  refine mm_fc (ss_lald X (by decide +kernel : decode cX12_codesTell 125 = .ok (.laload, 1))) ?_
  refine mm_fc (ss_lsub hx hb (by decide +kernel : decode cX12_codesTell 126 = .ok (.lsub, 1))) ?_
  refine mm_fc (ss_last X (by decide +kernel : decode cX12_codesTell 127 = .ok (.lastore, 1))) ?_
  refine mm_fc (ss_goto hx hb (by decide +kernel : decode cX12_codesTell 128 = .ok (.goto 8, 3)) (by decide)) ?_
  refine mm_fc (ss_aload_n hx hb (by decide +kernel : decode cX12_codesTell 131 = .ok (.aload_n 0, 1)) rfl) ?_
  refine mm_fc (ss_iload_n hx hb (by decide +kernel : decode cX12_codesTell 132 = .ok (.iload_n 3, 1)) rfl) ?_
  refine mm_fc (ss_callV X rfl rfl wd_8_153 wd_1_13 wd_8_150 wd_8_152 wd_p_98 (by decide +kernel) (by decide +kernel) (by decide) (by decide +kernel : decode cX12_codesTell 133 = .ok (.invokevirtual 420, 3))) ?_
  refine mm_fc (ss_iinc hx hb (by decide +kernel : decode cX12_codesTell 136 = .ok (.iinc 2 1, 3)) (by decide) (by decide)) ?_
  refine mm_fc (ss_kill (ss_goto hx hb (by decide +kernel : decode cX12_codesTell 139 = .ok (.goto (-120), 3)) (by decide))) ?_
  refine mm_fc (ss_aload_n hx hb (by decide +kernel : decode cX12_codesTell 142 = .ok (.aload_n 0, 1)) rfl) ?_
  refine mm_fc (ss_get X rfl in_X12 (by decide) rfl wd_6_153 (by decide +kernel : decode cX12_codesTell 143 = .ok (.getfield 228, 3))) ?_
  refine mm_fc (ss_iconst hx hb (by decide +kernel : decode cX12_codesTell 146 = .ok (.iconst 0, 1)) (by decide)) ?_
  refine mm_fc (ss_lald X (by decide +kernel : decode cX12_codesTell 147 = .ok (.laload, 1))) ?_
  refine mm_fc (ss_lret (by decide +kernel : decode cX12_codesTell 148 = .ok (.lreturn, 1)) rfl) ?_
  exact mm_fn
def cd_X12_cut : mm_K mm_H := [(0, s_lload 0 1), (1, s_pushL 0 2), (2, s_lcmp 3), (3, s_if (fun x => 0 ≤ x) 10 6), (6, s_pushI 0 7), (7, s_goto 23), (10, s_lload 0 11), (11, s_iload 2 12), (12, s_i2l 13), (13, s_lcmp 14), (14, s_if (fun x => x ≤ 0) 21 17), (17, s_iload 2 18), (18, s_goto 23), (21, s_lload 0 22), (22, s_l2i 23), (23, s_iret)]
set_option maxRecDepth 100000 in
set_option maxHeartbeats 4000000 in
theorem ok_X12_cut (l : Launch) : mm_CodeOK l mm_I0 RX12 cX12_cut 3 (some .int) cd_X12_cut := by
  intro p e R s m args below meth c Q σ cA D A kc ks d C X
  have hx := X.1
  have hb := X.2.1
  have hown := X.2.2.2.1
  have hts := X.2.2.2.2.1
  refine mm_fc (ss_lload_n hx hb (by decide +kernel : decode cX12_cut 0 = .ok (.lload_n 0, 1)) rfl) ?_
  refine mm_fc (ss_lconst hx hb (by decide +kernel : decode cX12_cut 1 = .ok (.lconst 0, 1)) (by decide)) ?_
  refine mm_fc (ss_lcmp hx hb (by decide +kernel : decode cX12_cut 2 = .ok (.lcmp, 1))) ?_
  refine mm_fc (ss_ifge hx hb (by decide +kernel : decode cX12_cut 3 = .ok (.ifCond .ge 7, 3)) (by decide)) ?_
  refine mm_fc (ss_iconst hx hb (by decide +kernel : decode cX12_cut 6 = .ok (.iconst 0, 1)) (by decide)) ?_
  refine mm_fc (ss_goto hx hb (by decide +kernel : decode cX12_cut 7 = .ok (.goto 16, 3)) (by decide)) ?_
  refine mm_fc (ss_lload_n hx hb (by decide +kernel : decode cX12_cut 10 = .ok (.lload_n 0, 1)) rfl) ?_
  refine mm_fc (ss_iload_n hx hb (by decide +kernel : decode cX12_cut 11 = .ok (.iload_n 2, 1)) rfl) ?_
  refine mm_fc (ss_i2l hx hb (by decide +kernel : decode cX12_cut 12 = .ok (.i2l, 1))) ?_
  refine mm_fc (ss_lcmp hx hb (by decide +kernel : decode cX12_cut 13 = .ok (.lcmp, 1))) ?_
  refine mm_fc (ss_ifle hx hb (by decide +kernel : decode cX12_cut 14 = .ok (.ifCond .le 7, 3)) (by decide)) ?_
  refine mm_fc (ss_iload_n hx hb (by decide +kernel : decode cX12_cut 17 = .ok (.iload_n 2, 1)) rfl) ?_
  refine mm_fc (ss_goto hx hb (by decide +kernel : decode cX12_cut 18 = .ok (.goto 5, 3)) (by decide)) ?_
  refine mm_fc (ss_lload_n hx hb (by decide +kernel : decode cX12_cut 21 = .ok (.lload_n 0, 1)) rfl) ?_
  refine mm_fc (ss_l2i hx hb (by decide +kernel : decode cX12_cut 22 = .ok (.l2i, 1))) ?_
  refine mm_fc (ss_iret (by decide +kernel : decode cX12_cut 23 = .ok (.ireturn, 1)) rfl) ?_
  exact mm_fn
def cd_X12_painted : mm_K mm_H := [(0, s_aload 0 1), (1, s_get 12 48 4), (4, s_pushI 3 5), (5, s_iald 6), (6, s_pushI (-1) 7), (7, s_icmp (fun x y => ¬ x = y) 16 10), (10, s_aload 0 11), (11, s_iload 1 12), (12, s_callV 12 219 1 1 15), (15, s_iret), (16, s_aload 0 17), (17, s_aload 0 18), (18, s_iload 1 19), (19, s_callV 12 221 1 1 22), (22, s_putI 12 57 25), (25, s_aload 0 26), (26, s_aload 0 27), (27, s_iload 2 28), (28, s_callV 12 222 1 1 31), (31, s_putI 12 58 34), (34, s_aload 0 35), (35, s_aload 0 36), (36, s_iload 2 37), (37, s_iload 1 38), (38, s_callV 12 223 2 1 41), (41, s_putI 12 59 44), (44, s_aload 0 45), (45, s_aload 0 46), (46, s_iload 1 47), (47, s_callV 12 219 1 1 50), (50, s_putI 12 60 53), (53, s_aload 0 54), (54, s_iload 3 55), (55, s_putI 12 61 58), (58, s_aload 0 59), (59, s_pushI 0 60), (60, s_callV 12 226 1 2 63), (63, s_pushI 99 65), (65, s_callS 227 2 1 68), (68, s_iret)]
set_option maxRecDepth 100000 in
set_option maxHeartbeats 4000000 in
theorem ok_X12_painted (l : Launch) : mm_CodeOK l mm_I0 RX12 cX12_painted 4 (some .int) cd_X12_painted := by
  intro p e R s m args below meth c Q σ cA D A kc ks d C X
  have hx := X.1
  have hb := X.2.1
  have hown := X.2.2.2.1
  have hts := X.2.2.2.2.1
  refine mm_fc (ss_aload_n hx hb (by decide +kernel : decode cX12_painted 0 = .ok (.aload_n 0, 1)) rfl) ?_
  refine mm_fc (ss_get X rfl in_X12 (by decide) rfl wd_6_94 (by decide +kernel : decode cX12_painted 1 = .ok (.getfield 112, 3))) ?_
  refine mm_fc (ss_iconst hx hb (by decide +kernel : decode cX12_painted 4 = .ok (.iconst 3, 1)) (by decide)) ?_
  refine mm_fc (ss_iald X (by decide +kernel : decode cX12_painted 5 = .ok (.iaload, 1))) ?_
  refine mm_fc (ss_iconst hx hb (by decide +kernel : decode cX12_painted 6 = .ok (.iconst (-1), 1)) (by decide)) ?_
  refine mm_fc (ss_icmpne hx hb (by decide +kernel : decode cX12_painted 7 = .ok (.if_icmp .ne 9, 3)) (by decide)) ?_
  refine mm_fc (ss_aload_n hx hb (by decide +kernel : decode cX12_painted 10 = .ok (.aload_n 0, 1)) rfl) ?_
  refine mm_fc (ss_iload_n hx hb (by decide +kernel : decode cX12_painted 11 = .ok (.iload_n 1, 1)) rfl) ?_
  refine mm_fc (ss_callV X rfl rfl wd_8_97 wd_1_13 wd_8_94 wd_8_96 wd_p_84 (by decide +kernel) (by decide +kernel) (by decide) (by decide +kernel : decode cX12_painted 12 = .ok (.invokevirtual 423, 3))) ?_
  refine mm_fc (ss_iret (by decide +kernel : decode cX12_painted 15 = .ok (.ireturn, 1)) rfl) ?_
  refine mm_fc (ss_aload_n hx hb (by decide +kernel : decode cX12_painted 16 = .ok (.aload_n 0, 1)) rfl) ?_
  refine mm_fc (ss_aload_n hx hb (by decide +kernel : decode cX12_painted 17 = .ok (.aload_n 0, 1)) rfl) ?_
  refine mm_fc (ss_iload_n hx hb (by decide +kernel : decode cX12_painted 18 = .ok (.iload_n 1, 1)) rfl) ?_
  refine mm_fc (ss_callV X rfl rfl wd_8_133 wd_1_13 wd_8_130 wd_8_132 wd_p_93 (by decide +kernel) (by decide +kernel) (by decide) (by decide +kernel : decode cX12_painted 19 = .ok (.invokevirtual 426, 3))) ?_
  refine mm_fc (ss_putI X rfl in_X12 tyX12_ok nmX12 (by decide) rfl rfl rfl rfl wd_6_103 (by decide +kernel : decode cX12_painted 22 = .ok (.putfield 429, 3))) ?_
  refine mm_fc (ss_aload_n hx hb (by decide +kernel : decode cX12_painted 25 = .ok (.aload_n 0, 1)) rfl) ?_
  refine mm_fc (ss_aload_n hx hb (by decide +kernel : decode cX12_painted 26 = .ok (.aload_n 0, 1)) rfl) ?_
  refine mm_fc (ss_iload_n hx hb (by decide +kernel : decode cX12_painted 27 = .ok (.iload_n 2, 1)) rfl) ?_
  refine mm_fc (ss_callV X rfl rfl wd_8_137 wd_1_13 wd_8_134 wd_8_136 wd_p_94 (by decide +kernel) (by decide +kernel) (by decide) (by decide +kernel : decode cX12_painted 28 = .ok (.invokevirtual 432, 3))) ?_
  refine mm_fc (ss_putI X rfl in_X12 tyX12_ok nmX12 (by decide) rfl rfl rfl rfl wd_6_104 (by decide +kernel : decode cX12_painted 31 = .ok (.putfield 435, 3))) ?_
  refine mm_fc (ss_aload_n hx hb (by decide +kernel : decode cX12_painted 34 = .ok (.aload_n 0, 1)) rfl) ?_
  refine mm_fc (ss_aload_n hx hb (by decide +kernel : decode cX12_painted 35 = .ok (.aload_n 0, 1)) rfl) ?_
  refine mm_fc (ss_iload_n hx hb (by decide +kernel : decode cX12_painted 36 = .ok (.iload_n 2, 1)) rfl) ?_
  refine mm_fc (ss_iload_n hx hb (by decide +kernel : decode cX12_painted 37 = .ok (.iload_n 1, 1)) rfl) ?_
  refine mm_fc (ss_callV X rfl rfl wd_8_129 wd_1_13 wd_8_126 wd_8_128 wd_p_92 (by decide +kernel) (by decide +kernel) (by decide) (by decide +kernel : decode cX12_painted 38 = .ok (.invokevirtual 438, 3))) ?_
  refine mm_fc (ss_putI X rfl in_X12 tyX12_ok nmX12 (by decide) rfl rfl rfl rfl wd_6_105 (by decide +kernel : decode cX12_painted 41 = .ok (.putfield 441, 3))) ?_
  refine mm_fc (ss_aload_n hx hb (by decide +kernel : decode cX12_painted 44 = .ok (.aload_n 0, 1)) rfl) ?_
  refine mm_fc (ss_aload_n hx hb (by decide +kernel : decode cX12_painted 45 = .ok (.aload_n 0, 1)) rfl) ?_
  refine mm_fc (ss_iload_n hx hb (by decide +kernel : decode cX12_painted 46 = .ok (.iload_n 1, 1)) rfl) ?_
  refine mm_fc (ss_callV X rfl rfl wd_8_97 wd_1_13 wd_8_94 wd_8_96 wd_p_84 (by decide +kernel) (by decide +kernel) (by decide) (by decide +kernel : decode cX12_painted 47 = .ok (.invokevirtual 423, 3))) ?_
  refine mm_fc (ss_putI X rfl in_X12 tyX12_ok nmX12 (by decide) rfl rfl rfl rfl wd_6_106 (by decide +kernel : decode cX12_painted 50 = .ok (.putfield 444, 3))) ?_
  refine mm_fc (ss_aload_n hx hb (by decide +kernel : decode cX12_painted 53 = .ok (.aload_n 0, 1)) rfl) ?_
  refine mm_fc (ss_iload_n hx hb (by decide +kernel : decode cX12_painted 54 = .ok (.iload_n 3, 1)) rfl) ?_
  refine mm_fc (ss_putI X rfl in_X12 tyX12_ok nmX12 (by decide) rfl rfl rfl rfl wd_6_107 (by decide +kernel : decode cX12_painted 55 = .ok (.putfield 447, 3))) ?_
  refine mm_fc (ss_aload_n hx hb (by decide +kernel : decode cX12_painted 58 = .ok (.aload_n 0, 1)) rfl) ?_
  refine mm_fc (ss_iconst hx hb (by decide +kernel : decode cX12_painted 59 = .ok (.iconst 0, 1)) (by decide)) ?_
  refine mm_fc (ss_callV X rfl rfl wd_8_141 wd_1_13 wd_8_138 wd_8_140 wd_p_95 (by decide +kernel) (by decide +kernel) (by decide) (by decide +kernel : decode cX12_painted 60 = .ok (.invokevirtual 450, 3))) ?_
  refine mm_fc (ss_bipush hx hb (by decide +kernel : decode cX12_painted 63 = .ok (.bipush 99, 2)) (by decide)) ?_
  refine mm_fc (ss_callS X rfl wd_8_213 wd_1_13 wd_8_211 wd_8_212 (by decide +kernel) (by decide +kernel) (by decide) (by decide +kernel : decode cX12_painted 65 = .ok (.invokestatic 454, 3))) ?_
  refine mm_fc (ss_iret (by decide +kernel : decode cX12_painted 68 = .ok (.ireturn, 1)) rfl) ?_
  exact mm_fn
def cd_X12_minded : mm_K mm_H := [(0, s_aload 0 1), (1, s_get 12 48 4), (4, s_pushI 4 5), (5, s_iald 6), (6, s_pushI (-1) 7), (7, s_icmp (fun x y => ¬ x = y) 17 10), (10, s_aload 0 11), (11, s_iload 1 12), (12, s_iload 2 13), (13, s_callV 12 223 2 1 16), (16, s_iret), (17, s_aload 0 18), (18, s_aload 0 19), (19, s_iload 2 20), (20, s_callV 12 221 1 1 23), (23, s_putI 12 57 26), (26, s_aload 0 27), (27, s_aload 0 28), (28, s_iload 1 29), (29, s_callV 12 222 1 1 32), (32, s_putI 12 58 35), (35, s_aload 0 36), (36, s_aload 0 37), (37, s_iload 1 38), (38, s_iload 2 39), (39, s_callV 12 223 2 1 42), (42, s_putI 12 59 45), (45, s_aload 0 46), (46, s_iload 3 47), (47, s_putI 12 62 50), (50, s_aload 0 51), (51, s_pushI 1 52), (52, s_callV 12 226 1 2 55), (55, s_pushI 9 57), (57, s_callS 227 2 1 60), (60, s_iret)]
set_option maxRecDepth 100000 in
set_option maxHeartbeats 4000000 in
theorem ok_X12_minded (l : Launch) : mm_CodeOK l mm_I0 RX12 cX12_minded 4 (some .int) cd_X12_minded := by
  intro p e R s m args below meth c Q σ cA D A kc ks d C X
  have hx := X.1
  have hb := X.2.1
  have hown := X.2.2.2.1
  have hts := X.2.2.2.2.1
  refine mm_fc (ss_aload_n hx hb (by decide +kernel : decode cX12_minded 0 = .ok (.aload_n 0, 1)) rfl) ?_
  refine mm_fc (ss_get X rfl in_X12 (by decide) rfl wd_6_94 (by decide +kernel : decode cX12_minded 1 = .ok (.getfield 112, 3))) ?_
  refine mm_fc (ss_iconst hx hb (by decide +kernel : decode cX12_minded 4 = .ok (.iconst 4, 1)) (by decide)) ?_
  refine mm_fc (ss_iald X (by decide +kernel : decode cX12_minded 5 = .ok (.iaload, 1))) ?_
  refine mm_fc (ss_iconst hx hb (by decide +kernel : decode cX12_minded 6 = .ok (.iconst (-1), 1)) (by decide)) ?_
  refine mm_fc (ss_icmpne hx hb (by decide +kernel : decode cX12_minded 7 = .ok (.if_icmp .ne 10, 3)) (by decide)) ?_
  refine mm_fc (ss_aload_n hx hb (by decide +kernel : decode cX12_minded 10 = .ok (.aload_n 0, 1)) rfl) ?_
  refine mm_fc (ss_iload_n hx hb (by decide +kernel : decode cX12_minded 11 = .ok (.iload_n 1, 1)) rfl) ?_
  refine mm_fc (ss_iload_n hx hb (by decide +kernel : decode cX12_minded 12 = .ok (.iload_n 2, 1)) rfl) ?_
  refine mm_fc (ss_callV X rfl rfl wd_8_129 wd_1_13 wd_8_126 wd_8_128 wd_p_92 (by decide +kernel) (by decide +kernel) (by decide) (by decide +kernel : decode cX12_minded 13 = .ok (.invokevirtual 438, 3))) ?_
  refine mm_fc (ss_iret (by decide +kernel : decode cX12_minded 16 = .ok (.ireturn, 1)) rfl) ?_
  refine mm_fc (ss_aload_n hx hb (by decide +kernel : decode cX12_minded 17 = .ok (.aload_n 0, 1)) rfl) ?_
  refine mm_fc (ss_aload_n hx hb (by decide +kernel : decode cX12_minded 18 = .ok (.aload_n 0, 1)) rfl) ?_
  refine mm_fc (ss_iload_n hx hb (by decide +kernel : decode cX12_minded 19 = .ok (.iload_n 2, 1)) rfl) ?_
  refine mm_fc (ss_callV X rfl rfl wd_8_133 wd_1_13 wd_8_130 wd_8_132 wd_p_93 (by decide +kernel) (by decide +kernel) (by decide) (by decide +kernel : decode cX12_minded 20 = .ok (.invokevirtual 426, 3))) ?_
  refine mm_fc (ss_putI X rfl in_X12 tyX12_ok nmX12 (by decide) rfl rfl rfl rfl wd_6_103 (by decide +kernel : decode cX12_minded 23 = .ok (.putfield 429, 3))) ?_
  refine mm_fc (ss_aload_n hx hb (by decide +kernel : decode cX12_minded 26 = .ok (.aload_n 0, 1)) rfl) ?_
  refine mm_fc (ss_aload_n hx hb (by decide +kernel : decode cX12_minded 27 = .ok (.aload_n 0, 1)) rfl) ?_
  refine mm_fc (ss_iload_n hx hb (by decide +kernel : decode cX12_minded 28 = .ok (.iload_n 1, 1)) rfl) ?_
  refine mm_fc (ss_callV X rfl rfl wd_8_137 wd_1_13 wd_8_134 wd_8_136 wd_p_94 (by decide +kernel) (by decide +kernel) (by decide) (by decide +kernel : decode cX12_minded 29 = .ok (.invokevirtual 432, 3))) ?_
  refine mm_fc (ss_putI X rfl in_X12 tyX12_ok nmX12 (by decide) rfl rfl rfl rfl wd_6_104 (by decide +kernel : decode cX12_minded 32 = .ok (.putfield 435, 3))) ?_
  refine mm_fc (ss_aload_n hx hb (by decide +kernel : decode cX12_minded 35 = .ok (.aload_n 0, 1)) rfl) ?_
  refine mm_fc (ss_aload_n hx hb (by decide +kernel : decode cX12_minded 36 = .ok (.aload_n 0, 1)) rfl) ?_
  refine mm_fc (ss_iload_n hx hb (by decide +kernel : decode cX12_minded 37 = .ok (.iload_n 1, 1)) rfl) ?_
  refine mm_fc (ss_iload_n hx hb (by decide +kernel : decode cX12_minded 38 = .ok (.iload_n 2, 1)) rfl) ?_
  refine mm_fc (ss_callV X rfl rfl wd_8_129 wd_1_13 wd_8_126 wd_8_128 wd_p_92 (by decide +kernel) (by decide +kernel) (by decide) (by decide +kernel : decode cX12_minded 39 = .ok (.invokevirtual 438, 3))) ?_
  refine mm_fc (ss_putI X rfl in_X12 tyX12_ok nmX12 (by decide) rfl rfl rfl rfl wd_6_105 (by decide +kernel : decode cX12_minded 42 = .ok (.putfield 441, 3))) ?_
  refine mm_fc (ss_aload_n hx hb (by decide +kernel : decode cX12_minded 45 = .ok (.aload_n 0, 1)) rfl) ?_
  refine mm_fc (ss_iload_n hx hb (by decide +kernel : decode cX12_minded 46 = .ok (.iload_n 3, 1)) rfl) ?_
  refine mm_fc (ss_putI X rfl in_X12 tyX12_ok nmX12 (by decide) rfl rfl rfl rfl wd_6_108 (by decide +kernel : decode cX12_minded 47 = .ok (.putfield 458, 3))) ?_
  refine mm_fc (ss_aload_n hx hb (by decide +kernel : decode cX12_minded 50 = .ok (.aload_n 0, 1)) rfl) ?_
  refine mm_fc (ss_iconst hx hb (by decide +kernel : decode cX12_minded 51 = .ok (.iconst 1, 1)) (by decide)) ?_
  refine mm_fc (ss_callV X rfl rfl wd_8_141 wd_1_13 wd_8_138 wd_8_140 wd_p_95 (by decide +kernel) (by decide +kernel) (by decide) (by decide +kernel : decode cX12_minded 52 = .ok (.invokevirtual 450, 3))) ?_
  refine mm_fc (ss_bipush hx hb (by decide +kernel : decode cX12_minded 55 = .ok (.bipush 9, 2)) (by decide)) ?_
  refine mm_fc (ss_callS X rfl wd_8_213 wd_1_13 wd_8_211 wd_8_212 (by decide +kernel) (by decide +kernel) (by decide) (by decide +kernel : decode cX12_minded 57 = .ok (.invokestatic 454, 3))) ?_
  refine mm_fc (ss_iret (by decide +kernel : decode cX12_minded 60 = .ok (.ireturn, 1)) rfl) ?_
  exact mm_fn
def cd_X12_isFeud : mm_K mm_H := [(0, s_aload 0 1), (1, s_get 12 48 4), (4, s_pushI 5 5), (5, s_iald 6), (6, s_pushI (-1) 7), (7, s_icmp (fun x y => ¬ x = y) 34 10), (10, s_aload 0 11), (11, s_iload 1 12), (12, s_iload 2 13), (13, s_callV 12 223 2 1 16), (16, s_aload 0 17), (17, s_iload 2 18), (18, s_iload 1 19), (19, s_callV 12 223 2 1 22), (22, s_bin (fun x y => x + y) 23), (23, s_pushI 6 25), (25, s_icmp (fun x y => y ≤ x) 32 28), (28, s_pushI 1 29), (29, s_goto 33), (32, s_pushI 0 33), (33, s_zret), (34, s_aload 0 35), (35, s_aload 0 36), (36, s_iload 2 37), (37, s_callV 12 221 1 1 40), (40, s_putI 12 57 43), (43, s_aload 0 44), (44, s_aload 0 45), (45, s_iload 1 46), (46, s_callV 12 222 1 1 49), (49, s_putI 12 58 52), (52, s_aload 0 53), (53, s_aload 0 54), (54, s_iload 1 55), (55, s_iload 2 56), (56, s_callV 12 223 2 1 59), (59, s_putI 12 59 62), (62, s_aload 0 63), (63, s_aload 0 64), (64, s_iload 2 65), (65, s_iload 1 66), (66, s_callV 12 223 2 1 69), (69, s_putI 12 63 72), (72, s_aload 0 73), (73, s_pushI 2 74), (74, s_callV 12 226 1 2 77), (77, s_pushL 1 78), (78, s_lcmp 79), (79, s_if (fun x => ¬ x = 0) 86 82), (82, s_pushI 1 83), (83, s_goto 87), (86, s_pushI 0 87), (87, s_zret)]
set_option maxRecDepth 100000 in
set_option maxHeartbeats 4000000 in
theorem ok_X12_isFeud (l : Launch) : mm_CodeOK l mm_I0 RX12 cX12_isFeud 3 (some .boolean) cd_X12_isFeud := by
  intro p e R s m args below meth c Q σ cA D A kc ks d C X
  have hx := X.1
  have hb := X.2.1
  have hown := X.2.2.2.1
  have hts := X.2.2.2.2.1
  refine mm_fc (ss_aload_n hx hb (by decide +kernel : decode cX12_isFeud 0 = .ok (.aload_n 0, 1)) rfl) ?_
  refine mm_fc (ss_get X rfl in_X12 (by decide) rfl wd_6_94 (by decide +kernel : decode cX12_isFeud 1 = .ok (.getfield 112, 3))) ?_
  refine mm_fc (ss_iconst hx hb (by decide +kernel : decode cX12_isFeud 4 = .ok (.iconst 5, 1)) (by decide)) ?_
  refine mm_fc (ss_iald X (by decide +kernel : decode cX12_isFeud 5 = .ok (.iaload, 1))) ?_
  refine mm_fc (ss_iconst hx hb (by decide +kernel : decode cX12_isFeud 6 = .ok (.iconst (-1), 1)) (by decide)) ?_
  refine mm_fc (ss_icmpne hx hb (by decide +kernel : decode cX12_isFeud 7 = .ok (.if_icmp .ne 27, 3)) (by decide)) ?_
  refine mm_fc (ss_aload_n hx hb (by decide +kernel : decode cX12_isFeud 10 = .ok (.aload_n 0, 1)) rfl) ?_
  refine mm_fc (ss_iload_n hx hb (by decide +kernel : decode cX12_isFeud 11 = .ok (.iload_n 1, 1)) rfl) ?_
  refine mm_fc (ss_iload_n hx hb (by decide +kernel : decode cX12_isFeud 12 = .ok (.iload_n 2, 1)) rfl) ?_
  refine mm_fc (ss_callV X rfl rfl wd_8_129 wd_1_13 wd_8_126 wd_8_128 wd_p_92 (by decide +kernel) (by decide +kernel) (by decide) (by decide +kernel : decode cX12_isFeud 13 = .ok (.invokevirtual 438, 3))) ?_
  refine mm_fc (ss_aload_n hx hb (by decide +kernel : decode cX12_isFeud 16 = .ok (.aload_n 0, 1)) rfl) ?_
  refine mm_fc (ss_iload_n hx hb (by decide +kernel : decode cX12_isFeud 17 = .ok (.iload_n 2, 1)) rfl) ?_
  refine mm_fc (ss_iload_n hx hb (by decide +kernel : decode cX12_isFeud 18 = .ok (.iload_n 1, 1)) rfl) ?_
  refine mm_fc (ss_callV X rfl rfl wd_8_129 wd_1_13 wd_8_126 wd_8_128 wd_p_92 (by decide +kernel) (by decide +kernel) (by decide) (by decide +kernel : decode cX12_isFeud 19 = .ok (.invokevirtual 438, 3))) ?_
  refine mm_fc (ss_iadd hx hb (by decide +kernel : decode cX12_isFeud 22 = .ok (.iadd, 1))) ?_
  refine mm_fc (ss_bipush hx hb (by decide +kernel : decode cX12_isFeud 23 = .ok (.bipush 6, 2)) (by decide)) ?_
  refine mm_fc (ss_icmpge hx hb (by decide +kernel : decode cX12_isFeud 25 = .ok (.if_icmp .ge 7, 3)) (by decide)) ?_
  refine mm_fc (ss_iconst hx hb (by decide +kernel : decode cX12_isFeud 28 = .ok (.iconst 1, 1)) (by decide)) ?_
  refine mm_fc (ss_goto hx hb (by decide +kernel : decode cX12_isFeud 29 = .ok (.goto 4, 3)) (by decide)) ?_
  refine mm_fc (ss_iconst hx hb (by decide +kernel : decode cX12_isFeud 32 = .ok (.iconst 0, 1)) (by decide)) ?_
  refine mm_fc (ss_zret (by decide +kernel : decode cX12_isFeud 33 = .ok (.ireturn, 1)) rfl) ?_
  refine mm_fc (ss_aload_n hx hb (by decide +kernel : decode cX12_isFeud 34 = .ok (.aload_n 0, 1)) rfl) ?_
  refine mm_fc (ss_aload_n hx hb (by decide +kernel : decode cX12_isFeud 35 = .ok (.aload_n 0, 1)) rfl) ?_
  refine mm_fc (ss_iload_n hx hb (by decide +kernel : decode cX12_isFeud 36 = .ok (.iload_n 2, 1)) rfl) ?_
  refine mm_fc (ss_callV X rfl rfl wd_8_133 wd_1_13 wd_8_130 wd_8_132 wd_p_93 (by decide +kernel) (by decide +kernel) (by decide) (by decide +kernel : decode cX12_isFeud 37 = .ok (.invokevirtual 426, 3))) ?_
  refine mm_fc (ss_putI X rfl in_X12 tyX12_ok nmX12 (by decide) rfl rfl rfl rfl wd_6_103 (by decide +kernel : decode cX12_isFeud 40 = .ok (.putfield 429, 3))) ?_
  refine mm_fc (ss_aload_n hx hb (by decide +kernel : decode cX12_isFeud 43 = .ok (.aload_n 0, 1)) rfl) ?_
  refine mm_fc (ss_aload_n hx hb (by decide +kernel : decode cX12_isFeud 44 = .ok (.aload_n 0, 1)) rfl) ?_
  refine mm_fc (ss_iload_n hx hb (by decide +kernel : decode cX12_isFeud 45 = .ok (.iload_n 1, 1)) rfl) ?_
  refine mm_fc (ss_callV X rfl rfl wd_8_137 wd_1_13 wd_8_134 wd_8_136 wd_p_94 (by decide +kernel) (by decide +kernel) (by decide) (by decide +kernel : decode cX12_isFeud 46 = .ok (.invokevirtual 432, 3))) ?_
  refine mm_fc (ss_putI X rfl in_X12 tyX12_ok nmX12 (by decide) rfl rfl rfl rfl wd_6_104 (by decide +kernel : decode cX12_isFeud 49 = .ok (.putfield 435, 3))) ?_
  refine mm_fc (ss_aload_n hx hb (by decide +kernel : decode cX12_isFeud 52 = .ok (.aload_n 0, 1)) rfl) ?_
  refine mm_fc (ss_aload_n hx hb (by decide +kernel : decode cX12_isFeud 53 = .ok (.aload_n 0, 1)) rfl) ?_
  refine mm_fc (ss_iload_n hx hb (by decide +kernel : decode cX12_isFeud 54 = .ok (.iload_n 1, 1)) rfl) ?_
  refine mm_fc (ss_iload_n hx hb (by decide +kernel : decode cX12_isFeud 55 = .ok (.iload_n 2, 1)) rfl) ?_
  refine mm_fc (ss_callV X rfl rfl wd_8_129 wd_1_13 wd_8_126 wd_8_128 wd_p_92 (by decide +kernel) (by decide +kernel) (by decide) (by decide +kernel : decode cX12_isFeud 56 = .ok (.invokevirtual 438, 3))) ?_
  refine mm_fc (ss_putI X rfl in_X12 tyX12_ok nmX12 (by decide) rfl rfl rfl rfl wd_6_105 (by decide +kernel : decode cX12_isFeud 59 = .ok (.putfield 441, 3))) ?_
  refine mm_fc (ss_aload_n hx hb (by decide +kernel : decode cX12_isFeud 62 = .ok (.aload_n 0, 1)) rfl) ?_
  refine mm_fc (ss_aload_n hx hb (by decide +kernel : decode cX12_isFeud 63 = .ok (.aload_n 0, 1)) rfl) ?_
  refine mm_fc (ss_iload_n hx hb (by decide +kernel : decode cX12_isFeud 64 = .ok (.iload_n 2, 1)) rfl) ?_
  refine mm_fc (ss_iload_n hx hb (by decide +kernel : decode cX12_isFeud 65 = .ok (.iload_n 1, 1)) rfl) ?_
  refine mm_fc (ss_callV X rfl rfl wd_8_129 wd_1_13 wd_8_126 wd_8_128 wd_p_92 (by decide +kernel) (by decide +kernel) (by decide) (by decide +kernel : decode cX12_isFeud 66 = .ok (.invokevirtual 438, 3))) ?_
  refine mm_fc (ss_putI X rfl in_X12 tyX12_ok nmX12 (by decide) rfl rfl rfl rfl wd_6_109 (by decide +kernel : decode cX12_isFeud 69 = .ok (.putfield 461, 3))) ?_
  refine mm_fc (ss_aload_n hx hb (by decide +kernel : decode cX12_isFeud 72 = .ok (.aload_n 0, 1)) rfl) ?_
  refine mm_fc (ss_iconst hx hb (by decide +kernel : decode cX12_isFeud 73 = .ok (.iconst 2, 1)) (by decide)) ?_
  refine mm_fc (ss_callV X rfl rfl wd_8_141 wd_1_13 wd_8_138 wd_8_140 wd_p_95 (by decide +kernel) (by decide +kernel) (by decide) (by decide +kernel : decode cX12_isFeud 74 = .ok (.invokevirtual 450, 3))) ?_
  refine mm_fc (ss_lconst hx hb (by decide +kernel : decode cX12_isFeud 77 = .ok (.lconst 1, 1)) (by decide)) ?_
  refine mm_fc (ss_lcmp hx hb (by decide +kernel : decode cX12_isFeud 78 = .ok (.lcmp, 1))) ?_
  refine mm_fc (ss_ifne hx hb (by decide +kernel : decode cX12_isFeud 79 = .ok (.ifCond .ne 7, 3)) (by decide)) ?_
  refine mm_fc (ss_iconst hx hb (by decide +kernel : decode cX12_isFeud 82 = .ok (.iconst 1, 1)) (by decide)) ?_
  refine mm_fc (ss_goto hx hb (by decide +kernel : decode cX12_isFeud 83 = .ok (.goto 4, 3)) (by decide)) ?_
  refine mm_fc (ss_iconst hx hb (by decide +kernel : decode cX12_isFeud 86 = .ok (.iconst 0, 1)) (by decide)) ?_
  refine mm_fc (ss_zret (by decide +kernel : decode cX12_isFeud 87 = .ok (.ireturn, 1)) rfl) ?_
  exact mm_fn
def cd_X12_isKept : mm_K mm_H := [(0, s_aload 0 1), (1, s_get 12 64 4), (4, s_if (fun x => x = 0) 8 7), (7, s_vret), (8, s_aload 0 9), (9, s_get 12 55 12), (12, s_pushI 89 14), (14, s_iald 15), (15, s_pushI 40 17), (17, s_icmp (fun x y => ¬ x = y) 53 20), (20, s_pushI 90 22), (22, s_istore 3 23), (23, s_iload 3 24), (24, s_pushI 207 27), (27, s_icmp (fun x y => y ≤ x) 50 30), (30, s_aload 0 31), (31, s_get 12 55 34), (34, s_iload 3 35), (35, s_aload 0 36), (36, s_get 12 55 39), (39, s_iload 3 40), (40, s_pushI 3 41), (41, s_bin (fun x y => x + y) 42), (42, s_iald 43), (43, s_iast 44), (44, s_iinc 3 1 47), (47, s_goto 23), (50, s_goto 64), (53, s_aload 0 54), (54, s_get 12 55 57), (57, s_pushI 89 59), (59, s_dup2 60), (60, s_iald 61), (61, s_pushI 1 62), (62, s_bin (fun x y => x + y) 63), (63, s_iast 64), (64, s_pushI 90 66), (66, s_pushI 3 67), (67, s_aload 0 68), (68, s_get 12 55 71), (71, s_pushI 89 73), (73, s_iald 74), (74, s_bin (fun x y => x * y) 75), (75, s_bin (fun x y => x + y) 76), (76, s_pushI 3 77), (77, s_bin (fun x y => x - y) 78), (78, s_istore 3 79), (79, s_aload 0 80), (80, s_get 12 55 83), (83, s_iload 3 84), (84, s_aload 0 85), (85, s_get 12 55 88), (88, s_pushI 0 89), (89, s_iald 90), (90, s_iast 91), (91, s_aload 0 92), (92, s_get 12 55 95), (95, s_iload 3 96), (96, s_pushI 1 97), (97, s_bin (fun x y => x + y) 98), (98, s_iload 1 99), (99, s_iast 100), (100, s_aload 0 101), (101, s_get 12 55 104), (104, s_iload 3 105), (105, s_pushI 2 106), (106, s_bin (fun x y => x + y) 107), (107, s_iload 2 108), (108, s_iast 109), (109, s_vret)]
set_option maxRecDepth 100000 in
set_option maxHeartbeats 4000000 in
theorem ok_X12_isKept (l : Launch) : mm_CodeOK l mm_I0 RX12 cX12_isKept 4 none cd_X12_isKept := by
  intro p e R s m args below meth c Q σ cA D A kc ks d C X
  have hx := X.1
  have hb := X.2.1
  have hown := X.2.2.2.1
  have hts := X.2.2.2.2.1
  refine mm_fc (ss_aload_n hx hb (by decide +kernel : decode cX12_isKept 0 = .ok (.aload_n 0, 1)) rfl) ?_
  refine mm_fc (ss_get X rfl in_X12 (by decide) rfl wd_6_110 (by decide +kernel : decode cX12_isKept 1 = .ok (.getfield 464, 3))) ?_
  refine mm_fc (ss_ifeq hx hb (by decide +kernel : decode cX12_isKept 4 = .ok (.ifCond .eq 4, 3)) (by decide)) ?_
  refine mm_fc (ss_vret (by decide +kernel : decode cX12_isKept 7 = .ok (.return_, 1)) rfl) ?_
  refine mm_fc (ss_aload_n hx hb (by decide +kernel : decode cX12_isKept 8 = .ok (.aload_n 0, 1)) rfl) ?_
  refine mm_fc (ss_get X rfl in_X12 (by decide) rfl wd_6_101 (by decide +kernel : decode cX12_isKept 9 = .ok (.getfield 121, 3))) ?_
  refine mm_fc (ss_bipush hx hb (by decide +kernel : decode cX12_isKept 12 = .ok (.bipush 89, 2)) (by decide)) ?_
  refine mm_fc (ss_iald X (by decide +kernel : decode cX12_isKept 14 = .ok (.iaload, 1))) ?_
  refine mm_fc (ss_bipush hx hb (by decide +kernel : decode cX12_isKept 15 = .ok (.bipush 40, 2)) (by decide)) ?_
  refine mm_fc (ss_icmpne hx hb (by decide +kernel : decode cX12_isKept 17 = .ok (.if_icmp .ne 36, 3)) (by decide)) ?_
  refine mm_fc (ss_bipush hx hb (by decide +kernel : decode cX12_isKept 20 = .ok (.bipush 90, 2)) (by decide)) ?_
  refine mm_fc (ss_istore_n hx hb (by decide +kernel : decode cX12_isKept 22 = .ok (.istore_n 3, 1)) rfl (by decide)) ?_
  refine mm_fc (ss_iload_n hx hb (by decide +kernel : decode cX12_isKept 23 = .ok (.iload_n 3, 1)) rfl) ?_
  refine mm_fc (ss_sipush hx hb (by decide +kernel : decode cX12_isKept 24 = .ok (.sipush 207, 3)) (by decide)) ?_
  refine mm_fc (ss_icmpge hx hb (by decide +kernel : decode cX12_isKept 27 = .ok (.if_icmp .ge 23, 3)) (by decide)) ?_
  refine mm_fc (ss_aload_n hx hb (by decide +kernel : decode cX12_isKept 30 = .ok (.aload_n 0, 1)) rfl) ?_
  refine mm_fc (ss_get X rfl in_X12 (by decide) rfl wd_6_101 (by decide +kernel : decode cX12_isKept 31 = .ok (.getfield 121, 3))) ?_
  refine mm_fc (ss_iload_n hx hb (by decide +kernel : decode cX12_isKept 34 = .ok (.iload_n 3, 1)) rfl) ?_
  refine mm_fc (ss_aload_n hx hb (by decide +kernel : decode cX12_isKept 35 = .ok (.aload_n 0, 1)) rfl) ?_
  refine mm_fc (ss_get X rfl in_X12 (by decide) rfl wd_6_101 (by decide +kernel : decode cX12_isKept 36 = .ok (.getfield 121, 3))) ?_
  refine mm_fc (ss_iload_n hx hb (by decide +kernel : decode cX12_isKept 39 = .ok (.iload_n 3, 1)) rfl) ?_
  refine mm_fc (ss_iconst hx hb (by decide +kernel : decode cX12_isKept 40 = .ok (.iconst 3, 1)) (by decide)) ?_
  refine mm_fc (ss_iadd hx hb (by decide +kernel : decode cX12_isKept 41 = .ok (.iadd, 1))) ?_
  refine mm_fc (ss_iald X (by decide +kernel : decode cX12_isKept 42 = .ok (.iaload, 1))) ?_
  refine mm_fc (ss_iast X (by decide +kernel : decode cX12_isKept 43 = .ok (.iastore, 1))) ?_
  refine mm_fc (ss_iinc hx hb (by decide +kernel : decode cX12_isKept 44 = .ok (.iinc 3 1, 3)) (by decide) (by decide)) ?_
  refine mm_fc (ss_goto hx hb (by decide +kernel : decode cX12_isKept 47 = .ok (.goto (-24), 3)) (by decide)) ?_
  refine mm_fc (ss_goto hx hb (by decide +kernel : decode cX12_isKept 50 = .ok (.goto 14, 3)) (by decide)) ?_
  refine mm_fc (ss_aload_n hx hb (by decide +kernel : decode cX12_isKept 53 = .ok (.aload_n 0, 1)) rfl) ?_
  refine mm_fc (ss_get X rfl in_X12 (by decide) rfl wd_6_101 (by decide +kernel : decode cX12_isKept 54 = .ok (.getfield 121, 3))) ?_
  refine mm_fc (ss_bipush hx hb (by decide +kernel : decode cX12_isKept 57 = .ok (.bipush 89, 2)) (by decide)) ?_
  refine mm_fc (ss_dup2 hx hb (by decide +kernel : decode cX12_isKept 59 = .ok (.dup2, 1))) ?_
  refine mm_fc (ss_iald X (by decide +kernel : decode cX12_isKept 60 = .ok (.iaload, 1))) ?_
  refine mm_fc (ss_iconst hx hb (by decide +kernel : decode cX12_isKept 61 = .ok (.iconst 1, 1)) (by decide)) ?_
  refine mm_fc (ss_iadd hx hb (by decide +kernel : decode cX12_isKept 62 = .ok (.iadd, 1))) ?_
  refine mm_fc (ss_iast X (by decide +kernel : decode cX12_isKept 63 = .ok (.iastore, 1))) ?_
  refine mm_fc (ss_bipush hx hb (by decide +kernel : decode cX12_isKept 64 = .ok (.bipush 90, 2)) (by decide)) ?_
  refine mm_fc (ss_iconst hx hb (by decide +kernel : decode cX12_isKept 66 = .ok (.iconst 3, 1)) (by decide)) ?_
  refine mm_fc (ss_aload_n hx hb (by decide +kernel : decode cX12_isKept 67 = .ok (.aload_n 0, 1)) rfl) ?_
  refine mm_fc (ss_get X rfl in_X12 (by decide) rfl wd_6_101 (by decide +kernel : decode cX12_isKept 68 = .ok (.getfield 121, 3))) ?_
  refine mm_fc (ss_bipush hx hb (by decide +kernel : decode cX12_isKept 71 = .ok (.bipush 89, 2)) (by decide)) ?_
  refine mm_fc (ss_iald X (by decide +kernel : decode cX12_isKept 73 = .ok (.iaload, 1))) ?_
  refine mm_fc (ss_imul hx hb (by decide +kernel : decode cX12_isKept 74 = .ok (.imul, 1))) ?_
  refine mm_fc (ss_iadd hx hb (by decide +kernel : decode cX12_isKept 75 = .ok (.iadd, 1))) ?_
  refine mm_fc (ss_iconst hx hb (by decide +kernel : decode cX12_isKept 76 = .ok (.iconst 3, 1)) (by decide)) ?_
  refine mm_fc (ss_isub hx hb (by decide +kernel : decode cX12_isKept 77 = .ok (.isub, 1))) ?_
  refine mm_fc (ss_istore_n hx hb (by decide +kernel : decode cX12_isKept 78 = .ok (.istore_n 3, 1)) rfl (by decide)) ?_
  refine mm_fc (ss_aload_n hx hb (by decide +kernel : decode cX12_isKept 79 = .ok (.aload_n 0, 1)) rfl) ?_
  refine mm_fc (ss_get X rfl in_X12 (by decide) rfl wd_6_101 (by decide +kernel : decode cX12_isKept 80 = .ok (.getfield 121, 3))) ?_
  refine mm_fc (ss_iload_n hx hb (by decide +kernel : decode cX12_isKept 83 = .ok (.iload_n 3, 1)) rfl) ?_
  refine mm_fc (ss_aload_n hx hb (by decide +kernel : decode cX12_isKept 84 = .ok (.aload_n 0, 1)) rfl) ?_
  refine mm_fc (ss_get X rfl in_X12 (by decide) rfl wd_6_101 (by decide +kernel : decode cX12_isKept 85 = .ok (.getfield 121, 3))) ?_
  refine mm_fc (ss_iconst hx hb (by decide +kernel : decode cX12_isKept 88 = .ok (.iconst 0, 1)) (by decide)) ?_
  refine mm_fc (ss_iald X (by decide +kernel : decode cX12_isKept 89 = .ok (.iaload, 1))) ?_
  refine mm_fc (ss_iast X (by decide +kernel : decode cX12_isKept 90 = .ok (.iastore, 1))) ?_
  refine mm_fc (ss_aload_n hx hb (by decide +kernel : decode cX12_isKept 91 = .ok (.aload_n 0, 1)) rfl) ?_
  refine mm_fc (ss_get X rfl in_X12 (by decide) rfl wd_6_101 (by decide +kernel : decode cX12_isKept 92 = .ok (.getfield 121, 3))) ?_
  refine mm_fc (ss_iload_n hx hb (by decide +kernel : decode cX12_isKept 95 = .ok (.iload_n 3, 1)) rfl) ?_
  refine mm_fc (ss_iconst hx hb (by decide +kernel : decode cX12_isKept 96 = .ok (.iconst 1, 1)) (by decide)) ?_
  refine mm_fc (ss_iadd hx hb (by decide +kernel : decode cX12_isKept 97 = .ok (.iadd, 1))) ?_
  refine mm_fc (ss_iload_n hx hb (by decide +kernel : decode cX12_isKept 98 = .ok (.iload_n 1, 1)) rfl) ?_
  refine mm_fc (ss_iast X (by decide +kernel : decode cX12_isKept 99 = .ok (.iastore, 1))) ?_
  refine mm_fc (ss_aload_n hx hb (by decide +kernel : decode cX12_isKept 100 = .ok (.aload_n 0, 1)) rfl) ?_
  refine mm_fc (ss_get X rfl in_X12 (by decide) rfl wd_6_101 (by decide +kernel : decode cX12_isKept 101 = .ok (.getfield 121, 3))) ?_
  refine mm_fc (ss_iload_n hx hb (by decide +kernel : decode cX12_isKept 104 = .ok (.iload_n 3, 1)) rfl) ?_
  refine mm_fc (ss_iconst hx hb (by decide +kernel : decode cX12_isKept 105 = .ok (.iconst 2, 1)) (by decide)) ?_
  refine mm_fc (ss_iadd hx hb (by decide +kernel : decode cX12_isKept 106 = .ok (.iadd, 1))) ?_
  refine mm_fc (ss_iload_n hx hb (by decide +kernel : decode cX12_isKept 107 = .ok (.iload_n 2, 1)) rfl) ?_
  refine mm_fc (ss_iast X (by decide +kernel : decode cX12_isKept 108 = .ok (.iastore, 1))) ?_
  refine mm_fc (ss_vret (by decide +kernel : decode cX12_isKept 109 = .ok (.return_, 1)) rfl) ?_
  exact mm_fn
def cd_X12_stroke : mm_K mm_H := [(0, s_aload 0 1), (1, s_iload 1 2), (2, s_iload 2 3), (3, s_callV 12 225 2 1 6), (6, s_istore 3 7), (7, s_iload 3 8), (8, s_pushI (-1) 9), (9, s_icmp (fun x y => x = y) 20 12), (12, s_aload 0 13), (13, s_iload 3 14), (14, s_callV 12 220 1 1 17), (17, s_if (fun x => x = 0) 21 20), (20, s_vret), (21, s_aload 0 22), (22, s_iload 1 23), (23, s_callV 12 219 1 1 26), (26, s_istore 4 28), (28, s_aload 0 29), (29, s_iload 1 30), (30, s_iload 3 31), (31, s_iload 2 32), (32, s_callV 12 228 3 1 35), (35, s_istore 5 37), (37, s_aload 0 38), (38, s_get 12 55 41), (41, s_pushI 2 42), (42, s_pushI 3 43), (43, s_iload 1 44), (44, s_bin (fun x y => x * y) 45), (45, s_bin (fun x y => x + y) 46), (46, s_iload 5 48), (48, s_iast 49), (49, s_iload 5 51), (51, s_if (fun x => ¬ x = 0) 75 54), (54, s_iload 4 56), (56, s_if (fun x => x ≤ 0) 75 59), (59, s_aload 0 60), (60, s_dup 61), (61, s_get 12 65 64), (64, s_pushI 1 65), (65, s_bin (fun x y => x + y) 66), (66, s_putI 12 65 69), (69, s_aload 0 70), (70, s_iload 1 71), (71, s_iload 3 72), (72, s_callV 12 231 2 0 75), (75, s_aload 0 76), (76, s_get 12 55 79), (79, s_pushI 25 81), (81, s_pushI 8 83), (83, s_iload 1 84), (84, s_bin (fun x y => x * y) 85), (85, s_bin (fun x y => x + y) 86), (86, s_iload 3 87), (87, s_bin (fun x y => x + y) 88), (88, s_aload 0 89), (89, s_iload 1 90), (90, s_iload 3 91), (91, s_iload 5 93), (93, s_iload 4 95), (95, s_bin (fun x y => x - y) 96), (96, s_callV 12 229 3 1 99), (99, s_iast 100), (100, s_vret)]
set_option maxRecDepth 100000 in
set_option maxHeartbeats 4000000 in
theorem ok_X12_stroke (l : Launch) : mm_CodeOK l mm_I0 RX12 cX12_stroke 6 none cd_X12_stroke := by
  intro p e R s m args below meth c Q σ cA D A kc ks d C X
  have hx := X.1
  have hb := X.2.1
  have hown := X.2.2.2.1
  have hts := X.2.2.2.2.1
  refine mm_fc (ss_aload_n hx hb (by decide +kernel : decode cX12_stroke 0 = .ok (.aload_n 0, 1)) rfl) ?_
  refine mm_fc (ss_iload_n hx hb (by decide +kernel : decode cX12_stroke 1 = .ok (.iload_n 1, 1)) rfl) ?_
  refine mm_fc (ss_iload_n hx hb (by decide +kernel : decode cX12_stroke 2 = .ok (.iload_n 2, 1)) rfl) ?_
  refine mm_fc (ss_callV X rfl rfl wd_8_190 wd_1_13 wd_8_187 wd_8_189 wd_p_102 (by decide +kernel) (by decide +kernel) (by decide) (by decide +kernel : decode cX12_stroke 3 = .ok (.invokevirtual 467, 3))) ?_
  refine mm_fc (ss_istore_n hx hb (by decide +kernel : decode cX12_stroke 6 = .ok (.istore_n 3, 1)) rfl (by decide)) ?_
  refine mm_fc (ss_iload_n hx hb (by decide +kernel : decode cX12_stroke 7 = .ok (.iload_n 3, 1)) rfl) ?_
  refine mm_fc (ss_iconst hx hb (by decide +kernel : decode cX12_stroke 8 = .ok (.iconst (-1), 1)) (by decide)) ?_
  refine mm_fc (ss_icmpeq hx hb (by decide +kernel : decode cX12_stroke 9 = .ok (.if_icmp .eq 11, 3)) (by decide)) ?_
  refine mm_fc (ss_aload_n hx hb (by decide +kernel : decode cX12_stroke 12 = .ok (.aload_n 0, 1)) rfl) ?_
  refine mm_fc (ss_iload_n hx hb (by decide +kernel : decode cX12_stroke 13 = .ok (.iload_n 3, 1)) rfl) ?_
  refine mm_fc (ss_callV X rfl rfl wd_8_105 wd_1_13 wd_8_102 wd_8_104 wd_p_86 (by decide +kernel) (by decide +kernel) (by decide) (by decide +kernel : decode cX12_stroke 14 = .ok (.invokevirtual 470, 3))) ?_
  refine mm_fc (ss_ifeq hx hb (by decide +kernel : decode cX12_stroke 17 = .ok (.ifCond .eq 4, 3)) (by decide)) ?_
  refine mm_fc (ss_vret (by decide +kernel : decode cX12_stroke 20 = .ok (.return_, 1)) rfl) ?_
  refine mm_fc (ss_aload_n hx hb (by decide +kernel : decode cX12_stroke 21 = .ok (.aload_n 0, 1)) rfl) ?_
  refine mm_fc (ss_iload_n hx hb (by decide +kernel : decode cX12_stroke 22 = .ok (.iload_n 1, 1)) rfl) ?_
  refine mm_fc (ss_callV X rfl rfl wd_8_97 wd_1_13 wd_8_94 wd_8_96 wd_p_84 (by decide +kernel) (by decide +kernel) (by decide) (by decide +kernel : decode cX12_stroke 23 = .ok (.invokevirtual 423, 3))) ?_
  refine mm_fc (ss_istore hx hb (by decide +kernel : decode cX12_stroke 26 = .ok (.istore 4, 2)) (by decide)) ?_
  refine mm_fc (ss_aload_n hx hb (by decide +kernel : decode cX12_stroke 28 = .ok (.aload_n 0, 1)) rfl) ?_
  refine mm_fc (ss_iload_n hx hb (by decide +kernel : decode cX12_stroke 29 = .ok (.iload_n 1, 1)) rfl) ?_
  refine mm_fc (ss_iload_n hx hb (by decide +kernel : decode cX12_stroke 30 = .ok (.iload_n 3, 1)) rfl) ?_
  refine mm_fc (ss_iload_n hx hb (by decide +kernel : decode cX12_stroke 31 = .ok (.iload_n 2, 1)) rfl) ?_
  refine mm_fc (ss_callV X rfl rfl wd_8_210 wd_1_13 wd_8_207 wd_8_209 wd_p_105 (by decide +kernel) (by decide +kernel) (by decide) (by decide +kernel : decode cX12_stroke 32 = .ok (.invokevirtual 473, 3))) ?_
  refine mm_fc (ss_istore hx hb (by decide +kernel : decode cX12_stroke 35 = .ok (.istore 5, 2)) (by decide)) ?_
  refine mm_fc (ss_aload_n hx hb (by decide +kernel : decode cX12_stroke 37 = .ok (.aload_n 0, 1)) rfl) ?_
  refine mm_fc (ss_get X rfl in_X12 (by decide) rfl wd_6_101 (by decide +kernel : decode cX12_stroke 38 = .ok (.getfield 121, 3))) ?_
  refine mm_fc (ss_iconst hx hb (by decide +kernel : decode cX12_stroke 41 = .ok (.iconst 2, 1)) (by decide)) ?_
  refine mm_fc (ss_iconst hx hb (by decide +kernel : decode cX12_stroke 42 = .ok (.iconst 3, 1)) (by decide)) ?_
  refine mm_fc (ss_iload_n hx hb (by decide +kernel : decode cX12_stroke 43 = .ok (.iload_n 1, 1)) rfl) ?_
  refine mm_fc (ss_imul hx hb (by decide +kernel : decode cX12_stroke 44 = .ok (.imul, 1))) ?_
  refine mm_fc (ss_iadd hx hb (by decide +kernel : decode cX12_stroke 45 = .ok (.iadd, 1))) ?_
  refine mm_fc (ss_iload hx hb (by decide +kernel : decode cX12_stroke 46 = .ok (.iload 5, 2))) ?_
  refine mm_fc (ss_iast X (by decide +kernel : decode cX12_stroke 48 = .ok (.iastore, 1))) ?_
  refine mm_fc (ss_iload hx hb (by decide +kernel : decode cX12_stroke 49 = .ok (.iload 5, 2))) ?_
  refine mm_fc (ss_ifne hx hb (by decide +kernel : decode cX12_stroke 51 = .ok (.ifCond .ne 24, 3)) (by decide)) ?_
  refine mm_fc (ss_iload hx hb (by decide +kernel : decode cX12_stroke 54 = .ok (.iload 4, 2))) ?_
  refine mm_fc (ss_ifle hx hb (by decide +kernel : decode cX12_stroke 56 = .ok (.ifCond .le 19, 3)) (by decide)) ?_
  refine mm_fc (ss_aload_n hx hb (by decide +kernel : decode cX12_stroke 59 = .ok (.aload_n 0, 1)) rfl) ?_
  refine mm_fc (ss_dup hx hb (by decide +kernel : decode cX12_stroke 60 = .ok (.dup, 1))) ?_
  refine mm_fc (ss_get X rfl in_X12 (by decide) rfl wd_6_111 (by decide +kernel : decode cX12_stroke 61 = .ok (.getfield 477, 3))) ?_
  refine mm_fc (ss_iconst hx hb (by decide +kernel : decode cX12_stroke 64 = .ok (.iconst 1, 1)) (by decide)) ?_
  refine mm_fc (ss_iadd hx hb (by decide +kernel : decode cX12_stroke 65 = .ok (.iadd, 1))) ?_
  refine mm_fc (ss_putI X rfl in_X12 tyX12_ok nmX12 (by decide) rfl rfl rfl rfl wd_6_111 (by decide +kernel : decode cX12_stroke 66 = .ok (.putfield 477, 3))) ?_
  refine mm_fc (ss_aload_n hx hb (by decide +kernel : decode cX12_stroke 69 = .ok (.aload_n 0, 1)) rfl) ?_
  refine mm_fc (ss_iload_n hx hb (by decide +kernel : decode cX12_stroke 70 = .ok (.iload_n 1, 1)) rfl) ?_
  refine mm_fc (ss_iload_n hx hb (by decide +kernel : decode cX12_stroke 71 = .ok (.iload_n 3, 1)) rfl) ?_
  refine mm_fc (ss_callV X rfl rfl wd_9_10 wd_1_13 wd_9_7 wd_9_9 wd_p_111 (by decide +kernel) (by decide +kernel) (by decide) (by decide +kernel : decode cX12_stroke 72 = .ok (.invokevirtual 480, 3))) ?_
  refine mm_fc (ss_aload_n hx hb (by decide +kernel : decode cX12_stroke 75 = .ok (.aload_n 0, 1)) rfl) ?_
  refine mm_fc (ss_get X rfl in_X12 (by decide) rfl wd_6_101 (by decide +kernel : decode cX12_stroke 76 = .ok (.getfield 121, 3))) ?_
  refine mm_fc (ss_bipush hx hb (by decide +kernel : decode cX12_stroke 79 = .ok (.bipush 25, 2)) (by decide)) ?_
  refine mm_fc (ss_bipush hx hb (by decide +kernel : decode cX12_stroke 81 = .ok (.bipush 8, 2)) (by decide)) ?_
  refine mm_fc (ss_iload_n hx hb (by decide +kernel : decode cX12_stroke 83 = .ok (.iload_n 1, 1)) rfl) ?_
  refine mm_fc (ss_imul hx hb (by decide +kernel : decode cX12_stroke 84 = .ok (.imul, 1))) ?_
  refine mm_fc (ss_iadd hx hb (by decide +kernel : decode cX12_stroke 85 = .ok (.iadd, 1))) ?_
  refine mm_fc (ss_iload_n hx hb (by decide +kernel : decode cX12_stroke 86 = .ok (.iload_n 3, 1)) rfl) ?_
  refine mm_fc (ss_iadd hx hb (by decide +kernel : decode cX12_stroke 87 = .ok (.iadd, 1))) ?_
  refine mm_fc (ss_aload_n hx hb (by decide +kernel : decode cX12_stroke 88 = .ok (.aload_n 0, 1)) rfl) ?_
  refine mm_fc (ss_iload_n hx hb (by decide +kernel : decode cX12_stroke 89 = .ok (.iload_n 1, 1)) rfl) ?_
  refine mm_fc (ss_iload_n hx hb (by decide +kernel : decode cX12_stroke 90 = .ok (.iload_n 3, 1)) rfl) ?_
  refine mm_fc (ss_iload hx hb (by decide +kernel : decode cX12_stroke 91 = .ok (.iload 5, 2))) ?_
  refine mm_fc (ss_iload hx hb (by decide +kernel : decode cX12_stroke 93 = .ok (.iload 4, 2))) ?_
  refine mm_fc (ss_isub hx hb (by decide +kernel : decode cX12_stroke 95 = .ok (.isub, 1))) ?_
  refine mm_fc (ss_callV X rfl rfl wd_9_14 wd_1_13 wd_9_11 wd_9_13 wd_p_112 (by decide +kernel) (by decide +kernel) (by decide) (by decide +kernel : decode cX12_stroke 96 = .ok (.invokevirtual 483, 3))) ?_
  refine mm_fc (ss_iast X (by decide +kernel : decode cX12_stroke 99 = .ok (.iastore, 1))) ?_
  refine mm_fc (ss_vret (by decide +kernel : decode cX12_stroke 100 = .ok (.return_, 1)) rfl) ?_
  exact mm_fn
def cd_X12_yearGoes : mm_K mm_H := [(0, s_pushI 0 1), (1, s_kill 2 [2] (s_istore 1 2)), (2, s_iload 1 3), (3, s_aload 0 4), (4, s_get 12 38 7), (7, s_icmp (fun x y => y ≤ x) 42 10), (10, s_aload 0 11), (11, s_iload 1 12), (12, s_callV 12 224 1 1 15), (15, s_istore 2 16), (16, s_iload 2 17), (17, s_pushI (-1) 18), (18, s_icmp (fun x y => ¬ x = y) 24 21), (21, s_goto 36), (24, s_aload 0 25), (25, s_iload 2 26), (26, s_pushI 0 27), (27, s_callV 12 232 2 0 30), (30, s_aload 0 31), (31, s_iload 2 32), (32, s_pushI 1 33), (33, s_callV 12 232 2 0 36), (36, s_iinc 1 1 39), (39, s_kill 2 [2] (s_goto 2)), (42, s_aload 0 43), (43, s_get 12 55 46), (46, s_pushI 0 47), (47, s_dup2 48), (48, s_iald 49), (49, s_pushI 1 50), (50, s_bin (fun x y => x + y) 51), (51, s_iast 52), (52, s_vret)]
set_option maxRecDepth 100000 in
set_option maxHeartbeats 4000000 in
theorem ok_X12_yearGoes (l : Launch) : mm_CodeOK l mm_I0 RX12 cX12_yearGoes 3 none cd_X12_yearGoes := by
  intro p e R s m args below meth c Q σ cA D A kc ks d C X
  have hx := X.1
  have hb := X.2.1
  have hown := X.2.2.2.1
  have hts := X.2.2.2.2.1
  refine mm_fc (ss_iconst hx hb (by decide +kernel : decode cX12_yearGoes 0 = .ok (.iconst 0, 1)) (by decide)) ?_
  refine mm_fc (ss_kill (ss_istore_n hx hb (by decide +kernel : decode cX12_yearGoes 1 = .ok (.istore_n 1, 1)) rfl (by decide))) ?_
  refine mm_fc (ss_iload_n hx hb (by decide +kernel : decode cX12_yearGoes 2 = .ok (.iload_n 1, 1)) rfl) ?_
  refine mm_fc (ss_aload_n hx hb (by decide +kernel : decode cX12_yearGoes 3 = .ok (.aload_n 0, 1)) rfl) ?_
  refine mm_fc (ss_get X rfl in_X12 (by decide) rfl wd_6_84 (by decide +kernel : decode cX12_yearGoes 4 = .ok (.getfield 379, 3))) ?_
  refine mm_fc (ss_icmpge hx hb (by decide +kernel : decode cX12_yearGoes 7 = .ok (.if_icmp .ge 35, 3)) (by decide)) ?_
  refine mm_fc (ss_aload_n hx hb (by decide +kernel : decode cX12_yearGoes 10 = .ok (.aload_n 0, 1)) rfl) ?_
  refine mm_fc (ss_iload_n hx hb (by decide +kernel : decode cX12_yearGoes 11 = .ok (.iload_n 1, 1)) rfl) ?_
  refine mm_fc (ss_callV X rfl rfl wd_8_117 wd_1_13 wd_8_114 wd_8_116 wd_p_89 (by decide +kernel) (by decide +kernel) (by decide) (by decide +kernel : decode cX12_yearGoes 12 = .ok (.invokevirtual 406, 3))) ?_
  refine mm_fc (ss_istore_n hx hb (by decide +kernel : decode cX12_yearGoes 15 = .ok (.istore_n 2, 1)) rfl (by decide)) ?_
  refine mm_fc (ss_iload_n hx hb (by decide +kernel : decode cX12_yearGoes 16 = .ok (.iload_n 2, 1)) rfl) ?_
  refine mm_fc (ss_iconst hx hb (by decide +kernel : decode cX12_yearGoes 17 = .ok (.iconst (-1), 1)) (by decide)) ?_
  refine mm_fc (ss_icmpne hx hb (by decide +kernel : decode cX12_yearGoes 18 = .ok (.if_icmp .ne 6, 3)) (by decide)) ?_
  refine mm_fc (ss_goto hx hb (by decide +kernel : decode cX12_yearGoes 21 = .ok (.goto 15, 3)) (by decide)) ?_
  refine mm_fc (ss_aload_n hx hb (by decide +kernel : decode cX12_yearGoes 24 = .ok (.aload_n 0, 1)) rfl) ?_
  refine mm_fc (ss_iload_n hx hb (by decide +kernel : decode cX12_yearGoes 25 = .ok (.iload_n 2, 1)) rfl) ?_
  refine mm_fc (ss_iconst hx hb (by decide +kernel : decode cX12_yearGoes 26 = .ok (.iconst 0, 1)) (by decide)) ?_
  refine mm_fc (ss_callV X rfl rfl wd_9_6 wd_1_13 wd_9_3 wd_9_5 wd_p_110 (by decide +kernel) (by decide +kernel) (by decide) (by decide +kernel : decode cX12_yearGoes 27 = .ok (.invokevirtual 486, 3))) ?_
  refine mm_fc (ss_aload_n hx hb (by decide +kernel : decode cX12_yearGoes 30 = .ok (.aload_n 0, 1)) rfl) ?_
  refine mm_fc (ss_iload_n hx hb (by decide +kernel : decode cX12_yearGoes 31 = .ok (.iload_n 2, 1)) rfl) ?_
  refine mm_fc (ss_iconst hx hb (by decide +kernel : decode cX12_yearGoes 32 = .ok (.iconst 1, 1)) (by decide)) ?_
  refine mm_fc (ss_callV X rfl rfl wd_9_6 wd_1_13 wd_9_3 wd_9_5 wd_p_110 (by decide +kernel) (by decide +kernel) (by decide) (by decide +kernel : decode cX12_yearGoes 33 = .ok (.invokevirtual 486, 3))) ?_
  refine mm_fc (ss_iinc hx hb (by decide +kernel : decode cX12_yearGoes 36 = .ok (.iinc 1 1, 3)) (by decide) (by decide)) ?_
  refine mm_fc (ss_kill (ss_goto hx hb (by decide +kernel : decode cX12_yearGoes 39 = .ok (.goto (-37), 3)) (by decide))) ?_
  refine mm_fc (ss_aload_n hx hb (by decide +kernel : decode cX12_yearGoes 42 = .ok (.aload_n 0, 1)) rfl) ?_
  refine mm_fc (ss_get X rfl in_X12 (by decide) rfl wd_6_101 (by decide +kernel : decode cX12_yearGoes 43 = .ok (.getfield 121, 3))) ?_
  refine mm_fc (ss_iconst hx hb (by decide +kernel : decode cX12_yearGoes 46 = .ok (.iconst 0, 1)) (by decide)) ?_
  refine mm_fc (ss_dup2 hx hb (by decide +kernel : decode cX12_yearGoes 47 = .ok (.dup2, 1))) ?_
  refine mm_fc (ss_iald X (by decide +kernel : decode cX12_yearGoes 48 = .ok (.iaload, 1))) ?_
  refine mm_fc (ss_iconst hx hb (by decide +kernel : decode cX12_yearGoes 49 = .ok (.iconst 1, 1)) (by decide)) ?_
  refine mm_fc (ss_iadd hx hb (by decide +kernel : decode cX12_yearGoes 50 = .ok (.iadd, 1))) ?_
  refine mm_fc (ss_iast X (by decide +kernel : decode cX12_yearGoes 51 = .ok (.iastore, 1))) ?_
  refine mm_fc (ss_vret (by decide +kernel : decode cX12_yearGoes 52 = .ok (.return_, 1)) rfl) ?_
  exact mm_fn
