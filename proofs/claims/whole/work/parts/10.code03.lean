def cd_X4_readPerson : mm_K mm_H := [(0, s_aload 1 1), (1, s_iload 2 2), (2, s_callV 8 126 1 1 5), (5, s_istore 4 7), (7, s_aload 1 8), (8, s_iload 2 9), (9, s_pushI 1 10), (10, s_bin (fun x y => x + y) 11), (11, s_callV 8 126 1 1 14), (14, s_istore 5 16), (16, s_aload 1 17), (17, s_iload 2 18), (18, s_pushI 2 19), (19, s_bin (fun x y => x + y) 20), (20, s_callV 8 126 1 1 23), (23, s_istore 6 25), (25, s_aload 0 26), (26, s_get 4 3 29), (29, s_iload 4 31), (31, s_callV 7 101 1 1 34), (34, s_if (fun x => x = 0) 63 37), (37, s_aload 0 38), (38, s_get 4 3 41), (41, s_iload 4 43), (43, s_callV 7 104 1 1 46), (46, s_pushI (-1) 47), (47, s_icmp (fun x y => ¬ x = y) 63 50), (50, s_iload 5 52), (52, s_pushI 99 54), (54, s_icmp (fun x y => y < x) 63 57), (57, s_iload 6 59), (59, s_pushI 1 60), (60, s_icmp (fun x y => x ≤ y) 65 63), (63, s_pushI 0 64), (64, s_zret), (65, s_aload 0 66), (66, s_get 4 3 69), (69, s_iload 3 70), (70, s_iload 4 72), (72, s_callV 7 116 2 0 75), (75, s_aload 0 76), (76, s_get 4 3 79), (79, s_iload 3 80), (80, s_iload 5 82), (82, s_callV 7 112 2 0 85), (85, s_aload 0 86), (86, s_get 4 3 89), (89, s_iload 3 90), (90, s_iload 6 92), (92, s_callV 7 114 2 0 95), (95, s_iload 2 96), (96, s_pushI 3 97), (97, s_bin (fun x y => x + y) 98), (98, s_istore 7 100), (100, s_pushI 0 101), (101, s_kill 103 [2, 4, 5, 6] (s_istore 8 103)), (103, s_iload 8 105), (105, s_aload 0 106), (106, s_get 4 3 109), (109, s_get 7 10 112), (112, s_icmp (fun x y => y ≤ x) 159 115), (115, s_iload 8 117), (117, s_iload 3 118), (118, s_icmp (fun x y => x = y) 153 121), (121, s_aload 1 122), (122, s_iload 7 124), (124, s_callV 8 126 1 1 127), (127, s_pushI 9 129), (129, s_icmp (fun x y => x ≤ y) 134 132), (132, s_pushI 0 133), (133, s_zret), (134, s_aload 0 135), (135, s_get 4 3 138), (138, s_iload 3 139), (139, s_iload 8 141), (141, s_aload 1 142), (142, s_iload 7 144), (144, s_callV 8 126 1 1 147), (147, s_callV 7 115 3 0 150), (150, s_iinc 7 1 153), (153, s_iinc 8 1 156), (156, s_kill 103 [2, 4, 5, 6] (s_goto 103)), (159, s_pushI 1 160), (160, s_zret)]
set_option maxRecDepth 100000 in
set_option maxHeartbeats 4000000 in
theorem ok_X4_readPerson (l : Launch) : mm_CodeOK l mm_I0 RX4 cX4_readPerson 9 (some .boolean) cd_X4_readPerson := by
  intro p e R s m args below meth c Q σ cA D A kc ks d C X
  have hx := X.1
  have hb := X.2.1
  have hown := X.2.2.2.1
  have hts := X.2.2.2.2.1
  refine mm_fc (ss_aload_n hx hb (by decide +kernel : decode cX4_readPerson 0 = .ok (.aload_n 1, 1)) rfl) ?_
  refine mm_fc (ss_iload_n hx hb (by decide +kernel : decode cX4_readPerson 1 = .ok (.iload_n 2, 1)) rfl) ?_
  refine mm_fc (ss_callV X rfl rfl wd_2_198 wd_1_2 wd_6_20 wd_2_196 wd_2_197 (by decide +kernel) (by decide +kernel) (by decide) (by decide +kernel : decode cX4_readPerson 2 = .ok (.invokevirtual 53, 3))) ?_
  refine mm_fc (ss_istore hx hb (by decide +kernel : decode cX4_readPerson 5 = .ok (.istore 4, 2)) (by decide)) ?_
  refine mm_fc (ss_aload_n hx hb (by decide +kernel : decode cX4_readPerson 7 = .ok (.aload_n 1, 1)) rfl) ?_
  refine mm_fc (ss_iload_n hx hb (by decide +kernel : decode cX4_readPerson 8 = .ok (.iload_n 2, 1)) rfl) ?_
  refine mm_fc (ss_iconst hx hb (by decide +kernel : decode cX4_readPerson 9 = .ok (.iconst 1, 1)) (by decide)) ?_
  refine mm_fc (ss_iadd hx hb (by decide +kernel : decode cX4_readPerson 10 = .ok (.iadd, 1))) ?_
  refine mm_fc (ss_callV X rfl rfl wd_2_198 wd_1_2 wd_6_20 wd_2_196 wd_2_197 (by decide +kernel) (by decide +kernel) (by decide) (by decide +kernel : decode cX4_readPerson 11 = .ok (.invokevirtual 53, 3))) ?_
  refine mm_fc (ss_istore hx hb (by decide +kernel : decode cX4_readPerson 14 = .ok (.istore 5, 2)) (by decide)) ?_
  refine mm_fc (ss_aload_n hx hb (by decide +kernel : decode cX4_readPerson 16 = .ok (.aload_n 1, 1)) rfl) ?_
  refine mm_fc (ss_iload_n hx hb (by decide +kernel : decode cX4_readPerson 17 = .ok (.iload_n 2, 1)) rfl) ?_
  refine mm_fc (ss_iconst hx hb (by decide +kernel : decode cX4_readPerson 18 = .ok (.iconst 2, 1)) (by decide)) ?_
  refine mm_fc (ss_iadd hx hb (by decide +kernel : decode cX4_readPerson 19 = .ok (.iadd, 1))) ?_
  refine mm_fc (ss_callV X rfl rfl wd_2_198 wd_1_2 wd_6_20 wd_2_196 wd_2_197 (by decide +kernel) (by decide +kernel) (by decide) (by decide +kernel : decode cX4_readPerson 20 = .ok (.invokevirtual 53, 3))) ?_
  refine mm_fc (ss_istore hx hb (by decide +kernel : decode cX4_readPerson 23 = .ok (.istore 6, 2)) (by decide)) ?_
  refine mm_fc (ss_aload_n hx hb (by decide +kernel : decode cX4_readPerson 25 = .ok (.aload_n 0, 1)) rfl) ?_
  refine mm_fc (ss_get X rfl in_X4 (by decide) rfl wd_2_46 (by decide +kernel : decode cX4_readPerson 26 = .ok (.getfield 25, 3))) ?_
  refine mm_fc (ss_iload hx hb (by decide +kernel : decode cX4_readPerson 29 = .ok (.iload 4, 2))) ?_
  refine mm_fc (ss_callV X rfl rfl wd_3_124 wd_1_8 wd_6_31 wd_3_122 wd_3_123 (by decide +kernel) (by decide +kernel) (by decide) (by decide +kernel : decode cX4_readPerson 31 = .ok (.invokevirtual 84, 3))) ?_
  refine mm_fc (ss_ifeq hx hb (by decide +kernel : decode cX4_readPerson 34 = .ok (.ifCond .eq 29, 3)) (by decide)) ?_
  refine mm_fc (ss_aload_n hx hb (by decide +kernel : decode cX4_readPerson 37 = .ok (.aload_n 0, 1)) rfl) ?_
  refine mm_fc (ss_get X rfl in_X4 (by decide) rfl wd_2_46 (by decide +kernel : decode cX4_readPerson 38 = .ok (.getfield 25, 3))) ?_
  refine mm_fc (ss_iload hx hb (by decide +kernel : decode cX4_readPerson 41 = .ok (.iload 4, 2))) ?_
  refine mm_fc (ss_callV X rfl rfl wd_3_120 wd_1_8 wd_6_32 wd_3_118 wd_3_119 (by decide +kernel) (by decide +kernel) (by decide) (by decide +kernel : decode cX4_readPerson 43 = .ok (.invokevirtual 88, 3))) ?_
  refine mm_fc (ss_iconst hx hb (by decide +kernel : decode cX4_readPerson 46 = .ok (.iconst (-1), 1)) (by decide)) ?_
  refine mm_fc (ss_icmpne hx hb (by decide +kernel : decode cX4_readPerson 47 = .ok (.if_icmp .ne 16, 3)) (by decide)) ?_
  refine mm_fc (ss_iload hx hb (by decide +kernel : decode cX4_readPerson 50 = .ok (.iload 5, 2))) ?_
  refine mm_fc (ss_bipush hx hb (by decide +kernel : decode cX4_readPerson 52 = .ok (.bipush 99, 2)) (by decide)) ?_
  refine mm_fc (ss_icmpgt hx hb (by decide +kernel : decode cX4_readPerson 54 = .ok (.if_icmp .gt 9, 3)) (by decide)) ?_
  refine mm_fc (ss_iload hx hb (by decide +kernel : decode cX4_readPerson 57 = .ok (.iload 6, 2))) ?_
  refine mm_fc (ss_iconst hx hb (by decide +kernel : decode cX4_readPerson 59 = .ok (.iconst 1, 1)) (by decide)) ?_
  refine mm_fc (ss_icmple hx hb (by decide +kernel : decode cX4_readPerson 60 = .ok (.if_icmp .le 5, 3)) (by decide)) ?_
  refine mm_fc (ss_iconst hx hb (by decide +kernel : decode cX4_readPerson 63 = .ok (.iconst 0, 1)) (by decide)) ?_
  refine mm_fc (ss_zret (by decide +kernel : decode cX4_readPerson 64 = .ok (.ireturn, 1)) rfl) ?_
  refine mm_fc (ss_aload_n hx hb (by decide +kernel : decode cX4_readPerson 65 = .ok (.aload_n 0, 1)) rfl) ?_
  refine mm_fc (ss_get X rfl in_X4 (by decide) rfl wd_2_46 (by decide +kernel : decode cX4_readPerson 66 = .ok (.getfield 25, 3))) ?_
  refine mm_fc (ss_iload_n hx hb (by decide +kernel : decode cX4_readPerson 69 = .ok (.iload_n 3, 1)) rfl) ?_
  refine mm_fc (ss_iload hx hb (by decide +kernel : decode cX4_readPerson 70 = .ok (.iload 4, 2))) ?_
  refine mm_fc (ss_callV X rfl rfl wd_3_132 wd_1_8 wd_6_26 wd_3_130 wd_3_131 (by decide +kernel) (by decide +kernel) (by decide) (by decide +kernel : decode cX4_readPerson 72 = .ok (.invokevirtual 76, 3))) ?_
  refine mm_fc (ss_aload_n hx hb (by decide +kernel : decode cX4_readPerson 75 = .ok (.aload_n 0, 1)) rfl) ?_
  refine mm_fc (ss_get X rfl in_X4 (by decide) rfl wd_2_46 (by decide +kernel : decode cX4_readPerson 76 = .ok (.getfield 25, 3))) ?_
  refine mm_fc (ss_iload_n hx hb (by decide +kernel : decode cX4_readPerson 79 = .ok (.iload_n 3, 1)) rfl) ?_
  refine mm_fc (ss_iload hx hb (by decide +kernel : decode cX4_readPerson 80 = .ok (.iload 5, 2))) ?_
  refine mm_fc (ss_callV X rfl rfl wd_4_231 wd_1_8 wd_6_33 wd_4_229 wd_4_230 (by decide +kernel) (by decide +kernel) (by decide) (by decide +kernel : decode cX4_readPerson 82 = .ok (.invokevirtual 91, 3))) ?_
  refine mm_fc (ss_aload_n hx hb (by decide +kernel : decode cX4_readPerson 85 = .ok (.aload_n 0, 1)) rfl) ?_
  refine mm_fc (ss_get X rfl in_X4 (by decide) rfl wd_2_46 (by decide +kernel : decode cX4_readPerson 86 = .ok (.getfield 25, 3))) ?_
  refine mm_fc (ss_iload_n hx hb (by decide +kernel : decode cX4_readPerson 89 = .ok (.iload_n 3, 1)) rfl) ?_
  refine mm_fc (ss_iload hx hb (by decide +kernel : decode cX4_readPerson 90 = .ok (.iload 6, 2))) ?_
  refine mm_fc (ss_callV X rfl rfl wd_5_72 wd_1_8 wd_6_34 wd_5_70 wd_5_71 (by decide +kernel) (by decide +kernel) (by decide) (by decide +kernel : decode cX4_readPerson 92 = .ok (.invokevirtual 94, 3))) ?_
  refine mm_fc (ss_iload_n hx hb (by decide +kernel : decode cX4_readPerson 95 = .ok (.iload_n 2, 1)) rfl) ?_
  refine mm_fc (ss_iconst hx hb (by decide +kernel : decode cX4_readPerson 96 = .ok (.iconst 3, 1)) (by decide)) ?_
  refine mm_fc (ss_iadd hx hb (by decide +kernel : decode cX4_readPerson 97 = .ok (.iadd, 1))) ?_
  refine mm_fc (ss_istore hx hb (by decide +kernel : decode cX4_readPerson 98 = .ok (.istore 7, 2)) (by decide)) ?_
  refine mm_fc (ss_iconst hx hb (by decide +kernel : decode cX4_readPerson 100 = .ok (.iconst 0, 1)) (by decide)) ?_
  refine mm_fc (ss_kill (ss_istore hx hb (by decide +kernel : decode cX4_readPerson 101 = .ok (.istore 8, 2)) (by decide))) ?_
  refine mm_fc (ss_iload hx hb (by decide +kernel : decode cX4_readPerson 103 = .ok (.iload 8, 2))) ?_
  refine mm_fc (ss_aload_n hx hb (by decide +kernel : decode cX4_readPerson 105 = .ok (.aload_n 0, 1)) rfl) ?_
  refine mm_fc (ss_get X rfl in_X4 (by decide) rfl wd_2_46 (by decide +kernel : decode cX4_readPerson 106 = .ok (.getfield 25, 3))) ?_
  refine mm_fc (ss_getN X rfl in_X7 (by decide) rfl wd_1_172 (by decide +kernel : decode cX4_readPerson 109 = .ok (.getfield 36, 3))) ?_
  refine mm_fc (ss_icmpge hx hb (by decide +kernel : decode cX4_readPerson 112 = .ok (.if_icmp .ge 47, 3)) (by decide)) ?_
  refine mm_fc (ss_iload hx hb (by decide +kernel : decode cX4_readPerson 115 = .ok (.iload 8, 2))) ?_
  refine mm_fc (ss_iload_n hx hb (by decide +kernel : decode cX4_readPerson 117 = .ok (.iload_n 3, 1)) rfl) ?_
  refine mm_fc (ss_icmpeq hx hb (by decide +kernel : decode cX4_readPerson 118 = .ok (.if_icmp .eq 35, 3)) (by decide)) ?_
  refine mm_fc (ss_aload_n hx hb (by decide +kernel : decode cX4_readPerson 121 = .ok (.aload_n 1, 1)) rfl) ?_
  refine mm_fc (ss_iload hx hb (by decide +kernel : decode cX4_readPerson 122 = .ok (.iload 7, 2))) ?_
  refine mm_fc (ss_callV X rfl rfl wd_2_198 wd_1_2 wd_6_20 wd_2_196 wd_2_197 (by decide +kernel) (by decide +kernel) (by decide) (by decide +kernel : decode cX4_readPerson 124 = .ok (.invokevirtual 53, 3))) ?_
  refine mm_fc (ss_bipush hx hb (by decide +kernel : decode cX4_readPerson 127 = .ok (.bipush 9, 2)) (by decide)) ?_
  refine mm_fc (ss_icmple hx hb (by decide +kernel : decode cX4_readPerson 129 = .ok (.if_icmp .le 5, 3)) (by decide)) ?_
  refine mm_fc (ss_iconst hx hb (by decide +kernel : decode cX4_readPerson 132 = .ok (.iconst 0, 1)) (by decide)) ?_
  refine mm_fc (ss_zret (by decide +kernel : decode cX4_readPerson 133 = .ok (.ireturn, 1)) rfl) ?_
  refine mm_fc (ss_aload_n hx hb (by decide +kernel : decode cX4_readPerson 134 = .ok (.aload_n 0, 1)) rfl) ?_
  refine mm_fc (ss_get X rfl in_X4 (by decide) rfl wd_2_46 (by decide +kernel : decode cX4_readPerson 135 = .ok (.getfield 25, 3))) ?_
  refine mm_fc (ss_iload_n hx hb (by decide +kernel : decode cX4_readPerson 138 = .ok (.iload_n 3, 1)) rfl) ?_
  refine mm_fc (ss_iload hx hb (by decide +kernel : decode cX4_readPerson 139 = .ok (.iload 8, 2))) ?_
  refine mm_fc (ss_aload_n hx hb (by decide +kernel : decode cX4_readPerson 141 = .ok (.aload_n 1, 1)) rfl) ?_
  refine mm_fc (ss_iload hx hb (by decide +kernel : decode cX4_readPerson 142 = .ok (.iload 7, 2))) ?_
  refine mm_fc (ss_callV X rfl rfl wd_2_198 wd_1_2 wd_6_20 wd_2_196 wd_2_197 (by decide +kernel) (by decide +kernel) (by decide) (by decide +kernel : decode cX4_readPerson 144 = .ok (.invokevirtual 53, 3))) ?_
  refine mm_fc (ss_callV X rfl rfl wd_3_137 wd_1_8 wd_6_35 wd_3_135 wd_3_136 (by decide +kernel) (by decide +kernel) (by decide) (by decide +kernel : decode cX4_readPerson 147 = .ok (.invokevirtual 97, 3))) ?_
  refine mm_fc (ss_iinc hx hb (by decide +kernel : decode cX4_readPerson 150 = .ok (.iinc 7 1, 3)) (by decide) (by decide)) ?_
  refine mm_fc (ss_iinc hx hb (by decide +kernel : decode cX4_readPerson 153 = .ok (.iinc 8 1, 3)) (by decide) (by decide)) ?_
  refine mm_fc (ss_kill (ss_goto hx hb (by decide +kernel : decode cX4_readPerson 156 = .ok (.goto (-53), 3)) (by decide))) ?_
  refine mm_fc (ss_iconst hx hb (by decide +kernel : decode cX4_readPerson 159 = .ok (.iconst 1, 1)) (by decide)) ?_
  refine mm_fc (ss_zret (by decide +kernel : decode cX4_readPerson 160 = .ok (.ireturn, 1)) rfl) ?_
  exact mm_fn
def cd_X5_read : mm_K mm_H := [(0, s_aload 1 1), (1, s_callV 6 74 0 0 4), (4, s_aload 1 5), (5, s_callV 6 77 0 1 8), (8, s_if (fun x => x = 0) 29 11), (11, s_aload 1 12), (12, s_get 6 4 15), (15, s_pushI 25 17), (17, s_icmp (fun x y => x < y) 29 20), (20, s_aload 1 21), (21, s_get 6 4 24), (24, s_pushI 30 26), (26, s_icmp (fun x y => x ≤ y) 34 29), (29, s_aload 1 30), (30, s_callV 6 88 0 1 33), (33, s_zret), (34, s_aload 0 35), (35, s_aload 1 36), (36, s_get 6 4 39), (39, s_putI 5 1 42), (42, s_aload 0 43), (43, s_get 5 0 46), (46, s_callV 1 33 0 0 49), (49, s_aload 0 50), (50, s_get 5 1 53), (53, s_pushI 25 55), (55, s_icmp (fun x y => x = y) 76 58), (58, s_aload 0 59), (59, s_get 5 1 62), (62, s_pushI 26 64), (64, s_icmp (fun x y => x = y) 76 67), (67, s_aload 0 68), (68, s_get 5 1 71), (71, s_pushI 27 73), (73, s_icmp (fun x y => ¬ x = y) 80 76), (76, s_pushI 1 77), (77, s_goto 81), (80, s_pushI 0 81), (81, s_istore 3 82), (82, s_aload 2 83), (83, s_aload 0 84), (84, s_get 5 0 87), (87, s_pushI 3 88), (88, s_iload 3 89), (89, s_callV 2 46 3 1 92), (92, s_if (fun x => ¬ x = 0) 97 95), (95, s_pushI 0 96), (96, s_zret), (97, s_aload 1 98), (98, s_callV 6 76 0 1 101), (101, s_if (fun x => ¬ x = 0) 111 104), (104, s_aload 1 105), (105, s_callV 6 88 0 1 108), (108, s_if (fun x => x = 0) 115 111), (111, s_pushI 1 112), (112, s_goto 116), (115, s_pushI 0 116), (116, s_zret)]
set_option maxRecDepth 100000 in
set_option maxHeartbeats 4000000 in
theorem ok_X5_read (l : Launch) : mm_CodeOK l mm_I0 RX5 cX5_read 4 (some .boolean) cd_X5_read := by
  intro p e R s m args below meth c Q σ cA D A kc ks d C X
  have hx := X.1
  have hb := X.2.1
  have hown := X.2.2.2.1
  have hts := X.2.2.2.2.1
  refine mm_fc (ss_aload_n hx hb (by decide +kernel : decode cX5_read 0 = .ok (.aload_n 1, 1)) rfl) ?_
  refine mm_fc (ss_callV X rfl rfl wd_2_185 wd_1_3 wd_5_195 wd_2_183 wd_2_184 (by decide +kernel) (by decide +kernel) (by decide) (by decide +kernel : decode cX5_read 1 = .ok (.invokevirtual 22, 3))) ?_
  refine mm_fc (ss_aload_n hx hb (by decide +kernel : decode cX5_read 4 = .ok (.aload_n 1, 1)) rfl) ?_
  refine mm_fc (ss_callV X rfl rfl wd_3_85 wd_1_3 wd_5_196 wd_3_83 wd_3_84 (by decide +kernel) (by decide +kernel) (by decide) (by decide +kernel : decode cX5_read 5 = .ok (.invokevirtual 27, 3))) ?_
  refine mm_fc (ss_ifeq hx hb (by decide +kernel : decode cX5_read 8 = .ok (.ifCond .eq 21, 3)) (by decide)) ?_
  refine mm_fc (ss_aload_n hx hb (by decide +kernel : decode cX5_read 11 = .ok (.aload_n 1, 1)) rfl) ?_
  refine mm_fc (ss_getN X rfl in_X6 (by decide) rfl wd_1_54 (by decide +kernel : decode cX5_read 12 = .ok (.getfield 31, 3))) ?_
  refine mm_fc (ss_bipush hx hb (by decide +kernel : decode cX5_read 15 = .ok (.bipush 25, 2)) (by decide)) ?_
  refine mm_fc (ss_icmplt hx hb (by decide +kernel : decode cX5_read 17 = .ok (.if_icmp .lt 12, 3)) (by decide)) ?_
  refine mm_fc (ss_aload_n hx hb (by decide +kernel : decode cX5_read 20 = .ok (.aload_n 1, 1)) rfl) ?_
  refine mm_fc (ss_getN X rfl in_X6 (by decide) rfl wd_1_54 (by decide +kernel : decode cX5_read 21 = .ok (.getfield 31, 3))) ?_
  refine mm_fc (ss_bipush hx hb (by decide +kernel : decode cX5_read 24 = .ok (.bipush 30, 2)) (by decide)) ?_
  refine mm_fc (ss_icmple hx hb (by decide +kernel : decode cX5_read 26 = .ok (.if_icmp .le 8, 3)) (by decide)) ?_
  refine mm_fc (ss_aload_n hx hb (by decide +kernel : decode cX5_read 29 = .ok (.aload_n 1, 1)) rfl) ?_
  refine mm_fc (ss_callV X rfl rfl wd_3_49 wd_1_3 wd_5_197 wd_3_47 wd_3_48 (by decide +kernel) (by decide +kernel) (by decide) (by decide +kernel : decode cX5_read 30 = .ok (.invokevirtual 34, 3))) ?_
  refine mm_fc (ss_zret (by decide +kernel : decode cX5_read 33 = .ok (.ireturn, 1)) rfl) ?_
  refine mm_fc (ss_aload_n hx hb (by decide +kernel : decode cX5_read 34 = .ok (.aload_n 0, 1)) rfl) ?_
  refine mm_fc (ss_aload_n hx hb (by decide +kernel : decode cX5_read 35 = .ok (.aload_n 1, 1)) rfl) ?_
  refine mm_fc (ss_getN X rfl in_X6 (by decide) rfl wd_1_54 (by decide +kernel : decode cX5_read 36 = .ok (.getfield 31, 3))) ?_
  refine mm_fc (ss_putI X rfl in_X5 tyX5_ok nmX5 (by decide) rfl rfl rfl rfl wd_1_112 (by decide +kernel : decode cX5_read 39 = .ok (.putfield 18, 3))) ?_
  refine mm_fc (ss_aload_n hx hb (by decide +kernel : decode cX5_read 42 = .ok (.aload_n 0, 1)) rfl) ?_
  refine mm_fc (ss_get X rfl in_X5 (by decide) rfl wd_1_110 (by decide +kernel : decode cX5_read 43 = .ok (.getfield 12, 3))) ?_
  refine mm_fc (ss_callV X rfl rfl wd_2_69 wd_1_5 wd_5_198 wd_2_67 wd_2_68 (by decide +kernel) (by decide +kernel) (by decide) (by decide +kernel : decode cX5_read 46 = .ok (.invokevirtual 37, 3))) ?_
  refine mm_fc (ss_aload_n hx hb (by decide +kernel : decode cX5_read 49 = .ok (.aload_n 0, 1)) rfl) ?_
  refine mm_fc (ss_get X rfl in_X5 (by decide) rfl wd_1_112 (by decide +kernel : decode cX5_read 50 = .ok (.getfield 18, 3))) ?_
  refine mm_fc (ss_bipush hx hb (by decide +kernel : decode cX5_read 53 = .ok (.bipush 25, 2)) (by decide)) ?_
  refine mm_fc (ss_icmpeq hx hb (by decide +kernel : decode cX5_read 55 = .ok (.if_icmp .eq 21, 3)) (by decide)) ?_
  refine mm_fc (ss_aload_n hx hb (by decide +kernel : decode cX5_read 58 = .ok (.aload_n 0, 1)) rfl) ?_
  refine mm_fc (ss_get X rfl in_X5 (by decide) rfl wd_1_112 (by decide +kernel : decode cX5_read 59 = .ok (.getfield 18, 3))) ?_
  refine mm_fc (ss_bipush hx hb (by decide +kernel : decode cX5_read 62 = .ok (.bipush 26, 2)) (by decide)) ?_
  refine mm_fc (ss_icmpeq hx hb (by decide +kernel : decode cX5_read 64 = .ok (.if_icmp .eq 12, 3)) (by decide)) ?_
  refine mm_fc (ss_aload_n hx hb (by decide +kernel : decode cX5_read 67 = .ok (.aload_n 0, 1)) rfl) ?_
  refine mm_fc (ss_get X rfl in_X5 (by decide) rfl wd_1_112 (by decide +kernel : decode cX5_read 68 = .ok (.getfield 18, 3))) ?_
  refine mm_fc (ss_bipush hx hb (by decide +kernel : decode cX5_read 71 = .ok (.bipush 27, 2)) (by decide)) ?_
  refine mm_fc (ss_icmpne hx hb (by decide +kernel : decode cX5_read 73 = .ok (.if_icmp .ne 7, 3)) (by decide)) ?_
  refine mm_fc (ss_iconst hx hb (by decide +kernel : decode cX5_read 76 = .ok (.iconst 1, 1)) (by decide)) ?_
  refine mm_fc (ss_goto hx hb (by decide +kernel : decode cX5_read 77 = .ok (.goto 4, 3)) (by decide)) ?_
  refine mm_fc (ss_iconst hx hb (by decide +kernel : decode cX5_read 80 = .ok (.iconst 0, 1)) (by decide)) ?_
  refine mm_fc (ss_istore_n hx hb (by decide +kernel : decode cX5_read 81 = .ok (.istore_n 3, 1)) rfl (by decide)) ?_
  refine mm_fc (ss_aload_n hx hb (by decide +kernel : decode cX5_read 82 = .ok (.aload_n 2, 1)) rfl) ?_
  refine mm_fc (ss_aload_n hx hb (by decide +kernel : decode cX5_read 83 = .ok (.aload_n 0, 1)) rfl) ?_
  refine mm_fc (ss_get X rfl in_X5 (by decide) rfl wd_1_110 (by decide +kernel : decode cX5_read 84 = .ok (.getfield 12, 3))) ?_
  refine mm_fc (ss_iconst hx hb (by decide +kernel : decode cX5_read 87 = .ok (.iconst 3, 1)) (by decide)) ?_
  refine mm_fc (ss_iload_n hx hb (by decide +kernel : decode cX5_read 88 = .ok (.iload_n 3, 1)) rfl) ?_
  refine mm_fc (ss_callV X rfl rfl wd_3_154 wd_1_6 wd_5_199 wd_3_152 wd_3_153 (by decide +kernel) (by decide +kernel) (by decide) (by decide +kernel : decode cX5_read 89 = .ok (.invokevirtual 40, 3))) ?_
  refine mm_fc (ss_ifne hx hb (by decide +kernel : decode cX5_read 92 = .ok (.ifCond .ne 5, 3)) (by decide)) ?_
  refine mm_fc (ss_iconst hx hb (by decide +kernel : decode cX5_read 95 = .ok (.iconst 0, 1)) (by decide)) ?_
  refine mm_fc (ss_zret (by decide +kernel : decode cX5_read 96 = .ok (.ireturn, 1)) rfl) ?_
  refine mm_fc (ss_aload_n hx hb (by decide +kernel : decode cX5_read 97 = .ok (.aload_n 1, 1)) rfl) ?_
  refine mm_fc (ss_callV X rfl rfl wd_3_77 wd_1_3 wd_5_200 wd_3_75 wd_3_76 (by decide +kernel) (by decide +kernel) (by decide) (by decide +kernel : decode cX5_read 98 = .ok (.invokevirtual 46, 3))) ?_
  refine mm_fc (ss_ifne hx hb (by decide +kernel : decode cX5_read 101 = .ok (.ifCond .ne 10, 3)) (by decide)) ?_
  refine mm_fc (ss_aload_n hx hb (by decide +kernel : decode cX5_read 104 = .ok (.aload_n 1, 1)) rfl) ?_
  refine mm_fc (ss_callV X rfl rfl wd_3_49 wd_1_3 wd_5_197 wd_3_47 wd_3_48 (by decide +kernel) (by decide +kernel) (by decide) (by decide +kernel : decode cX5_read 105 = .ok (.invokevirtual 34, 3))) ?_
  refine mm_fc (ss_ifeq hx hb (by decide +kernel : decode cX5_read 108 = .ok (.ifCond .eq 7, 3)) (by decide)) ?_
  refine mm_fc (ss_iconst hx hb (by decide +kernel : decode cX5_read 111 = .ok (.iconst 1, 1)) (by decide)) ?_
  refine mm_fc (ss_goto hx hb (by decide +kernel : decode cX5_read 112 = .ok (.goto 4, 3)) (by decide)) ?_
  refine mm_fc (ss_iconst hx hb (by decide +kernel : decode cX5_read 115 = .ok (.iconst 0, 1)) (by decide)) ?_
  refine mm_fc (ss_zret (by decide +kernel : decode cX5_read 116 = .ok (.ireturn, 1)) rfl) ?_
  exact mm_fn
def cd_X5_answer : mm_K mm_H := [(0, s_aload 0 1), (1, s_get 5 1 4), (4, s_pushI 25 6), (6, s_icmp (fun x y => x = y) 18 9), (9, s_aload 0 10), (10, s_get 5 1 13), (13, s_pushI 26 15), (15, s_icmp (fun x y => ¬ x = y) 22 18), (18, s_pushI 1 19), (19, s_goto 23), (22, s_pushI 0 23), (23, s_istore 2 24), (24, s_iload 2 25), (25, s_if (fun x => x = 0) 34 28), (28, s_pushL (-1) 31), (31, s_goto 35), (34, s_pushL 0 35), (35, s_lstore 3 36), (36, s_pushI 0 37), (37, s_kill 39 [2, 4, 6] (s_istore 5 39)), (39, s_iload 5 41), (41, s_aload 1 42), (42, s_get 7 10 45), (45, s_icmp (fun x y => y ≤ x) 112 48), (48, s_aload 0 49), (49, s_aload 1 50), (50, s_iload 5 52), (52, s_callV 5 73 2 0 55), (55, s_aload 0 56), (56, s_get 5 0 59), (59, s_pushI 3 60), (60, s_aload 1 61), (61, s_callV 1 39 2 1 64), (64, s_istore 6 66), (66, s_iload 5 68), (68, s_if (fun x => ¬ x = 0) 96 71), (71, s_aload 0 72), (72, s_get 5 1 75), (75, s_pushI 29 77), (77, s_icmp (fun x y => x = y) 89 80), (80, s_aload 0 81), (81, s_get 5 1 84), (84, s_pushI 30 86), (86, s_icmp (fun x y => ¬ x = y) 96 89), (89, s_iload 6 91), (91, s_i2l 92), (92, s_lstore 3 93), (93, s_goto 106), (96, s_aload 0 97), (97, s_lload 3 98), (98, s_iload 5 100), (100, s_iload 6 102), (102, s_callV 5 72 3 2 105), (105, s_lstore 3 106), (106, s_iinc 5 1 109), (109, s_kill 39 [2, 4, 6] (s_goto 39)), (112, s_lload 3 113), (113, s_lret)]
set_option maxRecDepth 100000 in
set_option maxHeartbeats 4000000 in
theorem ok_X5_answer (l : Launch) : mm_CodeOK l mm_I0 RX5 cX5_answer 7 (some .long) cd_X5_answer := by
  intro p e R s m args below meth c Q σ cA D A kc ks d C X
  have hx := X.1
  have hb := X.2.1
  have hown := X.2.2.2.1
  have hts := X.2.2.2.2.1
  refine mm_fc (ss_aload_n hx hb (by decide +kernel : decode cX5_answer 0 = .ok (.aload_n 0, 1)) rfl) ?_
  refine mm_fc (ss_get X rfl in_X5 (by decide) rfl wd_1_112 (by decide +kernel : decode cX5_answer 1 = .ok (.getfield 18, 3))) ?_
  refine mm_fc (ss_bipush hx hb (by decide +kernel : decode cX5_answer 4 = .ok (.bipush 25, 2)) (by decide)) ?_
  refine mm_fc (ss_icmpeq hx hb (by decide +kernel : decode cX5_answer 6 = .ok (.if_icmp .eq 12, 3)) (by decide)) ?_
  refine mm_fc (ss_aload_n hx hb (by decide +kernel : decode cX5_answer 9 = .ok (.aload_n 0, 1)) rfl) ?_
  refine mm_fc (ss_get X rfl in_X5 (by decide) rfl wd_1_112 (by decide +kernel : decode cX5_answer 10 = .ok (.getfield 18, 3))) ?_
  refine mm_fc (ss_bipush hx hb (by decide +kernel : decode cX5_answer 13 = .ok (.bipush 26, 2)) (by decide)) ?_
  refine mm_fc (ss_icmpne hx hb (by decide +kernel : decode cX5_answer 15 = .ok (.if_icmp .ne 7, 3)) (by decide)) ?_
  refine mm_fc (ss_iconst hx hb (by decide +kernel : decode cX5_answer 18 = .ok (.iconst 1, 1)) (by decide)) ?_
  refine mm_fc (ss_goto hx hb (by decide +kernel : decode cX5_answer 19 = .ok (.goto 4, 3)) (by decide)) ?_
  refine mm_fc (ss_iconst hx hb (by decide +kernel : decode cX5_answer 22 = .ok (.iconst 0, 1)) (by decide)) ?_
  refine mm_fc (ss_istore_n hx hb (by decide +kernel : decode cX5_answer 23 = .ok (.istore_n 2, 1)) rfl (by decide)) ?_
  refine mm_fc (ss_iload_n hx hb (by decide +kernel : decode cX5_answer 24 = .ok (.iload_n 2, 1)) rfl) ?_
  refine mm_fc (ss_ifeq hx hb (by decide +kernel : decode cX5_answer 25 = .ok (.ifCond .eq 9, 3)) (by decide)) ?_
  refine mm_fc (ss_ldc2 hx hb hown (hts _ (mm_in wd_5_205 rfl)) (by decide +kernel : decode cX5_answer 28 = .ok (.ldc2_w 49, 3))) ?_
  refine mm_fc (ss_goto hx hb (by decide +kernel : decode cX5_answer 31 = .ok (.goto 4, 3)) (by decide)) ?_
  refine mm_fc (ss_lconst hx hb (by decide +kernel : decode cX5_answer 34 = .ok (.lconst 0, 1)) (by decide)) ?_
  refine mm_fc (ss_lstore_n hx hb (by decide +kernel : decode cX5_answer 35 = .ok (.lstore_n 3, 1)) rfl (by decide)) ?_
  refine mm_fc (ss_iconst hx hb (by decide +kernel : decode cX5_answer 36 = .ok (.iconst 0, 1)) (by decide)) ?_
  refine mm_fc (ss_kill (ss_istore hx hb (by decide +kernel : decode cX5_answer 37 = .ok (.istore 5, 2)) (by decide))) ?_
  refine mm_fc (ss_iload hx hb (by decide +kernel : decode cX5_answer 39 = .ok (.iload 5, 2))) ?_
  refine mm_fc (ss_aload_n hx hb (by decide +kernel : decode cX5_answer 41 = .ok (.aload_n 1, 1)) rfl) ?_
  refine mm_fc (ss_getN X rfl in_X7 (by decide) rfl wd_1_173 (by decide +kernel : decode cX5_answer 42 = .ok (.getfield 51, 3))) ?_
  refine mm_fc (ss_icmpge hx hb (by decide +kernel : decode cX5_answer 45 = .ok (.if_icmp .ge 67, 3)) (by decide)) ?_
  refine mm_fc (ss_aload_n hx hb (by decide +kernel : decode cX5_answer 48 = .ok (.aload_n 0, 1)) rfl) ?_
  refine mm_fc (ss_aload_n hx hb (by decide +kernel : decode cX5_answer 49 = .ok (.aload_n 1, 1)) rfl) ?_
  refine mm_fc (ss_iload hx hb (by decide +kernel : decode cX5_answer 50 = .ok (.iload 5, 2))) ?_
  refine mm_fc (ss_callV X rfl rfl wd_5_209 wd_1_4 wd_5_206 wd_5_208 wd_p_42 (by decide +kernel) (by decide +kernel) (by decide) (by decide +kernel : decode cX5_answer 52 = .ok (.invokevirtual 56, 3))) ?_
  refine mm_fc (ss_aload_n hx hb (by decide +kernel : decode cX5_answer 55 = .ok (.aload_n 0, 1)) rfl) ?_
  refine mm_fc (ss_get X rfl in_X5 (by decide) rfl wd_1_110 (by decide +kernel : decode cX5_answer 56 = .ok (.getfield 12, 3))) ?_
  refine mm_fc (ss_iconst hx hb (by decide +kernel : decode cX5_answer 59 = .ok (.iconst 3, 1)) (by decide)) ?_
  refine mm_fc (ss_aload_n hx hb (by decide +kernel : decode cX5_answer 60 = .ok (.aload_n 1, 1)) rfl) ?_
  refine mm_fc (ss_callV X rfl rfl wd_4_84 wd_1_5 wd_5_216 wd_4_82 wd_4_83 (by decide +kernel) (by decide +kernel) (by decide) (by decide +kernel : decode cX5_answer 61 = .ok (.invokevirtual 60, 3))) ?_
  refine mm_fc (ss_istore hx hb (by decide +kernel : decode cX5_answer 64 = .ok (.istore 6, 2)) (by decide)) ?_
  refine mm_fc (ss_iload hx hb (by decide +kernel : decode cX5_answer 66 = .ok (.iload 5, 2))) ?_
  refine mm_fc (ss_ifne hx hb (by decide +kernel : decode cX5_answer 68 = .ok (.ifCond .ne 28, 3)) (by decide)) ?_
  refine mm_fc (ss_aload_n hx hb (by decide +kernel : decode cX5_answer 71 = .ok (.aload_n 0, 1)) rfl) ?_
  refine mm_fc (ss_get X rfl in_X5 (by decide) rfl wd_1_112 (by decide +kernel : decode cX5_answer 72 = .ok (.getfield 18, 3))) ?_
  refine mm_fc (ss_bipush hx hb (by decide +kernel : decode cX5_answer 75 = .ok (.bipush 29, 2)) (by decide)) ?_
  refine mm_fc (ss_icmpeq hx hb (by decide +kernel : decode cX5_answer 77 = .ok (.if_icmp .eq 12, 3)) (by decide)) ?_
  refine mm_fc (ss_aload_n hx hb (by decide +kernel : decode cX5_answer 80 = .ok (.aload_n 0, 1)) rfl) ?_
  refine mm_fc (ss_get X rfl in_X5 (by decide) rfl wd_1_112 (by decide +kernel : decode cX5_answer 81 = .ok (.getfield 18, 3))) ?_
  refine mm_fc (ss_bipush hx hb (by decide +kernel : decode cX5_answer 84 = .ok (.bipush 30, 2)) (by decide)) ?_
  refine mm_fc (ss_icmpne hx hb (by decide +kernel : decode cX5_answer 86 = .ok (.if_icmp .ne 10, 3)) (by decide)) ?_
  refine mm_fc (ss_iload hx hb (by decide +kernel : decode cX5_answer 89 = .ok (.iload 6, 2))) ?_
  refine mm_fc (ss_i2l hx hb (by decide +kernel : decode cX5_answer 91 = .ok (.i2l, 1))) ?_
  refine mm_fc (ss_lstore_n hx hb (by decide +kernel : decode cX5_answer 92 = .ok (.lstore_n 3, 1)) rfl (by decide)) ?_
  refine mm_fc (ss_goto hx hb (by decide +kernel : decode cX5_answer 93 = .ok (.goto 13, 3)) (by decide)) ?_
  refine mm_fc (ss_aload_n hx hb (by decide +kernel : decode cX5_answer 96 = .ok (.aload_n 0, 1)) rfl) ?_
  refine mm_fc (ss_lload_n hx hb (by decide +kernel : decode cX5_answer 97 = .ok (.lload_n 3, 1)) rfl) ?_
  refine mm_fc (ss_iload hx hb (by decide +kernel : decode cX5_answer 98 = .ok (.iload 5, 2))) ?_
  refine mm_fc (ss_iload hx hb (by decide +kernel : decode cX5_answer 100 = .ok (.iload 6, 2))) ?_
  refine mm_fc (ss_callV X rfl rfl wd_5_220 wd_1_4 wd_5_217 wd_5_219 wd_p_43 (by decide +kernel) (by decide +kernel) (by decide) (by decide +kernel : decode cX5_answer 102 = .ok (.invokevirtual 64, 3))) ?_
  refine mm_fc (ss_lstore_n hx hb (by decide +kernel : decode cX5_answer 105 = .ok (.lstore_n 3, 1)) rfl (by decide)) ?_
  refine mm_fc (ss_iinc hx hb (by decide +kernel : decode cX5_answer 106 = .ok (.iinc 5 1, 3)) (by decide) (by decide)) ?_
  refine mm_fc (ss_kill (ss_goto hx hb (by decide +kernel : decode cX5_answer 109 = .ok (.goto (-70), 3)) (by decide))) ?_
  refine mm_fc (ss_lload_n hx hb (by decide +kernel : decode cX5_answer 112 = .ok (.lload_n 3, 1)) rfl) ?_
  refine mm_fc (ss_lret (by decide +kernel : decode cX5_answer 113 = .ok (.lreturn, 1)) rfl) ?_
  exact mm_fn
def cd_X5_joined : mm_K mm_H := [(0, s_aload 0 1), (1, s_get 5 1 4), (4, s_sw [(25, 44), (26, 65), (27, 78), (28, 78), (29, 84), (30, 92)] 100), (44, s_lload 1 45), (45, s_pushL (-1) 48), (48, s_lcmp 49), (49, s_if (fun x => ¬ x = 0) 63 52), (52, s_iload 4 54), (54, s_pushI 1 55), (55, s_icmp (fun x y => ¬ x = y) 63 58), (58, s_iload 3 59), (59, s_i2l 60), (60, s_goto 64), (63, s_lload 1 64), (64, s_lret), (65, s_iload 4 67), (67, s_pushI 1 68), (68, s_icmp (fun x y => ¬ x = y) 76 71), (71, s_iload 3 72), (72, s_i2l 73), (73, s_goto 77), (76, s_lload 1 77), (77, s_lret), (78, s_lload 1 79), (79, s_iload 4 81), (81, s_i2l 82), (82, s_lbin (fun x y => x + y) 83), (83, s_lret), (84, s_lload 1 85), (85, s_iload 4 87), (87, s_i2l 88), (88, s_callS 10 2 2 91), (91, s_lret), (92, s_lload 1 93), (93, s_iload 4 95), (95, s_i2l 96), (96, s_callS 12 2 2 99), (99, s_lret), (100, s_lload 1 101), (101, s_lret)]
set_option maxRecDepth 100000 in
set_option maxHeartbeats 4000000 in
theorem ok_X5_joined (l : Launch) : mm_CodeOK l mm_I0 RX5 cX5_joined 5 (some .long) cd_X5_joined := by
  intro p e R s m args below meth c Q σ cA D A kc ks d C X
  have hx := X.1
  have hb := X.2.1
  have hown := X.2.2.2.1
  have hts := X.2.2.2.2.1
  refine mm_fc (ss_aload_n hx hb (by decide +kernel : decode cX5_joined 0 = .ok (.aload_n 0, 1)) rfl) ?_
  refine mm_fc (ss_get X rfl in_X5 (by decide) rfl wd_1_112 (by decide +kernel : decode cX5_joined 1 = .ok (.getfield 18, 3))) ?_
  refine mm_fc (ss_table hx hb (by decide +kernel : decode cX5_joined 4 = .ok (.tableswitch 96 25 30 #[40, 61, 74, 74, 80, 88], 40)) (by decide) (by decide) (by decide)) ?_
  refine mm_fc (ss_lload_n hx hb (by decide +kernel : decode cX5_joined 44 = .ok (.lload_n 1, 1)) rfl) ?_
  refine mm_fc (ss_ldc2 hx hb hown (hts _ (mm_in wd_5_205 rfl)) (by decide +kernel : decode cX5_joined 45 = .ok (.ldc2_w 49, 3))) ?_
  refine mm_fc (ss_lcmp hx hb (by decide +kernel : decode cX5_joined 48 = .ok (.lcmp, 1))) ?_
  refine mm_fc (ss_ifne hx hb (by decide +kernel : decode cX5_joined 49 = .ok (.ifCond .ne 14, 3)) (by decide)) ?_
  refine mm_fc (ss_iload hx hb (by decide +kernel : decode cX5_joined 52 = .ok (.iload 4, 2))) ?_
  refine mm_fc (ss_iconst hx hb (by decide +kernel : decode cX5_joined 54 = .ok (.iconst 1, 1)) (by decide)) ?_
  refine mm_fc (ss_icmpne hx hb (by decide +kernel : decode cX5_joined 55 = .ok (.if_icmp .ne 8, 3)) (by decide)) ?_
  refine mm_fc (ss_iload_n hx hb (by decide +kernel : decode cX5_joined 58 = .ok (.iload_n 3, 1)) rfl) ?_
  refine mm_fc (ss_i2l hx hb (by decide +kernel : decode cX5_joined 59 = .ok (.i2l, 1))) ?_
  refine mm_fc (ss_goto hx hb (by decide +kernel : decode cX5_joined 60 = .ok (.goto 4, 3)) (by decide)) ?_
  refine mm_fc (ss_lload_n hx hb (by decide +kernel : decode cX5_joined 63 = .ok (.lload_n 1, 1)) rfl) ?_
  refine mm_fc (ss_lret (by decide +kernel : decode cX5_joined 64 = .ok (.lreturn, 1)) rfl) ?_
  refine mm_fc (ss_iload hx hb (by decide +kernel : decode cX5_joined 65 = .ok (.iload 4, 2))) ?_
  refine mm_fc (ss_iconst hx hb (by decide +kernel : decode cX5_joined 67 = .ok (.iconst 1, 1)) (by decide)) ?_
  refine mm_fc (ss_icmpne hx hb (by decide +kernel : decode cX5_joined 68 = .ok (.if_icmp .ne 8, 3)) (by decide)) ?_
  refine mm_fc (ss_iload_n hx hb (by decide +kernel : decode cX5_joined 71 = .ok (.iload_n 3, 1)) rfl) ?_
  refine mm_fc (ss_i2l hx hb (by decide +kernel : decode cX5_joined 72 = .ok (.i2l, 1))) ?_
  refine mm_fc (ss_goto hx hb (by decide +kernel : decode cX5_joined 73 = .ok (.goto 4, 3)) (by decide)) ?_
  refine mm_fc (ss_lload_n hx hb (by decide +kernel : decode cX5_joined 76 = .ok (.lload_n 1, 1)) rfl) ?_
  refine mm_fc (ss_lret (by decide +kernel : decode cX5_joined 77 = .ok (.lreturn, 1)) rfl) ?_
  refine mm_fc (ss_lload_n hx hb (by decide +kernel : decode cX5_joined 78 = .ok (.lload_n 1, 1)) rfl) ?_
  refine mm_fc (ss_iload hx hb (by decide +kernel : decode cX5_joined 79 = .ok (.iload 4, 2))) ?_
  refine mm_fc (ss_i2l hx hb (by decide +kernel : decode cX5_joined 81 = .ok (.i2l, 1))) ?_
  refine mm_fc (ss_ladd hx hb (by decide +kernel : decode cX5_joined 82 = .ok (.ladd, 1))) ?_
  refine mm_fc (ss_lret (by decide +kernel : decode cX5_joined 83 = .ok (.lreturn, 1)) rfl) ?_
  refine mm_fc (ss_lload_n hx hb (by decide +kernel : decode cX5_joined 84 = .ok (.lload_n 1, 1)) rfl) ?_
  refine mm_fc (ss_iload hx hb (by decide +kernel : decode cX5_joined 85 = .ok (.iload 4, 2))) ?_
  refine mm_fc (ss_i2l hx hb (by decide +kernel : decode cX5_joined 87 = .ok (.i2l, 1))) ?_
  refine mm_fc (ss_callS X rfl wd_5_223 wd_1_14 wd_5_221 wd_5_222 (by decide +kernel) (by decide +kernel) (by decide) (by decide +kernel : decode cX5_joined 88 = .ok (.invokestatic 68, 3))) ?_
  refine mm_fc (ss_lret (by decide +kernel : decode cX5_joined 91 = .ok (.lreturn, 1)) rfl) ?_
  refine mm_fc (ss_lload_n hx hb (by decide +kernel : decode cX5_joined 92 = .ok (.lload_n 1, 1)) rfl) ?_
  refine mm_fc (ss_iload hx hb (by decide +kernel : decode cX5_joined 93 = .ok (.iload 4, 2))) ?_
  refine mm_fc (ss_i2l hx hb (by decide +kernel : decode cX5_joined 95 = .ok (.i2l, 1))) ?_
  refine mm_fc (ss_callS X rfl wd_5_226 wd_1_14 wd_5_224 wd_5_225 (by decide +kernel) (by decide +kernel) (by decide) (by decide +kernel : decode cX5_joined 96 = .ok (.invokestatic 74, 3))) ?_
  refine mm_fc (ss_lret (by decide +kernel : decode cX5_joined 99 = .ok (.lreturn, 1)) rfl) ?_
  refine mm_fc (ss_lload_n hx hb (by decide +kernel : decode cX5_joined 100 = .ok (.lload_n 1, 1)) rfl) ?_
  refine mm_fc (ss_lret (by decide +kernel : decode cX5_joined 101 = .ok (.lreturn, 1)) rfl) ?_
  exact mm_fn
def cd_X5_setFor : mm_K mm_H := [(0, s_aload 0 1), (1, s_get 5 0 4), (4, s_pushI 16 6), (6, s_iload 2 7), (7, s_callV 1 38 2 0 10), (10, s_aload 0 11), (11, s_get 5 0 14), (14, s_pushI 17 16), (16, s_aload 1 17), (17, s_iload 2 18), (18, s_callV 7 105 1 1 21), (21, s_callV 1 38 2 0 24), (24, s_aload 0 25), (25, s_get 5 0 28), (28, s_pushI 11 30), (30, s_aload 1 31), (31, s_iload 2 32), (32, s_callV 7 106 1 1 35), (35, s_callV 1 38 2 0 38), (38, s_aload 0 39), (39, s_get 5 0 42), (42, s_pushI 3 43), (43, s_aload 1 44), (44, s_iload 2 45), (45, s_callV 7 107 1 1 48), (48, s_callV 1 38 2 0 51), (51, s_aload 0 52), (52, s_get 5 0 55), (55, s_pushI 4 56), (56, s_aload 1 57), (57, s_iload 2 58), (58, s_callV 7 108 1 1 61), (61, s_callV 1 38 2 0 64), (64, s_aload 0 65), (65, s_get 5 0 68), (68, s_pushI 18 70), (70, s_aload 1 71), (71, s_iload 2 72), (72, s_callV 7 109 1 1 75), (75, s_callV 1 38 2 0 78), (78, s_aload 0 79), (79, s_get 5 0 82), (82, s_pushI 15 84), (84, s_aload 1 85), (85, s_get 7 11 88), (88, s_callV 1 38 2 0 91), (91, s_vret)]
set_option maxRecDepth 100000 in
set_option maxHeartbeats 4000000 in
theorem ok_X5_setFor (l : Launch) : mm_CodeOK l mm_I0 RX5 cX5_setFor 3 none cd_X5_setFor := by
  intro p e R s m args below meth c Q σ cA D A kc ks d C X
  have hx := X.1
  have hb := X.2.1
  have hown := X.2.2.2.1
  have hts := X.2.2.2.2.1
  refine mm_fc (ss_aload_n hx hb (by decide +kernel : decode cX5_setFor 0 = .ok (.aload_n 0, 1)) rfl) ?_
  refine mm_fc (ss_get X rfl in_X5 (by decide) rfl wd_1_110 (by decide +kernel : decode cX5_setFor 1 = .ok (.getfield 12, 3))) ?_
  refine mm_fc (ss_bipush hx hb (by decide +kernel : decode cX5_setFor 4 = .ok (.bipush 16, 2)) (by decide)) ?_
  refine mm_fc (ss_iload_n hx hb (by decide +kernel : decode cX5_setFor 6 = .ok (.iload_n 2, 1)) rfl) ?_
  refine mm_fc (ss_callV X rfl rfl wd_4_72 wd_1_5 wd_5_210 wd_4_70 wd_4_71 (by decide +kernel) (by decide +kernel) (by decide) (by decide +kernel : decode cX5_setFor 7 = .ok (.invokevirtual 77, 3))) ?_
  refine mm_fc (ss_aload_n hx hb (by decide +kernel : decode cX5_setFor 10 = .ok (.aload_n 0, 1)) rfl) ?_
  refine mm_fc (ss_get X rfl in_X5 (by decide) rfl wd_1_110 (by decide +kernel : decode cX5_setFor 11 = .ok (.getfield 12, 3))) ?_
  refine mm_fc (ss_bipush hx hb (by decide +kernel : decode cX5_setFor 14 = .ok (.bipush 17, 2)) (by decide)) ?_
  refine mm_fc (ss_aload_n hx hb (by decide +kernel : decode cX5_setFor 16 = .ok (.aload_n 1, 1)) rfl) ?_
  refine mm_fc (ss_iload_n hx hb (by decide +kernel : decode cX5_setFor 17 = .ok (.iload_n 2, 1)) rfl) ?_
  refine mm_fc (ss_callV X rfl rfl wd_4_159 wd_1_8 wd_5_211 wd_4_157 wd_4_158 (by decide +kernel) (by decide +kernel) (by decide) (by decide +kernel : decode cX5_setFor 18 = .ok (.invokevirtual 81, 3))) ?_
  refine mm_fc (ss_callV X rfl rfl wd_4_72 wd_1_5 wd_5_210 wd_4_70 wd_4_71 (by decide +kernel) (by decide +kernel) (by decide) (by decide +kernel : decode cX5_setFor 21 = .ok (.invokevirtual 77, 3))) ?_
  refine mm_fc (ss_aload_n hx hb (by decide +kernel : decode cX5_setFor 24 = .ok (.aload_n 0, 1)) rfl) ?_
  refine mm_fc (ss_get X rfl in_X5 (by decide) rfl wd_1_110 (by decide +kernel : decode cX5_setFor 25 = .ok (.getfield 12, 3))) ?_
  refine mm_fc (ss_bipush hx hb (by decide +kernel : decode cX5_setFor 28 = .ok (.bipush 11, 2)) (by decide)) ?_
  refine mm_fc (ss_aload_n hx hb (by decide +kernel : decode cX5_setFor 30 = .ok (.aload_n 1, 1)) rfl) ?_
  refine mm_fc (ss_iload_n hx hb (by decide +kernel : decode cX5_setFor 31 = .ok (.iload_n 2, 1)) rfl) ?_
  refine mm_fc (ss_callV X rfl rfl wd_4_42 wd_1_8 wd_5_212 wd_4_40 wd_4_41 (by decide +kernel) (by decide +kernel) (by decide) (by decide +kernel : decode cX5_setFor 32 = .ok (.invokevirtual 85, 3))) ?_
  refine mm_fc (ss_callV X rfl rfl wd_4_72 wd_1_5 wd_5_210 wd_4_70 wd_4_71 (by decide +kernel) (by decide +kernel) (by decide) (by decide +kernel : decode cX5_setFor 35 = .ok (.invokevirtual 77, 3))) ?_
  refine mm_fc (ss_aload_n hx hb (by decide +kernel : decode cX5_setFor 38 = .ok (.aload_n 0, 1)) rfl) ?_
  refine mm_fc (ss_get X rfl in_X5 (by decide) rfl wd_1_110 (by decide +kernel : decode cX5_setFor 39 = .ok (.getfield 12, 3))) ?_
  refine mm_fc (ss_iconst hx hb (by decide +kernel : decode cX5_setFor 42 = .ok (.iconst 3, 1)) (by decide)) ?_
  refine mm_fc (ss_aload_n hx hb (by decide +kernel : decode cX5_setFor 43 = .ok (.aload_n 1, 1)) rfl) ?_
  refine mm_fc (ss_iload_n hx hb (by decide +kernel : decode cX5_setFor 44 = .ok (.iload_n 2, 1)) rfl) ?_
  refine mm_fc (ss_callV X rfl rfl wd_4_68 wd_1_8 wd_5_213 wd_4_66 wd_4_67 (by decide +kernel) (by decide +kernel) (by decide) (by decide +kernel : decode cX5_setFor 45 = .ok (.invokevirtual 88, 3))) ?_
  refine mm_fc (ss_callV X rfl rfl wd_4_72 wd_1_5 wd_5_210 wd_4_70 wd_4_71 (by decide +kernel) (by decide +kernel) (by decide) (by decide +kernel : decode cX5_setFor 48 = .ok (.invokevirtual 77, 3))) ?_
  refine mm_fc (ss_aload_n hx hb (by decide +kernel : decode cX5_setFor 51 = .ok (.aload_n 0, 1)) rfl) ?_
  refine mm_fc (ss_get X rfl in_X5 (by decide) rfl wd_1_110 (by decide +kernel : decode cX5_setFor 52 = .ok (.getfield 12, 3))) ?_
  refine mm_fc (ss_iconst hx hb (by decide +kernel : decode cX5_setFor 55 = .ok (.iconst 4, 1)) (by decide)) ?_
  refine mm_fc (ss_aload_n hx hb (by decide +kernel : decode cX5_setFor 56 = .ok (.aload_n 1, 1)) rfl) ?_
  refine mm_fc (ss_iload_n hx hb (by decide +kernel : decode cX5_setFor 57 = .ok (.iload_n 2, 1)) rfl) ?_
  refine mm_fc (ss_callV X rfl rfl wd_4_76 wd_1_8 wd_5_214 wd_4_74 wd_4_75 (by decide +kernel) (by decide +kernel) (by decide) (by decide +kernel : decode cX5_setFor 58 = .ok (.invokevirtual 91, 3))) ?_
  refine mm_fc (ss_callV X rfl rfl wd_4_72 wd_1_5 wd_5_210 wd_4_70 wd_4_71 (by decide +kernel) (by decide +kernel) (by decide) (by decide +kernel : decode cX5_setFor 61 = .ok (.invokevirtual 77, 3))) ?_
  refine mm_fc (ss_aload_n hx hb (by decide +kernel : decode cX5_setFor 64 = .ok (.aload_n 0, 1)) rfl) ?_
  refine mm_fc (ss_get X rfl in_X5 (by decide) rfl wd_1_110 (by decide +kernel : decode cX5_setFor 65 = .ok (.getfield 12, 3))) ?_
  refine mm_fc (ss_bipush hx hb (by decide +kernel : decode cX5_setFor 68 = .ok (.bipush 18, 2)) (by decide)) ?_
  refine mm_fc (ss_aload_n hx hb (by decide +kernel : decode cX5_setFor 70 = .ok (.aload_n 1, 1)) rfl) ?_
  refine mm_fc (ss_iload_n hx hb (by decide +kernel : decode cX5_setFor 71 = .ok (.iload_n 2, 1)) rfl) ?_
  refine mm_fc (ss_callV X rfl rfl wd_4_50 wd_1_8 wd_5_215 wd_4_48 wd_4_49 (by decide +kernel) (by decide +kernel) (by decide) (by decide +kernel : decode cX5_setFor 72 = .ok (.invokevirtual 94, 3))) ?_
  refine mm_fc (ss_callV X rfl rfl wd_4_72 wd_1_5 wd_5_210 wd_4_70 wd_4_71 (by decide +kernel) (by decide +kernel) (by decide) (by decide +kernel : decode cX5_setFor 75 = .ok (.invokevirtual 77, 3))) ?_
  refine mm_fc (ss_aload_n hx hb (by decide +kernel : decode cX5_setFor 78 = .ok (.aload_n 0, 1)) rfl) ?_
  refine mm_fc (ss_get X rfl in_X5 (by decide) rfl wd_1_110 (by decide +kernel : decode cX5_setFor 79 = .ok (.getfield 12, 3))) ?_
  refine mm_fc (ss_bipush hx hb (by decide +kernel : decode cX5_setFor 82 = .ok (.bipush 15, 2)) (by decide)) ?_
  refine mm_fc (ss_aload_n hx hb (by decide +kernel : decode cX5_setFor 84 = .ok (.aload_n 1, 1)) rfl) ?_
  refine mm_fc (ss_getN X rfl in_X7 (by decide) rfl wd_1_180 (by decide +kernel : decode cX5_setFor 85 = .ok (.getfield 97, 3))) ?_
  refine mm_fc (ss_callV X rfl rfl wd_4_72 wd_1_5 wd_5_210 wd_4_70 wd_4_71 (by decide +kernel) (by decide +kernel) (by decide) (by decide +kernel : decode cX5_setFor 88 = .ok (.invokevirtual 77, 3))) ?_
  refine mm_fc (ss_vret (by decide +kernel : decode cX5_setFor 91 = .ok (.return_, 1)) rfl) ?_
  exact mm_fn
def cd_X6_begin : mm_K mm_H := [(0, s_aload 0 1), (1, s_pushI 0 2), (2, s_putI 6 5 5), (5, s_aload 0 6), (6, s_pushI (-1) 7), (7, s_putI 6 6 10), (10, s_aload 0 11), (11, s_pushI 0 12), (12, s_putI 6 1 15), (15, s_aload 0 16), (16, s_pushI 0 17), (17, s_putI 6 3 20), (20, s_aload 0 21), (21, s_callV 6 75 0 0 24), (24, s_vret)]
set_option maxRecDepth 100000 in
set_option maxHeartbeats 4000000 in
theorem ok_X6_begin (l : Launch) : mm_CodeOK l mm_I0 RX6 cX6_begin 1 none cd_X6_begin := by
  intro p e R s m args below meth c Q σ cA D A kc ks d C X
  have hx := X.1
  have hb := X.2.1
  have hown := X.2.2.2.1
  have hts := X.2.2.2.2.1
  refine mm_fc (ss_aload_n hx hb (by decide +kernel : decode cX6_begin 0 = .ok (.aload_n 0, 1)) rfl) ?_
  refine mm_fc (ss_iconst hx hb (by decide +kernel : decode cX6_begin 1 = .ok (.iconst 0, 1)) (by decide)) ?_
  refine mm_fc (ss_putI X rfl in_X6 tyX6_ok nmX6 (by decide) rfl rfl rfl rfl wd_1_57 (by decide +kernel : decode cX6_begin 2 = .ok (.putfield 24, 3))) ?_
  refine mm_fc (ss_aload_n hx hb (by decide +kernel : decode cX6_begin 5 = .ok (.aload_n 0, 1)) rfl) ?_
  refine mm_fc (ss_iconst hx hb (by decide +kernel : decode cX6_begin 6 = .ok (.iconst (-1), 1)) (by decide)) ?_
  refine mm_fc (ss_putI X rfl in_X6 tyX6_ok nmX6 (by decide) rfl rfl rfl rfl wd_1_59 (by decide +kernel : decode cX6_begin 7 = .ok (.putfield 27, 3))) ?_
  refine mm_fc (ss_aload_n hx hb (by decide +kernel : decode cX6_begin 10 = .ok (.aload_n 0, 1)) rfl) ?_
  refine mm_fc (ss_iconst hx hb (by decide +kernel : decode cX6_begin 11 = .ok (.iconst 0, 1)) (by decide)) ?_
  refine mm_fc (ss_putI X rfl in_X6 tyX6_ok nmX6 (by decide) rfl rfl rfl rfl wd_1_50 (by decide +kernel : decode cX6_begin 12 = .ok (.putfield 9, 3))) ?_
  refine mm_fc (ss_aload_n hx hb (by decide +kernel : decode cX6_begin 15 = .ok (.aload_n 0, 1)) rfl) ?_
  refine mm_fc (ss_iconst hx hb (by decide +kernel : decode cX6_begin 16 = .ok (.iconst 0, 1)) (by decide)) ?_
  refine mm_fc (ss_putI X rfl in_X6 tyX6_ok nmX6 (by decide) rfl rfl rfl rfl wd_1_52 (by decide +kernel : decode cX6_begin 17 = .ok (.putfield 18, 3))) ?_
  refine mm_fc (ss_aload_n hx hb (by decide +kernel : decode cX6_begin 20 = .ok (.aload_n 0, 1)) rfl) ?_
  refine mm_fc (ss_callV X rfl rfl wd_2_189 wd_1_3 wd_2_186 wd_2_187 wd_2_188 (by decide +kernel) (by decide +kernel) (by decide) (by decide +kernel : decode cX6_begin 21 = .ok (.invokevirtual 34, 3))) ?_
  refine mm_fc (ss_vret (by decide +kernel : decode cX6_begin 24 = .ok (.return_, 1)) rfl) ?_
  exact mm_fn
def cd_X6_advance : mm_K mm_H := [(0, s_aload 0 1), (1, s_get 6 1 4), (4, s_pushI 1 5), (5, s_icmp (fun x y => x = y) 16 8), (8, s_aload 0 9), (9, s_get 6 1 12), (12, s_pushI 2 13), (13, s_icmp (fun x y => ¬ x = y) 20 16), (16, s_pushI 1 17), (17, s_goto 21), (20, s_pushI 0 21), (21, s_istore 1 22), (22, s_aload 0 23), (23, s_get 6 3 26), (26, s_istore 2 27), (27, s_aload 0 28), (28, s_aload 0 29), (29, s_iload 2 30), (30, s_callV 6 91 1 1 33), (33, s_putI 6 2 36), (36, s_aload 0 37), (37, s_get 6 0 40), (40, s_aload 0 41), (41, s_get 6 2 44), (44, s_callV 8 126 1 1 47), (47, s_istore 3 48), (48, s_iload 3 49), (49, s_pushI (-1) 50), (50, s_icmp (fun x y => ¬ x = y) 69 53), (53, s_aload 0 54), (54, s_pushI 0 55), (55, s_putI 6 1 58), (58, s_aload 0 59), (59, s_aload 0 60), (60, s_get 6 2 63), (63, s_putI 6 3 66), (66, s_goto 175), (69, s_iload 3 70), (70, s_callS 97 1 1 73), (73, s_if (fun x => x = 0) 112 76), (76, s_aload 0 77), (77, s_pushI 1 78), (78, s_putI 6 1 81), (81, s_aload 0 82), (82, s_aload 0 83), (83, s_aload 0 84), (84, s_get 6 2 87), (87, s_callV 6 92 1 1 90), (90, s_putI 6 3 93), (93, s_aload 0 94), (94, s_aload 0 95), (95, s_aload 0 96), (96, s_get 6 2 99), (99, s_aload 0 100), (100, s_get 6 3 103), (103, s_callV 6 94 2 1 106), (106, s_putI 6 4 109), (109, s_goto 175), (112, s_iload 3 113), (113, s_callS 98 1 1 116), (116, s_if (fun x => x = 0) 155 119), (119, s_aload 0 120), (120, s_pushI 2 121), (121, s_putI 6 1 124), (124, s_aload 0 125), (125, s_aload 0 126), (126, s_aload 0 127), (127, s_get 6 2 130), (130, s_callV 6 93 1 1 133), (133, s_putI 6 3 136), (136, s_aload 0 137), (137, s_aload 0 138), (138, s_aload 0 139), (139, s_get 6 2 142), (142, s_aload 0 143), (143, s_get 6 3 146), (146, s_callV 6 95 2 1 149), (149, s_putI 6 4 152), (152, s_goto 175), (155, s_aload 0 156), (156, s_pushI 3 157), (157, s_putI 6 1 160), (160, s_aload 0 161), (161, s_aload 0 162), (162, s_get 6 2 165), (165, s_pushI 1 166), (166, s_bin (fun x y => x + y) 167), (167, s_putI 6 3 170), (170, s_aload 0 171), (171, s_iload 3 172), (172, s_putI 6 4 175), (175, s_iload 1 176), (176, s_if (fun x => x = 0) 207 179), (179, s_aload 0 180), (180, s_get 6 2 183), (183, s_iload 2 184), (184, s_icmp (fun x y => ¬ x = y) 207 187), (187, s_aload 0 188), (188, s_get 6 1 191), (191, s_pushI 1 192), (192, s_icmp (fun x y => x = y) 203 195), (195, s_aload 0 196), (196, s_get 6 1 199), (199, s_pushI 2 200), (200, s_icmp (fun x y => ¬ x = y) 207 203), (203, s_pushI 1 204), (204, s_goto 208), (207, s_pushI 0 208), (208, s_istore 4 210), (210, s_aload 0 211), (211, s_iload 4 213), (213, s_if (fun x => x = 0) 220 216), (216, s_pushI 4 217), (217, s_goto 224), (220, s_aload 0 221), (221, s_get 6 1 224), (224, s_putI 6 1 227), (227, s_vret)]
set_option maxRecDepth 100000 in
set_option maxHeartbeats 4000000 in
theorem ok_X6_advance (l : Launch) : mm_CodeOK l mm_I0 RX6 cX6_advance 5 none cd_X6_advance := by
  intro p e R s m args below meth c Q σ cA D A kc ks d C X
  have hx := X.1
  have hb := X.2.1
  have hown := X.2.2.2.1
  have hts := X.2.2.2.2.1
  refine mm_fc (ss_aload_n hx hb (by decide +kernel : decode cX6_advance 0 = .ok (.aload_n 0, 1)) rfl) ?_
  refine mm_fc (ss_get X rfl in_X6 (by decide) rfl wd_1_50 (by decide +kernel : decode cX6_advance 1 = .ok (.getfield 9, 3))) ?_
  refine mm_fc (ss_iconst hx hb (by decide +kernel : decode cX6_advance 4 = .ok (.iconst 1, 1)) (by decide)) ?_
  refine mm_fc (ss_icmpeq hx hb (by decide +kernel : decode cX6_advance 5 = .ok (.if_icmp .eq 11, 3)) (by decide)) ?_
  refine mm_fc (ss_aload_n hx hb (by decide +kernel : decode cX6_advance 8 = .ok (.aload_n 0, 1)) rfl) ?_
  refine mm_fc (ss_get X rfl in_X6 (by decide) rfl wd_1_50 (by decide +kernel : decode cX6_advance 9 = .ok (.getfield 9, 3))) ?_
  refine mm_fc (ss_iconst hx hb (by decide +kernel : decode cX6_advance 12 = .ok (.iconst 2, 1)) (by decide)) ?_
  refine mm_fc (ss_icmpne hx hb (by decide +kernel : decode cX6_advance 13 = .ok (.if_icmp .ne 7, 3)) (by decide)) ?_
  refine mm_fc (ss_iconst hx hb (by decide +kernel : decode cX6_advance 16 = .ok (.iconst 1, 1)) (by decide)) ?_
  refine mm_fc (ss_goto hx hb (by decide +kernel : decode cX6_advance 17 = .ok (.goto 4, 3)) (by decide)) ?_
  refine mm_fc (ss_iconst hx hb (by decide +kernel : decode cX6_advance 20 = .ok (.iconst 0, 1)) (by decide)) ?_
  refine mm_fc (ss_istore_n hx hb (by decide +kernel : decode cX6_advance 21 = .ok (.istore_n 1, 1)) rfl (by decide)) ?_
  refine mm_fc (ss_aload_n hx hb (by decide +kernel : decode cX6_advance 22 = .ok (.aload_n 0, 1)) rfl) ?_
  refine mm_fc (ss_get X rfl in_X6 (by decide) rfl wd_1_52 (by decide +kernel : decode cX6_advance 23 = .ok (.getfield 18, 3))) ?_
  refine mm_fc (ss_istore_n hx hb (by decide +kernel : decode cX6_advance 26 = .ok (.istore_n 2, 1)) rfl (by decide)) ?_
  refine mm_fc (ss_aload_n hx hb (by decide +kernel : decode cX6_advance 27 = .ok (.aload_n 0, 1)) rfl) ?_
  refine mm_fc (ss_aload_n hx hb (by decide +kernel : decode cX6_advance 28 = .ok (.aload_n 0, 1)) rfl) ?_
  refine mm_fc (ss_iload_n hx hb (by decide +kernel : decode cX6_advance 29 = .ok (.iload_n 2, 1)) rfl) ?_
  refine mm_fc (ss_callV X rfl rfl wd_2_193 wd_1_3 wd_2_190 wd_2_192 wd_p_1 (by decide +kernel) (by decide +kernel) (by decide) (by decide +kernel : decode cX6_advance 30 = .ok (.invokevirtual 37, 3))) ?_
  refine mm_fc (ss_putI X rfl in_X6 tyX6_ok nmX6 (by decide) rfl rfl rfl rfl wd_1_51 (by decide +kernel : decode cX6_advance 33 = .ok (.putfield 15, 3))) ?_
  refine mm_fc (ss_aload_n hx hb (by decide +kernel : decode cX6_advance 36 = .ok (.aload_n 0, 1)) rfl) ?_
  refine mm_fc (ss_get X rfl in_X6 (by decide) rfl wd_1_49 (by decide +kernel : decode cX6_advance 37 = .ok (.getfield 30, 3))) ?_
  refine mm_fc (ss_aload_n hx hb (by decide +kernel : decode cX6_advance 40 = .ok (.aload_n 0, 1)) rfl) ?_
  refine mm_fc (ss_get X rfl in_X6 (by decide) rfl wd_1_51 (by decide +kernel : decode cX6_advance 41 = .ok (.getfield 15, 3))) ?_
  refine mm_fc (ss_callV X rfl rfl wd_2_198 wd_1_2 wd_2_195 wd_2_196 wd_2_197 (by decide +kernel) (by decide +kernel) (by decide) (by decide +kernel : decode cX6_advance 44 = .ok (.invokevirtual 41, 3))) ?_
  refine mm_fc (ss_istore_n hx hb (by decide +kernel : decode cX6_advance 47 = .ok (.istore_n 3, 1)) rfl (by decide)) ?_
  refine mm_fc (ss_iload_n hx hb (by decide +kernel : decode cX6_advance 48 = .ok (.iload_n 3, 1)) rfl) ?_
  refine mm_fc (ss_iconst hx hb (by decide +kernel : decode cX6_advance 49 = .ok (.iconst (-1), 1)) (by decide)) ?_
  refine mm_fc (ss_icmpne hx hb (by decide +kernel : decode cX6_advance 50 = .ok (.if_icmp .ne 19, 3)) (by decide)) ?_
  refine mm_fc (ss_aload_n hx hb (by decide +kernel : decode cX6_advance 53 = .ok (.aload_n 0, 1)) rfl) ?_
  refine mm_fc (ss_iconst hx hb (by decide +kernel : decode cX6_advance 54 = .ok (.iconst 0, 1)) (by decide)) ?_
  refine mm_fc (ss_putI X rfl in_X6 tyX6_ok nmX6 (by decide) rfl rfl rfl rfl wd_1_50 (by decide +kernel : decode cX6_advance 55 = .ok (.putfield 9, 3))) ?_
  refine mm_fc (ss_aload_n hx hb (by decide +kernel : decode cX6_advance 58 = .ok (.aload_n 0, 1)) rfl) ?_
  refine mm_fc (ss_aload_n hx hb (by decide +kernel : decode cX6_advance 59 = .ok (.aload_n 0, 1)) rfl) ?_
  refine mm_fc (ss_get X rfl in_X6 (by decide) rfl wd_1_51 (by decide +kernel : decode cX6_advance 60 = .ok (.getfield 15, 3))) ?_
  refine mm_fc (ss_putI X rfl in_X6 tyX6_ok nmX6 (by decide) rfl rfl rfl rfl wd_1_52 (by decide +kernel : decode cX6_advance 63 = .ok (.putfield 18, 3))) ?_
  refine mm_fc (ss_goto hx hb (by decide +kernel : decode cX6_advance 66 = .ok (.goto 109, 3)) (by decide)) ?_
  refine mm_fc (ss_iload_n hx hb (by decide +kernel : decode cX6_advance 69 = .ok (.iload_n 3, 1)) rfl) ?_
  refine mm_fc (ss_callS X rfl wd_2_204 wd_1_3 wd_2_202 wd_2_203 (by decide +kernel) (by decide +kernel) (by decide) (by decide +kernel : decode cX6_advance 70 = .ok (.invokestatic 46, 3))) ?_
  refine mm_fc (ss_ifeq hx hb (by decide +kernel : decode cX6_advance 73 = .ok (.ifCond .eq 39, 3)) (by decide)) ?_
  refine mm_fc (ss_aload_n hx hb (by decide +kernel : decode cX6_advance 76 = .ok (.aload_n 0, 1)) rfl) ?_
  refine mm_fc (ss_iconst hx hb (by decide +kernel : decode cX6_advance 77 = .ok (.iconst 1, 1)) (by decide)) ?_
  refine mm_fc (ss_putI X rfl in_X6 tyX6_ok nmX6 (by decide) rfl rfl rfl rfl wd_1_50 (by decide +kernel : decode cX6_advance 78 = .ok (.putfield 9, 3))) ?_
  refine mm_fc (ss_aload_n hx hb (by decide +kernel : decode cX6_advance 81 = .ok (.aload_n 0, 1)) rfl) ?_
  refine mm_fc (ss_aload_n hx hb (by decide +kernel : decode cX6_advance 82 = .ok (.aload_n 0, 1)) rfl) ?_
  refine mm_fc (ss_aload_n hx hb (by decide +kernel : decode cX6_advance 83 = .ok (.aload_n 0, 1)) rfl) ?_
  refine mm_fc (ss_get X rfl in_X6 (by decide) rfl wd_1_51 (by decide +kernel : decode cX6_advance 84 = .ok (.getfield 15, 3))) ?_
  refine mm_fc (ss_callV X rfl rfl wd_2_208 wd_1_3 wd_2_205 wd_2_207 wd_p_2 (by decide +kernel) (by decide +kernel) (by decide) (by decide +kernel : decode cX6_advance 87 = .ok (.invokevirtual 50, 3))) ?_
  refine mm_fc (ss_putI X rfl in_X6 tyX6_ok nmX6 (by decide) rfl rfl rfl rfl wd_1_52 (by decide +kernel : decode cX6_advance 90 = .ok (.putfield 18, 3))) ?_
  refine mm_fc (ss_aload_n hx hb (by decide +kernel : decode cX6_advance 93 = .ok (.aload_n 0, 1)) rfl) ?_
  refine mm_fc (ss_aload_n hx hb (by decide +kernel : decode cX6_advance 94 = .ok (.aload_n 0, 1)) rfl) ?_
  refine mm_fc (ss_aload_n hx hb (by decide +kernel : decode cX6_advance 95 = .ok (.aload_n 0, 1)) rfl) ?_
  refine mm_fc (ss_get X rfl in_X6 (by decide) rfl wd_1_51 (by decide +kernel : decode cX6_advance 96 = .ok (.getfield 15, 3))) ?_
  refine mm_fc (ss_aload_n hx hb (by decide +kernel : decode cX6_advance 99 = .ok (.aload_n 0, 1)) rfl) ?_
  refine mm_fc (ss_get X rfl in_X6 (by decide) rfl wd_1_52 (by decide +kernel : decode cX6_advance 100 = .ok (.getfield 18, 3))) ?_
  refine mm_fc (ss_callV X rfl rfl wd_2_212 wd_1_3 wd_2_209 wd_2_211 wd_p_3 (by decide +kernel) (by decide +kernel) (by decide) (by decide +kernel : decode cX6_advance 103 = .ok (.invokevirtual 53, 3))) ?_
  refine mm_fc (ss_putI X rfl in_X6 tyX6_ok nmX6 (by decide) rfl rfl rfl rfl wd_1_53 (by decide +kernel : decode cX6_advance 106 = .ok (.putfield 21, 3))) ?_
  refine mm_fc (ss_goto hx hb (by decide +kernel : decode cX6_advance 109 = .ok (.goto 66, 3)) (by decide)) ?_
  refine mm_fc (ss_iload_n hx hb (by decide +kernel : decode cX6_advance 112 = .ok (.iload_n 3, 1)) rfl) ?_
  refine mm_fc (ss_callS X rfl wd_3_24 wd_1_3 wd_3_22 wd_3_23 (by decide +kernel) (by decide +kernel) (by decide) (by decide +kernel : decode cX6_advance 113 = .ok (.invokestatic 57, 3))) ?_
  refine mm_fc (ss_ifeq hx hb (by decide +kernel : decode cX6_advance 116 = .ok (.ifCond .eq 39, 3)) (by decide)) ?_
  refine mm_fc (ss_aload_n hx hb (by decide +kernel : decode cX6_advance 119 = .ok (.aload_n 0, 1)) rfl) ?_
  refine mm_fc (ss_iconst hx hb (by decide +kernel : decode cX6_advance 120 = .ok (.iconst 2, 1)) (by decide)) ?_
  refine mm_fc (ss_putI X rfl in_X6 tyX6_ok nmX6 (by decide) rfl rfl rfl rfl wd_1_50 (by decide +kernel : decode cX6_advance 121 = .ok (.putfield 9, 3))) ?_
  refine mm_fc (ss_aload_n hx hb (by decide +kernel : decode cX6_advance 124 = .ok (.aload_n 0, 1)) rfl) ?_
  refine mm_fc (ss_aload_n hx hb (by decide +kernel : decode cX6_advance 125 = .ok (.aload_n 0, 1)) rfl) ?_
  refine mm_fc (ss_aload_n hx hb (by decide +kernel : decode cX6_advance 126 = .ok (.aload_n 0, 1)) rfl) ?_
  refine mm_fc (ss_get X rfl in_X6 (by decide) rfl wd_1_51 (by decide +kernel : decode cX6_advance 127 = .ok (.getfield 15, 3))) ?_
  refine mm_fc (ss_callV X rfl rfl wd_3_28 wd_1_3 wd_3_25 wd_3_27 wd_p_4 (by decide +kernel) (by decide +kernel) (by decide) (by decide +kernel : decode cX6_advance 130 = .ok (.invokevirtual 60, 3))) ?_
  refine mm_fc (ss_putI X rfl in_X6 tyX6_ok nmX6 (by decide) rfl rfl rfl rfl wd_1_52 (by decide +kernel : decode cX6_advance 133 = .ok (.putfield 18, 3))) ?_
  refine mm_fc (ss_aload_n hx hb (by decide +kernel : decode cX6_advance 136 = .ok (.aload_n 0, 1)) rfl) ?_
  refine mm_fc (ss_aload_n hx hb (by decide +kernel : decode cX6_advance 137 = .ok (.aload_n 0, 1)) rfl) ?_
  refine mm_fc (ss_aload_n hx hb (by decide +kernel : decode cX6_advance 138 = .ok (.aload_n 0, 1)) rfl) ?_
  refine mm_fc (ss_get X rfl in_X6 (by decide) rfl wd_1_51 (by decide +kernel : decode cX6_advance 139 = .ok (.getfield 15, 3))) ?_
  refine mm_fc (ss_aload_n hx hb (by decide +kernel : decode cX6_advance 142 = .ok (.aload_n 0, 1)) rfl) ?_
  refine mm_fc (ss_get X rfl in_X6 (by decide) rfl wd_1_52 (by decide +kernel : decode cX6_advance 143 = .ok (.getfield 18, 3))) ?_
  refine mm_fc (ss_callV X rfl rfl wd_3_32 wd_1_3 wd_3_29 wd_3_31 wd_p_5 (by decide +kernel) (by decide +kernel) (by decide) (by decide +kernel : decode cX6_advance 146 = .ok (.invokevirtual 63, 3))) ?_
  refine mm_fc (ss_putI X rfl in_X6 tyX6_ok nmX6 (by decide) rfl rfl rfl rfl wd_1_53 (by decide +kernel : decode cX6_advance 149 = .ok (.putfield 21, 3))) ?_
  refine mm_fc (ss_goto hx hb (by decide +kernel : decode cX6_advance 152 = .ok (.goto 23, 3)) (by decide)) ?_
  refine mm_fc (ss_aload_n hx hb (by decide +kernel : decode cX6_advance 155 = .ok (.aload_n 0, 1)) rfl) ?_
  refine mm_fc (ss_iconst hx hb (by decide +kernel : decode cX6_advance 156 = .ok (.iconst 3, 1)) (by decide)) ?_
  refine mm_fc (ss_putI X rfl in_X6 tyX6_ok nmX6 (by decide) rfl rfl rfl rfl wd_1_50 (by decide +kernel : decode cX6_advance 157 = .ok (.putfield 9, 3))) ?_
  refine mm_fc (ss_aload_n hx hb (by decide +kernel : decode cX6_advance 160 = .ok (.aload_n 0, 1)) rfl) ?_
  refine mm_fc (ss_aload_n hx hb (by decide +kernel : decode cX6_advance 161 = .ok (.aload_n 0, 1)) rfl) ?_
  refine mm_fc (ss_get X rfl in_X6 (by decide) rfl wd_1_51 (by decide +kernel : decode cX6_advance 162 = .ok (.getfield 15, 3))) ?_
  refine mm_fc (ss_iconst hx hb (by decide +kernel : decode cX6_advance 165 = .ok (.iconst 1, 1)) (by decide)) ?_
  refine mm_fc (ss_iadd hx hb (by decide +kernel : decode cX6_advance 166 = .ok (.iadd, 1))) ?_
  refine mm_fc (ss_putI X rfl in_X6 tyX6_ok nmX6 (by decide) rfl rfl rfl rfl wd_1_52 (by decide +kernel : decode cX6_advance 167 = .ok (.putfield 18, 3))) ?_
  refine mm_fc (ss_aload_n hx hb (by decide +kernel : decode cX6_advance 170 = .ok (.aload_n 0, 1)) rfl) ?_
  refine mm_fc (ss_iload_n hx hb (by decide +kernel : decode cX6_advance 171 = .ok (.iload_n 3, 1)) rfl) ?_
  refine mm_fc (ss_putI X rfl in_X6 tyX6_ok nmX6 (by decide) rfl rfl rfl rfl wd_1_53 (by decide +kernel : decode cX6_advance 172 = .ok (.putfield 21, 3))) ?_
  refine mm_fc (ss_iload_n hx hb (by decide +kernel : decode cX6_advance 175 = .ok (.iload_n 1, 1)) rfl) ?_
  refine mm_fc (ss_ifeq hx hb (by decide +kernel : decode cX6_advance 176 = .ok (.ifCond .eq 31, 3)) (by decide)) ?_
  refine mm_fc (ss_aload_n hx hb (by decide +kernel : decode cX6_advance 179 = .ok (.aload_n 0, 1)) rfl) ?_
  refine mm_fc (ss_get X rfl in_X6 (by decide) rfl wd_1_51 (by decide +kernel : decode cX6_advance 180 = .ok (.getfield 15, 3))) ?_
  refine mm_fc (ss_iload_n hx hb (by decide +kernel : decode cX6_advance 183 = .ok (.iload_n 2, 1)) rfl) ?_
  refine mm_fc (ss_icmpne hx hb (by decide +kernel : decode cX6_advance 184 = .ok (.if_icmp .ne 23, 3)) (by decide)) ?_
  refine mm_fc (ss_aload_n hx hb (by decide +kernel : decode cX6_advance 187 = .ok (.aload_n 0, 1)) rfl) ?_
  refine mm_fc (ss_get X rfl in_X6 (by decide) rfl wd_1_50 (by decide +kernel : decode cX6_advance 188 = .ok (.getfield 9, 3))) ?_
  refine mm_fc (ss_iconst hx hb (by decide +kernel : decode cX6_advance 191 = .ok (.iconst 1, 1)) (by decide)) ?_
  refine mm_fc (ss_icmpeq hx hb (by decide +kernel : decode cX6_advance 192 = .ok (.if_icmp .eq 11, 3)) (by decide)) ?_
  refine mm_fc (ss_aload_n hx hb (by decide +kernel : decode cX6_advance 195 = .ok (.aload_n 0, 1)) rfl) ?_
  refine mm_fc (ss_get X rfl in_X6 (by decide) rfl wd_1_50 (by decide +kernel : decode cX6_advance 196 = .ok (.getfield 9, 3))) ?_
  refine mm_fc (ss_iconst hx hb (by decide +kernel : decode cX6_advance 199 = .ok (.iconst 2, 1)) (by decide)) ?_
  refine mm_fc (ss_icmpne hx hb (by decide +kernel : decode cX6_advance 200 = .ok (.if_icmp .ne 7, 3)) (by decide)) ?_
  refine mm_fc (ss_iconst hx hb (by decide +kernel : decode cX6_advance 203 = .ok (.iconst 1, 1)) (by decide)) ?_
  refine mm_fc (ss_goto hx hb (by decide +kernel : decode cX6_advance 204 = .ok (.goto 4, 3)) (by decide)) ?_
  refine mm_fc (ss_iconst hx hb (by decide +kernel : decode cX6_advance 207 = .ok (.iconst 0, 1)) (by decide)) ?_
  refine mm_fc (ss_istore hx hb (by decide +kernel : decode cX6_advance 208 = .ok (.istore 4, 2)) (by decide)) ?_
  refine mm_fc (ss_aload_n hx hb (by decide +kernel : decode cX6_advance 210 = .ok (.aload_n 0, 1)) rfl) ?_
  refine mm_fc (ss_iload hx hb (by decide +kernel : decode cX6_advance 211 = .ok (.iload 4, 2))) ?_
  refine mm_fc (ss_ifeq hx hb (by decide +kernel : decode cX6_advance 213 = .ok (.ifCond .eq 7, 3)) (by decide)) ?_
  refine mm_fc (ss_iconst hx hb (by decide +kernel : decode cX6_advance 216 = .ok (.iconst 4, 1)) (by decide)) ?_
  refine mm_fc (ss_goto hx hb (by decide +kernel : decode cX6_advance 217 = .ok (.goto 7, 3)) (by decide)) ?_
  refine mm_fc (ss_aload_n hx hb (by decide +kernel : decode cX6_advance 220 = .ok (.aload_n 0, 1)) rfl) ?_
  refine mm_fc (ss_get X rfl in_X6 (by decide) rfl wd_1_50 (by decide +kernel : decode cX6_advance 221 = .ok (.getfield 9, 3))) ?_
  refine mm_fc (ss_putI X rfl in_X6 tyX6_ok nmX6 (by decide) rfl rfl rfl rfl wd_1_50 (by decide +kernel : decode cX6_advance 224 = .ok (.putfield 9, 3))) ?_
  refine mm_fc (ss_vret (by decide +kernel : decode cX6_advance 227 = .ok (.return_, 1)) rfl) ?_
  exact mm_fn
def cd_X6_isAtEnd : mm_K mm_H := [(0, s_aload 0 1), (1, s_get 6 1 4), (4, s_if (fun x => ¬ x = 0) 11 7), (7, s_pushI 1 8), (8, s_goto 12), (11, s_pushI 0 12), (12, s_zret)]
set_option maxRecDepth 100000 in
set_option maxHeartbeats 4000000 in
theorem ok_X6_isAtEnd (l : Launch) : mm_CodeOK l mm_I0 RX6 cX6_isAtEnd 1 (some .boolean) cd_X6_isAtEnd := by
  intro p e R s m args below meth c Q σ cA D A kc ks d C X
  have hx := X.1
  have hb := X.2.1
  have hown := X.2.2.2.1
  have hts := X.2.2.2.2.1
  refine mm_fc (ss_aload_n hx hb (by decide +kernel : decode cX6_isAtEnd 0 = .ok (.aload_n 0, 1)) rfl) ?_
  refine mm_fc (ss_get X rfl in_X6 (by decide) rfl wd_1_50 (by decide +kernel : decode cX6_isAtEnd 1 = .ok (.getfield 9, 3))) ?_
  refine mm_fc (ss_ifne hx hb (by decide +kernel : decode cX6_isAtEnd 4 = .ok (.ifCond .ne 7, 3)) (by decide)) ?_
  refine mm_fc (ss_iconst hx hb (by decide +kernel : decode cX6_isAtEnd 7 = .ok (.iconst 1, 1)) (by decide)) ?_
  refine mm_fc (ss_goto hx hb (by decide +kernel : decode cX6_isAtEnd 8 = .ok (.goto 4, 3)) (by decide)) ?_
  refine mm_fc (ss_iconst hx hb (by decide +kernel : decode cX6_isAtEnd 11 = .ok (.iconst 0, 1)) (by decide)) ?_
  refine mm_fc (ss_zret (by decide +kernel : decode cX6_isAtEnd 12 = .ok (.ireturn, 1)) rfl) ?_
  exact mm_fn
def cd_X6_isAnyWord : mm_K mm_H := [(0, s_aload 0 1), (1, s_get 6 1 4), (4, s_pushI 1 5), (5, s_icmp (fun x y => ¬ x = y) 12 8), (8, s_pushI 1 9), (9, s_goto 13), (12, s_pushI 0 13), (13, s_zret)]
set_option maxRecDepth 100000 in
set_option maxHeartbeats 4000000 in
theorem ok_X6_isAnyWord (l : Launch) : mm_CodeOK l mm_I0 RX6 cX6_isAnyWord 1 (some .boolean) cd_X6_isAnyWord := by
  intro p e R s m args below meth c Q σ cA D A kc ks d C X
  have hx := X.1
  have hb := X.2.1
  have hown := X.2.2.2.1
  have hts := X.2.2.2.2.1
  refine mm_fc (ss_aload_n hx hb (by decide +kernel : decode cX6_isAnyWord 0 = .ok (.aload_n 0, 1)) rfl) ?_
  refine mm_fc (ss_get X rfl in_X6 (by decide) rfl wd_1_50 (by decide +kernel : decode cX6_isAnyWord 1 = .ok (.getfield 9, 3))) ?_
  refine mm_fc (ss_iconst hx hb (by decide +kernel : decode cX6_isAnyWord 4 = .ok (.iconst 1, 1)) (by decide)) ?_
  refine mm_fc (ss_icmpne hx hb (by decide +kernel : decode cX6_isAnyWord 5 = .ok (.if_icmp .ne 7, 3)) (by decide)) ?_
  refine mm_fc (ss_iconst hx hb (by decide +kernel : decode cX6_isAnyWord 8 = .ok (.iconst 1, 1)) (by decide)) ?_
  refine mm_fc (ss_goto hx hb (by decide +kernel : decode cX6_isAnyWord 9 = .ok (.goto 4, 3)) (by decide)) ?_
  refine mm_fc (ss_iconst hx hb (by decide +kernel : decode cX6_isAnyWord 12 = .ok (.iconst 0, 1)) (by decide)) ?_
  refine mm_fc (ss_zret (by decide +kernel : decode cX6_isAnyWord 13 = .ok (.ireturn, 1)) rfl) ?_
  exact mm_fn
def cd_X6_isAnyNumber : mm_K mm_H := [(0, s_aload 0 1), (1, s_get 6 1 4), (4, s_pushI 2 5), (5, s_icmp (fun x y => ¬ x = y) 12 8), (8, s_pushI 1 9), (9, s_goto 13), (12, s_pushI 0 13), (13, s_zret)]
set_option maxRecDepth 100000 in
set_option maxHeartbeats 4000000 in
theorem ok_X6_isAnyNumber (l : Launch) : mm_CodeOK l mm_I0 RX6 cX6_isAnyNumber 1 (some .boolean) cd_X6_isAnyNumber := by
  intro p e R s m args below meth c Q σ cA D A kc ks d C X
  have hx := X.1
  have hb := X.2.1
  have hown := X.2.2.2.1
  have hts := X.2.2.2.2.1
  refine mm_fc (ss_aload_n hx hb (by decide +kernel : decode cX6_isAnyNumber 0 = .ok (.aload_n 0, 1)) rfl) ?_
  refine mm_fc (ss_get X rfl in_X6 (by decide) rfl wd_1_50 (by decide +kernel : decode cX6_isAnyNumber 1 = .ok (.getfield 9, 3))) ?_
  refine mm_fc (ss_iconst hx hb (by decide +kernel : decode cX6_isAnyNumber 4 = .ok (.iconst 2, 1)) (by decide)) ?_
  refine mm_fc (ss_icmpne hx hb (by decide +kernel : decode cX6_isAnyNumber 5 = .ok (.if_icmp .ne 7, 3)) (by decide)) ?_
  refine mm_fc (ss_iconst hx hb (by decide +kernel : decode cX6_isAnyNumber 8 = .ok (.iconst 1, 1)) (by decide)) ?_
  refine mm_fc (ss_goto hx hb (by decide +kernel : decode cX6_isAnyNumber 9 = .ok (.goto 4, 3)) (by decide)) ?_
  refine mm_fc (ss_iconst hx hb (by decide +kernel : decode cX6_isAnyNumber 12 = .ok (.iconst 0, 1)) (by decide)) ?_
  refine mm_fc (ss_zret (by decide +kernel : decode cX6_isAnyNumber 13 = .ok (.ireturn, 1)) rfl) ?_
  exact mm_fn
def cd_X6_isWord : mm_K mm_H := [(0, s_aload 0 1), (1, s_get 6 1 4), (4, s_pushI 1 5), (5, s_icmp (fun x y => ¬ x = y) 20 8), (8, s_aload 0 9), (9, s_get 6 4 12), (12, s_iload 1 13), (13, s_icmp (fun x y => ¬ x = y) 20 16), (16, s_pushI 1 17), (17, s_goto 21), (20, s_pushI 0 21), (21, s_zret)]
set_option maxRecDepth 100000 in
set_option maxHeartbeats 4000000 in
theorem ok_X6_isWord (l : Launch) : mm_CodeOK l mm_I0 RX6 cX6_isWord 2 (some .boolean) cd_X6_isWord := by
  intro p e R s m args below meth c Q σ cA D A kc ks d C X
  have hx := X.1
  have hb := X.2.1
  have hown := X.2.2.2.1
  have hts := X.2.2.2.2.1
  refine mm_fc (ss_aload_n hx hb (by decide +kernel : decode cX6_isWord 0 = .ok (.aload_n 0, 1)) rfl) ?_
  refine mm_fc (ss_get X rfl in_X6 (by decide) rfl wd_1_50 (by decide +kernel : decode cX6_isWord 1 = .ok (.getfield 9, 3))) ?_
  refine mm_fc (ss_iconst hx hb (by decide +kernel : decode cX6_isWord 4 = .ok (.iconst 1, 1)) (by decide)) ?_
  refine mm_fc (ss_icmpne hx hb (by decide +kernel : decode cX6_isWord 5 = .ok (.if_icmp .ne 15, 3)) (by decide)) ?_
  refine mm_fc (ss_aload_n hx hb (by decide +kernel : decode cX6_isWord 8 = .ok (.aload_n 0, 1)) rfl) ?_
  refine mm_fc (ss_get X rfl in_X6 (by decide) rfl wd_1_53 (by decide +kernel : decode cX6_isWord 9 = .ok (.getfield 21, 3))) ?_
  refine mm_fc (ss_iload_n hx hb (by decide +kernel : decode cX6_isWord 12 = .ok (.iload_n 1, 1)) rfl) ?_
  refine mm_fc (ss_icmpne hx hb (by decide +kernel : decode cX6_isWord 13 = .ok (.if_icmp .ne 7, 3)) (by decide)) ?_
  refine mm_fc (ss_iconst hx hb (by decide +kernel : decode cX6_isWord 16 = .ok (.iconst 1, 1)) (by decide)) ?_
  refine mm_fc (ss_goto hx hb (by decide +kernel : decode cX6_isWord 17 = .ok (.goto 4, 3)) (by decide)) ?_
  refine mm_fc (ss_iconst hx hb (by decide +kernel : decode cX6_isWord 20 = .ok (.iconst 0, 1)) (by decide)) ?_
  refine mm_fc (ss_zret (by decide +kernel : decode cX6_isWord 21 = .ok (.ireturn, 1)) rfl) ?_
  exact mm_fn
def cd_X6_isSign : mm_K mm_H := [(0, s_aload 0 1), (1, s_get 6 1 4), (4, s_pushI 3 5), (5, s_icmp (fun x y => ¬ x = y) 20 8), (8, s_aload 0 9), (9, s_get 6 4 12), (12, s_iload 1 13), (13, s_icmp (fun x y => ¬ x = y) 20 16), (16, s_pushI 1 17), (17, s_goto 21), (20, s_pushI 0 21), (21, s_zret)]
set_option maxRecDepth 100000 in
set_option maxHeartbeats 4000000 in
theorem ok_X6_isSign (l : Launch) : mm_CodeOK l mm_I0 RX6 cX6_isSign 2 (some .boolean) cd_X6_isSign := by
  intro p e R s m args below meth c Q σ cA D A kc ks d C X
  have hx := X.1
  have hb := X.2.1
  have hown := X.2.2.2.1
  have hts := X.2.2.2.2.1
  refine mm_fc (ss_aload_n hx hb (by decide +kernel : decode cX6_isSign 0 = .ok (.aload_n 0, 1)) rfl) ?_
  refine mm_fc (ss_get X rfl in_X6 (by decide) rfl wd_1_50 (by decide +kernel : decode cX6_isSign 1 = .ok (.getfield 9, 3))) ?_
  refine mm_fc (ss_iconst hx hb (by decide +kernel : decode cX6_isSign 4 = .ok (.iconst 3, 1)) (by decide)) ?_
  refine mm_fc (ss_icmpne hx hb (by decide +kernel : decode cX6_isSign 5 = .ok (.if_icmp .ne 15, 3)) (by decide)) ?_
  refine mm_fc (ss_aload_n hx hb (by decide +kernel : decode cX6_isSign 8 = .ok (.aload_n 0, 1)) rfl) ?_
  refine mm_fc (ss_get X rfl in_X6 (by decide) rfl wd_1_53 (by decide +kernel : decode cX6_isSign 9 = .ok (.getfield 21, 3))) ?_
  refine mm_fc (ss_iload_n hx hb (by decide +kernel : decode cX6_isSign 12 = .ok (.iload_n 1, 1)) rfl) ?_
  refine mm_fc (ss_icmpne hx hb (by decide +kernel : decode cX6_isSign 13 = .ok (.if_icmp .ne 7, 3)) (by decide)) ?_
  refine mm_fc (ss_iconst hx hb (by decide +kernel : decode cX6_isSign 16 = .ok (.iconst 1, 1)) (by decide)) ?_
  refine mm_fc (ss_goto hx hb (by decide +kernel : decode cX6_isSign 17 = .ok (.goto 4, 3)) (by decide)) ?_
  refine mm_fc (ss_iconst hx hb (by decide +kernel : decode cX6_isSign 20 = .ok (.iconst 0, 1)) (by decide)) ?_
  refine mm_fc (ss_zret (by decide +kernel : decode cX6_isSign 21 = .ok (.ireturn, 1)) rfl) ?_
  exact mm_fn
def cd_X6_takeWord : mm_K mm_H := [(0, s_aload 0 1), (1, s_iload 1 2), (2, s_callV 6 79 1 1 5), (5, s_if (fun x => ¬ x = 0) 13 8), (8, s_aload 0 9), (9, s_callV 6 88 0 1 12), (12, s_zret), (13, s_aload 0 14), (14, s_callV 6 75 0 0 17), (17, s_pushI 1 18), (18, s_zret)]
set_option maxRecDepth 100000 in
set_option maxHeartbeats 4000000 in
theorem ok_X6_takeWord (l : Launch) : mm_CodeOK l mm_I0 RX6 cX6_takeWord 2 (some .boolean) cd_X6_takeWord := by
  intro p e R s m args below meth c Q σ cA D A kc ks d C X
  have hx := X.1
  have hb := X.2.1
  have hown := X.2.2.2.1
  have hts := X.2.2.2.2.1
  refine mm_fc (ss_aload_n hx hb (by decide +kernel : decode cX6_takeWord 0 = .ok (.aload_n 0, 1)) rfl) ?_
  refine mm_fc (ss_iload_n hx hb (by decide +kernel : decode cX6_takeWord 1 = .ok (.iload_n 1, 1)) rfl) ?_
  refine mm_fc (ss_callV X rfl rfl wd_3_45 wd_1_3 wd_3_42 wd_3_43 wd_3_44 (by decide +kernel) (by decide +kernel) (by decide) (by decide +kernel : decode cX6_takeWord 2 = .ok (.invokevirtual 66, 3))) ?_
  refine mm_fc (ss_ifne hx hb (by decide +kernel : decode cX6_takeWord 5 = .ok (.ifCond .ne 8, 3)) (by decide)) ?_
  refine mm_fc (ss_aload_n hx hb (by decide +kernel : decode cX6_takeWord 8 = .ok (.aload_n 0, 1)) rfl) ?_
  refine mm_fc (ss_callV X rfl rfl wd_3_49 wd_1_3 wd_3_46 wd_3_47 wd_3_48 (by decide +kernel) (by decide +kernel) (by decide) (by decide +kernel : decode cX6_takeWord 9 = .ok (.invokevirtual 69, 3))) ?_
  refine mm_fc (ss_zret (by decide +kernel : decode cX6_takeWord 12 = .ok (.ireturn, 1)) rfl) ?_
  refine mm_fc (ss_aload_n hx hb (by decide +kernel : decode cX6_takeWord 13 = .ok (.aload_n 0, 1)) rfl) ?_
  refine mm_fc (ss_callV X rfl rfl wd_2_189 wd_1_3 wd_2_186 wd_2_187 wd_2_188 (by decide +kernel) (by decide +kernel) (by decide) (by decide +kernel : decode cX6_takeWord 14 = .ok (.invokevirtual 34, 3))) ?_
  refine mm_fc (ss_iconst hx hb (by decide +kernel : decode cX6_takeWord 17 = .ok (.iconst 1, 1)) (by decide)) ?_
  refine mm_fc (ss_zret (by decide +kernel : decode cX6_takeWord 18 = .ok (.ireturn, 1)) rfl) ?_
  exact mm_fn
def cd_X6_takeSign : mm_K mm_H := [(0, s_aload 0 1), (1, s_iload 1 2), (2, s_callV 6 80 1 1 5), (5, s_if (fun x => ¬ x = 0) 13 8), (8, s_aload 0 9), (9, s_callV 6 88 0 1 12), (12, s_zret), (13, s_aload 0 14), (14, s_callV 6 75 0 0 17), (17, s_pushI 1 18), (18, s_zret)]
set_option maxRecDepth 100000 in
set_option maxHeartbeats 4000000 in
theorem ok_X6_takeSign (l : Launch) : mm_CodeOK l mm_I0 RX6 cX6_takeSign 2 (some .boolean) cd_X6_takeSign := by
  intro p e R s m args below meth c Q σ cA D A kc ks d C X
  have hx := X.1
  have hb := X.2.1
  have hown := X.2.2.2.1
  have hts := X.2.2.2.2.1
  refine mm_fc (ss_aload_n hx hb (by decide +kernel : decode cX6_takeSign 0 = .ok (.aload_n 0, 1)) rfl) ?_
  refine mm_fc (ss_iload_n hx hb (by decide +kernel : decode cX6_takeSign 1 = .ok (.iload_n 1, 1)) rfl) ?_
  refine mm_fc (ss_callV X rfl rfl wd_3_73 wd_1_3 wd_3_70 wd_3_71 wd_3_72 (by decide +kernel) (by decide +kernel) (by decide) (by decide +kernel : decode cX6_takeSign 2 = .ok (.invokevirtual 73, 3))) ?_
  refine mm_fc (ss_ifne hx hb (by decide +kernel : decode cX6_takeSign 5 = .ok (.ifCond .ne 8, 3)) (by decide)) ?_
  refine mm_fc (ss_aload_n hx hb (by decide +kernel : decode cX6_takeSign 8 = .ok (.aload_n 0, 1)) rfl) ?_
  refine mm_fc (ss_callV X rfl rfl wd_3_49 wd_1_3 wd_3_46 wd_3_47 wd_3_48 (by decide +kernel) (by decide +kernel) (by decide) (by decide +kernel : decode cX6_takeSign 9 = .ok (.invokevirtual 69, 3))) ?_
  refine mm_fc (ss_zret (by decide +kernel : decode cX6_takeSign 12 = .ok (.ireturn, 1)) rfl) ?_
  refine mm_fc (ss_aload_n hx hb (by decide +kernel : decode cX6_takeSign 13 = .ok (.aload_n 0, 1)) rfl) ?_
  refine mm_fc (ss_callV X rfl rfl wd_2_189 wd_1_3 wd_2_186 wd_2_187 wd_2_188 (by decide +kernel) (by decide +kernel) (by decide) (by decide +kernel : decode cX6_takeSign 14 = .ok (.invokevirtual 34, 3))) ?_
  refine mm_fc (ss_iconst hx hb (by decide +kernel : decode cX6_takeSign 17 = .ok (.iconst 1, 1)) (by decide)) ?_
  refine mm_fc (ss_zret (by decide +kernel : decode cX6_takeSign 18 = .ok (.ireturn, 1)) rfl) ?_
  exact mm_fn
def cd_X6_isNumberHere : mm_K mm_H := [(0, s_aload 0 1), (1, s_get 6 1 4), (4, s_pushI 2 5), (5, s_icmp (fun x y => x = y) 13 8), (8, s_aload 0 9), (9, s_callV 6 88 0 1 12), (12, s_zret), (13, s_aload 0 14), (14, s_get 6 3 17), (17, s_aload 0 18), (18, s_get 6 2 21), (21, s_bin (fun x y => x - y) 22), (22, s_pushI 4 23), (23, s_icmp (fun x y => x ≤ y) 38 26), (26, s_aload 0 27), (27, s_pushI 1 28), (28, s_aload 0 29), (29, s_get 6 2 32), (32, s_pushI 4 33), (33, s_bin (fun x y => x + y) 34), (34, s_callV 6 90 2 1 37), (37, s_zret), (38, s_aload 0 39), (39, s_get 6 4 42), (42, s_iload 1 43), (43, s_icmp (fun x y => x < y) 54 46), (46, s_aload 0 47), (47, s_get 6 4 50), (50, s_iload 2 51), (51, s_icmp (fun x y => x ≤ y) 62 54), (54, s_aload 0 55), (55, s_pushI 2 56), (56, s_callV 6 89 1 1 59), (59, s_if (fun x => x = 0) 66 62), (62, s_pushI 1 63), (63, s_goto 67), (66, s_pushI 0 67), (67, s_zret)]
set_option maxRecDepth 100000 in
set_option maxHeartbeats 4000000 in
theorem ok_X6_isNumberHere (l : Launch) : mm_CodeOK l mm_I0 RX6 cX6_isNumberHere 3 (some .boolean) cd_X6_isNumberHere := by
  intro p e R s m args below meth c Q σ cA D A kc ks d C X
  have hx := X.1
  have hb := X.2.1
  have hown := X.2.2.2.1
  have hts := X.2.2.2.2.1
  refine mm_fc (ss_aload_n hx hb (by decide +kernel : decode cX6_isNumberHere 0 = .ok (.aload_n 0, 1)) rfl) ?_
  refine mm_fc (ss_get X rfl in_X6 (by decide) rfl wd_1_50 (by decide +kernel : decode cX6_isNumberHere 1 = .ok (.getfield 9, 3))) ?_
  refine mm_fc (ss_iconst hx hb (by decide +kernel : decode cX6_isNumberHere 4 = .ok (.iconst 2, 1)) (by decide)) ?_
  refine mm_fc (ss_icmpeq hx hb (by decide +kernel : decode cX6_isNumberHere 5 = .ok (.if_icmp .eq 8, 3)) (by decide)) ?_
  refine mm_fc (ss_aload_n hx hb (by decide +kernel : decode cX6_isNumberHere 8 = .ok (.aload_n 0, 1)) rfl) ?_
  refine mm_fc (ss_callV X rfl rfl wd_3_49 wd_1_3 wd_3_46 wd_3_47 wd_3_48 (by decide +kernel) (by decide +kernel) (by decide) (by decide +kernel : decode cX6_isNumberHere 9 = .ok (.invokevirtual 69, 3))) ?_
  refine mm_fc (ss_zret (by decide +kernel : decode cX6_isNumberHere 12 = .ok (.ireturn, 1)) rfl) ?_
  refine mm_fc (ss_aload_n hx hb (by decide +kernel : decode cX6_isNumberHere 13 = .ok (.aload_n 0, 1)) rfl) ?_
  refine mm_fc (ss_get X rfl in_X6 (by decide) rfl wd_1_52 (by decide +kernel : decode cX6_isNumberHere 14 = .ok (.getfield 18, 3))) ?_
  refine mm_fc (ss_aload_n hx hb (by decide +kernel : decode cX6_isNumberHere 17 = .ok (.aload_n 0, 1)) rfl) ?_
  refine mm_fc (ss_get X rfl in_X6 (by decide) rfl wd_1_51 (by decide +kernel : decode cX6_isNumberHere 18 = .ok (.getfield 15, 3))) ?_
  refine mm_fc (ss_isub hx hb (by decide +kernel : decode cX6_isNumberHere 21 = .ok (.isub, 1))) ?_
  refine mm_fc (ss_iconst hx hb (by decide +kernel : decode cX6_isNumberHere 22 = .ok (.iconst 4, 1)) (by decide)) ?_
  refine mm_fc (ss_icmple hx hb (by decide +kernel : decode cX6_isNumberHere 23 = .ok (.if_icmp .le 15, 3)) (by decide)) ?_
  refine mm_fc (ss_aload_n hx hb (by decide +kernel : decode cX6_isNumberHere 26 = .ok (.aload_n 0, 1)) rfl) ?_
  refine mm_fc (ss_iconst hx hb (by decide +kernel : decode cX6_isNumberHere 27 = .ok (.iconst 1, 1)) (by decide)) ?_
  refine mm_fc (ss_aload_n hx hb (by decide +kernel : decode cX6_isNumberHere 28 = .ok (.aload_n 0, 1)) rfl) ?_
  refine mm_fc (ss_get X rfl in_X6 (by decide) rfl wd_1_51 (by decide +kernel : decode cX6_isNumberHere 29 = .ok (.getfield 15, 3))) ?_
  refine mm_fc (ss_iconst hx hb (by decide +kernel : decode cX6_isNumberHere 32 = .ok (.iconst 4, 1)) (by decide)) ?_
  refine mm_fc (ss_iadd hx hb (by decide +kernel : decode cX6_isNumberHere 33 = .ok (.iadd, 1))) ?_
  refine mm_fc (ss_callV X rfl rfl wd_3_53 wd_1_3 wd_3_50 wd_3_52 wd_p_7 (by decide +kernel) (by decide +kernel) (by decide) (by decide +kernel : decode cX6_isNumberHere 34 = .ok (.invokevirtual 77, 3))) ?_
  refine mm_fc (ss_zret (by decide +kernel : decode cX6_isNumberHere 37 = .ok (.ireturn, 1)) rfl) ?_
  refine mm_fc (ss_aload_n hx hb (by decide +kernel : decode cX6_isNumberHere 38 = .ok (.aload_n 0, 1)) rfl) ?_
  refine mm_fc (ss_get X rfl in_X6 (by decide) rfl wd_1_53 (by decide +kernel : decode cX6_isNumberHere 39 = .ok (.getfield 21, 3))) ?_
  refine mm_fc (ss_iload_n hx hb (by decide +kernel : decode cX6_isNumberHere 42 = .ok (.iload_n 1, 1)) rfl) ?_
  refine mm_fc (ss_icmplt hx hb (by decide +kernel : decode cX6_isNumberHere 43 = .ok (.if_icmp .lt 11, 3)) (by decide)) ?_
  refine mm_fc (ss_aload_n hx hb (by decide +kernel : decode cX6_isNumberHere 46 = .ok (.aload_n 0, 1)) rfl) ?_
  refine mm_fc (ss_get X rfl in_X6 (by decide) rfl wd_1_53 (by decide +kernel : decode cX6_isNumberHere 47 = .ok (.getfield 21, 3))) ?_
  refine mm_fc (ss_iload_n hx hb (by decide +kernel : decode cX6_isNumberHere 50 = .ok (.iload_n 2, 1)) rfl) ?_
  refine mm_fc (ss_icmple hx hb (by decide +kernel : decode cX6_isNumberHere 51 = .ok (.if_icmp .le 11, 3)) (by decide)) ?_
  refine mm_fc (ss_aload_n hx hb (by decide +kernel : decode cX6_isNumberHere 54 = .ok (.aload_n 0, 1)) rfl) ?_
  refine mm_fc (ss_iconst hx hb (by decide +kernel : decode cX6_isNumberHere 55 = .ok (.iconst 2, 1)) (by decide)) ?_
  refine mm_fc (ss_callV X rfl rfl wd_3_61 wd_1_3 wd_3_58 wd_3_59 wd_3_60 (by decide +kernel) (by decide +kernel) (by decide) (by decide +kernel : decode cX6_isNumberHere 56 = .ok (.invokevirtual 81, 3))) ?_
  refine mm_fc (ss_ifeq hx hb (by decide +kernel : decode cX6_isNumberHere 59 = .ok (.ifCond .eq 7, 3)) (by decide)) ?_
  refine mm_fc (ss_iconst hx hb (by decide +kernel : decode cX6_isNumberHere 62 = .ok (.iconst 1, 1)) (by decide)) ?_
  refine mm_fc (ss_goto hx hb (by decide +kernel : decode cX6_isNumberHere 63 = .ok (.goto 4, 3)) (by decide)) ?_
  refine mm_fc (ss_iconst hx hb (by decide +kernel : decode cX6_isNumberHere 66 = .ok (.iconst 0, 1)) (by decide)) ?_
  refine mm_fc (ss_zret (by decide +kernel : decode cX6_isNumberHere 67 = .ok (.ireturn, 1)) rfl) ?_
  exact mm_fn
def cd_X6_isNameHere : mm_K mm_H := [(0, s_aload 0 1), (1, s_get 6 1 4), (4, s_pushI 1 5), (5, s_icmp (fun x y => ¬ x = y) 24 8), (8, s_aload 0 9), (9, s_get 6 4 12), (12, s_if (fun x => x < 0) 29 15), (15, s_aload 0 16), (16, s_get 6 4 19), (19, s_pushI 25 21), (21, s_icmp (fun x y => y ≤ x) 29 24), (24, s_aload 0 25), (25, s_callV 6 88 0 1 28), (28, s_zret), (29, s_aload 0 30), (30, s_get 6 3 33), (33, s_aload 0 34), (34, s_get 6 2 37), (37, s_bin (fun x y => x - y) 38), (38, s_pushI 6 40), (40, s_icmp (fun x y => x ≤ y) 58 43), (43, s_aload 0 44), (44, s_pushI 1 45), (45, s_aload 0 46), (46, s_get 6 2 49), (49, s_pushI 6 51), (51, s_bin (fun x y => x + y) 52), (52, s_callV 6 90 2 1 55), (55, s_if (fun x => x = 0) 62 58), (58, s_pushI 1 59), (59, s_goto 63), (62, s_pushI 0 63), (63, s_zret)]
set_option maxRecDepth 100000 in
set_option maxHeartbeats 4000000 in
theorem ok_X6_isNameHere (l : Launch) : mm_CodeOK l mm_I0 RX6 cX6_isNameHere 1 (some .boolean) cd_X6_isNameHere := by
  intro p e R s m args below meth c Q σ cA D A kc ks d C X
  have hx := X.1
  have hb := X.2.1
  have hown := X.2.2.2.1
  have hts := X.2.2.2.2.1
  refine mm_fc (ss_aload_n hx hb (by decide +kernel : decode cX6_isNameHere 0 = .ok (.aload_n 0, 1)) rfl) ?_
  refine mm_fc (ss_get X rfl in_X6 (by decide) rfl wd_1_50 (by decide +kernel : decode cX6_isNameHere 1 = .ok (.getfield 9, 3))) ?_
  refine mm_fc (ss_iconst hx hb (by decide +kernel : decode cX6_isNameHere 4 = .ok (.iconst 1, 1)) (by decide)) ?_
  refine mm_fc (ss_icmpne hx hb (by decide +kernel : decode cX6_isNameHere 5 = .ok (.if_icmp .ne 19, 3)) (by decide)) ?_
  refine mm_fc (ss_aload_n hx hb (by decide +kernel : decode cX6_isNameHere 8 = .ok (.aload_n 0, 1)) rfl) ?_
  refine mm_fc (ss_get X rfl in_X6 (by decide) rfl wd_1_53 (by decide +kernel : decode cX6_isNameHere 9 = .ok (.getfield 21, 3))) ?_
  refine mm_fc (ss_iflt hx hb (by decide +kernel : decode cX6_isNameHere 12 = .ok (.ifCond .lt 17, 3)) (by decide)) ?_
  refine mm_fc (ss_aload_n hx hb (by decide +kernel : decode cX6_isNameHere 15 = .ok (.aload_n 0, 1)) rfl) ?_
  refine mm_fc (ss_get X rfl in_X6 (by decide) rfl wd_1_53 (by decide +kernel : decode cX6_isNameHere 16 = .ok (.getfield 21, 3))) ?_
  refine mm_fc (ss_bipush hx hb (by decide +kernel : decode cX6_isNameHere 19 = .ok (.bipush 25, 2)) (by decide)) ?_
  refine mm_fc (ss_icmpge hx hb (by decide +kernel : decode cX6_isNameHere 21 = .ok (.if_icmp .ge 8, 3)) (by decide)) ?_
  refine mm_fc (ss_aload_n hx hb (by decide +kernel : decode cX6_isNameHere 24 = .ok (.aload_n 0, 1)) rfl) ?_
  refine mm_fc (ss_callV X rfl rfl wd_3_49 wd_1_3 wd_3_46 wd_3_47 wd_3_48 (by decide +kernel) (by decide +kernel) (by decide) (by decide +kernel : decode cX6_isNameHere 25 = .ok (.invokevirtual 69, 3))) ?_
  refine mm_fc (ss_zret (by decide +kernel : decode cX6_isNameHere 28 = .ok (.ireturn, 1)) rfl) ?_
  refine mm_fc (ss_aload_n hx hb (by decide +kernel : decode cX6_isNameHere 29 = .ok (.aload_n 0, 1)) rfl) ?_
  refine mm_fc (ss_get X rfl in_X6 (by decide) rfl wd_1_52 (by decide +kernel : decode cX6_isNameHere 30 = .ok (.getfield 18, 3))) ?_
  refine mm_fc (ss_aload_n hx hb (by decide +kernel : decode cX6_isNameHere 33 = .ok (.aload_n 0, 1)) rfl) ?_
  refine mm_fc (ss_get X rfl in_X6 (by decide) rfl wd_1_51 (by decide +kernel : decode cX6_isNameHere 34 = .ok (.getfield 15, 3))) ?_
  refine mm_fc (ss_isub hx hb (by decide +kernel : decode cX6_isNameHere 37 = .ok (.isub, 1))) ?_
  refine mm_fc (ss_bipush hx hb (by decide +kernel : decode cX6_isNameHere 38 = .ok (.bipush 6, 2)) (by decide)) ?_
  refine mm_fc (ss_icmple hx hb (by decide +kernel : decode cX6_isNameHere 40 = .ok (.if_icmp .le 18, 3)) (by decide)) ?_
  refine mm_fc (ss_aload_n hx hb (by decide +kernel : decode cX6_isNameHere 43 = .ok (.aload_n 0, 1)) rfl) ?_
  refine mm_fc (ss_iconst hx hb (by decide +kernel : decode cX6_isNameHere 44 = .ok (.iconst 1, 1)) (by decide)) ?_
  refine mm_fc (ss_aload_n hx hb (by decide +kernel : decode cX6_isNameHere 45 = .ok (.aload_n 0, 1)) rfl) ?_
  refine mm_fc (ss_get X rfl in_X6 (by decide) rfl wd_1_51 (by decide +kernel : decode cX6_isNameHere 46 = .ok (.getfield 15, 3))) ?_
  refine mm_fc (ss_bipush hx hb (by decide +kernel : decode cX6_isNameHere 49 = .ok (.bipush 6, 2)) (by decide)) ?_
  refine mm_fc (ss_iadd hx hb (by decide +kernel : decode cX6_isNameHere 51 = .ok (.iadd, 1))) ?_
  refine mm_fc (ss_callV X rfl rfl wd_3_53 wd_1_3 wd_3_50 wd_3_52 wd_p_7 (by decide +kernel) (by decide +kernel) (by decide) (by decide +kernel : decode cX6_isNameHere 52 = .ok (.invokevirtual 77, 3))) ?_
  refine mm_fc (ss_ifeq hx hb (by decide +kernel : decode cX6_isNameHere 55 = .ok (.ifCond .eq 7, 3)) (by decide)) ?_
  refine mm_fc (ss_iconst hx hb (by decide +kernel : decode cX6_isNameHere 58 = .ok (.iconst 1, 1)) (by decide)) ?_
  refine mm_fc (ss_goto hx hb (by decide +kernel : decode cX6_isNameHere 59 = .ok (.goto 4, 3)) (by decide)) ?_
  refine mm_fc (ss_iconst hx hb (by decide +kernel : decode cX6_isNameHere 62 = .ok (.iconst 0, 1)) (by decide)) ?_
  refine mm_fc (ss_zret (by decide +kernel : decode cX6_isNameHere 63 = .ok (.ireturn, 1)) rfl) ?_
  exact mm_fn
def cd_X6_takeValue : mm_K mm_H := [(0, s_aload 0 1), (1, s_get 6 4 4), (4, s_istore 1 5), (5, s_aload 0 6), (6, s_callV 6 75 0 0 9), (9, s_iload 1 10), (10, s_iret)]
set_option maxRecDepth 100000 in
set_option maxHeartbeats 4000000 in
theorem ok_X6_takeValue (l : Launch) : mm_CodeOK l mm_I0 RX6 cX6_takeValue 2 (some .int) cd_X6_takeValue := by
  intro p e R s m args below meth c Q σ cA D A kc ks d C X
  have hx := X.1
  have hb := X.2.1
  have hown := X.2.2.2.1
  have hts := X.2.2.2.2.1
  refine mm_fc (ss_aload_n hx hb (by decide +kernel : decode cX6_takeValue 0 = .ok (.aload_n 0, 1)) rfl) ?_
  refine mm_fc (ss_get X rfl in_X6 (by decide) rfl wd_1_53 (by decide +kernel : decode cX6_takeValue 1 = .ok (.getfield 21, 3))) ?_
  refine mm_fc (ss_istore_n hx hb (by decide +kernel : decode cX6_takeValue 4 = .ok (.istore_n 1, 1)) rfl (by decide)) ?_
  refine mm_fc (ss_aload_n hx hb (by decide +kernel : decode cX6_takeValue 5 = .ok (.aload_n 0, 1)) rfl) ?_
  refine mm_fc (ss_callV X rfl rfl wd_2_189 wd_1_3 wd_2_186 wd_2_187 wd_2_188 (by decide +kernel) (by decide +kernel) (by decide) (by decide +kernel : decode cX6_takeValue 6 = .ok (.invokevirtual 34, 3))) ?_
  refine mm_fc (ss_iload_n hx hb (by decide +kernel : decode cX6_takeValue 9 = .ok (.iload_n 1, 1)) rfl) ?_
  refine mm_fc (ss_iret (by decide +kernel : decode cX6_takeValue 10 = .ok (.ireturn, 1)) rfl) ?_
  exact mm_fn
def cd_X6_letterAt : mm_K mm_H := [(0, s_iload 1 1), (1, s_if (fun x => x < 0) 38 4), (4, s_iload 1 5), (5, s_aload 0 6), (6, s_get 6 3 9), (9, s_aload 0 10), (10, s_get 6 2 13), (13, s_bin (fun x y => x - y) 14), (14, s_icmp (fun x y => y ≤ x) 38 17), (17, s_aload 0 18), (18, s_get 6 0 21), (21, s_aload 0 22), (22, s_get 6 2 25), (25, s_iload 1 26), (26, s_bin (fun x y => x + y) 27), (27, s_callV 8 126 1 1 30), (30, s_pushI 97 32), (32, s_bin (fun x y => x - y) 33), (33, s_pushI 1 34), (34, s_bin (fun x y => x + y) 35), (35, s_goto 39), (38, s_pushI 0 39), (39, s_iret)]
set_option maxRecDepth 100000 in
set_option maxHeartbeats 4000000 in
theorem ok_X6_letterAt (l : Launch) : mm_CodeOK l mm_I0 RX6 cX6_letterAt 2 (some .int) cd_X6_letterAt := by
  intro p e R s m args below meth c Q σ cA D A kc ks d C X
  have hx := X.1
  have hb := X.2.1
  have hown := X.2.2.2.1
  have hts := X.2.2.2.2.1
  refine mm_fc (ss_iload_n hx hb (by decide +kernel : decode cX6_letterAt 0 = .ok (.iload_n 1, 1)) rfl) ?_
  refine mm_fc (ss_iflt hx hb (by decide +kernel : decode cX6_letterAt 1 = .ok (.ifCond .lt 37, 3)) (by decide)) ?_
  refine mm_fc (ss_iload_n hx hb (by decide +kernel : decode cX6_letterAt 4 = .ok (.iload_n 1, 1)) rfl) ?_
  refine mm_fc (ss_aload_n hx hb (by decide +kernel : decode cX6_letterAt 5 = .ok (.aload_n 0, 1)) rfl) ?_
  refine mm_fc (ss_get X rfl in_X6 (by decide) rfl wd_1_52 (by decide +kernel : decode cX6_letterAt 6 = .ok (.getfield 18, 3))) ?_
  refine mm_fc (ss_aload_n hx hb (by decide +kernel : decode cX6_letterAt 9 = .ok (.aload_n 0, 1)) rfl) ?_
  refine mm_fc (ss_get X rfl in_X6 (by decide) rfl wd_1_51 (by decide +kernel : decode cX6_letterAt 10 = .ok (.getfield 15, 3))) ?_
  refine mm_fc (ss_isub hx hb (by decide +kernel : decode cX6_letterAt 13 = .ok (.isub, 1))) ?_
  refine mm_fc (ss_icmpge hx hb (by decide +kernel : decode cX6_letterAt 14 = .ok (.if_icmp .ge 24, 3)) (by decide)) ?_
  refine mm_fc (ss_aload_n hx hb (by decide +kernel : decode cX6_letterAt 17 = .ok (.aload_n 0, 1)) rfl) ?_
  refine mm_fc (ss_get X rfl in_X6 (by decide) rfl wd_1_49 (by decide +kernel : decode cX6_letterAt 18 = .ok (.getfield 30, 3))) ?_
  refine mm_fc (ss_aload_n hx hb (by decide +kernel : decode cX6_letterAt 21 = .ok (.aload_n 0, 1)) rfl) ?_
  refine mm_fc (ss_get X rfl in_X6 (by decide) rfl wd_1_51 (by decide +kernel : decode cX6_letterAt 22 = .ok (.getfield 15, 3))) ?_
  refine mm_fc (ss_iload_n hx hb (by decide +kernel : decode cX6_letterAt 25 = .ok (.iload_n 1, 1)) rfl) ?_
  refine mm_fc (ss_iadd hx hb (by decide +kernel : decode cX6_letterAt 26 = .ok (.iadd, 1))) ?_
  refine mm_fc (ss_callV X rfl rfl wd_2_198 wd_1_2 wd_2_195 wd_2_196 wd_2_197 (by decide +kernel) (by decide +kernel) (by decide) (by decide +kernel : decode cX6_letterAt 27 = .ok (.invokevirtual 41, 3))) ?_
  refine mm_fc (ss_bipush hx hb (by decide +kernel : decode cX6_letterAt 30 = .ok (.bipush 97, 2)) (by decide)) ?_
  refine mm_fc (ss_isub hx hb (by decide +kernel : decode cX6_letterAt 32 = .ok (.isub, 1))) ?_
  refine mm_fc (ss_iconst hx hb (by decide +kernel : decode cX6_letterAt 33 = .ok (.iconst 1, 1)) (by decide)) ?_
  refine mm_fc (ss_iadd hx hb (by decide +kernel : decode cX6_letterAt 34 = .ok (.iadd, 1))) ?_
  refine mm_fc (ss_goto hx hb (by decide +kernel : decode cX6_letterAt 35 = .ok (.goto 4, 3)) (by decide)) ?_
  refine mm_fc (ss_iconst hx hb (by decide +kernel : decode cX6_letterAt 38 = .ok (.iconst 0, 1)) (by decide)) ?_
  refine mm_fc (ss_iret (by decide +kernel : decode cX6_letterAt 39 = .ok (.ireturn, 1)) rfl) ?_
  exact mm_fn
def cd_X6_mayOpen : mm_K mm_H := [(0, s_iload 1 1), (1, s_pushI 6 3), (3, s_icmp (fun x y => x < y) 14 6), (6, s_aload 0 7), (7, s_pushI 4 8), (8, s_callV 6 89 1 1 11), (11, s_if (fun x => x = 0) 18 14), (14, s_pushI 1 15), (15, s_goto 19), (18, s_pushI 0 19), (19, s_zret)]
set_option maxRecDepth 100000 in
set_option maxHeartbeats 4000000 in
theorem ok_X6_mayOpen (l : Launch) : mm_CodeOK l mm_I0 RX6 cX6_mayOpen 2 (some .boolean) cd_X6_mayOpen := by
  intro p e R s m args below meth c Q σ cA D A kc ks d C X
  have hx := X.1
  have hb := X.2.1
  have hown := X.2.2.2.1
  have hts := X.2.2.2.2.1
  refine mm_fc (ss_iload_n hx hb (by decide +kernel : decode cX6_mayOpen 0 = .ok (.iload_n 1, 1)) rfl) ?_
  refine mm_fc (ss_bipush hx hb (by decide +kernel : decode cX6_mayOpen 1 = .ok (.bipush 6, 2)) (by decide)) ?_
  refine mm_fc (ss_icmplt hx hb (by decide +kernel : decode cX6_mayOpen 3 = .ok (.if_icmp .lt 11, 3)) (by decide)) ?_
  refine mm_fc (ss_aload_n hx hb (by decide +kernel : decode cX6_mayOpen 6 = .ok (.aload_n 0, 1)) rfl) ?_
  refine mm_fc (ss_iconst hx hb (by decide +kernel : decode cX6_mayOpen 7 = .ok (.iconst 4, 1)) (by decide)) ?_
  refine mm_fc (ss_callV X rfl rfl wd_3_61 wd_1_3 wd_3_58 wd_3_59 wd_3_60 (by decide +kernel) (by decide +kernel) (by decide) (by decide +kernel : decode cX6_mayOpen 8 = .ok (.invokevirtual 81, 3))) ?_
  refine mm_fc (ss_ifeq hx hb (by decide +kernel : decode cX6_mayOpen 11 = .ok (.ifCond .eq 7, 3)) (by decide)) ?_
  refine mm_fc (ss_iconst hx hb (by decide +kernel : decode cX6_mayOpen 14 = .ok (.iconst 1, 1)) (by decide)) ?_
  refine mm_fc (ss_goto hx hb (by decide +kernel : decode cX6_mayOpen 15 = .ok (.goto 4, 3)) (by decide)) ?_
  refine mm_fc (ss_iconst hx hb (by decide +kernel : decode cX6_mayOpen 18 = .ok (.iconst 0, 1)) (by decide)) ?_
  refine mm_fc (ss_zret (by decide +kernel : decode cX6_mayOpen 19 = .ok (.ireturn, 1)) rfl) ?_
  exact mm_fn
def cd_X6_unexpected : mm_K mm_H := [(0, s_aload 0 1), (1, s_pushI 1 2), (2, s_aload 0 3), (3, s_get 6 2 6), (6, s_callV 6 90 2 1 9), (9, s_zret)]
set_option maxRecDepth 100000 in
set_option maxHeartbeats 4000000 in
theorem ok_X6_unexpected (l : Launch) : mm_CodeOK l mm_I0 RX6 cX6_unexpected 1 (some .boolean) cd_X6_unexpected := by
  intro p e R s m args below meth c Q σ cA D A kc ks d C X
  have hx := X.1
  have hb := X.2.1
  have hown := X.2.2.2.1
  have hts := X.2.2.2.2.1
  refine mm_fc (ss_aload_n hx hb (by decide +kernel : decode cX6_unexpected 0 = .ok (.aload_n 0, 1)) rfl) ?_
  refine mm_fc (ss_iconst hx hb (by decide +kernel : decode cX6_unexpected 1 = .ok (.iconst 1, 1)) (by decide)) ?_
  refine mm_fc (ss_aload_n hx hb (by decide +kernel : decode cX6_unexpected 2 = .ok (.aload_n 0, 1)) rfl) ?_
  refine mm_fc (ss_get X rfl in_X6 (by decide) rfl wd_1_51 (by decide +kernel : decode cX6_unexpected 3 = .ok (.getfield 15, 3))) ?_
  refine mm_fc (ss_callV X rfl rfl wd_3_53 wd_1_3 wd_3_50 wd_3_52 wd_p_7 (by decide +kernel) (by decide +kernel) (by decide) (by decide +kernel : decode cX6_unexpected 6 = .ok (.invokevirtual 77, 3))) ?_
  refine mm_fc (ss_zret (by decide +kernel : decode cX6_unexpected 9 = .ok (.ireturn, 1)) rfl) ?_
  exact mm_fn
def cd_X6_fail : mm_K mm_H := [(0, s_aload 0 1), (1, s_iload 1 2), (2, s_aload 0 3), (3, s_get 6 2 6), (6, s_callV 6 90 2 1 9), (9, s_zret)]
set_option maxRecDepth 100000 in
set_option maxHeartbeats 4000000 in
theorem ok_X6_fail (l : Launch) : mm_CodeOK l mm_I0 RX6 cX6_fail 2 (some .boolean) cd_X6_fail := by
  intro p e R s m args below meth c Q σ cA D A kc ks d C X
  have hx := X.1
  have hb := X.2.1
  have hown := X.2.2.2.1
  have hts := X.2.2.2.2.1
  refine mm_fc (ss_aload_n hx hb (by decide +kernel : decode cX6_fail 0 = .ok (.aload_n 0, 1)) rfl) ?_
  refine mm_fc (ss_iload_n hx hb (by decide +kernel : decode cX6_fail 1 = .ok (.iload_n 1, 1)) rfl) ?_
  refine mm_fc (ss_aload_n hx hb (by decide +kernel : decode cX6_fail 2 = .ok (.aload_n 0, 1)) rfl) ?_
  refine mm_fc (ss_get X rfl in_X6 (by decide) rfl wd_1_51 (by decide +kernel : decode cX6_fail 3 = .ok (.getfield 15, 3))) ?_
  refine mm_fc (ss_callV X rfl rfl wd_3_53 wd_1_3 wd_3_50 wd_3_52 wd_p_7 (by decide +kernel) (by decide +kernel) (by decide) (by decide +kernel : decode cX6_fail 6 = .ok (.invokevirtual 77, 3))) ?_
  refine mm_fc (ss_zret (by decide +kernel : decode cX6_fail 9 = .ok (.ireturn, 1)) rfl) ?_
  exact mm_fn
def cd_X6_failAt : mm_K mm_H := [(0, s_aload 0 1), (1, s_iload 1 2), (2, s_putI 6 5 5), (5, s_aload 0 6), (6, s_iload 2 7), (7, s_putI 6 6 10), (10, s_pushI 0 11), (11, s_zret)]
set_option maxRecDepth 100000 in
set_option maxHeartbeats 4000000 in
theorem ok_X6_failAt (l : Launch) : mm_CodeOK l mm_I0 RX6 cX6_failAt 3 (some .boolean) cd_X6_failAt := by
  intro p e R s m args below meth c Q σ cA D A kc ks d C X
  have hx := X.1
  have hb := X.2.1
  have hown := X.2.2.2.1
  have hts := X.2.2.2.2.1
  refine mm_fc (ss_aload_n hx hb (by decide +kernel : decode cX6_failAt 0 = .ok (.aload_n 0, 1)) rfl) ?_
  refine mm_fc (ss_iload_n hx hb (by decide +kernel : decode cX6_failAt 1 = .ok (.iload_n 1, 1)) rfl) ?_
  refine mm_fc (ss_putI X rfl in_X6 tyX6_ok nmX6 (by decide) rfl rfl rfl rfl wd_1_57 (by decide +kernel : decode cX6_failAt 2 = .ok (.putfield 24, 3))) ?_
  refine mm_fc (ss_aload_n hx hb (by decide +kernel : decode cX6_failAt 5 = .ok (.aload_n 0, 1)) rfl) ?_
  refine mm_fc (ss_iload_n hx hb (by decide +kernel : decode cX6_failAt 6 = .ok (.iload_n 2, 1)) rfl) ?_
  refine mm_fc (ss_putI X rfl in_X6 tyX6_ok nmX6 (by decide) rfl rfl rfl rfl wd_1_59 (by decide +kernel : decode cX6_failAt 7 = .ok (.putfield 27, 3))) ?_
  refine mm_fc (ss_iconst hx hb (by decide +kernel : decode cX6_failAt 10 = .ok (.iconst 0, 1)) (by decide)) ?_
  refine mm_fc (ss_zret (by decide +kernel : decode cX6_failAt 11 = .ok (.ireturn, 1)) rfl) ?_
  exact mm_fn
def cd_X6_afterBlanks : mm_K mm_H := [(0, s_iload 1 1), (1, s_kill 2 [1] (s_istore 2 2)), (2, s_iload 2 3), (3, s_aload 0 4), (4, s_get 6 0 7), (7, s_callV 8 125 0 1 10), (10, s_icmp (fun x y => y ≤ x) 33 13), (13, s_aload 0 14), (14, s_get 6 0 17), (17, s_iload 2 18), (18, s_callV 8 126 1 1 21), (21, s_callS 96 1 1 24), (24, s_if (fun x => x = 0) 33 27), (27, s_iinc 2 1 30), (30, s_kill 2 [1] (s_goto 2)), (33, s_iload 2 34), (34, s_iret)]
set_option maxRecDepth 100000 in
set_option maxHeartbeats 4000000 in
theorem ok_X6_afterBlanks (l : Launch) : mm_CodeOK l mm_I0 RX6 cX6_afterBlanks 3 (some .int) cd_X6_afterBlanks := by
  intro p e R s m args below meth c Q σ cA D A kc ks d C X
  have hx := X.1
  have hb := X.2.1
  have hown := X.2.2.2.1
  have hts := X.2.2.2.2.1
  refine mm_fc (ss_iload_n hx hb (by decide +kernel : decode cX6_afterBlanks 0 = .ok (.iload_n 1, 1)) rfl) ?_
  refine mm_fc (ss_kill (ss_istore_n hx hb (by decide +kernel : decode cX6_afterBlanks 1 = .ok (.istore_n 2, 1)) rfl (by decide))) ?_
  refine mm_fc (ss_iload_n hx hb (by decide +kernel : decode cX6_afterBlanks 2 = .ok (.iload_n 2, 1)) rfl) ?_
  refine mm_fc (ss_aload_n hx hb (by decide +kernel : decode cX6_afterBlanks 3 = .ok (.aload_n 0, 1)) rfl) ?_
  refine mm_fc (ss_get X rfl in_X6 (by decide) rfl wd_1_49 (by decide +kernel : decode cX6_afterBlanks 4 = .ok (.getfield 30, 3))) ?_
  refine mm_fc (ss_callV X rfl rfl wd_2_143 wd_1_2 wd_2_194 wd_2_141 wd_2_142 (by decide +kernel) (by decide +kernel) (by decide) (by decide +kernel : decode cX6_afterBlanks 7 = .ok (.invokevirtual 84, 3))) ?_
  refine mm_fc (ss_icmpge hx hb (by decide +kernel : decode cX6_afterBlanks 10 = .ok (.if_icmp .ge 23, 3)) (by decide)) ?_
  refine mm_fc (ss_aload_n hx hb (by decide +kernel : decode cX6_afterBlanks 13 = .ok (.aload_n 0, 1)) rfl) ?_
  refine mm_fc (ss_get X rfl in_X6 (by decide) rfl wd_1_49 (by decide +kernel : decode cX6_afterBlanks 14 = .ok (.getfield 30, 3))) ?_
  refine mm_fc (ss_iload_n hx hb (by decide +kernel : decode cX6_afterBlanks 17 = .ok (.iload_n 2, 1)) rfl) ?_
  refine mm_fc (ss_callV X rfl rfl wd_2_198 wd_1_2 wd_2_195 wd_2_196 wd_2_197 (by decide +kernel) (by decide +kernel) (by decide) (by decide +kernel : decode cX6_afterBlanks 18 = .ok (.invokevirtual 41, 3))) ?_
  refine mm_fc (ss_callS X rfl wd_2_201 wd_1_3 wd_2_199 wd_2_200 (by decide +kernel) (by decide +kernel) (by decide) (by decide +kernel : decode cX6_afterBlanks 21 = .ok (.invokestatic 88, 3))) ?_
  refine mm_fc (ss_ifeq hx hb (by decide +kernel : decode cX6_afterBlanks 24 = .ok (.ifCond .eq 9, 3)) (by decide)) ?_
  refine mm_fc (ss_iinc hx hb (by decide +kernel : decode cX6_afterBlanks 27 = .ok (.iinc 2 1, 3)) (by decide) (by decide)) ?_
  refine mm_fc (ss_kill (ss_goto hx hb (by decide +kernel : decode cX6_afterBlanks 30 = .ok (.goto (-28), 3)) (by decide))) ?_
  refine mm_fc (ss_iload_n hx hb (by decide +kernel : decode cX6_afterBlanks 33 = .ok (.iload_n 2, 1)) rfl) ?_
  refine mm_fc (ss_iret (by decide +kernel : decode cX6_afterBlanks 34 = .ok (.ireturn, 1)) rfl) ?_
  exact mm_fn
def cd_X6_afterLetters : mm_K mm_H := [(0, s_iload 1 1), (1, s_kill 2 [1] (s_istore 2 2)), (2, s_iload 2 3), (3, s_aload 0 4), (4, s_get 6 0 7), (7, s_callV 8 125 0 1 10), (10, s_icmp (fun x y => y ≤ x) 33 13), (13, s_aload 0 14), (14, s_get 6 0 17), (17, s_iload 2 18), (18, s_callV 8 126 1 1 21), (21, s_callS 97 1 1 24), (24, s_if (fun x => x = 0) 33 27), (27, s_iinc 2 1 30), (30, s_kill 2 [1] (s_goto 2)), (33, s_iload 2 34), (34, s_iret)]
set_option maxRecDepth 100000 in
set_option maxHeartbeats 4000000 in
theorem ok_X6_afterLetters (l : Launch) : mm_CodeOK l mm_I0 RX6 cX6_afterLetters 3 (some .int) cd_X6_afterLetters := by
  intro p e R s m args below meth c Q σ cA D A kc ks d C X
  have hx := X.1
  have hb := X.2.1
  have hown := X.2.2.2.1
  have hts := X.2.2.2.2.1
  refine mm_fc (ss_iload_n hx hb (by decide +kernel : decode cX6_afterLetters 0 = .ok (.iload_n 1, 1)) rfl) ?_
  refine mm_fc (ss_kill (ss_istore_n hx hb (by decide +kernel : decode cX6_afterLetters 1 = .ok (.istore_n 2, 1)) rfl (by decide))) ?_
  refine mm_fc (ss_iload_n hx hb (by decide +kernel : decode cX6_afterLetters 2 = .ok (.iload_n 2, 1)) rfl) ?_
  refine mm_fc (ss_aload_n hx hb (by decide +kernel : decode cX6_afterLetters 3 = .ok (.aload_n 0, 1)) rfl) ?_
  refine mm_fc (ss_get X rfl in_X6 (by decide) rfl wd_1_49 (by decide +kernel : decode cX6_afterLetters 4 = .ok (.getfield 30, 3))) ?_
  refine mm_fc (ss_callV X rfl rfl wd_2_143 wd_1_2 wd_2_194 wd_2_141 wd_2_142 (by decide +kernel) (by decide +kernel) (by decide) (by decide +kernel : decode cX6_afterLetters 7 = .ok (.invokevirtual 84, 3))) ?_
  refine mm_fc (ss_icmpge hx hb (by decide +kernel : decode cX6_afterLetters 10 = .ok (.if_icmp .ge 23, 3)) (by decide)) ?_
  refine mm_fc (ss_aload_n hx hb (by decide +kernel : decode cX6_afterLetters 13 = .ok (.aload_n 0, 1)) rfl) ?_
  refine mm_fc (ss_get X rfl in_X6 (by decide) rfl wd_1_49 (by decide +kernel : decode cX6_afterLetters 14 = .ok (.getfield 30, 3))) ?_
  refine mm_fc (ss_iload_n hx hb (by decide +kernel : decode cX6_afterLetters 17 = .ok (.iload_n 2, 1)) rfl) ?_
  refine mm_fc (ss_callV X rfl rfl wd_2_198 wd_1_2 wd_2_195 wd_2_196 wd_2_197 (by decide +kernel) (by decide +kernel) (by decide) (by decide +kernel : decode cX6_afterLetters 18 = .ok (.invokevirtual 41, 3))) ?_
  refine mm_fc (ss_callS X rfl wd_2_204 wd_1_3 wd_2_202 wd_2_203 (by decide +kernel) (by decide +kernel) (by decide) (by decide +kernel : decode cX6_afterLetters 21 = .ok (.invokestatic 46, 3))) ?_
  refine mm_fc (ss_ifeq hx hb (by decide +kernel : decode cX6_afterLetters 24 = .ok (.ifCond .eq 9, 3)) (by decide)) ?_
  refine mm_fc (ss_iinc hx hb (by decide +kernel : decode cX6_afterLetters 27 = .ok (.iinc 2 1, 3)) (by decide) (by decide)) ?_
  refine mm_fc (ss_kill (ss_goto hx hb (by decide +kernel : decode cX6_afterLetters 30 = .ok (.goto (-28), 3)) (by decide))) ?_
  refine mm_fc (ss_iload_n hx hb (by decide +kernel : decode cX6_afterLetters 33 = .ok (.iload_n 2, 1)) rfl) ?_
  refine mm_fc (ss_iret (by decide +kernel : decode cX6_afterLetters 34 = .ok (.ireturn, 1)) rfl) ?_
  exact mm_fn
def cd_X6_afterDigits : mm_K mm_H := [(0, s_iload 1 1), (1, s_kill 2 [1] (s_istore 2 2)), (2, s_iload 2 3), (3, s_aload 0 4), (4, s_get 6 0 7), (7, s_callV 8 125 0 1 10), (10, s_icmp (fun x y => y ≤ x) 33 13), (13, s_aload 0 14), (14, s_get 6 0 17), (17, s_iload 2 18), (18, s_callV 8 126 1 1 21), (21, s_callS 98 1 1 24), (24, s_if (fun x => x = 0) 33 27), (27, s_iinc 2 1 30), (30, s_kill 2 [1] (s_goto 2)), (33, s_iload 2 34), (34, s_iret)]
set_option maxRecDepth 100000 in
set_option maxHeartbeats 4000000 in
theorem ok_X6_afterDigits (l : Launch) : mm_CodeOK l mm_I0 RX6 cX6_afterDigits 3 (some .int) cd_X6_afterDigits := by
  intro p e R s m args below meth c Q σ cA D A kc ks d C X
  have hx := X.1
  have hb := X.2.1
  have hown := X.2.2.2.1
  have hts := X.2.2.2.2.1
  refine mm_fc (ss_iload_n hx hb (by decide +kernel : decode cX6_afterDigits 0 = .ok (.iload_n 1, 1)) rfl) ?_
  refine mm_fc (ss_kill (ss_istore_n hx hb (by decide +kernel : decode cX6_afterDigits 1 = .ok (.istore_n 2, 1)) rfl (by decide))) ?_
  refine mm_fc (ss_iload_n hx hb (by decide +kernel : decode cX6_afterDigits 2 = .ok (.iload_n 2, 1)) rfl) ?_
  refine mm_fc (ss_aload_n hx hb (by decide +kernel : decode cX6_afterDigits 3 = .ok (.aload_n 0, 1)) rfl) ?_
  refine mm_fc (ss_get X rfl in_X6 (by decide) rfl wd_1_49 (by decide +kernel : decode cX6_afterDigits 4 = .ok (.getfield 30, 3))) ?_
  refine mm_fc (ss_callV X rfl rfl wd_2_143 wd_1_2 wd_2_194 wd_2_141 wd_2_142 (by decide +kernel) (by decide +kernel) (by decide) (by decide +kernel : decode cX6_afterDigits 7 = .ok (.invokevirtual 84, 3))) ?_
  refine mm_fc (ss_icmpge hx hb (by decide +kernel : decode cX6_afterDigits 10 = .ok (.if_icmp .ge 23, 3)) (by decide)) ?_
  refine mm_fc (ss_aload_n hx hb (by decide +kernel : decode cX6_afterDigits 13 = .ok (.aload_n 0, 1)) rfl) ?_
  refine mm_fc (ss_get X rfl in_X6 (by decide) rfl wd_1_49 (by decide +kernel : decode cX6_afterDigits 14 = .ok (.getfield 30, 3))) ?_
  refine mm_fc (ss_iload_n hx hb (by decide +kernel : decode cX6_afterDigits 17 = .ok (.iload_n 2, 1)) rfl) ?_
  refine mm_fc (ss_callV X rfl rfl wd_2_198 wd_1_2 wd_2_195 wd_2_196 wd_2_197 (by decide +kernel) (by decide +kernel) (by decide) (by decide +kernel : decode cX6_afterDigits 18 = .ok (.invokevirtual 41, 3))) ?_
  refine mm_fc (ss_callS X rfl wd_3_24 wd_1_3 wd_3_22 wd_3_23 (by decide +kernel) (by decide +kernel) (by decide) (by decide +kernel : decode cX6_afterDigits 21 = .ok (.invokestatic 57, 3))) ?_
  refine mm_fc (ss_ifeq hx hb (by decide +kernel : decode cX6_afterDigits 24 = .ok (.ifCond .eq 9, 3)) (by decide)) ?_
  refine mm_fc (ss_iinc hx hb (by decide +kernel : decode cX6_afterDigits 27 = .ok (.iinc 2 1, 3)) (by decide) (by decide)) ?_
  refine mm_fc (ss_kill (ss_goto hx hb (by decide +kernel : decode cX6_afterDigits 30 = .ok (.goto (-28), 3)) (by decide))) ?_
  refine mm_fc (ss_iload_n hx hb (by decide +kernel : decode cX6_afterDigits 33 = .ok (.iload_n 2, 1)) rfl) ?_
  refine mm_fc (ss_iret (by decide +kernel : decode cX6_afterDigits 34 = .ok (.ireturn, 1)) rfl) ?_
  exact mm_fn
def cd_X6_wordFrom : mm_K mm_H := [(0, s_pushI 0 1), (1, s_istore 3 2), (2, s_iload 1 3), (3, s_istore 4 5), (5, s_pushI 1 6), (6, s_istore 5 8), (8, s_pushI 0 9), (9, s_kill 11 [7] (s_istore 6 11)), (11, s_iload 6 13), (13, s_ldcS 15), (15, s_callT 0 0 1 18), (18, s_icmp (fun x y => y ≤ x) 103 21), (21, s_ldcS 23), (23, s_iload 6 25), (25, s_callT 1 1 1 28), (28, s_istore 7 30), (30, s_iload 7 32), (32, s_pushI 32 34), (34, s_icmp (fun x y => x = y) 75 37), (37, s_iload 5 39), (39, s_if (fun x => x = 0) 66 42), (42, s_iload 4 44), (44, s_iload 2 45), (45, s_icmp (fun x y => y ≤ x) 66 48), (48, s_aload 0 49), (49, s_get 6 0 52), (52, s_iload 4 54), (54, s_callV 8 126 1 1 57), (57, s_iload 7 59), (59, s_icmp (fun x y => ¬ x = y) 66 62), (62, s_pushI 1 63), (63, s_goto 67), (66, s_pushI 0 67), (67, s_istore 5 69), (69, s_iinc 4 1 72), (72, s_goto 97), (75, s_iload 5 77), (77, s_if (fun x => x = 0) 88 80), (80, s_iload 4 82), (82, s_iload 2 83), (83, s_icmp (fun x y => ¬ x = y) 88 86), (86, s_iload 3 87), (87, s_iret), (88, s_iinc 3 1 91), (91, s_iload 1 92), (92, s_istore 4 94), (94, s_pushI 1 95), (95, s_istore 5 97), (97, s_iinc 6 1 100), (100, s_kill 11 [7] (s_goto 11)), (103, s_pushI (-1) 104), (104, s_iret)]
set_option maxRecDepth 100000 in
set_option maxHeartbeats 4000000 in
theorem ok_X6_wordFrom (l : Launch) : mm_CodeOK l mm_I0 RX6 cX6_wordFrom 8 (some .int) cd_X6_wordFrom := by
  intro p e R s m args below meth c Q σ cA D A kc ks d C X
  have hx := X.1
  have hb := X.2.1
  have hown := X.2.2.2.1
  have hts := X.2.2.2.2.1
  refine mm_fc (ss_iconst hx hb (by decide +kernel : decode cX6_wordFrom 0 = .ok (.iconst 0, 1)) (by decide)) ?_
  refine mm_fc (ss_istore_n hx hb (by decide +kernel : decode cX6_wordFrom 1 = .ok (.istore_n 3, 1)) rfl (by decide)) ?_
  refine mm_fc (ss_iload_n hx hb (by decide +kernel : decode cX6_wordFrom 2 = .ok (.iload_n 1, 1)) rfl) ?_
  refine mm_fc (ss_istore hx hb (by decide +kernel : decode cX6_wordFrom 3 = .ok (.istore 4, 2)) (by decide)) ?_
  refine mm_fc (ss_iconst hx hb (by decide +kernel : decode cX6_wordFrom 5 = .ok (.iconst 1, 1)) (by decide)) ?_
  refine mm_fc (ss_istore hx hb (by decide +kernel : decode cX6_wordFrom 6 = .ok (.istore 5, 2)) (by decide)) ?_
  refine mm_fc (ss_iconst hx hb (by decide +kernel : decode cX6_wordFrom 8 = .ok (.iconst 0, 1)) (by decide)) ?_
  refine mm_fc (ss_kill (ss_istore hx hb (by decide +kernel : decode cX6_wordFrom 9 = .ok (.istore 6, 2)) (by decide))) ?_
  refine mm_fc (ss_iload hx hb (by decide +kernel : decode cX6_wordFrom 11 = .ok (.iload 6, 2))) ?_
  refine mm_fc (ss_ldcS X rfl (by decide +kernel : decode cX6_wordFrom 13 = .ok (.ldc 91, 2))) ?_
  refine mm_fc (ss_callT X rfl wd_2_217 wd_1_15 wd_2_214 wd_2_215 wd_2_216 (by decide +kernel) (by decide +kernel) (by decide) (by decide +kernel : decode cX6_wordFrom 15 = .ok (.invokevirtual 93, 3))) ?_
  refine mm_fc (ss_icmpge hx hb (by decide +kernel : decode cX6_wordFrom 18 = .ok (.if_icmp .ge 85, 3)) (by decide)) ?_
  refine mm_fc (ss_ldcS X rfl (by decide +kernel : decode cX6_wordFrom 21 = .ok (.ldc 91, 2))) ?_
  refine mm_fc (ss_iload hx hb (by decide +kernel : decode cX6_wordFrom 23 = .ok (.iload 6, 2))) ?_
  refine mm_fc (ss_callT X rfl wd_2_227 wd_1_15 wd_2_224 wd_2_225 wd_2_226 (by decide +kernel) (by decide +kernel) (by decide) (by decide +kernel : decode cX6_wordFrom 25 = .ok (.invokevirtual 98, 3))) ?_
  refine mm_fc (ss_istore hx hb (by decide +kernel : decode cX6_wordFrom 28 = .ok (.istore 7, 2)) (by decide)) ?_
  refine mm_fc (ss_iload hx hb (by decide +kernel : decode cX6_wordFrom 30 = .ok (.iload 7, 2))) ?_
  refine mm_fc (ss_bipush hx hb (by decide +kernel : decode cX6_wordFrom 32 = .ok (.bipush 32, 2)) (by decide)) ?_
  refine mm_fc (ss_icmpeq hx hb (by decide +kernel : decode cX6_wordFrom 34 = .ok (.if_icmp .eq 41, 3)) (by decide)) ?_
  refine mm_fc (ss_iload hx hb (by decide +kernel : decode cX6_wordFrom 37 = .ok (.iload 5, 2))) ?_
  refine mm_fc (ss_ifeq hx hb (by decide +kernel : decode cX6_wordFrom 39 = .ok (.ifCond .eq 27, 3)) (by decide)) ?_
  refine mm_fc (ss_iload hx hb (by decide +kernel : decode cX6_wordFrom 42 = .ok (.iload 4, 2))) ?_
  refine mm_fc (ss_iload_n hx hb (by decide +kernel : decode cX6_wordFrom 44 = .ok (.iload_n 2, 1)) rfl) ?_
  refine mm_fc (ss_icmpge hx hb (by decide +kernel : decode cX6_wordFrom 45 = .ok (.if_icmp .ge 21, 3)) (by decide)) ?_
  refine mm_fc (ss_aload_n hx hb (by decide +kernel : decode cX6_wordFrom 48 = .ok (.aload_n 0, 1)) rfl) ?_
  refine mm_fc (ss_get X rfl in_X6 (by decide) rfl wd_1_49 (by decide +kernel : decode cX6_wordFrom 49 = .ok (.getfield 30, 3))) ?_
  refine mm_fc (ss_iload hx hb (by decide +kernel : decode cX6_wordFrom 52 = .ok (.iload 4, 2))) ?_
  refine mm_fc (ss_callV X rfl rfl wd_2_198 wd_1_2 wd_2_195 wd_2_196 wd_2_197 (by decide +kernel) (by decide +kernel) (by decide) (by decide +kernel : decode cX6_wordFrom 54 = .ok (.invokevirtual 41, 3))) ?_
  refine mm_fc (ss_iload hx hb (by decide +kernel : decode cX6_wordFrom 57 = .ok (.iload 7, 2))) ?_
  refine mm_fc (ss_icmpne hx hb (by decide +kernel : decode cX6_wordFrom 59 = .ok (.if_icmp .ne 7, 3)) (by decide)) ?_
  refine mm_fc (ss_iconst hx hb (by decide +kernel : decode cX6_wordFrom 62 = .ok (.iconst 1, 1)) (by decide)) ?_
  refine mm_fc (ss_goto hx hb (by decide +kernel : decode cX6_wordFrom 63 = .ok (.goto 4, 3)) (by decide)) ?_
  refine mm_fc (ss_iconst hx hb (by decide +kernel : decode cX6_wordFrom 66 = .ok (.iconst 0, 1)) (by decide)) ?_
  refine mm_fc (ss_istore hx hb (by decide +kernel : decode cX6_wordFrom 67 = .ok (.istore 5, 2)) (by decide)) ?_
  refine mm_fc (ss_iinc hx hb (by decide +kernel : decode cX6_wordFrom 69 = .ok (.iinc 4 1, 3)) (by decide) (by decide)) ?_
  refine mm_fc (ss_goto hx hb (by decide +kernel : decode cX6_wordFrom 72 = .ok (.goto 25, 3)) (by decide)) ?_
  refine mm_fc (ss_iload hx hb (by decide +kernel : decode cX6_wordFrom 75 = .ok (.iload 5, 2))) ?_
  refine mm_fc (ss_ifeq hx hb (by decide +kernel : decode cX6_wordFrom 77 = .ok (.ifCond .eq 11, 3)) (by decide)) ?_
  refine mm_fc (ss_iload hx hb (by decide +kernel : decode cX6_wordFrom 80 = .ok (.iload 4, 2))) ?_
  refine mm_fc (ss_iload_n hx hb (by decide +kernel : decode cX6_wordFrom 82 = .ok (.iload_n 2, 1)) rfl) ?_
  refine mm_fc (ss_icmpne hx hb (by decide +kernel : decode cX6_wordFrom 83 = .ok (.if_icmp .ne 5, 3)) (by decide)) ?_
  refine mm_fc (ss_iload_n hx hb (by decide +kernel : decode cX6_wordFrom 86 = .ok (.iload_n 3, 1)) rfl) ?_
  refine mm_fc (ss_iret (by decide +kernel : decode cX6_wordFrom 87 = .ok (.ireturn, 1)) rfl) ?_
  refine mm_fc (ss_iinc hx hb (by decide +kernel : decode cX6_wordFrom 88 = .ok (.iinc 3 1, 3)) (by decide) (by decide)) ?_
  refine mm_fc (ss_iload_n hx hb (by decide +kernel : decode cX6_wordFrom 91 = .ok (.iload_n 1, 1)) rfl) ?_
  refine mm_fc (ss_istore hx hb (by decide +kernel : decode cX6_wordFrom 92 = .ok (.istore 4, 2)) (by decide)) ?_
  refine mm_fc (ss_iconst hx hb (by decide +kernel : decode cX6_wordFrom 94 = .ok (.iconst 1, 1)) (by decide)) ?_
  refine mm_fc (ss_istore hx hb (by decide +kernel : decode cX6_wordFrom 95 = .ok (.istore 5, 2)) (by decide)) ?_
  refine mm_fc (ss_iinc hx hb (by decide +kernel : decode cX6_wordFrom 97 = .ok (.iinc 6 1, 3)) (by decide) (by decide)) ?_
  refine mm_fc (ss_kill (ss_goto hx hb (by decide +kernel : decode cX6_wordFrom 100 = .ok (.goto (-89), 3)) (by decide))) ?_
  refine mm_fc (ss_iconst hx hb (by decide +kernel : decode cX6_wordFrom 103 = .ok (.iconst (-1), 1)) (by decide)) ?_
  refine mm_fc (ss_iret (by decide +kernel : decode cX6_wordFrom 104 = .ok (.ireturn, 1)) rfl) ?_
  exact mm_fn
