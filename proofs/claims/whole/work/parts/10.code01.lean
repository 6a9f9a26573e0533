def cd_X0_isAsSeen : mm_K mm_H := [(0, s_pushI 0 1), (1, s_istore 2 2), (2, s_iload 2 3), (3, s_aload 0 4), (4, s_get 0 2 7), (7, s_icmp (fun x y => y ≤ x) 50 10), (10, s_aload 0 11), (11, s_iload 2 12), (12, s_pushI 0 13), (13, s_callV 0 29 2 1 16), (16, s_iload 1 17), (17, s_icmp (fun x y => ¬ x = y) 44 20), (20, s_aload 0 21), (21, s_get 0 0 24), (24, s_aload 0 25), (25, s_iload 2 26), (26, s_pushI 1 27), (27, s_callV 0 29 2 1 30), (30, s_callV 7 106 1 1 33), (33, s_aload 0 34), (34, s_iload 2 35), (35, s_pushI 2 36), (36, s_callV 0 29 2 1 39), (39, s_icmp (fun x y => x = y) 44 42), (42, s_pushI 0 43), (43, s_zret), (44, s_iinc 2 1 47), (47, s_goto 2), (50, s_pushI 1 51), (51, s_zret)]
set_option maxRecDepth 100000 in
set_option maxHeartbeats 4000000 in
theorem ok_X0_isAsSeen (l : Launch) : mm_CodeOK l mm_I0 RX0 cX0_isAsSeen 3 (some .boolean) cd_X0_isAsSeen := by
  intro p e R s m args below meth c Q σ cA D A kc ks d C X
  have hx := X.1
  have hb := X.2.1
  have hown := X.2.2.2.1
  have hts := X.2.2.2.2.1
  refine mm_fc (ss_iconst hx hb (by decide +kernel : decode cX0_isAsSeen 0 = .ok (.iconst 0, 1)) (by decide)) ?_
  refine mm_fc (ss_istore_n hx hb (by decide +kernel : decode cX0_isAsSeen 1 = .ok (.istore_n 2, 1)) rfl (by decide)) ?_
  refine mm_fc (ss_iload_n hx hb (by decide +kernel : decode cX0_isAsSeen 2 = .ok (.iload_n 2, 1)) rfl) ?_
  refine mm_fc (ss_aload_n hx hb (by decide +kernel : decode cX0_isAsSeen 3 = .ok (.aload_n 0, 1)) rfl) ?_
  refine mm_fc (ss_get X rfl in_X0 (by decide) rfl wd_1_237 (by decide +kernel : decode cX0_isAsSeen 4 = .ok (.getfield 22, 3))) ?_
  refine mm_fc (ss_icmpge hx hb (by decide +kernel : decode cX0_isAsSeen 7 = .ok (.if_icmp .ge 43, 3)) (by decide)) ?_
  refine mm_fc (ss_aload_n hx hb (by decide +kernel : decode cX0_isAsSeen 10 = .ok (.aload_n 0, 1)) rfl) ?_
  refine mm_fc (ss_iload_n hx hb (by decide +kernel : decode cX0_isAsSeen 11 = .ok (.iload_n 2, 1)) rfl) ?_
  refine mm_fc (ss_iconst hx hb (by decide +kernel : decode cX0_isAsSeen 12 = .ok (.iconst 0, 1)) (by decide)) ?_
  refine mm_fc (ss_callV X rfl rfl wd_5_99 wd_1_10 wd_5_96 wd_5_98 wd_p_36 (by decide +kernel) (by decide +kernel) (by decide) (by decide +kernel : decode cX0_isAsSeen 13 = .ok (.invokevirtual 141, 3))) ?_
  refine mm_fc (ss_iload_n hx hb (by decide +kernel : decode cX0_isAsSeen 16 = .ok (.iload_n 1, 1)) rfl) ?_
  refine mm_fc (ss_icmpne hx hb (by decide +kernel : decode cX0_isAsSeen 17 = .ok (.if_icmp .ne 27, 3)) (by decide)) ?_
  refine mm_fc (ss_aload_n hx hb (by decide +kernel : decode cX0_isAsSeen 20 = .ok (.aload_n 0, 1)) rfl) ?_
  refine mm_fc (ss_get X rfl in_X0 (by decide) rfl wd_1_235 (by decide +kernel : decode cX0_isAsSeen 21 = .ok (.getfield 12, 3))) ?_
  refine mm_fc (ss_aload_n hx hb (by decide +kernel : decode cX0_isAsSeen 24 = .ok (.aload_n 0, 1)) rfl) ?_
  refine mm_fc (ss_iload_n hx hb (by decide +kernel : decode cX0_isAsSeen 25 = .ok (.iload_n 2, 1)) rfl) ?_
  refine mm_fc (ss_iconst hx hb (by decide +kernel : decode cX0_isAsSeen 26 = .ok (.iconst 1, 1)) (by decide)) ?_
  refine mm_fc (ss_callV X rfl rfl wd_5_99 wd_1_10 wd_5_96 wd_5_98 wd_p_36 (by decide +kernel) (by decide +kernel) (by decide) (by decide +kernel : decode cX0_isAsSeen 27 = .ok (.invokevirtual 141, 3))) ?_
  refine mm_fc (ss_callV X rfl rfl wd_4_42 wd_1_8 wd_5_14 wd_4_40 wd_4_41 (by decide +kernel) (by decide +kernel) (by decide) (by decide +kernel : decode cX0_isAsSeen 30 = .ok (.invokevirtual 70, 3))) ?_
  refine mm_fc (ss_aload_n hx hb (by decide +kernel : decode cX0_isAsSeen 33 = .ok (.aload_n 0, 1)) rfl) ?_
  refine mm_fc (ss_iload_n hx hb (by decide +kernel : decode cX0_isAsSeen 34 = .ok (.iload_n 2, 1)) rfl) ?_
  refine mm_fc (ss_iconst hx hb (by decide +kernel : decode cX0_isAsSeen 35 = .ok (.iconst 2, 1)) (by decide)) ?_
  refine mm_fc (ss_callV X rfl rfl wd_5_99 wd_1_10 wd_5_96 wd_5_98 wd_p_36 (by decide +kernel) (by decide +kernel) (by decide) (by decide +kernel : decode cX0_isAsSeen 36 = .ok (.invokevirtual 141, 3))) ?_
  refine mm_fc (ss_icmpeq hx hb (by decide +kernel : decode cX0_isAsSeen 39 = .ok (.if_icmp .eq 5, 3)) (by decide)) ?_
  refine mm_fc (ss_iconst hx hb (by decide +kernel : decode cX0_isAsSeen 42 = .ok (.iconst 0, 1)) (by decide)) ?_
  refine mm_fc (ss_zret (by decide +kernel : decode cX0_isAsSeen 43 = .ok (.ireturn, 1)) rfl) ?_
  refine mm_fc (ss_iinc hx hb (by decide +kernel : decode cX0_isAsSeen 44 = .ok (.iinc 2 1, 3)) (by decide) (by decide)) ?_
  refine mm_fc (ss_goto hx hb (by decide +kernel : decode cX0_isAsSeen 47 = .ok (.goto (-45), 3)) (by decide)) ?_
  refine mm_fc (ss_iconst hx hb (by decide +kernel : decode cX0_isAsSeen 50 = .ok (.iconst 1, 1)) (by decide)) ?_
  refine mm_fc (ss_zret (by decide +kernel : decode cX0_isAsSeen 51 = .ok (.ireturn, 1)) rfl) ?_
  exact mm_fn
def cd_X0_seenAt : mm_K mm_H := [(0, s_iload 1 1), (1, s_pushI 3 2), (2, s_bin (fun x y => x * y) 3), (3, s_iload 2 4), (4, s_bin (fun x y => x + y) 5), (5, s_istore 3 6), (6, s_iload 3 7), (7, s_if (fun x => x < 0) 28 10), (10, s_iload 3 11), (11, s_aload 0 12), (12, s_get 0 1 15), (15, s_alen 16), (16, s_icmp (fun x y => y ≤ x) 28 19), (19, s_aload 0 20), (20, s_get 0 1 23), (23, s_iload 3 24), (24, s_iald 25), (25, s_goto 29), (28, s_pushI 0 29), (29, s_iret)]
set_option maxRecDepth 100000 in
set_option maxHeartbeats 4000000 in
theorem ok_X0_seenAt (l : Launch) : mm_CodeOK l mm_I0 RX0 cX0_seenAt 4 (some .int) cd_X0_seenAt := by
  intro p e R s m args below meth c Q σ cA D A kc ks d C X
  have hx := X.1
  have hb := X.2.1
  have hown := X.2.2.2.1
  have hts := X.2.2.2.2.1
  refine mm_fc (ss_iload_n hx hb (by decide +kernel : decode cX0_seenAt 0 = .ok (.iload_n 1, 1)) rfl) ?_
  refine mm_fc (ss_iconst hx hb (by decide +kernel : decode cX0_seenAt 1 = .ok (.iconst 3, 1)) (by decide)) ?_
  refine mm_fc (ss_imul hx hb (by decide +kernel : decode cX0_seenAt 2 = .ok (.imul, 1))) ?_
  refine mm_fc (ss_iload_n hx hb (by decide +kernel : decode cX0_seenAt 3 = .ok (.iload_n 2, 1)) rfl) ?_
  refine mm_fc (ss_iadd hx hb (by decide +kernel : decode cX0_seenAt 4 = .ok (.iadd, 1))) ?_
  refine mm_fc (ss_istore_n hx hb (by decide +kernel : decode cX0_seenAt 5 = .ok (.istore_n 3, 1)) rfl (by decide)) ?_
  refine mm_fc (ss_iload_n hx hb (by decide +kernel : decode cX0_seenAt 6 = .ok (.iload_n 3, 1)) rfl) ?_
  refine mm_fc (ss_iflt hx hb (by decide +kernel : decode cX0_seenAt 7 = .ok (.ifCond .lt 21, 3)) (by decide)) ?_
  refine mm_fc (ss_iload_n hx hb (by decide +kernel : decode cX0_seenAt 10 = .ok (.iload_n 3, 1)) rfl) ?_
  refine mm_fc (ss_aload_n hx hb (by decide +kernel : decode cX0_seenAt 11 = .ok (.aload_n 0, 1)) rfl) ?_
  refine mm_fc (ss_get X rfl in_X0 (by decide) rfl wd_1_236 (by decide +kernel : decode cX0_seenAt 12 = .ok (.getfield 18, 3))) ?_
  refine mm_fc (ss_alen X (by decide +kernel : decode cX0_seenAt 15 = .ok (.arraylength, 1))) ?_
  refine mm_fc (ss_icmpge hx hb (by decide +kernel : decode cX0_seenAt 16 = .ok (.if_icmp .ge 12, 3)) (by decide)) ?_
  refine mm_fc (ss_aload_n hx hb (by decide +kernel : decode cX0_seenAt 19 = .ok (.aload_n 0, 1)) rfl) ?_
  refine mm_fc (ss_get X rfl in_X0 (by decide) rfl wd_1_236 (by decide +kernel : decode cX0_seenAt 20 = .ok (.getfield 18, 3))) ?_
  refine mm_fc (ss_iload_n hx hb (by decide +kernel : decode cX0_seenAt 23 = .ok (.iload_n 3, 1)) rfl) ?_
  refine mm_fc (ss_iald X (by decide +kernel : decode cX0_seenAt 24 = .ok (.iaload, 1))) ?_
  refine mm_fc (ss_goto hx hb (by decide +kernel : decode cX0_seenAt 25 = .ok (.goto 4, 3)) (by decide)) ?_
  refine mm_fc (ss_iconst hx hb (by decide +kernel : decode cX0_seenAt 28 = .ok (.iconst 0, 1)) (by decide)) ?_
  refine mm_fc (ss_iret (by decide +kernel : decode cX0_seenAt 29 = .ok (.ireturn, 1)) rfl) ?_
  exact mm_fn
def cd_X0_findTelling : mm_K mm_H := [(0, s_pushI 30 2), (2, s_pushI 999 5), (5, s_aload 2 6), (6, s_get 7 11 9), (9, s_bin (fun x y => x - y) 10), (10, s_callS 11 2 1 13), (13, s_istore 6 15), (15, s_aload 0 16), (16, s_pushI (-1) 17), (17, s_putI 0 9 20), (20, s_aload 0 21), (21, s_pushI 11 23), (23, s_putI 0 10 26), (26, s_pushI 0 27), (27, s_kill 29 [8] (s_istore 7 29)), (29, s_iload 7 31), (31, s_pushI 9 33), (33, s_icmp (fun x y => y < x) 114 36), (36, s_aload 0 37), (37, s_get 0 0 40), (40, s_aload 2 41), (41, s_callV 7 100 1 0 44), (44, s_aload 0 45), (45, s_get 0 0 48), (48, s_iload 3 49), (49, s_iload 4 51), (51, s_iload 7 53), (53, s_callV 7 115 3 0 56), (56, s_pushI 1 57), (57, s_istore 8 59), (59, s_iload 8 61), (61, s_iload 6 63), (63, s_icmp (fun x y => y < x) 108 66), (66, s_iload 5 68), (68, s_if (fun x => x = 0) 108 71), (71, s_aload 1 72), (72, s_aload 0 73), (73, s_get 0 0 76), (76, s_pushI 1 77), (77, s_callV 10 141 2 0 80), (80, s_aload 0 81), (81, s_get 0 5 84), (84, s_iload 7 86), (86, s_pushI 31 88), (88, s_bin (fun x y => x * y) 89), (89, s_iload 8 91), (91, s_bin (fun x y => x + y) 92), (92, s_aload 0 93), (93, s_get 0 0 96), (96, s_iload 4 98), (98, s_callV 7 106 1 1 101), (101, s_iast 102), (102, s_iinc 8 1 105), (105, s_goto 59), (108, s_iinc 7 1 111), (111, s_kill 29 [8] (s_goto 29)), (114, s_pushI 1 115), (115, s_kill 117 [1, 2, 3, 4, 8] (s_istore 7 117)), (117, s_iload 7 119), (119, s_iload 6 121), (121, s_icmp (fun x y => y < x) 166 124), (124, s_iload 5 126), (126, s_if (fun x => x = 0) 166 129), (129, s_aload 0 130), (130, s_iload 5 132), (132, s_iload 7 134), (134, s_callV 0 31 2 1 137), (137, s_istore 8 139), (139, s_iload 8 141), (141, s_aload 0 142), (142, s_get 0 10 145), (145, s_icmp (fun x y => y ≤ x) 160 148), (148, s_aload 0 149), (149, s_iload 7 151), (151, s_putI 0 9 154), (154, s_aload 0 155), (155, s_iload 8 157), (157, s_putI 0 10 160), (160, s_iinc 7 1 163), (163, s_kill 117 [1, 2, 3, 4, 8] (s_goto 117)), (166, s_aload 0 167), (167, s_get 0 9 170), (170, s_pushI (-1) 171), (171, s_icmp (fun x y => x = y) 178 174), (174, s_pushI 1 175), (175, s_goto 179), (178, s_pushI 0 179), (179, s_zret)]
set_option maxRecDepth 100000 in
set_option maxHeartbeats 4000000 in
theorem ok_X0_findTelling (l : Launch) : mm_CodeOK l mm_I0 RX0 cX0_findTelling 9 (some .boolean) cd_X0_findTelling := by
  intro p e R s m args below meth c Q σ cA D A kc ks d C X
  have hx := X.1
  have hb := X.2.1
  have hown := X.2.2.2.1
  have hts := X.2.2.2.2.1
  refine mm_fc (ss_bipush hx hb (by decide +kernel : decode cX0_findTelling 0 = .ok (.bipush 30, 2)) (by decide)) ?_
  refine mm_fc (ss_sipush hx hb (by decide +kernel : decode cX0_findTelling 2 = .ok (.sipush 999, 3)) (by decide)) ?_
  refine mm_fc (ss_aload_n hx hb (by decide +kernel : decode cX0_findTelling 5 = .ok (.aload_n 2, 1)) rfl) ?_
  refine mm_fc (ss_getN X rfl in_X7 (by decide) rfl wd_1_179 (by decide +kernel : decode cX0_findTelling 6 = .ok (.getfield 61, 3))) ?_
  refine mm_fc (ss_isub hx hb (by decide +kernel : decode cX0_findTelling 9 = .ok (.isub, 1))) ?_
  refine mm_fc (ss_callS X rfl wd_2_162 wd_1_14 wd_5_13 wd_2_161 (by decide +kernel) (by decide +kernel) (by decide) (by decide +kernel : decode cX0_findTelling 10 = .ok (.invokestatic 64, 3))) ?_
  refine mm_fc (ss_istore hx hb (by decide +kernel : decode cX0_findTelling 13 = .ok (.istore 6, 2)) (by decide)) ?_
  refine mm_fc (ss_aload_n hx hb (by decide +kernel : decode cX0_findTelling 15 = .ok (.aload_n 0, 1)) rfl) ?_
  refine mm_fc (ss_iconst hx hb (by decide +kernel : decode cX0_findTelling 16 = .ok (.iconst (-1), 1)) (by decide)) ?_
  refine mm_fc (ss_putI X rfl in_X0 tyX0_ok nmX0 (by decide) rfl rfl rfl rfl wd_2_7 (by decide +kernel : decode cX0_findTelling 17 = .ok (.putfield 45, 3))) ?_
  refine mm_fc (ss_aload_n hx hb (by decide +kernel : decode cX0_findTelling 20 = .ok (.aload_n 0, 1)) rfl) ?_
  refine mm_fc (ss_bipush hx hb (by decide +kernel : decode cX0_findTelling 21 = .ok (.bipush 11, 2)) (by decide)) ?_
  refine mm_fc (ss_putI X rfl in_X0 tyX0_ok nmX0 (by decide) rfl rfl rfl rfl wd_2_9 (by decide +kernel : decode cX0_findTelling 23 = .ok (.putfield 48, 3))) ?_
  refine mm_fc (ss_iconst hx hb (by decide +kernel : decode cX0_findTelling 26 = .ok (.iconst 0, 1)) (by decide)) ?_
  refine mm_fc (ss_kill (ss_istore hx hb (by decide +kernel : decode cX0_findTelling 27 = .ok (.istore 7, 2)) (by decide))) ?_
  refine mm_fc (ss_iload hx hb (by decide +kernel : decode cX0_findTelling 29 = .ok (.iload 7, 2))) ?_
  refine mm_fc (ss_bipush hx hb (by decide +kernel : decode cX0_findTelling 31 = .ok (.bipush 9, 2)) (by decide)) ?_
  refine mm_fc (ss_icmpgt hx hb (by decide +kernel : decode cX0_findTelling 33 = .ok (.if_icmp .gt 81, 3)) (by decide)) ?_
  refine mm_fc (ss_aload_n hx hb (by decide +kernel : decode cX0_findTelling 36 = .ok (.aload_n 0, 1)) rfl) ?_
  refine mm_fc (ss_get X rfl in_X0 (by decide) rfl wd_1_235 (by decide +kernel : decode cX0_findTelling 37 = .ok (.getfield 12, 3))) ?_
  refine mm_fc (ss_aload_n hx hb (by decide +kernel : decode cX0_findTelling 40 = .ok (.aload_n 2, 1)) rfl) ?_
  refine mm_fc (ss_callV X rfl rfl wd_4_14 wd_1_8 wd_4_218 wd_4_12 wd_4_13 (by decide +kernel) (by decide +kernel) (by decide) (by decide +kernel : decode cX0_findTelling 41 = .ok (.invokevirtual 51, 3))) ?_
  refine mm_fc (ss_aload_n hx hb (by decide +kernel : decode cX0_findTelling 44 = .ok (.aload_n 0, 1)) rfl) ?_
  refine mm_fc (ss_get X rfl in_X0 (by decide) rfl wd_1_235 (by decide +kernel : decode cX0_findTelling 45 = .ok (.getfield 12, 3))) ?_
  refine mm_fc (ss_iload_n hx hb (by decide +kernel : decode cX0_findTelling 48 = .ok (.iload_n 3, 1)) rfl) ?_
  refine mm_fc (ss_iload hx hb (by decide +kernel : decode cX0_findTelling 49 = .ok (.iload 4, 2))) ?_
  refine mm_fc (ss_iload hx hb (by decide +kernel : decode cX0_findTelling 51 = .ok (.iload 7, 2))) ?_
  refine mm_fc (ss_callV X rfl rfl wd_3_137 wd_1_8 wd_5_91 wd_3_135 wd_3_136 (by decide +kernel) (by decide +kernel) (by decide) (by decide +kernel : decode cX0_findTelling 53 = .ok (.invokevirtual 131, 3))) ?_
  refine mm_fc (ss_iconst hx hb (by decide +kernel : decode cX0_findTelling 56 = .ok (.iconst 1, 1)) (by decide)) ?_
  refine mm_fc (ss_istore hx hb (by decide +kernel : decode cX0_findTelling 57 = .ok (.istore 8, 2)) (by decide)) ?_
  refine mm_fc (ss_iload hx hb (by decide +kernel : decode cX0_findTelling 59 = .ok (.iload 8, 2))) ?_
  refine mm_fc (ss_iload hx hb (by decide +kernel : decode cX0_findTelling 61 = .ok (.iload 6, 2))) ?_
  refine mm_fc (ss_icmpgt hx hb (by decide +kernel : decode cX0_findTelling 63 = .ok (.if_icmp .gt 45, 3)) (by decide)) ?_
  refine mm_fc (ss_iload hx hb (by decide +kernel : decode cX0_findTelling 66 = .ok (.iload 5, 2))) ?_
  refine mm_fc (ss_ifeq hx hb (by decide +kernel : decode cX0_findTelling 68 = .ok (.ifCond .eq 40, 3)) (by decide)) ?_
  refine mm_fc (ss_aload_n hx hb (by decide +kernel : decode cX0_findTelling 71 = .ok (.aload_n 1, 1)) rfl) ?_
  refine mm_fc (ss_aload_n hx hb (by decide +kernel : decode cX0_findTelling 72 = .ok (.aload_n 0, 1)) rfl) ?_
  refine mm_fc (ss_get X rfl in_X0 (by decide) rfl wd_1_235 (by decide +kernel : decode cX0_findTelling 73 = .ok (.getfield 12, 3))) ?_
  refine mm_fc (ss_iconst hx hb (by decide +kernel : decode cX0_findTelling 76 = .ok (.iconst 1, 1)) (by decide)) ?_
  refine mm_fc (ss_callV X rfl rfl wd_4_222 wd_1_12 wd_4_219 wd_4_220 wd_4_221 (by decide +kernel) (by decide +kernel) (by decide) (by decide +kernel : decode cX0_findTelling 77 = .ok (.invokevirtual 55, 3))) ?_
  refine mm_fc (ss_aload_n hx hb (by decide +kernel : decode cX0_findTelling 80 = .ok (.aload_n 0, 1)) rfl) ?_
  refine mm_fc (ss_get X rfl in_X0 (by decide) rfl wd_2_0 (by decide +kernel : decode cX0_findTelling 81 = .ok (.getfield 33, 3))) ?_
  refine mm_fc (ss_iload hx hb (by decide +kernel : decode cX0_findTelling 84 = .ok (.iload 7, 2))) ?_
  refine mm_fc (ss_bipush hx hb (by decide +kernel : decode cX0_findTelling 86 = .ok (.bipush 31, 2)) (by decide)) ?_
  refine mm_fc (ss_imul hx hb (by decide +kernel : decode cX0_findTelling 88 = .ok (.imul, 1))) ?_
  refine mm_fc (ss_iload hx hb (by decide +kernel : decode cX0_findTelling 89 = .ok (.iload 8, 2))) ?_
  refine mm_fc (ss_iadd hx hb (by decide +kernel : decode cX0_findTelling 91 = .ok (.iadd, 1))) ?_
  refine mm_fc (ss_aload_n hx hb (by decide +kernel : decode cX0_findTelling 92 = .ok (.aload_n 0, 1)) rfl) ?_
  refine mm_fc (ss_get X rfl in_X0 (by decide) rfl wd_1_235 (by decide +kernel : decode cX0_findTelling 93 = .ok (.getfield 12, 3))) ?_
  refine mm_fc (ss_iload hx hb (by decide +kernel : decode cX0_findTelling 96 = .ok (.iload 4, 2))) ?_
  refine mm_fc (ss_callV X rfl rfl wd_4_42 wd_1_8 wd_5_14 wd_4_40 wd_4_41 (by decide +kernel) (by decide +kernel) (by decide) (by decide +kernel : decode cX0_findTelling 98 = .ok (.invokevirtual 70, 3))) ?_
  refine mm_fc (ss_iast X (by decide +kernel : decode cX0_findTelling 101 = .ok (.iastore, 1))) ?_
  refine mm_fc (ss_iinc hx hb (by decide +kernel : decode cX0_findTelling 102 = .ok (.iinc 8 1, 3)) (by decide) (by decide)) ?_
  refine mm_fc (ss_goto hx hb (by decide +kernel : decode cX0_findTelling 105 = .ok (.goto (-46), 3)) (by decide)) ?_
  refine mm_fc (ss_iinc hx hb (by decide +kernel : decode cX0_findTelling 108 = .ok (.iinc 7 1, 3)) (by decide) (by decide)) ?_
  refine mm_fc (ss_kill (ss_goto hx hb (by decide +kernel : decode cX0_findTelling 111 = .ok (.goto (-82), 3)) (by decide))) ?_
  refine mm_fc (ss_iconst hx hb (by decide +kernel : decode cX0_findTelling 114 = .ok (.iconst 1, 1)) (by decide)) ?_
  refine mm_fc (ss_kill (ss_istore hx hb (by decide +kernel : decode cX0_findTelling 115 = .ok (.istore 7, 2)) (by decide))) ?_
  refine mm_fc (ss_iload hx hb (by decide +kernel : decode cX0_findTelling 117 = .ok (.iload 7, 2))) ?_
  refine mm_fc (ss_iload hx hb (by decide +kernel : decode cX0_findTelling 119 = .ok (.iload 6, 2))) ?_
  refine mm_fc (ss_icmpgt hx hb (by decide +kernel : decode cX0_findTelling 121 = .ok (.if_icmp .gt 45, 3)) (by decide)) ?_
  refine mm_fc (ss_iload hx hb (by decide +kernel : decode cX0_findTelling 124 = .ok (.iload 5, 2))) ?_
  refine mm_fc (ss_ifeq hx hb (by decide +kernel : decode cX0_findTelling 126 = .ok (.ifCond .eq 40, 3)) (by decide)) ?_
  refine mm_fc (ss_aload_n hx hb (by decide +kernel : decode cX0_findTelling 129 = .ok (.aload_n 0, 1)) rfl) ?_
  refine mm_fc (ss_iload hx hb (by decide +kernel : decode cX0_findTelling 130 = .ok (.iload 5, 2))) ?_
  refine mm_fc (ss_iload hx hb (by decide +kernel : decode cX0_findTelling 132 = .ok (.iload 7, 2))) ?_
  refine mm_fc (ss_callV X rfl rfl wd_5_128 wd_1_10 wd_5_125 wd_5_127 wd_p_38 (by decide +kernel) (by decide +kernel) (by decide) (by decide +kernel : decode cX0_findTelling 134 = .ok (.invokevirtual 150, 3))) ?_
  refine mm_fc (ss_istore hx hb (by decide +kernel : decode cX0_findTelling 137 = .ok (.istore 8, 2)) (by decide)) ?_
  refine mm_fc (ss_iload hx hb (by decide +kernel : decode cX0_findTelling 139 = .ok (.iload 8, 2))) ?_
  refine mm_fc (ss_aload_n hx hb (by decide +kernel : decode cX0_findTelling 141 = .ok (.aload_n 0, 1)) rfl) ?_
  refine mm_fc (ss_get X rfl in_X0 (by decide) rfl wd_2_9 (by decide +kernel : decode cX0_findTelling 142 = .ok (.getfield 48, 3))) ?_
  refine mm_fc (ss_icmpge hx hb (by decide +kernel : decode cX0_findTelling 145 = .ok (.if_icmp .ge 15, 3)) (by decide)) ?_
  refine mm_fc (ss_aload_n hx hb (by decide +kernel : decode cX0_findTelling 148 = .ok (.aload_n 0, 1)) rfl) ?_
  refine mm_fc (ss_iload hx hb (by decide +kernel : decode cX0_findTelling 149 = .ok (.iload 7, 2))) ?_
  refine mm_fc (ss_putI X rfl in_X0 tyX0_ok nmX0 (by decide) rfl rfl rfl rfl wd_2_7 (by decide +kernel : decode cX0_findTelling 151 = .ok (.putfield 45, 3))) ?_
  refine mm_fc (ss_aload_n hx hb (by decide +kernel : decode cX0_findTelling 154 = .ok (.aload_n 0, 1)) rfl) ?_
  refine mm_fc (ss_iload hx hb (by decide +kernel : decode cX0_findTelling 155 = .ok (.iload 8, 2))) ?_
  refine mm_fc (ss_putI X rfl in_X0 tyX0_ok nmX0 (by decide) rfl rfl rfl rfl wd_2_9 (by decide +kernel : decode cX0_findTelling 157 = .ok (.putfield 48, 3))) ?_
  refine mm_fc (ss_iinc hx hb (by decide +kernel : decode cX0_findTelling 160 = .ok (.iinc 7 1, 3)) (by decide) (by decide)) ?_
  refine mm_fc (ss_kill (ss_goto hx hb (by decide +kernel : decode cX0_findTelling 163 = .ok (.goto (-46), 3)) (by decide))) ?_
  refine mm_fc (ss_aload_n hx hb (by decide +kernel : decode cX0_findTelling 166 = .ok (.aload_n 0, 1)) rfl) ?_
  refine mm_fc (ss_get X rfl in_X0 (by decide) rfl wd_2_7 (by decide +kernel : decode cX0_findTelling 167 = .ok (.getfield 45, 3))) ?_
  refine mm_fc (ss_iconst hx hb (by decide +kernel : decode cX0_findTelling 170 = .ok (.iconst (-1), 1)) (by decide)) ?_
  refine mm_fc (ss_icmpeq hx hb (by decide +kernel : decode cX0_findTelling 171 = .ok (.if_icmp .eq 7, 3)) (by decide)) ?_
  refine mm_fc (ss_iconst hx hb (by decide +kernel : decode cX0_findTelling 174 = .ok (.iconst 1, 1)) (by decide)) ?_
  refine mm_fc (ss_goto hx hb (by decide +kernel : decode cX0_findTelling 175 = .ok (.goto 4, 3)) (by decide)) ?_
  refine mm_fc (ss_iconst hx hb (by decide +kernel : decode cX0_findTelling 178 = .ok (.iconst 0, 1)) (by decide)) ?_
  refine mm_fc (ss_zret (by decide +kernel : decode cX0_findTelling 179 = .ok (.ireturn, 1)) rfl) ?_
  exact mm_fn
def cd_X0_mostLeft : mm_K mm_H := [(0, s_pushI 0 1), (1, s_istore 3 2), (2, s_pushI 0 3), (3, s_kill 5 [5, 6, 7] (s_istore 4 5)), (5, s_iload 4 7), (7, s_pushI 9 9), (9, s_icmp (fun x y => y < x) 98 12), (12, s_pushI 0 13), (13, s_istore 5 15), (15, s_pushI 0 16), (16, s_kill 18 [7] (s_istore 6 18)), (18, s_iload 6 20), (20, s_pushI 9 22), (22, s_icmp (fun x y => y < x) 85 25), (25, s_iload 1 26), (26, s_iload 4 28), (28, s_bin (fun x y => x >>> (y &&& 31)) 29), (29, s_iload 1 30), (30, s_iload 6 32), (32, s_bin (fun x y => x >>> (y &&& 31)) 33), (33, s_bin (fun x y => x &&& y) 34), (34, s_pushI 1 35), (35, s_bin (fun x y => x &&& y) 36), (36, s_pushI 1 37), (37, s_icmp (fun x y => ¬ x = y) 44 40), (40, s_pushI 1 41), (41, s_goto 45), (44, s_pushI 0 45), (45, s_istore 7 47), (47, s_iload 5 49), (49, s_iload 7 51), (51, s_if (fun x => x = 0) 75 54), (54, s_aload 0 55), (55, s_iload 4 57), (57, s_iload 2 58), (58, s_callV 0 32 2 1 61), (61, s_aload 0 62), (62, s_iload 6 64), (64, s_iload 2 65), (65, s_callV 0 32 2 1 68), (68, s_icmp (fun x y => ¬ x = y) 75 71), (71, s_pushI 1 72), (72, s_goto 76), (75, s_pushI 0 76), (76, s_bin (fun x y => x + y) 77), (77, s_istore 5 79), (79, s_iinc 6 1 82), (82, s_kill 18 [7] (s_goto 18)), (85, s_iload 3 86), (86, s_iload 5 88), (88, s_callS 9 2 1 91), (91, s_istore 3 92), (92, s_iinc 4 1 95), (95, s_kill 5 [5, 6, 7] (s_goto 5)), (98, s_iload 3 99), (99, s_iret)]
set_option maxRecDepth 100000 in
set_option maxHeartbeats 4000000 in
theorem ok_X0_mostLeft (l : Launch) : mm_CodeOK l mm_I0 RX0 cX0_mostLeft 8 (some .int) cd_X0_mostLeft := by
  intro p e R s m args below meth c Q σ cA D A kc ks d C X
  have hx := X.1
  have hb := X.2.1
  have hown := X.2.2.2.1
  have hts := X.2.2.2.2.1
  refine mm_fc (ss_iconst hx hb (by decide +kernel : decode cX0_mostLeft 0 = .ok (.iconst 0, 1)) (by decide)) ?_
  refine mm_fc (ss_istore_n hx hb (by decide +kernel : decode cX0_mostLeft 1 = .ok (.istore_n 3, 1)) rfl (by decide)) ?_
  refine mm_fc (ss_iconst hx hb (by decide +kernel : decode cX0_mostLeft 2 = .ok (.iconst 0, 1)) (by decide)) ?_
  refine mm_fc (ss_kill (ss_istore hx hb (by decide +kernel : decode cX0_mostLeft 3 = .ok (.istore 4, 2)) (by decide))) ?_
  refine mm_fc (ss_iload hx hb (by decide +kernel : decode cX0_mostLeft 5 = .ok (.iload 4, 2))) ?_
  refine mm_fc (ss_bipush hx hb (by decide +kernel : decode cX0_mostLeft 7 = .ok (.bipush 9, 2)) (by decide)) ?_
  refine mm_fc (ss_icmpgt hx hb (by decide +kernel : decode cX0_mostLeft 9 = .ok (.if_icmp .gt 89, 3)) (by decide)) ?_
  refine mm_fc (ss_iconst hx hb (by decide +kernel : decode cX0_mostLeft 12 = .ok (.iconst 0, 1)) (by decide)) ?_
  refine mm_fc (ss_istore hx hb (by decide +kernel : decode cX0_mostLeft 13 = .ok (.istore 5, 2)) (by decide)) ?_
  refine mm_fc (ss_iconst hx hb (by decide +kernel : decode cX0_mostLeft 15 = .ok (.iconst 0, 1)) (by decide)) ?_
  refine mm_fc (ss_kill (ss_istore hx hb (by decide +kernel : decode cX0_mostLeft 16 = .ok (.istore 6, 2)) (by decide))) ?_
  refine mm_fc (ss_iload hx hb (by decide +kernel : decode cX0_mostLeft 18 = .ok (.iload 6, 2))) ?_
  refine mm_fc (ss_bipush hx hb (by decide +kernel : decode cX0_mostLeft 20 = .ok (.bipush 9, 2)) (by decide)) ?_
  refine mm_fc (ss_icmpgt hx hb (by decide +kernel : decode cX0_mostLeft 22 = .ok (.if_icmp .gt 63, 3)) (by decide)) ?_
  refine mm_fc (ss_iload_n hx hb (by decide +kernel : decode cX0_mostLeft 25 = .ok (.iload_n 1, 1)) rfl) ?_
  refine mm_fc (ss_iload hx hb (by decide +kernel : decode cX0_mostLeft 26 = .ok (.iload 4, 2))) ?_
  refine mm_fc (ss_ishr hx hb (by decide +kernel : decode cX0_mostLeft 28 = .ok (.ishr, 1))) ?_
  refine mm_fc (ss_iload_n hx hb (by decide +kernel : decode cX0_mostLeft 29 = .ok (.iload_n 1, 1)) rfl) ?_
  refine mm_fc (ss_iload hx hb (by decide +kernel : decode cX0_mostLeft 30 = .ok (.iload 6, 2))) ?_
  refine mm_fc (ss_ishr hx hb (by decide +kernel : decode cX0_mostLeft 32 = .ok (.ishr, 1))) ?_
  refine mm_fc (ss_iand hx hb (by decide +kernel : decode cX0_mostLeft 33 = .ok (.iand, 1))) ?_
  refine mm_fc (ss_iconst hx hb (by decide +kernel : decode cX0_mostLeft 34 = .ok (.iconst 1, 1)) (by decide)) ?_
  refine mm_fc (ss_iand hx hb (by decide +kernel : decode cX0_mostLeft 35 = .ok (.iand, 1))) ?_
  refine mm_fc (ss_iconst hx hb (by decide +kernel : decode cX0_mostLeft 36 = .ok (.iconst 1, 1)) (by decide)) ?_
  refine mm_fc (ss_icmpne hx hb (by decide +kernel : decode cX0_mostLeft 37 = .ok (.if_icmp .ne 7, 3)) (by decide)) ?_
  refine mm_fc (ss_iconst hx hb (by decide +kernel : decode cX0_mostLeft 40 = .ok (.iconst 1, 1)) (by decide)) ?_
  refine mm_fc (ss_goto hx hb (by decide +kernel : decode cX0_mostLeft 41 = .ok (.goto 4, 3)) (by decide)) ?_
  refine mm_fc (ss_iconst hx hb (by decide +kernel : decode cX0_mostLeft 44 = .ok (.iconst 0, 1)) (by decide)) ?_
  refine mm_fc (ss_istore hx hb (by decide +kernel : decode cX0_mostLeft 45 = .ok (.istore 7, 2)) (by decide)) ?_
  refine mm_fc (ss_iload hx hb (by decide +kernel : decode cX0_mostLeft 47 = .ok (.iload 5, 2))) ?_
  refine mm_fc (ss_iload hx hb (by decide +kernel : decode cX0_mostLeft 49 = .ok (.iload 7, 2))) ?_
  refine mm_fc (ss_ifeq hx hb (by decide +kernel : decode cX0_mostLeft 51 = .ok (.ifCond .eq 24, 3)) (by decide)) ?_
  refine mm_fc (ss_aload_n hx hb (by decide +kernel : decode cX0_mostLeft 54 = .ok (.aload_n 0, 1)) rfl) ?_
  refine mm_fc (ss_iload hx hb (by decide +kernel : decode cX0_mostLeft 55 = .ok (.iload 4, 2))) ?_
  refine mm_fc (ss_iload_n hx hb (by decide +kernel : decode cX0_mostLeft 57 = .ok (.iload_n 2, 1)) rfl) ?_
  refine mm_fc (ss_callV X rfl rfl wd_5_132 wd_1_10 wd_5_129 wd_5_131 wd_p_39 (by decide +kernel) (by decide +kernel) (by decide) (by decide +kernel : decode cX0_mostLeft 58 = .ok (.invokevirtual 153, 3))) ?_
  refine mm_fc (ss_aload_n hx hb (by decide +kernel : decode cX0_mostLeft 61 = .ok (.aload_n 0, 1)) rfl) ?_
  refine mm_fc (ss_iload hx hb (by decide +kernel : decode cX0_mostLeft 62 = .ok (.iload 6, 2))) ?_
  refine mm_fc (ss_iload_n hx hb (by decide +kernel : decode cX0_mostLeft 64 = .ok (.iload_n 2, 1)) rfl) ?_
  refine mm_fc (ss_callV X rfl rfl wd_5_132 wd_1_10 wd_5_129 wd_5_131 wd_p_39 (by decide +kernel) (by decide +kernel) (by decide) (by decide +kernel : decode cX0_mostLeft 65 = .ok (.invokevirtual 153, 3))) ?_
  refine mm_fc (ss_icmpne hx hb (by decide +kernel : decode cX0_mostLeft 68 = .ok (.if_icmp .ne 7, 3)) (by decide)) ?_
  refine mm_fc (ss_iconst hx hb (by decide +kernel : decode cX0_mostLeft 71 = .ok (.iconst 1, 1)) (by decide)) ?_
  refine mm_fc (ss_goto hx hb (by decide +kernel : decode cX0_mostLeft 72 = .ok (.goto 4, 3)) (by decide)) ?_
  refine mm_fc (ss_iconst hx hb (by decide +kernel : decode cX0_mostLeft 75 = .ok (.iconst 0, 1)) (by decide)) ?_
  refine mm_fc (ss_iadd hx hb (by decide +kernel : decode cX0_mostLeft 76 = .ok (.iadd, 1))) ?_
  refine mm_fc (ss_istore hx hb (by decide +kernel : decode cX0_mostLeft 77 = .ok (.istore 5, 2)) (by decide)) ?_
  refine mm_fc (ss_iinc hx hb (by decide +kernel : decode cX0_mostLeft 79 = .ok (.iinc 6 1, 3)) (by decide) (by decide)) ?_
  refine mm_fc (ss_kill (ss_goto hx hb (by decide +kernel : decode cX0_mostLeft 82 = .ok (.goto (-64), 3)) (by decide))) ?_
  refine mm_fc (ss_iload_n hx hb (by decide +kernel : decode cX0_mostLeft 85 = .ok (.iload_n 3, 1)) rfl) ?_
  refine mm_fc (ss_iload hx hb (by decide +kernel : decode cX0_mostLeft 86 = .ok (.iload 5, 2))) ?_
  refine mm_fc (ss_callS X rfl wd_2_165 wd_1_14 wd_5_100 wd_2_164 (by decide +kernel) (by decide +kernel) (by decide) (by decide +kernel : decode cX0_mostLeft 88 = .ok (.invokestatic 144, 3))) ?_
  refine mm_fc (ss_istore_n hx hb (by decide +kernel : decode cX0_mostLeft 91 = .ok (.istore_n 3, 1)) rfl (by decide)) ?_
  refine mm_fc (ss_iinc hx hb (by decide +kernel : decode cX0_mostLeft 92 = .ok (.iinc 4 1, 3)) (by decide) (by decide)) ?_
  refine mm_fc (ss_kill (ss_goto hx hb (by decide +kernel : decode cX0_mostLeft 95 = .ok (.goto (-90), 3)) (by decide))) ?_
  refine mm_fc (ss_iload_n hx hb (by decide +kernel : decode cX0_mostLeft 98 = .ok (.iload_n 3, 1)) rfl) ?_
  refine mm_fc (ss_iret (by decide +kernel : decode cX0_mostLeft 99 = .ok (.ireturn, 1)) rfl) ?_
  exact mm_fn
def cd_X0_lookBy : mm_K mm_H := [(0, s_iload 1 1), (1, s_pushI 31 3), (3, s_bin (fun x y => x * y) 4), (4, s_iload 2 5), (5, s_bin (fun x y => x + y) 6), (6, s_istore 3 7), (7, s_iload 3 8), (8, s_if (fun x => x < 0) 29 11), (11, s_iload 3 12), (12, s_aload 0 13), (13, s_get 0 5 16), (16, s_alen 17), (17, s_icmp (fun x y => y ≤ x) 29 20), (20, s_aload 0 21), (21, s_get 0 5 24), (24, s_iload 3 25), (25, s_iald 26), (26, s_goto 30), (29, s_pushI 0 30), (30, s_iret)]
set_option maxRecDepth 100000 in
set_option maxHeartbeats 4000000 in
theorem ok_X0_lookBy (l : Launch) : mm_CodeOK l mm_I0 RX0 cX0_lookBy 4 (some .int) cd_X0_lookBy := by
  intro p e R s m args below meth c Q σ cA D A kc ks d C X
  have hx := X.1
  have hb := X.2.1
  have hown := X.2.2.2.1
  have hts := X.2.2.2.2.1
  refine mm_fc (ss_iload_n hx hb (by decide +kernel : decode cX0_lookBy 0 = .ok (.iload_n 1, 1)) rfl) ?_
  refine mm_fc (ss_bipush hx hb (by decide +kernel : decode cX0_lookBy 1 = .ok (.bipush 31, 2)) (by decide)) ?_
  refine mm_fc (ss_imul hx hb (by decide +kernel : decode cX0_lookBy 3 = .ok (.imul, 1))) ?_
  refine mm_fc (ss_iload_n hx hb (by decide +kernel : decode cX0_lookBy 4 = .ok (.iload_n 2, 1)) rfl) ?_
  refine mm_fc (ss_iadd hx hb (by decide +kernel : decode cX0_lookBy 5 = .ok (.iadd, 1))) ?_
  refine mm_fc (ss_istore_n hx hb (by decide +kernel : decode cX0_lookBy 6 = .ok (.istore_n 3, 1)) rfl (by decide)) ?_
  refine mm_fc (ss_iload_n hx hb (by decide +kernel : decode cX0_lookBy 7 = .ok (.iload_n 3, 1)) rfl) ?_
  refine mm_fc (ss_iflt hx hb (by decide +kernel : decode cX0_lookBy 8 = .ok (.ifCond .lt 21, 3)) (by decide)) ?_
  refine mm_fc (ss_iload_n hx hb (by decide +kernel : decode cX0_lookBy 11 = .ok (.iload_n 3, 1)) rfl) ?_
  refine mm_fc (ss_aload_n hx hb (by decide +kernel : decode cX0_lookBy 12 = .ok (.aload_n 0, 1)) rfl) ?_
  refine mm_fc (ss_get X rfl in_X0 (by decide) rfl wd_2_0 (by decide +kernel : decode cX0_lookBy 13 = .ok (.getfield 33, 3))) ?_
  refine mm_fc (ss_alen X (by decide +kernel : decode cX0_lookBy 16 = .ok (.arraylength, 1))) ?_
  refine mm_fc (ss_icmpge hx hb (by decide +kernel : decode cX0_lookBy 17 = .ok (.if_icmp .ge 12, 3)) (by decide)) ?_
  refine mm_fc (ss_aload_n hx hb (by decide +kernel : decode cX0_lookBy 20 = .ok (.aload_n 0, 1)) rfl) ?_
  refine mm_fc (ss_get X rfl in_X0 (by decide) rfl wd_2_0 (by decide +kernel : decode cX0_lookBy 21 = .ok (.getfield 33, 3))) ?_
  refine mm_fc (ss_iload_n hx hb (by decide +kernel : decode cX0_lookBy 24 = .ok (.iload_n 3, 1)) rfl) ?_
  refine mm_fc (ss_iald X (by decide +kernel : decode cX0_lookBy 25 = .ok (.iaload, 1))) ?_
  refine mm_fc (ss_goto hx hb (by decide +kernel : decode cX0_lookBy 26 = .ok (.goto 4, 3)) (by decide)) ?_
  refine mm_fc (ss_iconst hx hb (by decide +kernel : decode cX0_lookBy 29 = .ok (.iconst 0, 1)) (by decide)) ?_
  refine mm_fc (ss_iret (by decide +kernel : decode cX0_lookBy 30 = .ok (.ireturn, 1)) rfl) ?_
  exact mm_fn
def cd_X1_clear : mm_K mm_H := [(0, s_aload 0 1), (1, s_pushI 0 2), (2, s_putI 1 5 5), (5, s_pushI 0 6), (6, s_istore 1 7), (7, s_iload 1 8), (8, s_pushI 4 9), (9, s_icmp (fun x y => y ≤ x) 32 12), (12, s_aload 0 13), (13, s_get 1 1 16), (16, s_iload 1 17), (17, s_pushI (-1) 18), (18, s_iast 19), (19, s_aload 0 20), (20, s_get 1 2 23), (23, s_iload 1 24), (24, s_pushI (-1) 25), (25, s_iast 26), (26, s_iinc 1 1 29), (29, s_goto 7), (32, s_vret)]
set_option maxRecDepth 100000 in
set_option maxHeartbeats 4000000 in
theorem ok_X1_clear (l : Launch) : mm_CodeOK l mm_I0 RX1 cX1_clear 2 none cd_X1_clear := by
  intro p e R s m args below meth c Q σ cA D A kc ks d C X
  have hx := X.1
  have hb := X.2.1
  have hown := X.2.2.2.1
  have hts := X.2.2.2.2.1
  refine mm_fc (ss_aload_n hx hb (by decide +kernel : decode cX1_clear 0 = .ok (.aload_n 0, 1)) rfl) ?_
  refine mm_fc (ss_iconst hx hb (by decide +kernel : decode cX1_clear 1 = .ok (.iconst 0, 1)) (by decide)) ?_
  refine mm_fc (ss_putI X rfl in_X1 tyX1_ok nmX1 (by decide) rfl rfl rfl rfl wd_1_93 (by decide +kernel : decode cX1_clear 2 = .ok (.putfield 27, 3))) ?_
  refine mm_fc (ss_iconst hx hb (by decide +kernel : decode cX1_clear 5 = .ok (.iconst 0, 1)) (by decide)) ?_
  refine mm_fc (ss_istore_n hx hb (by decide +kernel : decode cX1_clear 6 = .ok (.istore_n 1, 1)) rfl (by decide)) ?_
  refine mm_fc (ss_iload_n hx hb (by decide +kernel : decode cX1_clear 7 = .ok (.iload_n 1, 1)) rfl) ?_
  refine mm_fc (ss_iconst hx hb (by decide +kernel : decode cX1_clear 8 = .ok (.iconst 4, 1)) (by decide)) ?_
  refine mm_fc (ss_icmpge hx hb (by decide +kernel : decode cX1_clear 9 = .ok (.if_icmp .ge 23, 3)) (by decide)) ?_
  refine mm_fc (ss_aload_n hx hb (by decide +kernel : decode cX1_clear 12 = .ok (.aload_n 0, 1)) rfl) ?_
  refine mm_fc (ss_get X rfl in_X1 (by decide) rfl wd_1_89 (by decide +kernel : decode cX1_clear 13 = .ok (.getfield 15, 3))) ?_
  refine mm_fc (ss_iload_n hx hb (by decide +kernel : decode cX1_clear 16 = .ok (.iload_n 1, 1)) rfl) ?_
  refine mm_fc (ss_iconst hx hb (by decide +kernel : decode cX1_clear 17 = .ok (.iconst (-1), 1)) (by decide)) ?_
  refine mm_fc (ss_iast X (by decide +kernel : decode cX1_clear 18 = .ok (.iastore, 1))) ?_
  refine mm_fc (ss_aload_n hx hb (by decide +kernel : decode cX1_clear 19 = .ok (.aload_n 0, 1)) rfl) ?_
  refine mm_fc (ss_get X rfl in_X1 (by decide) rfl wd_1_90 (by decide +kernel : decode cX1_clear 20 = .ok (.getfield 18, 3))) ?_
  refine mm_fc (ss_iload_n hx hb (by decide +kernel : decode cX1_clear 23 = .ok (.iload_n 1, 1)) rfl) ?_
  refine mm_fc (ss_iconst hx hb (by decide +kernel : decode cX1_clear 24 = .ok (.iconst (-1), 1)) (by decide)) ?_
  refine mm_fc (ss_iast X (by decide +kernel : decode cX1_clear 25 = .ok (.iastore, 1))) ?_
  refine mm_fc (ss_iinc hx hb (by decide +kernel : decode cX1_clear 26 = .ok (.iinc 1 1, 3)) (by decide) (by decide)) ?_
  refine mm_fc (ss_goto hx hb (by decide +kernel : decode cX1_clear 29 = .ok (.goto (-22), 3)) (by decide)) ?_
  refine mm_fc (ss_vret (by decide +kernel : decode cX1_clear 32 = .ok (.return_, 1)) rfl) ?_
  exact mm_fn
def cd_X1_isTold : mm_K mm_H := [(0, s_iload 1 1), (1, s_if (fun x => x < 0) 23 4), (4, s_iload 1 5), (5, s_pushI 4 6), (6, s_icmp (fun x y => y ≤ x) 23 9), (9, s_aload 0 10), (10, s_get 1 1 13), (13, s_iload 1 14), (14, s_iald 15), (15, s_pushI (-1) 16), (16, s_icmp (fun x y => x = y) 23 19), (19, s_pushI 1 20), (20, s_goto 24), (23, s_pushI 0 24), (24, s_zret)]
set_option maxRecDepth 100000 in
set_option maxHeartbeats 4000000 in
theorem ok_X1_isTold (l : Launch) : mm_CodeOK l mm_I0 RX1 cX1_isTold 2 (some .boolean) cd_X1_isTold := by
  intro p e R s m args below meth c Q σ cA D A kc ks d C X
  have hx := X.1
  have hb := X.2.1
  have hown := X.2.2.2.1
  have hts := X.2.2.2.2.1
  refine mm_fc (ss_iload_n hx hb (by decide +kernel : decode cX1_isTold 0 = .ok (.iload_n 1, 1)) rfl) ?_
  refine mm_fc (ss_iflt hx hb (by decide +kernel : decode cX1_isTold 1 = .ok (.ifCond .lt 22, 3)) (by decide)) ?_
  refine mm_fc (ss_iload_n hx hb (by decide +kernel : decode cX1_isTold 4 = .ok (.iload_n 1, 1)) rfl) ?_
  refine mm_fc (ss_iconst hx hb (by decide +kernel : decode cX1_isTold 5 = .ok (.iconst 4, 1)) (by decide)) ?_
  refine mm_fc (ss_icmpge hx hb (by decide +kernel : decode cX1_isTold 6 = .ok (.if_icmp .ge 17, 3)) (by decide)) ?_
  refine mm_fc (ss_aload_n hx hb (by decide +kernel : decode cX1_isTold 9 = .ok (.aload_n 0, 1)) rfl) ?_
  refine mm_fc (ss_get X rfl in_X1 (by decide) rfl wd_1_89 (by decide +kernel : decode cX1_isTold 10 = .ok (.getfield 15, 3))) ?_
  refine mm_fc (ss_iload_n hx hb (by decide +kernel : decode cX1_isTold 13 = .ok (.iload_n 1, 1)) rfl) ?_
  refine mm_fc (ss_iald X (by decide +kernel : decode cX1_isTold 14 = .ok (.iaload, 1))) ?_
  refine mm_fc (ss_iconst hx hb (by decide +kernel : decode cX1_isTold 15 = .ok (.iconst (-1), 1)) (by decide)) ?_
  refine mm_fc (ss_icmpeq hx hb (by decide +kernel : decode cX1_isTold 16 = .ok (.if_icmp .eq 7, 3)) (by decide)) ?_
  refine mm_fc (ss_iconst hx hb (by decide +kernel : decode cX1_isTold 19 = .ok (.iconst 1, 1)) (by decide)) ?_
  refine mm_fc (ss_goto hx hb (by decide +kernel : decode cX1_isTold 20 = .ok (.goto 4, 3)) (by decide)) ?_
  refine mm_fc (ss_iconst hx hb (by decide +kernel : decode cX1_isTold 23 = .ok (.iconst 0, 1)) (by decide)) ?_
  refine mm_fc (ss_zret (by decide +kernel : decode cX1_isTold 24 = .ok (.ireturn, 1)) rfl) ?_
  exact mm_fn
def cd_X1_openRule : mm_K mm_H := [(0, s_iload 1 1), (1, s_if (fun x => x < 0) 29 4), (4, s_iload 1 5), (5, s_pushI 4 6), (6, s_icmp (fun x y => y ≤ x) 29 9), (9, s_aload 0 10), (10, s_get 1 1 13), (13, s_iload 1 14), (14, s_aload 0 15), (15, s_get 1 5 18), (18, s_iast 19), (19, s_aload 0 20), (20, s_get 1 2 23), (23, s_iload 1 24), (24, s_aload 0 25), (25, s_get 1 5 28), (28, s_iast 29), (29, s_vret)]
set_option maxRecDepth 100000 in
set_option maxHeartbeats 4000000 in
theorem ok_X1_openRule (l : Launch) : mm_CodeOK l mm_I0 RX1 cX1_openRule 2 none cd_X1_openRule := by
  intro p e R s m args below meth c Q σ cA D A kc ks d C X
  have hx := X.1
  have hb := X.2.1
  have hown := X.2.2.2.1
  have hts := X.2.2.2.2.1
  refine mm_fc (ss_iload_n hx hb (by decide +kernel : decode cX1_openRule 0 = .ok (.iload_n 1, 1)) rfl) ?_
  refine mm_fc (ss_iflt hx hb (by decide +kernel : decode cX1_openRule 1 = .ok (.ifCond .lt 28, 3)) (by decide)) ?_
  refine mm_fc (ss_iload_n hx hb (by decide +kernel : decode cX1_openRule 4 = .ok (.iload_n 1, 1)) rfl) ?_
  refine mm_fc (ss_iconst hx hb (by decide +kernel : decode cX1_openRule 5 = .ok (.iconst 4, 1)) (by decide)) ?_
  refine mm_fc (ss_icmpge hx hb (by decide +kernel : decode cX1_openRule 6 = .ok (.if_icmp .ge 23, 3)) (by decide)) ?_
  refine mm_fc (ss_aload_n hx hb (by decide +kernel : decode cX1_openRule 9 = .ok (.aload_n 0, 1)) rfl) ?_
  refine mm_fc (ss_get X rfl in_X1 (by decide) rfl wd_1_89 (by decide +kernel : decode cX1_openRule 10 = .ok (.getfield 15, 3))) ?_
  refine mm_fc (ss_iload_n hx hb (by decide +kernel : decode cX1_openRule 13 = .ok (.iload_n 1, 1)) rfl) ?_
  refine mm_fc (ss_aload_n hx hb (by decide +kernel : decode cX1_openRule 14 = .ok (.aload_n 0, 1)) rfl) ?_
  refine mm_fc (ss_get X rfl in_X1 (by decide) rfl wd_1_93 (by decide +kernel : decode cX1_openRule 15 = .ok (.getfield 27, 3))) ?_
  refine mm_fc (ss_iast X (by decide +kernel : decode cX1_openRule 18 = .ok (.iastore, 1))) ?_
  refine mm_fc (ss_aload_n hx hb (by decide +kernel : decode cX1_openRule 19 = .ok (.aload_n 0, 1)) rfl) ?_
  refine mm_fc (ss_get X rfl in_X1 (by decide) rfl wd_1_90 (by decide +kernel : decode cX1_openRule 20 = .ok (.getfield 18, 3))) ?_
  refine mm_fc (ss_iload_n hx hb (by decide +kernel : decode cX1_openRule 23 = .ok (.iload_n 1, 1)) rfl) ?_
  refine mm_fc (ss_aload_n hx hb (by decide +kernel : decode cX1_openRule 24 = .ok (.aload_n 0, 1)) rfl) ?_
  refine mm_fc (ss_get X rfl in_X1 (by decide) rfl wd_1_93 (by decide +kernel : decode cX1_openRule 25 = .ok (.getfield 27, 3))) ?_
  refine mm_fc (ss_iast X (by decide +kernel : decode cX1_openRule 28 = .ok (.iastore, 1))) ?_
  refine mm_fc (ss_vret (by decide +kernel : decode cX1_openRule 29 = .ok (.return_, 1)) rfl) ?_
  exact mm_fn
def cd_X1_closeRule : mm_K mm_H := [(0, s_iload 1 1), (1, s_if (fun x => x < 0) 19 4), (4, s_iload 1 5), (5, s_pushI 4 6), (6, s_icmp (fun x y => y ≤ x) 19 9), (9, s_aload 0 10), (10, s_get 1 2 13), (13, s_iload 1 14), (14, s_aload 0 15), (15, s_get 1 5 18), (18, s_iast 19), (19, s_vret)]
set_option maxRecDepth 100000 in
set_option maxHeartbeats 4000000 in
theorem ok_X1_closeRule (l : Launch) : mm_CodeOK l mm_I0 RX1 cX1_closeRule 2 none cd_X1_closeRule := by
  intro p e R s m args below meth c Q σ cA D A kc ks d C X
  have hx := X.1
  have hb := X.2.1
  have hown := X.2.2.2.1
  have hts := X.2.2.2.2.1
  refine mm_fc (ss_iload_n hx hb (by decide +kernel : decode cX1_closeRule 0 = .ok (.iload_n 1, 1)) rfl) ?_
  refine mm_fc (ss_iflt hx hb (by decide +kernel : decode cX1_closeRule 1 = .ok (.ifCond .lt 18, 3)) (by decide)) ?_
  refine mm_fc (ss_iload_n hx hb (by decide +kernel : decode cX1_closeRule 4 = .ok (.iload_n 1, 1)) rfl) ?_
  refine mm_fc (ss_iconst hx hb (by decide +kernel : decode cX1_closeRule 5 = .ok (.iconst 4, 1)) (by decide)) ?_
  refine mm_fc (ss_icmpge hx hb (by decide +kernel : decode cX1_closeRule 6 = .ok (.if_icmp .ge 13, 3)) (by decide)) ?_
  refine mm_fc (ss_aload_n hx hb (by decide +kernel : decode cX1_closeRule 9 = .ok (.aload_n 0, 1)) rfl) ?_
  refine mm_fc (ss_get X rfl in_X1 (by decide) rfl wd_1_90 (by decide +kernel : decode cX1_closeRule 10 = .ok (.getfield 18, 3))) ?_
  refine mm_fc (ss_iload_n hx hb (by decide +kernel : decode cX1_closeRule 13 = .ok (.iload_n 1, 1)) rfl) ?_
  refine mm_fc (ss_aload_n hx hb (by decide +kernel : decode cX1_closeRule 14 = .ok (.aload_n 0, 1)) rfl) ?_
  refine mm_fc (ss_get X rfl in_X1 (by decide) rfl wd_1_93 (by decide +kernel : decode cX1_closeRule 15 = .ok (.getfield 27, 3))) ?_
  refine mm_fc (ss_iast X (by decide +kernel : decode cX1_closeRule 18 = .ok (.iastore, 1))) ?_
  refine mm_fc (ss_vret (by decide +kernel : decode cX1_closeRule 19 = .ok (.return_, 1)) rfl) ?_
  exact mm_fn
def cd_X1_add : mm_K mm_H := [(0, s_aload 0 1), (1, s_get 1 5 4), (4, s_aload 0 5), (5, s_get 1 0 8), (8, s_alen 9), (9, s_icmp (fun x y => y ≤ x) 32 12), (12, s_aload 0 13), (13, s_get 1 0 16), (16, s_aload 0 17), (17, s_get 1 5 20), (20, s_iload 1 21), (21, s_iast 22), (22, s_aload 0 23), (23, s_dup 24), (24, s_get 1 5 27), (27, s_pushI 1 28), (28, s_bin (fun x y => x + y) 29), (29, s_putI 1 5 32), (32, s_vret)]
set_option maxRecDepth 100000 in
set_option maxHeartbeats 4000000 in
theorem ok_X1_add (l : Launch) : mm_CodeOK l mm_I0 RX1 cX1_add 2 none cd_X1_add := by
  intro p e R s m args below meth c Q σ cA D A kc ks d C X
  have hx := X.1
  have hb := X.2.1
  have hown := X.2.2.2.1
  have hts := X.2.2.2.2.1
  refine mm_fc (ss_aload_n hx hb (by decide +kernel : decode cX1_add 0 = .ok (.aload_n 0, 1)) rfl) ?_
  refine mm_fc (ss_get X rfl in_X1 (by decide) rfl wd_1_93 (by decide +kernel : decode cX1_add 1 = .ok (.getfield 27, 3))) ?_
  refine mm_fc (ss_aload_n hx hb (by decide +kernel : decode cX1_add 4 = .ok (.aload_n 0, 1)) rfl) ?_
  refine mm_fc (ss_get X rfl in_X1 (by decide) rfl wd_1_88 (by decide +kernel : decode cX1_add 5 = .ok (.getfield 9, 3))) ?_
  refine mm_fc (ss_alen X (by decide +kernel : decode cX1_add 8 = .ok (.arraylength, 1))) ?_
  refine mm_fc (ss_icmpge hx hb (by decide +kernel : decode cX1_add 9 = .ok (.if_icmp .ge 23, 3)) (by decide)) ?_
  refine mm_fc (ss_aload_n hx hb (by decide +kernel : decode cX1_add 12 = .ok (.aload_n 0, 1)) rfl) ?_
  refine mm_fc (ss_get X rfl in_X1 (by decide) rfl wd_1_88 (by decide +kernel : decode cX1_add 13 = .ok (.getfield 9, 3))) ?_
  refine mm_fc (ss_aload_n hx hb (by decide +kernel : decode cX1_add 16 = .ok (.aload_n 0, 1)) rfl) ?_
  refine mm_fc (ss_get X rfl in_X1 (by decide) rfl wd_1_93 (by decide +kernel : decode cX1_add 17 = .ok (.getfield 27, 3))) ?_
  refine mm_fc (ss_iload_n hx hb (by decide +kernel : decode cX1_add 20 = .ok (.iload_n 1, 1)) rfl) ?_
  refine mm_fc (ss_iast X (by decide +kernel : decode cX1_add 21 = .ok (.iastore, 1))) ?_
  refine mm_fc (ss_aload_n hx hb (by decide +kernel : decode cX1_add 22 = .ok (.aload_n 0, 1)) rfl) ?_
  refine mm_fc (ss_dup hx hb (by decide +kernel : decode cX1_add 23 = .ok (.dup, 1))) ?_
  refine mm_fc (ss_get X rfl in_X1 (by decide) rfl wd_1_93 (by decide +kernel : decode cX1_add 24 = .ok (.getfield 27, 3))) ?_
  refine mm_fc (ss_iconst hx hb (by decide +kernel : decode cX1_add 27 = .ok (.iconst 1, 1)) (by decide)) ?_
  refine mm_fc (ss_iadd hx hb (by decide +kernel : decode cX1_add 28 = .ok (.iadd, 1))) ?_
  refine mm_fc (ss_putI X rfl in_X1 tyX1_ok nmX1 (by decide) rfl rfl rfl rfl wd_1_93 (by decide +kernel : decode cX1_add 29 = .ok (.putfield 27, 3))) ?_
  refine mm_fc (ss_vret (by decide +kernel : decode cX1_add 32 = .ok (.return_, 1)) rfl) ?_
  exact mm_fn
def cd_X1_setValue : mm_K mm_H := [(0, s_iload 1 1), (1, s_if (fun x => x < 0) 20 4), (4, s_iload 1 5), (5, s_aload 0 6), (6, s_get 1 3 9), (9, s_alen 10), (10, s_icmp (fun x y => y ≤ x) 20 13), (13, s_aload 0 14), (14, s_get 1 3 17), (17, s_iload 1 18), (18, s_iload 2 19), (19, s_iast 20), (20, s_vret)]
set_option maxRecDepth 100000 in
set_option maxHeartbeats 4000000 in
theorem ok_X1_setValue (l : Launch) : mm_CodeOK l mm_I0 RX1 cX1_setValue 3 none cd_X1_setValue := by
  intro p e R s m args below meth c Q σ cA D A kc ks d C X
  have hx := X.1
  have hb := X.2.1
  have hown := X.2.2.2.1
  have hts := X.2.2.2.2.1
  refine mm_fc (ss_iload_n hx hb (by decide +kernel : decode cX1_setValue 0 = .ok (.iload_n 1, 1)) rfl) ?_
  refine mm_fc (ss_iflt hx hb (by decide +kernel : decode cX1_setValue 1 = .ok (.ifCond .lt 19, 3)) (by decide)) ?_
  refine mm_fc (ss_iload_n hx hb (by decide +kernel : decode cX1_setValue 4 = .ok (.iload_n 1, 1)) rfl) ?_
  refine mm_fc (ss_aload_n hx hb (by decide +kernel : decode cX1_setValue 5 = .ok (.aload_n 0, 1)) rfl) ?_
  refine mm_fc (ss_get X rfl in_X1 (by decide) rfl wd_1_91 (by decide +kernel : decode cX1_setValue 6 = .ok (.getfield 21, 3))) ?_
  refine mm_fc (ss_alen X (by decide +kernel : decode cX1_setValue 9 = .ok (.arraylength, 1))) ?_
  refine mm_fc (ss_icmpge hx hb (by decide +kernel : decode cX1_setValue 10 = .ok (.if_icmp .ge 10, 3)) (by decide)) ?_
  refine mm_fc (ss_aload_n hx hb (by decide +kernel : decode cX1_setValue 13 = .ok (.aload_n 0, 1)) rfl) ?_
  refine mm_fc (ss_get X rfl in_X1 (by decide) rfl wd_1_91 (by decide +kernel : decode cX1_setValue 14 = .ok (.getfield 21, 3))) ?_
  refine mm_fc (ss_iload_n hx hb (by decide +kernel : decode cX1_setValue 17 = .ok (.iload_n 1, 1)) rfl) ?_
  refine mm_fc (ss_iload_n hx hb (by decide +kernel : decode cX1_setValue 18 = .ok (.iload_n 2, 1)) rfl) ?_
  refine mm_fc (ss_iast X (by decide +kernel : decode cX1_setValue 19 = .ok (.iastore, 1))) ?_
  refine mm_fc (ss_vret (by decide +kernel : decode cX1_setValue 20 = .ok (.return_, 1)) rfl) ?_
  exact mm_fn
def cd_X1_work : mm_K mm_H := [(0, s_aload 0 1), (1, s_iload 1 2), (2, s_callV 1 34 1 1 5), (5, s_if (fun x => ¬ x = 0) 10 8), (8, s_pushI 0 9), (9, s_iret), (10, s_aload 0 11), (11, s_pushI 0 12), (12, s_putI 1 6 15), (15, s_aload 0 16), (16, s_get 1 2 19), (19, s_iload 1 20), (20, s_iald 21), (21, s_aload 0 22), (22, s_get 1 5 25), (25, s_callS 11 2 1 28), (28, s_istore 3 29), (29, s_pushI 0 30), (30, s_aload 0 31), (31, s_get 1 1 34), (34, s_iload 1 35), (35, s_iald 36), (36, s_callS 9 2 1 39), (39, s_kill 41 [1, 5, 6] (s_istore 4 41)), (41, s_iload 4 43), (43, s_iload 3 44), (44, s_icmp (fun x y => y ≤ x) 151 47), (47, s_aload 0 48), (48, s_get 1 0 51), (51, s_iload 4 53), (53, s_iald 54), (54, s_istore 5 56), (56, s_iload 5 58), (58, s_pushI 10000 61), (61, s_icmp (fun x y => y ≤ x) 73 64), (64, s_aload 0 65), (65, s_iload 5 67), (67, s_callV 1 41 1 0 70), (70, s_goto 145), (73, s_iload 5 75), (75, s_pushI 11000 78), (78, s_icmp (fun x y => y ≤ x) 98 81), (81, s_aload 0 82), (82, s_aload 0 83), (83, s_iload 5 85), (85, s_pushI 10000 88), (88, s_bin (fun x y => x - y) 89), (89, s_callV 1 40 1 1 92), (92, s_callV 1 41 1 0 95), (95, s_goto 145), (98, s_iload 5 100), (100, s_pushI 11011 103), (103, s_icmp (fun x y => x < y) 124 106), (106, s_aload 0 107), (107, s_aload 0 108), (108, s_iload 5 110), (110, s_aload 0 111), (111, s_callV 1 42 0 1 114), (114, s_aload 2 115), (115, s_callV 1 43 3 1 118), (118, s_callV 1 41 1 0 121), (121, s_goto 145), (124, s_aload 0 125), (125, s_callV 1 42 0 1 128), (128, s_istore 6 130), (130, s_aload 0 131), (131, s_iload 5 133), (133, s_aload 0 134), (134, s_callV 1 42 0 1 137), (137, s_iload 6 139), (139, s_callS 44 3 1 142), (142, s_callV 1 41 1 0 145), (145, s_iinc 4 1 148), (148, s_kill 41 [1, 5, 6] (s_goto 41)), (151, s_aload 0 152), (152, s_callV 1 42 0 1 155), (155, s_iret)]
set_option maxRecDepth 100000 in
set_option maxHeartbeats 4000000 in
theorem ok_X1_work (l : Launch) : mm_CodeOK l mm_I0 RX1 cX1_work 7 (some .int) cd_X1_work := by
  intro p e R s m args below meth c Q σ cA D A kc ks d C X
  have hx := X.1
  have hb := X.2.1
  have hown := X.2.2.2.1
  have hts := X.2.2.2.2.1
  refine mm_fc (ss_aload_n hx hb (by decide +kernel : decode cX1_work 0 = .ok (.aload_n 0, 1)) rfl) ?_
  refine mm_fc (ss_iload_n hx hb (by decide +kernel : decode cX1_work 1 = .ok (.iload_n 1, 1)) rfl) ?_
  refine mm_fc (ss_callV X rfl rfl wd_3_158 wd_1_5 wd_4_85 wd_3_156 wd_3_157 (by decide +kernel) (by decide +kernel) (by decide) (by decide +kernel : decode cX1_work 2 = .ok (.invokevirtual 34, 3))) ?_
  refine mm_fc (ss_ifne hx hb (by decide +kernel : decode cX1_work 5 = .ok (.ifCond .ne 5, 3)) (by decide)) ?_
  refine mm_fc (ss_iconst hx hb (by decide +kernel : decode cX1_work 8 = .ok (.iconst 0, 1)) (by decide)) ?_
  refine mm_fc (ss_iret (by decide +kernel : decode cX1_work 9 = .ok (.ireturn, 1)) rfl) ?_
  refine mm_fc (ss_aload_n hx hb (by decide +kernel : decode cX1_work 10 = .ok (.aload_n 0, 1)) rfl) ?_
  refine mm_fc (ss_iconst hx hb (by decide +kernel : decode cX1_work 11 = .ok (.iconst 0, 1)) (by decide)) ?_
  refine mm_fc (ss_putI X rfl in_X1 tyX1_ok nmX1 (by decide) rfl rfl rfl rfl wd_1_94 (by decide +kernel : decode cX1_work 12 = .ok (.putfield 31, 3))) ?_
  refine mm_fc (ss_aload_n hx hb (by decide +kernel : decode cX1_work 15 = .ok (.aload_n 0, 1)) rfl) ?_
  refine mm_fc (ss_get X rfl in_X1 (by decide) rfl wd_1_90 (by decide +kernel : decode cX1_work 16 = .ok (.getfield 18, 3))) ?_
  refine mm_fc (ss_iload_n hx hb (by decide +kernel : decode cX1_work 19 = .ok (.iload_n 1, 1)) rfl) ?_
  refine mm_fc (ss_iald X (by decide +kernel : decode cX1_work 20 = .ok (.iaload, 1))) ?_
  refine mm_fc (ss_aload_n hx hb (by decide +kernel : decode cX1_work 21 = .ok (.aload_n 0, 1)) rfl) ?_
  refine mm_fc (ss_get X rfl in_X1 (by decide) rfl wd_1_93 (by decide +kernel : decode cX1_work 22 = .ok (.getfield 27, 3))) ?_
  refine mm_fc (ss_callS X rfl wd_2_162 wd_1_14 wd_4_86 wd_2_161 (by decide +kernel) (by decide +kernel) (by decide) (by decide +kernel : decode cX1_work 25 = .ok (.invokestatic 38, 3))) ?_
  refine mm_fc (ss_istore_n hx hb (by decide +kernel : decode cX1_work 28 = .ok (.istore_n 3, 1)) rfl (by decide)) ?_
  refine mm_fc (ss_iconst hx hb (by decide +kernel : decode cX1_work 29 = .ok (.iconst 0, 1)) (by decide)) ?_
  refine mm_fc (ss_aload_n hx hb (by decide +kernel : decode cX1_work 30 = .ok (.aload_n 0, 1)) rfl) ?_
  refine mm_fc (ss_get X rfl in_X1 (by decide) rfl wd_1_89 (by decide +kernel : decode cX1_work 31 = .ok (.getfield 15, 3))) ?_
  refine mm_fc (ss_iload_n hx hb (by decide +kernel : decode cX1_work 34 = .ok (.iload_n 1, 1)) rfl) ?_
  refine mm_fc (ss_iald X (by decide +kernel : decode cX1_work 35 = .ok (.iaload, 1))) ?_
  refine mm_fc (ss_callS X rfl wd_2_165 wd_1_14 wd_4_87 wd_2_164 (by decide +kernel) (by decide +kernel) (by decide) (by decide +kernel : decode cX1_work 36 = .ok (.invokestatic 44, 3))) ?_
  refine mm_fc (ss_kill (ss_istore hx hb (by decide +kernel : decode cX1_work 39 = .ok (.istore 4, 2)) (by decide))) ?_
  refine mm_fc (ss_iload hx hb (by decide +kernel : decode cX1_work 41 = .ok (.iload 4, 2))) ?_
  refine mm_fc (ss_iload_n hx hb (by decide +kernel : decode cX1_work 43 = .ok (.iload_n 3, 1)) rfl) ?_
  refine mm_fc (ss_icmpge hx hb (by decide +kernel : decode cX1_work 44 = .ok (.if_icmp .ge 107, 3)) (by decide)) ?_
  refine mm_fc (ss_aload_n hx hb (by decide +kernel : decode cX1_work 47 = .ok (.aload_n 0, 1)) rfl) ?_
  refine mm_fc (ss_get X rfl in_X1 (by decide) rfl wd_1_88 (by decide +kernel : decode cX1_work 48 = .ok (.getfield 9, 3))) ?_
  refine mm_fc (ss_iload hx hb (by decide +kernel : decode cX1_work 51 = .ok (.iload 4, 2))) ?_
  refine mm_fc (ss_iald X (by decide +kernel : decode cX1_work 53 = .ok (.iaload, 1))) ?_
  refine mm_fc (ss_istore hx hb (by decide +kernel : decode cX1_work 54 = .ok (.istore 5, 2)) (by decide)) ?_
  refine mm_fc (ss_iload hx hb (by decide +kernel : decode cX1_work 56 = .ok (.iload 5, 2))) ?_
  refine mm_fc (ss_sipush hx hb (by decide +kernel : decode cX1_work 58 = .ok (.sipush 10000, 3)) (by decide)) ?_
  refine mm_fc (ss_icmpge hx hb (by decide +kernel : decode cX1_work 61 = .ok (.if_icmp .ge 12, 3)) (by decide)) ?_
  refine mm_fc (ss_aload_n hx hb (by decide +kernel : decode cX1_work 64 = .ok (.aload_n 0, 1)) rfl) ?_
  refine mm_fc (ss_iload hx hb (by decide +kernel : decode cX1_work 65 = .ok (.iload 5, 2))) ?_
  refine mm_fc (ss_callV X rfl rfl wd_4_91 wd_1_5 wd_4_88 wd_4_90 wd_p_26 (by decide +kernel) (by decide +kernel) (by decide) (by decide +kernel : decode cX1_work 67 = .ok (.invokevirtual 47, 3))) ?_
  refine mm_fc (ss_goto hx hb (by decide +kernel : decode cX1_work 70 = .ok (.goto 75, 3)) (by decide)) ?_
  refine mm_fc (ss_iload hx hb (by decide +kernel : decode cX1_work 73 = .ok (.iload 5, 2))) ?_
  refine mm_fc (ss_sipush hx hb (by decide +kernel : decode cX1_work 75 = .ok (.sipush 11000, 3)) (by decide)) ?_
  refine mm_fc (ss_icmpge hx hb (by decide +kernel : decode cX1_work 78 = .ok (.if_icmp .ge 20, 3)) (by decide)) ?_
  refine mm_fc (ss_aload_n hx hb (by decide +kernel : decode cX1_work 81 = .ok (.aload_n 0, 1)) rfl) ?_
  refine mm_fc (ss_aload_n hx hb (by decide +kernel : decode cX1_work 82 = .ok (.aload_n 0, 1)) rfl) ?_
  refine mm_fc (ss_iload hx hb (by decide +kernel : decode cX1_work 83 = .ok (.iload 5, 2))) ?_
  refine mm_fc (ss_sipush hx hb (by decide +kernel : decode cX1_work 85 = .ok (.sipush 10000, 3)) (by decide)) ?_
  refine mm_fc (ss_isub hx hb (by decide +kernel : decode cX1_work 88 = .ok (.isub, 1))) ?_
  refine mm_fc (ss_callV X rfl rfl wd_4_95 wd_1_5 wd_4_92 wd_4_94 wd_p_27 (by decide +kernel) (by decide +kernel) (by decide) (by decide +kernel : decode cX1_work 89 = .ok (.invokevirtual 51, 3))) ?_
  refine mm_fc (ss_callV X rfl rfl wd_4_91 wd_1_5 wd_4_88 wd_4_90 wd_p_26 (by decide +kernel) (by decide +kernel) (by decide) (by decide +kernel : decode cX1_work 92 = .ok (.invokevirtual 47, 3))) ?_
  refine mm_fc (ss_goto hx hb (by decide +kernel : decode cX1_work 95 = .ok (.goto 50, 3)) (by decide)) ?_
  refine mm_fc (ss_iload hx hb (by decide +kernel : decode cX1_work 98 = .ok (.iload 5, 2))) ?_
  refine mm_fc (ss_sipush hx hb (by decide +kernel : decode cX1_work 100 = .ok (.sipush 11011, 3)) (by decide)) ?_
  refine mm_fc (ss_icmplt hx hb (by decide +kernel : decode cX1_work 103 = .ok (.if_icmp .lt 21, 3)) (by decide)) ?_
  refine mm_fc (ss_aload_n hx hb (by decide +kernel : decode cX1_work 106 = .ok (.aload_n 0, 1)) rfl) ?_
  refine mm_fc (ss_aload_n hx hb (by decide +kernel : decode cX1_work 107 = .ok (.aload_n 0, 1)) rfl) ?_
  refine mm_fc (ss_iload hx hb (by decide +kernel : decode cX1_work 108 = .ok (.iload 5, 2))) ?_
  refine mm_fc (ss_aload_n hx hb (by decide +kernel : decode cX1_work 110 = .ok (.aload_n 0, 1)) rfl) ?_
  refine mm_fc (ss_callV X rfl rfl wd_4_99 wd_1_5 wd_4_96 wd_4_98 wd_p_28 (by decide +kernel) (by decide +kernel) (by decide) (by decide +kernel : decode cX1_work 111 = .ok (.invokevirtual 55, 3))) ?_
  refine mm_fc (ss_aload_n hx hb (by decide +kernel : decode cX1_work 114 = .ok (.aload_n 2, 1)) rfl) ?_
  refine mm_fc (ss_callV X rfl rfl wd_4_103 wd_1_5 wd_4_100 wd_4_102 wd_p_29 (by decide +kernel) (by decide +kernel) (by decide) (by decide +kernel : decode cX1_work 115 = .ok (.invokevirtual 59, 3))) ?_
  refine mm_fc (ss_callV X rfl rfl wd_4_91 wd_1_5 wd_4_88 wd_4_90 wd_p_26 (by decide +kernel) (by decide +kernel) (by decide) (by decide +kernel : decode cX1_work 118 = .ok (.invokevirtual 47, 3))) ?_
  refine mm_fc (ss_goto hx hb (by decide +kernel : decode cX1_work 121 = .ok (.goto 24, 3)) (by decide)) ?_
  refine mm_fc (ss_aload_n hx hb (by decide +kernel : decode cX1_work 124 = .ok (.aload_n 0, 1)) rfl) ?_
  refine mm_fc (ss_callV X rfl rfl wd_4_99 wd_1_5 wd_4_96 wd_4_98 wd_p_28 (by decide +kernel) (by decide +kernel) (by decide) (by decide +kernel : decode cX1_work 125 = .ok (.invokevirtual 55, 3))) ?_
  refine mm_fc (ss_istore hx hb (by decide +kernel : decode cX1_work 128 = .ok (.istore 6, 2)) (by decide)) ?_
  refine mm_fc (ss_aload_n hx hb (by decide +kernel : decode cX1_work 130 = .ok (.aload_n 0, 1)) rfl) ?_
  refine mm_fc (ss_iload hx hb (by decide +kernel : decode cX1_work 131 = .ok (.iload 5, 2))) ?_
  refine mm_fc (ss_aload_n hx hb (by decide +kernel : decode cX1_work 133 = .ok (.aload_n 0, 1)) rfl) ?_
  refine mm_fc (ss_callV X rfl rfl wd_4_99 wd_1_5 wd_4_96 wd_4_98 wd_p_28 (by decide +kernel) (by decide +kernel) (by decide) (by decide +kernel : decode cX1_work 134 = .ok (.invokevirtual 55, 3))) ?_
  refine mm_fc (ss_iload hx hb (by decide +kernel : decode cX1_work 137 = .ok (.iload 6, 2))) ?_
  refine mm_fc (ss_callS X rfl wd_4_107 wd_1_5 wd_4_105 wd_4_106 (by decide +kernel) (by decide +kernel) (by decide) (by decide +kernel : decode cX1_work 139 = .ok (.invokestatic 63, 3))) ?_
  refine mm_fc (ss_callV X rfl rfl wd_4_91 wd_1_5 wd_4_88 wd_4_90 wd_p_26 (by decide +kernel) (by decide +kernel) (by decide) (by decide +kernel : decode cX1_work 142 = .ok (.invokevirtual 47, 3))) ?_
  refine mm_fc (ss_iinc hx hb (by decide +kernel : decode cX1_work 145 = .ok (.iinc 4 1, 3)) (by decide) (by decide)) ?_
  refine mm_fc (ss_kill (ss_goto hx hb (by decide +kernel : decode cX1_work 148 = .ok (.goto (-107), 3)) (by decide))) ?_
  refine mm_fc (ss_aload_n hx hb (by decide +kernel : decode cX1_work 151 = .ok (.aload_n 0, 1)) rfl) ?_
  refine mm_fc (ss_callV X rfl rfl wd_4_99 wd_1_5 wd_4_96 wd_4_98 wd_p_28 (by decide +kernel) (by decide +kernel) (by decide) (by decide +kernel : decode cX1_work 152 = .ok (.invokevirtual 55, 3))) ?_
  refine mm_fc (ss_iret (by decide +kernel : decode cX1_work 155 = .ok (.ireturn, 1)) rfl) ?_
  exact mm_fn
def cd_X1_valueOf : mm_K mm_H := [(0, s_iload 1 1), (1, s_if (fun x => x < 0) 22 4), (4, s_iload 1 5), (5, s_aload 0 6), (6, s_get 1 3 9), (9, s_alen 10), (10, s_icmp (fun x y => y ≤ x) 22 13), (13, s_aload 0 14), (14, s_get 1 3 17), (17, s_iload 1 18), (18, s_iald 19), (19, s_goto 23), (22, s_pushI 0 23), (23, s_iret)]
set_option maxRecDepth 100000 in
set_option maxHeartbeats 4000000 in
theorem ok_X1_valueOf (l : Launch) : mm_CodeOK l mm_I0 RX1 cX1_valueOf 2 (some .int) cd_X1_valueOf := by
  intro p e R s m args below meth c Q σ cA D A kc ks d C X
  have hx := X.1
  have hb := X.2.1
  have hown := X.2.2.2.1
  have hts := X.2.2.2.2.1
  refine mm_fc (ss_iload_n hx hb (by decide +kernel : decode cX1_valueOf 0 = .ok (.iload_n 1, 1)) rfl) ?_
  refine mm_fc (ss_iflt hx hb (by decide +kernel : decode cX1_valueOf 1 = .ok (.ifCond .lt 21, 3)) (by decide)) ?_
  refine mm_fc (ss_iload_n hx hb (by decide +kernel : decode cX1_valueOf 4 = .ok (.iload_n 1, 1)) rfl) ?_
  refine mm_fc (ss_aload_n hx hb (by decide +kernel : decode cX1_valueOf 5 = .ok (.aload_n 0, 1)) rfl) ?_
  refine mm_fc (ss_get X rfl in_X1 (by decide) rfl wd_1_91 (by decide +kernel : decode cX1_valueOf 6 = .ok (.getfield 21, 3))) ?_
  refine mm_fc (ss_alen X (by decide +kernel : decode cX1_valueOf 9 = .ok (.arraylength, 1))) ?_
  refine mm_fc (ss_icmpge hx hb (by decide +kernel : decode cX1_valueOf 10 = .ok (.if_icmp .ge 12, 3)) (by decide)) ?_
  refine mm_fc (ss_aload_n hx hb (by decide +kernel : decode cX1_valueOf 13 = .ok (.aload_n 0, 1)) rfl) ?_
  refine mm_fc (ss_get X rfl in_X1 (by decide) rfl wd_1_91 (by decide +kernel : decode cX1_valueOf 14 = .ok (.getfield 21, 3))) ?_
  refine mm_fc (ss_iload_n hx hb (by decide +kernel : decode cX1_valueOf 17 = .ok (.iload_n 1, 1)) rfl) ?_
  refine mm_fc (ss_iald X (by decide +kernel : decode cX1_valueOf 18 = .ok (.iaload, 1))) ?_
  refine mm_fc (ss_goto hx hb (by decide +kernel : decode cX1_valueOf 19 = .ok (.goto 4, 3)) (by decide)) ?_
  refine mm_fc (ss_iconst hx hb (by decide +kernel : decode cX1_valueOf 22 = .ok (.iconst 0, 1)) (by decide)) ?_
  refine mm_fc (ss_iret (by decide +kernel : decode cX1_valueOf 23 = .ok (.ireturn, 1)) rfl) ?_
  exact mm_fn
def cd_X1_push : mm_K mm_H := [(0, s_aload 0 1), (1, s_get 1 6 4), (4, s_aload 0 5), (5, s_get 1 4 8), (8, s_alen 9), (9, s_icmp (fun x y => y ≤ x) 32 12), (12, s_aload 0 13), (13, s_get 1 4 16), (16, s_aload 0 17), (17, s_get 1 6 20), (20, s_iload 1 21), (21, s_iast 22), (22, s_aload 0 23), (23, s_dup 24), (24, s_get 1 6 27), (27, s_pushI 1 28), (28, s_bin (fun x y => x + y) 29), (29, s_putI 1 6 32), (32, s_vret)]
set_option maxRecDepth 100000 in
set_option maxHeartbeats 4000000 in
theorem ok_X1_push (l : Launch) : mm_CodeOK l mm_I0 RX1 cX1_push 2 none cd_X1_push := by
  intro p e R s m args below meth c Q σ cA D A kc ks d C X
  have hx := X.1
  have hb := X.2.1
  have hown := X.2.2.2.1
  have hts := X.2.2.2.2.1
  refine mm_fc (ss_aload_n hx hb (by decide +kernel : decode cX1_push 0 = .ok (.aload_n 0, 1)) rfl) ?_
  refine mm_fc (ss_get X rfl in_X1 (by decide) rfl wd_1_94 (by decide +kernel : decode cX1_push 1 = .ok (.getfield 31, 3))) ?_
  refine mm_fc (ss_aload_n hx hb (by decide +kernel : decode cX1_push 4 = .ok (.aload_n 0, 1)) rfl) ?_
  refine mm_fc (ss_get X rfl in_X1 (by decide) rfl wd_1_92 (by decide +kernel : decode cX1_push 5 = .ok (.getfield 24, 3))) ?_
  refine mm_fc (ss_alen X (by decide +kernel : decode cX1_push 8 = .ok (.arraylength, 1))) ?_
  refine mm_fc (ss_icmpge hx hb (by decide +kernel : decode cX1_push 9 = .ok (.if_icmp .ge 23, 3)) (by decide)) ?_
  refine mm_fc (ss_aload_n hx hb (by decide +kernel : decode cX1_push 12 = .ok (.aload_n 0, 1)) rfl) ?_
  refine mm_fc (ss_get X rfl in_X1 (by decide) rfl wd_1_92 (by decide +kernel : decode cX1_push 13 = .ok (.getfield 24, 3))) ?_
  refine mm_fc (ss_aload_n hx hb (by decide +kernel : decode cX1_push 16 = .ok (.aload_n 0, 1)) rfl) ?_
  refine mm_fc (ss_get X rfl in_X1 (by decide) rfl wd_1_94 (by decide +kernel : decode cX1_push 17 = .ok (.getfield 31, 3))) ?_
  refine mm_fc (ss_iload_n hx hb (by decide +kernel : decode cX1_push 20 = .ok (.iload_n 1, 1)) rfl) ?_
  refine mm_fc (ss_iast X (by decide +kernel : decode cX1_push 21 = .ok (.iastore, 1))) ?_
  refine mm_fc (ss_aload_n hx hb (by decide +kernel : decode cX1_push 22 = .ok (.aload_n 0, 1)) rfl) ?_
  refine mm_fc (ss_dup hx hb (by decide +kernel : decode cX1_push 23 = .ok (.dup, 1))) ?_
  refine mm_fc (ss_get X rfl in_X1 (by decide) rfl wd_1_94 (by decide +kernel : decode cX1_push 24 = .ok (.getfield 31, 3))) ?_
  refine mm_fc (ss_iconst hx hb (by decide +kernel : decode cX1_push 27 = .ok (.iconst 1, 1)) (by decide)) ?_
  refine mm_fc (ss_iadd hx hb (by decide +kernel : decode cX1_push 28 = .ok (.iadd, 1))) ?_
  refine mm_fc (ss_putI X rfl in_X1 tyX1_ok nmX1 (by decide) rfl rfl rfl rfl wd_1_94 (by decide +kernel : decode cX1_push 29 = .ok (.putfield 31, 3))) ?_
  refine mm_fc (ss_vret (by decide +kernel : decode cX1_push 32 = .ok (.return_, 1)) rfl) ?_
  exact mm_fn
def cd_X1_pop : mm_K mm_H := [(0, s_aload 0 1), (1, s_get 1 6 4), (4, s_if (fun x => 0 < x) 9 7), (7, s_pushI 0 8), (8, s_iret), (9, s_aload 0 10), (10, s_dup 11), (11, s_get 1 6 14), (14, s_pushI 1 15), (15, s_bin (fun x y => x - y) 16), (16, s_putI 1 6 19), (19, s_aload 0 20), (20, s_get 1 4 23), (23, s_aload 0 24), (24, s_get 1 6 27), (27, s_iald 28), (28, s_iret)]
set_option maxRecDepth 100000 in
set_option maxHeartbeats 4000000 in
theorem ok_X1_pop (l : Launch) : mm_CodeOK l mm_I0 RX1 cX1_pop 1 (some .int) cd_X1_pop := by
  intro p e R s m args below meth c Q σ cA D A kc ks d C X
  have hx := X.1
  have hb := X.2.1
  have hown := X.2.2.2.1
  have hts := X.2.2.2.2.1
  refine mm_fc (ss_aload_n hx hb (by decide +kernel : decode cX1_pop 0 = .ok (.aload_n 0, 1)) rfl) ?_
  refine mm_fc (ss_get X rfl in_X1 (by decide) rfl wd_1_94 (by decide +kernel : decode cX1_pop 1 = .ok (.getfield 31, 3))) ?_
  refine mm_fc (ss_ifgt hx hb (by decide +kernel : decode cX1_pop 4 = .ok (.ifCond .gt 5, 3)) (by decide)) ?_
  refine mm_fc (ss_iconst hx hb (by decide +kernel : decode cX1_pop 7 = .ok (.iconst 0, 1)) (by decide)) ?_
  refine mm_fc (ss_iret (by decide +kernel : decode cX1_pop 8 = .ok (.ireturn, 1)) rfl) ?_
  refine mm_fc (ss_aload_n hx hb (by decide +kernel : decode cX1_pop 9 = .ok (.aload_n 0, 1)) rfl) ?_
  refine mm_fc (ss_dup hx hb (by decide +kernel : decode cX1_pop 10 = .ok (.dup, 1))) ?_
  refine mm_fc (ss_get X rfl in_X1 (by decide) rfl wd_1_94 (by decide +kernel : decode cX1_pop 11 = .ok (.getfield 31, 3))) ?_
  refine mm_fc (ss_iconst hx hb (by decide +kernel : decode cX1_pop 14 = .ok (.iconst 1, 1)) (by decide)) ?_
  refine mm_fc (ss_isub hx hb (by decide +kernel : decode cX1_pop 15 = .ok (.isub, 1))) ?_
  refine mm_fc (ss_putI X rfl in_X1 tyX1_ok nmX1 (by decide) rfl rfl rfl rfl wd_1_94 (by decide +kernel : decode cX1_pop 16 = .ok (.putfield 31, 3))) ?_
  refine mm_fc (ss_aload_n hx hb (by decide +kernel : decode cX1_pop 19 = .ok (.aload_n 0, 1)) rfl) ?_
  refine mm_fc (ss_get X rfl in_X1 (by decide) rfl wd_1_92 (by decide +kernel : decode cX1_pop 20 = .ok (.getfield 24, 3))) ?_
  refine mm_fc (ss_aload_n hx hb (by decide +kernel : decode cX1_pop 23 = .ok (.aload_n 0, 1)) rfl) ?_
  refine mm_fc (ss_get X rfl in_X1 (by decide) rfl wd_1_94 (by decide +kernel : decode cX1_pop 24 = .ok (.getfield 31, 3))) ?_
  refine mm_fc (ss_iald X (by decide +kernel : decode cX1_pop 27 = .ok (.iaload, 1))) ?_
  refine mm_fc (ss_iret (by decide +kernel : decode cX1_pop 28 = .ok (.ireturn, 1)) rfl) ?_
  exact mm_fn
def cd_X1_turned : mm_K mm_H := [(0, s_iload 1 1), (1, s_sw [(11011, 28), (11012, 32), (11013, 45)] 58), (28, s_pushI 1 29), (29, s_iload 2 30), (30, s_bin (fun x y => x - y) 31), (31, s_iret), (32, s_aload 3 33), (33, s_aload 0 34), (34, s_get 1 3 37), (37, s_pushI 16 39), (39, s_iald 40), (40, s_iload 2 41), (41, s_callV 7 110 2 1 44), (44, s_iret), (45, s_aload 3 46), (46, s_iload 2 47), (47, s_aload 0 48), (48, s_get 1 3 51), (51, s_pushI 16 53), (53, s_iald 54), (54, s_callV 7 110 2 1 57), (57, s_iret), (58, s_pushI 0 59), (59, s_iret)]
set_option maxRecDepth 100000 in
set_option maxHeartbeats 4000000 in
theorem ok_X1_turned (l : Launch) : mm_CodeOK l mm_I0 RX1 cX1_turned 4 (some .int) cd_X1_turned := by
  intro p e R s m args below meth c Q σ cA D A kc ks d C X
  have hx := X.1
  have hb := X.2.1
  have hown := X.2.2.2.1
  have hts := X.2.2.2.2.1
  refine mm_fc (ss_iload_n hx hb (by decide +kernel : decode cX1_turned 0 = .ok (.iload_n 1, 1)) rfl) ?_
  refine mm_fc (ss_table hx hb (by decide +kernel : decode cX1_turned 1 = .ok (.tableswitch 57 11011 11013 #[27, 31, 44], 27)) (by decide) (by decide) (by decide)) ?_
  refine mm_fc (ss_iconst hx hb (by decide +kernel : decode cX1_turned 28 = .ok (.iconst 1, 1)) (by decide)) ?_
  refine mm_fc (ss_iload_n hx hb (by decide +kernel : decode cX1_turned 29 = .ok (.iload_n 2, 1)) rfl) ?_
  refine mm_fc (ss_isub hx hb (by decide +kernel : decode cX1_turned 30 = .ok (.isub, 1))) ?_
  refine mm_fc (ss_iret (by decide +kernel : decode cX1_turned 31 = .ok (.ireturn, 1)) rfl) ?_
  refine mm_fc (ss_aload_n hx hb (by decide +kernel : decode cX1_turned 32 = .ok (.aload_n 3, 1)) rfl) ?_
  refine mm_fc (ss_aload_n hx hb (by decide +kernel : decode cX1_turned 33 = .ok (.aload_n 0, 1)) rfl) ?_
  refine mm_fc (ss_get X rfl in_X1 (by decide) rfl wd_1_91 (by decide +kernel : decode cX1_turned 34 = .ok (.getfield 21, 3))) ?_
  refine mm_fc (ss_bipush hx hb (by decide +kernel : decode cX1_turned 37 = .ok (.bipush 16, 2)) (by decide)) ?_
  refine mm_fc (ss_iald X (by decide +kernel : decode cX1_turned 39 = .ok (.iaload, 1))) ?_
  refine mm_fc (ss_iload_n hx hb (by decide +kernel : decode cX1_turned 40 = .ok (.iload_n 2, 1)) rfl) ?_
  refine mm_fc (ss_callV X rfl rfl wd_4_80 wd_1_8 wd_4_104 wd_4_78 wd_4_79 (by decide +kernel) (by decide +kernel) (by decide) (by decide +kernel : decode cX1_turned 41 = .ok (.invokevirtual 67, 3))) ?_
  refine mm_fc (ss_iret (by decide +kernel : decode cX1_turned 44 = .ok (.ireturn, 1)) rfl) ?_
  refine mm_fc (ss_aload_n hx hb (by decide +kernel : decode cX1_turned 45 = .ok (.aload_n 3, 1)) rfl) ?_
  refine mm_fc (ss_iload_n hx hb (by decide +kernel : decode cX1_turned 46 = .ok (.iload_n 2, 1)) rfl) ?_
  refine mm_fc (ss_aload_n hx hb (by decide +kernel : decode cX1_turned 47 = .ok (.aload_n 0, 1)) rfl) ?_
  refine mm_fc (ss_get X rfl in_X1 (by decide) rfl wd_1_91 (by decide +kernel : decode cX1_turned 48 = .ok (.getfield 21, 3))) ?_
  refine mm_fc (ss_bipush hx hb (by decide +kernel : decode cX1_turned 51 = .ok (.bipush 16, 2)) (by decide)) ?_
  refine mm_fc (ss_iald X (by decide +kernel : decode cX1_turned 53 = .ok (.iaload, 1))) ?_
  refine mm_fc (ss_callV X rfl rfl wd_4_80 wd_1_8 wd_4_104 wd_4_78 wd_4_79 (by decide +kernel) (by decide +kernel) (by decide) (by decide +kernel : decode cX1_turned 54 = .ok (.invokevirtual 67, 3))) ?_
  refine mm_fc (ss_iret (by decide +kernel : decode cX1_turned 57 = .ok (.ireturn, 1)) rfl) ?_
  refine mm_fc (ss_iconst hx hb (by decide +kernel : decode cX1_turned 58 = .ok (.iconst 0, 1)) (by decide)) ?_
  refine mm_fc (ss_iret (by decide +kernel : decode cX1_turned 59 = .ok (.ireturn, 1)) rfl) ?_
  exact mm_fn
def cd_X1_joined : mm_K mm_H := [(0, s_iload 0 1), (1, s_sw [(11000, 60), (11001, 69), (11002, 78), (11003, 87), (11004, 101), (11005, 112), (11006, 123), (11007, 134), (11008, 140), (11009, 134), (11010, 140)] 146), (60, s_iload 1 61), (61, s_i2l 62), (62, s_iload 2 63), (63, s_i2l 64), (64, s_lbin (fun x y => x + y) 65), (65, s_callS 45 1 1 68), (68, s_iret), (69, s_iload 1 70), (70, s_i2l 71), (71, s_iload 2 72), (72, s_i2l 73), (73, s_lbin (fun x y => x - y) 74), (74, s_callS 45 1 1 77), (77, s_iret), (78, s_iload 1 79), (79, s_i2l 80), (80, s_iload 2 81), (81, s_i2l 82), (82, s_lbin (fun x y => x * y) 83), (83, s_callS 45 1 1 86), (86, s_iret), (87, s_iload 2 88), (88, s_if (fun x => ¬ x = 0) 95 91), (91, s_pushI 0 92), (92, s_goto 100), (95, s_iload 1 96), (96, s_iload 2 97), (97, s_callS 7 2 1 100), (100, s_iret), (101, s_iload 1 102), (102, s_iload 2 103), (103, s_icmp (fun x y => y ≤ x) 110 106), (106, s_pushI 1 107), (107, s_goto 111), (110, s_pushI 0 111), (111, s_iret), (112, s_iload 1 113), (113, s_iload 2 114), (114, s_icmp (fun x y => x ≤ y) 121 117), (117, s_pushI 1 118), (118, s_goto 122), (121, s_pushI 0 122), (122, s_iret), (123, s_iload 1 124), (124, s_iload 2 125), (125, s_icmp (fun x y => ¬ x = y) 132 128), (128, s_pushI 1 129), (129, s_goto 133), (132, s_pushI 0 133), (133, s_iret), (134, s_iload 1 135), (135, s_iload 2 136), (136, s_callS 11 2 1 139), (139, s_iret), (140, s_iload 1 141), (141, s_iload 2 142), (142, s_callS 9 2 1 145), (145, s_iret), (146, s_pushI 0 147), (147, s_iret)]
set_option maxRecDepth 100000 in
set_option maxHeartbeats 4000000 in
theorem ok_X1_joined (l : Launch) : mm_CodeOK l mm_I0 RX1 cX1_joined 3 (some .int) cd_X1_joined := by
  intro p e R s m args below meth c Q σ cA D A kc ks d C X
  have hx := X.1
  have hb := X.2.1
  have hown := X.2.2.2.1
  have hts := X.2.2.2.2.1
  refine mm_fc (ss_iload_n hx hb (by decide +kernel : decode cX1_joined 0 = .ok (.iload_n 0, 1)) rfl) ?_
  refine mm_fc (ss_table hx hb (by decide +kernel : decode cX1_joined 1 = .ok (.tableswitch 145 11000 11010 #[59, 68, 77, 86, 100, 111, 122, 133, 139, 133, 139], 59)) (by decide) (by decide) (by decide)) ?_
  refine mm_fc (ss_iload_n hx hb (by decide +kernel : decode cX1_joined 60 = .ok (.iload_n 1, 1)) rfl) ?_
  refine mm_fc (ss_i2l hx hb (by decide +kernel : decode cX1_joined 61 = .ok (.i2l, 1))) ?_
  refine mm_fc (ss_iload_n hx hb (by decide +kernel : decode cX1_joined 62 = .ok (.iload_n 2, 1)) rfl) ?_
  refine mm_fc (ss_i2l hx hb (by decide +kernel : decode cX1_joined 63 = .ok (.i2l, 1))) ?_
  refine mm_fc (ss_ladd hx hb (by decide +kernel : decode cX1_joined 64 = .ok (.ladd, 1))) ?_
  refine mm_fc (ss_callS X rfl wd_4_110 wd_1_5 wd_4_108 wd_4_109 (by decide +kernel) (by decide +kernel) (by decide) (by decide +kernel : decode cX1_joined 65 = .ok (.invokestatic 72, 3))) ?_
  refine mm_fc (ss_iret (by decide +kernel : decode cX1_joined 68 = .ok (.ireturn, 1)) rfl) ?_
  refine mm_fc (ss_iload_n hx hb (by decide +kernel : decode cX1_joined 69 = .ok (.iload_n 1, 1)) rfl) ?_
  refine mm_fc (ss_i2l hx hb (by decide +kernel : decode cX1_joined 70 = .ok (.i2l, 1))) ?_
  refine mm_fc (ss_iload_n hx hb (by decide +kernel : decode cX1_joined 71 = .ok (.iload_n 2, 1)) rfl) ?_
  refine mm_fc (ss_i2l hx hb (by decide +kernel : decode cX1_joined 72 = .ok (.i2l, 1))) ?_
  refine mm_fc (ss_lsub hx hb (by decide +kernel : decode cX1_joined 73 = .ok (.lsub, 1))) ?_
  refine mm_fc (ss_callS X rfl wd_4_110 wd_1_5 wd_4_108 wd_4_109 (by decide +kernel) (by decide +kernel) (by decide) (by decide +kernel : decode cX1_joined 74 = .ok (.invokestatic 72, 3))) ?_
  refine mm_fc (ss_iret (by decide +kernel : decode cX1_joined 77 = .ok (.ireturn, 1)) rfl) ?_
  refine mm_fc (ss_iload_n hx hb (by decide +kernel : decode cX1_joined 78 = .ok (.iload_n 1, 1)) rfl) ?_
  refine mm_fc (ss_i2l hx hb (by decide +kernel : decode cX1_joined 79 = .ok (.i2l, 1))) ?_
  refine mm_fc (ss_iload_n hx hb (by decide +kernel : decode cX1_joined 80 = .ok (.iload_n 2, 1)) rfl) ?_
  refine mm_fc (ss_i2l hx hb (by decide +kernel : decode cX1_joined 81 = .ok (.i2l, 1))) ?_
  refine mm_fc (ss_lmul hx hb (by decide +kernel : decode cX1_joined 82 = .ok (.lmul, 1))) ?_
  refine mm_fc (ss_callS X rfl wd_4_110 wd_1_5 wd_4_108 wd_4_109 (by decide +kernel) (by decide +kernel) (by decide) (by decide +kernel : decode cX1_joined 83 = .ok (.invokestatic 72, 3))) ?_
  refine mm_fc (ss_iret (by decide +kernel : decode cX1_joined 86 = .ok (.ireturn, 1)) rfl) ?_
  refine mm_fc (ss_iload_n hx hb (by decide +kernel : decode cX1_joined 87 = .ok (.iload_n 2, 1)) rfl) ?_
  refine mm_fc (ss_ifne hx hb (by decide +kernel : decode cX1_joined 88 = .ok (.ifCond .ne 7, 3)) (by decide)) ?_
  refine mm_fc (ss_iconst hx hb (by decide +kernel : decode cX1_joined 91 = .ok (.iconst 0, 1)) (by decide)) ?_
  refine mm_fc (ss_goto hx hb (by decide +kernel : decode cX1_joined 92 = .ok (.goto 8, 3)) (by decide)) ?_
  refine mm_fc (ss_iload_n hx hb (by decide +kernel : decode cX1_joined 95 = .ok (.iload_n 1, 1)) rfl) ?_
  refine mm_fc (ss_iload_n hx hb (by decide +kernel : decode cX1_joined 96 = .ok (.iload_n 2, 1)) rfl) ?_
  refine mm_fc (ss_callS X rfl wd_4_117 wd_1_14 wd_4_115 wd_4_116 (by decide +kernel) (by decide +kernel) (by decide) (by decide +kernel : decode cX1_joined 97 = .ok (.invokestatic 76, 3))) ?_
  refine mm_fc (ss_iret (by decide +kernel : decode cX1_joined 100 = .ok (.ireturn, 1)) rfl) ?_
  refine mm_fc (ss_iload_n hx hb (by decide +kernel : decode cX1_joined 101 = .ok (.iload_n 1, 1)) rfl) ?_
  refine mm_fc (ss_iload_n hx hb (by decide +kernel : decode cX1_joined 102 = .ok (.iload_n 2, 1)) rfl) ?_
  refine mm_fc (ss_icmpge hx hb (by decide +kernel : decode cX1_joined 103 = .ok (.if_icmp .ge 7, 3)) (by decide)) ?_
  refine mm_fc (ss_iconst hx hb (by decide +kernel : decode cX1_joined 106 = .ok (.iconst 1, 1)) (by decide)) ?_
  refine mm_fc (ss_goto hx hb (by decide +kernel : decode cX1_joined 107 = .ok (.goto 4, 3)) (by decide)) ?_
  refine mm_fc (ss_iconst hx hb (by decide +kernel : decode cX1_joined 110 = .ok (.iconst 0, 1)) (by decide)) ?_
  refine mm_fc (ss_iret (by decide +kernel : decode cX1_joined 111 = .ok (.ireturn, 1)) rfl) ?_
  refine mm_fc (ss_iload_n hx hb (by decide +kernel : decode cX1_joined 112 = .ok (.iload_n 1, 1)) rfl) ?_
  refine mm_fc (ss_iload_n hx hb (by decide +kernel : decode cX1_joined 113 = .ok (.iload_n 2, 1)) rfl) ?_
  refine mm_fc (ss_icmple hx hb (by decide +kernel : decode cX1_joined 114 = .ok (.if_icmp .le 7, 3)) (by decide)) ?_
  refine mm_fc (ss_iconst hx hb (by decide +kernel : decode cX1_joined 117 = .ok (.iconst 1, 1)) (by decide)) ?_
  refine mm_fc (ss_goto hx hb (by decide +kernel : decode cX1_joined 118 = .ok (.goto 4, 3)) (by decide)) ?_
  refine mm_fc (ss_iconst hx hb (by decide +kernel : decode cX1_joined 121 = .ok (.iconst 0, 1)) (by decide)) ?_
  refine mm_fc (ss_iret (by decide +kernel : decode cX1_joined 122 = .ok (.ireturn, 1)) rfl) ?_
  refine mm_fc (ss_iload_n hx hb (by decide +kernel : decode cX1_joined 123 = .ok (.iload_n 1, 1)) rfl) ?_
  refine mm_fc (ss_iload_n hx hb (by decide +kernel : decode cX1_joined 124 = .ok (.iload_n 2, 1)) rfl) ?_
  refine mm_fc (ss_icmpne hx hb (by decide +kernel : decode cX1_joined 125 = .ok (.if_icmp .ne 7, 3)) (by decide)) ?_
  refine mm_fc (ss_iconst hx hb (by decide +kernel : decode cX1_joined 128 = .ok (.iconst 1, 1)) (by decide)) ?_
  refine mm_fc (ss_goto hx hb (by decide +kernel : decode cX1_joined 129 = .ok (.goto 4, 3)) (by decide)) ?_
  refine mm_fc (ss_iconst hx hb (by decide +kernel : decode cX1_joined 132 = .ok (.iconst 0, 1)) (by decide)) ?_
  refine mm_fc (ss_iret (by decide +kernel : decode cX1_joined 133 = .ok (.ireturn, 1)) rfl) ?_
  refine mm_fc (ss_iload_n hx hb (by decide +kernel : decode cX1_joined 134 = .ok (.iload_n 1, 1)) rfl) ?_
  refine mm_fc (ss_iload_n hx hb (by decide +kernel : decode cX1_joined 135 = .ok (.iload_n 2, 1)) rfl) ?_
  refine mm_fc (ss_callS X rfl wd_2_162 wd_1_14 wd_4_86 wd_2_161 (by decide +kernel) (by decide +kernel) (by decide) (by decide +kernel : decode cX1_joined 136 = .ok (.invokestatic 38, 3))) ?_
  refine mm_fc (ss_iret (by decide +kernel : decode cX1_joined 139 = .ok (.ireturn, 1)) rfl) ?_
  refine mm_fc (ss_iload_n hx hb (by decide +kernel : decode cX1_joined 140 = .ok (.iload_n 1, 1)) rfl) ?_
  refine mm_fc (ss_iload_n hx hb (by decide +kernel : decode cX1_joined 141 = .ok (.iload_n 2, 1)) rfl) ?_
  refine mm_fc (ss_callS X rfl wd_2_165 wd_1_14 wd_4_87 wd_2_164 (by decide +kernel) (by decide +kernel) (by decide) (by decide +kernel : decode cX1_joined 142 = .ok (.invokestatic 44, 3))) ?_
  refine mm_fc (ss_iret (by decide +kernel : decode cX1_joined 145 = .ok (.ireturn, 1)) rfl) ?_
  refine mm_fc (ss_iconst hx hb (by decide +kernel : decode cX1_joined 146 = .ok (.iconst 0, 1)) (by decide)) ?_
  refine mm_fc (ss_iret (by decide +kernel : decode cX1_joined 147 = .ok (.ireturn, 1)) rfl) ?_
  exact mm_fn
def cd_X1_held : mm_K mm_H := [(0, s_lload 0 1), (1, s_pushL 1000000 4), (4, s_lcmp 5), (5, s_if (fun x => x ≤ 0) 11 8), (8, s_pushI 1000000 10), (10, s_iret), (11, s_lload 0 12), (12, s_pushL (-1000000) 15), (15, s_lcmp 16), (16, s_if (fun x => 0 ≤ x) 24 19), (19, s_pushI (-1000000) 21), (21, s_goto 26), (24, s_lload 0 25), (25, s_l2i 26), (26, s_iret)]
set_option maxRecDepth 100000 in
set_option maxHeartbeats 4000000 in
theorem ok_X1_held (l : Launch) : mm_CodeOK l mm_I0 RX1 cX1_held 2 (some .int) cd_X1_held := by
  intro p e R s m args below meth c Q σ cA D A kc ks d C X
  have hx := X.1
  have hb := X.2.1
  have hown := X.2.2.2.1
  have hts := X.2.2.2.2.1
  refine mm_fc (ss_lload_n hx hb (by decide +kernel : decode cX1_held 0 = .ok (.lload_n 0, 1)) rfl) ?_
  refine mm_fc (ss_ldc2 hx hb hown (hts _ (mm_in wd_4_111 rfl)) (by decide +kernel : decode cX1_held 1 = .ok (.ldc2_w 79, 3))) ?_
  refine mm_fc (ss_lcmp hx hb (by decide +kernel : decode cX1_held 4 = .ok (.lcmp, 1))) ?_
  refine mm_fc (ss_ifle hx hb (by decide +kernel : decode cX1_held 5 = .ok (.ifCond .le 6, 3)) (by decide)) ?_
  refine mm_fc (ss_ldc hx hb hown (hts _ (mm_in wd_4_112 rfl)) (by decide +kernel : decode cX1_held 8 = .ok (.ldc 81, 2))) ?_
  refine mm_fc (ss_iret (by decide +kernel : decode cX1_held 10 = .ok (.ireturn, 1)) rfl) ?_
  refine mm_fc (ss_lload_n hx hb (by decide +kernel : decode cX1_held 11 = .ok (.lload_n 0, 1)) rfl) ?_
  refine mm_fc (ss_ldc2 hx hb hown (hts _ (mm_in wd_4_113 rfl)) (by decide +kernel : decode cX1_held 12 = .ok (.ldc2_w 82, 3))) ?_
  refine mm_fc (ss_lcmp hx hb (by decide +kernel : decode cX1_held 15 = .ok (.lcmp, 1))) ?_
  refine mm_fc (ss_ifge hx hb (by decide +kernel : decode cX1_held 16 = .ok (.ifCond .ge 8, 3)) (by decide)) ?_
  refine mm_fc (ss_ldc hx hb hown (hts _ (mm_in wd_4_114 rfl)) (by decide +kernel : decode cX1_held 19 = .ok (.ldc 84, 2))) ?_
  refine mm_fc (ss_goto hx hb (by decide +kernel : decode cX1_held 21 = .ok (.goto 5, 3)) (by decide)) ?_
  refine mm_fc (ss_lload_n hx hb (by decide +kernel : decode cX1_held 24 = .ok (.lload_n 0, 1)) rfl) ?_
  refine mm_fc (ss_l2i hx hb (by decide +kernel : decode cX1_held 25 = .ok (.l2i, 1))) ?_
  refine mm_fc (ss_iret (by decide +kernel : decode cX1_held 26 = .ok (.ireturn, 1)) rfl) ?_
  exact mm_fn
def cd_X2_readRule : mm_K mm_H := [(0, s_aload 1 1), (1, s_iload 2 2), (2, s_callV 1 34 1 1 5), (5, s_if (fun x => x = 0) 17 8), (8, s_aload 0 9), (9, s_get 2 0 12), (12, s_pushI 5 13), (13, s_callV 6 89 1 1 16), (16, s_zret), (17, s_aload 0 18), (18, s_get 2 0 21), (21, s_callV 6 75 0 0 24), (24, s_aload 0 25), (25, s_aload 1 26), (26, s_putR 2 1 29), (29, s_aload 0 30), (30, s_iload 2 31), (31, s_putI 2 2 34), (34, s_aload 0 35), (35, s_get 2 1 38), (38, s_aload 0 39), (39, s_get 2 2 42), (42, s_callV 1 35 1 0 45), (45, s_iload 3 46), (46, s_if (fun x => x = 0) 57 49), (49, s_aload 0 50), (50, s_pushI 0 51), (51, s_callV 2 47 1 1 54), (54, s_goto 62), (57, s_aload 0 58), (58, s_pushI 0 59), (59, s_callV 2 52 1 1 62), (62, s_istore 4 64), (64, s_aload 0 65), (65, s_get 2 1 68), (68, s_aload 0 69), (69, s_get 2 2 72), (72, s_callV 1 36 1 0 75), (75, s_iload 4 77), (77, s_zret)]
set_option maxRecDepth 100000 in
set_option maxHeartbeats 4000000 in
theorem ok_X2_readRule (l : Launch) : mm_CodeOK l mm_I0 RX2 cX2_readRule 5 (some .boolean) cd_X2_readRule := by
  intro p e R s m args below meth c Q σ cA D A kc ks d C X
  have hx := X.1
  have hb := X.2.1
  have hown := X.2.2.2.1
  have hts := X.2.2.2.2.1
  refine mm_fc (ss_aload_n hx hb (by decide +kernel : decode cX2_readRule 0 = .ok (.aload_n 1, 1)) rfl) ?_
  refine mm_fc (ss_iload_n hx hb (by decide +kernel : decode cX2_readRule 1 = .ok (.iload_n 2, 1)) rfl) ?_
  refine mm_fc (ss_callV X rfl rfl wd_3_158 wd_1_5 wd_3_155 wd_3_156 wd_3_157 (by decide +kernel) (by decide +kernel) (by decide) (by decide +kernel : decode cX2_readRule 2 = .ok (.invokevirtual 23, 3))) ?_
  refine mm_fc (ss_ifeq hx hb (by decide +kernel : decode cX2_readRule 5 = .ok (.ifCond .eq 12, 3)) (by decide)) ?_
  refine mm_fc (ss_aload_n hx hb (by decide +kernel : decode cX2_readRule 8 = .ok (.aload_n 0, 1)) rfl) ?_
  refine mm_fc (ss_get X rfl in_X2 (by decide) rfl wd_1_124 (by decide +kernel : decode cX2_readRule 9 = .ok (.getfield 15, 3))) ?_
  refine mm_fc (ss_iconst hx hb (by decide +kernel : decode cX2_readRule 12 = .ok (.iconst 5, 1)) (by decide)) ?_
  refine mm_fc (ss_callV X rfl rfl wd_3_61 wd_1_3 wd_3_159 wd_3_59 wd_3_60 (by decide +kernel) (by decide +kernel) (by decide) (by decide +kernel : decode cX2_readRule 13 = .ok (.invokevirtual 29, 3))) ?_
  refine mm_fc (ss_zret (by decide +kernel : decode cX2_readRule 16 = .ok (.ireturn, 1)) rfl) ?_
  refine mm_fc (ss_aload_n hx hb (by decide +kernel : decode cX2_readRule 17 = .ok (.aload_n 0, 1)) rfl) ?_
  refine mm_fc (ss_get X rfl in_X2 (by decide) rfl wd_1_124 (by decide +kernel : decode cX2_readRule 18 = .ok (.getfield 15, 3))) ?_
  refine mm_fc (ss_callV X rfl rfl wd_2_189 wd_1_3 wd_3_160 wd_2_187 wd_2_188 (by decide +kernel) (by decide +kernel) (by decide) (by decide +kernel : decode cX2_readRule 21 = .ok (.invokevirtual 34, 3))) ?_
  refine mm_fc (ss_aload_n hx hb (by decide +kernel : decode cX2_readRule 24 = .ok (.aload_n 0, 1)) rfl) ?_
  refine mm_fc (ss_aload_n hx hb (by decide +kernel : decode cX2_readRule 25 = .ok (.aload_n 1, 1)) rfl) ?_
  refine mm_fc (ss_putR X rfl in_X2 tyX2_ok nmX2 (by decide) rfl ⟨_, rfl⟩ rfl rfl wd_1_125 (by decide +kernel : decode cX2_readRule 26 = .ok (.putfield 19, 3))) ?_
  refine mm_fc (ss_aload_n hx hb (by decide +kernel : decode cX2_readRule 29 = .ok (.aload_n 0, 1)) rfl) ?_
  refine mm_fc (ss_iload_n hx hb (by decide +kernel : decode cX2_readRule 30 = .ok (.iload_n 2, 1)) rfl) ?_
  refine mm_fc (ss_putI X rfl in_X2 tyX2_ok nmX2 (by decide) rfl rfl rfl rfl wd_1_126 (by decide +kernel : decode cX2_readRule 31 = .ok (.putfield 9, 3))) ?_
  refine mm_fc (ss_aload_n hx hb (by decide +kernel : decode cX2_readRule 34 = .ok (.aload_n 0, 1)) rfl) ?_
  refine mm_fc (ss_get X rfl in_X2 (by decide) rfl wd_1_125 (by decide +kernel : decode cX2_readRule 35 = .ok (.getfield 19, 3))) ?_
  refine mm_fc (ss_aload_n hx hb (by decide +kernel : decode cX2_readRule 38 = .ok (.aload_n 0, 1)) rfl) ?_
  refine mm_fc (ss_get X rfl in_X2 (by decide) rfl wd_1_126 (by decide +kernel : decode cX2_readRule 39 = .ok (.getfield 9, 3))) ?_
  refine mm_fc (ss_callV X rfl rfl wd_3_164 wd_1_5 wd_3_161 wd_3_162 wd_3_163 (by decide +kernel) (by decide +kernel) (by decide) (by decide +kernel : decode cX2_readRule 42 = .ok (.invokevirtual 37, 3))) ?_
  refine mm_fc (ss_iload_n hx hb (by decide +kernel : decode cX2_readRule 45 = .ok (.iload_n 3, 1)) rfl) ?_
  refine mm_fc (ss_ifeq hx hb (by decide +kernel : decode cX2_readRule 46 = .ok (.ifCond .eq 11, 3)) (by decide)) ?_
  refine mm_fc (ss_aload_n hx hb (by decide +kernel : decode cX2_readRule 49 = .ok (.aload_n 0, 1)) rfl) ?_
  refine mm_fc (ss_iconst hx hb (by decide +kernel : decode cX2_readRule 50 = .ok (.iconst 0, 1)) (by decide)) ?_
  refine mm_fc (ss_callV X rfl rfl wd_3_168 wd_1_6 wd_3_165 wd_3_167 wd_p_12 (by decide +kernel) (by decide +kernel) (by decide) (by decide +kernel : decode cX2_readRule 51 = .ok (.invokevirtual 41, 3))) ?_
  refine mm_fc (ss_goto hx hb (by decide +kernel : decode cX2_readRule 54 = .ok (.goto 8, 3)) (by decide)) ?_
  refine mm_fc (ss_aload_n hx hb (by decide +kernel : decode cX2_readRule 57 = .ok (.aload_n 0, 1)) rfl) ?_
  refine mm_fc (ss_iconst hx hb (by decide +kernel : decode cX2_readRule 58 = .ok (.iconst 0, 1)) (by decide)) ?_
  refine mm_fc (ss_callV X rfl rfl wd_3_195 wd_1_6 wd_3_192 wd_3_194 wd_p_16 (by decide +kernel) (by decide +kernel) (by decide) (by decide +kernel : decode cX2_readRule 59 = .ok (.invokevirtual 44, 3))) ?_
  refine mm_fc (ss_istore hx hb (by decide +kernel : decode cX2_readRule 62 = .ok (.istore 4, 2)) (by decide)) ?_
  refine mm_fc (ss_aload_n hx hb (by decide +kernel : decode cX2_readRule 64 = .ok (.aload_n 0, 1)) rfl) ?_
  refine mm_fc (ss_get X rfl in_X2 (by decide) rfl wd_1_125 (by decide +kernel : decode cX2_readRule 65 = .ok (.getfield 19, 3))) ?_
  refine mm_fc (ss_aload_n hx hb (by decide +kernel : decode cX2_readRule 68 = .ok (.aload_n 0, 1)) rfl) ?_
  refine mm_fc (ss_get X rfl in_X2 (by decide) rfl wd_1_126 (by decide +kernel : decode cX2_readRule 69 = .ok (.getfield 9, 3))) ?_
  refine mm_fc (ss_callV X rfl rfl wd_3_238 wd_1_5 wd_3_235 wd_3_236 wd_3_237 (by decide +kernel) (by decide +kernel) (by decide) (by decide +kernel : decode cX2_readRule 72 = .ok (.invokevirtual 47, 3))) ?_
  refine mm_fc (ss_iload hx hb (by decide +kernel : decode cX2_readRule 75 = .ok (.iload 4, 2))) ?_
  refine mm_fc (ss_zret (by decide +kernel : decode cX2_readRule 77 = .ok (.ireturn, 1)) rfl) ?_
  exact mm_fn
def cd_X2_readTest : mm_K mm_H := [(0, s_aload 0 1), (1, s_iload 1 2), (2, s_callV 2 48 1 1 5), (5, s_if (fun x => ¬ x = 0) 10 8), (8, s_pushI 0 9), (9, s_zret), (10, s_pushI 0 11), (11, s_istore 2 12), (12, s_pushI 0 13), (13, s_kill 14 [4] (s_istore 3 14)), (14, s_iload 3 15), (15, s_pushI 1600 18), (18, s_icmp (fun x y => y ≤ x) 118 21), (21, s_aload 0 22), (22, s_get 2 0 25), (25, s_pushI 20 27), (27, s_callV 6 79 1 1 30), (30, s_if (fun x => ¬ x = 0) 45 33), (33, s_aload 0 34), (34, s_get 2 0 37), (37, s_pushI 19 39), (39, s_callV 6 79 1 1 42), (42, s_if (fun x => x = 0) 118 45), (45, s_aload 0 46), (46, s_get 2 0 49), (49, s_pushI 20 51), (51, s_callV 6 79 1 1 54), (54, s_istore 4 56), (56, s_iload 4 58), (58, s_if (fun x => ¬ x = 0) 75 61), (61, s_iload 2 62), (62, s_if (fun x => x = 0) 75 65), (65, s_aload 0 66), (66, s_get 2 1 69), (69, s_pushI 11010 72), (72, s_callV 1 37 1 0 75), (75, s_aload 0 76), (76, s_get 2 0 79), (79, s_callV 6 75 0 0 82), (82, s_aload 0 83), (83, s_iload 1 84), (84, s_callV 2 48 1 1 87), (87, s_if (fun x => ¬ x = 0) 92 90), (90, s_pushI 0 91), (91, s_zret), (92, s_iload 4 94), (94, s_if (fun x => x = 0) 110 97), (97, s_aload 0 98), (98, s_get 2 1 101), (101, s_pushI 11009 104), (104, s_callV 1 37 1 0 107), (107, s_goto 112), (110, s_pushI 1 111), (111, s_istore 2 112), (112, s_iinc 3 1 115), (115, s_kill 14 [4] (s_goto 14)), (118, s_iload 2 119), (119, s_if (fun x => x = 0) 132 122), (122, s_aload 0 123), (123, s_get 2 1 126), (126, s_pushI 11010 129), (129, s_callV 1 37 1 0 132), (132, s_pushI 1 133), (133, s_zret)]
set_option maxRecDepth 100000 in
set_option maxHeartbeats 4000000 in
theorem ok_X2_readTest (l : Launch) : mm_CodeOK l mm_I0 RX2 cX2_readTest 5 (some .boolean) cd_X2_readTest := by
  intro p e R s m args below meth c Q σ cA D A kc ks d C X
  have hx := X.1
  have hb := X.2.1
  have hown := X.2.2.2.1
  have hts := X.2.2.2.2.1
  refine mm_fc (ss_aload_n hx hb (by decide +kernel : decode cX2_readTest 0 = .ok (.aload_n 0, 1)) rfl) ?_
  refine mm_fc (ss_iload_n hx hb (by decide +kernel : decode cX2_readTest 1 = .ok (.iload_n 1, 1)) rfl) ?_
  refine mm_fc (ss_callV X rfl rfl wd_3_172 wd_1_6 wd_3_169 wd_3_171 wd_p_13 (by decide +kernel) (by decide +kernel) (by decide) (by decide +kernel : decode cX2_readTest 2 = .ok (.invokevirtual 50, 3))) ?_
  refine mm_fc (ss_ifne hx hb (by decide +kernel : decode cX2_readTest 5 = .ok (.ifCond .ne 5, 3)) (by decide)) ?_
  refine mm_fc (ss_iconst hx hb (by decide +kernel : decode cX2_readTest 8 = .ok (.iconst 0, 1)) (by decide)) ?_
  refine mm_fc (ss_zret (by decide +kernel : decode cX2_readTest 9 = .ok (.ireturn, 1)) rfl) ?_
  refine mm_fc (ss_iconst hx hb (by decide +kernel : decode cX2_readTest 10 = .ok (.iconst 0, 1)) (by decide)) ?_
  refine mm_fc (ss_istore_n hx hb (by decide +kernel : decode cX2_readTest 11 = .ok (.istore_n 2, 1)) rfl (by decide)) ?_
  refine mm_fc (ss_iconst hx hb (by decide +kernel : decode cX2_readTest 12 = .ok (.iconst 0, 1)) (by decide)) ?_
  refine mm_fc (ss_kill (ss_istore_n hx hb (by decide +kernel : decode cX2_readTest 13 = .ok (.istore_n 3, 1)) rfl (by decide))) ?_
  refine mm_fc (ss_iload_n hx hb (by decide +kernel : decode cX2_readTest 14 = .ok (.iload_n 3, 1)) rfl) ?_
  refine mm_fc (ss_sipush hx hb (by decide +kernel : decode cX2_readTest 15 = .ok (.sipush 1600, 3)) (by decide)) ?_
  refine mm_fc (ss_icmpge hx hb (by decide +kernel : decode cX2_readTest 18 = .ok (.if_icmp .ge 100, 3)) (by decide)) ?_
  refine mm_fc (ss_aload_n hx hb (by decide +kernel : decode cX2_readTest 21 = .ok (.aload_n 0, 1)) rfl) ?_
  refine mm_fc (ss_get X rfl in_X2 (by decide) rfl wd_1_124 (by decide +kernel : decode cX2_readTest 22 = .ok (.getfield 15, 3))) ?_
  refine mm_fc (ss_bipush hx hb (by decide +kernel : decode cX2_readTest 25 = .ok (.bipush 20, 2)) (by decide)) ?_
  refine mm_fc (ss_callV X rfl rfl wd_3_45 wd_1_3 wd_3_173 wd_3_43 wd_3_44 (by decide +kernel) (by decide +kernel) (by decide) (by decide +kernel : decode cX2_readTest 27 = .ok (.invokevirtual 53, 3))) ?_
  refine mm_fc (ss_ifne hx hb (by decide +kernel : decode cX2_readTest 30 = .ok (.ifCond .ne 15, 3)) (by decide)) ?_
  refine mm_fc (ss_aload_n hx hb (by decide +kernel : decode cX2_readTest 33 = .ok (.aload_n 0, 1)) rfl) ?_
  refine mm_fc (ss_get X rfl in_X2 (by decide) rfl wd_1_124 (by decide +kernel : decode cX2_readTest 34 = .ok (.getfield 15, 3))) ?_
  refine mm_fc (ss_bipush hx hb (by decide +kernel : decode cX2_readTest 37 = .ok (.bipush 19, 2)) (by decide)) ?_
  refine mm_fc (ss_callV X rfl rfl wd_3_45 wd_1_3 wd_3_173 wd_3_43 wd_3_44 (by decide +kernel) (by decide +kernel) (by decide) (by decide +kernel : decode cX2_readTest 39 = .ok (.invokevirtual 53, 3))) ?_
  refine mm_fc (ss_ifeq hx hb (by decide +kernel : decode cX2_readTest 42 = .ok (.ifCond .eq 76, 3)) (by decide)) ?_
  refine mm_fc (ss_aload_n hx hb (by decide +kernel : decode cX2_readTest 45 = .ok (.aload_n 0, 1)) rfl) ?_
  refine mm_fc (ss_get X rfl in_X2 (by decide) rfl wd_1_124 (by decide +kernel : decode cX2_readTest 46 = .ok (.getfield 15, 3))) ?_
  refine mm_fc (ss_bipush hx hb (by decide +kernel : decode cX2_readTest 49 = .ok (.bipush 20, 2)) (by decide)) ?_
  refine mm_fc (ss_callV X rfl rfl wd_3_45 wd_1_3 wd_3_173 wd_3_43 wd_3_44 (by decide +kernel) (by decide +kernel) (by decide) (by decide +kernel : decode cX2_readTest 51 = .ok (.invokevirtual 53, 3))) ?_
  refine mm_fc (ss_istore hx hb (by decide +kernel : decode cX2_readTest 54 = .ok (.istore 4, 2)) (by decide)) ?_
  refine mm_fc (ss_iload hx hb (by decide +kernel : decode cX2_readTest 56 = .ok (.iload 4, 2))) ?_
  refine mm_fc (ss_ifne hx hb (by decide +kernel : decode cX2_readTest 58 = .ok (.ifCond .ne 17, 3)) (by decide)) ?_
  refine mm_fc (ss_iload_n hx hb (by decide +kernel : decode cX2_readTest 61 = .ok (.iload_n 2, 1)) rfl) ?_
  refine mm_fc (ss_ifeq hx hb (by decide +kernel : decode cX2_readTest 62 = .ok (.ifCond .eq 13, 3)) (by decide)) ?_
  refine mm_fc (ss_aload_n hx hb (by decide +kernel : decode cX2_readTest 65 = .ok (.aload_n 0, 1)) rfl) ?_
  refine mm_fc (ss_get X rfl in_X2 (by decide) rfl wd_1_125 (by decide +kernel : decode cX2_readTest 66 = .ok (.getfield 19, 3))) ?_
  refine mm_fc (ss_sipush hx hb (by decide +kernel : decode cX2_readTest 69 = .ok (.sipush 11010, 3)) (by decide)) ?_
  refine mm_fc (ss_callV X rfl rfl wd_3_185 wd_1_5 wd_3_182 wd_3_183 wd_3_184 (by decide +kernel) (by decide +kernel) (by decide) (by decide +kernel : decode cX2_readTest 72 = .ok (.invokevirtual 56, 3))) ?_
  refine mm_fc (ss_aload_n hx hb (by decide +kernel : decode cX2_readTest 75 = .ok (.aload_n 0, 1)) rfl) ?_
  refine mm_fc (ss_get X rfl in_X2 (by decide) rfl wd_1_124 (by decide +kernel : decode cX2_readTest 76 = .ok (.getfield 15, 3))) ?_
  refine mm_fc (ss_callV X rfl rfl wd_2_189 wd_1_3 wd_3_160 wd_2_187 wd_2_188 (by decide +kernel) (by decide +kernel) (by decide) (by decide +kernel : decode cX2_readTest 79 = .ok (.invokevirtual 34, 3))) ?_
  refine mm_fc (ss_aload_n hx hb (by decide +kernel : decode cX2_readTest 82 = .ok (.aload_n 0, 1)) rfl) ?_
  refine mm_fc (ss_iload_n hx hb (by decide +kernel : decode cX2_readTest 83 = .ok (.iload_n 1, 1)) rfl) ?_
  refine mm_fc (ss_callV X rfl rfl wd_3_172 wd_1_6 wd_3_169 wd_3_171 wd_p_13 (by decide +kernel) (by decide +kernel) (by decide) (by decide +kernel : decode cX2_readTest 84 = .ok (.invokevirtual 50, 3))) ?_
  refine mm_fc (ss_ifne hx hb (by decide +kernel : decode cX2_readTest 87 = .ok (.ifCond .ne 5, 3)) (by decide)) ?_
  refine mm_fc (ss_iconst hx hb (by decide +kernel : decode cX2_readTest 90 = .ok (.iconst 0, 1)) (by decide)) ?_
  refine mm_fc (ss_zret (by decide +kernel : decode cX2_readTest 91 = .ok (.ireturn, 1)) rfl) ?_
  refine mm_fc (ss_iload hx hb (by decide +kernel : decode cX2_readTest 92 = .ok (.iload 4, 2))) ?_
  refine mm_fc (ss_ifeq hx hb (by decide +kernel : decode cX2_readTest 94 = .ok (.ifCond .eq 16, 3)) (by decide)) ?_
  refine mm_fc (ss_aload_n hx hb (by decide +kernel : decode cX2_readTest 97 = .ok (.aload_n 0, 1)) rfl) ?_
  refine mm_fc (ss_get X rfl in_X2 (by decide) rfl wd_1_125 (by decide +kernel : decode cX2_readTest 98 = .ok (.getfield 19, 3))) ?_
  refine mm_fc (ss_sipush hx hb (by decide +kernel : decode cX2_readTest 101 = .ok (.sipush 11009, 3)) (by decide)) ?_
  refine mm_fc (ss_callV X rfl rfl wd_3_185 wd_1_5 wd_3_182 wd_3_183 wd_3_184 (by decide +kernel) (by decide +kernel) (by decide) (by decide +kernel : decode cX2_readTest 104 = .ok (.invokevirtual 56, 3))) ?_
  refine mm_fc (ss_goto hx hb (by decide +kernel : decode cX2_readTest 107 = .ok (.goto 5, 3)) (by decide)) ?_
  refine mm_fc (ss_iconst hx hb (by decide +kernel : decode cX2_readTest 110 = .ok (.iconst 1, 1)) (by decide)) ?_
  refine mm_fc (ss_istore_n hx hb (by decide +kernel : decode cX2_readTest 111 = .ok (.istore_n 2, 1)) rfl (by decide)) ?_
  refine mm_fc (ss_iinc hx hb (by decide +kernel : decode cX2_readTest 112 = .ok (.iinc 3 1, 3)) (by decide) (by decide)) ?_
  refine mm_fc (ss_kill (ss_goto hx hb (by decide +kernel : decode cX2_readTest 115 = .ok (.goto (-101), 3)) (by decide))) ?_
  refine mm_fc (ss_iload_n hx hb (by decide +kernel : decode cX2_readTest 118 = .ok (.iload_n 2, 1)) rfl) ?_
  refine mm_fc (ss_ifeq hx hb (by decide +kernel : decode cX2_readTest 119 = .ok (.ifCond .eq 13, 3)) (by decide)) ?_
  refine mm_fc (ss_aload_n hx hb (by decide +kernel : decode cX2_readTest 122 = .ok (.aload_n 0, 1)) rfl) ?_
  refine mm_fc (ss_get X rfl in_X2 (by decide) rfl wd_1_125 (by decide +kernel : decode cX2_readTest 123 = .ok (.getfield 19, 3))) ?_
  refine mm_fc (ss_sipush hx hb (by decide +kernel : decode cX2_readTest 126 = .ok (.sipush 11010, 3)) (by decide)) ?_
  refine mm_fc (ss_callV X rfl rfl wd_3_185 wd_1_5 wd_3_182 wd_3_183 wd_3_184 (by decide +kernel) (by decide +kernel) (by decide) (by decide +kernel : decode cX2_readTest 129 = .ok (.invokevirtual 56, 3))) ?_
  refine mm_fc (ss_iconst hx hb (by decide +kernel : decode cX2_readTest 132 = .ok (.iconst 1, 1)) (by decide)) ?_
  refine mm_fc (ss_zret (by decide +kernel : decode cX2_readTest 133 = .ok (.ireturn, 1)) rfl) ?_
  exact mm_fn
def cd_X2_readFact : mm_K mm_H := [(0, s_aload 0 1), (1, s_get 2 0 4), (4, s_pushI 21 6), (6, s_callV 6 79 1 1 9), (9, s_if (fun x => x = 0) 18 12), (12, s_aload 0 13), (13, s_iload 1 14), (14, s_callV 2 49 1 1 17), (17, s_zret), (18, s_aload 0 19), (19, s_get 2 0 22), (22, s_pushI 91 24), (24, s_callV 6 80 1 1 27), (27, s_if (fun x => x = 0) 36 30), (30, s_aload 0 31), (31, s_iload 1 32), (32, s_callV 2 50 1 1 35), (35, s_zret), (36, s_aload 0 37), (37, s_get 2 0 40), (40, s_pushI 22 42), (42, s_callV 6 79 1 1 45), (45, s_if (fun x => x = 0) 65 48), (48, s_aload 0 49), (49, s_get 2 1 52), (52, s_pushI 1 53), (53, s_callV 1 37 1 0 56), (56, s_aload 0 57), (57, s_get 2 0 60), (60, s_callV 6 75 0 0 63), (63, s_pushI 1 64), (64, s_zret), (65, s_aload 0 66), (66, s_iload 1 67), (67, s_callV 2 52 1 1 70), (70, s_if (fun x => ¬ x = 0) 75 73), (73, s_pushI 0 74), (74, s_zret), (75, s_aload 0 76), (76, s_callV 2 51 0 1 79), (79, s_istore 2 80), (80, s_iload 2 81), (81, s_pushI (-1) 82), (82, s_icmp (fun x y => ¬ x = y) 93 85), (85, s_aload 0 86), (86, s_get 2 0 89), (89, s_callV 6 88 0 1 92), (92, s_zret), (93, s_aload 0 94), (94, s_get 2 0 97), (97, s_callV 6 75 0 0 100), (100, s_aload 0 101), (101, s_iload 1 102), (102, s_callV 2 52 1 1 105), (105, s_istore 3 106), (106, s_aload 0 107), (107, s_get 2 1 110), (110, s_iload 2 111), (111, s_callV 1 37 1 0 114), (114, s_iload 3 115), (115, s_zret)]
set_option maxRecDepth 100000 in
set_option maxHeartbeats 4000000 in
theorem ok_X2_readFact (l : Launch) : mm_CodeOK l mm_I0 RX2 cX2_readFact 4 (some .boolean) cd_X2_readFact := by
  intro p e R s m args below meth c Q σ cA D A kc ks d C X
  have hx := X.1
  have hb := X.2.1
  have hown := X.2.2.2.1
  have hts := X.2.2.2.2.1
  refine mm_fc (ss_aload_n hx hb (by decide +kernel : decode cX2_readFact 0 = .ok (.aload_n 0, 1)) rfl) ?_
  refine mm_fc (ss_get X rfl in_X2 (by decide) rfl wd_1_124 (by decide +kernel : decode cX2_readFact 1 = .ok (.getfield 15, 3))) ?_
  refine mm_fc (ss_bipush hx hb (by decide +kernel : decode cX2_readFact 4 = .ok (.bipush 21, 2)) (by decide)) ?_
  refine mm_fc (ss_callV X rfl rfl wd_3_45 wd_1_3 wd_3_173 wd_3_43 wd_3_44 (by decide +kernel) (by decide +kernel) (by decide) (by decide +kernel : decode cX2_readFact 6 = .ok (.invokevirtual 53, 3))) ?_
  refine mm_fc (ss_ifeq hx hb (by decide +kernel : decode cX2_readFact 9 = .ok (.ifCond .eq 9, 3)) (by decide)) ?_
  refine mm_fc (ss_aload_n hx hb (by decide +kernel : decode cX2_readFact 12 = .ok (.aload_n 0, 1)) rfl) ?_
  refine mm_fc (ss_iload_n hx hb (by decide +kernel : decode cX2_readFact 13 = .ok (.iload_n 1, 1)) rfl) ?_
  refine mm_fc (ss_callV X rfl rfl wd_3_177 wd_1_6 wd_3_174 wd_3_176 wd_p_14 (by decide +kernel) (by decide +kernel) (by decide) (by decide +kernel : decode cX2_readFact 14 = .ok (.invokevirtual 59, 3))) ?_
  refine mm_fc (ss_zret (by decide +kernel : decode cX2_readFact 17 = .ok (.ireturn, 1)) rfl) ?_
  refine mm_fc (ss_aload_n hx hb (by decide +kernel : decode cX2_readFact 18 = .ok (.aload_n 0, 1)) rfl) ?_
  refine mm_fc (ss_get X rfl in_X2 (by decide) rfl wd_1_124 (by decide +kernel : decode cX2_readFact 19 = .ok (.getfield 15, 3))) ?_
  refine mm_fc (ss_bipush hx hb (by decide +kernel : decode cX2_readFact 22 = .ok (.bipush 91, 2)) (by decide)) ?_
  refine mm_fc (ss_callV X rfl rfl wd_3_73 wd_1_3 wd_3_186 wd_3_71 wd_3_72 (by decide +kernel) (by decide +kernel) (by decide) (by decide +kernel : decode cX2_readFact 24 = .ok (.invokevirtual 62, 3))) ?_
  refine mm_fc (ss_ifeq hx hb (by decide +kernel : decode cX2_readFact 27 = .ok (.ifCond .eq 9, 3)) (by decide)) ?_
  refine mm_fc (ss_aload_n hx hb (by decide +kernel : decode cX2_readFact 30 = .ok (.aload_n 0, 1)) rfl) ?_
  refine mm_fc (ss_iload_n hx hb (by decide +kernel : decode cX2_readFact 31 = .ok (.iload_n 1, 1)) rfl) ?_
  refine mm_fc (ss_callV X rfl rfl wd_3_190 wd_1_6 wd_3_187 wd_3_189 wd_p_15 (by decide +kernel) (by decide +kernel) (by decide) (by decide +kernel : decode cX2_readFact 32 = .ok (.invokevirtual 66, 3))) ?_
  refine mm_fc (ss_zret (by decide +kernel : decode cX2_readFact 35 = .ok (.ireturn, 1)) rfl) ?_
  refine mm_fc (ss_aload_n hx hb (by decide +kernel : decode cX2_readFact 36 = .ok (.aload_n 0, 1)) rfl) ?_
  refine mm_fc (ss_get X rfl in_X2 (by decide) rfl wd_1_124 (by decide +kernel : decode cX2_readFact 37 = .ok (.getfield 15, 3))) ?_
  refine mm_fc (ss_bipush hx hb (by decide +kernel : decode cX2_readFact 40 = .ok (.bipush 22, 2)) (by decide)) ?_
  refine mm_fc (ss_callV X rfl rfl wd_3_45 wd_1_3 wd_3_173 wd_3_43 wd_3_44 (by decide +kernel) (by decide +kernel) (by decide) (by decide +kernel : decode cX2_readFact 42 = .ok (.invokevirtual 53, 3))) ?_
  refine mm_fc (ss_ifeq hx hb (by decide +kernel : decode cX2_readFact 45 = .ok (.ifCond .eq 20, 3)) (by decide)) ?_
  refine mm_fc (ss_aload_n hx hb (by decide +kernel : decode cX2_readFact 48 = .ok (.aload_n 0, 1)) rfl) ?_
  refine mm_fc (ss_get X rfl in_X2 (by decide) rfl wd_1_125 (by decide +kernel : decode cX2_readFact 49 = .ok (.getfield 19, 3))) ?_
  refine mm_fc (ss_iconst hx hb (by decide +kernel : decode cX2_readFact 52 = .ok (.iconst 1, 1)) (by decide)) ?_
  refine mm_fc (ss_callV X rfl rfl wd_3_185 wd_1_5 wd_3_182 wd_3_183 wd_3_184 (by decide +kernel) (by decide +kernel) (by decide) (by decide +kernel : decode cX2_readFact 53 = .ok (.invokevirtual 56, 3))) ?_
  refine mm_fc (ss_aload_n hx hb (by decide +kernel : decode cX2_readFact 56 = .ok (.aload_n 0, 1)) rfl) ?_
  refine mm_fc (ss_get X rfl in_X2 (by decide) rfl wd_1_124 (by decide +kernel : decode cX2_readFact 57 = .ok (.getfield 15, 3))) ?_
  refine mm_fc (ss_callV X rfl rfl wd_2_189 wd_1_3 wd_3_160 wd_2_187 wd_2_188 (by decide +kernel) (by decide +kernel) (by decide) (by decide +kernel : decode cX2_readFact 60 = .ok (.invokevirtual 34, 3))) ?_
  refine mm_fc (ss_iconst hx hb (by decide +kernel : decode cX2_readFact 63 = .ok (.iconst 1, 1)) (by decide)) ?_
  refine mm_fc (ss_zret (by decide +kernel : decode cX2_readFact 64 = .ok (.ireturn, 1)) rfl) ?_
  refine mm_fc (ss_aload_n hx hb (by decide +kernel : decode cX2_readFact 65 = .ok (.aload_n 0, 1)) rfl) ?_
  refine mm_fc (ss_iload_n hx hb (by decide +kernel : decode cX2_readFact 66 = .ok (.iload_n 1, 1)) rfl) ?_
  refine mm_fc (ss_callV X rfl rfl wd_3_195 wd_1_6 wd_3_192 wd_3_194 wd_p_16 (by decide +kernel) (by decide +kernel) (by decide) (by decide +kernel : decode cX2_readFact 67 = .ok (.invokevirtual 44, 3))) ?_
  refine mm_fc (ss_ifne hx hb (by decide +kernel : decode cX2_readFact 70 = .ok (.ifCond .ne 5, 3)) (by decide)) ?_
  refine mm_fc (ss_iconst hx hb (by decide +kernel : decode cX2_readFact 73 = .ok (.iconst 0, 1)) (by decide)) ?_
  refine mm_fc (ss_zret (by decide +kernel : decode cX2_readFact 74 = .ok (.ireturn, 1)) rfl) ?_
  refine mm_fc (ss_aload_n hx hb (by decide +kernel : decode cX2_readFact 75 = .ok (.aload_n 0, 1)) rfl) ?_
  refine mm_fc (ss_callV X rfl rfl wd_3_234 wd_1_6 wd_3_231 wd_3_233 wd_p_24 (by decide +kernel) (by decide +kernel) (by decide) (by decide +kernel : decode cX2_readFact 76 = .ok (.invokevirtual 69, 3))) ?_
  refine mm_fc (ss_istore_n hx hb (by decide +kernel : decode cX2_readFact 79 = .ok (.istore_n 2, 1)) rfl (by decide)) ?_
  refine mm_fc (ss_iload_n hx hb (by decide +kernel : decode cX2_readFact 80 = .ok (.iload_n 2, 1)) rfl) ?_
  refine mm_fc (ss_iconst hx hb (by decide +kernel : decode cX2_readFact 81 = .ok (.iconst (-1), 1)) (by decide)) ?_
  refine mm_fc (ss_icmpne hx hb (by decide +kernel : decode cX2_readFact 82 = .ok (.if_icmp .ne 11, 3)) (by decide)) ?_
  refine mm_fc (ss_aload_n hx hb (by decide +kernel : decode cX2_readFact 85 = .ok (.aload_n 0, 1)) rfl) ?_
  refine mm_fc (ss_get X rfl in_X2 (by decide) rfl wd_1_124 (by decide +kernel : decode cX2_readFact 86 = .ok (.getfield 15, 3))) ?_
  refine mm_fc (ss_callV X rfl rfl wd_3_49 wd_1_3 wd_3_214 wd_3_47 wd_3_48 (by decide +kernel) (by decide +kernel) (by decide) (by decide +kernel : decode cX2_readFact 89 = .ok (.invokevirtual 73, 3))) ?_
  refine mm_fc (ss_zret (by decide +kernel : decode cX2_readFact 92 = .ok (.ireturn, 1)) rfl) ?_
  refine mm_fc (ss_aload_n hx hb (by decide +kernel : decode cX2_readFact 93 = .ok (.aload_n 0, 1)) rfl) ?_
  refine mm_fc (ss_get X rfl in_X2 (by decide) rfl wd_1_124 (by decide +kernel : decode cX2_readFact 94 = .ok (.getfield 15, 3))) ?_
  refine mm_fc (ss_callV X rfl rfl wd_2_189 wd_1_3 wd_3_160 wd_2_187 wd_2_188 (by decide +kernel) (by decide +kernel) (by decide) (by decide +kernel : decode cX2_readFact 97 = .ok (.invokevirtual 34, 3))) ?_
  refine mm_fc (ss_aload_n hx hb (by decide +kernel : decode cX2_readFact 100 = .ok (.aload_n 0, 1)) rfl) ?_
  refine mm_fc (ss_iload_n hx hb (by decide +kernel : decode cX2_readFact 101 = .ok (.iload_n 1, 1)) rfl) ?_
  refine mm_fc (ss_callV X rfl rfl wd_3_195 wd_1_6 wd_3_192 wd_3_194 wd_p_16 (by decide +kernel) (by decide +kernel) (by decide) (by decide +kernel : decode cX2_readFact 102 = .ok (.invokevirtual 44, 3))) ?_
  refine mm_fc (ss_istore_n hx hb (by decide +kernel : decode cX2_readFact 105 = .ok (.istore_n 3, 1)) rfl (by decide)) ?_
  refine mm_fc (ss_aload_n hx hb (by decide +kernel : decode cX2_readFact 106 = .ok (.aload_n 0, 1)) rfl) ?_
  refine mm_fc (ss_get X rfl in_X2 (by decide) rfl wd_1_125 (by decide +kernel : decode cX2_readFact 107 = .ok (.getfield 19, 3))) ?_
  refine mm_fc (ss_iload_n hx hb (by decide +kernel : decode cX2_readFact 110 = .ok (.iload_n 2, 1)) rfl) ?_
  refine mm_fc (ss_callV X rfl rfl wd_3_185 wd_1_5 wd_3_182 wd_3_183 wd_3_184 (by decide +kernel) (by decide +kernel) (by decide) (by decide +kernel : decode cX2_readFact 111 = .ok (.invokevirtual 56, 3))) ?_
  refine mm_fc (ss_iload_n hx hb (by decide +kernel : decode cX2_readFact 114 = .ok (.iload_n 3, 1)) rfl) ?_
  refine mm_fc (ss_zret (by decide +kernel : decode cX2_readFact 115 = .ok (.ireturn, 1)) rfl) ?_
  exact mm_fn
