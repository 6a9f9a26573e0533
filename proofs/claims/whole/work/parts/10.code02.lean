def cd_X2_readNot : mm_K mm_H := [(0, s_aload 0 1), (1, s_get 2 0 4), (4, s_iload 1 5), (5, s_callV 6 87 1 1 8), (8, s_if (fun x => ¬ x = 0) 13 11), (11, s_pushI 0 12), (12, s_zret), (13, s_aload 0 14), (14, s_get 2 0 17), (17, s_callV 6 75 0 0 20), (20, s_aload 0 21), (21, s_iload 1 22), (22, s_pushI 1 23), (23, s_bin (fun x y => x + y) 24), (24, s_callV 2 48 1 1 27), (27, s_istore 2 28), (28, s_aload 0 29), (29, s_get 2 1 32), (32, s_pushI 11011 35), (35, s_callV 1 37 1 0 38), (38, s_iload 2 39), (39, s_zret)]
set_option maxRecDepth 100000 in
set_option maxHeartbeats 4000000 in
theorem ok_X2_readNot (l : Launch) : mm_CodeOK l mm_I0 RX2 cX2_readNot 3 (some .boolean) cd_X2_readNot := by
  intro p e R s m args below meth c Q σ cA D A kc ks d C X
  have hx := X.1
  have hb := X.2.1
  have hown := X.2.2.2.1
  have hts := X.2.2.2.2.1
  refine mm_fc (ss_aload_n hx hb (by decide +kernel : decode cX2_readNot 0 = .ok (.aload_n 0, 1)) rfl) ?_
  refine mm_fc (ss_get X rfl in_X2 (by decide) rfl wd_1_124 (by decide +kernel : decode cX2_readNot 1 = .ok (.getfield 15, 3))) ?_
  refine mm_fc (ss_iload_n hx hb (by decide +kernel : decode cX2_readNot 4 = .ok (.iload_n 1, 1)) rfl) ?_
  refine mm_fc (ss_callV X rfl rfl wd_3_181 wd_1_3 wd_3_178 wd_3_179 wd_3_180 (by decide +kernel) (by decide +kernel) (by decide) (by decide +kernel : decode cX2_readNot 5 = .ok (.invokevirtual 77, 3))) ?_
  refine mm_fc (ss_ifne hx hb (by decide +kernel : decode cX2_readNot 8 = .ok (.ifCond .ne 5, 3)) (by decide)) ?_
  refine mm_fc (ss_iconst hx hb (by decide +kernel : decode cX2_readNot 11 = .ok (.iconst 0, 1)) (by decide)) ?_
  refine mm_fc (ss_zret (by decide +kernel : decode cX2_readNot 12 = .ok (.ireturn, 1)) rfl) ?_
  refine mm_fc (ss_aload_n hx hb (by decide +kernel : decode cX2_readNot 13 = .ok (.aload_n 0, 1)) rfl) ?_
  refine mm_fc (ss_get X rfl in_X2 (by decide) rfl wd_1_124 (by decide +kernel : decode cX2_readNot 14 = .ok (.getfield 15, 3))) ?_
  refine mm_fc (ss_callV X rfl rfl wd_2_189 wd_1_3 wd_3_160 wd_2_187 wd_2_188 (by decide +kernel) (by decide +kernel) (by decide) (by decide +kernel : decode cX2_readNot 17 = .ok (.invokevirtual 34, 3))) ?_
  refine mm_fc (ss_aload_n hx hb (by decide +kernel : decode cX2_readNot 20 = .ok (.aload_n 0, 1)) rfl) ?_
  refine mm_fc (ss_iload_n hx hb (by decide +kernel : decode cX2_readNot 21 = .ok (.iload_n 1, 1)) rfl) ?_
  refine mm_fc (ss_iconst hx hb (by decide +kernel : decode cX2_readNot 22 = .ok (.iconst 1, 1)) (by decide)) ?_
  refine mm_fc (ss_iadd hx hb (by decide +kernel : decode cX2_readNot 23 = .ok (.iadd, 1))) ?_
  refine mm_fc (ss_callV X rfl rfl wd_3_172 wd_1_6 wd_3_169 wd_3_171 wd_p_13 (by decide +kernel) (by decide +kernel) (by decide) (by decide +kernel : decode cX2_readNot 24 = .ok (.invokevirtual 50, 3))) ?_
  refine mm_fc (ss_istore_n hx hb (by decide +kernel : decode cX2_readNot 27 = .ok (.istore_n 2, 1)) rfl (by decide)) ?_
  refine mm_fc (ss_aload_n hx hb (by decide +kernel : decode cX2_readNot 28 = .ok (.aload_n 0, 1)) rfl) ?_
  refine mm_fc (ss_get X rfl in_X2 (by decide) rfl wd_1_125 (by decide +kernel : decode cX2_readNot 29 = .ok (.getfield 19, 3))) ?_
  refine mm_fc (ss_sipush hx hb (by decide +kernel : decode cX2_readNot 32 = .ok (.sipush 11011, 3)) (by decide)) ?_
  refine mm_fc (ss_callV X rfl rfl wd_3_185 wd_1_5 wd_3_182 wd_3_183 wd_3_184 (by decide +kernel) (by decide +kernel) (by decide) (by decide +kernel : decode cX2_readNot 35 = .ok (.invokevirtual 56, 3))) ?_
  refine mm_fc (ss_iload_n hx hb (by decide +kernel : decode cX2_readNot 38 = .ok (.iload_n 2, 1)) rfl) ?_
  refine mm_fc (ss_zret (by decide +kernel : decode cX2_readNot 39 = .ok (.ireturn, 1)) rfl) ?_
  exact mm_fn
def cd_X2_readInnerTest : mm_K mm_H := [(0, s_aload 0 1), (1, s_get 2 0 4), (4, s_iload 1 5), (5, s_callV 6 87 1 1 8), (8, s_if (fun x => ¬ x = 0) 13 11), (11, s_pushI 0 12), (12, s_zret), (13, s_aload 0 14), (14, s_get 2 0 17), (17, s_callV 6 75 0 0 20), (20, s_aload 0 21), (21, s_iload 1 22), (22, s_pushI 1 23), (23, s_bin (fun x y => x + y) 24), (24, s_callV 2 47 1 1 27), (27, s_if (fun x => x = 0) 46 30), (30, s_aload 0 31), (31, s_get 2 0 34), (34, s_pushI 93 36), (36, s_callV 6 82 1 1 39), (39, s_if (fun x => x = 0) 46 42), (42, s_pushI 1 43), (43, s_goto 47), (46, s_pushI 0 47), (47, s_zret)]
set_option maxRecDepth 100000 in
set_option maxHeartbeats 4000000 in
theorem ok_X2_readInnerTest (l : Launch) : mm_CodeOK l mm_I0 RX2 cX2_readInnerTest 2 (some .boolean) cd_X2_readInnerTest := by
  intro p e R s m args below meth c Q σ cA D A kc ks d C X
  have hx := X.1
  have hb := X.2.1
  have hown := X.2.2.2.1
  have hts := X.2.2.2.2.1
  refine mm_fc (ss_aload_n hx hb (by decide +kernel : decode cX2_readInnerTest 0 = .ok (.aload_n 0, 1)) rfl) ?_
  refine mm_fc (ss_get X rfl in_X2 (by decide) rfl wd_1_124 (by decide +kernel : decode cX2_readInnerTest 1 = .ok (.getfield 15, 3))) ?_
  refine mm_fc (ss_iload_n hx hb (by decide +kernel : decode cX2_readInnerTest 4 = .ok (.iload_n 1, 1)) rfl) ?_
  refine mm_fc (ss_callV X rfl rfl wd_3_181 wd_1_3 wd_3_178 wd_3_179 wd_3_180 (by decide +kernel) (by decide +kernel) (by decide) (by decide +kernel : decode cX2_readInnerTest 5 = .ok (.invokevirtual 77, 3))) ?_
  refine mm_fc (ss_ifne hx hb (by decide +kernel : decode cX2_readInnerTest 8 = .ok (.ifCond .ne 5, 3)) (by decide)) ?_
  refine mm_fc (ss_iconst hx hb (by decide +kernel : decode cX2_readInnerTest 11 = .ok (.iconst 0, 1)) (by decide)) ?_
  refine mm_fc (ss_zret (by decide +kernel : decode cX2_readInnerTest 12 = .ok (.ireturn, 1)) rfl) ?_
  refine mm_fc (ss_aload_n hx hb (by decide +kernel : decode cX2_readInnerTest 13 = .ok (.aload_n 0, 1)) rfl) ?_
  refine mm_fc (ss_get X rfl in_X2 (by decide) rfl wd_1_124 (by decide +kernel : decode cX2_readInnerTest 14 = .ok (.getfield 15, 3))) ?_
  refine mm_fc (ss_callV X rfl rfl wd_2_189 wd_1_3 wd_3_160 wd_2_187 wd_2_188 (by decide +kernel) (by decide +kernel) (by decide) (by decide +kernel : decode cX2_readInnerTest 17 = .ok (.invokevirtual 34, 3))) ?_
  refine mm_fc (ss_aload_n hx hb (by decide +kernel : decode cX2_readInnerTest 20 = .ok (.aload_n 0, 1)) rfl) ?_
  refine mm_fc (ss_iload_n hx hb (by decide +kernel : decode cX2_readInnerTest 21 = .ok (.iload_n 1, 1)) rfl) ?_
  refine mm_fc (ss_iconst hx hb (by decide +kernel : decode cX2_readInnerTest 22 = .ok (.iconst 1, 1)) (by decide)) ?_
  refine mm_fc (ss_iadd hx hb (by decide +kernel : decode cX2_readInnerTest 23 = .ok (.iadd, 1))) ?_
  refine mm_fc (ss_callV X rfl rfl wd_3_168 wd_1_6 wd_3_165 wd_3_167 wd_p_12 (by decide +kernel) (by decide +kernel) (by decide) (by decide +kernel : decode cX2_readInnerTest 24 = .ok (.invokevirtual 41, 3))) ?_
  refine mm_fc (ss_ifeq hx hb (by decide +kernel : decode cX2_readInnerTest 27 = .ok (.ifCond .eq 19, 3)) (by decide)) ?_
  refine mm_fc (ss_aload_n hx hb (by decide +kernel : decode cX2_readInnerTest 30 = .ok (.aload_n 0, 1)) rfl) ?_
  refine mm_fc (ss_get X rfl in_X2 (by decide) rfl wd_1_124 (by decide +kernel : decode cX2_readInnerTest 31 = .ok (.getfield 15, 3))) ?_
  refine mm_fc (ss_bipush hx hb (by decide +kernel : decode cX2_readInnerTest 34 = .ok (.bipush 93, 2)) (by decide)) ?_
  refine mm_fc (ss_callV X rfl rfl wd_3_69 wd_1_3 wd_3_191 wd_3_67 wd_3_68 (by decide +kernel) (by decide +kernel) (by decide) (by decide +kernel : decode cX2_readInnerTest 36 = .ok (.invokevirtual 80, 3))) ?_
  refine mm_fc (ss_ifeq hx hb (by decide +kernel : decode cX2_readInnerTest 39 = .ok (.ifCond .eq 7, 3)) (by decide)) ?_
  refine mm_fc (ss_iconst hx hb (by decide +kernel : decode cX2_readInnerTest 42 = .ok (.iconst 1, 1)) (by decide)) ?_
  refine mm_fc (ss_goto hx hb (by decide +kernel : decode cX2_readInnerTest 43 = .ok (.goto 4, 3)) (by decide)) ?_
  refine mm_fc (ss_iconst hx hb (by decide +kernel : decode cX2_readInnerTest 46 = .ok (.iconst 0, 1)) (by decide)) ?_
  refine mm_fc (ss_zret (by decide +kernel : decode cX2_readInnerTest 47 = .ok (.ireturn, 1)) rfl) ?_
  exact mm_fn
def cd_X2_comparisonHere : mm_K mm_H := [(0, s_aload 0 1), (1, s_get 2 0 4), (4, s_pushI 60 6), (6, s_callV 6 80 1 1 9), (9, s_if (fun x => x = 0) 16 12), (12, s_pushI 11004 15), (15, s_iret), (16, s_aload 0 17), (17, s_get 2 0 20), (20, s_pushI 62 22), (22, s_callV 6 80 1 1 25), (25, s_if (fun x => x = 0) 32 28), (28, s_pushI 11005 31), (31, s_iret), (32, s_aload 0 33), (33, s_get 2 0 36), (36, s_pushI 61 38), (38, s_callV 6 80 1 1 41), (41, s_if (fun x => x = 0) 50 44), (44, s_pushI 11006 47), (47, s_goto 51), (50, s_pushI (-1) 51), (51, s_iret)]
set_option maxRecDepth 100000 in
set_option maxHeartbeats 4000000 in
theorem ok_X2_comparisonHere (l : Launch) : mm_CodeOK l mm_I0 RX2 cX2_comparisonHere 1 (some .int) cd_X2_comparisonHere := by
  intro p e R s m args below meth c Q σ cA D A kc ks d C X
  have hx := X.1
  have hb := X.2.1
  have hown := X.2.2.2.1
  have hts := X.2.2.2.2.1
  refine mm_fc (ss_aload_n hx hb (by decide +kernel : decode cX2_comparisonHere 0 = .ok (.aload_n 0, 1)) rfl) ?_
  refine mm_fc (ss_get X rfl in_X2 (by decide) rfl wd_1_124 (by decide +kernel : decode cX2_comparisonHere 1 = .ok (.getfield 15, 3))) ?_
  refine mm_fc (ss_bipush hx hb (by decide +kernel : decode cX2_comparisonHere 4 = .ok (.bipush 60, 2)) (by decide)) ?_
  refine mm_fc (ss_callV X rfl rfl wd_3_73 wd_1_3 wd_3_186 wd_3_71 wd_3_72 (by decide +kernel) (by decide +kernel) (by decide) (by decide +kernel : decode cX2_comparisonHere 6 = .ok (.invokevirtual 62, 3))) ?_
  refine mm_fc (ss_ifeq hx hb (by decide +kernel : decode cX2_comparisonHere 9 = .ok (.ifCond .eq 7, 3)) (by decide)) ?_
  refine mm_fc (ss_sipush hx hb (by decide +kernel : decode cX2_comparisonHere 12 = .ok (.sipush 11004, 3)) (by decide)) ?_
  refine mm_fc (ss_iret (by decide +kernel : decode cX2_comparisonHere 15 = .ok (.ireturn, 1)) rfl) ?_
  refine mm_fc (ss_aload_n hx hb (by decide +kernel : decode cX2_comparisonHere 16 = .ok (.aload_n 0, 1)) rfl) ?_
  refine mm_fc (ss_get X rfl in_X2 (by decide) rfl wd_1_124 (by decide +kernel : decode cX2_comparisonHere 17 = .ok (.getfield 15, 3))) ?_
  refine mm_fc (ss_bipush hx hb (by decide +kernel : decode cX2_comparisonHere 20 = .ok (.bipush 62, 2)) (by decide)) ?_
  refine mm_fc (ss_callV X rfl rfl wd_3_73 wd_1_3 wd_3_186 wd_3_71 wd_3_72 (by decide +kernel) (by decide +kernel) (by decide) (by decide +kernel : decode cX2_comparisonHere 22 = .ok (.invokevirtual 62, 3))) ?_
  refine mm_fc (ss_ifeq hx hb (by decide +kernel : decode cX2_comparisonHere 25 = .ok (.ifCond .eq 7, 3)) (by decide)) ?_
  refine mm_fc (ss_sipush hx hb (by decide +kernel : decode cX2_comparisonHere 28 = .ok (.sipush 11005, 3)) (by decide)) ?_
  refine mm_fc (ss_iret (by decide +kernel : decode cX2_comparisonHere 31 = .ok (.ireturn, 1)) rfl) ?_
  refine mm_fc (ss_aload_n hx hb (by decide +kernel : decode cX2_comparisonHere 32 = .ok (.aload_n 0, 1)) rfl) ?_
  refine mm_fc (ss_get X rfl in_X2 (by decide) rfl wd_1_124 (by decide +kernel : decode cX2_comparisonHere 33 = .ok (.getfield 15, 3))) ?_
  refine mm_fc (ss_bipush hx hb (by decide +kernel : decode cX2_comparisonHere 36 = .ok (.bipush 61, 2)) (by decide)) ?_
  refine mm_fc (ss_callV X rfl rfl wd_3_73 wd_1_3 wd_3_186 wd_3_71 wd_3_72 (by decide +kernel) (by decide +kernel) (by decide) (by decide +kernel : decode cX2_comparisonHere 38 = .ok (.invokevirtual 62, 3))) ?_
  refine mm_fc (ss_ifeq hx hb (by decide +kernel : decode cX2_comparisonHere 41 = .ok (.ifCond .eq 9, 3)) (by decide)) ?_
  refine mm_fc (ss_sipush hx hb (by decide +kernel : decode cX2_comparisonHere 44 = .ok (.sipush 11006, 3)) (by decide)) ?_
  refine mm_fc (ss_goto hx hb (by decide +kernel : decode cX2_comparisonHere 47 = .ok (.goto 4, 3)) (by decide)) ?_
  refine mm_fc (ss_iconst hx hb (by decide +kernel : decode cX2_comparisonHere 50 = .ok (.iconst (-1), 1)) (by decide)) ?_
  refine mm_fc (ss_iret (by decide +kernel : decode cX2_comparisonHere 51 = .ok (.ireturn, 1)) rfl) ?_
  exact mm_fn
def cd_X2_readSum : mm_K mm_H := [(0, s_aload 0 1), (1, s_iload 1 2), (2, s_callV 2 54 1 1 5), (5, s_if (fun x => ¬ x = 0) 10 8), (8, s_pushI 0 9), (9, s_zret), (10, s_pushI (-1) 11), (11, s_istore 2 12), (12, s_pushI 0 13), (13, s_kill 14 [4, 5] (s_istore 3 14)), (14, s_iload 3 15), (15, s_pushI 1600 18), (18, s_icmp (fun x y => y ≤ x) 119 21), (21, s_aload 0 22), (22, s_callV 2 53 0 1 25), (25, s_pushI (-1) 26), (26, s_icmp (fun x y => x = y) 119 29), (29, s_aload 0 30), (30, s_callV 2 53 0 1 33), (33, s_istore 4 35), (35, s_iload 4 37), (37, s_pushI 11002 40), (40, s_icmp (fun x y => x = y) 51 43), (43, s_iload 4 45), (45, s_pushI 11003 48), (48, s_icmp (fun x y => ¬ x = y) 55 51), (51, s_pushI 1 52), (52, s_goto 56), (55, s_pushI 0 56), (56, s_istore 5 58), (58, s_iload 5 60), (60, s_if (fun x => ¬ x = 0) 76 63), (63, s_iload 2 64), (64, s_pushI (-1) 65), (65, s_icmp (fun x y => x = y) 76 68), (68, s_aload 0 69), (69, s_get 2 1 72), (72, s_iload 2 73), (73, s_callV 1 37 1 0 76), (76, s_aload 0 77), (77, s_get 2 0 80), (80, s_callV 6 75 0 0 83), (83, s_aload 0 84), (84, s_iload 1 85), (85, s_callV 2 54 1 1 88), (88, s_if (fun x => ¬ x = 0) 93 91), (91, s_pushI 0 92), (92, s_zret), (93, s_iload 5 95), (95, s_if (fun x => x = 0) 110 98), (98, s_aload 0 99), (99, s_get 2 1 102), (102, s_iload 4 104), (104, s_callV 1 37 1 0 107), (107, s_goto 113), (110, s_iload 4 112), (112, s_istore 2 113), (113, s_iinc 3 1 116), (116, s_kill 14 [4, 5] (s_goto 14)), (119, s_iload 2 120), (120, s_pushI (-1) 121), (121, s_icmp (fun x y => x = y) 132 124), (124, s_aload 0 125), (125, s_get 2 1 128), (128, s_iload 2 129), (129, s_callV 1 37 1 0 132), (132, s_pushI 1 133), (133, s_zret)]
set_option maxRecDepth 100000 in
set_option maxHeartbeats 4000000 in
theorem ok_X2_readSum (l : Launch) : mm_CodeOK l mm_I0 RX2 cX2_readSum 6 (some .boolean) cd_X2_readSum := by
  intro p e R s m args below meth c Q σ cA D A kc ks d C X
  have hx := X.1
  have hb := X.2.1
  have hown := X.2.2.2.1
  have hts := X.2.2.2.2.1
  refine mm_fc (ss_aload_n hx hb (by decide +kernel : decode cX2_readSum 0 = .ok (.aload_n 0, 1)) rfl) ?_
  refine mm_fc (ss_iload_n hx hb (by decide +kernel : decode cX2_readSum 1 = .ok (.iload_n 1, 1)) rfl) ?_
  refine mm_fc (ss_callV X rfl rfl wd_3_199 wd_1_6 wd_3_196 wd_3_198 wd_p_17 (by decide +kernel) (by decide +kernel) (by decide) (by decide +kernel : decode cX2_readSum 2 = .ok (.invokevirtual 83, 3))) ?_
  refine mm_fc (ss_ifne hx hb (by decide +kernel : decode cX2_readSum 5 = .ok (.ifCond .ne 5, 3)) (by decide)) ?_
  refine mm_fc (ss_iconst hx hb (by decide +kernel : decode cX2_readSum 8 = .ok (.iconst 0, 1)) (by decide)) ?_
  refine mm_fc (ss_zret (by decide +kernel : decode cX2_readSum 9 = .ok (.ireturn, 1)) rfl) ?_
  refine mm_fc (ss_iconst hx hb (by decide +kernel : decode cX2_readSum 10 = .ok (.iconst (-1), 1)) (by decide)) ?_
  refine mm_fc (ss_istore_n hx hb (by decide +kernel : decode cX2_readSum 11 = .ok (.istore_n 2, 1)) rfl (by decide)) ?_
  refine mm_fc (ss_iconst hx hb (by decide +kernel : decode cX2_readSum 12 = .ok (.iconst 0, 1)) (by decide)) ?_
  refine mm_fc (ss_kill (ss_istore_n hx hb (by decide +kernel : decode cX2_readSum 13 = .ok (.istore_n 3, 1)) rfl (by decide))) ?_
  refine mm_fc (ss_iload_n hx hb (by decide +kernel : decode cX2_readSum 14 = .ok (.iload_n 3, 1)) rfl) ?_
  refine mm_fc (ss_sipush hx hb (by decide +kernel : decode cX2_readSum 15 = .ok (.sipush 1600, 3)) (by decide)) ?_
  refine mm_fc (ss_icmpge hx hb (by decide +kernel : decode cX2_readSum 18 = .ok (.if_icmp .ge 101, 3)) (by decide)) ?_
  refine mm_fc (ss_aload_n hx hb (by decide +kernel : decode cX2_readSum 21 = .ok (.aload_n 0, 1)) rfl) ?_
  refine mm_fc (ss_callV X rfl rfl wd_3_230 wd_1_6 wd_3_227 wd_3_229 wd_p_23 (by decide +kernel) (by decide +kernel) (by decide) (by decide +kernel : decode cX2_readSum 22 = .ok (.invokevirtual 86, 3))) ?_
  refine mm_fc (ss_iconst hx hb (by decide +kernel : decode cX2_readSum 25 = .ok (.iconst (-1), 1)) (by decide)) ?_
  refine mm_fc (ss_icmpeq hx hb (by decide +kernel : decode cX2_readSum 26 = .ok (.if_icmp .eq 93, 3)) (by decide)) ?_
  refine mm_fc (ss_aload_n hx hb (by decide +kernel : decode cX2_readSum 29 = .ok (.aload_n 0, 1)) rfl) ?_
  refine mm_fc (ss_callV X rfl rfl wd_3_230 wd_1_6 wd_3_227 wd_3_229 wd_p_23 (by decide +kernel) (by decide +kernel) (by decide) (by decide +kernel : decode cX2_readSum 30 = .ok (.invokevirtual 86, 3))) ?_
  refine mm_fc (ss_istore hx hb (by decide +kernel : decode cX2_readSum 33 = .ok (.istore 4, 2)) (by decide)) ?_
  refine mm_fc (ss_iload hx hb (by decide +kernel : decode cX2_readSum 35 = .ok (.iload 4, 2))) ?_
  refine mm_fc (ss_sipush hx hb (by decide +kernel : decode cX2_readSum 37 = .ok (.sipush 11002, 3)) (by decide)) ?_
  refine mm_fc (ss_icmpeq hx hb (by decide +kernel : decode cX2_readSum 40 = .ok (.if_icmp .eq 11, 3)) (by decide)) ?_
  refine mm_fc (ss_iload hx hb (by decide +kernel : decode cX2_readSum 43 = .ok (.iload 4, 2))) ?_
  refine mm_fc (ss_sipush hx hb (by decide +kernel : decode cX2_readSum 45 = .ok (.sipush 11003, 3)) (by decide)) ?_
  refine mm_fc (ss_icmpne hx hb (by decide +kernel : decode cX2_readSum 48 = .ok (.if_icmp .ne 7, 3)) (by decide)) ?_
  refine mm_fc (ss_iconst hx hb (by decide +kernel : decode cX2_readSum 51 = .ok (.iconst 1, 1)) (by decide)) ?_
  refine mm_fc (ss_goto hx hb (by decide +kernel : decode cX2_readSum 52 = .ok (.goto 4, 3)) (by decide)) ?_
  refine mm_fc (ss_iconst hx hb (by decide +kernel : decode cX2_readSum 55 = .ok (.iconst 0, 1)) (by decide)) ?_
  refine mm_fc (ss_istore hx hb (by decide +kernel : decode cX2_readSum 56 = .ok (.istore 5, 2)) (by decide)) ?_
  refine mm_fc (ss_iload hx hb (by decide +kernel : decode cX2_readSum 58 = .ok (.iload 5, 2))) ?_
  refine mm_fc (ss_ifne hx hb (by decide +kernel : decode cX2_readSum 60 = .ok (.ifCond .ne 16, 3)) (by decide)) ?_
  refine mm_fc (ss_iload_n hx hb (by decide +kernel : decode cX2_readSum 63 = .ok (.iload_n 2, 1)) rfl) ?_
  refine mm_fc (ss_iconst hx hb (by decide +kernel : decode cX2_readSum 64 = .ok (.iconst (-1), 1)) (by decide)) ?_
  refine mm_fc (ss_icmpeq hx hb (by decide +kernel : decode cX2_readSum 65 = .ok (.if_icmp .eq 11, 3)) (by decide)) ?_
  refine mm_fc (ss_aload_n hx hb (by decide +kernel : decode cX2_readSum 68 = .ok (.aload_n 0, 1)) rfl) ?_
  refine mm_fc (ss_get X rfl in_X2 (by decide) rfl wd_1_125 (by decide +kernel : decode cX2_readSum 69 = .ok (.getfield 19, 3))) ?_
  refine mm_fc (ss_iload_n hx hb (by decide +kernel : decode cX2_readSum 72 = .ok (.iload_n 2, 1)) rfl) ?_
  refine mm_fc (ss_callV X rfl rfl wd_3_185 wd_1_5 wd_3_182 wd_3_183 wd_3_184 (by decide +kernel) (by decide +kernel) (by decide) (by decide +kernel : decode cX2_readSum 73 = .ok (.invokevirtual 56, 3))) ?_
  refine mm_fc (ss_aload_n hx hb (by decide +kernel : decode cX2_readSum 76 = .ok (.aload_n 0, 1)) rfl) ?_
  refine mm_fc (ss_get X rfl in_X2 (by decide) rfl wd_1_124 (by decide +kernel : decode cX2_readSum 77 = .ok (.getfield 15, 3))) ?_
  refine mm_fc (ss_callV X rfl rfl wd_2_189 wd_1_3 wd_3_160 wd_2_187 wd_2_188 (by decide +kernel) (by decide +kernel) (by decide) (by decide +kernel : decode cX2_readSum 80 = .ok (.invokevirtual 34, 3))) ?_
  refine mm_fc (ss_aload_n hx hb (by decide +kernel : decode cX2_readSum 83 = .ok (.aload_n 0, 1)) rfl) ?_
  refine mm_fc (ss_iload_n hx hb (by decide +kernel : decode cX2_readSum 84 = .ok (.iload_n 1, 1)) rfl) ?_
  refine mm_fc (ss_callV X rfl rfl wd_3_199 wd_1_6 wd_3_196 wd_3_198 wd_p_17 (by decide +kernel) (by decide +kernel) (by decide) (by decide +kernel : decode cX2_readSum 85 = .ok (.invokevirtual 83, 3))) ?_
  refine mm_fc (ss_ifne hx hb (by decide +kernel : decode cX2_readSum 88 = .ok (.ifCond .ne 5, 3)) (by decide)) ?_
  refine mm_fc (ss_iconst hx hb (by decide +kernel : decode cX2_readSum 91 = .ok (.iconst 0, 1)) (by decide)) ?_
  refine mm_fc (ss_zret (by decide +kernel : decode cX2_readSum 92 = .ok (.ireturn, 1)) rfl) ?_
  refine mm_fc (ss_iload hx hb (by decide +kernel : decode cX2_readSum 93 = .ok (.iload 5, 2))) ?_
  refine mm_fc (ss_ifeq hx hb (by decide +kernel : decode cX2_readSum 95 = .ok (.ifCond .eq 15, 3)) (by decide)) ?_
  refine mm_fc (ss_aload_n hx hb (by decide +kernel : decode cX2_readSum 98 = .ok (.aload_n 0, 1)) rfl) ?_
  refine mm_fc (ss_get X rfl in_X2 (by decide) rfl wd_1_125 (by decide +kernel : decode cX2_readSum 99 = .ok (.getfield 19, 3))) ?_
  refine mm_fc (ss_iload hx hb (by decide +kernel : decode cX2_readSum 102 = .ok (.iload 4, 2))) ?_
  refine mm_fc (ss_callV X rfl rfl wd_3_185 wd_1_5 wd_3_182 wd_3_183 wd_3_184 (by decide +kernel) (by decide +kernel) (by decide) (by decide +kernel : decode cX2_readSum 104 = .ok (.invokevirtual 56, 3))) ?_
  refine mm_fc (ss_goto hx hb (by decide +kernel : decode cX2_readSum 107 = .ok (.goto 6, 3)) (by decide)) ?_
  refine mm_fc (ss_iload hx hb (by decide +kernel : decode cX2_readSum 110 = .ok (.iload 4, 2))) ?_
  refine mm_fc (ss_istore_n hx hb (by decide +kernel : decode cX2_readSum 112 = .ok (.istore_n 2, 1)) rfl (by decide)) ?_
  refine mm_fc (ss_iinc hx hb (by decide +kernel : decode cX2_readSum 113 = .ok (.iinc 3 1, 3)) (by decide) (by decide)) ?_
  refine mm_fc (ss_kill (ss_goto hx hb (by decide +kernel : decode cX2_readSum 116 = .ok (.goto (-102), 3)) (by decide))) ?_
  refine mm_fc (ss_iload_n hx hb (by decide +kernel : decode cX2_readSum 119 = .ok (.iload_n 2, 1)) rfl) ?_
  refine mm_fc (ss_iconst hx hb (by decide +kernel : decode cX2_readSum 120 = .ok (.iconst (-1), 1)) (by decide)) ?_
  refine mm_fc (ss_icmpeq hx hb (by decide +kernel : decode cX2_readSum 121 = .ok (.if_icmp .eq 11, 3)) (by decide)) ?_
  refine mm_fc (ss_aload_n hx hb (by decide +kernel : decode cX2_readSum 124 = .ok (.aload_n 0, 1)) rfl) ?_
  refine mm_fc (ss_get X rfl in_X2 (by decide) rfl wd_1_125 (by decide +kernel : decode cX2_readSum 125 = .ok (.getfield 19, 3))) ?_
  refine mm_fc (ss_iload_n hx hb (by decide +kernel : decode cX2_readSum 128 = .ok (.iload_n 2, 1)) rfl) ?_
  refine mm_fc (ss_callV X rfl rfl wd_3_185 wd_1_5 wd_3_182 wd_3_183 wd_3_184 (by decide +kernel) (by decide +kernel) (by decide) (by decide +kernel : decode cX2_readSum 129 = .ok (.invokevirtual 56, 3))) ?_
  refine mm_fc (ss_iconst hx hb (by decide +kernel : decode cX2_readSum 132 = .ok (.iconst 1, 1)) (by decide)) ?_
  refine mm_fc (ss_zret (by decide +kernel : decode cX2_readSum 133 = .ok (.ireturn, 1)) rfl) ?_
  exact mm_fn
def cd_X2_deedHere : mm_K mm_H := [(0, s_aload 0 1), (1, s_get 2 0 4), (4, s_pushI 43 6), (6, s_callV 6 80 1 1 9), (9, s_if (fun x => x = 0) 16 12), (12, s_pushI 11000 15), (15, s_iret), (16, s_aload 0 17), (17, s_get 2 0 20), (20, s_pushI 45 22), (22, s_callV 6 80 1 1 25), (25, s_if (fun x => x = 0) 32 28), (28, s_pushI 11001 31), (31, s_iret), (32, s_aload 0 33), (33, s_get 2 0 36), (36, s_pushI 42 38), (38, s_callV 6 80 1 1 41), (41, s_if (fun x => x = 0) 48 44), (44, s_pushI 11002 47), (47, s_iret), (48, s_aload 0 49), (49, s_get 2 0 52), (52, s_pushI 47 54), (54, s_callV 6 80 1 1 57), (57, s_if (fun x => x = 0) 66 60), (60, s_pushI 11003 63), (63, s_goto 67), (66, s_pushI (-1) 67), (67, s_iret)]
set_option maxRecDepth 100000 in
set_option maxHeartbeats 4000000 in
theorem ok_X2_deedHere (l : Launch) : mm_CodeOK l mm_I0 RX2 cX2_deedHere 1 (some .int) cd_X2_deedHere := by
  intro p e R s m args below meth c Q σ cA D A kc ks d C X
  have hx := X.1
  have hb := X.2.1
  have hown := X.2.2.2.1
  have hts := X.2.2.2.2.1
  refine mm_fc (ss_aload_n hx hb (by decide +kernel : decode cX2_deedHere 0 = .ok (.aload_n 0, 1)) rfl) ?_
  refine mm_fc (ss_get X rfl in_X2 (by decide) rfl wd_1_124 (by decide +kernel : decode cX2_deedHere 1 = .ok (.getfield 15, 3))) ?_
  refine mm_fc (ss_bipush hx hb (by decide +kernel : decode cX2_deedHere 4 = .ok (.bipush 43, 2)) (by decide)) ?_
  refine mm_fc (ss_callV X rfl rfl wd_3_73 wd_1_3 wd_3_186 wd_3_71 wd_3_72 (by decide +kernel) (by decide +kernel) (by decide) (by decide +kernel : decode cX2_deedHere 6 = .ok (.invokevirtual 62, 3))) ?_
  refine mm_fc (ss_ifeq hx hb (by decide +kernel : decode cX2_deedHere 9 = .ok (.ifCond .eq 7, 3)) (by decide)) ?_
  refine mm_fc (ss_sipush hx hb (by decide +kernel : decode cX2_deedHere 12 = .ok (.sipush 11000, 3)) (by decide)) ?_
  refine mm_fc (ss_iret (by decide +kernel : decode cX2_deedHere 15 = .ok (.ireturn, 1)) rfl) ?_
  refine mm_fc (ss_aload_n hx hb (by decide +kernel : decode cX2_deedHere 16 = .ok (.aload_n 0, 1)) rfl) ?_
  refine mm_fc (ss_get X rfl in_X2 (by decide) rfl wd_1_124 (by decide +kernel : decode cX2_deedHere 17 = .ok (.getfield 15, 3))) ?_
  refine mm_fc (ss_bipush hx hb (by decide +kernel : decode cX2_deedHere 20 = .ok (.bipush 45, 2)) (by decide)) ?_
  refine mm_fc (ss_callV X rfl rfl wd_3_73 wd_1_3 wd_3_186 wd_3_71 wd_3_72 (by decide +kernel) (by decide +kernel) (by decide) (by decide +kernel : decode cX2_deedHere 22 = .ok (.invokevirtual 62, 3))) ?_
  refine mm_fc (ss_ifeq hx hb (by decide +kernel : decode cX2_deedHere 25 = .ok (.ifCond .eq 7, 3)) (by decide)) ?_
  refine mm_fc (ss_sipush hx hb (by decide +kernel : decode cX2_deedHere 28 = .ok (.sipush 11001, 3)) (by decide)) ?_
  refine mm_fc (ss_iret (by decide +kernel : decode cX2_deedHere 31 = .ok (.ireturn, 1)) rfl) ?_
  refine mm_fc (ss_aload_n hx hb (by decide +kernel : decode cX2_deedHere 32 = .ok (.aload_n 0, 1)) rfl) ?_
  refine mm_fc (ss_get X rfl in_X2 (by decide) rfl wd_1_124 (by decide +kernel : decode cX2_deedHere 33 = .ok (.getfield 15, 3))) ?_
  refine mm_fc (ss_bipush hx hb (by decide +kernel : decode cX2_deedHere 36 = .ok (.bipush 42, 2)) (by decide)) ?_
  refine mm_fc (ss_callV X rfl rfl wd_3_73 wd_1_3 wd_3_186 wd_3_71 wd_3_72 (by decide +kernel) (by decide +kernel) (by decide) (by decide +kernel : decode cX2_deedHere 38 = .ok (.invokevirtual 62, 3))) ?_
  refine mm_fc (ss_ifeq hx hb (by decide +kernel : decode cX2_deedHere 41 = .ok (.ifCond .eq 7, 3)) (by decide)) ?_
  refine mm_fc (ss_sipush hx hb (by decide +kernel : decode cX2_deedHere 44 = .ok (.sipush 11002, 3)) (by decide)) ?_
  refine mm_fc (ss_iret (by decide +kernel : decode cX2_deedHere 47 = .ok (.ireturn, 1)) rfl) ?_
  refine mm_fc (ss_aload_n hx hb (by decide +kernel : decode cX2_deedHere 48 = .ok (.aload_n 0, 1)) rfl) ?_
  refine mm_fc (ss_get X rfl in_X2 (by decide) rfl wd_1_124 (by decide +kernel : decode cX2_deedHere 49 = .ok (.getfield 15, 3))) ?_
  refine mm_fc (ss_bipush hx hb (by decide +kernel : decode cX2_deedHere 52 = .ok (.bipush 47, 2)) (by decide)) ?_
  refine mm_fc (ss_callV X rfl rfl wd_3_73 wd_1_3 wd_3_186 wd_3_71 wd_3_72 (by decide +kernel) (by decide +kernel) (by decide) (by decide +kernel : decode cX2_deedHere 54 = .ok (.invokevirtual 62, 3))) ?_
  refine mm_fc (ss_ifeq hx hb (by decide +kernel : decode cX2_deedHere 57 = .ok (.ifCond .eq 9, 3)) (by decide)) ?_
  refine mm_fc (ss_sipush hx hb (by decide +kernel : decode cX2_deedHere 60 = .ok (.sipush 11003, 3)) (by decide)) ?_
  refine mm_fc (ss_goto hx hb (by decide +kernel : decode cX2_deedHere 63 = .ok (.goto 4, 3)) (by decide)) ?_
  refine mm_fc (ss_iconst hx hb (by decide +kernel : decode cX2_deedHere 66 = .ok (.iconst (-1), 1)) (by decide)) ?_
  refine mm_fc (ss_iret (by decide +kernel : decode cX2_deedHere 67 = .ok (.ireturn, 1)) rfl) ?_
  exact mm_fn
def cd_X2_readPart : mm_K mm_H := [(0, s_aload 0 1), (1, s_get 2 0 4), (4, s_callV 6 78 0 1 7), (7, s_if (fun x => x = 0) 15 10), (10, s_aload 0 11), (11, s_callV 2 55 0 1 14), (14, s_zret), (15, s_aload 0 16), (16, s_get 2 0 19), (19, s_pushI 40 21), (21, s_callV 6 80 1 1 24), (24, s_if (fun x => x = 0) 33 27), (27, s_aload 0 28), (28, s_iload 1 29), (29, s_callV 2 56 1 1 32), (32, s_zret), (33, s_aload 0 34), (34, s_get 2 0 37), (37, s_callV 6 77 0 1 40), (40, s_if (fun x => ¬ x = 0) 51 43), (43, s_aload 0 44), (44, s_get 2 0 47), (47, s_callV 6 88 0 1 50), (50, s_zret), (51, s_aload 0 52), (52, s_get 2 0 55), (55, s_get 6 4 58), (58, s_istore 2 59), (59, s_aload 0 60), (60, s_iload 2 61), (61, s_callV 2 59 1 1 64), (64, s_if (fun x => x = 0) 88 67), (67, s_aload 0 68), (68, s_get 2 1 71), (71, s_pushI 10000 74), (74, s_iload 2 75), (75, s_bin (fun x y => x + y) 76), (76, s_callV 1 37 1 0 79), (79, s_aload 0 80), (80, s_get 2 0 83), (83, s_callV 6 75 0 0 86), (86, s_pushI 1 87), (87, s_zret), (88, s_iload 2 89), (89, s_pushI 23 91), (91, s_icmp (fun x y => x = y) 100 94), (94, s_iload 2 95), (95, s_pushI 24 97), (97, s_icmp (fun x y => ¬ x = y) 121 100), (100, s_aload 0 101), (101, s_iload 1 102), (102, s_iload 2 103), (103, s_pushI 23 105), (105, s_icmp (fun x y => ¬ x = y) 114 108), (108, s_pushI 11007 111), (111, s_goto 117), (114, s_pushI 11008 117), (117, s_callV 2 57 2 1 120), (120, s_zret), (121, s_aload 0 122), (122, s_get 2 2 125), (125, s_pushI 3 126), (126, s_icmp (fun x y => ¬ x = y) 160 129), (129, s_iload 2 130), (130, s_pushI 5 131), (131, s_icmp (fun x y => x = y) 140 134), (134, s_iload 2 135), (135, s_pushI 14 137), (137, s_icmp (fun x y => ¬ x = y) 160 140), (140, s_aload 0 141), (141, s_iload 1 142), (142, s_iload 2 143), (143, s_pushI 5 144), (144, s_icmp (fun x y => ¬ x = y) 153 147), (147, s_pushI 11012 150), (150, s_goto 156), (153, s_pushI 11013 156), (156, s_callV 2 58 2 1 159), (159, s_zret), (160, s_aload 0 161), (161, s_get 2 0 164), (164, s_callV 6 88 0 1 167), (167, s_zret)]
set_option maxRecDepth 100000 in
set_option maxHeartbeats 4000000 in
theorem ok_X2_readPart (l : Launch) : mm_CodeOK l mm_I0 RX2 cX2_readPart 3 (some .boolean) cd_X2_readPart := by
  intro p e R s m args below meth c Q σ cA D A kc ks d C X
  have hx := X.1
  have hb := X.2.1
  have hown := X.2.2.2.1
  have hts := X.2.2.2.2.1
  refine mm_fc (ss_aload_n hx hb (by decide +kernel : decode cX2_readPart 0 = .ok (.aload_n 0, 1)) rfl) ?_
  refine mm_fc (ss_get X rfl in_X2 (by decide) rfl wd_1_124 (by decide +kernel : decode cX2_readPart 1 = .ok (.getfield 15, 3))) ?_
  refine mm_fc (ss_callV X rfl rfl wd_3_203 wd_1_3 wd_3_200 wd_3_201 wd_3_202 (by decide +kernel) (by decide +kernel) (by decide) (by decide +kernel : decode cX2_readPart 4 = .ok (.invokevirtual 89, 3))) ?_
  refine mm_fc (ss_ifeq hx hb (by decide +kernel : decode cX2_readPart 7 = .ok (.ifCond .eq 8, 3)) (by decide)) ?_
  refine mm_fc (ss_aload_n hx hb (by decide +kernel : decode cX2_readPart 10 = .ok (.aload_n 0, 1)) rfl) ?_
  refine mm_fc (ss_callV X rfl rfl wd_3_207 wd_1_6 wd_3_204 wd_3_206 wd_p_18 (by decide +kernel) (by decide +kernel) (by decide) (by decide +kernel : decode cX2_readPart 11 = .ok (.invokevirtual 92, 3))) ?_
  refine mm_fc (ss_zret (by decide +kernel : decode cX2_readPart 14 = .ok (.ireturn, 1)) rfl) ?_
  refine mm_fc (ss_aload_n hx hb (by decide +kernel : decode cX2_readPart 15 = .ok (.aload_n 0, 1)) rfl) ?_
  refine mm_fc (ss_get X rfl in_X2 (by decide) rfl wd_1_124 (by decide +kernel : decode cX2_readPart 16 = .ok (.getfield 15, 3))) ?_
  refine mm_fc (ss_bipush hx hb (by decide +kernel : decode cX2_readPart 19 = .ok (.bipush 40, 2)) (by decide)) ?_
  refine mm_fc (ss_callV X rfl rfl wd_3_73 wd_1_3 wd_3_186 wd_3_71 wd_3_72 (by decide +kernel) (by decide +kernel) (by decide) (by decide +kernel : decode cX2_readPart 21 = .ok (.invokevirtual 62, 3))) ?_
  refine mm_fc (ss_ifeq hx hb (by decide +kernel : decode cX2_readPart 24 = .ok (.ifCond .eq 9, 3)) (by decide)) ?_
  refine mm_fc (ss_aload_n hx hb (by decide +kernel : decode cX2_readPart 27 = .ok (.aload_n 0, 1)) rfl) ?_
  refine mm_fc (ss_iload_n hx hb (by decide +kernel : decode cX2_readPart 28 = .ok (.iload_n 1, 1)) rfl) ?_
  refine mm_fc (ss_callV X rfl rfl wd_3_212 wd_1_6 wd_3_209 wd_3_211 wd_p_19 (by decide +kernel) (by decide +kernel) (by decide) (by decide +kernel : decode cX2_readPart 29 = .ok (.invokevirtual 95, 3))) ?_
  refine mm_fc (ss_zret (by decide +kernel : decode cX2_readPart 32 = .ok (.ireturn, 1)) rfl) ?_
  refine mm_fc (ss_aload_n hx hb (by decide +kernel : decode cX2_readPart 33 = .ok (.aload_n 0, 1)) rfl) ?_
  refine mm_fc (ss_get X rfl in_X2 (by decide) rfl wd_1_124 (by decide +kernel : decode cX2_readPart 34 = .ok (.getfield 15, 3))) ?_
  refine mm_fc (ss_callV X rfl rfl wd_3_85 wd_1_3 wd_3_213 wd_3_83 wd_3_84 (by decide +kernel) (by decide +kernel) (by decide) (by decide +kernel : decode cX2_readPart 37 = .ok (.invokevirtual 98, 3))) ?_
  refine mm_fc (ss_ifne hx hb (by decide +kernel : decode cX2_readPart 40 = .ok (.ifCond .ne 11, 3)) (by decide)) ?_
  refine mm_fc (ss_aload_n hx hb (by decide +kernel : decode cX2_readPart 43 = .ok (.aload_n 0, 1)) rfl) ?_
  refine mm_fc (ss_get X rfl in_X2 (by decide) rfl wd_1_124 (by decide +kernel : decode cX2_readPart 44 = .ok (.getfield 15, 3))) ?_
  refine mm_fc (ss_callV X rfl rfl wd_3_49 wd_1_3 wd_3_214 wd_3_47 wd_3_48 (by decide +kernel) (by decide +kernel) (by decide) (by decide +kernel : decode cX2_readPart 47 = .ok (.invokevirtual 73, 3))) ?_
  refine mm_fc (ss_zret (by decide +kernel : decode cX2_readPart 50 = .ok (.ireturn, 1)) rfl) ?_
  refine mm_fc (ss_aload_n hx hb (by decide +kernel : decode cX2_readPart 51 = .ok (.aload_n 0, 1)) rfl) ?_
  refine mm_fc (ss_get X rfl in_X2 (by decide) rfl wd_1_124 (by decide +kernel : decode cX2_readPart 52 = .ok (.getfield 15, 3))) ?_
  refine mm_fc (ss_getN X rfl in_X6 (by decide) rfl wd_1_56 (by decide +kernel : decode cX2_readPart 55 = .ok (.getfield 101, 3))) ?_
  refine mm_fc (ss_istore_n hx hb (by decide +kernel : decode cX2_readPart 58 = .ok (.istore_n 2, 1)) rfl (by decide)) ?_
  refine mm_fc (ss_aload_n hx hb (by decide +kernel : decode cX2_readPart 59 = .ok (.aload_n 0, 1)) rfl) ?_
  refine mm_fc (ss_iload_n hx hb (by decide +kernel : decode cX2_readPart 60 = .ok (.iload_n 2, 1)) rfl) ?_
  refine mm_fc (ss_callV X rfl rfl wd_3_218 wd_1_6 wd_3_215 wd_3_217 wd_p_20 (by decide +kernel) (by decide +kernel) (by decide) (by decide +kernel : decode cX2_readPart 61 = .ok (.invokevirtual 104, 3))) ?_
  refine mm_fc (ss_ifeq hx hb (by decide +kernel : decode cX2_readPart 64 = .ok (.ifCond .eq 24, 3)) (by decide)) ?_
  refine mm_fc (ss_aload_n hx hb (by decide +kernel : decode cX2_readPart 67 = .ok (.aload_n 0, 1)) rfl) ?_
  refine mm_fc (ss_get X rfl in_X2 (by decide) rfl wd_1_125 (by decide +kernel : decode cX2_readPart 68 = .ok (.getfield 19, 3))) ?_
  refine mm_fc (ss_sipush hx hb (by decide +kernel : decode cX2_readPart 71 = .ok (.sipush 10000, 3)) (by decide)) ?_
  refine mm_fc (ss_iload_n hx hb (by decide +kernel : decode cX2_readPart 74 = .ok (.iload_n 2, 1)) rfl) ?_
  refine mm_fc (ss_iadd hx hb (by decide +kernel : decode cX2_readPart 75 = .ok (.iadd, 1))) ?_
  refine mm_fc (ss_callV X rfl rfl wd_3_185 wd_1_5 wd_3_182 wd_3_183 wd_3_184 (by decide +kernel) (by decide +kernel) (by decide) (by decide +kernel : decode cX2_readPart 76 = .ok (.invokevirtual 56, 3))) ?_
  refine mm_fc (ss_aload_n hx hb (by decide +kernel : decode cX2_readPart 79 = .ok (.aload_n 0, 1)) rfl) ?_
  refine mm_fc (ss_get X rfl in_X2 (by decide) rfl wd_1_124 (by decide +kernel : decode cX2_readPart 80 = .ok (.getfield 15, 3))) ?_
  refine mm_fc (ss_callV X rfl rfl wd_2_189 wd_1_3 wd_3_160 wd_2_187 wd_2_188 (by decide +kernel) (by decide +kernel) (by decide) (by decide +kernel : decode cX2_readPart 83 = .ok (.invokevirtual 34, 3))) ?_
  refine mm_fc (ss_iconst hx hb (by decide +kernel : decode cX2_readPart 86 = .ok (.iconst 1, 1)) (by decide)) ?_
  refine mm_fc (ss_zret (by decide +kernel : decode cX2_readPart 87 = .ok (.ireturn, 1)) rfl) ?_
  refine mm_fc (ss_iload_n hx hb (by decide +kernel : decode cX2_readPart 88 = .ok (.iload_n 2, 1)) rfl) ?_
  refine mm_fc (ss_bipush hx hb (by decide +kernel : decode cX2_readPart 89 = .ok (.bipush 23, 2)) (by decide)) ?_
  refine mm_fc (ss_icmpeq hx hb (by decide +kernel : decode cX2_readPart 91 = .ok (.if_icmp .eq 9, 3)) (by decide)) ?_
  refine mm_fc (ss_iload_n hx hb (by decide +kernel : decode cX2_readPart 94 = .ok (.iload_n 2, 1)) rfl) ?_
  refine mm_fc (ss_bipush hx hb (by decide +kernel : decode cX2_readPart 95 = .ok (.bipush 24, 2)) (by decide)) ?_
  refine mm_fc (ss_icmpne hx hb (by decide +kernel : decode cX2_readPart 97 = .ok (.if_icmp .ne 24, 3)) (by decide)) ?_
  refine mm_fc (ss_aload_n hx hb (by decide +kernel : decode cX2_readPart 100 = .ok (.aload_n 0, 1)) rfl) ?_
  refine mm_fc (ss_iload_n hx hb (by decide +kernel : decode cX2_readPart 101 = .ok (.iload_n 1, 1)) rfl) ?_
  refine mm_fc (ss_iload_n hx hb (by decide +kernel : decode cX2_readPart 102 = .ok (.iload_n 2, 1)) rfl) ?_
  refine mm_fc (ss_bipush hx hb (by decide +kernel : decode cX2_readPart 103 = .ok (.bipush 23, 2)) (by decide)) ?_
  refine mm_fc (ss_icmpne hx hb (by decide +kernel : decode cX2_readPart 105 = .ok (.if_icmp .ne 9, 3)) (by decide)) ?_
  refine mm_fc (ss_sipush hx hb (by decide +kernel : decode cX2_readPart 108 = .ok (.sipush 11007, 3)) (by decide)) ?_
  refine mm_fc (ss_goto hx hb (by decide +kernel : decode cX2_readPart 111 = .ok (.goto 6, 3)) (by decide)) ?_
  refine mm_fc (ss_sipush hx hb (by decide +kernel : decode cX2_readPart 114 = .ok (.sipush 11008, 3)) (by decide)) ?_
  refine mm_fc (ss_callV X rfl rfl wd_3_222 wd_1_6 wd_3_219 wd_3_221 wd_p_21 (by decide +kernel) (by decide +kernel) (by decide) (by decide +kernel : decode cX2_readPart 117 = .ok (.invokevirtual 107, 3))) ?_
  refine mm_fc (ss_zret (by decide +kernel : decode cX2_readPart 120 = .ok (.ireturn, 1)) rfl) ?_
  refine mm_fc (ss_aload_n hx hb (by decide +kernel : decode cX2_readPart 121 = .ok (.aload_n 0, 1)) rfl) ?_
  refine mm_fc (ss_get X rfl in_X2 (by decide) rfl wd_1_126 (by decide +kernel : decode cX2_readPart 122 = .ok (.getfield 9, 3))) ?_
  refine mm_fc (ss_iconst hx hb (by decide +kernel : decode cX2_readPart 125 = .ok (.iconst 3, 1)) (by decide)) ?_
  refine mm_fc (ss_icmpne hx hb (by decide +kernel : decode cX2_readPart 126 = .ok (.if_icmp .ne 34, 3)) (by decide)) ?_
  refine mm_fc (ss_iload_n hx hb (by decide +kernel : decode cX2_readPart 129 = .ok (.iload_n 2, 1)) rfl) ?_
  refine mm_fc (ss_iconst hx hb (by decide +kernel : decode cX2_readPart 130 = .ok (.iconst 5, 1)) (by decide)) ?_
  refine mm_fc (ss_icmpeq hx hb (by decide +kernel : decode cX2_readPart 131 = .ok (.if_icmp .eq 9, 3)) (by decide)) ?_
  refine mm_fc (ss_iload_n hx hb (by decide +kernel : decode cX2_readPart 134 = .ok (.iload_n 2, 1)) rfl) ?_
  refine mm_fc (ss_bipush hx hb (by decide +kernel : decode cX2_readPart 135 = .ok (.bipush 14, 2)) (by decide)) ?_
  refine mm_fc (ss_icmpne hx hb (by decide +kernel : decode cX2_readPart 137 = .ok (.if_icmp .ne 23, 3)) (by decide)) ?_
  refine mm_fc (ss_aload_n hx hb (by decide +kernel : decode cX2_readPart 140 = .ok (.aload_n 0, 1)) rfl) ?_
  refine mm_fc (ss_iload_n hx hb (by decide +kernel : decode cX2_readPart 141 = .ok (.iload_n 1, 1)) rfl) ?_
  refine mm_fc (ss_iload_n hx hb (by decide +kernel : decode cX2_readPart 142 = .ok (.iload_n 2, 1)) rfl) ?_
  refine mm_fc (ss_iconst hx hb (by decide +kernel : decode cX2_readPart 143 = .ok (.iconst 5, 1)) (by decide)) ?_
  refine mm_fc (ss_icmpne hx hb (by decide +kernel : decode cX2_readPart 144 = .ok (.if_icmp .ne 9, 3)) (by decide)) ?_
  refine mm_fc (ss_sipush hx hb (by decide +kernel : decode cX2_readPart 147 = .ok (.sipush 11012, 3)) (by decide)) ?_
  refine mm_fc (ss_goto hx hb (by decide +kernel : decode cX2_readPart 150 = .ok (.goto 6, 3)) (by decide)) ?_
  refine mm_fc (ss_sipush hx hb (by decide +kernel : decode cX2_readPart 153 = .ok (.sipush 11013, 3)) (by decide)) ?_
  refine mm_fc (ss_callV X rfl rfl wd_3_226 wd_1_6 wd_3_223 wd_3_225 wd_p_22 (by decide +kernel) (by decide +kernel) (by decide) (by decide +kernel : decode cX2_readPart 156 = .ok (.invokevirtual 111, 3))) ?_
  refine mm_fc (ss_zret (by decide +kernel : decode cX2_readPart 159 = .ok (.ireturn, 1)) rfl) ?_
  refine mm_fc (ss_aload_n hx hb (by decide +kernel : decode cX2_readPart 160 = .ok (.aload_n 0, 1)) rfl) ?_
  refine mm_fc (ss_get X rfl in_X2 (by decide) rfl wd_1_124 (by decide +kernel : decode cX2_readPart 161 = .ok (.getfield 15, 3))) ?_
  refine mm_fc (ss_callV X rfl rfl wd_3_49 wd_1_3 wd_3_214 wd_3_47 wd_3_48 (by decide +kernel) (by decide +kernel) (by decide) (by decide +kernel : decode cX2_readPart 164 = .ok (.invokevirtual 73, 3))) ?_
  refine mm_fc (ss_zret (by decide +kernel : decode cX2_readPart 167 = .ok (.ireturn, 1)) rfl) ?_
  exact mm_fn
def cd_X2_readNumber : mm_K mm_H := [(0, s_aload 0 1), (1, s_get 2 0 4), (4, s_pushI 0 5), (5, s_pushI 9999 8), (8, s_callV 6 83 2 1 11), (11, s_if (fun x => ¬ x = 0) 16 14), (14, s_pushI 0 15), (15, s_zret), (16, s_aload 0 17), (17, s_get 2 1 20), (20, s_aload 0 21), (21, s_get 2 0 24), (24, s_get 6 4 27), (27, s_callV 1 37 1 0 30), (30, s_aload 0 31), (31, s_get 2 0 34), (34, s_callV 6 75 0 0 37), (37, s_pushI 1 38), (38, s_zret)]
set_option maxRecDepth 100000 in
set_option maxHeartbeats 4000000 in
theorem ok_X2_readNumber (l : Launch) : mm_CodeOK l mm_I0 RX2 cX2_readNumber 1 (some .boolean) cd_X2_readNumber := by
  intro p e R s m args below meth c Q σ cA D A kc ks d C X
  have hx := X.1
  have hb := X.2.1
  have hown := X.2.2.2.1
  have hts := X.2.2.2.2.1
  refine mm_fc (ss_aload_n hx hb (by decide +kernel : decode cX2_readNumber 0 = .ok (.aload_n 0, 1)) rfl) ?_
  refine mm_fc (ss_get X rfl in_X2 (by decide) rfl wd_1_124 (by decide +kernel : decode cX2_readNumber 1 = .ok (.getfield 15, 3))) ?_
  refine mm_fc (ss_iconst hx hb (by decide +kernel : decode cX2_readNumber 4 = .ok (.iconst 0, 1)) (by decide)) ?_
  refine mm_fc (ss_sipush hx hb (by decide +kernel : decode cX2_readNumber 5 = .ok (.sipush 9999, 3)) (by decide)) ?_
  refine mm_fc (ss_callV X rfl rfl wd_3_57 wd_1_3 wd_3_208 wd_3_55 wd_3_56 (by decide +kernel) (by decide +kernel) (by decide) (by decide +kernel : decode cX2_readNumber 8 = .ok (.invokevirtual 114, 3))) ?_
  refine mm_fc (ss_ifne hx hb (by decide +kernel : decode cX2_readNumber 11 = .ok (.ifCond .ne 5, 3)) (by decide)) ?_
  refine mm_fc (ss_iconst hx hb (by decide +kernel : decode cX2_readNumber 14 = .ok (.iconst 0, 1)) (by decide)) ?_
  refine mm_fc (ss_zret (by decide +kernel : decode cX2_readNumber 15 = .ok (.ireturn, 1)) rfl) ?_
  refine mm_fc (ss_aload_n hx hb (by decide +kernel : decode cX2_readNumber 16 = .ok (.aload_n 0, 1)) rfl) ?_
  refine mm_fc (ss_get X rfl in_X2 (by decide) rfl wd_1_125 (by decide +kernel : decode cX2_readNumber 17 = .ok (.getfield 19, 3))) ?_
  refine mm_fc (ss_aload_n hx hb (by decide +kernel : decode cX2_readNumber 20 = .ok (.aload_n 0, 1)) rfl) ?_
  refine mm_fc (ss_get X rfl in_X2 (by decide) rfl wd_1_124 (by decide +kernel : decode cX2_readNumber 21 = .ok (.getfield 15, 3))) ?_
  refine mm_fc (ss_getN X rfl in_X6 (by decide) rfl wd_1_56 (by decide +kernel : decode cX2_readNumber 24 = .ok (.getfield 101, 3))) ?_
  refine mm_fc (ss_callV X rfl rfl wd_3_185 wd_1_5 wd_3_182 wd_3_183 wd_3_184 (by decide +kernel) (by decide +kernel) (by decide) (by decide +kernel : decode cX2_readNumber 27 = .ok (.invokevirtual 56, 3))) ?_
  refine mm_fc (ss_aload_n hx hb (by decide +kernel : decode cX2_readNumber 30 = .ok (.aload_n 0, 1)) rfl) ?_
  refine mm_fc (ss_get X rfl in_X2 (by decide) rfl wd_1_124 (by decide +kernel : decode cX2_readNumber 31 = .ok (.getfield 15, 3))) ?_
  refine mm_fc (ss_callV X rfl rfl wd_2_189 wd_1_3 wd_3_160 wd_2_187 wd_2_188 (by decide +kernel) (by decide +kernel) (by decide) (by decide +kernel : decode cX2_readNumber 34 = .ok (.invokevirtual 34, 3))) ?_
  refine mm_fc (ss_iconst hx hb (by decide +kernel : decode cX2_readNumber 37 = .ok (.iconst 1, 1)) (by decide)) ?_
  refine mm_fc (ss_zret (by decide +kernel : decode cX2_readNumber 38 = .ok (.ireturn, 1)) rfl) ?_
  exact mm_fn
def cd_X2_readInnerSum : mm_K mm_H := [(0, s_aload 0 1), (1, s_get 2 0 4), (4, s_iload 1 5), (5, s_callV 6 87 1 1 8), (8, s_if (fun x => ¬ x = 0) 13 11), (11, s_pushI 0 12), (12, s_zret), (13, s_aload 0 14), (14, s_get 2 0 17), (17, s_callV 6 75 0 0 20), (20, s_aload 0 21), (21, s_iload 1 22), (22, s_pushI 1 23), (23, s_bin (fun x y => x + y) 24), (24, s_callV 2 52 1 1 27), (27, s_if (fun x => x = 0) 46 30), (30, s_aload 0 31), (31, s_get 2 0 34), (34, s_pushI 41 36), (36, s_callV 6 82 1 1 39), (39, s_if (fun x => x = 0) 46 42), (42, s_pushI 1 43), (43, s_goto 47), (46, s_pushI 0 47), (47, s_zret)]
set_option maxRecDepth 100000 in
set_option maxHeartbeats 4000000 in
theorem ok_X2_readInnerSum (l : Launch) : mm_CodeOK l mm_I0 RX2 cX2_readInnerSum 2 (some .boolean) cd_X2_readInnerSum := by
  intro p e R s m args below meth c Q σ cA D A kc ks d C X
  have hx := X.1
  have hb := X.2.1
  have hown := X.2.2.2.1
  have hts := X.2.2.2.2.1
  refine mm_fc (ss_aload_n hx hb (by decide +kernel : decode cX2_readInnerSum 0 = .ok (.aload_n 0, 1)) rfl) ?_
  refine mm_fc (ss_get X rfl in_X2 (by decide) rfl wd_1_124 (by decide +kernel : decode cX2_readInnerSum 1 = .ok (.getfield 15, 3))) ?_
  refine mm_fc (ss_iload_n hx hb (by decide +kernel : decode cX2_readInnerSum 4 = .ok (.iload_n 1, 1)) rfl) ?_
  refine mm_fc (ss_callV X rfl rfl wd_3_181 wd_1_3 wd_3_178 wd_3_179 wd_3_180 (by decide +kernel) (by decide +kernel) (by decide) (by decide +kernel : decode cX2_readInnerSum 5 = .ok (.invokevirtual 77, 3))) ?_
  refine mm_fc (ss_ifne hx hb (by decide +kernel : decode cX2_readInnerSum 8 = .ok (.ifCond .ne 5, 3)) (by decide)) ?_
  refine mm_fc (ss_iconst hx hb (by decide +kernel : decode cX2_readInnerSum 11 = .ok (.iconst 0, 1)) (by decide)) ?_
  refine mm_fc (ss_zret (by decide +kernel : decode cX2_readInnerSum 12 = .ok (.ireturn, 1)) rfl) ?_
  refine mm_fc (ss_aload_n hx hb (by decide +kernel : decode cX2_readInnerSum 13 = .ok (.aload_n 0, 1)) rfl) ?_
  refine mm_fc (ss_get X rfl in_X2 (by decide) rfl wd_1_124 (by decide +kernel : decode cX2_readInnerSum 14 = .ok (.getfield 15, 3))) ?_
  refine mm_fc (ss_callV X rfl rfl wd_2_189 wd_1_3 wd_3_160 wd_2_187 wd_2_188 (by decide +kernel) (by decide +kernel) (by decide) (by decide +kernel : decode cX2_readInnerSum 17 = .ok (.invokevirtual 34, 3))) ?_
  refine mm_fc (ss_aload_n hx hb (by decide +kernel : decode cX2_readInnerSum 20 = .ok (.aload_n 0, 1)) rfl) ?_
  refine mm_fc (ss_iload_n hx hb (by decide +kernel : decode cX2_readInnerSum 21 = .ok (.iload_n 1, 1)) rfl) ?_
  refine mm_fc (ss_iconst hx hb (by decide +kernel : decode cX2_readInnerSum 22 = .ok (.iconst 1, 1)) (by decide)) ?_
  refine mm_fc (ss_iadd hx hb (by decide +kernel : decode cX2_readInnerSum 23 = .ok (.iadd, 1))) ?_
  refine mm_fc (ss_callV X rfl rfl wd_3_195 wd_1_6 wd_3_192 wd_3_194 wd_p_16 (by decide +kernel) (by decide +kernel) (by decide) (by decide +kernel : decode cX2_readInnerSum 24 = .ok (.invokevirtual 44, 3))) ?_
  refine mm_fc (ss_ifeq hx hb (by decide +kernel : decode cX2_readInnerSum 27 = .ok (.ifCond .eq 19, 3)) (by decide)) ?_
  refine mm_fc (ss_aload_n hx hb (by decide +kernel : decode cX2_readInnerSum 30 = .ok (.aload_n 0, 1)) rfl) ?_
  refine mm_fc (ss_get X rfl in_X2 (by decide) rfl wd_1_124 (by decide +kernel : decode cX2_readInnerSum 31 = .ok (.getfield 15, 3))) ?_
  refine mm_fc (ss_bipush hx hb (by decide +kernel : decode cX2_readInnerSum 34 = .ok (.bipush 41, 2)) (by decide)) ?_
  refine mm_fc (ss_callV X rfl rfl wd_3_69 wd_1_3 wd_3_191 wd_3_67 wd_3_68 (by decide +kernel) (by decide +kernel) (by decide) (by decide +kernel : decode cX2_readInnerSum 36 = .ok (.invokevirtual 80, 3))) ?_
  refine mm_fc (ss_ifeq hx hb (by decide +kernel : decode cX2_readInnerSum 39 = .ok (.ifCond .eq 7, 3)) (by decide)) ?_
  refine mm_fc (ss_iconst hx hb (by decide +kernel : decode cX2_readInnerSum 42 = .ok (.iconst 1, 1)) (by decide)) ?_
  refine mm_fc (ss_goto hx hb (by decide +kernel : decode cX2_readInnerSum 43 = .ok (.goto 4, 3)) (by decide)) ?_
  refine mm_fc (ss_iconst hx hb (by decide +kernel : decode cX2_readInnerSum 46 = .ok (.iconst 0, 1)) (by decide)) ?_
  refine mm_fc (ss_zret (by decide +kernel : decode cX2_readInnerSum 47 = .ok (.ireturn, 1)) rfl) ?_
  exact mm_fn
def cd_X2_readPair : mm_K mm_H := [(0, s_aload 0 1), (1, s_get 2 0 4), (4, s_callV 6 75 0 0 7), (7, s_aload 0 8), (8, s_get 2 0 11), (11, s_pushI 40 13), (13, s_callV 6 80 1 1 16), (16, s_if (fun x => ¬ x = 0) 27 19), (19, s_aload 0 20), (20, s_get 2 0 23), (23, s_callV 6 88 0 1 26), (26, s_zret), (27, s_aload 0 28), (28, s_get 2 0 31), (31, s_iload 1 32), (32, s_callV 6 87 1 1 35), (35, s_if (fun x => ¬ x = 0) 40 38), (38, s_pushI 0 39), (39, s_zret), (40, s_aload 0 41), (41, s_get 2 0 44), (44, s_callV 6 75 0 0 47), (47, s_aload 0 48), (48, s_iload 1 49), (49, s_pushI 1 50), (50, s_bin (fun x y => x + y) 51), (51, s_callV 2 52 1 1 54), (54, s_if (fun x => x = 0) 79 57), (57, s_aload 0 58), (58, s_get 2 0 61), (61, s_pushI 44 63), (63, s_callV 6 82 1 1 66), (66, s_if (fun x => x = 0) 79 69), (69, s_aload 0 70), (70, s_iload 1 71), (71, s_pushI 1 72), (72, s_bin (fun x y => x + y) 73), (73, s_callV 2 52 1 1 76), (76, s_if (fun x => ¬ x = 0) 81 79), (79, s_pushI 0 80), (80, s_zret), (81, s_aload 0 82), (82, s_get 2 1 85), (85, s_iload 2 86), (86, s_callV 1 37 1 0 89), (89, s_aload 0 90), (90, s_get 2 0 93), (93, s_pushI 41 95), (95, s_callV 6 82 1 1 98), (98, s_zret)]
set_option maxRecDepth 100000 in
set_option maxHeartbeats 4000000 in
theorem ok_X2_readPair (l : Launch) : mm_CodeOK l mm_I0 RX2 cX2_readPair 3 (some .boolean) cd_X2_readPair := by
  intro p e R s m args below meth c Q σ cA D A kc ks d C X
  have hx := X.1
  have hb := X.2.1
  have hown := X.2.2.2.1
  have hts := X.2.2.2.2.1
  refine mm_fc (ss_aload_n hx hb (by decide +kernel : decode cX2_readPair 0 = .ok (.aload_n 0, 1)) rfl) ?_
  refine mm_fc (ss_get X rfl in_X2 (by decide) rfl wd_1_124 (by decide +kernel : decode cX2_readPair 1 = .ok (.getfield 15, 3))) ?_
  refine mm_fc (ss_callV X rfl rfl wd_2_189 wd_1_3 wd_3_160 wd_2_187 wd_2_188 (by decide +kernel) (by decide +kernel) (by decide) (by decide +kernel : decode cX2_readPair 4 = .ok (.invokevirtual 34, 3))) ?_
  refine mm_fc (ss_aload_n hx hb (by decide +kernel : decode cX2_readPair 7 = .ok (.aload_n 0, 1)) rfl) ?_
  refine mm_fc (ss_get X rfl in_X2 (by decide) rfl wd_1_124 (by decide +kernel : decode cX2_readPair 8 = .ok (.getfield 15, 3))) ?_
  refine mm_fc (ss_bipush hx hb (by decide +kernel : decode cX2_readPair 11 = .ok (.bipush 40, 2)) (by decide)) ?_
  refine mm_fc (ss_callV X rfl rfl wd_3_73 wd_1_3 wd_3_186 wd_3_71 wd_3_72 (by decide +kernel) (by decide +kernel) (by decide) (by decide +kernel : decode cX2_readPair 13 = .ok (.invokevirtual 62, 3))) ?_
  refine mm_fc (ss_ifne hx hb (by decide +kernel : decode cX2_readPair 16 = .ok (.ifCond .ne 11, 3)) (by decide)) ?_
  refine mm_fc (ss_aload_n hx hb (by decide +kernel : decode cX2_readPair 19 = .ok (.aload_n 0, 1)) rfl) ?_
  refine mm_fc (ss_get X rfl in_X2 (by decide) rfl wd_1_124 (by decide +kernel : decode cX2_readPair 20 = .ok (.getfield 15, 3))) ?_
  refine mm_fc (ss_callV X rfl rfl wd_3_49 wd_1_3 wd_3_214 wd_3_47 wd_3_48 (by decide +kernel) (by decide +kernel) (by decide) (by decide +kernel : decode cX2_readPair 23 = .ok (.invokevirtual 73, 3))) ?_
  refine mm_fc (ss_zret (by decide +kernel : decode cX2_readPair 26 = .ok (.ireturn, 1)) rfl) ?_
  refine mm_fc (ss_aload_n hx hb (by decide +kernel : decode cX2_readPair 27 = .ok (.aload_n 0, 1)) rfl) ?_
  refine mm_fc (ss_get X rfl in_X2 (by decide) rfl wd_1_124 (by decide +kernel : decode cX2_readPair 28 = .ok (.getfield 15, 3))) ?_
  refine mm_fc (ss_iload_n hx hb (by decide +kernel : decode cX2_readPair 31 = .ok (.iload_n 1, 1)) rfl) ?_
  refine mm_fc (ss_callV X rfl rfl wd_3_181 wd_1_3 wd_3_178 wd_3_179 wd_3_180 (by decide +kernel) (by decide +kernel) (by decide) (by decide +kernel : decode cX2_readPair 32 = .ok (.invokevirtual 77, 3))) ?_
  refine mm_fc (ss_ifne hx hb (by decide +kernel : decode cX2_readPair 35 = .ok (.ifCond .ne 5, 3)) (by decide)) ?_
  refine mm_fc (ss_iconst hx hb (by decide +kernel : decode cX2_readPair 38 = .ok (.iconst 0, 1)) (by decide)) ?_
  refine mm_fc (ss_zret (by decide +kernel : decode cX2_readPair 39 = .ok (.ireturn, 1)) rfl) ?_
  refine mm_fc (ss_aload_n hx hb (by decide +kernel : decode cX2_readPair 40 = .ok (.aload_n 0, 1)) rfl) ?_
  refine mm_fc (ss_get X rfl in_X2 (by decide) rfl wd_1_124 (by decide +kernel : decode cX2_readPair 41 = .ok (.getfield 15, 3))) ?_
  refine mm_fc (ss_callV X rfl rfl wd_2_189 wd_1_3 wd_3_160 wd_2_187 wd_2_188 (by decide +kernel) (by decide +kernel) (by decide) (by decide +kernel : decode cX2_readPair 44 = .ok (.invokevirtual 34, 3))) ?_
  refine mm_fc (ss_aload_n hx hb (by decide +kernel : decode cX2_readPair 47 = .ok (.aload_n 0, 1)) rfl) ?_
  refine mm_fc (ss_iload_n hx hb (by decide +kernel : decode cX2_readPair 48 = .ok (.iload_n 1, 1)) rfl) ?_
  refine mm_fc (ss_iconst hx hb (by decide +kernel : decode cX2_readPair 49 = .ok (.iconst 1, 1)) (by decide)) ?_
  refine mm_fc (ss_iadd hx hb (by decide +kernel : decode cX2_readPair 50 = .ok (.iadd, 1))) ?_
  refine mm_fc (ss_callV X rfl rfl wd_3_195 wd_1_6 wd_3_192 wd_3_194 wd_p_16 (by decide +kernel) (by decide +kernel) (by decide) (by decide +kernel : decode cX2_readPair 51 = .ok (.invokevirtual 44, 3))) ?_
  refine mm_fc (ss_ifeq hx hb (by decide +kernel : decode cX2_readPair 54 = .ok (.ifCond .eq 25, 3)) (by decide)) ?_
  refine mm_fc (ss_aload_n hx hb (by decide +kernel : decode cX2_readPair 57 = .ok (.aload_n 0, 1)) rfl) ?_
  refine mm_fc (ss_get X rfl in_X2 (by decide) rfl wd_1_124 (by decide +kernel : decode cX2_readPair 58 = .ok (.getfield 15, 3))) ?_
  refine mm_fc (ss_bipush hx hb (by decide +kernel : decode cX2_readPair 61 = .ok (.bipush 44, 2)) (by decide)) ?_
  refine mm_fc (ss_callV X rfl rfl wd_3_69 wd_1_3 wd_3_191 wd_3_67 wd_3_68 (by decide +kernel) (by decide +kernel) (by decide) (by decide +kernel : decode cX2_readPair 63 = .ok (.invokevirtual 80, 3))) ?_
  refine mm_fc (ss_ifeq hx hb (by decide +kernel : decode cX2_readPair 66 = .ok (.ifCond .eq 13, 3)) (by decide)) ?_
  refine mm_fc (ss_aload_n hx hb (by decide +kernel : decode cX2_readPair 69 = .ok (.aload_n 0, 1)) rfl) ?_
  refine mm_fc (ss_iload_n hx hb (by decide +kernel : decode cX2_readPair 70 = .ok (.iload_n 1, 1)) rfl) ?_
  refine mm_fc (ss_iconst hx hb (by decide +kernel : decode cX2_readPair 71 = .ok (.iconst 1, 1)) (by decide)) ?_
  refine mm_fc (ss_iadd hx hb (by decide +kernel : decode cX2_readPair 72 = .ok (.iadd, 1))) ?_
  refine mm_fc (ss_callV X rfl rfl wd_3_195 wd_1_6 wd_3_192 wd_3_194 wd_p_16 (by decide +kernel) (by decide +kernel) (by decide) (by decide +kernel : decode cX2_readPair 73 = .ok (.invokevirtual 44, 3))) ?_
  refine mm_fc (ss_ifne hx hb (by decide +kernel : decode cX2_readPair 76 = .ok (.ifCond .ne 5, 3)) (by decide)) ?_
  refine mm_fc (ss_iconst hx hb (by decide +kernel : decode cX2_readPair 79 = .ok (.iconst 0, 1)) (by decide)) ?_
  refine mm_fc (ss_zret (by decide +kernel : decode cX2_readPair 80 = .ok (.ireturn, 1)) rfl) ?_
  refine mm_fc (ss_aload_n hx hb (by decide +kernel : decode cX2_readPair 81 = .ok (.aload_n 0, 1)) rfl) ?_
  refine mm_fc (ss_get X rfl in_X2 (by decide) rfl wd_1_125 (by decide +kernel : decode cX2_readPair 82 = .ok (.getfield 19, 3))) ?_
  refine mm_fc (ss_iload_n hx hb (by decide +kernel : decode cX2_readPair 85 = .ok (.iload_n 2, 1)) rfl) ?_
  refine mm_fc (ss_callV X rfl rfl wd_3_185 wd_1_5 wd_3_182 wd_3_183 wd_3_184 (by decide +kernel) (by decide +kernel) (by decide) (by decide +kernel : decode cX2_readPair 86 = .ok (.invokevirtual 56, 3))) ?_
  refine mm_fc (ss_aload_n hx hb (by decide +kernel : decode cX2_readPair 89 = .ok (.aload_n 0, 1)) rfl) ?_
  refine mm_fc (ss_get X rfl in_X2 (by decide) rfl wd_1_124 (by decide +kernel : decode cX2_readPair 90 = .ok (.getfield 15, 3))) ?_
  refine mm_fc (ss_bipush hx hb (by decide +kernel : decode cX2_readPair 93 = .ok (.bipush 41, 2)) (by decide)) ?_
  refine mm_fc (ss_callV X rfl rfl wd_3_69 wd_1_3 wd_3_191 wd_3_67 wd_3_68 (by decide +kernel) (by decide +kernel) (by decide) (by decide +kernel : decode cX2_readPair 95 = .ok (.invokevirtual 80, 3))) ?_
  refine mm_fc (ss_zret (by decide +kernel : decode cX2_readPair 98 = .ok (.ireturn, 1)) rfl) ?_
  exact mm_fn
def cd_X2_readOfPerson : mm_K mm_H := [(0, s_aload 0 1), (1, s_get 2 0 4), (4, s_iload 1 5), (5, s_callV 6 87 1 1 8), (8, s_if (fun x => ¬ x = 0) 13 11), (11, s_pushI 0 12), (12, s_zret), (13, s_aload 0 14), (14, s_get 2 0 17), (17, s_callV 6 75 0 0 20), (20, s_aload 0 21), (21, s_iload 1 22), (22, s_pushI 1 23), (23, s_bin (fun x y => x + y) 24), (24, s_callV 2 54 1 1 27), (27, s_istore 3 28), (28, s_aload 0 29), (29, s_get 2 1 32), (32, s_iload 2 33), (33, s_callV 1 37 1 0 36), (36, s_iload 3 37), (37, s_zret)]
set_option maxRecDepth 100000 in
set_option maxHeartbeats 4000000 in
theorem ok_X2_readOfPerson (l : Launch) : mm_CodeOK l mm_I0 RX2 cX2_readOfPerson 4 (some .boolean) cd_X2_readOfPerson := by
  intro p e R s m args below meth c Q σ cA D A kc ks d C X
  have hx := X.1
  have hb := X.2.1
  have hown := X.2.2.2.1
  have hts := X.2.2.2.2.1
  refine mm_fc (ss_aload_n hx hb (by decide +kernel : decode cX2_readOfPerson 0 = .ok (.aload_n 0, 1)) rfl) ?_
  refine mm_fc (ss_get X rfl in_X2 (by decide) rfl wd_1_124 (by decide +kernel : decode cX2_readOfPerson 1 = .ok (.getfield 15, 3))) ?_
  refine mm_fc (ss_iload_n hx hb (by decide +kernel : decode cX2_readOfPerson 4 = .ok (.iload_n 1, 1)) rfl) ?_
  refine mm_fc (ss_callV X rfl rfl wd_3_181 wd_1_3 wd_3_178 wd_3_179 wd_3_180 (by decide +kernel) (by decide +kernel) (by decide) (by decide +kernel : decode cX2_readOfPerson 5 = .ok (.invokevirtual 77, 3))) ?_
  refine mm_fc (ss_ifne hx hb (by decide +kernel : decode cX2_readOfPerson 8 = .ok (.ifCond .ne 5, 3)) (by decide)) ?_
  refine mm_fc (ss_iconst hx hb (by decide +kernel : decode cX2_readOfPerson 11 = .ok (.iconst 0, 1)) (by decide)) ?_
  refine mm_fc (ss_zret (by decide +kernel : decode cX2_readOfPerson 12 = .ok (.ireturn, 1)) rfl) ?_
  refine mm_fc (ss_aload_n hx hb (by decide +kernel : decode cX2_readOfPerson 13 = .ok (.aload_n 0, 1)) rfl) ?_
  refine mm_fc (ss_get X rfl in_X2 (by decide) rfl wd_1_124 (by decide +kernel : decode cX2_readOfPerson 14 = .ok (.getfield 15, 3))) ?_
  refine mm_fc (ss_callV X rfl rfl wd_2_189 wd_1_3 wd_3_160 wd_2_187 wd_2_188 (by decide +kernel) (by decide +kernel) (by decide) (by decide +kernel : decode cX2_readOfPerson 17 = .ok (.invokevirtual 34, 3))) ?_
  refine mm_fc (ss_aload_n hx hb (by decide +kernel : decode cX2_readOfPerson 20 = .ok (.aload_n 0, 1)) rfl) ?_
  refine mm_fc (ss_iload_n hx hb (by decide +kernel : decode cX2_readOfPerson 21 = .ok (.iload_n 1, 1)) rfl) ?_
  refine mm_fc (ss_iconst hx hb (by decide +kernel : decode cX2_readOfPerson 22 = .ok (.iconst 1, 1)) (by decide)) ?_
  refine mm_fc (ss_iadd hx hb (by decide +kernel : decode cX2_readOfPerson 23 = .ok (.iadd, 1))) ?_
  refine mm_fc (ss_callV X rfl rfl wd_3_199 wd_1_6 wd_3_196 wd_3_198 wd_p_17 (by decide +kernel) (by decide +kernel) (by decide) (by decide +kernel : decode cX2_readOfPerson 24 = .ok (.invokevirtual 83, 3))) ?_
  refine mm_fc (ss_istore_n hx hb (by decide +kernel : decode cX2_readOfPerson 27 = .ok (.istore_n 3, 1)) rfl (by decide)) ?_
  refine mm_fc (ss_aload_n hx hb (by decide +kernel : decode cX2_readOfPerson 28 = .ok (.aload_n 0, 1)) rfl) ?_
  refine mm_fc (ss_get X rfl in_X2 (by decide) rfl wd_1_125 (by decide +kernel : decode cX2_readOfPerson 29 = .ok (.getfield 19, 3))) ?_
  refine mm_fc (ss_iload_n hx hb (by decide +kernel : decode cX2_readOfPerson 32 = .ok (.iload_n 2, 1)) rfl) ?_
  refine mm_fc (ss_callV X rfl rfl wd_3_185 wd_1_5 wd_3_182 wd_3_183 wd_3_184 (by decide +kernel) (by decide +kernel) (by decide) (by decide +kernel : decode cX2_readOfPerson 33 = .ok (.invokevirtual 56, 3))) ?_
  refine mm_fc (ss_iload_n hx hb (by decide +kernel : decode cX2_readOfPerson 36 = .ok (.iload_n 3, 1)) rfl) ?_
  refine mm_fc (ss_zret (by decide +kernel : decode cX2_readOfPerson 37 = .ok (.ireturn, 1)) rfl) ?_
  exact mm_fn
def cd_X2_isValueHere : mm_K mm_H := [(0, s_iload 1 1), (1, s_sw [(3, 80), (4, 80), (5, 82), (6, 172), (7, 172), (8, 172), (9, 172), (10, 172), (11, 96), (12, 117), (13, 130), (14, 144), (15, 80), (16, 158), (17, 158), (18, 158)] 172), (80, s_pushI 1 81), (81, s_zret), (82, s_aload 0 83), (83, s_get 2 2 86), (86, s_pushI 3 87), (87, s_icmp (fun x y => x = y) 94 90), (90, s_pushI 1 91), (91, s_goto 95), (94, s_pushI 0 95), (95, s_zret), (96, s_aload 0 97), (97, s_get 2 2 100), (100, s_if (fun x => x = 0) 111 103), (103, s_aload 0 104), (104, s_get 2 2 107), (107, s_pushI 3 108), (108, s_icmp (fun x y => ¬ x = y) 115 111), (111, s_pushI 1 112), (112, s_goto 116), (115, s_pushI 0 116), (116, s_zret), (117, s_aload 0 118), (118, s_get 2 2 121), (121, s_if (fun x => ¬ x = 0) 128 124), (124, s_pushI 1 125), (125, s_goto 129), (128, s_pushI 0 129), (129, s_zret), (130, s_aload 0 131), (131, s_get 2 2 134), (134, s_pushI 1 135), (135, s_icmp (fun x y => ¬ x = y) 142 138), (138, s_pushI 1 139), (139, s_goto 143), (142, s_pushI 0 143), (143, s_zret), (144, s_aload 0 145), (145, s_get 2 2 148), (148, s_pushI 2 149), (149, s_icmp (fun x y => ¬ x = y) 156 152), (152, s_pushI 1 153), (153, s_goto 157), (156, s_pushI 0 157), (157, s_zret), (158, s_aload 0 159), (159, s_get 2 2 162), (162, s_pushI 3 163), (163, s_icmp (fun x y => ¬ x = y) 170 166), (166, s_pushI 1 167), (167, s_goto 171), (170, s_pushI 0 171), (171, s_zret), (172, s_pushI 0 173), (173, s_zret)]
set_option maxRecDepth 100000 in
set_option maxHeartbeats 4000000 in
theorem ok_X2_isValueHere (l : Launch) : mm_CodeOK l mm_I0 RX2 cX2_isValueHere 2 (some .boolean) cd_X2_isValueHere := by
  intro p e R s m args below meth c Q σ cA D A kc ks d C X
  have hx := X.1
  have hb := X.2.1
  have hown := X.2.2.2.1
  have hts := X.2.2.2.2.1
  refine mm_fc (ss_iload_n hx hb (by decide +kernel : decode cX2_isValueHere 0 = .ok (.iload_n 1, 1)) rfl) ?_
  refine mm_fc (ss_table hx hb (by decide +kernel : decode cX2_isValueHere 1 = .ok (.tableswitch 171 3 18 #[79, 79, 81, 171, 171, 171, 171, 171, 95, 116, 129, 143, 79, 157, 157, 157], 79)) (by decide) (by decide) (by decide)) ?_
  refine mm_fc (ss_iconst hx hb (by decide +kernel : decode cX2_isValueHere 80 = .ok (.iconst 1, 1)) (by decide)) ?_
  refine mm_fc (ss_zret (by decide +kernel : decode cX2_isValueHere 81 = .ok (.ireturn, 1)) rfl) ?_
  refine mm_fc (ss_aload_n hx hb (by decide +kernel : decode cX2_isValueHere 82 = .ok (.aload_n 0, 1)) rfl) ?_
  refine mm_fc (ss_get X rfl in_X2 (by decide) rfl wd_1_126 (by decide +kernel : decode cX2_isValueHere 83 = .ok (.getfield 9, 3))) ?_
  refine mm_fc (ss_iconst hx hb (by decide +kernel : decode cX2_isValueHere 86 = .ok (.iconst 3, 1)) (by decide)) ?_
  refine mm_fc (ss_icmpeq hx hb (by decide +kernel : decode cX2_isValueHere 87 = .ok (.if_icmp .eq 7, 3)) (by decide)) ?_
  refine mm_fc (ss_iconst hx hb (by decide +kernel : decode cX2_isValueHere 90 = .ok (.iconst 1, 1)) (by decide)) ?_
  refine mm_fc (ss_goto hx hb (by decide +kernel : decode cX2_isValueHere 91 = .ok (.goto 4, 3)) (by decide)) ?_
  refine mm_fc (ss_iconst hx hb (by decide +kernel : decode cX2_isValueHere 94 = .ok (.iconst 0, 1)) (by decide)) ?_
  refine mm_fc (ss_zret (by decide +kernel : decode cX2_isValueHere 95 = .ok (.ireturn, 1)) rfl) ?_
  refine mm_fc (ss_aload_n hx hb (by decide +kernel : decode cX2_isValueHere 96 = .ok (.aload_n 0, 1)) rfl) ?_
  refine mm_fc (ss_get X rfl in_X2 (by decide) rfl wd_1_126 (by decide +kernel : decode cX2_isValueHere 97 = .ok (.getfield 9, 3))) ?_
  refine mm_fc (ss_ifeq hx hb (by decide +kernel : decode cX2_isValueHere 100 = .ok (.ifCond .eq 11, 3)) (by decide)) ?_
  refine mm_fc (ss_aload_n hx hb (by decide +kernel : decode cX2_isValueHere 103 = .ok (.aload_n 0, 1)) rfl) ?_
  refine mm_fc (ss_get X rfl in_X2 (by decide) rfl wd_1_126 (by decide +kernel : decode cX2_isValueHere 104 = .ok (.getfield 9, 3))) ?_
  refine mm_fc (ss_iconst hx hb (by decide +kernel : decode cX2_isValueHere 107 = .ok (.iconst 3, 1)) (by decide)) ?_
  refine mm_fc (ss_icmpne hx hb (by decide +kernel : decode cX2_isValueHere 108 = .ok (.if_icmp .ne 7, 3)) (by decide)) ?_
  refine mm_fc (ss_iconst hx hb (by decide +kernel : decode cX2_isValueHere 111 = .ok (.iconst 1, 1)) (by decide)) ?_
  refine mm_fc (ss_goto hx hb (by decide +kernel : decode cX2_isValueHere 112 = .ok (.goto 4, 3)) (by decide)) ?_
  refine mm_fc (ss_iconst hx hb (by decide +kernel : decode cX2_isValueHere 115 = .ok (.iconst 0, 1)) (by decide)) ?_
  refine mm_fc (ss_zret (by decide +kernel : decode cX2_isValueHere 116 = .ok (.ireturn, 1)) rfl) ?_
  refine mm_fc (ss_aload_n hx hb (by decide +kernel : decode cX2_isValueHere 117 = .ok (.aload_n 0, 1)) rfl) ?_
  refine mm_fc (ss_get X rfl in_X2 (by decide) rfl wd_1_126 (by decide +kernel : decode cX2_isValueHere 118 = .ok (.getfield 9, 3))) ?_
  refine mm_fc (ss_ifne hx hb (by decide +kernel : decode cX2_isValueHere 121 = .ok (.ifCond .ne 7, 3)) (by decide)) ?_
  refine mm_fc (ss_iconst hx hb (by decide +kernel : decode cX2_isValueHere 124 = .ok (.iconst 1, 1)) (by decide)) ?_
  refine mm_fc (ss_goto hx hb (by decide +kernel : decode cX2_isValueHere 125 = .ok (.goto 4, 3)) (by decide)) ?_
  refine mm_fc (ss_iconst hx hb (by decide +kernel : decode cX2_isValueHere 128 = .ok (.iconst 0, 1)) (by decide)) ?_
  refine mm_fc (ss_zret (by decide +kernel : decode cX2_isValueHere 129 = .ok (.ireturn, 1)) rfl) ?_
  refine mm_fc (ss_aload_n hx hb (by decide +kernel : decode cX2_isValueHere 130 = .ok (.aload_n 0, 1)) rfl) ?_
  refine mm_fc (ss_get X rfl in_X2 (by decide) rfl wd_1_126 (by decide +kernel : decode cX2_isValueHere 131 = .ok (.getfield 9, 3))) ?_
  refine mm_fc (ss_iconst hx hb (by decide +kernel : decode cX2_isValueHere 134 = .ok (.iconst 1, 1)) (by decide)) ?_
  refine mm_fc (ss_icmpne hx hb (by decide +kernel : decode cX2_isValueHere 135 = .ok (.if_icmp .ne 7, 3)) (by decide)) ?_
  refine mm_fc (ss_iconst hx hb (by decide +kernel : decode cX2_isValueHere 138 = .ok (.iconst 1, 1)) (by decide)) ?_
  refine mm_fc (ss_goto hx hb (by decide +kernel : decode cX2_isValueHere 139 = .ok (.goto 4, 3)) (by decide)) ?_
  refine mm_fc (ss_iconst hx hb (by decide +kernel : decode cX2_isValueHere 142 = .ok (.iconst 0, 1)) (by decide)) ?_
  refine mm_fc (ss_zret (by decide +kernel : decode cX2_isValueHere 143 = .ok (.ireturn, 1)) rfl) ?_
  refine mm_fc (ss_aload_n hx hb (by decide +kernel : decode cX2_isValueHere 144 = .ok (.aload_n 0, 1)) rfl) ?_
  refine mm_fc (ss_get X rfl in_X2 (by decide) rfl wd_1_126 (by decide +kernel : decode cX2_isValueHere 145 = .ok (.getfield 9, 3))) ?_
  refine mm_fc (ss_iconst hx hb (by decide +kernel : decode cX2_isValueHere 148 = .ok (.iconst 2, 1)) (by decide)) ?_
  refine mm_fc (ss_icmpne hx hb (by decide +kernel : decode cX2_isValueHere 149 = .ok (.if_icmp .ne 7, 3)) (by decide)) ?_
  refine mm_fc (ss_iconst hx hb (by decide +kernel : decode cX2_isValueHere 152 = .ok (.iconst 1, 1)) (by decide)) ?_
  refine mm_fc (ss_goto hx hb (by decide +kernel : decode cX2_isValueHere 153 = .ok (.goto 4, 3)) (by decide)) ?_
  refine mm_fc (ss_iconst hx hb (by decide +kernel : decode cX2_isValueHere 156 = .ok (.iconst 0, 1)) (by decide)) ?_
  refine mm_fc (ss_zret (by decide +kernel : decode cX2_isValueHere 157 = .ok (.ireturn, 1)) rfl) ?_
  refine mm_fc (ss_aload_n hx hb (by decide +kernel : decode cX2_isValueHere 158 = .ok (.aload_n 0, 1)) rfl) ?_
  refine mm_fc (ss_get X rfl in_X2 (by decide) rfl wd_1_126 (by decide +kernel : decode cX2_isValueHere 159 = .ok (.getfield 9, 3))) ?_
  refine mm_fc (ss_iconst hx hb (by decide +kernel : decode cX2_isValueHere 162 = .ok (.iconst 3, 1)) (by decide)) ?_
  refine mm_fc (ss_icmpne hx hb (by decide +kernel : decode cX2_isValueHere 163 = .ok (.if_icmp .ne 7, 3)) (by decide)) ?_
  refine mm_fc (ss_iconst hx hb (by decide +kernel : decode cX2_isValueHere 166 = .ok (.iconst 1, 1)) (by decide)) ?_
  refine mm_fc (ss_goto hx hb (by decide +kernel : decode cX2_isValueHere 167 = .ok (.goto 4, 3)) (by decide)) ?_
  refine mm_fc (ss_iconst hx hb (by decide +kernel : decode cX2_isValueHere 170 = .ok (.iconst 0, 1)) (by decide)) ?_
  refine mm_fc (ss_zret (by decide +kernel : decode cX2_isValueHere 171 = .ok (.ireturn, 1)) rfl) ?_
  refine mm_fc (ss_iconst hx hb (by decide +kernel : decode cX2_isValueHere 172 = .ok (.iconst 0, 1)) (by decide)) ?_
  refine mm_fc (ss_zret (by decide +kernel : decode cX2_isValueHere 173 = .ok (.ireturn, 1)) rfl) ?_
  exact mm_fn
def cd_X3_size : mm_K mm_H := [(0, s_aload 0 1), (1, s_get 3 2 4), (4, s_iret)]
set_option maxRecDepth 100000 in
set_option maxHeartbeats 4000000 in
theorem ok_X3_size (l : Launch) : mm_CodeOK l mm_I0 RX3 cX3_size 1 (some .int) cd_X3_size := by
  intro p e R s m args below meth c Q σ cA D A kc ks d C X
  have hx := X.1
  have hb := X.2.1
  have hown := X.2.2.2.1
  have hts := X.2.2.2.2.1
  refine mm_fc (ss_aload_n hx hb (by decide +kernel : decode cX3_size 0 = .ok (.aload_n 0, 1)) rfl) ?_
  refine mm_fc (ss_get X rfl in_X3 (by decide) rfl wd_1_219 (by decide +kernel : decode cX3_size 1 = .ok (.getfield 21, 3))) ?_
  refine mm_fc (ss_iret (by decide +kernel : decode cX3_size 4 = .ok (.ireturn, 1)) rfl) ?_
  exact mm_fn
def cd_X3_forget : mm_K mm_H := [(0, s_aload 0 1), (1, s_pushI 0 2), (2, s_putI 3 2 5), (5, s_vret)]
set_option maxRecDepth 100000 in
set_option maxHeartbeats 4000000 in
theorem ok_X3_forget (l : Launch) : mm_CodeOK l mm_I0 RX3 cX3_forget 1 none cd_X3_forget := by
  intro p e R s m args below meth c Q σ cA D A kc ks d C X
  have hx := X.1
  have hb := X.2.1
  have hown := X.2.2.2.1
  have hts := X.2.2.2.2.1
  refine mm_fc (ss_aload_n hx hb (by decide +kernel : decode cX3_forget 0 = .ok (.aload_n 0, 1)) rfl) ?_
  refine mm_fc (ss_iconst hx hb (by decide +kernel : decode cX3_forget 1 = .ok (.iconst 0, 1)) (by decide)) ?_
  refine mm_fc (ss_putI X rfl in_X3 tyX3_ok nmX3 (by decide) rfl rfl rfl rfl wd_1_219 (by decide +kernel : decode cX3_forget 2 = .ok (.putfield 21, 3))) ?_
  refine mm_fc (ss_vret (by decide +kernel : decode cX3_forget 5 = .ok (.return_, 1)) rfl) ?_
  exact mm_fn
def cd_X3_remember : mm_K mm_H := [(0, s_aload 0 1), (1, s_get 3 0 4), (4, s_aload 0 5), (5, s_get 3 1 8), (8, s_pushI 20 10), (10, s_callS 8 2 1 13), (13, s_aald 14), (14, s_aload 1 15), (15, s_callV 7 100 1 0 18), (18, s_aload 0 19), (19, s_aload 0 20), (20, s_get 3 1 23), (23, s_pushI 1 24), (24, s_bin (fun x y => x + y) 25), (25, s_pushI 20 27), (27, s_callS 8 2 1 30), (30, s_putI 3 1 33), (33, s_aload 0 34), (34, s_aload 0 35), (35, s_get 3 2 38), (38, s_pushI 1 39), (39, s_bin (fun x y => x + y) 40), (40, s_pushI 20 42), (42, s_callS 11 2 1 45), (45, s_putI 3 2 48), (48, s_vret)]
set_option maxRecDepth 100000 in
set_option maxHeartbeats 4000000 in
theorem ok_X3_remember (l : Launch) : mm_CodeOK l mm_I0 RX3 cX3_remember 2 none cd_X3_remember := by
  intro p e R s m args below meth c Q σ cA D A kc ks d C X
  have hx := X.1
  have hb := X.2.1
  have hown := X.2.2.2.1
  have hts := X.2.2.2.2.1
  refine mm_fc (ss_aload_n hx hb (by decide +kernel : decode cX3_remember 0 = .ok (.aload_n 0, 1)) rfl) ?_
  refine mm_fc (ss_get X rfl in_X3 (by decide) rfl wd_1_217 (by decide +kernel : decode cX3_remember 1 = .ok (.getfield 11, 3))) ?_
  refine mm_fc (ss_aload_n hx hb (by decide +kernel : decode cX3_remember 4 = .ok (.aload_n 0, 1)) rfl) ?_
  refine mm_fc (ss_get X rfl in_X3 (by decide) rfl wd_1_218 (by decide +kernel : decode cX3_remember 5 = .ok (.getfield 17, 3))) ?_
  refine mm_fc (ss_bipush hx hb (by decide +kernel : decode cX3_remember 8 = .ok (.bipush 20, 2)) (by decide)) ?_
  refine mm_fc (ss_callS X rfl wd_4_205 wd_1_14 wd_5_142 wd_4_204 (by decide +kernel) (by decide +kernel) (by decide) (by decide +kernel : decode cX3_remember 10 = .ok (.invokestatic 25, 3))) ?_
  refine mm_fc (ss_aald X (by decide +kernel : decode cX3_remember 13 = .ok (.aaload, 1))) ?_
  refine mm_fc (ss_aload_n hx hb (by decide +kernel : decode cX3_remember 14 = .ok (.aload_n 1, 1)) rfl) ?_
  refine mm_fc (ss_callV X rfl rfl wd_4_14 wd_1_8 wd_5_143 wd_4_12 wd_4_13 (by decide +kernel) (by decide +kernel) (by decide) (by decide +kernel : decode cX3_remember 15 = .ok (.invokevirtual 31, 3))) ?_
  refine mm_fc (ss_aload_n hx hb (by decide +kernel : decode cX3_remember 18 = .ok (.aload_n 0, 1)) rfl) ?_
  refine mm_fc (ss_aload_n hx hb (by decide +kernel : decode cX3_remember 19 = .ok (.aload_n 0, 1)) rfl) ?_
  refine mm_fc (ss_get X rfl in_X3 (by decide) rfl wd_1_218 (by decide +kernel : decode cX3_remember 20 = .ok (.getfield 17, 3))) ?_
  refine mm_fc (ss_iconst hx hb (by decide +kernel : decode cX3_remember 23 = .ok (.iconst 1, 1)) (by decide)) ?_
  refine mm_fc (ss_iadd hx hb (by decide +kernel : decode cX3_remember 24 = .ok (.iadd, 1))) ?_
  refine mm_fc (ss_bipush hx hb (by decide +kernel : decode cX3_remember 25 = .ok (.bipush 20, 2)) (by decide)) ?_
  refine mm_fc (ss_callS X rfl wd_4_205 wd_1_14 wd_5_142 wd_4_204 (by decide +kernel) (by decide +kernel) (by decide) (by decide +kernel : decode cX3_remember 27 = .ok (.invokestatic 25, 3))) ?_
  refine mm_fc (ss_putI X rfl in_X3 tyX3_ok nmX3 (by decide) rfl rfl rfl rfl wd_1_218 (by decide +kernel : decode cX3_remember 30 = .ok (.putfield 17, 3))) ?_
  refine mm_fc (ss_aload_n hx hb (by decide +kernel : decode cX3_remember 33 = .ok (.aload_n 0, 1)) rfl) ?_
  refine mm_fc (ss_aload_n hx hb (by decide +kernel : decode cX3_remember 34 = .ok (.aload_n 0, 1)) rfl) ?_
  refine mm_fc (ss_get X rfl in_X3 (by decide) rfl wd_1_219 (by decide +kernel : decode cX3_remember 35 = .ok (.getfield 21, 3))) ?_
  refine mm_fc (ss_iconst hx hb (by decide +kernel : decode cX3_remember 38 = .ok (.iconst 1, 1)) (by decide)) ?_
  refine mm_fc (ss_iadd hx hb (by decide +kernel : decode cX3_remember 39 = .ok (.iadd, 1))) ?_
  refine mm_fc (ss_bipush hx hb (by decide +kernel : decode cX3_remember 40 = .ok (.bipush 20, 2)) (by decide)) ?_
  refine mm_fc (ss_callS X rfl wd_2_162 wd_1_14 wd_5_144 wd_2_161 (by decide +kernel) (by decide +kernel) (by decide) (by decide +kernel : decode cX3_remember 42 = .ok (.invokestatic 35, 3))) ?_
  refine mm_fc (ss_putI X rfl in_X3 tyX3_ok nmX3 (by decide) rfl rfl rfl rfl wd_1_219 (by decide +kernel : decode cX3_remember 45 = .ok (.putfield 21, 3))) ?_
  refine mm_fc (ss_vret (by decide +kernel : decode cX3_remember 48 = .ok (.return_, 1)) rfl) ?_
  exact mm_fn
def cd_X3_restore : mm_K mm_H := [(0, s_aload 0 1), (1, s_get 3 2 4), (4, s_if (fun x => ¬ x = 0) 9 7), (7, s_pushI 0 8), (8, s_zret), (9, s_aload 0 10), (10, s_aload 0 11), (11, s_get 3 1 14), (14, s_pushI 1 15), (15, s_bin (fun x y => x - y) 16), (16, s_pushI 20 18), (18, s_callS 8 2 1 21), (21, s_putI 3 1 24), (24, s_aload 0 25), (25, s_dup 26), (26, s_get 3 2 29), (29, s_pushI 1 30), (30, s_bin (fun x y => x - y) 31), (31, s_putI 3 2 34), (34, s_aload 1 35), (35, s_aload 0 36), (36, s_get 3 0 39), (39, s_aload 0 40), (40, s_get 3 1 43), (43, s_aald 44), (44, s_callV 7 100 1 0 47), (47, s_pushI 1 48), (48, s_zret)]
set_option maxRecDepth 100000 in
set_option maxHeartbeats 4000000 in
theorem ok_X3_restore (l : Launch) : mm_CodeOK l mm_I0 RX3 cX3_restore 2 (some .boolean) cd_X3_restore := by
  intro p e R s m args below meth c Q σ cA D A kc ks d C X
  have hx := X.1
  have hb := X.2.1
  have hown := X.2.2.2.1
  have hts := X.2.2.2.2.1
  refine mm_fc (ss_aload_n hx hb (by decide +kernel : decode cX3_restore 0 = .ok (.aload_n 0, 1)) rfl) ?_
  refine mm_fc (ss_get X rfl in_X3 (by decide) rfl wd_1_219 (by decide +kernel : decode cX3_restore 1 = .ok (.getfield 21, 3))) ?_
  refine mm_fc (ss_ifne hx hb (by decide +kernel : decode cX3_restore 4 = .ok (.ifCond .ne 5, 3)) (by decide)) ?_
  refine mm_fc (ss_iconst hx hb (by decide +kernel : decode cX3_restore 7 = .ok (.iconst 0, 1)) (by decide)) ?_
  refine mm_fc (ss_zret (by decide +kernel : decode cX3_restore 8 = .ok (.ireturn, 1)) rfl) ?_
  refine mm_fc (ss_aload_n hx hb (by decide +kernel : decode cX3_restore 9 = .ok (.aload_n 0, 1)) rfl) ?_
  refine mm_fc (ss_aload_n hx hb (by decide +kernel : decode cX3_restore 10 = .ok (.aload_n 0, 1)) rfl) ?_
  refine mm_fc (ss_get X rfl in_X3 (by decide) rfl wd_1_218 (by decide +kernel : decode cX3_restore 11 = .ok (.getfield 17, 3))) ?_
  refine mm_fc (ss_iconst hx hb (by decide +kernel : decode cX3_restore 14 = .ok (.iconst 1, 1)) (by decide)) ?_
  refine mm_fc (ss_isub hx hb (by decide +kernel : decode cX3_restore 15 = .ok (.isub, 1))) ?_
  refine mm_fc (ss_bipush hx hb (by decide +kernel : decode cX3_restore 16 = .ok (.bipush 20, 2)) (by decide)) ?_
  refine mm_fc (ss_callS X rfl wd_4_205 wd_1_14 wd_5_142 wd_4_204 (by decide +kernel) (by decide +kernel) (by decide) (by decide +kernel : decode cX3_restore 18 = .ok (.invokestatic 25, 3))) ?_
  refine mm_fc (ss_putI X rfl in_X3 tyX3_ok nmX3 (by decide) rfl rfl rfl rfl wd_1_218 (by decide +kernel : decode cX3_restore 21 = .ok (.putfield 17, 3))) ?_
  refine mm_fc (ss_aload_n hx hb (by decide +kernel : decode cX3_restore 24 = .ok (.aload_n 0, 1)) rfl) ?_
  refine mm_fc (ss_dup hx hb (by decide +kernel : decode cX3_restore 25 = .ok (.dup, 1))) ?_
  refine mm_fc (ss_get X rfl in_X3 (by decide) rfl wd_1_219 (by decide +kernel : decode cX3_restore 26 = .ok (.getfield 21, 3))) ?_
  refine mm_fc (ss_iconst hx hb (by decide +kernel : decode cX3_restore 29 = .ok (.iconst 1, 1)) (by decide)) ?_
  refine mm_fc (ss_isub hx hb (by decide +kernel : decode cX3_restore 30 = .ok (.isub, 1))) ?_
  refine mm_fc (ss_putI X rfl in_X3 tyX3_ok nmX3 (by decide) rfl rfl rfl rfl wd_1_219 (by decide +kernel : decode cX3_restore 31 = .ok (.putfield 21, 3))) ?_
  refine mm_fc (ss_aload_n hx hb (by decide +kernel : decode cX3_restore 34 = .ok (.aload_n 1, 1)) rfl) ?_
  refine mm_fc (ss_aload_n hx hb (by decide +kernel : decode cX3_restore 35 = .ok (.aload_n 0, 1)) rfl) ?_
  refine mm_fc (ss_get X rfl in_X3 (by decide) rfl wd_1_217 (by decide +kernel : decode cX3_restore 36 = .ok (.getfield 11, 3))) ?_
  refine mm_fc (ss_aload_n hx hb (by decide +kernel : decode cX3_restore 39 = .ok (.aload_n 0, 1)) rfl) ?_
  refine mm_fc (ss_get X rfl in_X3 (by decide) rfl wd_1_218 (by decide +kernel : decode cX3_restore 40 = .ok (.getfield 17, 3))) ?_
  refine mm_fc (ss_aald X (by decide +kernel : decode cX3_restore 43 = .ok (.aaload, 1))) ?_
  refine mm_fc (ss_callV X rfl rfl wd_4_14 wd_1_8 wd_5_143 wd_4_12 wd_4_13 (by decide +kernel) (by decide +kernel) (by decide) (by decide +kernel : decode cX3_restore 44 = .ok (.invokevirtual 31, 3))) ?_
  refine mm_fc (ss_iconst hx hb (by decide +kernel : decode cX3_restore 47 = .ok (.iconst 1, 1)) (by decide)) ?_
  refine mm_fc (ss_zret (by decide +kernel : decode cX3_restore 48 = .ok (.ireturn, 1)) rfl) ?_
  exact mm_fn
def cd_X4_byteAt : mm_K mm_H := [(0, s_iload 1 1), (1, s_if (fun x => x < 0) 30 4), (4, s_iload 1 5), (5, s_aload 0 6), (6, s_get 4 1 9), (9, s_icmp (fun x y => y ≤ x) 30 12), (12, s_iload 1 13), (13, s_aload 0 14), (14, s_get 4 0 17), (17, s_alen 18), (18, s_icmp (fun x y => y ≤ x) 30 21), (21, s_aload 0 22), (22, s_get 4 0 25), (25, s_iload 1 26), (26, s_iald 27), (27, s_goto 31), (30, s_pushI (-1) 31), (31, s_iret)]
set_option maxRecDepth 100000 in
set_option maxHeartbeats 4000000 in
theorem ok_X4_byteAt (l : Launch) : mm_CodeOK l mm_I0 RX4 cX4_byteAt 2 (some .int) cd_X4_byteAt := by
  intro p e R s m args below meth c Q σ cA D A kc ks d C X
  have hx := X.1
  have hb := X.2.1
  have hown := X.2.2.2.1
  have hts := X.2.2.2.2.1
  refine mm_fc (ss_iload_n hx hb (by decide +kernel : decode cX4_byteAt 0 = .ok (.iload_n 1, 1)) rfl) ?_
  refine mm_fc (ss_iflt hx hb (by decide +kernel : decode cX4_byteAt 1 = .ok (.ifCond .lt 29, 3)) (by decide)) ?_
  refine mm_fc (ss_iload_n hx hb (by decide +kernel : decode cX4_byteAt 4 = .ok (.iload_n 1, 1)) rfl) ?_
  refine mm_fc (ss_aload_n hx hb (by decide +kernel : decode cX4_byteAt 5 = .ok (.aload_n 0, 1)) rfl) ?_
  refine mm_fc (ss_get X rfl in_X4 (by decide) rfl wd_2_44 (by decide +kernel : decode cX4_byteAt 6 = .ok (.getfield 15, 3))) ?_
  refine mm_fc (ss_icmpge hx hb (by decide +kernel : decode cX4_byteAt 9 = .ok (.if_icmp .ge 21, 3)) (by decide)) ?_
  refine mm_fc (ss_iload_n hx hb (by decide +kernel : decode cX4_byteAt 12 = .ok (.iload_n 1, 1)) rfl) ?_
  refine mm_fc (ss_aload_n hx hb (by decide +kernel : decode cX4_byteAt 13 = .ok (.aload_n 0, 1)) rfl) ?_
  refine mm_fc (ss_get X rfl in_X4 (by decide) rfl wd_2_43 (by decide +kernel : decode cX4_byteAt 14 = .ok (.getfield 9, 3))) ?_
  refine mm_fc (ss_alen X (by decide +kernel : decode cX4_byteAt 17 = .ok (.arraylength, 1))) ?_
  refine mm_fc (ss_icmpge hx hb (by decide +kernel : decode cX4_byteAt 18 = .ok (.if_icmp .ge 12, 3)) (by decide)) ?_
  refine mm_fc (ss_aload_n hx hb (by decide +kernel : decode cX4_byteAt 21 = .ok (.aload_n 0, 1)) rfl) ?_
  refine mm_fc (ss_get X rfl in_X4 (by decide) rfl wd_2_43 (by decide +kernel : decode cX4_byteAt 22 = .ok (.getfield 9, 3))) ?_
  refine mm_fc (ss_iload_n hx hb (by decide +kernel : decode cX4_byteAt 25 = .ok (.iload_n 1, 1)) rfl) ?_
  refine mm_fc (ss_iald X (by decide +kernel : decode cX4_byteAt 26 = .ok (.iaload, 1))) ?_
  refine mm_fc (ss_goto hx hb (by decide +kernel : decode cX4_byteAt 27 = .ok (.goto 4, 3)) (by decide)) ?_
  refine mm_fc (ss_iconst hx hb (by decide +kernel : decode cX4_byteAt 30 = .ok (.iconst (-1), 1)) (by decide)) ?_
  refine mm_fc (ss_iret (by decide +kernel : decode cX4_byteAt 31 = .ok (.ireturn, 1)) rfl) ?_
  exact mm_fn
def cd_X4_write : mm_K mm_H := [(0, s_aload 0 1), (1, s_pushI 0 2), (2, s_putI 4 1 5), (5, s_aload 0 6), (6, s_pushI 149 9), (9, s_putI 4 2 12), (12, s_aload 0 13), (13, s_aload 1 14), (14, s_get 7 11 17), (17, s_pushI 256 20), (20, s_bin0 (fun x y => x / y) 21), (21, s_callV 4 66 1 0 24), (24, s_aload 0 25), (25, s_aload 1 26), (26, s_get 7 11 29), (29, s_pushI 256 32), (32, s_bin0 (fun x y => x - x / y * y) 33), (33, s_callV 4 66 1 0 36), (36, s_pushI 0 37), (37, s_kill 38 [3] (s_istore 2 38)), (38, s_iload 2 39), (39, s_aload 1 40), (40, s_get 7 10 43), (43, s_icmp (fun x y => y ≤ x) 110 46), (46, s_aload 0 47), (47, s_aload 1 48), (48, s_iload 2 49), (49, s_callV 7 105 1 1 52), (52, s_callV 4 66 1 0 55), (55, s_aload 0 56), (56, s_aload 1 57), (57, s_iload 2 58), (58, s_callV 7 106 1 1 61), (61, s_callV 4 66 1 0 64), (64, s_aload 0 65), (65, s_aload 1 66), (66, s_iload 2 67), (67, s_callV 7 109 1 1 70), (70, s_callV 4 66 1 0 73), (73, s_pushI 0 74), (74, s_istore 3 75), (75, s_iload 3 76), (76, s_aload 1 77), (77, s_get 7 10 80), (80, s_icmp (fun x y => y ≤ x) 104 83), (83, s_iload 3 84), (84, s_iload 2 85), (85, s_icmp (fun x y => x = y) 98 88), (88, s_aload 0 89), (89, s_aload 1 90), (90, s_iload 2 91), (91, s_iload 3 92), (92, s_callV 7 110 2 1 95), (95, s_callV 4 66 1 0 98), (98, s_iinc 3 1 101), (101, s_goto 75), (104, s_iinc 2 1 107), (107, s_kill 38 [3] (s_goto 38)), (110, s_aload 0 111), (111, s_aload 0 112), (112, s_get 4 2 115), (115, s_callV 4 66 1 0 118), (118, s_aload 0 119), (119, s_get 4 1 122), (122, s_iret)]
set_option maxRecDepth 100000 in
set_option maxHeartbeats 4000000 in
theorem ok_X4_write (l : Launch) : mm_CodeOK l mm_I0 RX4 cX4_write 4 (some .int) cd_X4_write := by
  intro p e R s m args below meth c Q σ cA D A kc ks d C X
  have hx := X.1
  have hb := X.2.1
  have hown := X.2.2.2.1
  have hts := X.2.2.2.2.1
  refine mm_fc (ss_aload_n hx hb (by decide +kernel : decode cX4_write 0 = .ok (.aload_n 0, 1)) rfl) ?_
  refine mm_fc (ss_iconst hx hb (by decide +kernel : decode cX4_write 1 = .ok (.iconst 0, 1)) (by decide)) ?_
  refine mm_fc (ss_putI X rfl in_X4 tyX4_ok nmX4 (by decide) rfl rfl rfl rfl wd_2_44 (by decide +kernel : decode cX4_write 2 = .ok (.putfield 15, 3))) ?_
  refine mm_fc (ss_aload_n hx hb (by decide +kernel : decode cX4_write 5 = .ok (.aload_n 0, 1)) rfl) ?_
  refine mm_fc (ss_sipush hx hb (by decide +kernel : decode cX4_write 6 = .ok (.sipush 149, 3)) (by decide)) ?_
  refine mm_fc (ss_putI X rfl in_X4 tyX4_ok nmX4 (by decide) rfl rfl rfl rfl wd_2_45 (by decide +kernel : decode cX4_write 9 = .ok (.putfield 19, 3))) ?_
  refine mm_fc (ss_aload_n hx hb (by decide +kernel : decode cX4_write 12 = .ok (.aload_n 0, 1)) rfl) ?_
  refine mm_fc (ss_aload_n hx hb (by decide +kernel : decode cX4_write 13 = .ok (.aload_n 1, 1)) rfl) ?_
  refine mm_fc (ss_getN X rfl in_X7 (by decide) rfl wd_1_178 (by decide +kernel : decode cX4_write 14 = .ok (.getfield 29, 3))) ?_
  refine mm_fc (ss_sipush hx hb (by decide +kernel : decode cX4_write 17 = .ok (.sipush 256, 3)) (by decide)) ?_
  refine mm_fc (ss_idiv hx hb (by decide +kernel : decode cX4_write 20 = .ok (.idiv, 1))) ?_
  refine mm_fc (ss_callV X rfl rfl wd_5_239 wd_1_11 wd_5_236 wd_5_238 wd_p_44 (by decide +kernel) (by decide +kernel) (by decide) (by decide +kernel : decode cX4_write 21 = .ok (.invokevirtual 32, 3))) ?_
  refine mm_fc (ss_aload_n hx hb (by decide +kernel : decode cX4_write 24 = .ok (.aload_n 0, 1)) rfl) ?_
  refine mm_fc (ss_aload_n hx hb (by decide +kernel : decode cX4_write 25 = .ok (.aload_n 1, 1)) rfl) ?_
  refine mm_fc (ss_getN X rfl in_X7 (by decide) rfl wd_1_178 (by decide +kernel : decode cX4_write 26 = .ok (.getfield 29, 3))) ?_
  refine mm_fc (ss_sipush hx hb (by decide +kernel : decode cX4_write 29 = .ok (.sipush 256, 3)) (by decide)) ?_
  refine mm_fc (ss_irem hx hb (by decide +kernel : decode cX4_write 32 = .ok (.irem, 1))) ?_
  refine mm_fc (ss_callV X rfl rfl wd_5_239 wd_1_11 wd_5_236 wd_5_238 wd_p_44 (by decide +kernel) (by decide +kernel) (by decide) (by decide +kernel : decode cX4_write 33 = .ok (.invokevirtual 32, 3))) ?_
  refine mm_fc (ss_iconst hx hb (by decide +kernel : decode cX4_write 36 = .ok (.iconst 0, 1)) (by decide)) ?_
  refine mm_fc (ss_kill (ss_istore_n hx hb (by decide +kernel : decode cX4_write 37 = .ok (.istore_n 2, 1)) rfl (by decide))) ?_
  refine mm_fc (ss_iload_n hx hb (by decide +kernel : decode cX4_write 38 = .ok (.iload_n 2, 1)) rfl) ?_
  refine mm_fc (ss_aload_n hx hb (by decide +kernel : decode cX4_write 39 = .ok (.aload_n 1, 1)) rfl) ?_
  refine mm_fc (ss_getN X rfl in_X7 (by decide) rfl wd_1_172 (by decide +kernel : decode cX4_write 40 = .ok (.getfield 36, 3))) ?_
  refine mm_fc (ss_icmpge hx hb (by decide +kernel : decode cX4_write 43 = .ok (.if_icmp .ge 67, 3)) (by decide)) ?_
  refine mm_fc (ss_aload_n hx hb (by decide +kernel : decode cX4_write 46 = .ok (.aload_n 0, 1)) rfl) ?_
  refine mm_fc (ss_aload_n hx hb (by decide +kernel : decode cX4_write 47 = .ok (.aload_n 1, 1)) rfl) ?_
  refine mm_fc (ss_iload_n hx hb (by decide +kernel : decode cX4_write 48 = .ok (.iload_n 2, 1)) rfl) ?_
  refine mm_fc (ss_callV X rfl rfl wd_4_159 wd_1_8 wd_6_0 wd_4_157 wd_4_158 (by decide +kernel) (by decide +kernel) (by decide) (by decide +kernel : decode cX4_write 49 = .ok (.invokevirtual 39, 3))) ?_
  refine mm_fc (ss_callV X rfl rfl wd_5_239 wd_1_11 wd_5_236 wd_5_238 wd_p_44 (by decide +kernel) (by decide +kernel) (by decide) (by decide +kernel : decode cX4_write 52 = .ok (.invokevirtual 32, 3))) ?_
  refine mm_fc (ss_aload_n hx hb (by decide +kernel : decode cX4_write 55 = .ok (.aload_n 0, 1)) rfl) ?_
  refine mm_fc (ss_aload_n hx hb (by decide +kernel : decode cX4_write 56 = .ok (.aload_n 1, 1)) rfl) ?_
  refine mm_fc (ss_iload_n hx hb (by decide +kernel : decode cX4_write 57 = .ok (.iload_n 2, 1)) rfl) ?_
  refine mm_fc (ss_callV X rfl rfl wd_4_42 wd_1_8 wd_6_1 wd_4_40 wd_4_41 (by decide +kernel) (by decide +kernel) (by decide) (by decide +kernel : decode cX4_write 58 = .ok (.invokevirtual 43, 3))) ?_
  refine mm_fc (ss_callV X rfl rfl wd_5_239 wd_1_11 wd_5_236 wd_5_238 wd_p_44 (by decide +kernel) (by decide +kernel) (by decide) (by decide +kernel : decode cX4_write 61 = .ok (.invokevirtual 32, 3))) ?_
  refine mm_fc (ss_aload_n hx hb (by decide +kernel : decode cX4_write 64 = .ok (.aload_n 0, 1)) rfl) ?_
  refine mm_fc (ss_aload_n hx hb (by decide +kernel : decode cX4_write 65 = .ok (.aload_n 1, 1)) rfl) ?_
  refine mm_fc (ss_iload_n hx hb (by decide +kernel : decode cX4_write 66 = .ok (.iload_n 2, 1)) rfl) ?_
  refine mm_fc (ss_callV X rfl rfl wd_4_50 wd_1_8 wd_6_2 wd_4_48 wd_4_49 (by decide +kernel) (by decide +kernel) (by decide) (by decide +kernel : decode cX4_write 67 = .ok (.invokevirtual 46, 3))) ?_
  refine mm_fc (ss_callV X rfl rfl wd_5_239 wd_1_11 wd_5_236 wd_5_238 wd_p_44 (by decide +kernel) (by decide +kernel) (by decide) (by decide +kernel : decode cX4_write 70 = .ok (.invokevirtual 32, 3))) ?_
  refine mm_fc (ss_iconst hx hb (by decide +kernel : decode cX4_write 73 = .ok (.iconst 0, 1)) (by decide)) ?_
  refine mm_fc (ss_istore_n hx hb (by decide +kernel : decode cX4_write 74 = .ok (.istore_n 3, 1)) rfl (by decide)) ?_
  refine mm_fc (ss_iload_n hx hb (by decide +kernel : decode cX4_write 75 = .ok (.iload_n 3, 1)) rfl) ?_
  refine mm_fc (ss_aload_n hx hb (by decide +kernel : decode cX4_write 76 = .ok (.aload_n 1, 1)) rfl) ?_
  refine mm_fc (ss_getN X rfl in_X7 (by decide) rfl wd_1_172 (by decide +kernel : decode cX4_write 77 = .ok (.getfield 36, 3))) ?_
  refine mm_fc (ss_icmpge hx hb (by decide +kernel : decode cX4_write 80 = .ok (.if_icmp .ge 24, 3)) (by decide)) ?_
  refine mm_fc (ss_iload_n hx hb (by decide +kernel : decode cX4_write 83 = .ok (.iload_n 3, 1)) rfl) ?_
  refine mm_fc (ss_iload_n hx hb (by decide +kernel : decode cX4_write 84 = .ok (.iload_n 2, 1)) rfl) ?_
  refine mm_fc (ss_icmpeq hx hb (by decide +kernel : decode cX4_write 85 = .ok (.if_icmp .eq 13, 3)) (by decide)) ?_
  refine mm_fc (ss_aload_n hx hb (by decide +kernel : decode cX4_write 88 = .ok (.aload_n 0, 1)) rfl) ?_
  refine mm_fc (ss_aload_n hx hb (by decide +kernel : decode cX4_write 89 = .ok (.aload_n 1, 1)) rfl) ?_
  refine mm_fc (ss_iload_n hx hb (by decide +kernel : decode cX4_write 90 = .ok (.iload_n 2, 1)) rfl) ?_
  refine mm_fc (ss_iload_n hx hb (by decide +kernel : decode cX4_write 91 = .ok (.iload_n 3, 1)) rfl) ?_
  refine mm_fc (ss_callV X rfl rfl wd_4_80 wd_1_8 wd_6_3 wd_4_78 wd_4_79 (by decide +kernel) (by decide +kernel) (by decide) (by decide +kernel : decode cX4_write 92 = .ok (.invokevirtual 49, 3))) ?_
  refine mm_fc (ss_callV X rfl rfl wd_5_239 wd_1_11 wd_5_236 wd_5_238 wd_p_44 (by decide +kernel) (by decide +kernel) (by decide) (by decide +kernel : decode cX4_write 95 = .ok (.invokevirtual 32, 3))) ?_
  refine mm_fc (ss_iinc hx hb (by decide +kernel : decode cX4_write 98 = .ok (.iinc 3 1, 3)) (by decide) (by decide)) ?_
  refine mm_fc (ss_goto hx hb (by decide +kernel : decode cX4_write 101 = .ok (.goto (-26), 3)) (by decide)) ?_
  refine mm_fc (ss_iinc hx hb (by decide +kernel : decode cX4_write 104 = .ok (.iinc 2 1, 3)) (by decide) (by decide)) ?_
  refine mm_fc (ss_kill (ss_goto hx hb (by decide +kernel : decode cX4_write 107 = .ok (.goto (-69), 3)) (by decide))) ?_
  refine mm_fc (ss_aload_n hx hb (by decide +kernel : decode cX4_write 110 = .ok (.aload_n 0, 1)) rfl) ?_
  refine mm_fc (ss_aload_n hx hb (by decide +kernel : decode cX4_write 111 = .ok (.aload_n 0, 1)) rfl) ?_
  refine mm_fc (ss_get X rfl in_X4 (by decide) rfl wd_2_45 (by decide +kernel : decode cX4_write 112 = .ok (.getfield 19, 3))) ?_
  refine mm_fc (ss_callV X rfl rfl wd_5_239 wd_1_11 wd_5_236 wd_5_238 wd_p_44 (by decide +kernel) (by decide +kernel) (by decide) (by decide +kernel : decode cX4_write 115 = .ok (.invokevirtual 32, 3))) ?_
  refine mm_fc (ss_aload_n hx hb (by decide +kernel : decode cX4_write 118 = .ok (.aload_n 0, 1)) rfl) ?_
  refine mm_fc (ss_get X rfl in_X4 (by decide) rfl wd_2_44 (by decide +kernel : decode cX4_write 119 = .ok (.getfield 15, 3))) ?_
  refine mm_fc (ss_iret (by decide +kernel : decode cX4_write 122 = .ok (.ireturn, 1)) rfl) ?_
  exact mm_fn
def cd_X4_add : mm_K mm_H := [(0, s_aload 0 1), (1, s_get 4 1 4), (4, s_aload 0 5), (5, s_get 4 0 8), (8, s_alen 9), (9, s_icmp (fun x y => y ≤ x) 48 12), (12, s_aload 0 13), (13, s_get 4 0 16), (16, s_aload 0 17), (17, s_get 4 1 20), (20, s_iload 1 21), (21, s_iast 22), (22, s_aload 0 23), (23, s_dup 24), (24, s_get 4 1 27), (27, s_pushI 1 28), (28, s_bin (fun x y => x + y) 29), (29, s_putI 4 1 32), (32, s_aload 0 33), (33, s_pushI 3 34), (34, s_aload 0 35), (35, s_get 4 2 38), (38, s_bin (fun x y => x * y) 39), (39, s_iload 1 40), (40, s_bin (fun x y => x + y) 41), (41, s_pushI 251 44), (44, s_bin0 (fun x y => x - x / y * y) 45), (45, s_putI 4 2 48), (48, s_vret)]
set_option maxRecDepth 100000 in
set_option maxHeartbeats 4000000 in
theorem ok_X4_add (l : Launch) : mm_CodeOK l mm_I0 RX4 cX4_add 2 none cd_X4_add := by
  intro p e R s m args below meth c Q σ cA D A kc ks d C X
  have hx := X.1
  have hb := X.2.1
  have hown := X.2.2.2.1
  have hts := X.2.2.2.2.1
  refine mm_fc (ss_aload_n hx hb (by decide +kernel : decode cX4_add 0 = .ok (.aload_n 0, 1)) rfl) ?_
  refine mm_fc (ss_get X rfl in_X4 (by decide) rfl wd_2_44 (by decide +kernel : decode cX4_add 1 = .ok (.getfield 15, 3))) ?_
  refine mm_fc (ss_aload_n hx hb (by decide +kernel : decode cX4_add 4 = .ok (.aload_n 0, 1)) rfl) ?_
  refine mm_fc (ss_get X rfl in_X4 (by decide) rfl wd_2_43 (by decide +kernel : decode cX4_add 5 = .ok (.getfield 9, 3))) ?_
  refine mm_fc (ss_alen X (by decide +kernel : decode cX4_add 8 = .ok (.arraylength, 1))) ?_
  refine mm_fc (ss_icmpge hx hb (by decide +kernel : decode cX4_add 9 = .ok (.if_icmp .ge 39, 3)) (by decide)) ?_
  refine mm_fc (ss_aload_n hx hb (by decide +kernel : decode cX4_add 12 = .ok (.aload_n 0, 1)) rfl) ?_
  refine mm_fc (ss_get X rfl in_X4 (by decide) rfl wd_2_43 (by decide +kernel : decode cX4_add 13 = .ok (.getfield 9, 3))) ?_
  refine mm_fc (ss_aload_n hx hb (by decide +kernel : decode cX4_add 16 = .ok (.aload_n 0, 1)) rfl) ?_
  refine mm_fc (ss_get X rfl in_X4 (by decide) rfl wd_2_44 (by decide +kernel : decode cX4_add 17 = .ok (.getfield 15, 3))) ?_
  refine mm_fc (ss_iload_n hx hb (by decide +kernel : decode cX4_add 20 = .ok (.iload_n 1, 1)) rfl) ?_
  refine mm_fc (ss_iast X (by decide +kernel : decode cX4_add 21 = .ok (.iastore, 1))) ?_
  refine mm_fc (ss_aload_n hx hb (by decide +kernel : decode cX4_add 22 = .ok (.aload_n 0, 1)) rfl) ?_
  refine mm_fc (ss_dup hx hb (by decide +kernel : decode cX4_add 23 = .ok (.dup, 1))) ?_
  refine mm_fc (ss_get X rfl in_X4 (by decide) rfl wd_2_44 (by decide +kernel : decode cX4_add 24 = .ok (.getfield 15, 3))) ?_
  refine mm_fc (ss_iconst hx hb (by decide +kernel : decode cX4_add 27 = .ok (.iconst 1, 1)) (by decide)) ?_
  refine mm_fc (ss_iadd hx hb (by decide +kernel : decode cX4_add 28 = .ok (.iadd, 1))) ?_
  refine mm_fc (ss_putI X rfl in_X4 tyX4_ok nmX4 (by decide) rfl rfl rfl rfl wd_2_44 (by decide +kernel : decode cX4_add 29 = .ok (.putfield 15, 3))) ?_
  refine mm_fc (ss_aload_n hx hb (by decide +kernel : decode cX4_add 32 = .ok (.aload_n 0, 1)) rfl) ?_
  refine mm_fc (ss_iconst hx hb (by decide +kernel : decode cX4_add 33 = .ok (.iconst 3, 1)) (by decide)) ?_
  refine mm_fc (ss_aload_n hx hb (by decide +kernel : decode cX4_add 34 = .ok (.aload_n 0, 1)) rfl) ?_
  refine mm_fc (ss_get X rfl in_X4 (by decide) rfl wd_2_45 (by decide +kernel : decode cX4_add 35 = .ok (.getfield 19, 3))) ?_
  refine mm_fc (ss_imul hx hb (by decide +kernel : decode cX4_add 38 = .ok (.imul, 1))) ?_
  refine mm_fc (ss_iload_n hx hb (by decide +kernel : decode cX4_add 39 = .ok (.iload_n 1, 1)) rfl) ?_
  refine mm_fc (ss_iadd hx hb (by decide +kernel : decode cX4_add 40 = .ok (.iadd, 1))) ?_
  refine mm_fc (ss_sipush hx hb (by decide +kernel : decode cX4_add 41 = .ok (.sipush 251, 3)) (by decide)) ?_
  refine mm_fc (ss_irem hx hb (by decide +kernel : decode cX4_add 44 = .ok (.irem, 1))) ?_
  refine mm_fc (ss_putI X rfl in_X4 tyX4_ok nmX4 (by decide) rfl rfl rfl rfl wd_2_45 (by decide +kernel : decode cX4_add 45 = .ok (.putfield 19, 3))) ?_
  refine mm_fc (ss_vret (by decide +kernel : decode cX4_add 48 = .ok (.return_, 1)) rfl) ?_
  exact mm_fn
def cd_X4_read : mm_K mm_H := [(0, s_pushI 3 1), (1, s_aload 2 2), (2, s_get 7 10 5), (5, s_aload 2 6), (6, s_get 7 10 9), (9, s_pushI 2 10), (10, s_bin (fun x y => x + y) 11), (11, s_bin (fun x y => x * y) 12), (12, s_bin (fun x y => x + y) 13), (13, s_istore 3 14), (14, s_pushI 256 17), (17, s_aload 1 18), (18, s_pushI 0 19), (19, s_callV 8 126 1 1 22), (22, s_bin (fun x y => x * y) 23), (23, s_aload 1 24), (24, s_pushI 1 25), (25, s_callV 8 126 1 1 28), (28, s_bin (fun x y => x + y) 29), (29, s_istore 4 31), (31, s_aload 1 32), (32, s_callV 8 125 0 1 35), (35, s_iload 3 36), (36, s_icmp (fun x y => ¬ x = y) 54 39), (39, s_aload 1 40), (40, s_callS 68 1 1 43), (43, s_if (fun x => x = 0) 54 46), (46, s_iload 4 48), (48, s_pushI 999 51), (51, s_icmp (fun x y => x ≤ y) 56 54), (54, s_pushI 0 55), (55, s_zret), (56, s_aload 0 57), (57, s_get 4 3 60), (60, s_aload 2 61), (61, s_callV 7 100 1 0 64), (64, s_aload 0 65), (65, s_get 4 3 68), (68, s_iload 4 70), (70, s_putI 7 11 73), (73, s_aload 0 74), (74, s_get 4 3 77), (77, s_pushI 0 78), (78, s_putI 7 8 81), (81, s_pushI 0 82), (82, s_kill 84 [3, 4] (s_istore 5 84)), (84, s_iload 5 86), (86, s_aload 2 87), (87, s_get 7 9 90), (90, s_icmp (fun x y => y ≤ x) 109 93), (93, s_aload 0 94), (94, s_get 4 3 97), (97, s_pushI (-1) 98), (98, s_iload 5 100), (100, s_callV 7 116 2 0 103), (103, s_iinc 5 1 106), (106, s_kill 84 [3, 4] (s_goto 84)), (109, s_pushI 0 110), (110, s_kill 112 [3, 4] (s_istore 5 112)), (112, s_iload 5 114), (114, s_aload 2 115), (115, s_get 7 10 118), (118, s_icmp (fun x y => y ≤ x) 150 121), (121, s_aload 0 122), (122, s_aload 1 123), (123, s_pushI 2 124), (124, s_iload 5 126), (126, s_aload 2 127), (127, s_get 7 10 130), (130, s_pushI 2 131), (131, s_bin (fun x y => x + y) 132), (132, s_bin (fun x y => x * y) 133), (133, s_bin (fun x y => x + y) 134), (134, s_iload 5 136), (136, s_callV 4 69 3 1 139), (139, s_if (fun x => ¬ x = 0) 144 142), (142, s_pushI 0 143), (143, s_zret), (144, s_iinc 5 1 147), (147, s_kill 112 [3, 4] (s_goto 112)), (150, s_aload 2 151), (151, s_aload 0 152), (152, s_get 4 3 155), (155, s_callV 7 100 1 0 158), (158, s_pushI 1 159), (159, s_zret)]
set_option maxRecDepth 100000 in
set_option maxHeartbeats 4000000 in
theorem ok_X4_read (l : Launch) : mm_CodeOK l mm_I0 RX4 cX4_read 6 (some .boolean) cd_X4_read := by
  intro p e R s m args below meth c Q σ cA D A kc ks d C X
  have hx := X.1
  have hb := X.2.1
  have hown := X.2.2.2.1
  have hts := X.2.2.2.2.1
  refine mm_fc (ss_iconst hx hb (by decide +kernel : decode cX4_read 0 = .ok (.iconst 3, 1)) (by decide)) ?_
  refine mm_fc (ss_aload_n hx hb (by decide +kernel : decode cX4_read 1 = .ok (.aload_n 2, 1)) rfl) ?_
  refine mm_fc (ss_getN X rfl in_X7 (by decide) rfl wd_1_172 (by decide +kernel : decode cX4_read 2 = .ok (.getfield 36, 3))) ?_
  refine mm_fc (ss_aload_n hx hb (by decide +kernel : decode cX4_read 5 = .ok (.aload_n 2, 1)) rfl) ?_
  refine mm_fc (ss_getN X rfl in_X7 (by decide) rfl wd_1_172 (by decide +kernel : decode cX4_read 6 = .ok (.getfield 36, 3))) ?_
  refine mm_fc (ss_iconst hx hb (by decide +kernel : decode cX4_read 9 = .ok (.iconst 2, 1)) (by decide)) ?_
  refine mm_fc (ss_iadd hx hb (by decide +kernel : decode cX4_read 10 = .ok (.iadd, 1))) ?_
  refine mm_fc (ss_imul hx hb (by decide +kernel : decode cX4_read 11 = .ok (.imul, 1))) ?_
  refine mm_fc (ss_iadd hx hb (by decide +kernel : decode cX4_read 12 = .ok (.iadd, 1))) ?_
  refine mm_fc (ss_istore_n hx hb (by decide +kernel : decode cX4_read 13 = .ok (.istore_n 3, 1)) rfl (by decide)) ?_
  refine mm_fc (ss_sipush hx hb (by decide +kernel : decode cX4_read 14 = .ok (.sipush 256, 3)) (by decide)) ?_
  refine mm_fc (ss_aload_n hx hb (by decide +kernel : decode cX4_read 17 = .ok (.aload_n 1, 1)) rfl) ?_
  refine mm_fc (ss_iconst hx hb (by decide +kernel : decode cX4_read 18 = .ok (.iconst 0, 1)) (by decide)) ?_
  refine mm_fc (ss_callV X rfl rfl wd_2_198 wd_1_2 wd_6_20 wd_2_196 wd_2_197 (by decide +kernel) (by decide +kernel) (by decide) (by decide +kernel : decode cX4_read 19 = .ok (.invokevirtual 53, 3))) ?_
  refine mm_fc (ss_imul hx hb (by decide +kernel : decode cX4_read 22 = .ok (.imul, 1))) ?_
  refine mm_fc (ss_aload_n hx hb (by decide +kernel : decode cX4_read 23 = .ok (.aload_n 1, 1)) rfl) ?_
  refine mm_fc (ss_iconst hx hb (by decide +kernel : decode cX4_read 24 = .ok (.iconst 1, 1)) (by decide)) ?_
  refine mm_fc (ss_callV X rfl rfl wd_2_198 wd_1_2 wd_6_20 wd_2_196 wd_2_197 (by decide +kernel) (by decide +kernel) (by decide) (by decide +kernel : decode cX4_read 25 = .ok (.invokevirtual 53, 3))) ?_
  refine mm_fc (ss_iadd hx hb (by decide +kernel : decode cX4_read 28 = .ok (.iadd, 1))) ?_
  refine mm_fc (ss_istore hx hb (by decide +kernel : decode cX4_read 29 = .ok (.istore 4, 2)) (by decide)) ?_
  refine mm_fc (ss_aload_n hx hb (by decide +kernel : decode cX4_read 31 = .ok (.aload_n 1, 1)) rfl) ?_
  refine mm_fc (ss_callV X rfl rfl wd_2_143 wd_1_2 wd_6_21 wd_2_141 wd_2_142 (by decide +kernel) (by decide +kernel) (by decide) (by decide +kernel : decode cX4_read 32 = .ok (.invokevirtual 58, 3))) ?_
  refine mm_fc (ss_iload_n hx hb (by decide +kernel : decode cX4_read 35 = .ok (.iload_n 3, 1)) rfl) ?_
  refine mm_fc (ss_icmpne hx hb (by decide +kernel : decode cX4_read 36 = .ok (.if_icmp .ne 18, 3)) (by decide)) ?_
  refine mm_fc (ss_aload_n hx hb (by decide +kernel : decode cX4_read 39 = .ok (.aload_n 1, 1)) rfl) ?_
  refine mm_fc (ss_callS X rfl wd_6_24 wd_1_11 wd_6_22 wd_6_23 (by decide +kernel) (by decide +kernel) (by decide) (by decide +kernel : decode cX4_read 40 = .ok (.invokestatic 62, 3))) ?_
  refine mm_fc (ss_ifeq hx hb (by decide +kernel : decode cX4_read 43 = .ok (.ifCond .eq 11, 3)) (by decide)) ?_
  refine mm_fc (ss_iload hx hb (by decide +kernel : decode cX4_read 46 = .ok (.iload 4, 2))) ?_
  refine mm_fc (ss_sipush hx hb (by decide +kernel : decode cX4_read 48 = .ok (.sipush 999, 3)) (by decide)) ?_
  refine mm_fc (ss_icmple hx hb (by decide +kernel : decode cX4_read 51 = .ok (.if_icmp .le 5, 3)) (by decide)) ?_
  refine mm_fc (ss_iconst hx hb (by decide +kernel : decode cX4_read 54 = .ok (.iconst 0, 1)) (by decide)) ?_
  refine mm_fc (ss_zret (by decide +kernel : decode cX4_read 55 = .ok (.ireturn, 1)) rfl) ?_
  refine mm_fc (ss_aload_n hx hb (by decide +kernel : decode cX4_read 56 = .ok (.aload_n 0, 1)) rfl) ?_
  refine mm_fc (ss_get X rfl in_X4 (by decide) rfl wd_2_46 (by decide +kernel : decode cX4_read 57 = .ok (.getfield 25, 3))) ?_
  refine mm_fc (ss_aload_n hx hb (by decide +kernel : decode cX4_read 60 = .ok (.aload_n 2, 1)) rfl) ?_
  refine mm_fc (ss_callV X rfl rfl wd_4_14 wd_1_8 wd_6_25 wd_4_12 wd_4_13 (by decide +kernel) (by decide +kernel) (by decide) (by decide +kernel : decode cX4_read 61 = .ok (.invokevirtual 66, 3))) ?_
  refine mm_fc (ss_aload_n hx hb (by decide +kernel : decode cX4_read 64 = .ok (.aload_n 0, 1)) rfl) ?_
  refine mm_fc (ss_get X rfl in_X4 (by decide) rfl wd_2_46 (by decide +kernel : decode cX4_read 65 = .ok (.getfield 25, 3))) ?_
  refine mm_fc (ss_iload hx hb (by decide +kernel : decode cX4_read 68 = .ok (.iload 4, 2))) ?_
  refine mm_fc (ss_putIN X rfl in_X7 tyX7_ok nmX7 (by decide) rfl rfl rfl rfl wd_1_178 (by decide +kernel : decode cX4_read 70 = .ok (.putfield 29, 3))) ?_
  refine mm_fc (ss_aload_n hx hb (by decide +kernel : decode cX4_read 73 = .ok (.aload_n 0, 1)) rfl) ?_
  refine mm_fc (ss_get X rfl in_X4 (by decide) rfl wd_2_46 (by decide +kernel : decode cX4_read 74 = .ok (.getfield 25, 3))) ?_
  refine mm_fc (ss_iconst hx hb (by decide +kernel : decode cX4_read 77 = .ok (.iconst 0, 1)) (by decide)) ?_
  refine mm_fc (ss_putIN X rfl in_X7 tyX7_ok nmX7 (by decide) rfl rfl rfl rfl wd_1_162 (by decide +kernel : decode cX4_read 78 = .ok (.putfield 70, 3))) ?_
  refine mm_fc (ss_iconst hx hb (by decide +kernel : decode cX4_read 81 = .ok (.iconst 0, 1)) (by decide)) ?_
  refine mm_fc (ss_kill (ss_istore hx hb (by decide +kernel : decode cX4_read 82 = .ok (.istore 5, 2)) (by decide))) ?_
  refine mm_fc (ss_iload hx hb (by decide +kernel : decode cX4_read 84 = .ok (.iload 5, 2))) ?_
  refine mm_fc (ss_aload_n hx hb (by decide +kernel : decode cX4_read 86 = .ok (.aload_n 2, 1)) rfl) ?_
  refine mm_fc (ss_getN X rfl in_X7 (by decide) rfl wd_1_166 (by decide +kernel : decode cX4_read 87 = .ok (.getfield 73, 3))) ?_
  refine mm_fc (ss_icmpge hx hb (by decide +kernel : decode cX4_read 90 = .ok (.if_icmp .ge 19, 3)) (by decide)) ?_
  refine mm_fc (ss_aload_n hx hb (by decide +kernel : decode cX4_read 93 = .ok (.aload_n 0, 1)) rfl) ?_
  refine mm_fc (ss_get X rfl in_X4 (by decide) rfl wd_2_46 (by decide +kernel : decode cX4_read 94 = .ok (.getfield 25, 3))) ?_
  refine mm_fc (ss_iconst hx hb (by decide +kernel : decode cX4_read 97 = .ok (.iconst (-1), 1)) (by decide)) ?_
  refine mm_fc (ss_iload hx hb (by decide +kernel : decode cX4_read 98 = .ok (.iload 5, 2))) ?_
  refine mm_fc (ss_callV X rfl rfl wd_3_132 wd_1_8 wd_6_26 wd_3_130 wd_3_131 (by decide +kernel) (by decide +kernel) (by decide) (by decide +kernel : decode cX4_read 100 = .ok (.invokevirtual 76, 3))) ?_
  refine mm_fc (ss_iinc hx hb (by decide +kernel : decode cX4_read 103 = .ok (.iinc 5 1, 3)) (by decide) (by decide)) ?_
  refine mm_fc (ss_kill (ss_goto hx hb (by decide +kernel : decode cX4_read 106 = .ok (.goto (-22), 3)) (by decide))) ?_
  refine mm_fc (ss_iconst hx hb (by decide +kernel : decode cX4_read 109 = .ok (.iconst 0, 1)) (by decide)) ?_
  refine mm_fc (ss_kill (ss_istore hx hb (by decide +kernel : decode cX4_read 110 = .ok (.istore 5, 2)) (by decide))) ?_
  refine mm_fc (ss_iload hx hb (by decide +kernel : decode cX4_read 112 = .ok (.iload 5, 2))) ?_
  refine mm_fc (ss_aload_n hx hb (by decide +kernel : decode cX4_read 114 = .ok (.aload_n 2, 1)) rfl) ?_
  refine mm_fc (ss_getN X rfl in_X7 (by decide) rfl wd_1_172 (by decide +kernel : decode cX4_read 115 = .ok (.getfield 36, 3))) ?_
  refine mm_fc (ss_icmpge hx hb (by decide +kernel : decode cX4_read 118 = .ok (.if_icmp .ge 32, 3)) (by decide)) ?_
  refine mm_fc (ss_aload_n hx hb (by decide +kernel : decode cX4_read 121 = .ok (.aload_n 0, 1)) rfl) ?_
  refine mm_fc (ss_aload_n hx hb (by decide +kernel : decode cX4_read 122 = .ok (.aload_n 1, 1)) rfl) ?_
  refine mm_fc (ss_iconst hx hb (by decide +kernel : decode cX4_read 123 = .ok (.iconst 2, 1)) (by decide)) ?_
  refine mm_fc (ss_iload hx hb (by decide +kernel : decode cX4_read 124 = .ok (.iload 5, 2))) ?_
  refine mm_fc (ss_aload_n hx hb (by decide +kernel : decode cX4_read 126 = .ok (.aload_n 2, 1)) rfl) ?_
  refine mm_fc (ss_getN X rfl in_X7 (by decide) rfl wd_1_172 (by decide +kernel : decode cX4_read 127 = .ok (.getfield 36, 3))) ?_
  refine mm_fc (ss_iconst hx hb (by decide +kernel : decode cX4_read 130 = .ok (.iconst 2, 1)) (by decide)) ?_
  refine mm_fc (ss_iadd hx hb (by decide +kernel : decode cX4_read 131 = .ok (.iadd, 1))) ?_
  refine mm_fc (ss_imul hx hb (by decide +kernel : decode cX4_read 132 = .ok (.imul, 1))) ?_
  refine mm_fc (ss_iadd hx hb (by decide +kernel : decode cX4_read 133 = .ok (.iadd, 1))) ?_
  refine mm_fc (ss_iload hx hb (by decide +kernel : decode cX4_read 134 = .ok (.iload 5, 2))) ?_
  refine mm_fc (ss_callV X rfl rfl wd_6_30 wd_1_11 wd_6_27 wd_6_29 wd_p_45 (by decide +kernel) (by decide +kernel) (by decide) (by decide +kernel : decode cX4_read 136 = .ok (.invokevirtual 80, 3))) ?_
  refine mm_fc (ss_ifne hx hb (by decide +kernel : decode cX4_read 139 = .ok (.ifCond .ne 5, 3)) (by decide)) ?_
  refine mm_fc (ss_iconst hx hb (by decide +kernel : decode cX4_read 142 = .ok (.iconst 0, 1)) (by decide)) ?_
  refine mm_fc (ss_zret (by decide +kernel : decode cX4_read 143 = .ok (.ireturn, 1)) rfl) ?_
  refine mm_fc (ss_iinc hx hb (by decide +kernel : decode cX4_read 144 = .ok (.iinc 5 1, 3)) (by decide) (by decide)) ?_
  refine mm_fc (ss_kill (ss_goto hx hb (by decide +kernel : decode cX4_read 147 = .ok (.goto (-35), 3)) (by decide))) ?_
  refine mm_fc (ss_aload_n hx hb (by decide +kernel : decode cX4_read 150 = .ok (.aload_n 2, 1)) rfl) ?_
  refine mm_fc (ss_aload_n hx hb (by decide +kernel : decode cX4_read 151 = .ok (.aload_n 0, 1)) rfl) ?_
  refine mm_fc (ss_get X rfl in_X4 (by decide) rfl wd_2_46 (by decide +kernel : decode cX4_read 152 = .ok (.getfield 25, 3))) ?_
  refine mm_fc (ss_callV X rfl rfl wd_4_14 wd_1_8 wd_6_25 wd_4_12 wd_4_13 (by decide +kernel) (by decide +kernel) (by decide) (by decide +kernel : decode cX4_read 155 = .ok (.invokevirtual 66, 3))) ?_
  refine mm_fc (ss_iconst hx hb (by decide +kernel : decode cX4_read 158 = .ok (.iconst 1, 1)) (by decide)) ?_
  refine mm_fc (ss_zret (by decide +kernel : decode cX4_read 159 = .ok (.ireturn, 1)) rfl) ?_
  exact mm_fn
def cd_X4_isChecked : mm_K mm_H := [(0, s_pushI 149 3), (3, s_istore 1 4), (4, s_pushI 0 5), (5, s_istore 2 6), (6, s_iload 2 7), (7, s_aload 0 8), (8, s_callV 8 125 0 1 11), (11, s_pushI 1 12), (12, s_bin (fun x y => x - y) 13), (13, s_icmp (fun x y => y ≤ x) 36 16), (16, s_pushI 3 17), (17, s_iload 1 18), (18, s_bin (fun x y => x * y) 19), (19, s_aload 0 20), (20, s_iload 2 21), (21, s_callV 8 126 1 1 24), (24, s_bin (fun x y => x + y) 25), (25, s_pushI 251 28), (28, s_bin0 (fun x y => x - x / y * y) 29), (29, s_istore 1 30), (30, s_iinc 2 1 33), (33, s_goto 6), (36, s_aload 0 37), (37, s_aload 0 38), (38, s_callV 8 125 0 1 41), (41, s_pushI 1 42), (42, s_bin (fun x y => x - y) 43), (43, s_callV 8 126 1 1 46), (46, s_iload 1 47), (47, s_icmp (fun x y => ¬ x = y) 54 50), (50, s_pushI 1 51), (51, s_goto 55), (54, s_pushI 0 55), (55, s_zret)]
set_option maxRecDepth 100000 in
set_option maxHeartbeats 4000000 in
theorem ok_X4_isChecked (l : Launch) : mm_CodeOK l mm_I0 RX4 cX4_isChecked 3 (some .boolean) cd_X4_isChecked := by
  intro p e R s m args below meth c Q σ cA D A kc ks d C X
  have hx := X.1
  have hb := X.2.1
  have hown := X.2.2.2.1
  have hts := X.2.2.2.2.1
  refine mm_fc (ss_sipush hx hb (by decide +kernel : decode cX4_isChecked 0 = .ok (.sipush 149, 3)) (by decide)) ?_
  refine mm_fc (ss_istore_n hx hb (by decide +kernel : decode cX4_isChecked 3 = .ok (.istore_n 1, 1)) rfl (by decide)) ?_
  refine mm_fc (ss_iconst hx hb (by decide +kernel : decode cX4_isChecked 4 = .ok (.iconst 0, 1)) (by decide)) ?_
  refine mm_fc (ss_istore_n hx hb (by decide +kernel : decode cX4_isChecked 5 = .ok (.istore_n 2, 1)) rfl (by decide)) ?_
  refine mm_fc (ss_iload_n hx hb (by decide +kernel : decode cX4_isChecked 6 = .ok (.iload_n 2, 1)) rfl) ?_
  refine mm_fc (ss_aload_n hx hb (by decide +kernel : decode cX4_isChecked 7 = .ok (.aload_n 0, 1)) rfl) ?_
  refine mm_fc (ss_callV X rfl rfl wd_2_143 wd_1_2 wd_6_21 wd_2_141 wd_2_142 (by decide +kernel) (by decide +kernel) (by decide) (by decide +kernel : decode cX4_isChecked 8 = .ok (.invokevirtual 58, 3))) ?_
  refine mm_fc (ss_iconst hx hb (by decide +kernel : decode cX4_isChecked 11 = .ok (.iconst 1, 1)) (by decide)) ?_
  refine mm_fc (ss_isub hx hb (by decide +kernel : decode cX4_isChecked 12 = .ok (.isub, 1))) ?_
  refine mm_fc (ss_icmpge hx hb (by decide +kernel : decode cX4_isChecked 13 = .ok (.if_icmp .ge 23, 3)) (by decide)) ?_
  refine mm_fc (ss_iconst hx hb (by decide +kernel : decode cX4_isChecked 16 = .ok (.iconst 3, 1)) (by decide)) ?_
  refine mm_fc (ss_iload_n hx hb (by decide +kernel : decode cX4_isChecked 17 = .ok (.iload_n 1, 1)) rfl) ?_
  refine mm_fc (ss_imul hx hb (by decide +kernel : decode cX4_isChecked 18 = .ok (.imul, 1))) ?_
  refine mm_fc (ss_aload_n hx hb (by decide +kernel : decode cX4_isChecked 19 = .ok (.aload_n 0, 1)) rfl) ?_
  refine mm_fc (ss_iload_n hx hb (by decide +kernel : decode cX4_isChecked 20 = .ok (.iload_n 2, 1)) rfl) ?_
  refine mm_fc (ss_callV X rfl rfl wd_2_198 wd_1_2 wd_6_20 wd_2_196 wd_2_197 (by decide +kernel) (by decide +kernel) (by decide) (by decide +kernel : decode cX4_isChecked 21 = .ok (.invokevirtual 53, 3))) ?_
  refine mm_fc (ss_iadd hx hb (by decide +kernel : decode cX4_isChecked 24 = .ok (.iadd, 1))) ?_
  refine mm_fc (ss_sipush hx hb (by decide +kernel : decode cX4_isChecked 25 = .ok (.sipush 251, 3)) (by decide)) ?_
  refine mm_fc (ss_irem hx hb (by decide +kernel : decode cX4_isChecked 28 = .ok (.irem, 1))) ?_
  refine mm_fc (ss_istore_n hx hb (by decide +kernel : decode cX4_isChecked 29 = .ok (.istore_n 1, 1)) rfl (by decide)) ?_
  refine mm_fc (ss_iinc hx hb (by decide +kernel : decode cX4_isChecked 30 = .ok (.iinc 2 1, 3)) (by decide) (by decide)) ?_
  refine mm_fc (ss_goto hx hb (by decide +kernel : decode cX4_isChecked 33 = .ok (.goto (-27), 3)) (by decide)) ?_
  refine mm_fc (ss_aload_n hx hb (by decide +kernel : decode cX4_isChecked 36 = .ok (.aload_n 0, 1)) rfl) ?_
  refine mm_fc (ss_aload_n hx hb (by decide +kernel : decode cX4_isChecked 37 = .ok (.aload_n 0, 1)) rfl) ?_
  refine mm_fc (ss_callV X rfl rfl wd_2_143 wd_1_2 wd_6_21 wd_2_141 wd_2_142 (by decide +kernel) (by decide +kernel) (by decide) (by decide +kernel : decode cX4_isChecked 38 = .ok (.invokevirtual 58, 3))) ?_
  refine mm_fc (ss_iconst hx hb (by decide +kernel : decode cX4_isChecked 41 = .ok (.iconst 1, 1)) (by decide)) ?_
  refine mm_fc (ss_isub hx hb (by decide +kernel : decode cX4_isChecked 42 = .ok (.isub, 1))) ?_
  refine mm_fc (ss_callV X rfl rfl wd_2_198 wd_1_2 wd_6_20 wd_2_196 wd_2_197 (by decide +kernel) (by decide +kernel) (by decide) (by decide +kernel : decode cX4_isChecked 43 = .ok (.invokevirtual 53, 3))) ?_
  refine mm_fc (ss_iload_n hx hb (by decide +kernel : decode cX4_isChecked 46 = .ok (.iload_n 1, 1)) rfl) ?_
  refine mm_fc (ss_icmpne hx hb (by decide +kernel : decode cX4_isChecked 47 = .ok (.if_icmp .ne 7, 3)) (by decide)) ?_
  refine mm_fc (ss_iconst hx hb (by decide +kernel : decode cX4_isChecked 50 = .ok (.iconst 1, 1)) (by decide)) ?_
  refine mm_fc (ss_goto hx hb (by decide +kernel : decode cX4_isChecked 51 = .ok (.goto 4, 3)) (by decide)) ?_
  refine mm_fc (ss_iconst hx hb (by decide +kernel : decode cX4_isChecked 54 = .ok (.iconst 0, 1)) (by decide)) ?_
  refine mm_fc (ss_zret (by decide +kernel : decode cX4_isChecked 55 = .ok (.ireturn, 1)) rfl) ?_
  exact mm_fn
