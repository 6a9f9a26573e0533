def cd_X12_keeps : mm_K mm_H := [(0, s_aload 0 1), (1, s_aload 0 2), (2, s_get 12 74 5), (5, s_pushI 1 6), (6, s_bin (fun x y => x + y) 7), (7, s_pushI 20 9), (9, s_bin0 (fun x y => x - x / y * y) 10), (10, s_putI 12 74 13), (13, s_pushI 0 14), (14, s_istore 1 15), (15, s_iload 1 16), (16, s_pushI 210 19), (19, s_icmp (fun x y => y ≤ x) 49 22), (22, s_aload 0 23), (23, s_get 12 72 26), (26, s_pushI 210 29), (29, s_aload 0 30), (30, s_get 12 74 33), (33, s_bin (fun x y => x * y) 34), (34, s_iload 1 35), (35, s_bin (fun x y => x + y) 36), (36, s_aload 0 37), (37, s_get 12 55 40), (40, s_iload 1 41), (41, s_iald 42), (42, s_iast 43), (43, s_iinc 1 1 46), (46, s_goto 15), (49, s_aload 0 50), (50, s_get 12 73 53), (53, s_pushI 20 55), (55, s_icmp (fun x y => y ≤ x) 68 58), (58, s_aload 0 59), (59, s_dup 60), (60, s_get 12 73 63), (63, s_pushI 1 64), (64, s_bin (fun x y => x + y) 65), (65, s_putI 12 73 68), (68, s_vret)]
set_option maxRecDepth 100000 in
set_option maxHeartbeats 4000000 in
theorem ok_X12_keeps (l : Launch) : mm_CodeOK l mm_I0 RX12 cX12_keeps 2 none cd_X12_keeps := by
  intro p e R s m args below meth c Q σ cA D A kc ks d C X
  have hx := X.1
  have hb := X.2.1
  have hown := X.2.2.2.1
  have hts := X.2.2.2.2.1
  refine mm_fc (ss_aload_n hx hb (by decide +kernel : decode cX12_keeps 0 = .ok (.aload_n 0, 1)) rfl) ?_
  refine mm_fc (ss_aload_n hx hb (by decide +kernel : decode cX12_keeps 1 = .ok (.aload_n 0, 1)) rfl) ?_
  refine mm_fc (ss_get X rfl in_X12 (by decide) rfl wd_6_120 (by decide +kernel : decode cX12_keeps 2 = .ok (.getfield 579, 3))) ?_
  refine mm_fc (ss_iconst hx hb (by decide +kernel : decode cX12_keeps 5 = .ok (.iconst 1, 1)) (by decide)) ?_
  refine mm_fc (ss_iadd hx hb (by decide +kernel : decode cX12_keeps 6 = .ok (.iadd, 1))) ?_
  refine mm_fc (ss_bipush hx hb (by decide +kernel : decode cX12_keeps 7 = .ok (.bipush 20, 2)) (by decide)) ?_
  refine mm_fc (ss_irem hx hb (by decide +kernel : decode cX12_keeps 9 = .ok (.irem, 1))) ?_
  refine mm_fc (ss_putI X rfl in_X12 tyX12_ok nmX12 (by decide) rfl rfl rfl rfl wd_6_120 (by decide +kernel : decode cX12_keeps 10 = .ok (.putfield 579, 3))) ?_
  refine mm_fc (ss_iconst hx hb (by decide +kernel : decode cX12_keeps 13 = .ok (.iconst 0, 1)) (by decide)) ?_
  refine mm_fc (ss_istore_n hx hb (by decide +kernel : decode cX12_keeps 14 = .ok (.istore_n 1, 1)) rfl (by decide)) ?_
  refine mm_fc (ss_iload_n hx hb (by decide +kernel : decode cX12_keeps 15 = .ok (.iload_n 1, 1)) rfl) ?_
  refine mm_fc (ss_sipush hx hb (by decide +kernel : decode cX12_keeps 16 = .ok (.sipush 210, 3)) (by decide)) ?_
  refine mm_fc (ss_icmpge hx hb (by decide +kernel : decode cX12_keeps 19 = .ok (.if_icmp .ge 30, 3)) (by decide)) ?_
  refine mm_fc (ss_aload_n hx hb (by decide +kernel : decode cX12_keeps 22 = .ok (.aload_n 0, 1)) rfl) ?_
  refine mm_fc (ss_get X rfl in_X12 (by decide) rfl wd_6_118 (by decide +kernel : decode cX12_keeps 23 = .ok (.getfield 140, 3))) ?_
  refine mm_fc (ss_sipush hx hb (by decide +kernel : decode cX12_keeps 26 = .ok (.sipush 210, 3)) (by decide)) ?_
  refine mm_fc (ss_aload_n hx hb (by decide +kernel : decode cX12_keeps 29 = .ok (.aload_n 0, 1)) rfl) ?_
  refine mm_fc (ss_get X rfl in_X12 (by decide) rfl wd_6_120 (by decide +kernel : decode cX12_keeps 30 = .ok (.getfield 579, 3))) ?_
  refine mm_fc (ss_imul hx hb (by decide +kernel : decode cX12_keeps 33 = .ok (.imul, 1))) ?_
  refine mm_fc (ss_iload_n hx hb (by decide +kernel : decode cX12_keeps 34 = .ok (.iload_n 1, 1)) rfl) ?_
  refine mm_fc (ss_iadd hx hb (by decide +kernel : decode cX12_keeps 35 = .ok (.iadd, 1))) ?_
  refine mm_fc (ss_aload_n hx hb (by decide +kernel : decode cX12_keeps 36 = .ok (.aload_n 0, 1)) rfl) ?_
  refine mm_fc (ss_get X rfl in_X12 (by decide) rfl wd_6_101 (by decide +kernel : decode cX12_keeps 37 = .ok (.getfield 121, 3))) ?_
  refine mm_fc (ss_iload_n hx hb (by decide +kernel : decode cX12_keeps 40 = .ok (.iload_n 1, 1)) rfl) ?_
  refine mm_fc (ss_iald X (by decide +kernel : decode cX12_keeps 41 = .ok (.iaload, 1))) ?_
  refine mm_fc (ss_iast X (by decide +kernel : decode cX12_keeps 42 = .ok (.iastore, 1))) ?_
  refine mm_fc (ss_iinc hx hb (by decide +kernel : decode cX12_keeps 43 = .ok (.iinc 1 1, 3)) (by decide) (by decide)) ?_
  refine mm_fc (ss_goto hx hb (by decide +kernel : decode cX12_keeps 46 = .ok (.goto (-31), 3)) (by decide)) ?_
  refine mm_fc (ss_aload_n hx hb (by decide +kernel : decode cX12_keeps 49 = .ok (.aload_n 0, 1)) rfl) ?_
  refine mm_fc (ss_get X rfl in_X12 (by decide) rfl wd_6_119 (by decide +kernel : decode cX12_keeps 50 = .ok (.getfield 388, 3))) ?_
  refine mm_fc (ss_bipush hx hb (by decide +kernel : decode cX12_keeps 53 = .ok (.bipush 20, 2)) (by decide)) ?_
  refine mm_fc (ss_icmpge hx hb (by decide +kernel : decode cX12_keeps 55 = .ok (.if_icmp .ge 13, 3)) (by decide)) ?_
  refine mm_fc (ss_aload_n hx hb (by decide +kernel : decode cX12_keeps 58 = .ok (.aload_n 0, 1)) rfl) ?_
  refine mm_fc (ss_dup hx hb (by decide +kernel : decode cX12_keeps 59 = .ok (.dup, 1))) ?_
  refine mm_fc (ss_get X rfl in_X12 (by decide) rfl wd_6_119 (by decide +kernel : decode cX12_keeps 60 = .ok (.getfield 388, 3))) ?_
  refine mm_fc (ss_iconst hx hb (by decide +kernel : decode cX12_keeps 63 = .ok (.iconst 1, 1)) (by decide)) ?_
  refine mm_fc (ss_iadd hx hb (by decide +kernel : decode cX12_keeps 64 = .ok (.iadd, 1))) ?_
  refine mm_fc (ss_putI X rfl in_X12 tyX12_ok nmX12 (by decide) rfl rfl rfl rfl wd_6_119 (by decide +kernel : decode cX12_keeps 65 = .ok (.putfield 388, 3))) ?_
  refine mm_fc (ss_vret (by decide +kernel : decode cX12_keeps 68 = .ok (.return_, 1)) rfl) ?_
  exact mm_fn
def cd_X12_undo : mm_K mm_H := [(0, s_aload 0 1), (1, s_get 12 73 4), (4, s_if (fun x => ¬ x = 0) 19 7), (7, s_aload 0 8), (8, s_get 12 9 11), (11, s_pushI 4 12), (12, s_dup2 13), (13, s_iald 14), (14, s_pushI 1 15), (15, s_bin (fun x y => x + y) 16), (16, s_iast 17), (17, s_pushI 0 18), (18, s_zret), (19, s_pushI 0 20), (20, s_istore 1 21), (21, s_iload 1 22), (22, s_pushI 210 25), (25, s_icmp (fun x y => y ≤ x) 55 28), (28, s_aload 0 29), (29, s_get 12 55 32), (32, s_iload 1 33), (33, s_aload 0 34), (34, s_get 12 72 37), (37, s_pushI 210 40), (40, s_aload 0 41), (41, s_get 12 74 44), (44, s_bin (fun x y => x * y) 45), (45, s_iload 1 46), (46, s_bin (fun x y => x + y) 47), (47, s_iald 48), (48, s_iast 49), (49, s_iinc 1 1 52), (52, s_goto 21), (55, s_aload 0 56), (56, s_aload 0 57), (57, s_get 12 74 60), (60, s_pushI 20 62), (62, s_bin (fun x y => x + y) 63), (63, s_pushI 1 64), (64, s_bin (fun x y => x - y) 65), (65, s_pushI 20 67), (67, s_bin0 (fun x y => x - x / y * y) 68), (68, s_putI 12 74 71), (71, s_aload 0 72), (72, s_dup 73), (73, s_get 12 73 76), (76, s_pushI 1 77), (77, s_bin (fun x y => x - y) 78), (78, s_putI 12 73 81), (81, s_pushI 1 82), (82, s_zret)]
set_option maxRecDepth 100000 in
set_option maxHeartbeats 4000000 in
theorem ok_X12_undo (l : Launch) : mm_CodeOK l mm_I0 RX12 cX12_undo 2 (some .boolean) cd_X12_undo := by
  intro p e R s m args below meth c Q σ cA D A kc ks d C X
  have hx := X.1
  have hb := X.2.1
  have hown := X.2.2.2.1
  have hts := X.2.2.2.2.1
  refine mm_fc (ss_aload_n hx hb (by decide +kernel : decode cX12_undo 0 = .ok (.aload_n 0, 1)) rfl) ?_
  refine mm_fc (ss_get X rfl in_X12 (by decide) rfl wd_6_119 (by decide +kernel : decode cX12_undo 1 = .ok (.getfield 388, 3))) ?_
  refine mm_fc (ss_ifne hx hb (by decide +kernel : decode cX12_undo 4 = .ok (.ifCond .ne 15, 3)) (by decide)) ?_
  refine mm_fc (ss_aload_n hx hb (by decide +kernel : decode cX12_undo 7 = .ok (.aload_n 0, 1)) rfl) ?_
  refine mm_fc (ss_get X rfl in_X12 (by decide) rfl wd_6_55 (by decide +kernel : decode cX12_undo 8 = .ok (.getfield 17, 3))) ?_
  refine mm_fc (ss_iconst hx hb (by decide +kernel : decode cX12_undo 11 = .ok (.iconst 4, 1)) (by decide)) ?_
  refine mm_fc (ss_dup2 hx hb (by decide +kernel : decode cX12_undo 12 = .ok (.dup2, 1))) ?_
  refine mm_fc (ss_iald X (by decide +kernel : decode cX12_undo 13 = .ok (.iaload, 1))) ?_
  refine mm_fc (ss_iconst hx hb (by decide +kernel : decode cX12_undo 14 = .ok (.iconst 1, 1)) (by decide)) ?_
  refine mm_fc (ss_iadd hx hb (by decide +kernel : decode cX12_undo 15 = .ok (.iadd, 1))) ?_
  refine mm_fc (ss_iast X (by decide +kernel : decode cX12_undo 16 = .ok (.iastore, 1))) ?_
  refine mm_fc (ss_iconst hx hb (by decide +kernel : decode cX12_undo 17 = .ok (.iconst 0, 1)) (by decide)) ?_
  refine mm_fc (ss_zret (by decide +kernel : decode cX12_undo 18 = .ok (.ireturn, 1)) rfl) ?_
  refine mm_fc (ss_iconst hx hb (by decide +kernel : decode cX12_undo 19 = .ok (.iconst 0, 1)) (by decide)) ?_
  refine mm_fc (ss_istore_n hx hb (by decide +kernel : decode cX12_undo 20 = .ok (.istore_n 1, 1)) rfl (by decide)) ?_
  refine mm_fc (ss_iload_n hx hb (by decide +kernel : decode cX12_undo 21 = .ok (.iload_n 1, 1)) rfl) ?_
  refine mm_fc (ss_sipush hx hb (by decide +kernel : decode cX12_undo 22 = .ok (.sipush 210, 3)) (by decide)) ?_
  refine mm_fc (ss_icmpge hx hb (by decide +kernel : decode cX12_undo 25 = .ok (.if_icmp .ge 30, 3)) (by decide)) ?_
  refine mm_fc (ss_aload_n hx hb (by decide +kernel : decode cX12_undo 28 = .ok (.aload_n 0, 1)) rfl) ?_
  refine mm_fc (ss_get X rfl in_X12 (by decide) rfl wd_6_101 (by decide +kernel : decode cX12_undo 29 = .ok (.getfield 121, 3))) ?_
  refine mm_fc (ss_iload_n hx hb (by decide +kernel : decode cX12_undo 32 = .ok (.iload_n 1, 1)) rfl) ?_
  refine mm_fc (ss_aload_n hx hb (by decide +kernel : decode cX12_undo 33 = .ok (.aload_n 0, 1)) rfl) ?_
  refine mm_fc (ss_get X rfl in_X12 (by decide) rfl wd_6_118 (by decide +kernel : decode cX12_undo 34 = .ok (.getfield 140, 3))) ?_
  refine mm_fc (ss_sipush hx hb (by decide +kernel : decode cX12_undo 37 = .ok (.sipush 210, 3)) (by decide)) ?_
  refine mm_fc (ss_aload_n hx hb (by decide +kernel : decode cX12_undo 40 = .ok (.aload_n 0, 1)) rfl) ?_
  refine mm_fc (ss_get X rfl in_X12 (by decide) rfl wd_6_120 (by decide +kernel : decode cX12_undo 41 = .ok (.getfield 579, 3))) ?_
  refine mm_fc (ss_imul hx hb (by decide +kernel : decode cX12_undo 44 = .ok (.imul, 1))) ?_
  refine mm_fc (ss_iload_n hx hb (by decide +kernel : decode cX12_undo 45 = .ok (.iload_n 1, 1)) rfl) ?_
  refine mm_fc (ss_iadd hx hb (by decide +kernel : decode cX12_undo 46 = .ok (.iadd, 1))) ?_
  refine mm_fc (ss_iald X (by decide +kernel : decode cX12_undo 47 = .ok (.iaload, 1))) ?_
  refine mm_fc (ss_iast X (by decide +kernel : decode cX12_undo 48 = .ok (.iastore, 1))) ?_
  refine mm_fc (ss_iinc hx hb (by decide +kernel : decode cX12_undo 49 = .ok (.iinc 1 1, 3)) (by decide) (by decide)) ?_
  refine mm_fc (ss_goto hx hb (by decide +kernel : decode cX12_undo 52 = .ok (.goto (-31), 3)) (by decide)) ?_
  refine mm_fc (ss_aload_n hx hb (by decide +kernel : decode cX12_undo 55 = .ok (.aload_n 0, 1)) rfl) ?_
  refine mm_fc (ss_aload_n hx hb (by decide +kernel : decode cX12_undo 56 = .ok (.aload_n 0, 1)) rfl) ?_
  refine mm_fc (ss_get X rfl in_X12 (by decide) rfl wd_6_120 (by decide +kernel : decode cX12_undo 57 = .ok (.getfield 579, 3))) ?_
  refine mm_fc (ss_bipush hx hb (by decide +kernel : decode cX12_undo 60 = .ok (.bipush 20, 2)) (by decide)) ?_
  refine mm_fc (ss_iadd hx hb (by decide +kernel : decode cX12_undo 62 = .ok (.iadd, 1))) ?_
  refine mm_fc (ss_iconst hx hb (by decide +kernel : decode cX12_undo 63 = .ok (.iconst 1, 1)) (by decide)) ?_
  refine mm_fc (ss_isub hx hb (by decide +kernel : decode cX12_undo 64 = .ok (.isub, 1))) ?_
  refine mm_fc (ss_bipush hx hb (by decide +kernel : decode cX12_undo 65 = .ok (.bipush 20, 2)) (by decide)) ?_
  refine mm_fc (ss_irem hx hb (by decide +kernel : decode cX12_undo 67 = .ok (.irem, 1))) ?_
  refine mm_fc (ss_putI X rfl in_X12 tyX12_ok nmX12 (by decide) rfl rfl rfl rfl wd_6_120 (by decide +kernel : decode cX12_undo 68 = .ok (.putfield 579, 3))) ?_
  refine mm_fc (ss_aload_n hx hb (by decide +kernel : decode cX12_undo 71 = .ok (.aload_n 0, 1)) rfl) ?_
  refine mm_fc (ss_dup hx hb (by decide +kernel : decode cX12_undo 72 = .ok (.dup, 1))) ?_
  refine mm_fc (ss_get X rfl in_X12 (by decide) rfl wd_6_119 (by decide +kernel : decode cX12_undo 73 = .ok (.getfield 388, 3))) ?_
  refine mm_fc (ss_iconst hx hb (by decide +kernel : decode cX12_undo 76 = .ok (.iconst 1, 1)) (by decide)) ?_
  refine mm_fc (ss_isub hx hb (by decide +kernel : decode cX12_undo 77 = .ok (.isub, 1))) ?_
  refine mm_fc (ss_putI X rfl in_X12 tyX12_ok nmX12 (by decide) rfl rfl rfl rfl wd_6_119 (by decide +kernel : decode cX12_undo 78 = .ok (.putfield 388, 3))) ?_
  refine mm_fc (ss_iconst hx hb (by decide +kernel : decode cX12_undo 81 = .ok (.iconst 1, 1)) (by decide)) ?_
  refine mm_fc (ss_zret (by decide +kernel : decode cX12_undo 82 = .ok (.ireturn, 1)) rfl) ?_
  exact mm_fn
def cd_X12_isRefused : mm_K mm_H := [(0, s_aload 0 1), (1, s_get 12 9 4), (4, s_pushI 2 5), (5, s_dup2 6), (6, s_iald 7), (7, s_pushI 1 8), (8, s_bin (fun x y => x + y) 9), (9, s_iast 10), (10, s_pushI 0 11), (11, s_zret)]
set_option maxRecDepth 100000 in
set_option maxHeartbeats 4000000 in
theorem ok_X12_isRefused (l : Launch) : mm_CodeOK l mm_I0 RX12 cX12_isRefused 1 (some .boolean) cd_X12_isRefused := by
  intro p e R s m args below meth c Q σ cA D A kc ks d C X
  have hx := X.1
  have hb := X.2.1
  have hown := X.2.2.2.1
  have hts := X.2.2.2.2.1
  refine mm_fc (ss_aload_n hx hb (by decide +kernel : decode cX12_isRefused 0 = .ok (.aload_n 0, 1)) rfl) ?_
  refine mm_fc (ss_get X rfl in_X12 (by decide) rfl wd_6_55 (by decide +kernel : decode cX12_isRefused 1 = .ok (.getfield 17, 3))) ?_
  refine mm_fc (ss_iconst hx hb (by decide +kernel : decode cX12_isRefused 4 = .ok (.iconst 2, 1)) (by decide)) ?_
  refine mm_fc (ss_dup2 hx hb (by decide +kernel : decode cX12_isRefused 5 = .ok (.dup2, 1))) ?_
  refine mm_fc (ss_iald X (by decide +kernel : decode cX12_isRefused 6 = .ok (.iaload, 1))) ?_
  refine mm_fc (ss_iconst hx hb (by decide +kernel : decode cX12_isRefused 7 = .ok (.iconst 1, 1)) (by decide)) ?_
  refine mm_fc (ss_iadd hx hb (by decide +kernel : decode cX12_isRefused 8 = .ok (.iadd, 1))) ?_
  refine mm_fc (ss_iast X (by decide +kernel : decode cX12_isRefused 9 = .ok (.iastore, 1))) ?_
  refine mm_fc (ss_iconst hx hb (by decide +kernel : decode cX12_isRefused 10 = .ok (.iconst 0, 1)) (by decide)) ?_
  refine mm_fc (ss_zret (by decide +kernel : decode cX12_isRefused 11 = .ok (.ireturn, 1)) rfl) ?_
  exact mm_fn
def cd_X12_change : mm_K mm_H := [(0, s_aload 0 1), (1, s_iload 1 2), (2, s_callV 12 217 1 1 5), (5, s_if (fun x => x = 0) 39 8), (8, s_aload 0 9), (9, s_iload 2 10), (10, s_callV 12 217 1 1 13), (13, s_if (fun x => x = 0) 39 16), (16, s_iload 1 17), (17, s_iload 2 18), (18, s_icmp (fun x y => x = y) 39 21), (21, s_aload 0 22), (22, s_iload 1 23), (23, s_callV 12 224 1 1 26), (26, s_pushI (-1) 27), (27, s_icmp (fun x y => ¬ x = y) 44 30), (30, s_aload 0 31), (31, s_iload 2 32), (32, s_callV 12 224 1 1 35), (35, s_pushI (-1) 36), (36, s_icmp (fun x y => ¬ x = y) 44 39), (39, s_aload 0 40), (40, s_callV 12 277 0 1 43), (43, s_zret), (44, s_aload 0 45), (45, s_callV 12 275 0 0 48), (48, s_aload 0 49), (49, s_iload 1 50), (50, s_iload 2 51), (51, s_callV 12 256 2 0 54), (54, s_pushI 1 55), (55, s_zret)]
set_option maxRecDepth 100000 in
set_option maxHeartbeats 4000000 in
theorem ok_X12_change (l : Launch) : mm_CodeOK l mm_I0 RX12 cX12_change 3 (some .boolean) cd_X12_change := by
  intro p e R s m args below meth c Q σ cA D A kc ks d C X
  have hx := X.1
  have hb := X.2.1
  have hown := X.2.2.2.1
  have hts := X.2.2.2.2.1
  refine mm_fc (ss_aload_n hx hb (by decide +kernel : decode cX12_change 0 = .ok (.aload_n 0, 1)) rfl) ?_
  refine mm_fc (ss_iload_n hx hb (by decide +kernel : decode cX12_change 1 = .ok (.iload_n 1, 1)) rfl) ?_
  refine mm_fc (ss_callV X rfl rfl wd_8_182 wd_1_13 wd_8_179 wd_8_181 wd_p_101 (by decide +kernel) (by decide +kernel) (by decide) (by decide +kernel : decode cX12_change 2 = .ok (.invokevirtual 516, 3))) ?_
  refine mm_fc (ss_ifeq hx hb (by decide +kernel : decode cX12_change 5 = .ok (.ifCond .eq 34, 3)) (by decide)) ?_
  refine mm_fc (ss_aload_n hx hb (by decide +kernel : decode cX12_change 8 = .ok (.aload_n 0, 1)) rfl) ?_
  refine mm_fc (ss_iload_n hx hb (by decide +kernel : decode cX12_change 9 = .ok (.iload_n 2, 1)) rfl) ?_
  refine mm_fc (ss_callV X rfl rfl wd_8_182 wd_1_13 wd_8_179 wd_8_181 wd_p_101 (by decide +kernel) (by decide +kernel) (by decide) (by decide +kernel : decode cX12_change 10 = .ok (.invokevirtual 516, 3))) ?_
  refine mm_fc (ss_ifeq hx hb (by decide +kernel : decode cX12_change 13 = .ok (.ifCond .eq 26, 3)) (by decide)) ?_
  refine mm_fc (ss_iload_n hx hb (by decide +kernel : decode cX12_change 16 = .ok (.iload_n 1, 1)) rfl) ?_
  refine mm_fc (ss_iload_n hx hb (by decide +kernel : decode cX12_change 17 = .ok (.iload_n 2, 1)) rfl) ?_
  refine mm_fc (ss_icmpeq hx hb (by decide +kernel : decode cX12_change 18 = .ok (.if_icmp .eq 21, 3)) (by decide)) ?_
  refine mm_fc (ss_aload_n hx hb (by decide +kernel : decode cX12_change 21 = .ok (.aload_n 0, 1)) rfl) ?_
  refine mm_fc (ss_iload_n hx hb (by decide +kernel : decode cX12_change 22 = .ok (.iload_n 1, 1)) rfl) ?_
  refine mm_fc (ss_callV X rfl rfl wd_8_117 wd_1_13 wd_8_114 wd_8_116 wd_p_89 (by decide +kernel) (by decide +kernel) (by decide) (by decide +kernel : decode cX12_change 23 = .ok (.invokevirtual 406, 3))) ?_
  refine mm_fc (ss_iconst hx hb (by decide +kernel : decode cX12_change 26 = .ok (.iconst (-1), 1)) (by decide)) ?_
  refine mm_fc (ss_icmpne hx hb (by decide +kernel : decode cX12_change 27 = .ok (.if_icmp .ne 17, 3)) (by decide)) ?_
  refine mm_fc (ss_aload_n hx hb (by decide +kernel : decode cX12_change 30 = .ok (.aload_n 0, 1)) rfl) ?_
  refine mm_fc (ss_iload_n hx hb (by decide +kernel : decode cX12_change 31 = .ok (.iload_n 2, 1)) rfl) ?_
  refine mm_fc (ss_callV X rfl rfl wd_8_117 wd_1_13 wd_8_114 wd_8_116 wd_p_89 (by decide +kernel) (by decide +kernel) (by decide) (by decide +kernel : decode cX12_change 32 = .ok (.invokevirtual 406, 3))) ?_
  refine mm_fc (ss_iconst hx hb (by decide +kernel : decode cX12_change 35 = .ok (.iconst (-1), 1)) (by decide)) ?_
  refine mm_fc (ss_icmpne hx hb (by decide +kernel : decode cX12_change 36 = .ok (.if_icmp .ne 8, 3)) (by decide)) ?_
  refine mm_fc (ss_aload_n hx hb (by decide +kernel : decode cX12_change 39 = .ok (.aload_n 0, 1)) rfl) ?_
  refine mm_fc (ss_callV X rfl rfl wd_9_122 wd_1_13 wd_9_119 wd_9_121 wd_p_126 (by decide +kernel) (by decide +kernel) (by decide) (by decide +kernel : decode cX12_change 40 = .ok (.invokevirtual 582, 3))) ?_
  refine mm_fc (ss_zret (by decide +kernel : decode cX12_change 43 = .ok (.ireturn, 1)) rfl) ?_
  refine mm_fc (ss_aload_n hx hb (by decide +kernel : decode cX12_change 44 = .ok (.aload_n 0, 1)) rfl) ?_
  refine mm_fc (ss_callV X rfl rfl wd_9_126 wd_1_13 wd_9_123 wd_9_125 wd_p_127 (by decide +kernel) (by decide +kernel) (by decide) (by decide +kernel : decode cX12_change 45 = .ok (.invokevirtual 585, 3))) ?_
  refine mm_fc (ss_aload_n hx hb (by decide +kernel : decode cX12_change 48 = .ok (.aload_n 0, 1)) rfl) ?_
  refine mm_fc (ss_iload_n hx hb (by decide +kernel : decode cX12_change 49 = .ok (.iload_n 1, 1)) rfl) ?_
  refine mm_fc (ss_iload_n hx hb (by decide +kernel : decode cX12_change 50 = .ok (.iload_n 2, 1)) rfl) ?_
  refine mm_fc (ss_callV X rfl rfl wd_9_38 wd_1_13 wd_9_35 wd_9_37 wd_p_115 (by decide +kernel) (by decide +kernel) (by decide) (by decide +kernel : decode cX12_change 51 = .ok (.invokevirtual 537, 3))) ?_
  refine mm_fc (ss_iconst hx hb (by decide +kernel : decode cX12_change 54 = .ok (.iconst 1, 1)) (by decide)) ?_
  refine mm_fc (ss_zret (by decide +kernel : decode cX12_change 55 = .ok (.ireturn, 1)) rfl) ?_
  exact mm_fn
def cd_X12_right : mm_K mm_H := [(0, s_aload 0 1), (1, s_iload 1 2), (2, s_i2l 3), (3, s_callV 12 214 1 1 6), (6, s_if (fun x => x = 0) 25 9), (9, s_aload 0 10), (10, s_iload 1 11), (11, s_callV 12 219 1 1 14), (14, s_pushI 10 16), (16, s_aload 0 17), (17, s_iload 1 18), (18, s_callV 12 221 1 1 21), (21, s_bin (fun x y => x * y) 22), (22, s_icmp (fun x y => ¬ x = y) 30 25), (25, s_aload 0 26), (26, s_callV 12 277 0 1 29), (29, s_zret), (30, s_aload 0 31), (31, s_callV 12 275 0 0 34), (34, s_aload 0 35), (35, s_get 12 55 38), (38, s_pushI 2 39), (39, s_pushI 3 40), (40, s_iload 1 41), (41, s_bin (fun x y => x * y) 42), (42, s_bin (fun x y => x + y) 43), (43, s_pushI 10 45), (45, s_aload 0 46), (46, s_iload 1 47), (47, s_callV 12 221 1 1 50), (50, s_bin (fun x y => x * y) 51), (51, s_iast 52), (52, s_pushI 1 53), (53, s_zret)]
set_option maxRecDepth 100000 in
set_option maxHeartbeats 4000000 in
theorem ok_X12_right (l : Launch) : mm_CodeOK l mm_I0 RX12 cX12_right 2 (some .boolean) cd_X12_right := by
  intro p e R s m args below meth c Q σ cA D A kc ks d C X
  have hx := X.1
  have hb := X.2.1
  have hown := X.2.2.2.1
  have hts := X.2.2.2.2.1
  refine mm_fc (ss_aload_n hx hb (by decide +kernel : decode cX12_right 0 = .ok (.aload_n 0, 1)) rfl) ?_
  refine mm_fc (ss_iload_n hx hb (by decide +kernel : decode cX12_right 1 = .ok (.iload_n 1, 1)) rfl) ?_
  refine mm_fc (ss_i2l hx hb (by decide +kernel : decode cX12_right 2 = .ok (.i2l, 1))) ?_
  refine mm_fc (ss_callV X rfl rfl wd_8_173 wd_1_13 wd_8_170 wd_8_172 wd_p_100 (by decide +kernel) (by decide +kernel) (by decide) (by decide +kernel : decode cX12_right 3 = .ok (.invokevirtual 394, 3))) ?_
  refine mm_fc (ss_ifeq hx hb (by decide +kernel : decode cX12_right 6 = .ok (.ifCond .eq 19, 3)) (by decide)) ?_
  refine mm_fc (ss_aload_n hx hb (by decide +kernel : decode cX12_right 9 = .ok (.aload_n 0, 1)) rfl) ?_
  refine mm_fc (ss_iload_n hx hb (by decide +kernel : decode cX12_right 10 = .ok (.iload_n 1, 1)) rfl) ?_
  refine mm_fc (ss_callV X rfl rfl wd_8_97 wd_1_13 wd_8_94 wd_8_96 wd_p_84 (by decide +kernel) (by decide +kernel) (by decide) (by decide +kernel : decode cX12_right 11 = .ok (.invokevirtual 423, 3))) ?_
  refine mm_fc (ss_bipush hx hb (by decide +kernel : decode cX12_right 14 = .ok (.bipush 10, 2)) (by decide)) ?_
  refine mm_fc (ss_aload_n hx hb (by decide +kernel : decode cX12_right 16 = .ok (.aload_n 0, 1)) rfl) ?_
  refine mm_fc (ss_iload_n hx hb (by decide +kernel : decode cX12_right 17 = .ok (.iload_n 1, 1)) rfl) ?_
  refine mm_fc (ss_callV X rfl rfl wd_8_133 wd_1_13 wd_8_130 wd_8_132 wd_p_93 (by decide +kernel) (by decide +kernel) (by decide) (by decide +kernel : decode cX12_right 18 = .ok (.invokevirtual 426, 3))) ?_
  refine mm_fc (ss_imul hx hb (by decide +kernel : decode cX12_right 21 = .ok (.imul, 1))) ?_
  refine mm_fc (ss_icmpne hx hb (by decide +kernel : decode cX12_right 22 = .ok (.if_icmp .ne 8, 3)) (by decide)) ?_
  refine mm_fc (ss_aload_n hx hb (by decide +kernel : decode cX12_right 25 = .ok (.aload_n 0, 1)) rfl) ?_
  refine mm_fc (ss_callV X rfl rfl wd_9_122 wd_1_13 wd_9_119 wd_9_121 wd_p_126 (by decide +kernel) (by decide +kernel) (by decide) (by decide +kernel : decode cX12_right 26 = .ok (.invokevirtual 582, 3))) ?_
  refine mm_fc (ss_zret (by decide +kernel : decode cX12_right 29 = .ok (.ireturn, 1)) rfl) ?_
  refine mm_fc (ss_aload_n hx hb (by decide +kernel : decode cX12_right 30 = .ok (.aload_n 0, 1)) rfl) ?_
  refine mm_fc (ss_callV X rfl rfl wd_9_126 wd_1_13 wd_9_123 wd_9_125 wd_p_127 (by decide +kernel) (by decide +kernel) (by decide) (by decide +kernel : decode cX12_right 31 = .ok (.invokevirtual 585, 3))) ?_
  refine mm_fc (ss_aload_n hx hb (by decide +kernel : decode cX12_right 34 = .ok (.aload_n 0, 1)) rfl) ?_
  refine mm_fc (ss_get X rfl in_X12 (by decide) rfl wd_6_101 (by decide +kernel : decode cX12_right 35 = .ok (.getfield 121, 3))) ?_
  refine mm_fc (ss_iconst hx hb (by decide +kernel : decode cX12_right 38 = .ok (.iconst 2, 1)) (by decide)) ?_
  refine mm_fc (ss_iconst hx hb (by decide +kernel : decode cX12_right 39 = .ok (.iconst 3, 1)) (by decide)) ?_
  refine mm_fc (ss_iload_n hx hb (by decide +kernel : decode cX12_right 40 = .ok (.iload_n 1, 1)) rfl) ?_
  refine mm_fc (ss_imul hx hb (by decide +kernel : decode cX12_right 41 = .ok (.imul, 1))) ?_
  refine mm_fc (ss_iadd hx hb (by decide +kernel : decode cX12_right 42 = .ok (.iadd, 1))) ?_
  refine mm_fc (ss_bipush hx hb (by decide +kernel : decode cX12_right 43 = .ok (.bipush 10, 2)) (by decide)) ?_
  refine mm_fc (ss_aload_n hx hb (by decide +kernel : decode cX12_right 45 = .ok (.aload_n 0, 1)) rfl) ?_
  refine mm_fc (ss_iload_n hx hb (by decide +kernel : decode cX12_right 46 = .ok (.iload_n 1, 1)) rfl) ?_
  refine mm_fc (ss_callV X rfl rfl wd_8_133 wd_1_13 wd_8_130 wd_8_132 wd_p_93 (by decide +kernel) (by decide +kernel) (by decide) (by decide +kernel : decode cX12_right 47 = .ok (.invokevirtual 426, 3))) ?_
  refine mm_fc (ss_imul hx hb (by decide +kernel : decode cX12_right 50 = .ok (.imul, 1))) ?_
  refine mm_fc (ss_iast X (by decide +kernel : decode cX12_right 51 = .ok (.iastore, 1))) ?_
  refine mm_fc (ss_iconst hx hb (by decide +kernel : decode cX12_right 52 = .ok (.iconst 1, 1)) (by decide)) ?_
  refine mm_fc (ss_zret (by decide +kernel : decode cX12_right 53 = .ok (.ireturn, 1)) rfl) ?_
  exact mm_fn
def cd_X12_spare : mm_K mm_H := [(0, s_aload 0 1), (1, s_iload 1 2), (2, s_i2l 3), (3, s_callV 12 214 1 1 6), (6, s_if (fun x => x = 0) 33 9), (9, s_iload 2 10), (10, s_i2l 11), (11, s_pushL 0 12), (12, s_pushL 1 13), (13, s_callS 188 3 1 16), (16, s_if (fun x => x = 0) 33 19), (19, s_aload 0 20), (20, s_get 12 55 23), (23, s_pushI 3 24), (24, s_pushI 3 25), (25, s_iload 1 26), (26, s_bin (fun x y => x * y) 27), (27, s_bin (fun x y => x + y) 28), (28, s_iald 29), (29, s_iload 2 30), (30, s_icmp (fun x y => ¬ x = y) 38 33), (33, s_aload 0 34), (34, s_callV 12 277 0 1 37), (37, s_zret), (38, s_aload 0 39), (39, s_callV 12 275 0 0 42), (42, s_aload 0 43), (43, s_get 12 55 46), (46, s_pushI 3 47), (47, s_pushI 3 48), (48, s_iload 1 49), (49, s_bin (fun x y => x * y) 50), (50, s_bin (fun x y => x + y) 51), (51, s_iload 2 52), (52, s_iast 53), (53, s_pushI 1 54), (54, s_zret)]
set_option maxRecDepth 100000 in
set_option maxHeartbeats 4000000 in
theorem ok_X12_spare (l : Launch) : mm_CodeOK l mm_I0 RX12 cX12_spare 3 (some .boolean) cd_X12_spare := by
  intro p e R s m args below meth c Q σ cA D A kc ks d C X
  have hx := X.1
  have hb := X.2.1
  have hown := X.2.2.2.1
  have hts := X.2.2.2.2.1
  refine mm_fc (ss_aload_n hx hb (by decide +kernel : decode cX12_spare 0 = .ok (.aload_n 0, 1)) rfl) ?_
  refine mm_fc (ss_iload_n hx hb (by decide +kernel : decode cX12_spare 1 = .ok (.iload_n 1, 1)) rfl) ?_
  refine mm_fc (ss_i2l hx hb (by decide +kernel : decode cX12_spare 2 = .ok (.i2l, 1))) ?_
  refine mm_fc (ss_callV X rfl rfl wd_8_173 wd_1_13 wd_8_170 wd_8_172 wd_p_100 (by decide +kernel) (by decide +kernel) (by decide) (by decide +kernel : decode cX12_spare 3 = .ok (.invokevirtual 394, 3))) ?_
  refine mm_fc (ss_ifeq hx hb (by decide +kernel : decode cX12_spare 6 = .ok (.ifCond .eq 27, 3)) (by decide)) ?_
  refine mm_fc (ss_iload_n hx hb (by decide +kernel : decode cX12_spare 9 = .ok (.iload_n 2, 1)) rfl) ?_
  refine mm_fc (ss_i2l hx hb (by decide +kernel : decode cX12_spare 10 = .ok (.i2l, 1))) ?_
  refine mm_fc (ss_lconst hx hb (by decide +kernel : decode cX12_spare 11 = .ok (.lconst 0, 1)) (by decide)) ?_
  refine mm_fc (ss_lconst hx hb (by decide +kernel : decode cX12_spare 12 = .ok (.lconst 1, 1)) (by decide)) ?_
  refine mm_fc (ss_callS X rfl wd_7_196 wd_1_13 wd_7_194 wd_7_195 (by decide +kernel) (by decide +kernel) (by decide) (by decide +kernel : decode cX12_spare 13 = .ok (.invokestatic 280, 3))) ?_
  refine mm_fc (ss_ifeq hx hb (by decide +kernel : decode cX12_spare 16 = .ok (.ifCond .eq 17, 3)) (by decide)) ?_
  refine mm_fc (ss_aload_n hx hb (by decide +kernel : decode cX12_spare 19 = .ok (.aload_n 0, 1)) rfl) ?_
  refine mm_fc (ss_get X rfl in_X12 (by decide) rfl wd_6_101 (by decide +kernel : decode cX12_spare 20 = .ok (.getfield 121, 3))) ?_
  refine mm_fc (ss_iconst hx hb (by decide +kernel : decode cX12_spare 23 = .ok (.iconst 3, 1)) (by decide)) ?_
  refine mm_fc (ss_iconst hx hb (by decide +kernel : decode cX12_spare 24 = .ok (.iconst 3, 1)) (by decide)) ?_
  refine mm_fc (ss_iload_n hx hb (by decide +kernel : decode cX12_spare 25 = .ok (.iload_n 1, 1)) rfl) ?_
  refine mm_fc (ss_imul hx hb (by decide +kernel : decode cX12_spare 26 = .ok (.imul, 1))) ?_
  refine mm_fc (ss_iadd hx hb (by decide +kernel : decode cX12_spare 27 = .ok (.iadd, 1))) ?_
  refine mm_fc (ss_iald X (by decide +kernel : decode cX12_spare 28 = .ok (.iaload, 1))) ?_
  refine mm_fc (ss_iload_n hx hb (by decide +kernel : decode cX12_spare 29 = .ok (.iload_n 2, 1)) rfl) ?_
  refine mm_fc (ss_icmpne hx hb (by decide +kernel : decode cX12_spare 30 = .ok (.if_icmp .ne 8, 3)) (by decide)) ?_
  refine mm_fc (ss_aload_n hx hb (by decide +kernel : decode cX12_spare 33 = .ok (.aload_n 0, 1)) rfl) ?_
  refine mm_fc (ss_callV X rfl rfl wd_9_122 wd_1_13 wd_9_119 wd_9_121 wd_p_126 (by decide +kernel) (by decide +kernel) (by decide) (by decide +kernel : decode cX12_spare 34 = .ok (.invokevirtual 582, 3))) ?_
  refine mm_fc (ss_zret (by decide +kernel : decode cX12_spare 37 = .ok (.ireturn, 1)) rfl) ?_
  refine mm_fc (ss_aload_n hx hb (by decide +kernel : decode cX12_spare 38 = .ok (.aload_n 0, 1)) rfl) ?_
  refine mm_fc (ss_callV X rfl rfl wd_9_126 wd_1_13 wd_9_123 wd_9_125 wd_p_127 (by decide +kernel) (by decide +kernel) (by decide) (by decide +kernel : decode cX12_spare 39 = .ok (.invokevirtual 585, 3))) ?_
  refine mm_fc (ss_aload_n hx hb (by decide +kernel : decode cX12_spare 42 = .ok (.aload_n 0, 1)) rfl) ?_
  refine mm_fc (ss_get X rfl in_X12 (by decide) rfl wd_6_101 (by decide +kernel : decode cX12_spare 43 = .ok (.getfield 121, 3))) ?_
  refine mm_fc (ss_iconst hx hb (by decide +kernel : decode cX12_spare 46 = .ok (.iconst 3, 1)) (by decide)) ?_
  refine mm_fc (ss_iconst hx hb (by decide +kernel : decode cX12_spare 47 = .ok (.iconst 3, 1)) (by decide)) ?_
  refine mm_fc (ss_iload_n hx hb (by decide +kernel : decode cX12_spare 48 = .ok (.iload_n 1, 1)) rfl) ?_
  refine mm_fc (ss_imul hx hb (by decide +kernel : decode cX12_spare 49 = .ok (.imul, 1))) ?_
  refine mm_fc (ss_iadd hx hb (by decide +kernel : decode cX12_spare 50 = .ok (.iadd, 1))) ?_
  refine mm_fc (ss_iload_n hx hb (by decide +kernel : decode cX12_spare 51 = .ok (.iload_n 2, 1)) rfl) ?_
  refine mm_fc (ss_iast X (by decide +kernel : decode cX12_spare 52 = .ok (.iastore, 1))) ?_
  refine mm_fc (ss_iconst hx hb (by decide +kernel : decode cX12_spare 53 = .ok (.iconst 1, 1)) (by decide)) ?_
  refine mm_fc (ss_zret (by decide +kernel : decode cX12_spare 54 = .ok (.ireturn, 1)) rfl) ?_
  exact mm_fn
def cd_X12_years : mm_K mm_H := [(0, s_aload 0 1), (1, s_get 12 53 4), (4, s_if (fun x => x = 0) 18 7), (7, s_aload 0 8), (8, s_iload 1 9), (9, s_pushI 1 10), (10, s_pushI 100 12), (12, s_callV 12 238 3 1 15), (15, s_if (fun x => ¬ x = 0) 24 18), (18, s_aload 0 19), (19, s_pushI 3 20), (20, s_callV 12 265 1 1 23), (23, s_iret), (24, s_aload 0 25), (25, s_callV 12 275 0 0 28), (28, s_aload 0 29), (29, s_pushI 0 30), (30, s_putI 12 65 33), (33, s_aload 0 34), (34, s_iload 1 35), (35, s_callV 12 234 1 0 38), (38, s_aload 0 39), (39, s_get 12 65 42), (42, s_iret)]
set_option maxRecDepth 100000 in
set_option maxHeartbeats 4000000 in
theorem ok_X12_years (l : Launch) : mm_CodeOK l mm_I0 RX12 cX12_years 2 (some .int) cd_X12_years := by
  intro p e R s m args below meth c Q σ cA D A kc ks d C X
  have hx := X.1
  have hb := X.2.1
  have hown := X.2.2.2.1
  have hts := X.2.2.2.2.1
  refine mm_fc (ss_aload_n hx hb (by decide +kernel : decode cX12_years 0 = .ok (.aload_n 0, 1)) rfl) ?_
  refine mm_fc (ss_get X rfl in_X12 (by decide) rfl wd_6_99 (by decide +kernel : decode cX12_years 1 = .ok (.getfield 375, 3))) ?_
  refine mm_fc (ss_ifeq hx hb (by decide +kernel : decode cX12_years 4 = .ok (.ifCond .eq 14, 3)) (by decide)) ?_
  refine mm_fc (ss_aload_n hx hb (by decide +kernel : decode cX12_years 7 = .ok (.aload_n 0, 1)) rfl) ?_
  refine mm_fc (ss_iload_n hx hb (by decide +kernel : decode cX12_years 8 = .ok (.iload_n 1, 1)) rfl) ?_
  refine mm_fc (ss_iconst hx hb (by decide +kernel : decode cX12_years 9 = .ok (.iconst 1, 1)) (by decide)) ?_
  refine mm_fc (ss_bipush hx hb (by decide +kernel : decode cX12_years 10 = .ok (.bipush 100, 2)) (by decide)) ?_
  refine mm_fc (ss_callV X rfl rfl wd_8_230 wd_1_13 wd_8_227 wd_8_229 wd_p_106 (by decide +kernel) (by decide +kernel) (by decide) (by decide +kernel : decode cX12_years 12 = .ok (.invokevirtual 524, 3))) ?_
  refine mm_fc (ss_ifne hx hb (by decide +kernel : decode cX12_years 15 = .ok (.ifCond .ne 9, 3)) (by decide)) ?_
  refine mm_fc (ss_aload_n hx hb (by decide +kernel : decode cX12_years 18 = .ok (.aload_n 0, 1)) rfl) ?_
  refine mm_fc (ss_iconst hx hb (by decide +kernel : decode cX12_years 19 = .ok (.iconst 3, 1)) (by decide)) ?_
  refine mm_fc (ss_callV X rfl rfl wd_9_78 wd_1_13 wd_9_75 wd_9_77 wd_p_120 (by decide +kernel) (by decide +kernel) (by decide) (by decide +kernel : decode cX12_years 20 = .ok (.invokevirtual 558, 3))) ?_
  refine mm_fc (ss_iret (by decide +kernel : decode cX12_years 23 = .ok (.ireturn, 1)) rfl) ?_
  refine mm_fc (ss_aload_n hx hb (by decide +kernel : decode cX12_years 24 = .ok (.aload_n 0, 1)) rfl) ?_
  refine mm_fc (ss_callV X rfl rfl wd_9_126 wd_1_13 wd_9_123 wd_9_125 wd_p_127 (by decide +kernel) (by decide +kernel) (by decide) (by decide +kernel : decode cX12_years 25 = .ok (.invokevirtual 585, 3))) ?_
  refine mm_fc (ss_aload_n hx hb (by decide +kernel : decode cX12_years 28 = .ok (.aload_n 0, 1)) rfl) ?_
  refine mm_fc (ss_iconst hx hb (by decide +kernel : decode cX12_years 29 = .ok (.iconst 0, 1)) (by decide)) ?_
  refine mm_fc (ss_putI X rfl in_X12 tyX12_ok nmX12 (by decide) rfl rfl rfl rfl wd_6_111 (by decide +kernel : decode cX12_years 30 = .ok (.putfield 477, 3))) ?_
  refine mm_fc (ss_aload_n hx hb (by decide +kernel : decode cX12_years 33 = .ok (.aload_n 0, 1)) rfl) ?_
  refine mm_fc (ss_iload_n hx hb (by decide +kernel : decode cX12_years 34 = .ok (.iload_n 1, 1)) rfl) ?_
  refine mm_fc (ss_callV X rfl rfl wd_8_238 wd_1_13 wd_8_235 wd_8_237 wd_p_108 (by decide +kernel) (by decide +kernel) (by decide) (by decide +kernel : decode cX12_years 35 = .ok (.invokevirtual 531, 3))) ?_
  refine mm_fc (ss_aload_n hx hb (by decide +kernel : decode cX12_years 38 = .ok (.aload_n 0, 1)) rfl) ?_
  refine mm_fc (ss_get X rfl in_X12 (by decide) rfl wd_6_111 (by decide +kernel : decode cX12_years 39 = .ok (.getfield 477, 3))) ?_
  refine mm_fc (ss_iret (by decide +kernel : decode cX12_years 42 = .ok (.ireturn, 1)) rfl) ?_
  exact mm_fn
def cd_X12_seed : mm_K mm_H := [(0, s_iload 1 1), (1, s_if (fun x => 0 ≤ x) 16 4), (4, s_aload 0 5), (5, s_get 12 9 8), (8, s_pushI 5 9), (9, s_dup2 10), (10, s_iald 11), (11, s_pushI 1 12), (12, s_bin (fun x y => x + y) 13), (13, s_iast 14), (14, s_pushI 0 15), (15, s_zret), (16, s_aload 0 17), (17, s_iload 1 18), (18, s_i2l 19), (19, s_putL 12 75 22), (22, s_pushI 1 23), (23, s_zret)]
set_option maxRecDepth 100000 in
set_option maxHeartbeats 4000000 in
theorem ok_X12_seed (l : Launch) : mm_CodeOK l mm_I0 RX12 cX12_seed 2 (some .boolean) cd_X12_seed := by
  intro p e R s m args below meth c Q σ cA D A kc ks d C X
  have hx := X.1
  have hb := X.2.1
  have hown := X.2.2.2.1
  have hts := X.2.2.2.2.1
  refine mm_fc (ss_iload_n hx hb (by decide +kernel : decode cX12_seed 0 = .ok (.iload_n 1, 1)) rfl) ?_
  refine mm_fc (ss_ifge hx hb (by decide +kernel : decode cX12_seed 1 = .ok (.ifCond .ge 15, 3)) (by decide)) ?_
  refine mm_fc (ss_aload_n hx hb (by decide +kernel : decode cX12_seed 4 = .ok (.aload_n 0, 1)) rfl) ?_
  refine mm_fc (ss_get X rfl in_X12 (by decide) rfl wd_6_55 (by decide +kernel : decode cX12_seed 5 = .ok (.getfield 17, 3))) ?_
  refine mm_fc (ss_iconst hx hb (by decide +kernel : decode cX12_seed 8 = .ok (.iconst 5, 1)) (by decide)) ?_
  refine mm_fc (ss_dup2 hx hb (by decide +kernel : decode cX12_seed 9 = .ok (.dup2, 1))) ?_
  refine mm_fc (ss_iald X (by decide +kernel : decode cX12_seed 10 = .ok (.iaload, 1))) ?_
  refine mm_fc (ss_iconst hx hb (by decide +kernel : decode cX12_seed 11 = .ok (.iconst 1, 1)) (by decide)) ?_
  refine mm_fc (ss_iadd hx hb (by decide +kernel : decode cX12_seed 12 = .ok (.iadd, 1))) ?_
  refine mm_fc (ss_iast X (by decide +kernel : decode cX12_seed 13 = .ok (.iastore, 1))) ?_
  refine mm_fc (ss_iconst hx hb (by decide +kernel : decode cX12_seed 14 = .ok (.iconst 0, 1)) (by decide)) ?_
  refine mm_fc (ss_zret (by decide +kernel : decode cX12_seed 15 = .ok (.ireturn, 1)) rfl) ?_
  refine mm_fc (ss_aload_n hx hb (by decide +kernel : decode cX12_seed 16 = .ok (.aload_n 0, 1)) rfl) ?_
  refine mm_fc (ss_iload_n hx hb (by decide +kernel : decode cX12_seed 17 = .ok (.iload_n 1, 1)) rfl) ?_
  refine mm_fc (ss_i2l hx hb (by decide +kernel : decode cX12_seed 18 = .ok (.i2l, 1))) ?_
  refine mm_fc (ss_putL X rfl in_X12 tyX12_ok nmX12 (by decide) rfl rfl rfl rfl wd_6_121 (by decide +kernel : decode cX12_seed 19 = .ok (.putfield 143, 3))) ?_
  refine mm_fc (ss_iconst hx hb (by decide +kernel : decode cX12_seed 22 = .ok (.iconst 1, 1)) (by decide)) ?_
  refine mm_fc (ss_zret (by decide +kernel : decode cX12_seed 23 = .ok (.ireturn, 1)) rfl) ?_
  exact mm_fn
def cd_X12_drawOf : mm_K mm_H := [(0, s_aload 0 1), (1, s_pushL 1103515245 4), (4, s_aload 0 5), (5, s_get 12 75 8), (8, s_lbin (fun x y => x * y) 9), (9, s_pushL 12345 12), (12, s_lbin (fun x y => x + y) 13), (13, s_pushL 2147483648 16), (16, s_lbin0 (fun x y => x - x / y * y) 17), (17, s_putL 12 75 20), (20, s_aload 0 21), (21, s_get 12 75 24), (24, s_pushL 64 27), (27, s_lbin0 (fun x y => x / y) 28), (28, s_iload 1 29), (29, s_i2l 30), (30, s_lbin0 (fun x y => x - x / y * y) 31), (31, s_l2i 32), (32, s_iret)]
set_option maxRecDepth 100000 in
set_option maxHeartbeats 4000000 in
theorem ok_X12_drawOf (l : Launch) : mm_CodeOK l mm_I0 RX12 cX12_drawOf 2 (some .int) cd_X12_drawOf := by
  intro p e R s m args below meth c Q σ cA D A kc ks d C X
  have hx := X.1
  have hb := X.2.1
  have hown := X.2.2.2.1
  have hts := X.2.2.2.2.1
  refine mm_fc (ss_aload_n hx hb (by decide +kernel : decode cX12_drawOf 0 = .ok (.aload_n 0, 1)) rfl) ?_
  refine mm_fc (ss_ldc2 hx hb hown (hts _ (mm_in wd_9_151 rfl)) (by decide +kernel : decode cX12_drawOf 1 = .ok (.ldc2_w 588, 3))) ?_
  refine mm_fc (ss_aload_n hx hb (by decide +kernel : decode cX12_drawOf 4 = .ok (.aload_n 0, 1)) rfl) ?_
  refine mm_fc (ss_get X rfl in_X12 (by decide) rfl wd_6_121 (by decide +kernel : decode cX12_drawOf 5 = .ok (.getfield 143, 3))) ?_
  refine mm_fc (ss_lmul hx hb (by decide +kernel : decode cX12_drawOf 8 = .ok (.lmul, 1))) ?_
  refine mm_fc (ss_ldc2 hx hb hown (hts _ (mm_in wd_9_152 rfl)) (by decide +kernel : decode cX12_drawOf 9 = .ok (.ldc2_w 590, 3))) ?_
  refine mm_fc (ss_ladd hx hb (by decide +kernel : decode cX12_drawOf 12 = .ok (.ladd, 1))) ?_
  refine mm_fc (ss_ldc2 hx hb hown (hts _ (mm_in wd_9_153 rfl)) (by decide +kernel : decode cX12_drawOf 13 = .ok (.ldc2_w 592, 3))) ?_
  refine mm_fc (ss_lrem hx hb (by decide +kernel : decode cX12_drawOf 16 = .ok (.lrem, 1))) ?_
  refine mm_fc (ss_putL X rfl in_X12 tyX12_ok nmX12 (by decide) rfl rfl rfl rfl wd_6_121 (by decide +kernel : decode cX12_drawOf 17 = .ok (.putfield 143, 3))) ?_
  refine mm_fc (ss_aload_n hx hb (by decide +kernel : decode cX12_drawOf 20 = .ok (.aload_n 0, 1)) rfl) ?_
  refine mm_fc (ss_get X rfl in_X12 (by decide) rfl wd_6_121 (by decide +kernel : decode cX12_drawOf 21 = .ok (.getfield 143, 3))) ?_
  refine mm_fc (ss_ldc2 hx hb hown (hts _ (mm_in wd_9_154 rfl)) (by decide +kernel : decode cX12_drawOf 24 = .ok (.ldc2_w 594, 3))) ?_
  refine mm_fc (ss_ldiv hx hb (by decide +kernel : decode cX12_drawOf 27 = .ok (.ldiv, 1))) ?_
  refine mm_fc (ss_iload_n hx hb (by decide +kernel : decode cX12_drawOf 28 = .ok (.iload_n 1, 1)) rfl) ?_
  refine mm_fc (ss_i2l hx hb (by decide +kernel : decode cX12_drawOf 29 = .ok (.i2l, 1))) ?_
  refine mm_fc (ss_lrem hx hb (by decide +kernel : decode cX12_drawOf 30 = .ok (.lrem, 1))) ?_
  refine mm_fc (ss_l2i hx hb (by decide +kernel : decode cX12_drawOf 31 = .ok (.l2i, 1))) ?_
  refine mm_fc (ss_iret (by decide +kernel : decode cX12_drawOf 32 = .ok (.ireturn, 1)) rfl) ?_
  exact mm_fn
def cd_X12_chance : mm_K mm_H := [(0, s_aload 0 1), (1, s_get 12 53 4), (4, s_if (fun x => x = 0) 18 7), (7, s_aload 0 8), (8, s_iload 1 9), (9, s_pushI 1 10), (10, s_pushI 100 12), (12, s_callV 12 238 3 1 15), (15, s_if (fun x => ¬ x = 0) 24 18), (18, s_aload 0 19), (19, s_pushI 3 20), (20, s_callV 12 265 1 1 23), (23, s_iret), (24, s_aload 0 25), (25, s_callV 12 275 0 0 28), (28, s_pushI 0 29), (29, s_istore 2 30), (30, s_pushI 0 31), (31, s_kill 32 [4] (s_istore 3 32)), (32, s_iload 3 33), (33, s_iload 1 34), (34, s_icmp (fun x y => y ≤ x) 97 37), (37, s_aload 0 38), (38, s_pushI 100 40), (40, s_callV 12 283 1 1 43), (43, s_aload 0 44), (44, s_get 12 47 47), (47, s_icmp (fun x y => y ≤ x) 87 50), (50, s_aload 0 51), (51, s_get 12 40 54), (54, s_if (fun x => x ≤ 0) 87 57), (57, s_aload 0 58), (58, s_aload 0 59), (59, s_get 12 40 62), (62, s_callV 12 283 1 1 65), (65, s_istore 4 67), (67, s_aload 0 68), (68, s_get 12 55 71), (71, s_pushI 2 72), (72, s_pushI 3 73), (73, s_iload 4 75), (75, s_bin (fun x y => x * y) 76), (76, s_bin (fun x y => x + y) 77), (77, s_aload 0 78), (78, s_pushI 100 80), (80, s_callV 12 283 1 1 83), (83, s_iast 84), (84, s_iinc 2 1 87), (87, s_aload 0 88), (88, s_callV 12 233 0 0 91), (91, s_iinc 3 1 94), (94, s_kill 32 [4] (s_goto 32)), (97, s_iload 2 98), (98, s_iret)]
set_option maxRecDepth 100000 in
set_option maxHeartbeats 4000000 in
theorem ok_X12_chance (l : Launch) : mm_CodeOK l mm_I0 RX12 cX12_chance 5 (some .int) cd_X12_chance := by
  intro p e R s m args below meth c Q σ cA D A kc ks d C X
  have hx := X.1
  have hb := X.2.1
  have hown := X.2.2.2.1
  have hts := X.2.2.2.2.1
  refine mm_fc (ss_aload_n hx hb (by decide +kernel : decode cX12_chance 0 = .ok (.aload_n 0, 1)) rfl) ?_
  refine mm_fc (ss_get X rfl in_X12 (by decide) rfl wd_6_99 (by decide +kernel : decode cX12_chance 1 = .ok (.getfield 375, 3))) ?_
  refine mm_fc (ss_ifeq hx hb (by decide +kernel : decode cX12_chance 4 = .ok (.ifCond .eq 14, 3)) (by decide)) ?_
  refine mm_fc (ss_aload_n hx hb (by decide +kernel : decode cX12_chance 7 = .ok (.aload_n 0, 1)) rfl) ?_
  refine mm_fc (ss_iload_n hx hb (by decide +kernel : decode cX12_chance 8 = .ok (.iload_n 1, 1)) rfl) ?_
  refine mm_fc (ss_iconst hx hb (by decide +kernel : decode cX12_chance 9 = .ok (.iconst 1, 1)) (by decide)) ?_
  refine mm_fc (ss_bipush hx hb (by decide +kernel : decode cX12_chance 10 = .ok (.bipush 100, 2)) (by decide)) ?_
  refine mm_fc (ss_callV X rfl rfl wd_8_230 wd_1_13 wd_8_227 wd_8_229 wd_p_106 (by decide +kernel) (by decide +kernel) (by decide) (by decide +kernel : decode cX12_chance 12 = .ok (.invokevirtual 524, 3))) ?_
  refine mm_fc (ss_ifne hx hb (by decide +kernel : decode cX12_chance 15 = .ok (.ifCond .ne 9, 3)) (by decide)) ?_
  refine mm_fc (ss_aload_n hx hb (by decide +kernel : decode cX12_chance 18 = .ok (.aload_n 0, 1)) rfl) ?_
  refine mm_fc (ss_iconst hx hb (by decide +kernel : decode cX12_chance 19 = .ok (.iconst 3, 1)) (by decide)) ?_
  refine mm_fc (ss_callV X rfl rfl wd_9_78 wd_1_13 wd_9_75 wd_9_77 wd_p_120 (by decide +kernel) (by decide +kernel) (by decide) (by decide +kernel : decode cX12_chance 20 = .ok (.invokevirtual 558, 3))) ?_
  refine mm_fc (ss_iret (by decide +kernel : decode cX12_chance 23 = .ok (.ireturn, 1)) rfl) ?_
  refine mm_fc (ss_aload_n hx hb (by decide +kernel : decode cX12_chance 24 = .ok (.aload_n 0, 1)) rfl) ?_
  refine mm_fc (ss_callV X rfl rfl wd_9_126 wd_1_13 wd_9_123 wd_9_125 wd_p_127 (by decide +kernel) (by decide +kernel) (by decide) (by decide +kernel : decode cX12_chance 25 = .ok (.invokevirtual 585, 3))) ?_
  refine mm_fc (ss_iconst hx hb (by decide +kernel : decode cX12_chance 28 = .ok (.iconst 0, 1)) (by decide)) ?_
  refine mm_fc (ss_istore_n hx hb (by decide +kernel : decode cX12_chance 29 = .ok (.istore_n 2, 1)) rfl (by decide)) ?_
  refine mm_fc (ss_iconst hx hb (by decide +kernel : decode cX12_chance 30 = .ok (.iconst 0, 1)) (by decide)) ?_
  refine mm_fc (ss_kill (ss_istore_n hx hb (by decide +kernel : decode cX12_chance 31 = .ok (.istore_n 3, 1)) rfl (by decide))) ?_
  refine mm_fc (ss_iload_n hx hb (by decide +kernel : decode cX12_chance 32 = .ok (.iload_n 3, 1)) rfl) ?_
  refine mm_fc (ss_iload_n hx hb (by decide +kernel : decode cX12_chance 33 = .ok (.iload_n 1, 1)) rfl) ?_
  refine mm_fc (ss_icmpge hx hb (by decide +kernel : decode cX12_chance 34 = .ok (.if_icmp .ge 63, 3)) (by decide)) ?_
  refine mm_fc (ss_aload_n hx hb (by decide +kernel : decode cX12_chance 37 = .ok (.aload_n 0, 1)) rfl) ?_
  refine mm_fc (ss_bipush hx hb (by decide +kernel : decode cX12_chance 38 = .ok (.bipush 100, 2)) (by decide)) ?_
  refine mm_fc (ss_callV X rfl rfl wd_9_150 wd_1_13 wd_9_147 wd_9_149 wd_p_128 (by decide +kernel) (by decide +kernel) (by decide) (by decide +kernel : decode cX12_chance 40 = .ok (.invokevirtual 596, 3))) ?_
  refine mm_fc (ss_aload_n hx hb (by decide +kernel : decode cX12_chance 43 = .ok (.aload_n 0, 1)) rfl) ?_
  refine mm_fc (ss_get X rfl in_X12 (by decide) rfl wd_6_93 (by decide +kernel : decode cX12_chance 44 = .ok (.getfield 385, 3))) ?_
  refine mm_fc (ss_icmpge hx hb (by decide +kernel : decode cX12_chance 47 = .ok (.if_icmp .ge 40, 3)) (by decide)) ?_
  refine mm_fc (ss_aload_n hx hb (by decide +kernel : decode cX12_chance 50 = .ok (.aload_n 0, 1)) rfl) ?_
  refine mm_fc (ss_get X rfl in_X12 (by decide) rfl wd_6_86 (by decide +kernel : decode cX12_chance 51 = .ok (.getfield 382, 3))) ?_
  refine mm_fc (ss_ifle hx hb (by decide +kernel : decode cX12_chance 54 = .ok (.ifCond .le 33, 3)) (by decide)) ?_
  refine mm_fc (ss_aload_n hx hb (by decide +kernel : decode cX12_chance 57 = .ok (.aload_n 0, 1)) rfl) ?_
  refine mm_fc (ss_aload_n hx hb (by decide +kernel : decode cX12_chance 58 = .ok (.aload_n 0, 1)) rfl) ?_
  refine mm_fc (ss_get X rfl in_X12 (by decide) rfl wd_6_86 (by decide +kernel : decode cX12_chance 59 = .ok (.getfield 382, 3))) ?_
  refine mm_fc (ss_callV X rfl rfl wd_9_150 wd_1_13 wd_9_147 wd_9_149 wd_p_128 (by decide +kernel) (by decide +kernel) (by decide) (by decide +kernel : decode cX12_chance 62 = .ok (.invokevirtual 596, 3))) ?_
  refine mm_fc (ss_istore hx hb (by decide +kernel : decode cX12_chance 65 = .ok (.istore 4, 2)) (by decide)) ?_
  refine mm_fc (ss_aload_n hx hb (by decide +kernel : decode cX12_chance 67 = .ok (.aload_n 0, 1)) rfl) ?_
  refine mm_fc (ss_get X rfl in_X12 (by decide) rfl wd_6_101 (by decide +kernel : decode cX12_chance 68 = .ok (.getfield 121, 3))) ?_
  refine mm_fc (ss_iconst hx hb (by decide +kernel : decode cX12_chance 71 = .ok (.iconst 2, 1)) (by decide)) ?_
  refine mm_fc (ss_iconst hx hb (by decide +kernel : decode cX12_chance 72 = .ok (.iconst 3, 1)) (by decide)) ?_
  refine mm_fc (ss_iload hx hb (by decide +kernel : decode cX12_chance 73 = .ok (.iload 4, 2))) ?_
  refine mm_fc (ss_imul hx hb (by decide +kernel : decode cX12_chance 75 = .ok (.imul, 1))) ?_
  refine mm_fc (ss_iadd hx hb (by decide +kernel : decode cX12_chance 76 = .ok (.iadd, 1))) ?_
  refine mm_fc (ss_aload_n hx hb (by decide +kernel : decode cX12_chance 77 = .ok (.aload_n 0, 1)) rfl) ?_
  refine mm_fc (ss_bipush hx hb (by decide +kernel : decode cX12_chance 78 = .ok (.bipush 100, 2)) (by decide)) ?_
  refine mm_fc (ss_callV X rfl rfl wd_9_150 wd_1_13 wd_9_147 wd_9_149 wd_p_128 (by decide +kernel) (by decide +kernel) (by decide) (by decide +kernel : decode cX12_chance 80 = .ok (.invokevirtual 596, 3))) ?_
  refine mm_fc (ss_iast X (by decide +kernel : decode cX12_chance 83 = .ok (.iastore, 1))) ?_
  refine mm_fc (ss_iinc hx hb (by decide +kernel : decode cX12_chance 84 = .ok (.iinc 2 1, 3)) (by decide) (by decide)) ?_
  refine mm_fc (ss_aload_n hx hb (by decide +kernel : decode cX12_chance 87 = .ok (.aload_n 0, 1)) rfl) ?_
  refine mm_fc (ss_callV X rfl rfl wd_9_2 wd_1_13 wd_8_239 wd_9_1 wd_p_109 (by decide +kernel) (by decide +kernel) (by decide) (by decide +kernel : decode cX12_chance 88 = .ok (.invokevirtual 489, 3))) ?_
  refine mm_fc (ss_iinc hx hb (by decide +kernel : decode cX12_chance 91 = .ok (.iinc 3 1, 3)) (by decide) (by decide)) ?_
  refine mm_fc (ss_kill (ss_goto hx hb (by decide +kernel : decode cX12_chance 94 = .ok (.goto (-62), 3)) (by decide))) ?_
  refine mm_fc (ss_iload_n hx hb (by decide +kernel : decode cX12_chance 97 = .ok (.iload_n 2, 1)) rfl) ?_
  refine mm_fc (ss_iret (by decide +kernel : decode cX12_chance 98 = .ok (.ireturn, 1)) rfl) ?_
  exact mm_fn
def cd_X12_qCode : mm_K mm_H := [(0, s_aload 0 1), (1, s_get 12 101 4), (4, s_aload 0 5), (5, s_get 12 102 8), (8, s_iload 1 9), (9, s_iast 10), (10, s_aload 0 11), (11, s_dup 12), (12, s_get 12 102 15), (15, s_pushI 1 16), (16, s_bin (fun x y => x + y) 17), (17, s_putI 12 102 20), (20, s_vret)]
set_option maxRecDepth 100000 in
set_option maxHeartbeats 4000000 in
theorem ok_X12_qCode (l : Launch) : mm_CodeOK l mm_I0 RX12 cX12_qCode 2 none cd_X12_qCode := by
  intro p e R s m args below meth c Q σ cA D A kc ks d C X
  have hx := X.1
  have hb := X.2.1
  have hown := X.2.2.2.1
  have hts := X.2.2.2.2.1
  refine mm_fc (ss_aload_n hx hb (by decide +kernel : decode cX12_qCode 0 = .ok (.aload_n 0, 1)) rfl) ?_
  refine mm_fc (ss_get X rfl in_X12 (by decide) rfl wd_6_147 (by decide +kernel : decode cX12_qCode 1 = .ok (.getfield 222, 3))) ?_
  refine mm_fc (ss_aload_n hx hb (by decide +kernel : decode cX12_qCode 4 = .ok (.aload_n 0, 1)) rfl) ?_
  refine mm_fc (ss_get X rfl in_X12 (by decide) rfl wd_6_148 (by decide +kernel : decode cX12_qCode 5 = .ok (.getfield 327, 3))) ?_
  refine mm_fc (ss_iload_n hx hb (by decide +kernel : decode cX12_qCode 8 = .ok (.iload_n 1, 1)) rfl) ?_
  refine mm_fc (ss_iast X (by decide +kernel : decode cX12_qCode 9 = .ok (.iastore, 1))) ?_
  refine mm_fc (ss_aload_n hx hb (by decide +kernel : decode cX12_qCode 10 = .ok (.aload_n 0, 1)) rfl) ?_
  refine mm_fc (ss_dup hx hb (by decide +kernel : decode cX12_qCode 11 = .ok (.dup, 1))) ?_
  refine mm_fc (ss_get X rfl in_X12 (by decide) rfl wd_6_148 (by decide +kernel : decode cX12_qCode 12 = .ok (.getfield 327, 3))) ?_
  refine mm_fc (ss_iconst hx hb (by decide +kernel : decode cX12_qCode 15 = .ok (.iconst 1, 1)) (by decide)) ?_
  refine mm_fc (ss_iadd hx hb (by decide +kernel : decode cX12_qCode 16 = .ok (.iadd, 1))) ?_
  refine mm_fc (ss_putI X rfl in_X12 tyX12_ok nmX12 (by decide) rfl rfl rfl rfl wd_6_148 (by decide +kernel : decode cX12_qCode 17 = .ok (.putfield 327, 3))) ?_
  refine mm_fc (ss_vret (by decide +kernel : decode cX12_qCode 20 = .ok (.return_, 1)) rfl) ?_
  exact mm_fn
def cd_X12_qOpens : mm_K mm_H := [(0, s_aload 0 1), (1, s_get 12 5 4), (4, s_if (fun x => x = 0) 8 7), (7, s_vret), (8, s_aload 0 9), (9, s_get 12 105 12), (12, s_pushI 6 14), (14, s_icmp (fun x y => ¬ x = y) 24 17), (17, s_aload 0 18), (18, s_pushI 4 19), (19, s_iload 2 20), (20, s_callV 12 191 2 0 23), (23, s_vret), (24, s_aload 0 25), (25, s_dup 26), (26, s_get 12 105 29), (29, s_pushI 1 30), (30, s_bin (fun x y => x + y) 31), (31, s_putI 12 105 34), (34, s_aload 0 35), (35, s_get 12 103 38), (38, s_aload 0 39), (39, s_get 12 104 42), (42, s_iload 1 43), (43, s_iast 44), (44, s_aload 0 45), (45, s_dup 46), (46, s_get 12 104 49), (49, s_pushI 1 50), (50, s_bin (fun x y => x + y) 51), (51, s_putI 12 104 54), (54, s_vret)]
set_option maxRecDepth 100000 in
set_option maxHeartbeats 4000000 in
theorem ok_X12_qOpens (l : Launch) : mm_CodeOK l mm_I0 RX12 cX12_qOpens 3 none cd_X12_qOpens := by
  intro p e R s m args below meth c Q σ cA D A kc ks d C X
  have hx := X.1
  have hb := X.2.1
  have hown := X.2.2.2.1
  have hts := X.2.2.2.2.1
  refine mm_fc (ss_aload_n hx hb (by decide +kernel : decode cX12_qOpens 0 = .ok (.aload_n 0, 1)) rfl) ?_
  refine mm_fc (ss_get X rfl in_X12 (by decide) rfl wd_6_51 (by decide +kernel : decode cX12_qOpens 1 = .ok (.getfield 237, 3))) ?_
  refine mm_fc (ss_ifeq hx hb (by decide +kernel : decode cX12_qOpens 4 = .ok (.ifCond .eq 4, 3)) (by decide)) ?_
  refine mm_fc (ss_vret (by decide +kernel : decode cX12_qOpens 7 = .ok (.return_, 1)) rfl) ?_
  refine mm_fc (ss_aload_n hx hb (by decide +kernel : decode cX12_qOpens 8 = .ok (.aload_n 0, 1)) rfl) ?_
  refine mm_fc (ss_get X rfl in_X12 (by decide) rfl wd_6_151 (by decide +kernel : decode cX12_qOpens 9 = .ok (.getfield 333, 3))) ?_
  refine mm_fc (ss_bipush hx hb (by decide +kernel : decode cX12_qOpens 12 = .ok (.bipush 6, 2)) (by decide)) ?_
  refine mm_fc (ss_icmpne hx hb (by decide +kernel : decode cX12_qOpens 14 = .ok (.if_icmp .ne 10, 3)) (by decide)) ?_
  refine mm_fc (ss_aload_n hx hb (by decide +kernel : decode cX12_qOpens 17 = .ok (.aload_n 0, 1)) rfl) ?_
  refine mm_fc (ss_iconst hx hb (by decide +kernel : decode cX12_qOpens 18 = .ok (.iconst 4, 1)) (by decide)) ?_
  refine mm_fc (ss_iload_n hx hb (by decide +kernel : decode cX12_qOpens 19 = .ok (.iload_n 2, 1)) rfl) ?_
  refine mm_fc (ss_callV X rfl rfl wd_7_186 wd_1_13 wd_7_183 wd_7_185 wd_p_51 (by decide +kernel) (by decide +kernel) (by decide) (by decide +kernel : decode cX12_qOpens 20 = .ok (.invokevirtual 267, 3))) ?_
  refine mm_fc (ss_vret (by decide +kernel : decode cX12_qOpens 23 = .ok (.return_, 1)) rfl) ?_
  refine mm_fc (ss_aload_n hx hb (by decide +kernel : decode cX12_qOpens 24 = .ok (.aload_n 0, 1)) rfl) ?_
  refine mm_fc (ss_dup hx hb (by decide +kernel : decode cX12_qOpens 25 = .ok (.dup, 1))) ?_
  refine mm_fc (ss_get X rfl in_X12 (by decide) rfl wd_6_151 (by decide +kernel : decode cX12_qOpens 26 = .ok (.getfield 333, 3))) ?_
  refine mm_fc (ss_iconst hx hb (by decide +kernel : decode cX12_qOpens 29 = .ok (.iconst 1, 1)) (by decide)) ?_
  refine mm_fc (ss_iadd hx hb (by decide +kernel : decode cX12_qOpens 30 = .ok (.iadd, 1))) ?_
  refine mm_fc (ss_putI X rfl in_X12 tyX12_ok nmX12 (by decide) rfl rfl rfl rfl wd_6_151 (by decide +kernel : decode cX12_qOpens 31 = .ok (.putfield 333, 3))) ?_
  refine mm_fc (ss_aload_n hx hb (by decide +kernel : decode cX12_qOpens 34 = .ok (.aload_n 0, 1)) rfl) ?_
  refine mm_fc (ss_get X rfl in_X12 (by decide) rfl wd_6_149 (by decide +kernel : decode cX12_qOpens 35 = .ok (.getfield 225, 3))) ?_
  refine mm_fc (ss_aload_n hx hb (by decide +kernel : decode cX12_qOpens 38 = .ok (.aload_n 0, 1)) rfl) ?_
  refine mm_fc (ss_get X rfl in_X12 (by decide) rfl wd_6_150 (by decide +kernel : decode cX12_qOpens 39 = .ok (.getfield 330, 3))) ?_
  refine mm_fc (ss_iload_n hx hb (by decide +kernel : decode cX12_qOpens 42 = .ok (.iload_n 1, 1)) rfl) ?_
  refine mm_fc (ss_iast X (by decide +kernel : decode cX12_qOpens 43 = .ok (.iastore, 1))) ?_
  refine mm_fc (ss_aload_n hx hb (by decide +kernel : decode cX12_qOpens 44 = .ok (.aload_n 0, 1)) rfl) ?_
  refine mm_fc (ss_dup hx hb (by decide +kernel : decode cX12_qOpens 45 = .ok (.dup, 1))) ?_
  refine mm_fc (ss_get X rfl in_X12 (by decide) rfl wd_6_150 (by decide +kernel : decode cX12_qOpens 46 = .ok (.getfield 330, 3))) ?_
  refine mm_fc (ss_iconst hx hb (by decide +kernel : decode cX12_qOpens 49 = .ok (.iconst 1, 1)) (by decide)) ?_
  refine mm_fc (ss_iadd hx hb (by decide +kernel : decode cX12_qOpens 50 = .ok (.iadd, 1))) ?_
  refine mm_fc (ss_putI X rfl in_X12 tyX12_ok nmX12 (by decide) rfl rfl rfl rfl wd_6_150 (by decide +kernel : decode cX12_qOpens 51 = .ok (.putfield 330, 3))) ?_
  refine mm_fc (ss_vret (by decide +kernel : decode cX12_qOpens 54 = .ok (.return_, 1)) rfl) ?_
  exact mm_fn
def cd_X12_qIsOn : mm_K mm_H := [(0, s_aload 0 1), (1, s_get 12 104 4), (4, s_if (fun x => x ≤ 0) 26 7), (7, s_aload 0 8), (8, s_get 12 103 11), (11, s_aload 0 12), (12, s_get 12 104 15), (15, s_pushI 1 16), (16, s_bin (fun x y => x - y) 17), (17, s_iald 18), (18, s_iload 1 19), (19, s_icmp (fun x y => ¬ x = y) 26 22), (22, s_pushI 1 23), (23, s_goto 27), (26, s_pushI 0 27), (27, s_zret)]
set_option maxRecDepth 100000 in
set_option maxHeartbeats 4000000 in
theorem ok_X12_qIsOn (l : Launch) : mm_CodeOK l mm_I0 RX12 cX12_qIsOn 2 (some .boolean) cd_X12_qIsOn := by
  intro p e R s m args below meth c Q σ cA D A kc ks d C X
  have hx := X.1
  have hb := X.2.1
  have hown := X.2.2.2.1
  have hts := X.2.2.2.2.1
  refine mm_fc (ss_aload_n hx hb (by decide +kernel : decode cX12_qIsOn 0 = .ok (.aload_n 0, 1)) rfl) ?_
  refine mm_fc (ss_get X rfl in_X12 (by decide) rfl wd_6_150 (by decide +kernel : decode cX12_qIsOn 1 = .ok (.getfield 330, 3))) ?_
  refine mm_fc (ss_ifle hx hb (by decide +kernel : decode cX12_qIsOn 4 = .ok (.ifCond .le 22, 3)) (by decide)) ?_
  refine mm_fc (ss_aload_n hx hb (by decide +kernel : decode cX12_qIsOn 7 = .ok (.aload_n 0, 1)) rfl) ?_
  refine mm_fc (ss_get X rfl in_X12 (by decide) rfl wd_6_149 (by decide +kernel : decode cX12_qIsOn 8 = .ok (.getfield 225, 3))) ?_
  refine mm_fc (ss_aload_n hx hb (by decide +kernel : decode cX12_qIsOn 11 = .ok (.aload_n 0, 1)) rfl) ?_
  refine mm_fc (ss_get X rfl in_X12 (by decide) rfl wd_6_150 (by decide +kernel : decode cX12_qIsOn 12 = .ok (.getfield 330, 3))) ?_
  refine mm_fc (ss_iconst hx hb (by decide +kernel : decode cX12_qIsOn 15 = .ok (.iconst 1, 1)) (by decide)) ?_
  refine mm_fc (ss_isub hx hb (by decide +kernel : decode cX12_qIsOn 16 = .ok (.isub, 1))) ?_
  refine mm_fc (ss_iald X (by decide +kernel : decode cX12_qIsOn 17 = .ok (.iaload, 1))) ?_
  refine mm_fc (ss_iload_n hx hb (by decide +kernel : decode cX12_qIsOn 18 = .ok (.iload_n 1, 1)) rfl) ?_
  refine mm_fc (ss_icmpne hx hb (by decide +kernel : decode cX12_qIsOn 19 = .ok (.if_icmp .ne 7, 3)) (by decide)) ?_
  refine mm_fc (ss_iconst hx hb (by decide +kernel : decode cX12_qIsOn 22 = .ok (.iconst 1, 1)) (by decide)) ?_
  refine mm_fc (ss_goto hx hb (by decide +kernel : decode cX12_qIsOn 23 = .ok (.goto 4, 3)) (by decide)) ?_
  refine mm_fc (ss_iconst hx hb (by decide +kernel : decode cX12_qIsOn 26 = .ok (.iconst 0, 1)) (by decide)) ?_
  refine mm_fc (ss_zret (by decide +kernel : decode cX12_qIsOn 27 = .ok (.ireturn, 1)) rfl) ?_
  exact mm_fn
def cd_X12_qDrops : mm_K mm_H := [(0, s_aload 0 1), (1, s_dup 2), (2, s_get 12 104 5), (5, s_pushI 1 6), (6, s_bin (fun x y => x - y) 7), (7, s_putI 12 104 10), (10, s_aload 0 11), (11, s_aload 0 12), (12, s_get 12 103 15), (15, s_aload 0 16), (16, s_get 12 104 19), (19, s_iald 20), (20, s_callV 12 285 1 0 23), (23, s_vret)]
set_option maxRecDepth 100000 in
set_option maxHeartbeats 4000000 in
theorem ok_X12_qDrops (l : Launch) : mm_CodeOK l mm_I0 RX12 cX12_qDrops 1 none cd_X12_qDrops := by
  intro p e R s m args below meth c Q σ cA D A kc ks d C X
  have hx := X.1
  have hb := X.2.1
  have hown := X.2.2.2.1
  have hts := X.2.2.2.2.1
  refine mm_fc (ss_aload_n hx hb (by decide +kernel : decode cX12_qDrops 0 = .ok (.aload_n 0, 1)) rfl) ?_
  refine mm_fc (ss_dup hx hb (by decide +kernel : decode cX12_qDrops 1 = .ok (.dup, 1))) ?_
  refine mm_fc (ss_get X rfl in_X12 (by decide) rfl wd_6_150 (by decide +kernel : decode cX12_qDrops 2 = .ok (.getfield 330, 3))) ?_
  refine mm_fc (ss_iconst hx hb (by decide +kernel : decode cX12_qDrops 5 = .ok (.iconst 1, 1)) (by decide)) ?_
  refine mm_fc (ss_isub hx hb (by decide +kernel : decode cX12_qDrops 6 = .ok (.isub, 1))) ?_
  refine mm_fc (ss_putI X rfl in_X12 tyX12_ok nmX12 (by decide) rfl rfl rfl rfl wd_6_150 (by decide +kernel : decode cX12_qDrops 7 = .ok (.putfield 330, 3))) ?_
  refine mm_fc (ss_aload_n hx hb (by decide +kernel : decode cX12_qDrops 10 = .ok (.aload_n 0, 1)) rfl) ?_
  refine mm_fc (ss_aload_n hx hb (by decide +kernel : decode cX12_qDrops 11 = .ok (.aload_n 0, 1)) rfl) ?_
  refine mm_fc (ss_get X rfl in_X12 (by decide) rfl wd_6_149 (by decide +kernel : decode cX12_qDrops 12 = .ok (.getfield 225, 3))) ?_
  refine mm_fc (ss_aload_n hx hb (by decide +kernel : decode cX12_qDrops 15 = .ok (.aload_n 0, 1)) rfl) ?_
  refine mm_fc (ss_get X rfl in_X12 (by decide) rfl wd_6_150 (by decide +kernel : decode cX12_qDrops 16 = .ok (.getfield 330, 3))) ?_
  refine mm_fc (ss_iald X (by decide +kernel : decode cX12_qDrops 19 = .ok (.iaload, 1))) ?_
  refine mm_fc (ss_callV X rfl rfl wd_8_14 wd_1_13 wd_8_11 wd_8_13 wd_p_66 (by decide +kernel) (by decide +kernel) (by decide) (by decide +kernel : decode cX12_qDrops 20 = .ok (.invokevirtual 599, 3))) ?_
  refine mm_fc (ss_vret (by decide +kernel : decode cX12_qDrops 23 = .ok (.return_, 1)) rfl) ?_
  exact mm_fn
def cd_X12_qIsBracket : mm_K mm_H := [(0, s_iload 0 1), (1, s_pushI 20 3), (3, s_icmp (fun x y => x < y) 16 6), (6, s_iload 0 7), (7, s_pushI 24 9), (9, s_icmp (fun x y => y < x) 16 12), (12, s_pushI 1 13), (13, s_goto 17), (16, s_pushI 0 17), (17, s_zret)]
set_option maxRecDepth 100000 in
set_option maxHeartbeats 4000000 in
theorem ok_X12_qIsBracket (l : Launch) : mm_CodeOK l mm_I0 RX12 cX12_qIsBracket 1 (some .boolean) cd_X12_qIsBracket := by
  intro p e R s m args below meth c Q σ cA D A kc ks d C X
  have hx := X.1
  have hb := X.2.1
  have hown := X.2.2.2.1
  have hts := X.2.2.2.2.1
  refine mm_fc (ss_iload_n hx hb (by decide +kernel : decode cX12_qIsBracket 0 = .ok (.iload_n 0, 1)) rfl) ?_
  refine mm_fc (ss_bipush hx hb (by decide +kernel : decode cX12_qIsBracket 1 = .ok (.bipush 20, 2)) (by decide)) ?_
  refine mm_fc (ss_icmplt hx hb (by decide +kernel : decode cX12_qIsBracket 3 = .ok (.if_icmp .lt 13, 3)) (by decide)) ?_
  refine mm_fc (ss_iload_n hx hb (by decide +kernel : decode cX12_qIsBracket 6 = .ok (.iload_n 0, 1)) rfl) ?_
  refine mm_fc (ss_bipush hx hb (by decide +kernel : decode cX12_qIsBracket 7 = .ok (.bipush 24, 2)) (by decide)) ?_
  refine mm_fc (ss_icmpgt hx hb (by decide +kernel : decode cX12_qIsBracket 9 = .ok (.if_icmp .gt 7, 3)) (by decide)) ?_
  refine mm_fc (ss_iconst hx hb (by decide +kernel : decode cX12_qIsBracket 12 = .ok (.iconst 1, 1)) (by decide)) ?_
  refine mm_fc (ss_goto hx hb (by decide +kernel : decode cX12_qIsBracket 13 = .ok (.goto 4, 3)) (by decide)) ?_
  refine mm_fc (ss_iconst hx hb (by decide +kernel : decode cX12_qIsBracket 16 = .ok (.iconst 0, 1)) (by decide)) ?_
  refine mm_fc (ss_zret (by decide +kernel : decode cX12_qIsBracket 17 = .ok (.ireturn, 1)) rfl) ?_
  exact mm_fn
def cd_X12_qBracket : mm_K mm_H := [(0, s_aload 0 1), (1, s_get 12 104 4), (4, s_pushI 1 5), (5, s_bin (fun x y => x - y) 6), (6, s_istore 1 7), (7, s_iload 1 8), (8, s_aload 0 9), (9, s_get 12 106 12), (12, s_icmp (fun x y => x < y) 33 15), (15, s_aload 0 16), (16, s_get 12 103 19), (19, s_iload 1 20), (20, s_iald 21), (21, s_callS 289 1 1 24), (24, s_if (fun x => ¬ x = 0) 33 27), (27, s_iinc 1 (-1) 30), (30, s_goto 7), (33, s_iload 1 34), (34, s_aload 0 35), (35, s_get 12 106 38), (38, s_icmp (fun x y => x < y) 50 41), (41, s_aload 0 42), (42, s_get 12 103 45), (45, s_iload 1 46), (46, s_iald 47), (47, s_goto 51), (50, s_pushI (-1) 51), (51, s_iret)]
set_option maxRecDepth 100000 in
set_option maxHeartbeats 4000000 in
theorem ok_X12_qBracket (l : Launch) : mm_CodeOK l mm_I0 RX12 cX12_qBracket 2 (some .int) cd_X12_qBracket := by
  intro p e R s m args below meth c Q σ cA D A kc ks d C X
  have hx := X.1
  have hb := X.2.1
  have hown := X.2.2.2.1
  have hts := X.2.2.2.2.1
  refine mm_fc (ss_aload_n hx hb (by decide +kernel : decode cX12_qBracket 0 = .ok (.aload_n 0, 1)) rfl) ?_
  refine mm_fc (ss_get X rfl in_X12 (by decide) rfl wd_6_150 (by decide +kernel : decode cX12_qBracket 1 = .ok (.getfield 330, 3))) ?_
  refine mm_fc (ss_iconst hx hb (by decide +kernel : decode cX12_qBracket 4 = .ok (.iconst 1, 1)) (by decide)) ?_
  refine mm_fc (ss_isub hx hb (by decide +kernel : decode cX12_qBracket 5 = .ok (.isub, 1))) ?_
  refine mm_fc (ss_istore_n hx hb (by decide +kernel : decode cX12_qBracket 6 = .ok (.istore_n 1, 1)) rfl (by decide)) ?_
  refine mm_fc (ss_iload_n hx hb (by decide +kernel : decode cX12_qBracket 7 = .ok (.iload_n 1, 1)) rfl) ?_
  refine mm_fc (ss_aload_n hx hb (by decide +kernel : decode cX12_qBracket 8 = .ok (.aload_n 0, 1)) rfl) ?_
  refine mm_fc (ss_get X rfl in_X12 (by decide) rfl wd_6_152 (by decide +kernel : decode cX12_qBracket 9 = .ok (.getfield 336, 3))) ?_
  refine mm_fc (ss_icmplt hx hb (by decide +kernel : decode cX12_qBracket 12 = .ok (.if_icmp .lt 21, 3)) (by decide)) ?_
  refine mm_fc (ss_aload_n hx hb (by decide +kernel : decode cX12_qBracket 15 = .ok (.aload_n 0, 1)) rfl) ?_
  refine mm_fc (ss_get X rfl in_X12 (by decide) rfl wd_6_149 (by decide +kernel : decode cX12_qBracket 16 = .ok (.getfield 225, 3))) ?_
  refine mm_fc (ss_iload_n hx hb (by decide +kernel : decode cX12_qBracket 19 = .ok (.iload_n 1, 1)) rfl) ?_
  refine mm_fc (ss_iald X (by decide +kernel : decode cX12_qBracket 20 = .ok (.iaload, 1))) ?_
  refine mm_fc (ss_callS X rfl wd_8_57 wd_1_13 wd_8_55 wd_8_56 (by decide +kernel) (by decide +kernel) (by decide) (by decide +kernel : decode cX12_qBracket 21 = .ok (.invokestatic 602, 3))) ?_
  refine mm_fc (ss_ifne hx hb (by decide +kernel : decode cX12_qBracket 24 = .ok (.ifCond .ne 9, 3)) (by decide)) ?_
  refine mm_fc (ss_iinc hx hb (by decide +kernel : decode cX12_qBracket 27 = .ok (.iinc 1 (-1), 3)) (by decide) (by decide)) ?_
  refine mm_fc (ss_goto hx hb (by decide +kernel : decode cX12_qBracket 30 = .ok (.goto (-23), 3)) (by decide)) ?_
  refine mm_fc (ss_iload_n hx hb (by decide +kernel : decode cX12_qBracket 33 = .ok (.iload_n 1, 1)) rfl) ?_
  refine mm_fc (ss_aload_n hx hb (by decide +kernel : decode cX12_qBracket 34 = .ok (.aload_n 0, 1)) rfl) ?_
  refine mm_fc (ss_get X rfl in_X12 (by decide) rfl wd_6_152 (by decide +kernel : decode cX12_qBracket 35 = .ok (.getfield 336, 3))) ?_
  refine mm_fc (ss_icmplt hx hb (by decide +kernel : decode cX12_qBracket 38 = .ok (.if_icmp .lt 12, 3)) (by decide)) ?_
  refine mm_fc (ss_aload_n hx hb (by decide +kernel : decode cX12_qBracket 41 = .ok (.aload_n 0, 1)) rfl) ?_
  refine mm_fc (ss_get X rfl in_X12 (by decide) rfl wd_6_149 (by decide +kernel : decode cX12_qBracket 42 = .ok (.getfield 225, 3))) ?_
  refine mm_fc (ss_iload_n hx hb (by decide +kernel : decode cX12_qBracket 45 = .ok (.iload_n 1, 1)) rfl) ?_
  refine mm_fc (ss_iald X (by decide +kernel : decode cX12_qBracket 46 = .ok (.iaload, 1))) ?_
  refine mm_fc (ss_goto hx hb (by decide +kernel : decode cX12_qBracket 47 = .ok (.goto 4, 3)) (by decide)) ?_
  refine mm_fc (ss_iconst hx hb (by decide +kernel : decode cX12_qBracket 50 = .ok (.iconst (-1), 1)) (by decide)) ?_
  refine mm_fc (ss_iret (by decide +kernel : decode cX12_qBracket 51 = .ok (.ireturn, 1)) rfl) ?_
  exact mm_fn
def cd_X12_qDropsToBracket : mm_K mm_H := [(0, s_aload 0 1), (1, s_get 12 104 4), (4, s_aload 0 5), (5, s_get 12 106 8), (8, s_icmp (fun x y => x ≤ y) 35 11), (11, s_aload 0 12), (12, s_get 12 103 15), (15, s_aload 0 16), (16, s_get 12 104 19), (19, s_pushI 1 20), (20, s_bin (fun x y => x - y) 21), (21, s_iald 22), (22, s_callS 289 1 1 25), (25, s_if (fun x => ¬ x = 0) 35 28), (28, s_aload 0 29), (29, s_callV 12 288 0 0 32), (32, s_goto 0), (35, s_vret)]
set_option maxRecDepth 100000 in
set_option maxHeartbeats 4000000 in
theorem ok_X12_qDropsToBracket (l : Launch) : mm_CodeOK l mm_I0 RX12 cX12_qDropsToBracket 1 none cd_X12_qDropsToBracket := by
  intro p e R s m args below meth c Q σ cA D A kc ks d C X
  have hx := X.1
  have hb := X.2.1
  have hown := X.2.2.2.1
  have hts := X.2.2.2.2.1
  refine mm_fc (ss_aload_n hx hb (by decide +kernel : decode cX12_qDropsToBracket 0 = .ok (.aload_n 0, 1)) rfl) ?_
  refine mm_fc (ss_get X rfl in_X12 (by decide) rfl wd_6_150 (by decide +kernel : decode cX12_qDropsToBracket 1 = .ok (.getfield 330, 3))) ?_
  refine mm_fc (ss_aload_n hx hb (by decide +kernel : decode cX12_qDropsToBracket 4 = .ok (.aload_n 0, 1)) rfl) ?_
  refine mm_fc (ss_get X rfl in_X12 (by decide) rfl wd_6_152 (by decide +kernel : decode cX12_qDropsToBracket 5 = .ok (.getfield 336, 3))) ?_
  refine mm_fc (ss_icmple hx hb (by decide +kernel : decode cX12_qDropsToBracket 8 = .ok (.if_icmp .le 27, 3)) (by decide)) ?_
  refine mm_fc (ss_aload_n hx hb (by decide +kernel : decode cX12_qDropsToBracket 11 = .ok (.aload_n 0, 1)) rfl) ?_
  refine mm_fc (ss_get X rfl in_X12 (by decide) rfl wd_6_149 (by decide +kernel : decode cX12_qDropsToBracket 12 = .ok (.getfield 225, 3))) ?_
  refine mm_fc (ss_aload_n hx hb (by decide +kernel : decode cX12_qDropsToBracket 15 = .ok (.aload_n 0, 1)) rfl) ?_
  refine mm_fc (ss_get X rfl in_X12 (by decide) rfl wd_6_150 (by decide +kernel : decode cX12_qDropsToBracket 16 = .ok (.getfield 330, 3))) ?_
  refine mm_fc (ss_iconst hx hb (by decide +kernel : decode cX12_qDropsToBracket 19 = .ok (.iconst 1, 1)) (by decide)) ?_
  refine mm_fc (ss_isub hx hb (by decide +kernel : decode cX12_qDropsToBracket 20 = .ok (.isub, 1))) ?_
  refine mm_fc (ss_iald X (by decide +kernel : decode cX12_qDropsToBracket 21 = .ok (.iaload, 1))) ?_
  refine mm_fc (ss_callS X rfl wd_8_57 wd_1_13 wd_8_55 wd_8_56 (by decide +kernel) (by decide +kernel) (by decide) (by decide +kernel : decode cX12_qDropsToBracket 22 = .ok (.invokestatic 602, 3))) ?_
  refine mm_fc (ss_ifne hx hb (by decide +kernel : decode cX12_qDropsToBracket 25 = .ok (.ifCond .ne 10, 3)) (by decide)) ?_
  refine mm_fc (ss_aload_n hx hb (by decide +kernel : decode cX12_qDropsToBracket 28 = .ok (.aload_n 0, 1)) rfl) ?_
  refine mm_fc (ss_callV X rfl rfl wd_8_46 wd_1_13 wd_8_43 wd_8_45 wd_p_74 (by decide +kernel) (by decide +kernel) (by decide) (by decide +kernel : decode cX12_qDropsToBracket 29 = .ok (.invokevirtual 605, 3))) ?_
  refine mm_fc (ss_goto hx hb (by decide +kernel : decode cX12_qDropsToBracket 32 = .ok (.goto (-32), 3)) (by decide)) ?_
  refine mm_fc (ss_vret (by decide +kernel : decode cX12_qDropsToBracket 35 = .ok (.return_, 1)) rfl) ?_
  exact mm_fn
def cd_X12_qWordHere : mm_K mm_H := [(0, s_aload 0 1), (1, s_aload 0 2), (2, s_get 12 88 5), (5, s_callV 12 195 1 1 8), (8, s_if (fun x => x = 0) 13 11), (11, s_pushI 0 12), (12, s_iret), (13, s_aload 0 14), (14, s_aload 0 15), (15, s_get 12 89 18), (18, s_callV 12 195 1 1 21), (21, s_if (fun x => x = 0) 26 24), (24, s_pushI 1 25), (25, s_iret), (26, s_aload 0 27), (27, s_get 12 54 30), (30, s_pushI 3 31), (31, s_icmp (fun x y => y ≤ x) 47 34), (34, s_aload 0 35), (35, s_aload 0 36), (36, s_get 12 90 39), (39, s_callV 12 195 1 1 42), (42, s_if (fun x => x = 0) 47 45), (45, s_pushI 2 46), (46, s_iret), (47, s_aload 0 48), (48, s_aload 0 49), (49, s_get 12 91 52), (52, s_callV 12 195 1 1 55), (55, s_if (fun x => x = 0) 60 58), (58, s_pushI 3 59), (59, s_iret), (60, s_aload 0 61), (61, s_aload 0 62), (62, s_get 12 92 65), (65, s_callV 12 195 1 1 68), (68, s_if (fun x => x = 0) 73 71), (71, s_pushI 4 72), (72, s_iret), (73, s_aload 0 74), (74, s_aload 0 75), (75, s_get 12 93 78), (78, s_callV 12 195 1 1 81), (81, s_if (fun x => x = 0) 86 84), (84, s_pushI 5 85), (85, s_iret), (86, s_aload 0 87), (87, s_aload 0 88), (88, s_get 12 94 91), (91, s_callV 12 195 1 1 94), (94, s_if (fun x => x = 0) 100 97), (97, s_pushI 6 99), (99, s_iret), (100, s_aload 0 101), (101, s_get 12 54 104), (104, s_pushI 3 105), (105, s_icmp (fun x y => y ≤ x) 122 108), (108, s_aload 0 109), (109, s_aload 0 110), (110, s_get 12 95 113), (113, s_callV 12 195 1 1 116), (116, s_if (fun x => x = 0) 122 119), (119, s_pushI 7 121), (121, s_iret), (122, s_aload 0 123), (123, s_aload 0 124), (124, s_get 12 96 127), (127, s_callV 12 195 1 1 130), (130, s_if (fun x => x = 0) 136 133), (133, s_pushI 8 135), (135, s_iret), (136, s_aload 0 137), (137, s_aload 0 138), (138, s_get 12 97 141), (141, s_callV 12 195 1 1 144), (144, s_if (fun x => x = 0) 150 147), (147, s_pushI 9 149), (149, s_iret), (150, s_aload 0 151), (151, s_aload 0 152), (152, s_get 12 98 155), (155, s_callV 12 195 1 1 158), (158, s_if (fun x => x = 0) 164 161), (161, s_pushI 10 163), (163, s_iret), (164, s_aload 0 165), (165, s_aload 0 166), (166, s_get 12 99 169), (169, s_callV 12 195 1 1 172), (172, s_if (fun x => x = 0) 178 175), (175, s_pushI 11 177), (177, s_iret), (178, s_aload 0 179), (179, s_aload 0 180), (180, s_get 12 100 183), (183, s_callV 12 195 1 1 186), (186, s_if (fun x => x = 0) 192 189), (189, s_pushI 12 191), (191, s_iret), (192, s_pushI (-1) 193), (193, s_iret)]
set_option maxRecDepth 100000 in
set_option maxHeartbeats 4000000 in
theorem ok_X12_qWordHere (l : Launch) : mm_CodeOK l mm_I0 RX12 cX12_qWordHere 1 (some .int) cd_X12_qWordHere := by
  intro p e R s m args below meth c Q σ cA D A kc ks d C X
  have hx := X.1
  have hb := X.2.1
  have hown := X.2.2.2.1
  have hts := X.2.2.2.2.1
  refine mm_fc (ss_aload_n hx hb (by decide +kernel : decode cX12_qWordHere 0 = .ok (.aload_n 0, 1)) rfl) ?_
  refine mm_fc (ss_aload_n hx hb (by decide +kernel : decode cX12_qWordHere 1 = .ok (.aload_n 0, 1)) rfl) ?_
  refine mm_fc (ss_get X rfl in_X12 (by decide) rfl wd_6_134 (by decide +kernel : decode cX12_qWordHere 2 = .ok (.getfield 183, 3))) ?_
  refine mm_fc (ss_callV X rfl rfl wd_7_175 wd_1_13 wd_7_172 wd_7_174 wd_p_49 (by decide +kernel) (by decide +kernel) (by decide) (by decide +kernel : decode cX12_qWordHere 5 = .ok (.invokevirtual 260, 3))) ?_
  refine mm_fc (ss_ifeq hx hb (by decide +kernel : decode cX12_qWordHere 8 = .ok (.ifCond .eq 5, 3)) (by decide)) ?_
  refine mm_fc (ss_iconst hx hb (by decide +kernel : decode cX12_qWordHere 11 = .ok (.iconst 0, 1)) (by decide)) ?_
  refine mm_fc (ss_iret (by decide +kernel : decode cX12_qWordHere 12 = .ok (.ireturn, 1)) rfl) ?_
  refine mm_fc (ss_aload_n hx hb (by decide +kernel : decode cX12_qWordHere 13 = .ok (.aload_n 0, 1)) rfl) ?_
  refine mm_fc (ss_aload_n hx hb (by decide +kernel : decode cX12_qWordHere 14 = .ok (.aload_n 0, 1)) rfl) ?_
  refine mm_fc (ss_get X rfl in_X12 (by decide) rfl wd_6_135 (by decide +kernel : decode cX12_qWordHere 15 = .ok (.getfield 186, 3))) ?_
  refine mm_fc (ss_callV X rfl rfl wd_7_175 wd_1_13 wd_7_172 wd_7_174 wd_p_49 (by decide +kernel) (by decide +kernel) (by decide) (by decide +kernel : decode cX12_qWordHere 18 = .ok (.invokevirtual 260, 3))) ?_
  refine mm_fc (ss_ifeq hx hb (by decide +kernel : decode cX12_qWordHere 21 = .ok (.ifCond .eq 5, 3)) (by decide)) ?_
  refine mm_fc (ss_iconst hx hb (by decide +kernel : decode cX12_qWordHere 24 = .ok (.iconst 1, 1)) (by decide)) ?_
  refine mm_fc (ss_iret (by decide +kernel : decode cX12_qWordHere 25 = .ok (.ireturn, 1)) rfl) ?_
  refine mm_fc (ss_aload_n hx hb (by decide +kernel : decode cX12_qWordHere 26 = .ok (.aload_n 0, 1)) rfl) ?_
  refine mm_fc (ss_get X rfl in_X12 (by decide) rfl wd_6_100 (by decide +kernel : decode cX12_qWordHere 27 = .ok (.getfield 295, 3))) ?_
  refine mm_fc (ss_iconst hx hb (by decide +kernel : decode cX12_qWordHere 30 = .ok (.iconst 3, 1)) (by decide)) ?_
  refine mm_fc (ss_icmpge hx hb (by decide +kernel : decode cX12_qWordHere 31 = .ok (.if_icmp .ge 16, 3)) (by decide)) ?_
  refine mm_fc (ss_aload_n hx hb (by decide +kernel : decode cX12_qWordHere 34 = .ok (.aload_n 0, 1)) rfl) ?_
  refine mm_fc (ss_aload_n hx hb (by decide +kernel : decode cX12_qWordHere 35 = .ok (.aload_n 0, 1)) rfl) ?_
  refine mm_fc (ss_get X rfl in_X12 (by decide) rfl wd_6_136 (by decide +kernel : decode cX12_qWordHere 36 = .ok (.getfield 189, 3))) ?_
  refine mm_fc (ss_callV X rfl rfl wd_7_175 wd_1_13 wd_7_172 wd_7_174 wd_p_49 (by decide +kernel) (by decide +kernel) (by decide) (by decide +kernel : decode cX12_qWordHere 39 = .ok (.invokevirtual 260, 3))) ?_
  refine mm_fc (ss_ifeq hx hb (by decide +kernel : decode cX12_qWordHere 42 = .ok (.ifCond .eq 5, 3)) (by decide)) ?_
  refine mm_fc (ss_iconst hx hb (by decide +kernel : decode cX12_qWordHere 45 = .ok (.iconst 2, 1)) (by decide)) ?_
  refine mm_fc (ss_iret (by decide +kernel : decode cX12_qWordHere 46 = .ok (.ireturn, 1)) rfl) ?_
  refine mm_fc (ss_aload_n hx hb (by decide +kernel : decode cX12_qWordHere 47 = .ok (.aload_n 0, 1)) rfl) ?_
  refine mm_fc (ss_aload_n hx hb (by decide +kernel : decode cX12_qWordHere 48 = .ok (.aload_n 0, 1)) rfl) ?_
  refine mm_fc (ss_get X rfl in_X12 (by decide) rfl wd_6_137 (by decide +kernel : decode cX12_qWordHere 49 = .ok (.getfield 192, 3))) ?_
  refine mm_fc (ss_callV X rfl rfl wd_7_175 wd_1_13 wd_7_172 wd_7_174 wd_p_49 (by decide +kernel) (by decide +kernel) (by decide) (by decide +kernel : decode cX12_qWordHere 52 = .ok (.invokevirtual 260, 3))) ?_
  refine mm_fc (ss_ifeq hx hb (by decide +kernel : decode cX12_qWordHere 55 = .ok (.ifCond .eq 5, 3)) (by decide)) ?_
  refine mm_fc (ss_iconst hx hb (by decide +kernel : decode cX12_qWordHere 58 = .ok (.iconst 3, 1)) (by decide)) ?_
  refine mm_fc (ss_iret (by decide +kernel : decode cX12_qWordHere 59 = .ok (.ireturn, 1)) rfl) ?_
  refine mm_fc (ss_aload_n hx hb (by decide +kernel : decode cX12_qWordHere 60 = .ok (.aload_n 0, 1)) rfl) ?_
  refine mm_fc (ss_aload_n hx hb (by decide +kernel : decode cX12_qWordHere 61 = .ok (.aload_n 0, 1)) rfl) ?_
  refine mm_fc (ss_get X rfl in_X12 (by decide) rfl wd_6_138 (by decide +kernel : decode cX12_qWordHere 62 = .ok (.getfield 195, 3))) ?_
  refine mm_fc (ss_callV X rfl rfl wd_7_175 wd_1_13 wd_7_172 wd_7_174 wd_p_49 (by decide +kernel) (by decide +kernel) (by decide) (by decide +kernel : decode cX12_qWordHere 65 = .ok (.invokevirtual 260, 3))) ?_
  refine mm_fc (ss_ifeq hx hb (by decide +kernel : decode cX12_qWordHere 68 = .ok (.ifCond .eq 5, 3)) (by decide)) ?_
  refine mm_fc (ss_iconst hx hb (by decide +kernel : decode cX12_qWordHere 71 = .ok (.iconst 4, 1)) (by decide)) ?_
  refine mm_fc (ss_iret (by decide +kernel : decode cX12_qWordHere 72 = .ok (.ireturn, 1)) rfl) ?_
  refine mm_fc (ss_aload_n hx hb (by decide +kernel : decode cX12_qWordHere 73 = .ok (.aload_n 0, 1)) rfl) ?_
  refine mm_fc (ss_aload_n hx hb (by decide +kernel : decode cX12_qWordHere 74 = .ok (.aload_n 0, 1)) rfl) ?_
  refine mm_fc (ss_get X rfl in_X12 (by decide) rfl wd_6_139 (by decide +kernel : decode cX12_qWordHere 75 = .ok (.getfield 198, 3))) ?_
  refine mm_fc (ss_callV X rfl rfl wd_7_175 wd_1_13 wd_7_172 wd_7_174 wd_p_49 (by decide +kernel) (by decide +kernel) (by decide) (by decide +kernel : decode cX12_qWordHere 78 = .ok (.invokevirtual 260, 3))) ?_
  refine mm_fc (ss_ifeq hx hb (by decide +kernel : decode cX12_qWordHere 81 = .ok (.ifCond .eq 5, 3)) (by decide)) ?_
  refine mm_fc (ss_iconst hx hb (by decide +kernel : decode cX12_qWordHere 84 = .ok (.iconst 5, 1)) (by decide)) ?_
  refine mm_fc (ss_iret (by decide +kernel : decode cX12_qWordHere 85 = .ok (.ireturn, 1)) rfl) ?_
  refine mm_fc (ss_aload_n hx hb (by decide +kernel : decode cX12_qWordHere 86 = .ok (.aload_n 0, 1)) rfl) ?_
  refine mm_fc (ss_aload_n hx hb (by decide +kernel : decode cX12_qWordHere 87 = .ok (.aload_n 0, 1)) rfl) ?_
  refine mm_fc (ss_get X rfl in_X12 (by decide) rfl wd_6_140 (by decide +kernel : decode cX12_qWordHere 88 = .ok (.getfield 201, 3))) ?_
  refine mm_fc (ss_callV X rfl rfl wd_7_175 wd_1_13 wd_7_172 wd_7_174 wd_p_49 (by decide +kernel) (by decide +kernel) (by decide) (by decide +kernel : decode cX12_qWordHere 91 = .ok (.invokevirtual 260, 3))) ?_
  refine mm_fc (ss_ifeq hx hb (by decide +kernel : decode cX12_qWordHere 94 = .ok (.ifCond .eq 6, 3)) (by decide)) ?_
  refine mm_fc (ss_bipush hx hb (by decide +kernel : decode cX12_qWordHere 97 = .ok (.bipush 6, 2)) (by decide)) ?_
  refine mm_fc (ss_iret (by decide +kernel : decode cX12_qWordHere 99 = .ok (.ireturn, 1)) rfl) ?_
  refine mm_fc (ss_aload_n hx hb (by decide +kernel : decode cX12_qWordHere 100 = .ok (.aload_n 0, 1)) rfl) ?_
  refine mm_fc (ss_get X rfl in_X12 (by decide) rfl wd_6_100 (by decide +kernel : decode cX12_qWordHere 101 = .ok (.getfield 295, 3))) ?_
  refine mm_fc (ss_iconst hx hb (by decide +kernel : decode cX12_qWordHere 104 = .ok (.iconst 3, 1)) (by decide)) ?_
  refine mm_fc (ss_icmpge hx hb (by decide +kernel : decode cX12_qWordHere 105 = .ok (.if_icmp .ge 17, 3)) (by decide)) ?_
  refine mm_fc (ss_aload_n hx hb (by decide +kernel : decode cX12_qWordHere 108 = .ok (.aload_n 0, 1)) rfl) ?_
  refine mm_fc (ss_aload_n hx hb (by decide +kernel : decode cX12_qWordHere 109 = .ok (.aload_n 0, 1)) rfl) ?_
  refine mm_fc (ss_get X rfl in_X12 (by decide) rfl wd_6_141 (by decide +kernel : decode cX12_qWordHere 110 = .ok (.getfield 204, 3))) ?_
  refine mm_fc (ss_callV X rfl rfl wd_7_175 wd_1_13 wd_7_172 wd_7_174 wd_p_49 (by decide +kernel) (by decide +kernel) (by decide) (by decide +kernel : decode cX12_qWordHere 113 = .ok (.invokevirtual 260, 3))) ?_
  refine mm_fc (ss_ifeq hx hb (by decide +kernel : decode cX12_qWordHere 116 = .ok (.ifCond .eq 6, 3)) (by decide)) ?_
  refine mm_fc (ss_bipush hx hb (by decide +kernel : decode cX12_qWordHere 119 = .ok (.bipush 7, 2)) (by decide)) ?_
  refine mm_fc (ss_iret (by decide +kernel : decode cX12_qWordHere 121 = .ok (.ireturn, 1)) rfl) ?_
  refine mm_fc (ss_aload_n hx hb (by decide +kernel : decode cX12_qWordHere 122 = .ok (.aload_n 0, 1)) rfl) ?_
  refine mm_fc (ss_aload_n hx hb (by decide +kernel : decode cX12_qWordHere 123 = .ok (.aload_n 0, 1)) rfl) ?_
  refine mm_fc (ss_get X rfl in_X12 (by decide) rfl wd_6_142 (by decide +kernel : decode cX12_qWordHere 124 = .ok (.getfield 207, 3))) ?_
  refine mm_fc (ss_callV X rfl rfl wd_7_175 wd_1_13 wd_7_172 wd_7_174 wd_p_49 (by decide +kernel) (by decide +kernel) (by decide) (by decide +kernel : decode cX12_qWordHere 127 = .ok (.invokevirtual 260, 3))) ?_
  refine mm_fc (ss_ifeq hx hb (by decide +kernel : decode cX12_qWordHere 130 = .ok (.ifCond .eq 6, 3)) (by decide)) ?_
  refine mm_fc (ss_bipush hx hb (by decide +kernel : decode cX12_qWordHere 133 = .ok (.bipush 8, 2)) (by decide)) ?_
  refine mm_fc (ss_iret (by decide +kernel : decode cX12_qWordHere 135 = .ok (.ireturn, 1)) rfl) ?_
  refine mm_fc (ss_aload_n hx hb (by decide +kernel : decode cX12_qWordHere 136 = .ok (.aload_n 0, 1)) rfl) ?_
  refine mm_fc (ss_aload_n hx hb (by decide +kernel : decode cX12_qWordHere 137 = .ok (.aload_n 0, 1)) rfl) ?_
  refine mm_fc (ss_get X rfl in_X12 (by decide) rfl wd_6_143 (by decide +kernel : decode cX12_qWordHere 138 = .ok (.getfield 210, 3))) ?_
  refine mm_fc (ss_callV X rfl rfl wd_7_175 wd_1_13 wd_7_172 wd_7_174 wd_p_49 (by decide +kernel) (by decide +kernel) (by decide) (by decide +kernel : decode cX12_qWordHere 141 = .ok (.invokevirtual 260, 3))) ?_
  refine mm_fc (ss_ifeq hx hb (by decide +kernel : decode cX12_qWordHere 144 = .ok (.ifCond .eq 6, 3)) (by decide)) ?_
  refine mm_fc (ss_bipush hx hb (by decide +kernel : decode cX12_qWordHere 147 = .ok (.bipush 9, 2)) (by decide)) ?_
  refine mm_fc (ss_iret (by decide +kernel : decode cX12_qWordHere 149 = .ok (.ireturn, 1)) rfl) ?_
  refine mm_fc (ss_aload_n hx hb (by decide +kernel : decode cX12_qWordHere 150 = .ok (.aload_n 0, 1)) rfl) ?_
  refine mm_fc (ss_aload_n hx hb (by decide +kernel : decode cX12_qWordHere 151 = .ok (.aload_n 0, 1)) rfl) ?_
  refine mm_fc (ss_get X rfl in_X12 (by decide) rfl wd_6_144 (by decide +kernel : decode cX12_qWordHere 152 = .ok (.getfield 213, 3))) ?_
  refine mm_fc (ss_callV X rfl rfl wd_7_175 wd_1_13 wd_7_172 wd_7_174 wd_p_49 (by decide +kernel) (by decide +kernel) (by decide) (by decide +kernel : decode cX12_qWordHere 155 = .ok (.invokevirtual 260, 3))) ?_
  refine mm_fc (ss_ifeq hx hb (by decide +kernel : decode cX12_qWordHere 158 = .ok (.ifCond .eq 6, 3)) (by decide)) ?_
  refine mm_fc (ss_bipush hx hb (by decide +kernel : decode cX12_qWordHere 161 = .ok (.bipush 10, 2)) (by decide)) ?_
  refine mm_fc (ss_iret (by decide +kernel : decode cX12_qWordHere 163 = .ok (.ireturn, 1)) rfl) ?_
  refine mm_fc (ss_aload_n hx hb (by decide +kernel : decode cX12_qWordHere 164 = .ok (.aload_n 0, 1)) rfl) ?_
  refine mm_fc (ss_aload_n hx hb (by decide +kernel : decode cX12_qWordHere 165 = .ok (.aload_n 0, 1)) rfl) ?_
  refine mm_fc (ss_get X rfl in_X12 (by decide) rfl wd_6_145 (by decide +kernel : decode cX12_qWordHere 166 = .ok (.getfield 216, 3))) ?_
  refine mm_fc (ss_callV X rfl rfl wd_7_175 wd_1_13 wd_7_172 wd_7_174 wd_p_49 (by decide +kernel) (by decide +kernel) (by decide) (by decide +kernel : decode cX12_qWordHere 169 = .ok (.invokevirtual 260, 3))) ?_
  refine mm_fc (ss_ifeq hx hb (by decide +kernel : decode cX12_qWordHere 172 = .ok (.ifCond .eq 6, 3)) (by decide)) ?_
  refine mm_fc (ss_bipush hx hb (by decide +kernel : decode cX12_qWordHere 175 = .ok (.bipush 11, 2)) (by decide)) ?_
  refine mm_fc (ss_iret (by decide +kernel : decode cX12_qWordHere 177 = .ok (.ireturn, 1)) rfl) ?_
  refine mm_fc (ss_aload_n hx hb (by decide +kernel : decode cX12_qWordHere 178 = .ok (.aload_n 0, 1)) rfl) ?_
  refine mm_fc (ss_aload_n hx hb (by decide +kernel : decode cX12_qWordHere 179 = .ok (.aload_n 0, 1)) rfl) ?_
  refine mm_fc (ss_get X rfl in_X12 (by decide) rfl wd_6_146 (by decide +kernel : decode cX12_qWordHere 180 = .ok (.getfield 219, 3))) ?_
  refine mm_fc (ss_callV X rfl rfl wd_7_175 wd_1_13 wd_7_172 wd_7_174 wd_p_49 (by decide +kernel) (by decide +kernel) (by decide) (by decide +kernel : decode cX12_qWordHere 183 = .ok (.invokevirtual 260, 3))) ?_
  refine mm_fc (ss_ifeq hx hb (by decide +kernel : decode cX12_qWordHere 186 = .ok (.ifCond .eq 6, 3)) (by decide)) ?_
  refine mm_fc (ss_bipush hx hb (by decide +kernel : decode cX12_qWordHere 189 = .ok (.bipush 12, 2)) (by decide)) ?_
  refine mm_fc (ss_iret (by decide +kernel : decode cX12_qWordHere 191 = .ok (.ireturn, 1)) rfl) ?_
  refine mm_fc (ss_iconst hx hb (by decide +kernel : decode cX12_qWordHere 192 = .ok (.iconst (-1), 1)) (by decide)) ?_
  refine mm_fc (ss_iret (by decide +kernel : decode cX12_qWordHere 193 = .ok (.ireturn, 1)) rfl) ?_
  exact mm_fn
def cd_X12_qWordOf : mm_K mm_H := [(0, s_aload 0 1), (1, s_callV 12 292 0 1 4), (4, s_istore 3 5), (5, s_iload 3 6), (6, s_iload 1 7), (7, s_icmp (fun x y => x < y) 27 10), (10, s_iload 3 11), (11, s_iload 2 12), (12, s_icmp (fun x y => y ≤ x) 27 15), (15, s_aload 0 16), (16, s_iload 3 17), (17, s_callV 12 203 1 1 20), (20, s_if (fun x => x = 0) 27 23), (23, s_iload 3 24), (24, s_goto 28), (27, s_pushI (-1) 28), (28, s_iret)]
set_option maxRecDepth 100000 in
set_option maxHeartbeats 4000000 in
theorem ok_X12_qWordOf (l : Launch) : mm_CodeOK l mm_I0 RX12 cX12_qWordOf 4 (some .int) cd_X12_qWordOf := by
  intro p e R s m args below meth c Q σ cA D A kc ks d C X
  have hx := X.1
  have hb := X.2.1
  have hown := X.2.2.2.1
  have hts := X.2.2.2.2.1
  refine mm_fc (ss_aload_n hx hb (by decide +kernel : decode cX12_qWordOf 0 = .ok (.aload_n 0, 1)) rfl) ?_
  refine mm_fc (ss_callV X rfl rfl wd_8_30 wd_1_13 wd_8_27 wd_8_29 wd_p_70 (by decide +kernel) (by decide +kernel) (by decide) (by decide +kernel : decode cX12_qWordOf 1 = .ok (.invokevirtual 608, 3))) ?_
  refine mm_fc (ss_istore_n hx hb (by decide +kernel : decode cX12_qWordOf 4 = .ok (.istore_n 3, 1)) rfl (by decide)) ?_
  refine mm_fc (ss_iload_n hx hb (by decide +kernel : decode cX12_qWordOf 5 = .ok (.iload_n 3, 1)) rfl) ?_
  refine mm_fc (ss_iload_n hx hb (by decide +kernel : decode cX12_qWordOf 6 = .ok (.iload_n 1, 1)) rfl) ?_
  refine mm_fc (ss_icmplt hx hb (by decide +kernel : decode cX12_qWordOf 7 = .ok (.if_icmp .lt 20, 3)) (by decide)) ?_
  refine mm_fc (ss_iload_n hx hb (by decide +kernel : decode cX12_qWordOf 10 = .ok (.iload_n 3, 1)) rfl) ?_
  refine mm_fc (ss_iload_n hx hb (by decide +kernel : decode cX12_qWordOf 11 = .ok (.iload_n 2, 1)) rfl) ?_
  refine mm_fc (ss_icmpge hx hb (by decide +kernel : decode cX12_qWordOf 12 = .ok (.if_icmp .ge 15, 3)) (by decide)) ?_
  refine mm_fc (ss_aload_n hx hb (by decide +kernel : decode cX12_qWordOf 15 = .ok (.aload_n 0, 1)) rfl) ?_
  refine mm_fc (ss_iload_n hx hb (by decide +kernel : decode cX12_qWordOf 16 = .ok (.iload_n 3, 1)) rfl) ?_
  refine mm_fc (ss_callV X rfl rfl wd_8_34 wd_1_13 wd_8_31 wd_8_33 wd_p_71 (by decide +kernel) (by decide +kernel) (by decide) (by decide +kernel : decode cX12_qWordOf 17 = .ok (.invokevirtual 611, 3))) ?_
  refine mm_fc (ss_ifeq hx hb (by decide +kernel : decode cX12_qWordOf 20 = .ok (.ifCond .eq 7, 3)) (by decide)) ?_
  refine mm_fc (ss_iload_n hx hb (by decide +kernel : decode cX12_qWordOf 23 = .ok (.iload_n 3, 1)) rfl) ?_
  refine mm_fc (ss_goto hx hb (by decide +kernel : decode cX12_qWordOf 24 = .ok (.goto 4, 3)) (by decide)) ?_
  refine mm_fc (ss_iconst hx hb (by decide +kernel : decode cX12_qWordOf 27 = .ok (.iconst (-1), 1)) (by decide)) ?_
  refine mm_fc (ss_iret (by decide +kernel : decode cX12_qWordOf 28 = .ok (.ireturn, 1)) rfl) ?_
  exact mm_fn
def cd_X12_qAsksWord : mm_K mm_H := [(0, s_iload 1 1), (1, s_sw [(0, 64), (1, 75), (2, 86), (3, 97), (4, 108), (5, 119), (6, 130), (7, 141), (8, 152), (9, 163), (10, 174), (11, 185)] 196), (64, s_aload 0 65), (65, s_aload 0 66), (66, s_get 12 88 69), (69, s_callV 12 197 1 0 72), (72, s_goto 204), (75, s_aload 0 76), (76, s_aload 0 77), (77, s_get 12 89 80), (80, s_callV 12 197 1 0 83), (83, s_goto 204), (86, s_aload 0 87), (87, s_aload 0 88), (88, s_get 12 90 91), (91, s_callV 12 197 1 0 94), (94, s_goto 204), (97, s_aload 0 98), (98, s_aload 0 99), (99, s_get 12 91 102), (102, s_callV 12 197 1 0 105), (105, s_goto 204), (108, s_aload 0 109), (109, s_aload 0 110), (110, s_get 12 92 113), (113, s_callV 12 197 1 0 116), (116, s_goto 204), (119, s_aload 0 120), (120, s_aload 0 121), (121, s_get 12 93 124), (124, s_callV 12 197 1 0 127), (127, s_goto 204), (130, s_aload 0 131), (131, s_aload 0 132), (132, s_get 12 94 135), (135, s_callV 12 197 1 0 138), (138, s_goto 204), (141, s_aload 0 142), (142, s_aload 0 143), (143, s_get 12 95 146), (146, s_callV 12 197 1 0 149), (149, s_goto 204), (152, s_aload 0 153), (153, s_aload 0 154), (154, s_get 12 96 157), (157, s_callV 12 197 1 0 160), (160, s_goto 204), (163, s_aload 0 164), (164, s_aload 0 165), (165, s_get 12 97 168), (168, s_callV 12 197 1 0 171), (171, s_goto 204), (174, s_aload 0 175), (175, s_aload 0 176), (176, s_get 12 98 179), (179, s_callV 12 197 1 0 182), (182, s_goto 204), (185, s_aload 0 186), (186, s_aload 0 187), (187, s_get 12 99 190), (190, s_callV 12 197 1 0 193), (193, s_goto 204), (196, s_aload 0 197), (197, s_aload 0 198), (198, s_get 12 100 201), (201, s_callV 12 197 1 0 204), (204, s_vret)]
set_option maxRecDepth 100000 in
set_option maxHeartbeats 4000000 in
theorem ok_X12_qAsksWord (l : Launch) : mm_CodeOK l mm_I0 RX12 cX12_qAsksWord 2 none cd_X12_qAsksWord := by
  intro p e R s m args below meth c Q σ cA D A kc ks d C X
  have hx := X.1
  have hb := X.2.1
  have hown := X.2.2.2.1
  have hts := X.2.2.2.2.1
  refine mm_fc (ss_iload_n hx hb (by decide +kernel : decode cX12_qAsksWord 0 = .ok (.iload_n 1, 1)) rfl) ?_
  refine mm_fc (ss_table hx hb (by decide +kernel : decode cX12_qAsksWord 1 = .ok (.tableswitch 195 0 11 #[63, 74, 85, 96, 107, 118, 129, 140, 151, 162, 173, 184], 63)) (by decide) (by decide) (by decide)) ?_
  refine mm_fc (ss_aload_n hx hb (by decide +kernel : decode cX12_qAsksWord 64 = .ok (.aload_n 0, 1)) rfl) ?_
  refine mm_fc (ss_aload_n hx hb (by decide +kernel : decode cX12_qAsksWord 65 = .ok (.aload_n 0, 1)) rfl) ?_
  refine mm_fc (ss_get X rfl in_X12 (by decide) rfl wd_6_134 (by decide +kernel : decode cX12_qAsksWord 66 = .ok (.getfield 183, 3))) ?_
  refine mm_fc (ss_callV X rfl rfl wd_7_167 wd_1_13 wd_7_164 wd_7_166 wd_p_47 (by decide +kernel) (by decide +kernel) (by decide) (by decide +kernel : decode cX12_qAsksWord 69 = .ok (.invokevirtual 309, 3))) ?_
  refine mm_fc (ss_goto hx hb (by decide +kernel : decode cX12_qAsksWord 72 = .ok (.goto 132, 3)) (by decide)) ?_
  refine mm_fc (ss_aload_n hx hb (by decide +kernel : decode cX12_qAsksWord 75 = .ok (.aload_n 0, 1)) rfl) ?_
  refine mm_fc (ss_aload_n hx hb (by decide +kernel : decode cX12_qAsksWord 76 = .ok (.aload_n 0, 1)) rfl) ?_
  refine mm_fc (ss_get X rfl in_X12 (by decide) rfl wd_6_135 (by decide +kernel : decode cX12_qAsksWord 77 = .ok (.getfield 186, 3))) ?_
  refine mm_fc (ss_callV X rfl rfl wd_7_167 wd_1_13 wd_7_164 wd_7_166 wd_p_47 (by decide +kernel) (by decide +kernel) (by decide) (by decide +kernel : decode cX12_qAsksWord 80 = .ok (.invokevirtual 309, 3))) ?_
  refine mm_fc (ss_goto hx hb (by decide +kernel : decode cX12_qAsksWord 83 = .ok (.goto 121, 3)) (by decide)) ?_
  refine mm_fc (ss_aload_n hx hb (by decide +kernel : decode cX12_qAsksWord 86 = .ok (.aload_n 0, 1)) rfl) ?_
  refine mm_fc (ss_aload_n hx hb (by decide +kernel : decode cX12_qAsksWord 87 = .ok (.aload_n 0, 1)) rfl) ?_
  refine mm_fc (ss_get X rfl in_X12 (by decide) rfl wd_6_136 (by decide +kernel : decode cX12_qAsksWord 88 = .ok (.getfield 189, 3))) ?_
  refine mm_fc (ss_callV X rfl rfl wd_7_167 wd_1_13 wd_7_164 wd_7_166 wd_p_47 (by decide +kernel) (by decide +kernel) (by decide) (by decide +kernel : decode cX12_qAsksWord 91 = .ok (.invokevirtual 309, 3))) ?_
  refine mm_fc (ss_goto hx hb (by decide +kernel : decode cX12_qAsksWord 94 = .ok (.goto 110, 3)) (by decide)) ?_
  refine mm_fc (ss_aload_n hx hb (by decide +kernel : decode cX12_qAsksWord 97 = .ok (.aload_n 0, 1)) rfl) ?_
  refine mm_fc (ss_aload_n hx hb (by decide +kernel : decode cX12_qAsksWord 98 = .ok (.aload_n 0, 1)) rfl) ?_
  refine mm_fc (ss_get X rfl in_X12 (by decide) rfl wd_6_137 (by decide +kernel : decode cX12_qAsksWord 99 = .ok (.getfield 192, 3))) ?_
  refine mm_fc (ss_callV X rfl rfl wd_7_167 wd_1_13 wd_7_164 wd_7_166 wd_p_47 (by decide +kernel) (by decide +kernel) (by decide) (by decide +kernel : decode cX12_qAsksWord 102 = .ok (.invokevirtual 309, 3))) ?_
  refine mm_fc (ss_goto hx hb (by decide +kernel : decode cX12_qAsksWord 105 = .ok (.goto 99, 3)) (by decide)) ?_
  refine mm_fc (ss_aload_n hx hb (by decide +kernel : decode cX12_qAsksWord 108 = .ok (.aload_n 0, 1)) rfl) ?_
  refine mm_fc (ss_aload_n hx hb (by decide +kernel : decode cX12_qAsksWord 109 = .ok (.aload_n 0, 1)) rfl) ?_
  refine mm_fc (ss_get X rfl in_X12 (by decide) rfl wd_6_138 (by decide +kernel : decode cX12_qAsksWord 110 = .ok (.getfield 195, 3))) ?_
  refine mm_fc (ss_callV X rfl rfl wd_7_167 wd_1_13 wd_7_164 wd_7_166 wd_p_47 (by decide +kernel) (by decide +kernel) (by decide) (by decide +kernel : decode cX12_qAsksWord 113 = .ok (.invokevirtual 309, 3))) ?_
  refine mm_fc (ss_goto hx hb (by decide +kernel : decode cX12_qAsksWord 116 = .ok (.goto 88, 3)) (by decide)) ?_
  refine mm_fc (ss_aload_n hx hb (by decide +kernel : decode cX12_qAsksWord 119 = .ok (.aload_n 0, 1)) rfl) ?_
  refine mm_fc (ss_aload_n hx hb (by decide +kernel : decode cX12_qAsksWord 120 = .ok (.aload_n 0, 1)) rfl) ?_
  refine mm_fc (ss_get X rfl in_X12 (by decide) rfl wd_6_139 (by decide +kernel : decode cX12_qAsksWord 121 = .ok (.getfield 198, 3))) ?_
  refine mm_fc (ss_callV X rfl rfl wd_7_167 wd_1_13 wd_7_164 wd_7_166 wd_p_47 (by decide +kernel) (by decide +kernel) (by decide) (by decide +kernel : decode cX12_qAsksWord 124 = .ok (.invokevirtual 309, 3))) ?_
  refine mm_fc (ss_goto hx hb (by decide +kernel : decode cX12_qAsksWord 127 = .ok (.goto 77, 3)) (by decide)) ?_
  refine mm_fc (ss_aload_n hx hb (by decide +kernel : decode cX12_qAsksWord 130 = .ok (.aload_n 0, 1)) rfl) ?_
  refine mm_fc (ss_aload_n hx hb (by decide +kernel : decode cX12_qAsksWord 131 = .ok (.aload_n 0, 1)) rfl) ?_
  refine mm_fc (ss_get X rfl in_X12 (by decide) rfl wd_6_140 (by decide +kernel : decode cX12_qAsksWord 132 = .ok (.getfield 201, 3))) ?_
  refine mm_fc (ss_callV X rfl rfl wd_7_167 wd_1_13 wd_7_164 wd_7_166 wd_p_47 (by decide +kernel) (by decide +kernel) (by decide) (by decide +kernel : decode cX12_qAsksWord 135 = .ok (.invokevirtual 309, 3))) ?_
  refine mm_fc (ss_goto hx hb (by decide +kernel : decode cX12_qAsksWord 138 = .ok (.goto 66, 3)) (by decide)) ?_
  refine mm_fc (ss_aload_n hx hb (by decide +kernel : decode cX12_qAsksWord 141 = .ok (.aload_n 0, 1)) rfl) ?_
  refine mm_fc (ss_aload_n hx hb (by decide +kernel : decode cX12_qAsksWord 142 = .ok (.aload_n 0, 1)) rfl) ?_
  refine mm_fc (ss_get X rfl in_X12 (by decide) rfl wd_6_141 (by decide +kernel : decode cX12_qAsksWord 143 = .ok (.getfield 204, 3))) ?_
  refine mm_fc (ss_callV X rfl rfl wd_7_167 wd_1_13 wd_7_164 wd_7_166 wd_p_47 (by decide +kernel) (by decide +kernel) (by decide) (by decide +kernel : decode cX12_qAsksWord 146 = .ok (.invokevirtual 309, 3))) ?_
  refine mm_fc (ss_goto hx hb (by decide +kernel : decode cX12_qAsksWord 149 = .ok (.goto 55, 3)) (by decide)) ?_
  refine mm_fc (ss_aload_n hx hb (by decide +kernel : decode cX12_qAsksWord 152 = .ok (.aload_n 0, 1)) rfl) ?_
  refine mm_fc (ss_aload_n hx hb (by decide +kernel : decode cX12_qAsksWord 153 = .ok (.aload_n 0, 1)) rfl) ?_
  refine mm_fc (ss_get X rfl in_X12 (by decide) rfl wd_6_142 (by decide +kernel : decode cX12_qAsksWord 154 = .ok (.getfield 207, 3))) ?_
  refine mm_fc (ss_callV X rfl rfl wd_7_167 wd_1_13 wd_7_164 wd_7_166 wd_p_47 (by decide +kernel) (by decide +kernel) (by decide) (by decide +kernel : decode cX12_qAsksWord 157 = .ok (.invokevirtual 309, 3))) ?_
  refine mm_fc (ss_goto hx hb (by decide +kernel : decode cX12_qAsksWord 160 = .ok (.goto 44, 3)) (by decide)) ?_
  refine mm_fc (ss_aload_n hx hb (by decide +kernel : decode cX12_qAsksWord 163 = .ok (.aload_n 0, 1)) rfl) ?_
  refine mm_fc (ss_aload_n hx hb (by decide +kernel : decode cX12_qAsksWord 164 = .ok (.aload_n 0, 1)) rfl) ?_
  refine mm_fc (ss_get X rfl in_X12 (by decide) rfl wd_6_143 (by decide +kernel : decode cX12_qAsksWord 165 = .ok (.getfield 210, 3))) ?_
  refine mm_fc (ss_callV X rfl rfl wd_7_167 wd_1_13 wd_7_164 wd_7_166 wd_p_47 (by decide +kernel) (by decide +kernel) (by decide) (by decide +kernel : decode cX12_qAsksWord 168 = .ok (.invokevirtual 309, 3))) ?_
  refine mm_fc (ss_goto hx hb (by decide +kernel : decode cX12_qAsksWord 171 = .ok (.goto 33, 3)) (by decide)) ?_
  refine mm_fc (ss_aload_n hx hb (by decide +kernel : decode cX12_qAsksWord 174 = .ok (.aload_n 0, 1)) rfl) ?_
  refine mm_fc (ss_aload_n hx hb (by decide +kernel : decode cX12_qAsksWord 175 = .ok (.aload_n 0, 1)) rfl) ?_
  refine mm_fc (ss_get X rfl in_X12 (by decide) rfl wd_6_144 (by decide +kernel : decode cX12_qAsksWord 176 = .ok (.getfield 213, 3))) ?_
  refine mm_fc (ss_callV X rfl rfl wd_7_167 wd_1_13 wd_7_164 wd_7_166 wd_p_47 (by decide +kernel) (by decide +kernel) (by decide) (by decide +kernel : decode cX12_qAsksWord 179 = .ok (.invokevirtual 309, 3))) ?_
  refine mm_fc (ss_goto hx hb (by decide +kernel : decode cX12_qAsksWord 182 = .ok (.goto 22, 3)) (by decide)) ?_
  refine mm_fc (ss_aload_n hx hb (by decide +kernel : decode cX12_qAsksWord 185 = .ok (.aload_n 0, 1)) rfl) ?_
  refine mm_fc (ss_aload_n hx hb (by decide +kernel : decode cX12_qAsksWord 186 = .ok (.aload_n 0, 1)) rfl) ?_
  refine mm_fc (ss_get X rfl in_X12 (by decide) rfl wd_6_145 (by decide +kernel : decode cX12_qAsksWord 187 = .ok (.getfield 216, 3))) ?_
  refine mm_fc (ss_callV X rfl rfl wd_7_167 wd_1_13 wd_7_164 wd_7_166 wd_p_47 (by decide +kernel) (by decide +kernel) (by decide) (by decide +kernel : decode cX12_qAsksWord 190 = .ok (.invokevirtual 309, 3))) ?_
  refine mm_fc (ss_goto hx hb (by decide +kernel : decode cX12_qAsksWord 193 = .ok (.goto 11, 3)) (by decide)) ?_
  refine mm_fc (ss_aload_n hx hb (by decide +kernel : decode cX12_qAsksWord 196 = .ok (.aload_n 0, 1)) rfl) ?_
  refine mm_fc (ss_aload_n hx hb (by decide +kernel : decode cX12_qAsksWord 197 = .ok (.aload_n 0, 1)) rfl) ?_
  refine mm_fc (ss_get X rfl in_X12 (by decide) rfl wd_6_146 (by decide +kernel : decode cX12_qAsksWord 198 = .ok (.getfield 219, 3))) ?_
  refine mm_fc (ss_callV X rfl rfl wd_7_167 wd_1_13 wd_7_164 wd_7_166 wd_p_47 (by decide +kernel) (by decide +kernel) (by decide) (by decide +kernel : decode cX12_qAsksWord 201 = .ok (.invokevirtual 309, 3))) ?_
  refine mm_fc (ss_vret (by decide +kernel : decode cX12_qAsksWord 204 = .ok (.return_, 1)) rfl) ?_
  exact mm_fn
def cd_X12_qEndsPart : mm_K mm_H := [(0, s_aload 0 1), (1, s_get 12 5 4), (4, s_if (fun x => ¬ x = 0) 51 7), (7, s_aload 0 8), (8, s_get 12 104 11), (11, s_aload 0 12), (12, s_get 12 106 15), (15, s_icmp (fun x y => x ≤ y) 51 18), (18, s_aload 0 19), (19, s_get 12 103 22), (22, s_aload 0 23), (23, s_get 12 104 26), (26, s_pushI 1 27), (27, s_bin (fun x y => x - y) 28), (28, s_iald 29), (29, s_pushI 60 31), (31, s_icmp (fun x y => x < y) 51 34), (34, s_aload 0 35), (35, s_dup 36), (36, s_get 12 105 39), (39, s_pushI 1 40), (40, s_bin (fun x y => x - y) 41), (41, s_putI 12 105 44), (44, s_aload 0 45), (45, s_callV 12 288 0 0 48), (48, s_goto 0), (51, s_vret)]
set_option maxRecDepth 100000 in
set_option maxHeartbeats 4000000 in
theorem ok_X12_qEndsPart (l : Launch) : mm_CodeOK l mm_I0 RX12 cX12_qEndsPart 1 none cd_X12_qEndsPart := by
  intro p e R s m args below meth c Q σ cA D A kc ks d C X
  have hx := X.1
  have hb := X.2.1
  have hown := X.2.2.2.1
  have hts := X.2.2.2.2.1
  refine mm_fc (ss_aload_n hx hb (by decide +kernel : decode cX12_qEndsPart 0 = .ok (.aload_n 0, 1)) rfl) ?_
  refine mm_fc (ss_get X rfl in_X12 (by decide) rfl wd_6_51 (by decide +kernel : decode cX12_qEndsPart 1 = .ok (.getfield 237, 3))) ?_
  refine mm_fc (ss_ifne hx hb (by decide +kernel : decode cX12_qEndsPart 4 = .ok (.ifCond .ne 47, 3)) (by decide)) ?_
  refine mm_fc (ss_aload_n hx hb (by decide +kernel : decode cX12_qEndsPart 7 = .ok (.aload_n 0, 1)) rfl) ?_
  refine mm_fc (ss_get X rfl in_X12 (by decide) rfl wd_6_150 (by decide +kernel : decode cX12_qEndsPart 8 = .ok (.getfield 330, 3))) ?_
  refine mm_fc (ss_aload_n hx hb (by decide +kernel : decode cX12_qEndsPart 11 = .ok (.aload_n 0, 1)) rfl) ?_
  refine mm_fc (ss_get X rfl in_X12 (by decide) rfl wd_6_152 (by decide +kernel : decode cX12_qEndsPart 12 = .ok (.getfield 336, 3))) ?_
  refine mm_fc (ss_icmple hx hb (by decide +kernel : decode cX12_qEndsPart 15 = .ok (.if_icmp .le 36, 3)) (by decide)) ?_
  refine mm_fc (ss_aload_n hx hb (by decide +kernel : decode cX12_qEndsPart 18 = .ok (.aload_n 0, 1)) rfl) ?_
  refine mm_fc (ss_get X rfl in_X12 (by decide) rfl wd_6_149 (by decide +kernel : decode cX12_qEndsPart 19 = .ok (.getfield 225, 3))) ?_
  refine mm_fc (ss_aload_n hx hb (by decide +kernel : decode cX12_qEndsPart 22 = .ok (.aload_n 0, 1)) rfl) ?_
  refine mm_fc (ss_get X rfl in_X12 (by decide) rfl wd_6_150 (by decide +kernel : decode cX12_qEndsPart 23 = .ok (.getfield 330, 3))) ?_
  refine mm_fc (ss_iconst hx hb (by decide +kernel : decode cX12_qEndsPart 26 = .ok (.iconst 1, 1)) (by decide)) ?_
  refine mm_fc (ss_isub hx hb (by decide +kernel : decode cX12_qEndsPart 27 = .ok (.isub, 1))) ?_
  refine mm_fc (ss_iald X (by decide +kernel : decode cX12_qEndsPart 28 = .ok (.iaload, 1))) ?_
  refine mm_fc (ss_bipush hx hb (by decide +kernel : decode cX12_qEndsPart 29 = .ok (.bipush 60, 2)) (by decide)) ?_
  refine mm_fc (ss_icmplt hx hb (by decide +kernel : decode cX12_qEndsPart 31 = .ok (.if_icmp .lt 20, 3)) (by decide)) ?_
  refine mm_fc (ss_aload_n hx hb (by decide +kernel : decode cX12_qEndsPart 34 = .ok (.aload_n 0, 1)) rfl) ?_
  refine mm_fc (ss_dup hx hb (by decide +kernel : decode cX12_qEndsPart 35 = .ok (.dup, 1))) ?_
  refine mm_fc (ss_get X rfl in_X12 (by decide) rfl wd_6_151 (by decide +kernel : decode cX12_qEndsPart 36 = .ok (.getfield 333, 3))) ?_
  refine mm_fc (ss_iconst hx hb (by decide +kernel : decode cX12_qEndsPart 39 = .ok (.iconst 1, 1)) (by decide)) ?_
  refine mm_fc (ss_isub hx hb (by decide +kernel : decode cX12_qEndsPart 40 = .ok (.isub, 1))) ?_
  refine mm_fc (ss_putI X rfl in_X12 tyX12_ok nmX12 (by decide) rfl rfl rfl rfl wd_6_151 (by decide +kernel : decode cX12_qEndsPart 41 = .ok (.putfield 333, 3))) ?_
  refine mm_fc (ss_aload_n hx hb (by decide +kernel : decode cX12_qEndsPart 44 = .ok (.aload_n 0, 1)) rfl) ?_
  refine mm_fc (ss_callV X rfl rfl wd_8_46 wd_1_13 wd_8_43 wd_8_45 wd_p_74 (by decide +kernel) (by decide +kernel) (by decide) (by decide +kernel : decode cX12_qEndsPart 45 = .ok (.invokevirtual 605, 3))) ?_
  refine mm_fc (ss_goto hx hb (by decide +kernel : decode cX12_qEndsPart 48 = .ok (.goto (-48), 3)) (by decide)) ?_
  refine mm_fc (ss_vret (by decide +kernel : decode cX12_qEndsPart 51 = .ok (.return_, 1)) rfl) ?_
  exact mm_fn
def cd_X12_qPartTold : mm_K mm_H := [(0, s_pushI 1 1), (1, s_kill 2 [2, 3, 4, 5] (s_istore 1 2)), (2, s_iload 1 3), (3, s_if (fun x => x = 0) 186 6), (6, s_aload 0 7), (7, s_get 12 5 10), (10, s_if (fun x => ¬ x = 0) 186 13), (13, s_aload 0 14), (14, s_callV 12 194 0 1 17), (17, s_istore 2 18), (18, s_aload 0 19), (19, s_pushI 11 21), (21, s_pushI 13 23), (23, s_callV 12 293 2 1 26), (26, s_istore 3 27), (27, s_iload 2 28), (28, s_pushI 40 30), (30, s_icmp (fun x y => ¬ x = y) 56 33), (33, s_aload 0 34), (34, s_pushI 20 36), (36, s_aload 0 37), (37, s_get 12 2 40), (40, s_callV 12 286 2 0 43), (43, s_aload 0 44), (44, s_dup 45), (45, s_get 12 2 48), (48, s_pushI 1 49), (49, s_bin (fun x y => x + y) 50), (50, s_putI 12 2 53), (53, s_goto 183), (56, s_aload 0 57), (57, s_aload 0 58), (58, s_get 12 86 61), (61, s_callV 12 195 1 1 64), (64, s_if (fun x => ¬ x = 0) 78 67), (67, s_aload 0 68), (68, s_aload 0 69), (69, s_get 12 87 72), (72, s_callV 12 195 1 1 75), (75, s_if (fun x => x = 0) 153 78), (78, s_aload 0 79), (79, s_aload 0 80), (80, s_get 12 86 83), (83, s_callV 12 196 1 1 86), (86, s_istore 4 88), (88, s_iload 4 90), (90, s_if (fun x => ¬ x = 0) 101 93), (93, s_aload 0 94), (94, s_aload 0 95), (95, s_get 12 87 98), (98, s_callV 12 197 1 0 101), (101, s_aload 0 102), (102, s_callV 12 194 0 1 105), (105, s_pushI 40 107), (107, s_icmp (fun x y => ¬ x = y) 117 110), (110, s_aload 0 111), (111, s_get 12 2 114), (114, s_goto 118), (117, s_pushI (-1) 118), (118, s_istore 5 120), (120, s_iload 5 122), (122, s_pushI (-1) 123), (123, s_icmp (fun x y => x = y) 144 126), (126, s_aload 0 127), (127, s_iload 4 129), (129, s_if (fun x => x = 0) 137 132), (132, s_pushI 21 134), (134, s_goto 139), (137, s_pushI 22 139), (139, s_iload 5 141), (141, s_callV 12 286 2 0 144), (144, s_aload 0 145), (145, s_pushI 40 147), (147, s_callV 12 199 1 0 150), (150, s_goto 183), (153, s_iload 3 154), (154, s_pushI (-1) 155), (155, s_icmp (fun x y => x = y) 181 158), (158, s_aload 0 159), (159, s_pushI 60 161), (161, s_iload 3 162), (162, s_bin (fun x y => x + y) 163), (163, s_pushI 11 165), (165, s_bin (fun x y => x - y) 166), (166, s_aload 0 167), (167, s_get 12 2 170), (170, s_callV 12 286 2 0 173), (173, s_aload 0 174), (174, s_iload 3 175), (175, s_callV 12 294 1 0 178), (178, s_goto 183), (181, s_pushI 0 182), (182, s_istore 1 183), (183, s_kill 2 [2, 3, 4, 5] (s_goto 2)), (186, s_aload 0 187), (187, s_get 12 5 190), (190, s_if (fun x => x = 0) 194 193), (193, s_vret), (194, s_aload 0 195), (195, s_pushI 0 196), (196, s_pushI 11 198), (198, s_callV 12 293 2 1 201), (201, s_istore 2 202), (202, s_iload 2 203), (203, s_pushI (-1) 204), (204, s_icmp (fun x y => x = y) 212 207), (207, s_aload 0 208), (208, s_iload 2 209), (209, s_callV 12 294 1 0 212), (212, s_aload 0 213), (213, s_iload 2 214), (214, s_pushI (-1) 215), (215, s_icmp (fun x y => x = y) 225 218), (218, s_pushI 40 220), (220, s_iload 2 221), (221, s_bin (fun x y => x + y) 222), (222, s_goto 237), (225, s_pushI 1000 228), (228, s_aload 0 229), (229, s_pushI 0 230), (230, s_pushI 9999 233), (233, s_callV 12 200 2 1 236), (236, s_bin (fun x y => x + y) 237), (237, s_callV 12 285 1 0 240), (240, s_aload 0 241), (241, s_callV 12 295 0 0 244), (244, s_vret)]
set_option maxRecDepth 100000 in
set_option maxHeartbeats 4000000 in
theorem ok_X12_qPartTold (l : Launch) : mm_CodeOK l mm_I0 RX12 cX12_qPartTold 6 none cd_X12_qPartTold := by
  intro p e R s m args below meth c Q σ cA D A kc ks d C X
  have hx := X.1
  have hb := X.2.1
  have hown := X.2.2.2.1
  have hts := X.2.2.2.2.1
  refine mm_fc (ss_iconst hx hb (by decide +kernel : decode cX12_qPartTold 0 = .ok (.iconst 1, 1)) (by decide)) ?_
  refine mm_fc (ss_kill (ss_istore_n hx hb (by decide +kernel : decode cX12_qPartTold 1 = .ok (.istore_n 1, 1)) rfl (by decide))) ?_
  refine mm_fc (ss_iload_n hx hb (by decide +kernel : decode cX12_qPartTold 2 = .ok (.iload_n 1, 1)) rfl) ?_
  refine mm_fc (ss_ifeq hx hb (by decide +kernel : decode cX12_qPartTold 3 = .ok (.ifCond .eq 183, 3)) (by decide)) ?_
  refine mm_fc (ss_aload_n hx hb (by decide +kernel : decode cX12_qPartTold 6 = .ok (.aload_n 0, 1)) rfl) ?_
  refine mm_fc (ss_get X rfl in_X12 (by decide) rfl wd_6_51 (by decide +kernel : decode cX12_qPartTold 7 = .ok (.getfield 237, 3))) ?_
  refine mm_fc (ss_ifne hx hb (by decide +kernel : decode cX12_qPartTold 10 = .ok (.ifCond .ne 176, 3)) (by decide)) ?_
  refine mm_fc (ss_aload_n hx hb (by decide +kernel : decode cX12_qPartTold 13 = .ok (.aload_n 0, 1)) rfl) ?_
  refine mm_fc (ss_callV X rfl rfl wd_7_179 wd_1_13 wd_7_176 wd_7_178 wd_p_50 (by decide +kernel) (by decide +kernel) (by decide) (by decide +kernel : decode cX12_qPartTold 14 = .ok (.invokevirtual 249, 3))) ?_
  refine mm_fc (ss_istore_n hx hb (by decide +kernel : decode cX12_qPartTold 17 = .ok (.istore_n 2, 1)) rfl (by decide)) ?_
  refine mm_fc (ss_aload_n hx hb (by decide +kernel : decode cX12_qPartTold 18 = .ok (.aload_n 0, 1)) rfl) ?_
  refine mm_fc (ss_bipush hx hb (by decide +kernel : decode cX12_qPartTold 19 = .ok (.bipush 11, 2)) (by decide)) ?_
  refine mm_fc (ss_bipush hx hb (by decide +kernel : decode cX12_qPartTold 21 = .ok (.bipush 13, 2)) (by decide)) ?_
  refine mm_fc (ss_callV X rfl rfl wd_8_26 wd_1_13 wd_8_23 wd_8_25 wd_p_69 (by decide +kernel) (by decide +kernel) (by decide) (by decide +kernel : decode cX12_qPartTold 23 = .ok (.invokevirtual 614, 3))) ?_
  refine mm_fc (ss_istore_n hx hb (by decide +kernel : decode cX12_qPartTold 26 = .ok (.istore_n 3, 1)) rfl (by decide)) ?_
  refine mm_fc (ss_iload_n hx hb (by decide +kernel : decode cX12_qPartTold 27 = .ok (.iload_n 2, 1)) rfl) ?_
  refine mm_fc (ss_bipush hx hb (by decide +kernel : decode cX12_qPartTold 28 = .ok (.bipush 40, 2)) (by decide)) ?_
  refine mm_fc (ss_icmpne hx hb (by decide +kernel : decode cX12_qPartTold 30 = .ok (.if_icmp .ne 26, 3)) (by decide)) ?_
  refine mm_fc (ss_aload_n hx hb (by decide +kernel : decode cX12_qPartTold 33 = .ok (.aload_n 0, 1)) rfl) ?_
  refine mm_fc (ss_bipush hx hb (by decide +kernel : decode cX12_qPartTold 34 = .ok (.bipush 20, 2)) (by decide)) ?_
  refine mm_fc (ss_aload_n hx hb (by decide +kernel : decode cX12_qPartTold 36 = .ok (.aload_n 0, 1)) rfl) ?_
  refine mm_fc (ss_get X rfl in_X12 (by decide) rfl wd_6_48 (by decide +kernel : decode cX12_qPartTold 37 = .ok (.getfield 243, 3))) ?_
  refine mm_fc (ss_callV X rfl rfl wd_8_6 wd_1_13 wd_8_3 wd_8_5 wd_p_64 (by decide +kernel) (by decide +kernel) (by decide) (by decide +kernel : decode cX12_qPartTold 40 = .ok (.invokevirtual 617, 3))) ?_
  refine mm_fc (ss_aload_n hx hb (by decide +kernel : decode cX12_qPartTold 43 = .ok (.aload_n 0, 1)) rfl) ?_
  refine mm_fc (ss_dup hx hb (by decide +kernel : decode cX12_qPartTold 44 = .ok (.dup, 1))) ?_
  refine mm_fc (ss_get X rfl in_X12 (by decide) rfl wd_6_48 (by decide +kernel : decode cX12_qPartTold 45 = .ok (.getfield 243, 3))) ?_
  refine mm_fc (ss_iconst hx hb (by decide +kernel : decode cX12_qPartTold 48 = .ok (.iconst 1, 1)) (by decide)) ?_
  refine mm_fc (ss_iadd hx hb (by decide +kernel : decode cX12_qPartTold 49 = .ok (.iadd, 1))) ?_
  refine mm_fc (ss_putI X rfl in_X12 tyX12_ok nmX12 (by decide) rfl rfl rfl rfl wd_6_48 (by decide +kernel : decode cX12_qPartTold 50 = .ok (.putfield 243, 3))) ?_
  refine mm_fc (ss_goto hx hb (by decide +kernel : decode cX12_qPartTold 53 = .ok (.goto 130, 3)) (by decide)) ?_
  refine mm_fc (ss_aload_n hx hb (by decide +kernel : decode cX12_qPartTold 56 = .ok (.aload_n 0, 1)) rfl) ?_
  refine mm_fc (ss_aload_n hx hb (by decide +kernel : decode cX12_qPartTold 57 = .ok (.aload_n 0, 1)) rfl) ?_
  refine mm_fc (ss_get X rfl in_X12 (by decide) rfl wd_6_132 (by decide +kernel : decode cX12_qPartTold 58 = .ok (.getfield 177, 3))) ?_
  refine mm_fc (ss_callV X rfl rfl wd_7_175 wd_1_13 wd_7_172 wd_7_174 wd_p_49 (by decide +kernel) (by decide +kernel) (by decide) (by decide +kernel : decode cX12_qPartTold 61 = .ok (.invokevirtual 260, 3))) ?_
  refine mm_fc (ss_ifne hx hb (by decide +kernel : decode cX12_qPartTold 64 = .ok (.ifCond .ne 14, 3)) (by decide)) ?_
  refine mm_fc (ss_aload_n hx hb (by decide +kernel : decode cX12_qPartTold 67 = .ok (.aload_n 0, 1)) rfl) ?_
  refine mm_fc (ss_aload_n hx hb (by decide +kernel : decode cX12_qPartTold 68 = .ok (.aload_n 0, 1)) rfl) ?_
  refine mm_fc (ss_get X rfl in_X12 (by decide) rfl wd_6_133 (by decide +kernel : decode cX12_qPartTold 69 = .ok (.getfield 180, 3))) ?_
  refine mm_fc (ss_callV X rfl rfl wd_7_175 wd_1_13 wd_7_172 wd_7_174 wd_p_49 (by decide +kernel) (by decide +kernel) (by decide) (by decide +kernel : decode cX12_qPartTold 72 = .ok (.invokevirtual 260, 3))) ?_
  refine mm_fc (ss_ifeq hx hb (by decide +kernel : decode cX12_qPartTold 75 = .ok (.ifCond .eq 78, 3)) (by decide)) ?_
  refine mm_fc (ss_aload_n hx hb (by decide +kernel : decode cX12_qPartTold 78 = .ok (.aload_n 0, 1)) rfl) ?_
  refine mm_fc (ss_aload_n hx hb (by decide +kernel : decode cX12_qPartTold 79 = .ok (.aload_n 0, 1)) rfl) ?_
  refine mm_fc (ss_get X rfl in_X12 (by decide) rfl wd_6_132 (by decide +kernel : decode cX12_qPartTold 80 = .ok (.getfield 177, 3))) ?_
  refine mm_fc (ss_callV X rfl rfl wd_7_171 wd_1_13 wd_7_168 wd_7_170 wd_p_48 (by decide +kernel) (by decide +kernel) (by decide) (by decide +kernel : decode cX12_qPartTold 83 = .ok (.invokevirtual 264, 3))) ?_
  refine mm_fc (ss_istore hx hb (by decide +kernel : decode cX12_qPartTold 86 = .ok (.istore 4, 2)) (by decide)) ?_
  refine mm_fc (ss_iload hx hb (by decide +kernel : decode cX12_qPartTold 88 = .ok (.iload 4, 2))) ?_
  refine mm_fc (ss_ifne hx hb (by decide +kernel : decode cX12_qPartTold 90 = .ok (.ifCond .ne 11, 3)) (by decide)) ?_
  refine mm_fc (ss_aload_n hx hb (by decide +kernel : decode cX12_qPartTold 93 = .ok (.aload_n 0, 1)) rfl) ?_
  refine mm_fc (ss_aload_n hx hb (by decide +kernel : decode cX12_qPartTold 94 = .ok (.aload_n 0, 1)) rfl) ?_
  refine mm_fc (ss_get X rfl in_X12 (by decide) rfl wd_6_133 (by decide +kernel : decode cX12_qPartTold 95 = .ok (.getfield 180, 3))) ?_
  refine mm_fc (ss_callV X rfl rfl wd_7_167 wd_1_13 wd_7_164 wd_7_166 wd_p_47 (by decide +kernel) (by decide +kernel) (by decide) (by decide +kernel : decode cX12_qPartTold 98 = .ok (.invokevirtual 309, 3))) ?_
  refine mm_fc (ss_aload_n hx hb (by decide +kernel : decode cX12_qPartTold 101 = .ok (.aload_n 0, 1)) rfl) ?_
  refine mm_fc (ss_callV X rfl rfl wd_7_179 wd_1_13 wd_7_176 wd_7_178 wd_p_50 (by decide +kernel) (by decide +kernel) (by decide) (by decide +kernel : decode cX12_qPartTold 102 = .ok (.invokevirtual 249, 3))) ?_
  refine mm_fc (ss_bipush hx hb (by decide +kernel : decode cX12_qPartTold 105 = .ok (.bipush 40, 2)) (by decide)) ?_
  refine mm_fc (ss_icmpne hx hb (by decide +kernel : decode cX12_qPartTold 107 = .ok (.if_icmp .ne 10, 3)) (by decide)) ?_
  refine mm_fc (ss_aload_n hx hb (by decide +kernel : decode cX12_qPartTold 110 = .ok (.aload_n 0, 1)) rfl) ?_
  refine mm_fc (ss_get X rfl in_X12 (by decide) rfl wd_6_48 (by decide +kernel : decode cX12_qPartTold 111 = .ok (.getfield 243, 3))) ?_
  refine mm_fc (ss_goto hx hb (by decide +kernel : decode cX12_qPartTold 114 = .ok (.goto 4, 3)) (by decide)) ?_
  refine mm_fc (ss_iconst hx hb (by decide +kernel : decode cX12_qPartTold 117 = .ok (.iconst (-1), 1)) (by decide)) ?_
  refine mm_fc (ss_istore hx hb (by decide +kernel : decode cX12_qPartTold 118 = .ok (.istore 5, 2)) (by decide)) ?_
  refine mm_fc (ss_iload hx hb (by decide +kernel : decode cX12_qPartTold 120 = .ok (.iload 5, 2))) ?_
  refine mm_fc (ss_iconst hx hb (by decide +kernel : decode cX12_qPartTold 122 = .ok (.iconst (-1), 1)) (by decide)) ?_
  refine mm_fc (ss_icmpeq hx hb (by decide +kernel : decode cX12_qPartTold 123 = .ok (.if_icmp .eq 21, 3)) (by decide)) ?_
  refine mm_fc (ss_aload_n hx hb (by decide +kernel : decode cX12_qPartTold 126 = .ok (.aload_n 0, 1)) rfl) ?_
  refine mm_fc (ss_iload hx hb (by decide +kernel : decode cX12_qPartTold 127 = .ok (.iload 4, 2))) ?_
  refine mm_fc (ss_ifeq hx hb (by decide +kernel : decode cX12_qPartTold 129 = .ok (.ifCond .eq 8, 3)) (by decide)) ?_
  refine mm_fc (ss_bipush hx hb (by decide +kernel : decode cX12_qPartTold 132 = .ok (.bipush 21, 2)) (by decide)) ?_
  refine mm_fc (ss_goto hx hb (by decide +kernel : decode cX12_qPartTold 134 = .ok (.goto 5, 3)) (by decide)) ?_
  refine mm_fc (ss_bipush hx hb (by decide +kernel : decode cX12_qPartTold 137 = .ok (.bipush 22, 2)) (by decide)) ?_
  refine mm_fc (ss_iload hx hb (by decide +kernel : decode cX12_qPartTold 139 = .ok (.iload 5, 2))) ?_
  refine mm_fc (ss_callV X rfl rfl wd_8_6 wd_1_13 wd_8_3 wd_8_5 wd_p_64 (by decide +kernel) (by decide +kernel) (by decide) (by decide +kernel : decode cX12_qPartTold 141 = .ok (.invokevirtual 617, 3))) ?_
  refine mm_fc (ss_aload_n hx hb (by decide +kernel : decode cX12_qPartTold 144 = .ok (.aload_n 0, 1)) rfl) ?_
  refine mm_fc (ss_bipush hx hb (by decide +kernel : decode cX12_qPartTold 145 = .ok (.bipush 40, 2)) (by decide)) ?_
  refine mm_fc (ss_callV X rfl rfl wd_7_200 wd_1_13 wd_7_197 wd_7_199 wd_p_53 (by decide +kernel) (by decide +kernel) (by decide) (by decide +kernel : decode cX12_qPartTold 147 = .ok (.invokevirtual 320, 3))) ?_
  refine mm_fc (ss_goto hx hb (by decide +kernel : decode cX12_qPartTold 150 = .ok (.goto 33, 3)) (by decide)) ?_
  refine mm_fc (ss_iload_n hx hb (by decide +kernel : decode cX12_qPartTold 153 = .ok (.iload_n 3, 1)) rfl) ?_
  refine mm_fc (ss_iconst hx hb (by decide +kernel : decode cX12_qPartTold 154 = .ok (.iconst (-1), 1)) (by decide)) ?_
  refine mm_fc (ss_icmpeq hx hb (by decide +kernel : decode cX12_qPartTold 155 = .ok (.if_icmp .eq 26, 3)) (by decide)) ?_
  refine mm_fc (ss_aload_n hx hb (by decide +kernel : decode cX12_qPartTold 158 = .ok (.aload_n 0, 1)) rfl) ?_
  refine mm_fc (ss_bipush hx hb (by decide +kernel : decode cX12_qPartTold 159 = .ok (.bipush 60, 2)) (by decide)) ?_
  refine mm_fc (ss_iload_n hx hb (by decide +kernel : decode cX12_qPartTold 161 = .ok (.iload_n 3, 1)) rfl) ?_
  refine mm_fc (ss_iadd hx hb (by decide +kernel : decode cX12_qPartTold 162 = .ok (.iadd, 1))) ?_
  refine mm_fc (ss_bipush hx hb (by decide +kernel : decode cX12_qPartTold 163 = .ok (.bipush 11, 2)) (by decide)) ?_
  refine mm_fc (ss_isub hx hb (by decide +kernel : decode cX12_qPartTold 165 = .ok (.isub, 1))) ?_
  refine mm_fc (ss_aload_n hx hb (by decide +kernel : decode cX12_qPartTold 166 = .ok (.aload_n 0, 1)) rfl) ?_
  refine mm_fc (ss_get X rfl in_X12 (by decide) rfl wd_6_48 (by decide +kernel : decode cX12_qPartTold 167 = .ok (.getfield 243, 3))) ?_
  refine mm_fc (ss_callV X rfl rfl wd_8_6 wd_1_13 wd_8_3 wd_8_5 wd_p_64 (by decide +kernel) (by decide +kernel) (by decide) (by decide +kernel : decode cX12_qPartTold 170 = .ok (.invokevirtual 617, 3))) ?_
  refine mm_fc (ss_aload_n hx hb (by decide +kernel : decode cX12_qPartTold 173 = .ok (.aload_n 0, 1)) rfl) ?_
  refine mm_fc (ss_iload_n hx hb (by decide +kernel : decode cX12_qPartTold 174 = .ok (.iload_n 3, 1)) rfl) ?_
  refine mm_fc (ss_callV X rfl rfl wd_8_38 wd_1_13 wd_8_35 wd_8_37 wd_p_72 (by decide +kernel) (by decide +kernel) (by decide) (by decide +kernel : decode cX12_qPartTold 175 = .ok (.invokevirtual 620, 3))) ?_
  refine mm_fc (ss_goto hx hb (by decide +kernel : decode cX12_qPartTold 178 = .ok (.goto 5, 3)) (by decide)) ?_
  refine mm_fc (ss_iconst hx hb (by decide +kernel : decode cX12_qPartTold 181 = .ok (.iconst 0, 1)) (by decide)) ?_
  refine mm_fc (ss_istore_n hx hb (by decide +kernel : decode cX12_qPartTold 182 = .ok (.istore_n 1, 1)) rfl (by decide)) ?_
  refine mm_fc (ss_kill (ss_goto hx hb (by decide +kernel : decode cX12_qPartTold 183 = .ok (.goto (-181), 3)) (by decide))) ?_
  refine mm_fc (ss_aload_n hx hb (by decide +kernel : decode cX12_qPartTold 186 = .ok (.aload_n 0, 1)) rfl) ?_
  refine mm_fc (ss_get X rfl in_X12 (by decide) rfl wd_6_51 (by decide +kernel : decode cX12_qPartTold 187 = .ok (.getfield 237, 3))) ?_
  refine mm_fc (ss_ifeq hx hb (by decide +kernel : decode cX12_qPartTold 190 = .ok (.ifCond .eq 4, 3)) (by decide)) ?_
  refine mm_fc (ss_vret (by decide +kernel : decode cX12_qPartTold 193 = .ok (.return_, 1)) rfl) ?_
  refine mm_fc (ss_aload_n hx hb (by decide +kernel : decode cX12_qPartTold 194 = .ok (.aload_n 0, 1)) rfl) ?_
  refine mm_fc (ss_iconst hx hb (by decide +kernel : decode cX12_qPartTold 195 = .ok (.iconst 0, 1)) (by decide)) ?_
  refine mm_fc (ss_bipush hx hb (by decide +kernel : decode cX12_qPartTold 196 = .ok (.bipush 11, 2)) (by decide)) ?_
  refine mm_fc (ss_callV X rfl rfl wd_8_26 wd_1_13 wd_8_23 wd_8_25 wd_p_69 (by decide +kernel) (by decide +kernel) (by decide) (by decide +kernel : decode cX12_qPartTold 198 = .ok (.invokevirtual 614, 3))) ?_
  refine mm_fc (ss_istore_n hx hb (by decide +kernel : decode cX12_qPartTold 201 = .ok (.istore_n 2, 1)) rfl (by decide)) ?_
  refine mm_fc (ss_iload_n hx hb (by decide +kernel : decode cX12_qPartTold 202 = .ok (.iload_n 2, 1)) rfl) ?_
  refine mm_fc (ss_iconst hx hb (by decide +kernel : decode cX12_qPartTold 203 = .ok (.iconst (-1), 1)) (by decide)) ?_
  refine mm_fc (ss_icmpeq hx hb (by decide +kernel : decode cX12_qPartTold 204 = .ok (.if_icmp .eq 8, 3)) (by decide)) ?_
  refine mm_fc (ss_aload_n hx hb (by decide +kernel : decode cX12_qPartTold 207 = .ok (.aload_n 0, 1)) rfl) ?_
  refine mm_fc (ss_iload_n hx hb (by decide +kernel : decode cX12_qPartTold 208 = .ok (.iload_n 2, 1)) rfl) ?_
  refine mm_fc (ss_callV X rfl rfl wd_8_38 wd_1_13 wd_8_35 wd_8_37 wd_p_72 (by decide +kernel) (by decide +kernel) (by decide) (by decide +kernel : decode cX12_qPartTold 209 = .ok (.invokevirtual 620, 3))) ?_
  refine mm_fc (ss_aload_n hx hb (by decide +kernel : decode cX12_qPartTold 212 = .ok (.aload_n 0, 1)) rfl) ?_
  refine mm_fc (ss_iload_n hx hb (by decide +kernel : decode cX12_qPartTold 213 = .ok (.iload_n 2, 1)) rfl) ?_
  refine mm_fc (ss_iconst hx hb (by decide +kernel : decode cX12_qPartTold 214 = .ok (.iconst (-1), 1)) (by decide)) ?_
  refine mm_fc (ss_icmpeq hx hb (by decide +kernel : decode cX12_qPartTold 215 = .ok (.if_icmp .eq 10, 3)) (by decide)) ?_
  refine mm_fc (ss_bipush hx hb (by decide +kernel : decode cX12_qPartTold 218 = .ok (.bipush 40, 2)) (by decide)) ?_
  refine mm_fc (ss_iload_n hx hb (by decide +kernel : decode cX12_qPartTold 220 = .ok (.iload_n 2, 1)) rfl) ?_
  refine mm_fc (ss_iadd hx hb (by decide +kernel : decode cX12_qPartTold 221 = .ok (.iadd, 1))) ?_
  refine mm_fc (ss_goto hx hb (by decide +kernel : decode cX12_qPartTold 222 = .ok (.goto 15, 3)) (by decide)) ?_
  refine mm_fc (ss_sipush hx hb (by decide +kernel : decode cX12_qPartTold 225 = .ok (.sipush 1000, 3)) (by decide)) ?_
  refine mm_fc (ss_aload_n hx hb (by decide +kernel : decode cX12_qPartTold 228 = .ok (.aload_n 0, 1)) rfl) ?_
  refine mm_fc (ss_iconst hx hb (by decide +kernel : decode cX12_qPartTold 229 = .ok (.iconst 0, 1)) (by decide)) ?_
  refine mm_fc (ss_sipush hx hb (by decide +kernel : decode cX12_qPartTold 230 = .ok (.sipush 9999, 3)) (by decide)) ?_
  refine mm_fc (ss_callV X rfl rfl wd_7_190 wd_1_13 wd_7_187 wd_7_189 wd_p_52 (by decide +kernel) (by decide +kernel) (by decide) (by decide +kernel : decode cX12_qPartTold 233 = .ok (.invokevirtual 313, 3))) ?_
  refine mm_fc (ss_iadd hx hb (by decide +kernel : decode cX12_qPartTold 236 = .ok (.iadd, 1))) ?_
  refine mm_fc (ss_callV X rfl rfl wd_8_14 wd_1_13 wd_8_11 wd_8_13 wd_p_66 (by decide +kernel) (by decide +kernel) (by decide) (by decide +kernel : decode cX12_qPartTold 237 = .ok (.invokevirtual 599, 3))) ?_
  refine mm_fc (ss_aload_n hx hb (by decide +kernel : decode cX12_qPartTold 240 = .ok (.aload_n 0, 1)) rfl) ?_
  refine mm_fc (ss_callV X rfl rfl wd_8_42 wd_1_13 wd_8_39 wd_8_41 wd_p_73 (by decide +kernel) (by decide +kernel) (by decide) (by decide +kernel : decode cX12_qPartTold 241 = .ok (.invokevirtual 623, 3))) ?_
  refine mm_fc (ss_vret (by decide +kernel : decode cX12_qPartTold 244 = .ok (.return_, 1)) rfl) ?_
  exact mm_fn
