def cd_X10_feudBits : mm_K mm_H := [(0, s_pushI 0 1), (1, s_istore 2 2), (2, s_pushI 0 3), (3, s_kill 4 [4, 5] (s_istore 3 4)), (4, s_iload 3 5), (5, s_aload 1 6), (6, s_get 7 9 9), (9, s_icmp (fun x y => y ≤ x) 58 12), (12, s_aload 1 13), (13, s_iload 3 14), (14, s_callV 7 104 1 1 17), (17, s_istore 4 19), (19, s_aload 1 20), (20, s_iload 4 22), (22, s_pushI 1 23), (23, s_callV 7 111 2 1 26), (26, s_istore 5 28), (28, s_iload 5 30), (30, s_pushI (-1) 31), (31, s_icmp (fun x y => x = y) 52 34), (34, s_aload 0 35), (35, s_aload 1 36), (36, s_iload 4 38), (38, s_iload 5 40), (40, s_callV 10 146 3 1 43), (43, s_if (fun x => x = 0) 52 46), (46, s_iload 2 47), (47, s_pushI 1 48), (48, s_iload 3 49), (49, s_bin (fun x y => x <<< (y &&& 31)) 50), (50, s_bin (fun x y => x ||| y) 51), (51, s_istore 2 52), (52, s_iinc 3 1 55), (55, s_kill 4 [4, 5] (s_goto 4)), (58, s_iload 2 59), (59, s_iret)]
set_option maxRecDepth 100000 in
set_option maxHeartbeats 4000000 in
theorem ok_X10_feudBits (l : Launch) : mm_CodeOK l mm_I0 RX10 cX10_feudBits 6 (some .int) cd_X10_feudBits := by
  intro p e R s m args below meth c Q σ cA D A kc ks d C X
  have hx := X.1
  have hb := X.2.1
  have hown := X.2.2.2.1
  have hts := X.2.2.2.2.1
  refine mm_fc (ss_iconst hx hb (by decide +kernel : decode cX10_feudBits 0 = .ok (.iconst 0, 1)) (by decide)) ?_
  refine mm_fc (ss_istore_n hx hb (by decide +kernel : decode cX10_feudBits 1 = .ok (.istore_n 2, 1)) rfl (by decide)) ?_
  refine mm_fc (ss_iconst hx hb (by decide +kernel : decode cX10_feudBits 2 = .ok (.iconst 0, 1)) (by decide)) ?_
  refine mm_fc (ss_kill (ss_istore_n hx hb (by decide +kernel : decode cX10_feudBits 3 = .ok (.istore_n 3, 1)) rfl (by decide))) ?_
  refine mm_fc (ss_iload_n hx hb (by decide +kernel : decode cX10_feudBits 4 = .ok (.iload_n 3, 1)) rfl) ?_
  refine mm_fc (ss_aload_n hx hb (by decide +kernel : decode cX10_feudBits 5 = .ok (.aload_n 1, 1)) rfl) ?_
  refine mm_fc (ss_getN X rfl in_X7 (by decide) rfl wd_1_169 (by decide +kernel : decode cX10_feudBits 6 = .ok (.getfield 73, 3))) ?_
  refine mm_fc (ss_icmpge hx hb (by decide +kernel : decode cX10_feudBits 9 = .ok (.if_icmp .ge 49, 3)) (by decide)) ?_
  refine mm_fc (ss_aload_n hx hb (by decide +kernel : decode cX10_feudBits 12 = .ok (.aload_n 1, 1)) rfl) ?_
  refine mm_fc (ss_iload_n hx hb (by decide +kernel : decode cX10_feudBits 13 = .ok (.iload_n 3, 1)) rfl) ?_
  refine mm_fc (ss_callV X rfl rfl wd_3_120 wd_1_8 wd_4_55 wd_3_118 wd_3_119 (by decide +kernel) (by decide +kernel) (by decide) (by decide +kernel : decode cX10_feudBits 14 = .ok (.invokevirtual 76, 3))) ?_
  refine mm_fc (ss_istore hx hb (by decide +kernel : decode cX10_feudBits 17 = .ok (.istore 4, 2)) (by decide)) ?_
  refine mm_fc (ss_aload_n hx hb (by decide +kernel : decode cX10_feudBits 19 = .ok (.aload_n 1, 1)) rfl) ?_
  refine mm_fc (ss_iload hx hb (by decide +kernel : decode cX10_feudBits 20 = .ok (.iload 4, 2))) ?_
  refine mm_fc (ss_iconst hx hb (by decide +kernel : decode cX10_feudBits 22 = .ok (.iconst 1, 1)) (by decide)) ?_
  refine mm_fc (ss_callV X rfl rfl wd_4_59 wd_1_8 wd_4_56 wd_4_57 wd_4_58 (by decide +kernel) (by decide +kernel) (by decide) (by decide +kernel : decode cX10_feudBits 23 = .ok (.invokevirtual 83, 3))) ?_
  refine mm_fc (ss_istore hx hb (by decide +kernel : decode cX10_feudBits 26 = .ok (.istore 5, 2)) (by decide)) ?_
  refine mm_fc (ss_iload hx hb (by decide +kernel : decode cX10_feudBits 28 = .ok (.iload 5, 2))) ?_
  refine mm_fc (ss_iconst hx hb (by decide +kernel : decode cX10_feudBits 30 = .ok (.iconst (-1), 1)) (by decide)) ?_
  refine mm_fc (ss_icmpeq hx hb (by decide +kernel : decode cX10_feudBits 31 = .ok (.if_icmp .eq 21, 3)) (by decide)) ?_
  refine mm_fc (ss_aload_n hx hb (by decide +kernel : decode cX10_feudBits 34 = .ok (.aload_n 0, 1)) rfl) ?_
  refine mm_fc (ss_aload_n hx hb (by decide +kernel : decode cX10_feudBits 35 = .ok (.aload_n 1, 1)) rfl) ?_
  refine mm_fc (ss_iload hx hb (by decide +kernel : decode cX10_feudBits 36 = .ok (.iload 4, 2))) ?_
  refine mm_fc (ss_iload hx hb (by decide +kernel : decode cX10_feudBits 38 = .ok (.iload 5, 2))) ?_
  refine mm_fc (ss_callV X rfl rfl wd_4_64 wd_1_12 wd_4_61 wd_4_62 wd_4_63 (by decide +kernel) (by decide +kernel) (by decide) (by decide +kernel : decode cX10_feudBits 40 = .ok (.invokevirtual 129, 3))) ?_
  refine mm_fc (ss_ifeq hx hb (by decide +kernel : decode cX10_feudBits 43 = .ok (.ifCond .eq 9, 3)) (by decide)) ?_
  refine mm_fc (ss_iload_n hx hb (by decide +kernel : decode cX10_feudBits 46 = .ok (.iload_n 2, 1)) rfl) ?_
  refine mm_fc (ss_iconst hx hb (by decide +kernel : decode cX10_feudBits 47 = .ok (.iconst 1, 1)) (by decide)) ?_
  refine mm_fc (ss_iload_n hx hb (by decide +kernel : decode cX10_feudBits 48 = .ok (.iload_n 3, 1)) rfl) ?_
  refine mm_fc (ss_ishl hx hb (by decide +kernel : decode cX10_feudBits 49 = .ok (.ishl, 1))) ?_
  refine mm_fc (ss_ior hx hb (by decide +kernel : decode cX10_feudBits 50 = .ok (.ior, 1))) ?_
  refine mm_fc (ss_istore_n hx hb (by decide +kernel : decode cX10_feudBits 51 = .ok (.istore_n 2, 1)) rfl (by decide)) ?_
  refine mm_fc (ss_iinc hx hb (by decide +kernel : decode cX10_feudBits 52 = .ok (.iinc 3 1, 3)) (by decide) (by decide)) ?_
  refine mm_fc (ss_kill (ss_goto hx hb (by decide +kernel : decode cX10_feudBits 55 = .ok (.goto (-51), 3)) (by decide))) ?_
  refine mm_fc (ss_iload_n hx hb (by decide +kernel : decode cX10_feudBits 58 = .ok (.iload_n 2, 1)) rfl) ?_
  refine mm_fc (ss_iret (by decide +kernel : decode cX10_feudBits 59 = .ok (.ireturn, 1)) rfl) ?_
  exact mm_fn
def cd_X11_feed : mm_K mm_H := [(0, s_aload 0 1), (1, s_get 11 0 4), (4, s_callV 8 125 0 1 7), (7, s_pushI 20 9), (9, s_bin (fun x y => x + y) 10), (10, s_pushI 1600 13), (13, s_icmp (fun x y => x ≤ y) 22 16), (16, s_aload 0 17), (17, s_pushI 0 18), (18, s_callV 11 183 1 1 21), (21, s_iret), (22, s_aload 0 23), (23, s_get 11 0 26), (26, s_iload 1 27), (27, s_callV 8 127 1 0 30), (30, s_aload 0 31), (31, s_get 11 0 34), (34, s_iload 2 35), (35, s_callV 8 127 1 0 38), (38, s_aload 0 39), (39, s_get 11 0 42), (42, s_iload 3 43), (43, s_callV 8 127 1 0 46), (46, s_aload 0 47), (47, s_get 11 0 50), (50, s_iload 4 52), (52, s_callV 8 127 1 0 55), (55, s_aload 0 56), (56, s_get 11 0 59), (59, s_iload 5 61), (61, s_callV 8 127 1 0 64), (64, s_aload 0 65), (65, s_get 11 0 68), (68, s_callV 8 125 0 1 71), (71, s_iret)]
set_option maxRecDepth 100000 in
set_option maxHeartbeats 4000000 in
theorem ok_X11_feed (l : Launch) : mm_CodeOK l mm_I0 RX11 cX11_feed 6 (some .int) cd_X11_feed := by
  intro p e R s m args below meth c Q σ cA D A kc ks d C X
  have hx := X.1
  have hb := X.2.1
  have hown := X.2.2.2.1
  have hts := X.2.2.2.2.1
  refine mm_fc (ss_aload_n hx hb (by decide +kernel : decode cX11_feed 0 = .ok (.aload_n 0, 1)) rfl) ?_
  refine mm_fc (ss_get X rfl in_X11 (by decide) rfl wd_2_93 (by decide +kernel : decode cX11_feed 1 = .ok (.getfield 10, 3))) ?_
  refine mm_fc (ss_callV X rfl rfl wd_2_143 wd_1_2 wd_2_140 wd_2_141 wd_2_142 (by decide +kernel) (by decide +kernel) (by decide) (by decide +kernel : decode cX11_feed 4 = .ok (.invokevirtual 104, 3))) ?_
  refine mm_fc (ss_bipush hx hb (by decide +kernel : decode cX11_feed 7 = .ok (.bipush 20, 2)) (by decide)) ?_
  refine mm_fc (ss_iadd hx hb (by decide +kernel : decode cX11_feed 9 = .ok (.iadd, 1))) ?_
  refine mm_fc (ss_sipush hx hb (by decide +kernel : decode cX11_feed 10 = .ok (.sipush 1600, 3)) (by decide)) ?_
  refine mm_fc (ss_icmple hx hb (by decide +kernel : decode cX11_feed 13 = .ok (.if_icmp .le 9, 3)) (by decide)) ?_
  refine mm_fc (ss_aload_n hx hb (by decide +kernel : decode cX11_feed 16 = .ok (.aload_n 0, 1)) rfl) ?_
  refine mm_fc (ss_iconst hx hb (by decide +kernel : decode cX11_feed 17 = .ok (.iconst 0, 1)) (by decide)) ?_
  refine mm_fc (ss_callV X rfl rfl wd_2_147 wd_1_1 wd_2_144 wd_2_146 wd_p_0 (by decide +kernel) (by decide +kernel) (by decide) (by decide +kernel : decode cX11_feed 18 = .ok (.invokevirtual 108, 3))) ?_
  refine mm_fc (ss_iret (by decide +kernel : decode cX11_feed 21 = .ok (.ireturn, 1)) rfl) ?_
  refine mm_fc (ss_aload_n hx hb (by decide +kernel : decode cX11_feed 22 = .ok (.aload_n 0, 1)) rfl) ?_
  refine mm_fc (ss_get X rfl in_X11 (by decide) rfl wd_2_93 (by decide +kernel : decode cX11_feed 23 = .ok (.getfield 10, 3))) ?_
  refine mm_fc (ss_iload_n hx hb (by decide +kernel : decode cX11_feed 26 = .ok (.iload_n 1, 1)) rfl) ?_
  refine mm_fc (ss_callV X rfl rfl wd_2_151 wd_1_2 wd_2_148 wd_2_149 wd_2_150 (by decide +kernel) (by decide +kernel) (by decide) (by decide +kernel : decode cX11_feed 27 = .ok (.invokevirtual 112, 3))) ?_
  refine mm_fc (ss_aload_n hx hb (by decide +kernel : decode cX11_feed 30 = .ok (.aload_n 0, 1)) rfl) ?_
  refine mm_fc (ss_get X rfl in_X11 (by decide) rfl wd_2_93 (by decide +kernel : decode cX11_feed 31 = .ok (.getfield 10, 3))) ?_
  refine mm_fc (ss_iload_n hx hb (by decide +kernel : decode cX11_feed 34 = .ok (.iload_n 2, 1)) rfl) ?_
  refine mm_fc (ss_callV X rfl rfl wd_2_151 wd_1_2 wd_2_148 wd_2_149 wd_2_150 (by decide +kernel) (by decide +kernel) (by decide) (by decide +kernel : decode cX11_feed 35 = .ok (.invokevirtual 112, 3))) ?_
  refine mm_fc (ss_aload_n hx hb (by decide +kernel : decode cX11_feed 38 = .ok (.aload_n 0, 1)) rfl) ?_
  refine mm_fc (ss_get X rfl in_X11 (by decide) rfl wd_2_93 (by decide +kernel : decode cX11_feed 39 = .ok (.getfield 10, 3))) ?_
  refine mm_fc (ss_iload_n hx hb (by decide +kernel : decode cX11_feed 42 = .ok (.iload_n 3, 1)) rfl) ?_
  refine mm_fc (ss_callV X rfl rfl wd_2_151 wd_1_2 wd_2_148 wd_2_149 wd_2_150 (by decide +kernel) (by decide +kernel) (by decide) (by decide +kernel : decode cX11_feed 43 = .ok (.invokevirtual 112, 3))) ?_
  refine mm_fc (ss_aload_n hx hb (by decide +kernel : decode cX11_feed 46 = .ok (.aload_n 0, 1)) rfl) ?_
  refine mm_fc (ss_get X rfl in_X11 (by decide) rfl wd_2_93 (by decide +kernel : decode cX11_feed 47 = .ok (.getfield 10, 3))) ?_
  refine mm_fc (ss_iload hx hb (by decide +kernel : decode cX11_feed 50 = .ok (.iload 4, 2))) ?_
  refine mm_fc (ss_callV X rfl rfl wd_2_151 wd_1_2 wd_2_148 wd_2_149 wd_2_150 (by decide +kernel) (by decide +kernel) (by decide) (by decide +kernel : decode cX11_feed 52 = .ok (.invokevirtual 112, 3))) ?_
  refine mm_fc (ss_aload_n hx hb (by decide +kernel : decode cX11_feed 55 = .ok (.aload_n 0, 1)) rfl) ?_
  refine mm_fc (ss_get X rfl in_X11 (by decide) rfl wd_2_93 (by decide +kernel : decode cX11_feed 56 = .ok (.getfield 10, 3))) ?_
  refine mm_fc (ss_iload hx hb (by decide +kernel : decode cX11_feed 59 = .ok (.iload 5, 2))) ?_
  refine mm_fc (ss_callV X rfl rfl wd_2_151 wd_1_2 wd_2_148 wd_2_149 wd_2_150 (by decide +kernel) (by decide +kernel) (by decide) (by decide +kernel : decode cX11_feed 61 = .ok (.invokevirtual 112, 3))) ?_
  refine mm_fc (ss_aload_n hx hb (by decide +kernel : decode cX11_feed 64 = .ok (.aload_n 0, 1)) rfl) ?_
  refine mm_fc (ss_get X rfl in_X11 (by decide) rfl wd_2_93 (by decide +kernel : decode cX11_feed 65 = .ok (.getfield 10, 3))) ?_
  refine mm_fc (ss_callV X rfl rfl wd_2_143 wd_1_2 wd_2_140 wd_2_141 wd_2_142 (by decide +kernel) (by decide +kernel) (by decide) (by decide +kernel : decode cX11_feed 68 = .ok (.invokevirtual 104, 3))) ?_
  refine mm_fc (ss_iret (by decide +kernel : decode cX11_feed 71 = .ok (.ireturn, 1)) rfl) ?_
  exact mm_fn
def cd_X11_end : mm_K mm_H := [(0, s_iload 1 1), (1, s_if (fun x => x < 0) 15 4), (4, s_iload 1 5), (5, s_aload 0 6), (6, s_get 11 0 9), (9, s_callV 8 125 0 1 12), (12, s_icmp (fun x y => x ≤ y) 23 15), (15, s_aload 0 16), (16, s_pushI 0 17), (17, s_callV 11 183 1 1 20), (20, s_pop 21), (21, s_pushI 0 22), (22, s_zret), (23, s_aload 0 24), (24, s_get 11 0 27), (27, s_iload 1 28), (28, s_callV 8 128 1 0 31), (31, s_pushI 1 32), (32, s_zret)]
set_option maxRecDepth 100000 in
set_option maxHeartbeats 4000000 in
theorem ok_X11_end (l : Launch) : mm_CodeOK l mm_I0 RX11 cX11_end 2 (some .boolean) cd_X11_end := by
  intro p e R s m args below meth c Q σ cA D A kc ks d C X
  have hx := X.1
  have hb := X.2.1
  have hown := X.2.2.2.1
  have hts := X.2.2.2.2.1
  refine mm_fc (ss_iload_n hx hb (by decide +kernel : decode cX11_end 0 = .ok (.iload_n 1, 1)) rfl) ?_
  refine mm_fc (ss_iflt hx hb (by decide +kernel : decode cX11_end 1 = .ok (.ifCond .lt 14, 3)) (by decide)) ?_
  refine mm_fc (ss_iload_n hx hb (by decide +kernel : decode cX11_end 4 = .ok (.iload_n 1, 1)) rfl) ?_
  refine mm_fc (ss_aload_n hx hb (by decide +kernel : decode cX11_end 5 = .ok (.aload_n 0, 1)) rfl) ?_
  refine mm_fc (ss_get X rfl in_X11 (by decide) rfl wd_2_93 (by decide +kernel : decode cX11_end 6 = .ok (.getfield 10, 3))) ?_
  refine mm_fc (ss_callV X rfl rfl wd_2_143 wd_1_2 wd_2_140 wd_2_141 wd_2_142 (by decide +kernel) (by decide +kernel) (by decide) (by decide +kernel : decode cX11_end 9 = .ok (.invokevirtual 104, 3))) ?_
  refine mm_fc (ss_icmple hx hb (by decide +kernel : decode cX11_end 12 = .ok (.if_icmp .le 11, 3)) (by decide)) ?_
  refine mm_fc (ss_aload_n hx hb (by decide +kernel : decode cX11_end 15 = .ok (.aload_n 0, 1)) rfl) ?_
  refine mm_fc (ss_iconst hx hb (by decide +kernel : decode cX11_end 16 = .ok (.iconst 0, 1)) (by decide)) ?_
  refine mm_fc (ss_callV X rfl rfl wd_2_147 wd_1_1 wd_2_144 wd_2_146 wd_p_0 (by decide +kernel) (by decide +kernel) (by decide) (by decide +kernel : decode cX11_end 17 = .ok (.invokevirtual 108, 3))) ?_
  refine mm_fc (ss_pop hx hb (by decide +kernel : decode cX11_end 20 = .ok (.pop, 1))) ?_
  refine mm_fc (ss_iconst hx hb (by decide +kernel : decode cX11_end 21 = .ok (.iconst 0, 1)) (by decide)) ?_
  refine mm_fc (ss_zret (by decide +kernel : decode cX11_end 22 = .ok (.ireturn, 1)) rfl) ?_
  refine mm_fc (ss_aload_n hx hb (by decide +kernel : decode cX11_end 23 = .ok (.aload_n 0, 1)) rfl) ?_
  refine mm_fc (ss_get X rfl in_X11 (by decide) rfl wd_2_93 (by decide +kernel : decode cX11_end 24 = .ok (.getfield 10, 3))) ?_
  refine mm_fc (ss_iload_n hx hb (by decide +kernel : decode cX11_end 27 = .ok (.iload_n 1, 1)) rfl) ?_
  refine mm_fc (ss_callV X rfl rfl wd_2_159 wd_1_2 wd_2_156 wd_2_157 wd_2_158 (by decide +kernel) (by decide +kernel) (by decide) (by decide +kernel : decode cX11_end 28 = .ok (.invokevirtual 116, 3))) ?_
  refine mm_fc (ss_iconst hx hb (by decide +kernel : decode cX11_end 31 = .ok (.iconst 1, 1)) (by decide)) ?_
  refine mm_fc (ss_zret (by decide +kernel : decode cX11_end 32 = .ok (.ireturn, 1)) rfl) ?_
  exact mm_fn
def cd_X11_terrace : mm_K mm_H := [(0, s_aload 0 1), (1, s_get 11 3 4), (4, s_aload 0 5), (5, s_get 11 11 8), (8, s_callV 9 129 1 1 11), (11, s_istore 1 12), (12, s_aload 0 13), (13, s_get 11 0 16), (16, s_pushI 0 17), (17, s_callV 8 128 1 0 20), (20, s_iload 1 21), (21, s_if (fun x => ¬ x = 0) 30 24), (24, s_aload 0 25), (25, s_pushI 1 26), (26, s_callV 11 183 1 1 29), (29, s_iret), (30, s_aload 0 31), (31, s_get 11 10 34), (34, s_astore 2 35), (35, s_aload 0 36), (36, s_aload 0 37), (37, s_get 11 11 40), (40, s_putR 11 10 43), (43, s_aload 0 44), (44, s_aload 2 45), (45, s_putR 11 11 48), (48, s_aload 0 49), (49, s_get 11 5 52), (52, s_aload 0 53), (53, s_get 11 10 56), (56, s_get 10 0 59), (59, s_callV 7 100 1 0 62), (62, s_aload 0 63), (63, s_get 11 6 66), (66, s_callV 3 61 0 0 69), (69, s_aload 0 70), (70, s_get 11 7 73), (73, s_callV 0 14 0 0 76), (76, s_aload 0 77), (77, s_pushI 1 78), (78, s_putZ 11 12 81), (81, s_aload 0 82), (82, s_get 11 10 85), (85, s_get 10 4 88), (88, s_iret)]
set_option maxRecDepth 100000 in
set_option maxHeartbeats 4000000 in
theorem ok_X11_terrace (l : Launch) : mm_CodeOK l mm_I0 RX11 cX11_terrace 3 (some .int) cd_X11_terrace := by
  intro p e R s m args below meth c Q σ cA D A kc ks d C X
  have hx := X.1
  have hb := X.2.1
  have hown := X.2.2.2.1
  have hts := X.2.2.2.2.1
  refine mm_fc (ss_aload_n hx hb (by decide +kernel : decode cX11_terrace 0 = .ok (.aload_n 0, 1)) rfl) ?_
  refine mm_fc (ss_get X rfl in_X11 (by decide) rfl wd_2_96 (by decide +kernel : decode cX11_terrace 1 = .ok (.getfield 50, 3))) ?_
  refine mm_fc (ss_aload_n hx hb (by decide +kernel : decode cX11_terrace 4 = .ok (.aload_n 0, 1)) rfl) ?_
  refine mm_fc (ss_get X rfl in_X11 (by decide) rfl wd_2_104 (by decide +kernel : decode cX11_terrace 5 = .ok (.getfield 93, 3))) ?_
  refine mm_fc (ss_callV X rfl rfl wd_2_173 wd_1_7 wd_2_170 wd_2_171 wd_2_172 (by decide +kernel) (by decide +kernel) (by decide) (by decide +kernel : decode cX11_terrace 8 = .ok (.invokevirtual 119, 3))) ?_
  refine mm_fc (ss_istore_n hx hb (by decide +kernel : decode cX11_terrace 11 = .ok (.istore_n 1, 1)) rfl (by decide)) ?_
  refine mm_fc (ss_aload_n hx hb (by decide +kernel : decode cX11_terrace 12 = .ok (.aload_n 0, 1)) rfl) ?_
  refine mm_fc (ss_get X rfl in_X11 (by decide) rfl wd_2_93 (by decide +kernel : decode cX11_terrace 13 = .ok (.getfield 10, 3))) ?_
  refine mm_fc (ss_iconst hx hb (by decide +kernel : decode cX11_terrace 16 = .ok (.iconst 0, 1)) (by decide)) ?_
  refine mm_fc (ss_callV X rfl rfl wd_2_159 wd_1_2 wd_2_156 wd_2_157 wd_2_158 (by decide +kernel) (by decide +kernel) (by decide) (by decide +kernel : decode cX11_terrace 17 = .ok (.invokevirtual 116, 3))) ?_
  refine mm_fc (ss_iload_n hx hb (by decide +kernel : decode cX11_terrace 20 = .ok (.iload_n 1, 1)) rfl) ?_
  refine mm_fc (ss_ifne hx hb (by decide +kernel : decode cX11_terrace 21 = .ok (.ifCond .ne 9, 3)) (by decide)) ?_
  refine mm_fc (ss_aload_n hx hb (by decide +kernel : decode cX11_terrace 24 = .ok (.aload_n 0, 1)) rfl) ?_
  refine mm_fc (ss_iconst hx hb (by decide +kernel : decode cX11_terrace 25 = .ok (.iconst 1, 1)) (by decide)) ?_
  refine mm_fc (ss_callV X rfl rfl wd_2_147 wd_1_1 wd_2_144 wd_2_146 wd_p_0 (by decide +kernel) (by decide +kernel) (by decide) (by decide +kernel : decode cX11_terrace 26 = .ok (.invokevirtual 108, 3))) ?_
  refine mm_fc (ss_iret (by decide +kernel : decode cX11_terrace 29 = .ok (.ireturn, 1)) rfl) ?_
  refine mm_fc (ss_aload_n hx hb (by decide +kernel : decode cX11_terrace 30 = .ok (.aload_n 0, 1)) rfl) ?_
  refine mm_fc (ss_get X rfl in_X11 (by decide) rfl wd_2_103 (by decide +kernel : decode cX11_terrace 31 = .ok (.getfield 89, 3))) ?_
  refine mm_fc (ss_astore_n hx hb (by decide +kernel : decode cX11_terrace 34 = .ok (.astore_n 2, 1)) rfl (by decide)) ?_
  refine mm_fc (ss_aload_n hx hb (by decide +kernel : decode cX11_terrace 35 = .ok (.aload_n 0, 1)) rfl) ?_
  refine mm_fc (ss_aload_n hx hb (by decide +kernel : decode cX11_terrace 36 = .ok (.aload_n 0, 1)) rfl) ?_
  refine mm_fc (ss_get X rfl in_X11 (by decide) rfl wd_2_104 (by decide +kernel : decode cX11_terrace 37 = .ok (.getfield 93, 3))) ?_
  refine mm_fc (ss_putR X rfl in_X11 tyX11_ok nmX11 (by decide) rfl ⟨_, rfl⟩ rfl rfl wd_2_103 (by decide +kernel : decode cX11_terrace 40 = .ok (.putfield 89, 3))) ?_
  refine mm_fc (ss_aload_n hx hb (by decide +kernel : decode cX11_terrace 43 = .ok (.aload_n 0, 1)) rfl) ?_
  refine mm_fc (ss_aload_n hx hb (by decide +kernel : decode cX11_terrace 44 = .ok (.aload_n 2, 1)) rfl) ?_
  refine mm_fc (ss_putR X rfl in_X11 tyX11_ok nmX11 (by decide) rfl ⟨_, rfl⟩ rfl rfl wd_2_104 (by decide +kernel : decode cX11_terrace 45 = .ok (.putfield 93, 3))) ?_
  refine mm_fc (ss_aload_n hx hb (by decide +kernel : decode cX11_terrace 48 = .ok (.aload_n 0, 1)) rfl) ?_
  refine mm_fc (ss_get X rfl in_X11 (by decide) rfl wd_2_98 (by decide +kernel : decode cX11_terrace 49 = .ok (.getfield 57, 3))) ?_
  refine mm_fc (ss_aload_n hx hb (by decide +kernel : decode cX11_terrace 52 = .ok (.aload_n 0, 1)) rfl) ?_
  refine mm_fc (ss_get X rfl in_X11 (by decide) rfl wd_2_103 (by decide +kernel : decode cX11_terrace 53 = .ok (.getfield 89, 3))) ?_
  refine mm_fc (ss_getN X rfl in_X10 (by decide) rfl wd_2_72 (by decide +kernel : decode cX11_terrace 56 = .ok (.getfield 123, 3))) ?_
  refine mm_fc (ss_callV X rfl rfl wd_4_14 wd_1_8 wd_4_11 wd_4_12 wd_4_13 (by decide +kernel) (by decide +kernel) (by decide) (by decide +kernel : decode cX11_terrace 59 = .ok (.invokevirtual 126, 3))) ?_
  refine mm_fc (ss_aload_n hx hb (by decide +kernel : decode cX11_terrace 62 = .ok (.aload_n 0, 1)) rfl) ?_
  refine mm_fc (ss_get X rfl in_X11 (by decide) rfl wd_2_99 (by decide +kernel : decode cX11_terrace 63 = .ok (.getfield 64, 3))) ?_
  refine mm_fc (ss_callV X rfl rfl wd_4_21 wd_1_9 wd_4_18 wd_4_19 wd_4_20 (by decide +kernel) (by decide +kernel) (by decide) (by decide +kernel : decode cX11_terrace 66 = .ok (.invokevirtual 130, 3))) ?_
  refine mm_fc (ss_aload_n hx hb (by decide +kernel : decode cX11_terrace 69 = .ok (.aload_n 0, 1)) rfl) ?_
  refine mm_fc (ss_get X rfl in_X11 (by decide) rfl wd_2_100 (by decide +kernel : decode cX11_terrace 70 = .ok (.getfield 71, 3))) ?_
  refine mm_fc (ss_callV X rfl rfl wd_4_25 wd_1_10 wd_4_22 wd_4_23 wd_4_24 (by decide +kernel) (by decide +kernel) (by decide) (by decide +kernel : decode cX11_terrace 73 = .ok (.invokevirtual 133, 3))) ?_
  refine mm_fc (ss_aload_n hx hb (by decide +kernel : decode cX11_terrace 76 = .ok (.aload_n 0, 1)) rfl) ?_
  refine mm_fc (ss_iconst hx hb (by decide +kernel : decode cX11_terrace 77 = .ok (.iconst 1, 1)) (by decide)) ?_
  refine mm_fc (ss_putZ X rfl in_X11 tyX11_ok nmX11 (by decide) rfl rfl rfl rfl wd_2_105 (by decide +kernel : decode cX11_terrace 78 = .ok (.putfield 96, 3))) ?_
  refine mm_fc (ss_aload_n hx hb (by decide +kernel : decode cX11_terrace 81 = .ok (.aload_n 0, 1)) rfl) ?_
  refine mm_fc (ss_get X rfl in_X11 (by decide) rfl wd_2_103 (by decide +kernel : decode cX11_terrace 82 = .ok (.getfield 89, 3))) ?_
  refine mm_fc (ss_getN X rfl in_X10 (by decide) rfl wd_2_81 (by decide +kernel : decode cX11_terrace 85 = .ok (.getfield 136, 3))) ?_
  refine mm_fc (ss_iret (by decide +kernel : decode cX11_terrace 88 = .ok (.ireturn, 1)) rfl) ?_
  exact mm_fn
def cd_X11_fault : mm_K mm_H := [(0, s_iload 1 1), (1, s_sw [(0, 28), (1, 36)] 44), (28, s_aload 0 29), (29, s_get 11 1 32), (32, s_get 6 5 35), (35, s_iret), (36, s_aload 0 37), (37, s_get 11 1 40), (40, s_get 6 6 43), (43, s_iret), (44, s_pushI (-1) 45), (45, s_iret)]
set_option maxRecDepth 100000 in
set_option maxHeartbeats 4000000 in
theorem ok_X11_fault (l : Launch) : mm_CodeOK l mm_I0 RX11 cX11_fault 2 (some .int) cd_X11_fault := by
  intro p e R s m args below meth c Q σ cA D A kc ks d C X
  have hx := X.1
  have hb := X.2.1
  have hown := X.2.2.2.1
  have hts := X.2.2.2.2.1
  refine mm_fc (ss_iload_n hx hb (by decide +kernel : decode cX11_fault 0 = .ok (.iload_n 1, 1)) rfl) ?_
  refine mm_fc (ss_lookup hx hb (by decide +kernel : decode cX11_fault 1 = .ok (.lookupswitch 43 #[(0, 27), (1, 35)], 27)) (by decide) (by decide) (by decide)) ?_
  refine mm_fc (ss_aload_n hx hb (by decide +kernel : decode cX11_fault 28 = .ok (.aload_n 0, 1)) rfl) ?_
  refine mm_fc (ss_get X rfl in_X11 (by decide) rfl wd_2_94 (by decide +kernel : decode cX11_fault 29 = .ok (.getfield 21, 3))) ?_
  refine mm_fc (ss_getN X rfl in_X6 (by decide) rfl wd_1_58 (by decide +kernel : decode cX11_fault 32 = .ok (.getfield 139, 3))) ?_
  refine mm_fc (ss_iret (by decide +kernel : decode cX11_fault 35 = .ok (.ireturn, 1)) rfl) ?_
  refine mm_fc (ss_aload_n hx hb (by decide +kernel : decode cX11_fault 36 = .ok (.aload_n 0, 1)) rfl) ?_
  refine mm_fc (ss_get X rfl in_X11 (by decide) rfl wd_2_94 (by decide +kernel : decode cX11_fault 37 = .ok (.getfield 21, 3))) ?_
  refine mm_fc (ss_getN X rfl in_X6 (by decide) rfl wd_1_60 (by decide +kernel : decode cX11_fault 40 = .ok (.getfield 142, 3))) ?_
  refine mm_fc (ss_iret (by decide +kernel : decode cX11_fault 43 = .ok (.ireturn, 1)) rfl) ?_
  refine mm_fc (ss_iconst hx hb (by decide +kernel : decode cX11_fault 44 = .ok (.iconst (-1), 1)) (by decide)) ?_
  refine mm_fc (ss_iret (by decide +kernel : decode cX11_fault 45 = .ok (.ireturn, 1)) rfl) ?_
  exact mm_fn
def cd_X11_has : mm_K mm_H := [(0, s_iload 1 1), (1, s_sw [(0, 56), (1, 64), (2, 72), (3, 80), (4, 88), (5, 96), (6, 111), (7, 119), (8, 127), (9, 135)] 143), (56, s_aload 0 57), (57, s_get 11 5 60), (60, s_get 7 9 63), (63, s_iret), (64, s_aload 0 65), (65, s_get 11 5 68), (68, s_get 7 10 71), (71, s_iret), (72, s_aload 0 73), (73, s_get 11 5 76), (76, s_get 7 11 79), (79, s_iret), (80, s_aload 0 81), (81, s_get 11 5 84), (84, s_callV 7 122 0 1 87), (87, s_iret), (88, s_aload 0 89), (89, s_get 11 5 92), (92, s_callV 7 123 0 1 95), (95, s_iret), (96, s_aload 0 97), (97, s_get 11 10 100), (100, s_aload 0 101), (101, s_get 11 5 104), (104, s_callV 10 147 1 1 107), (107, s_callS 6 1 1 110), (110, s_iret), (111, s_aload 0 112), (112, s_get 11 5 115), (115, s_callV 7 124 0 1 118), (118, s_iret), (119, s_aload 0 120), (120, s_get 11 5 123), (123, s_callV 7 120 0 1 126), (126, s_iret), (127, s_aload 0 128), (128, s_get 11 7 131), (131, s_callV 0 13 0 1 134), (134, s_iret), (135, s_aload 0 136), (136, s_get 11 6 139), (139, s_callV 3 60 0 1 142), (142, s_iret), (143, s_pushI (-1) 144), (144, s_iret)]
set_option maxRecDepth 100000 in
set_option maxHeartbeats 4000000 in
theorem ok_X11_has (l : Launch) : mm_CodeOK l mm_I0 RX11 cX11_has 2 (some .int) cd_X11_has := by
  intro p e R s m args below meth c Q σ cA D A kc ks d C X
  have hx := X.1
  have hb := X.2.1
  have hown := X.2.2.2.1
  have hts := X.2.2.2.2.1
  refine mm_fc (ss_iload_n hx hb (by decide +kernel : decode cX11_has 0 = .ok (.iload_n 1, 1)) rfl) ?_
  refine mm_fc (ss_table hx hb (by decide +kernel : decode cX11_has 1 = .ok (.tableswitch 142 0 9 #[55, 63, 71, 79, 87, 95, 110, 118, 126, 134], 55)) (by decide) (by decide) (by decide)) ?_
  refine mm_fc (ss_aload_n hx hb (by decide +kernel : decode cX11_has 56 = .ok (.aload_n 0, 1)) rfl) ?_
  refine mm_fc (ss_get X rfl in_X11 (by decide) rfl wd_2_98 (by decide +kernel : decode cX11_has 57 = .ok (.getfield 57, 3))) ?_
  refine mm_fc (ss_getN X rfl in_X7 (by decide) rfl wd_1_168 (by decide +kernel : decode cX11_has 60 = .ok (.getfield 145, 3))) ?_
  refine mm_fc (ss_iret (by decide +kernel : decode cX11_has 63 = .ok (.ireturn, 1)) rfl) ?_
  refine mm_fc (ss_aload_n hx hb (by decide +kernel : decode cX11_has 64 = .ok (.aload_n 0, 1)) rfl) ?_
  refine mm_fc (ss_get X rfl in_X11 (by decide) rfl wd_2_98 (by decide +kernel : decode cX11_has 65 = .ok (.getfield 57, 3))) ?_
  refine mm_fc (ss_getN X rfl in_X7 (by decide) rfl wd_1_175 (by decide +kernel : decode cX11_has 68 = .ok (.getfield 148, 3))) ?_
  refine mm_fc (ss_iret (by decide +kernel : decode cX11_has 71 = .ok (.ireturn, 1)) rfl) ?_
  refine mm_fc (ss_aload_n hx hb (by decide +kernel : decode cX11_has 72 = .ok (.aload_n 0, 1)) rfl) ?_
  refine mm_fc (ss_get X rfl in_X11 (by decide) rfl wd_2_98 (by decide +kernel : decode cX11_has 73 = .ok (.getfield 57, 3))) ?_
  refine mm_fc (ss_getN X rfl in_X7 (by decide) rfl wd_1_181 (by decide +kernel : decode cX11_has 76 = .ok (.getfield 151, 3))) ?_
  refine mm_fc (ss_iret (by decide +kernel : decode cX11_has 79 = .ok (.ireturn, 1)) rfl) ?_
  refine mm_fc (ss_aload_n hx hb (by decide +kernel : decode cX11_has 80 = .ok (.aload_n 0, 1)) rfl) ?_
  refine mm_fc (ss_get X rfl in_X11 (by decide) rfl wd_2_98 (by decide +kernel : decode cX11_has 81 = .ok (.getfield 57, 3))) ?_
  refine mm_fc (ss_callV X rfl rfl wd_4_38 wd_1_8 wd_4_35 wd_4_36 wd_4_37 (by decide +kernel) (by decide +kernel) (by decide) (by decide +kernel : decode cX11_has 84 = .ok (.invokevirtual 154, 3))) ?_
  refine mm_fc (ss_iret (by decide +kernel : decode cX11_has 87 = .ok (.ireturn, 1)) rfl) ?_
  refine mm_fc (ss_aload_n hx hb (by decide +kernel : decode cX11_has 88 = .ok (.aload_n 0, 1)) rfl) ?_
  refine mm_fc (ss_get X rfl in_X11 (by decide) rfl wd_2_98 (by decide +kernel : decode cX11_has 89 = .ok (.getfield 57, 3))) ?_
  refine mm_fc (ss_callV X rfl rfl wd_4_46 wd_1_8 wd_4_43 wd_4_44 wd_4_45 (by decide +kernel) (by decide +kernel) (by decide) (by decide +kernel : decode cX11_has 92 = .ok (.invokevirtual 157, 3))) ?_
  refine mm_fc (ss_iret (by decide +kernel : decode cX11_has 95 = .ok (.ireturn, 1)) rfl) ?_
  refine mm_fc (ss_aload_n hx hb (by decide +kernel : decode cX11_has 96 = .ok (.aload_n 0, 1)) rfl) ?_
  refine mm_fc (ss_get X rfl in_X11 (by decide) rfl wd_2_103 (by decide +kernel : decode cX11_has 97 = .ok (.getfield 89, 3))) ?_
  refine mm_fc (ss_aload_n hx hb (by decide +kernel : decode cX11_has 100 = .ok (.aload_n 0, 1)) rfl) ?_
  refine mm_fc (ss_get X rfl in_X11 (by decide) rfl wd_2_98 (by decide +kernel : decode cX11_has 101 = .ok (.getfield 57, 3))) ?_
  refine mm_fc (ss_callV X rfl rfl wd_4_54 wd_1_12 wd_4_51 wd_4_52 wd_4_53 (by decide +kernel) (by decide +kernel) (by decide) (by decide +kernel : decode cX11_has 104 = .ok (.invokevirtual 160, 3))) ?_
  refine mm_fc (ss_callS X rfl wd_4_120 wd_1_20 wd_4_118 wd_4_119 (by decide +kernel) (by decide +kernel) (by decide) (by decide +kernel : decode cX11_has 107 = .ok (.invokestatic 164, 3))) ?_
  refine mm_fc (ss_iret (by decide +kernel : decode cX11_has 110 = .ok (.ireturn, 1)) rfl) ?_
  refine mm_fc (ss_aload_n hx hb (by decide +kernel : decode cX11_has 111 = .ok (.aload_n 0, 1)) rfl) ?_
  refine mm_fc (ss_get X rfl in_X11 (by decide) rfl wd_2_98 (by decide +kernel : decode cX11_has 112 = .ok (.getfield 57, 3))) ?_
  refine mm_fc (ss_callV X rfl rfl wd_4_127 wd_1_8 wd_4_124 wd_4_125 wd_4_126 (by decide +kernel) (by decide +kernel) (by decide) (by decide +kernel : decode cX11_has 115 = .ok (.invokevirtual 169, 3))) ?_
  refine mm_fc (ss_iret (by decide +kernel : decode cX11_has 118 = .ok (.ireturn, 1)) rfl) ?_
  refine mm_fc (ss_aload_n hx hb (by decide +kernel : decode cX11_has 119 = .ok (.aload_n 0, 1)) rfl) ?_
  refine mm_fc (ss_get X rfl in_X11 (by decide) rfl wd_2_98 (by decide +kernel : decode cX11_has 120 = .ok (.getfield 57, 3))) ?_
  refine mm_fc (ss_callV X rfl rfl wd_4_131 wd_1_8 wd_4_128 wd_4_129 wd_4_130 (by decide +kernel) (by decide +kernel) (by decide) (by decide +kernel : decode cX11_has 123 = .ok (.invokevirtual 172, 3))) ?_
  refine mm_fc (ss_iret (by decide +kernel : decode cX11_has 126 = .ok (.ireturn, 1)) rfl) ?_
  refine mm_fc (ss_aload_n hx hb (by decide +kernel : decode cX11_has 127 = .ok (.aload_n 0, 1)) rfl) ?_
  refine mm_fc (ss_get X rfl in_X11 (by decide) rfl wd_2_100 (by decide +kernel : decode cX11_has 128 = .ok (.getfield 71, 3))) ?_
  refine mm_fc (ss_callV X rfl rfl wd_4_136 wd_1_10 wd_4_133 wd_4_134 wd_4_135 (by decide +kernel) (by decide +kernel) (by decide) (by decide +kernel : decode cX11_has 131 = .ok (.invokevirtual 175, 3))) ?_
  refine mm_fc (ss_iret (by decide +kernel : decode cX11_has 134 = .ok (.ireturn, 1)) rfl) ?_
  refine mm_fc (ss_aload_n hx hb (by decide +kernel : decode cX11_has 135 = .ok (.aload_n 0, 1)) rfl) ?_
  refine mm_fc (ss_get X rfl in_X11 (by decide) rfl wd_2_99 (by decide +kernel : decode cX11_has 136 = .ok (.getfield 64, 3))) ?_
  refine mm_fc (ss_callV X rfl rfl wd_4_140 wd_1_9 wd_4_137 wd_4_138 wd_4_139 (by decide +kernel) (by decide +kernel) (by decide) (by decide +kernel : decode cX11_has 139 = .ok (.invokevirtual 178, 3))) ?_
  refine mm_fc (ss_iret (by decide +kernel : decode cX11_has 142 = .ok (.ireturn, 1)) rfl) ?_
  refine mm_fc (ss_iconst hx hb (by decide +kernel : decode cX11_has 143 = .ok (.iconst (-1), 1)) (by decide)) ?_
  refine mm_fc (ss_iret (by decide +kernel : decode cX11_has 144 = .ok (.ireturn, 1)) rfl) ?_
  exact mm_fn
def cd_X11_letter : mm_K mm_H := [(0, s_aload 0 1), (1, s_get 11 5 4), (4, s_iload 1 5), (5, s_callV 7 102 1 1 8), (8, s_if (fun x => x = 0) 23 11), (11, s_aload 0 12), (12, s_get 11 10 15), (15, s_iload 1 16), (16, s_iload 2 17), (17, s_callV 10 139 2 1 20), (20, s_goto 24), (23, s_pushI (-1) 24), (24, s_iret)]
set_option maxRecDepth 100000 in
set_option maxHeartbeats 4000000 in
theorem ok_X11_letter (l : Launch) : mm_CodeOK l mm_I0 RX11 cX11_letter 3 (some .int) cd_X11_letter := by
  intro p e R s m args below meth c Q σ cA D A kc ks d C X
  have hx := X.1
  have hb := X.2.1
  have hown := X.2.2.2.1
  have hts := X.2.2.2.2.1
  refine mm_fc (ss_aload_n hx hb (by decide +kernel : decode cX11_letter 0 = .ok (.aload_n 0, 1)) rfl) ?_
  refine mm_fc (ss_get X rfl in_X11 (by decide) rfl wd_2_98 (by decide +kernel : decode cX11_letter 1 = .ok (.getfield 57, 3))) ?_
  refine mm_fc (ss_iload_n hx hb (by decide +kernel : decode cX11_letter 4 = .ok (.iload_n 1, 1)) rfl) ?_
  refine mm_fc (ss_callV X rfl rfl wd_3_108 wd_1_8 wd_4_145 wd_3_106 wd_3_107 (by decide +kernel) (by decide +kernel) (by decide) (by decide +kernel : decode cX11_letter 5 = .ok (.invokevirtual 179, 3))) ?_
  refine mm_fc (ss_ifeq hx hb (by decide +kernel : decode cX11_letter 8 = .ok (.ifCond .eq 15, 3)) (by decide)) ?_
  refine mm_fc (ss_aload_n hx hb (by decide +kernel : decode cX11_letter 11 = .ok (.aload_n 0, 1)) rfl) ?_
  refine mm_fc (ss_get X rfl in_X11 (by decide) rfl wd_2_103 (by decide +kernel : decode cX11_letter 12 = .ok (.getfield 89, 3))) ?_
  refine mm_fc (ss_iload_n hx hb (by decide +kernel : decode cX11_letter 15 = .ok (.iload_n 1, 1)) rfl) ?_
  refine mm_fc (ss_iload_n hx hb (by decide +kernel : decode cX11_letter 16 = .ok (.iload_n 2, 1)) rfl) ?_
  refine mm_fc (ss_callV X rfl rfl wd_3_104 wd_1_12 wd_4_146 wd_3_102 wd_3_103 (by decide +kernel) (by decide +kernel) (by decide) (by decide +kernel : decode cX11_letter 17 = .ok (.invokevirtual 183, 3))) ?_
  refine mm_fc (ss_goto hx hb (by decide +kernel : decode cX11_letter 20 = .ok (.goto 4, 3)) (by decide)) ?_
  refine mm_fc (ss_iconst hx hb (by decide +kernel : decode cX11_letter 23 = .ok (.iconst (-1), 1)) (by decide)) ?_
  refine mm_fc (ss_iret (by decide +kernel : decode cX11_letter 24 = .ok (.ireturn, 1)) rfl) ?_
  exact mm_fn
def cd_X11_house : mm_K mm_H := [(0, s_aload 0 1), (1, s_get 11 5 4), (4, s_iload 1 5), (5, s_callV 7 104 1 1 8), (8, s_iret)]
set_option maxRecDepth 100000 in
set_option maxHeartbeats 4000000 in
theorem ok_X11_house (l : Launch) : mm_CodeOK l mm_I0 RX11 cX11_house 2 (some .int) cd_X11_house := by
  intro p e R s m args below meth c Q σ cA D A kc ks d C X
  have hx := X.1
  have hb := X.2.1
  have hown := X.2.2.2.1
  have hts := X.2.2.2.2.1
  refine mm_fc (ss_aload_n hx hb (by decide +kernel : decode cX11_house 0 = .ok (.aload_n 0, 1)) rfl) ?_
  refine mm_fc (ss_get X rfl in_X11 (by decide) rfl wd_2_98 (by decide +kernel : decode cX11_house 1 = .ok (.getfield 57, 3))) ?_
  refine mm_fc (ss_iload_n hx hb (by decide +kernel : decode cX11_house 4 = .ok (.iload_n 1, 1)) rfl) ?_
  refine mm_fc (ss_callV X rfl rfl wd_3_120 wd_1_8 wd_4_151 wd_3_118 wd_3_119 (by decide +kernel) (by decide +kernel) (by decide) (by decide +kernel : decode cX11_house 5 = .ok (.invokevirtual 187, 3))) ?_
  refine mm_fc (ss_iret (by decide +kernel : decode cX11_house 8 = .ok (.ireturn, 1)) rfl) ?_
  exact mm_fn
def cd_X11_person : mm_K mm_H := [(0, s_aload 0 1), (1, s_get 11 5 4), (4, s_iload 1 5), (5, s_callV 7 102 1 1 8), (8, s_if (fun x => ¬ x = 0) 13 11), (11, s_pushI (-1) 12), (12, s_iret), (13, s_iload 2 14), (14, s_sw [(0, 56), (1, 65), (2, 74), (3, 83), (4, 92), (5, 101), (6, 111)] 121), (56, s_aload 0 57), (57, s_get 11 5 60), (60, s_iload 1 61), (61, s_callV 7 105 1 1 64), (64, s_iret), (65, s_aload 0 66), (66, s_get 11 5 69), (69, s_iload 1 70), (70, s_callV 7 106 1 1 73), (73, s_iret), (74, s_aload 0 75), (75, s_get 11 5 78), (78, s_iload 1 79), (79, s_callV 7 107 1 1 82), (82, s_iret), (83, s_aload 0 84), (84, s_get 11 5 87), (87, s_iload 1 88), (88, s_callV 7 108 1 1 91), (91, s_iret), (92, s_aload 0 93), (93, s_get 11 5 96), (96, s_iload 1 97), (97, s_callV 7 109 1 1 100), (100, s_iret), (101, s_aload 0 102), (102, s_get 11 5 105), (105, s_iload 1 106), (106, s_pushI 0 107), (107, s_callV 7 111 2 1 110), (110, s_iret), (111, s_aload 0 112), (112, s_get 11 5 115), (115, s_iload 1 116), (116, s_pushI 1 117), (117, s_callV 7 111 2 1 120), (120, s_iret), (121, s_pushI (-1) 122), (122, s_iret)]
set_option maxRecDepth 100000 in
set_option maxHeartbeats 4000000 in
theorem ok_X11_person (l : Launch) : mm_CodeOK l mm_I0 RX11 cX11_person 3 (some .int) cd_X11_person := by
  intro p e R s m args below meth c Q σ cA D A kc ks d C X
  have hx := X.1
  have hb := X.2.1
  have hown := X.2.2.2.1
  have hts := X.2.2.2.2.1
  refine mm_fc (ss_aload_n hx hb (by decide +kernel : decode cX11_person 0 = .ok (.aload_n 0, 1)) rfl) ?_
  refine mm_fc (ss_get X rfl in_X11 (by decide) rfl wd_2_98 (by decide +kernel : decode cX11_person 1 = .ok (.getfield 57, 3))) ?_
  refine mm_fc (ss_iload_n hx hb (by decide +kernel : decode cX11_person 4 = .ok (.iload_n 1, 1)) rfl) ?_
  refine mm_fc (ss_callV X rfl rfl wd_3_108 wd_1_8 wd_4_145 wd_3_106 wd_3_107 (by decide +kernel) (by decide +kernel) (by decide) (by decide +kernel : decode cX11_person 5 = .ok (.invokevirtual 179, 3))) ?_
  refine mm_fc (ss_ifne hx hb (by decide +kernel : decode cX11_person 8 = .ok (.ifCond .ne 5, 3)) (by decide)) ?_
  refine mm_fc (ss_iconst hx hb (by decide +kernel : decode cX11_person 11 = .ok (.iconst (-1), 1)) (by decide)) ?_
  refine mm_fc (ss_iret (by decide +kernel : decode cX11_person 12 = .ok (.ireturn, 1)) rfl) ?_
  refine mm_fc (ss_iload_n hx hb (by decide +kernel : decode cX11_person 13 = .ok (.iload_n 2, 1)) rfl) ?_
  refine mm_fc (ss_table hx hb (by decide +kernel : decode cX11_person 14 = .ok (.tableswitch 107 0 6 #[42, 51, 60, 69, 78, 87, 97], 42)) (by decide) (by decide) (by decide)) ?_
  refine mm_fc (ss_aload_n hx hb (by decide +kernel : decode cX11_person 56 = .ok (.aload_n 0, 1)) rfl) ?_
  refine mm_fc (ss_get X rfl in_X11 (by decide) rfl wd_2_98 (by decide +kernel : decode cX11_person 57 = .ok (.getfield 57, 3))) ?_
  refine mm_fc (ss_iload_n hx hb (by decide +kernel : decode cX11_person 60 = .ok (.iload_n 1, 1)) rfl) ?_
  refine mm_fc (ss_callV X rfl rfl wd_4_159 wd_1_8 wd_4_156 wd_4_157 wd_4_158 (by decide +kernel) (by decide +kernel) (by decide) (by decide +kernel : decode cX11_person 61 = .ok (.invokevirtual 190, 3))) ?_
  refine mm_fc (ss_iret (by decide +kernel : decode cX11_person 64 = .ok (.ireturn, 1)) rfl) ?_
  refine mm_fc (ss_aload_n hx hb (by decide +kernel : decode cX11_person 65 = .ok (.aload_n 0, 1)) rfl) ?_
  refine mm_fc (ss_get X rfl in_X11 (by decide) rfl wd_2_98 (by decide +kernel : decode cX11_person 66 = .ok (.getfield 57, 3))) ?_
  refine mm_fc (ss_iload_n hx hb (by decide +kernel : decode cX11_person 69 = .ok (.iload_n 1, 1)) rfl) ?_
  refine mm_fc (ss_callV X rfl rfl wd_4_42 wd_1_8 wd_4_160 wd_4_40 wd_4_41 (by decide +kernel) (by decide +kernel) (by decide) (by decide +kernel : decode cX11_person 70 = .ok (.invokevirtual 193, 3))) ?_
  refine mm_fc (ss_iret (by decide +kernel : decode cX11_person 73 = .ok (.ireturn, 1)) rfl) ?_
  refine mm_fc (ss_aload_n hx hb (by decide +kernel : decode cX11_person 74 = .ok (.aload_n 0, 1)) rfl) ?_
  refine mm_fc (ss_get X rfl in_X11 (by decide) rfl wd_2_98 (by decide +kernel : decode cX11_person 75 = .ok (.getfield 57, 3))) ?_
  refine mm_fc (ss_iload_n hx hb (by decide +kernel : decode cX11_person 78 = .ok (.iload_n 1, 1)) rfl) ?_
  refine mm_fc (ss_callV X rfl rfl wd_4_68 wd_1_8 wd_4_161 wd_4_66 wd_4_67 (by decide +kernel) (by decide +kernel) (by decide) (by decide +kernel : decode cX11_person 79 = .ok (.invokevirtual 196, 3))) ?_
  refine mm_fc (ss_iret (by decide +kernel : decode cX11_person 82 = .ok (.ireturn, 1)) rfl) ?_
  refine mm_fc (ss_aload_n hx hb (by decide +kernel : decode cX11_person 83 = .ok (.aload_n 0, 1)) rfl) ?_
  refine mm_fc (ss_get X rfl in_X11 (by decide) rfl wd_2_98 (by decide +kernel : decode cX11_person 84 = .ok (.getfield 57, 3))) ?_
  refine mm_fc (ss_iload_n hx hb (by decide +kernel : decode cX11_person 87 = .ok (.iload_n 1, 1)) rfl) ?_
  refine mm_fc (ss_callV X rfl rfl wd_4_76 wd_1_8 wd_4_162 wd_4_74 wd_4_75 (by decide +kernel) (by decide +kernel) (by decide) (by decide +kernel : decode cX11_person 88 = .ok (.invokevirtual 199, 3))) ?_
  refine mm_fc (ss_iret (by decide +kernel : decode cX11_person 91 = .ok (.ireturn, 1)) rfl) ?_
  refine mm_fc (ss_aload_n hx hb (by decide +kernel : decode cX11_person 92 = .ok (.aload_n 0, 1)) rfl) ?_
  refine mm_fc (ss_get X rfl in_X11 (by decide) rfl wd_2_98 (by decide +kernel : decode cX11_person 93 = .ok (.getfield 57, 3))) ?_
  refine mm_fc (ss_iload_n hx hb (by decide +kernel : decode cX11_person 96 = .ok (.iload_n 1, 1)) rfl) ?_
  refine mm_fc (ss_callV X rfl rfl wd_4_50 wd_1_8 wd_4_163 wd_4_48 wd_4_49 (by decide +kernel) (by decide +kernel) (by decide) (by decide +kernel : decode cX11_person 97 = .ok (.invokevirtual 202, 3))) ?_
  refine mm_fc (ss_iret (by decide +kernel : decode cX11_person 100 = .ok (.ireturn, 1)) rfl) ?_
  refine mm_fc (ss_aload_n hx hb (by decide +kernel : decode cX11_person 101 = .ok (.aload_n 0, 1)) rfl) ?_
  refine mm_fc (ss_get X rfl in_X11 (by decide) rfl wd_2_98 (by decide +kernel : decode cX11_person 102 = .ok (.getfield 57, 3))) ?_
  refine mm_fc (ss_iload_n hx hb (by decide +kernel : decode cX11_person 105 = .ok (.iload_n 1, 1)) rfl) ?_
  refine mm_fc (ss_iconst hx hb (by decide +kernel : decode cX11_person 106 = .ok (.iconst 0, 1)) (by decide)) ?_
  refine mm_fc (ss_callV X rfl rfl wd_4_59 wd_1_8 wd_4_164 wd_4_57 wd_4_58 (by decide +kernel) (by decide +kernel) (by decide) (by decide +kernel : decode cX11_person 107 = .ok (.invokevirtual 205, 3))) ?_
  refine mm_fc (ss_iret (by decide +kernel : decode cX11_person 110 = .ok (.ireturn, 1)) rfl) ?_
  refine mm_fc (ss_aload_n hx hb (by decide +kernel : decode cX11_person 111 = .ok (.aload_n 0, 1)) rfl) ?_
  refine mm_fc (ss_get X rfl in_X11 (by decide) rfl wd_2_98 (by decide +kernel : decode cX11_person 112 = .ok (.getfield 57, 3))) ?_
  refine mm_fc (ss_iload_n hx hb (by decide +kernel : decode cX11_person 115 = .ok (.iload_n 1, 1)) rfl) ?_
  refine mm_fc (ss_iconst hx hb (by decide +kernel : decode cX11_person 116 = .ok (.iconst 1, 1)) (by decide)) ?_
  refine mm_fc (ss_callV X rfl rfl wd_4_59 wd_1_8 wd_4_164 wd_4_57 wd_4_58 (by decide +kernel) (by decide +kernel) (by decide) (by decide +kernel : decode cX11_person 117 = .ok (.invokevirtual 205, 3))) ?_
  refine mm_fc (ss_iret (by decide +kernel : decode cX11_person 120 = .ok (.ireturn, 1)) rfl) ?_
  refine mm_fc (ss_iconst hx hb (by decide +kernel : decode cX11_person 121 = .ok (.iconst (-1), 1)) (by decide)) ?_
  refine mm_fc (ss_iret (by decide +kernel : decode cX11_person 122 = .ok (.ireturn, 1)) rfl) ?_
  exact mm_fn
def cd_X11_thinks : mm_K mm_H := [(0, s_aload 0 1), (1, s_get 11 5 4), (4, s_iload 1 5), (5, s_iload 2 6), (6, s_callV 7 103 2 1 9), (9, s_if (fun x => x = 0) 24 12), (12, s_aload 0 13), (13, s_get 11 5 16), (16, s_iload 1 17), (17, s_iload 2 18), (18, s_callV 7 110 2 1 21), (21, s_goto 25), (24, s_pushI (-1) 25), (25, s_iret)]
set_option maxRecDepth 100000 in
set_option maxHeartbeats 4000000 in
theorem ok_X11_thinks (l : Launch) : mm_CodeOK l mm_I0 RX11 cX11_thinks 3 (some .int) cd_X11_thinks := by
  intro p e R s m args below meth c Q σ cA D A kc ks d C X
  have hx := X.1
  have hb := X.2.1
  have hown := X.2.2.2.1
  have hts := X.2.2.2.2.1
  refine mm_fc (ss_aload_n hx hb (by decide +kernel : decode cX11_thinks 0 = .ok (.aload_n 0, 1)) rfl) ?_
  refine mm_fc (ss_get X rfl in_X11 (by decide) rfl wd_2_98 (by decide +kernel : decode cX11_thinks 1 = .ok (.getfield 57, 3))) ?_
  refine mm_fc (ss_iload_n hx hb (by decide +kernel : decode cX11_thinks 4 = .ok (.iload_n 1, 1)) rfl) ?_
  refine mm_fc (ss_iload_n hx hb (by decide +kernel : decode cX11_thinks 5 = .ok (.iload_n 2, 1)) rfl) ?_
  refine mm_fc (ss_callV X rfl rfl wd_3_141 wd_1_8 wd_4_169 wd_3_139 wd_3_140 (by decide +kernel) (by decide +kernel) (by decide) (by decide +kernel : decode cX11_thinks 6 = .ok (.invokevirtual 208, 3))) ?_
  refine mm_fc (ss_ifeq hx hb (by decide +kernel : decode cX11_thinks 9 = .ok (.ifCond .eq 15, 3)) (by decide)) ?_
  refine mm_fc (ss_aload_n hx hb (by decide +kernel : decode cX11_thinks 12 = .ok (.aload_n 0, 1)) rfl) ?_
  refine mm_fc (ss_get X rfl in_X11 (by decide) rfl wd_2_98 (by decide +kernel : decode cX11_thinks 13 = .ok (.getfield 57, 3))) ?_
  refine mm_fc (ss_iload_n hx hb (by decide +kernel : decode cX11_thinks 16 = .ok (.iload_n 1, 1)) rfl) ?_
  refine mm_fc (ss_iload_n hx hb (by decide +kernel : decode cX11_thinks 17 = .ok (.iload_n 2, 1)) rfl) ?_
  refine mm_fc (ss_callV X rfl rfl wd_4_80 wd_1_8 wd_4_170 wd_4_78 wd_4_79 (by decide +kernel) (by decide +kernel) (by decide) (by decide +kernel : decode cX11_thinks 18 = .ok (.invokevirtual 212, 3))) ?_
  refine mm_fc (ss_goto hx hb (by decide +kernel : decode cX11_thinks 21 = .ok (.goto 4, 3)) (by decide)) ?_
  refine mm_fc (ss_iconst hx hb (by decide +kernel : decode cX11_thinks 24 = .ok (.iconst (-1), 1)) (by decide)) ?_
  refine mm_fc (ss_iret (by decide +kernel : decode cX11_thinks 25 = .ok (.ireturn, 1)) rfl) ?_
  exact mm_fn
def cd_X11_paints : mm_K mm_H := [(0, s_aload 0 1), (1, s_get 11 5 4), (4, s_iload 1 5), (5, s_iload 2 6), (6, s_callV 7 111 2 1 9), (9, s_istore 3 10), (10, s_iload 3 11), (11, s_pushI (-1) 12), (12, s_icmp (fun x y => ¬ x = y) 19 15), (15, s_pushI (-1) 16), (16, s_goto 33), (19, s_aload 0 20), (20, s_get 11 10 23), (23, s_aload 0 24), (24, s_get 11 5 27), (27, s_iload 1 28), (28, s_iload 3 29), (29, s_iload 2 30), (30, s_callV 10 143 4 1 33), (33, s_iret)]
set_option maxRecDepth 100000 in
set_option maxHeartbeats 4000000 in
theorem ok_X11_paints (l : Launch) : mm_CodeOK l mm_I0 RX11 cX11_paints 4 (some .int) cd_X11_paints := by
  intro p e R s m args below meth c Q σ cA D A kc ks d C X
  have hx := X.1
  have hb := X.2.1
  have hown := X.2.2.2.1
  have hts := X.2.2.2.2.1
  refine mm_fc (ss_aload_n hx hb (by decide +kernel : decode cX11_paints 0 = .ok (.aload_n 0, 1)) rfl) ?_
  refine mm_fc (ss_get X rfl in_X11 (by decide) rfl wd_2_98 (by decide +kernel : decode cX11_paints 1 = .ok (.getfield 57, 3))) ?_
  refine mm_fc (ss_iload_n hx hb (by decide +kernel : decode cX11_paints 4 = .ok (.iload_n 1, 1)) rfl) ?_
  refine mm_fc (ss_iload_n hx hb (by decide +kernel : decode cX11_paints 5 = .ok (.iload_n 2, 1)) rfl) ?_
  refine mm_fc (ss_callV X rfl rfl wd_4_59 wd_1_8 wd_4_164 wd_4_57 wd_4_58 (by decide +kernel) (by decide +kernel) (by decide) (by decide +kernel : decode cX11_paints 6 = .ok (.invokevirtual 205, 3))) ?_
  refine mm_fc (ss_istore_n hx hb (by decide +kernel : decode cX11_paints 9 = .ok (.istore_n 3, 1)) rfl (by decide)) ?_
  refine mm_fc (ss_iload_n hx hb (by decide +kernel : decode cX11_paints 10 = .ok (.iload_n 3, 1)) rfl) ?_
  refine mm_fc (ss_iconst hx hb (by decide +kernel : decode cX11_paints 11 = .ok (.iconst (-1), 1)) (by decide)) ?_
  refine mm_fc (ss_icmpne hx hb (by decide +kernel : decode cX11_paints 12 = .ok (.if_icmp .ne 7, 3)) (by decide)) ?_
  refine mm_fc (ss_iconst hx hb (by decide +kernel : decode cX11_paints 15 = .ok (.iconst (-1), 1)) (by decide)) ?_
  refine mm_fc (ss_goto hx hb (by decide +kernel : decode cX11_paints 16 = .ok (.goto 17, 3)) (by decide)) ?_
  refine mm_fc (ss_aload_n hx hb (by decide +kernel : decode cX11_paints 19 = .ok (.aload_n 0, 1)) rfl) ?_
  refine mm_fc (ss_get X rfl in_X11 (by decide) rfl wd_2_103 (by decide +kernel : decode cX11_paints 20 = .ok (.getfield 89, 3))) ?_
  refine mm_fc (ss_aload_n hx hb (by decide +kernel : decode cX11_paints 23 = .ok (.aload_n 0, 1)) rfl) ?_
  refine mm_fc (ss_get X rfl in_X11 (by decide) rfl wd_2_98 (by decide +kernel : decode cX11_paints 24 = .ok (.getfield 57, 3))) ?_
  refine mm_fc (ss_iload_n hx hb (by decide +kernel : decode cX11_paints 27 = .ok (.iload_n 1, 1)) rfl) ?_
  refine mm_fc (ss_iload_n hx hb (by decide +kernel : decode cX11_paints 28 = .ok (.iload_n 3, 1)) rfl) ?_
  refine mm_fc (ss_iload_n hx hb (by decide +kernel : decode cX11_paints 29 = .ok (.iload_n 2, 1)) rfl) ?_
  refine mm_fc (ss_callV X rfl rfl wd_4_178 wd_1_12 wd_4_175 wd_4_176 wd_4_177 (by decide +kernel) (by decide +kernel) (by decide) (by decide +kernel : decode cX11_paints 30 = .ok (.invokevirtual 215, 3))) ?_
  refine mm_fc (ss_iret (by decide +kernel : decode cX11_paints 33 = .ok (.ireturn, 1)) rfl) ?_
  exact mm_fn
def cd_X11_feud : mm_K mm_H := [(0, s_aload 0 1), (1, s_get 11 5 4), (4, s_iload 1 5), (5, s_callV 7 104 1 1 8), (8, s_istore 2 9), (9, s_iload 2 10), (10, s_pushI (-1) 11), (11, s_icmp (fun x y => x = y) 28 14), (14, s_aload 0 15), (15, s_get 11 5 18), (18, s_iload 1 19), (19, s_pushI 1 20), (20, s_bin (fun x y => x + y) 21), (21, s_callV 7 104 1 1 24), (24, s_pushI (-1) 25), (25, s_icmp (fun x y => ¬ x = y) 30 28), (28, s_pushI (-1) 29), (29, s_iret), (30, s_aload 0 31), (31, s_get 11 10 34), (34, s_aload 0 35), (35, s_get 11 5 38), (38, s_iload 2 39), (39, s_aload 0 40), (40, s_get 11 5 43), (43, s_iload 1 44), (44, s_pushI 1 45), (45, s_bin (fun x y => x + y) 46), (46, s_callV 7 104 1 1 49), (49, s_callV 10 146 3 1 52), (52, s_if (fun x => x = 0) 59 55), (55, s_pushI 1 56), (56, s_goto 60), (59, s_pushI 0 60), (60, s_iret)]
set_option maxRecDepth 100000 in
set_option maxHeartbeats 4000000 in
theorem ok_X11_feud (l : Launch) : mm_CodeOK l mm_I0 RX11 cX11_feud 3 (some .int) cd_X11_feud := by
  intro p e R s m args below meth c Q σ cA D A kc ks d C X
  have hx := X.1
  have hb := X.2.1
  have hown := X.2.2.2.1
  have hts := X.2.2.2.2.1
  refine mm_fc (ss_aload_n hx hb (by decide +kernel : decode cX11_feud 0 = .ok (.aload_n 0, 1)) rfl) ?_
  refine mm_fc (ss_get X rfl in_X11 (by decide) rfl wd_2_98 (by decide +kernel : decode cX11_feud 1 = .ok (.getfield 57, 3))) ?_
  refine mm_fc (ss_iload_n hx hb (by decide +kernel : decode cX11_feud 4 = .ok (.iload_n 1, 1)) rfl) ?_
  refine mm_fc (ss_callV X rfl rfl wd_3_120 wd_1_8 wd_4_151 wd_3_118 wd_3_119 (by decide +kernel) (by decide +kernel) (by decide) (by decide +kernel : decode cX11_feud 5 = .ok (.invokevirtual 187, 3))) ?_
  refine mm_fc (ss_istore_n hx hb (by decide +kernel : decode cX11_feud 8 = .ok (.istore_n 2, 1)) rfl (by decide)) ?_
  refine mm_fc (ss_iload_n hx hb (by decide +kernel : decode cX11_feud 9 = .ok (.iload_n 2, 1)) rfl) ?_
  refine mm_fc (ss_iconst hx hb (by decide +kernel : decode cX11_feud 10 = .ok (.iconst (-1), 1)) (by decide)) ?_
  refine mm_fc (ss_icmpeq hx hb (by decide +kernel : decode cX11_feud 11 = .ok (.if_icmp .eq 17, 3)) (by decide)) ?_
  refine mm_fc (ss_aload_n hx hb (by decide +kernel : decode cX11_feud 14 = .ok (.aload_n 0, 1)) rfl) ?_
  refine mm_fc (ss_get X rfl in_X11 (by decide) rfl wd_2_98 (by decide +kernel : decode cX11_feud 15 = .ok (.getfield 57, 3))) ?_
  refine mm_fc (ss_iload_n hx hb (by decide +kernel : decode cX11_feud 18 = .ok (.iload_n 1, 1)) rfl) ?_
  refine mm_fc (ss_iconst hx hb (by decide +kernel : decode cX11_feud 19 = .ok (.iconst 1, 1)) (by decide)) ?_
  refine mm_fc (ss_iadd hx hb (by decide +kernel : decode cX11_feud 20 = .ok (.iadd, 1))) ?_
  refine mm_fc (ss_callV X rfl rfl wd_3_120 wd_1_8 wd_4_151 wd_3_118 wd_3_119 (by decide +kernel) (by decide +kernel) (by decide) (by decide +kernel : decode cX11_feud 21 = .ok (.invokevirtual 187, 3))) ?_
  refine mm_fc (ss_iconst hx hb (by decide +kernel : decode cX11_feud 24 = .ok (.iconst (-1), 1)) (by decide)) ?_
  refine mm_fc (ss_icmpne hx hb (by decide +kernel : decode cX11_feud 25 = .ok (.if_icmp .ne 5, 3)) (by decide)) ?_
  refine mm_fc (ss_iconst hx hb (by decide +kernel : decode cX11_feud 28 = .ok (.iconst (-1), 1)) (by decide)) ?_
  refine mm_fc (ss_iret (by decide +kernel : decode cX11_feud 29 = .ok (.ireturn, 1)) rfl) ?_
  refine mm_fc (ss_aload_n hx hb (by decide +kernel : decode cX11_feud 30 = .ok (.aload_n 0, 1)) rfl) ?_
  refine mm_fc (ss_get X rfl in_X11 (by decide) rfl wd_2_103 (by decide +kernel : decode cX11_feud 31 = .ok (.getfield 89, 3))) ?_
  refine mm_fc (ss_aload_n hx hb (by decide +kernel : decode cX11_feud 34 = .ok (.aload_n 0, 1)) rfl) ?_
  refine mm_fc (ss_get X rfl in_X11 (by decide) rfl wd_2_98 (by decide +kernel : decode cX11_feud 35 = .ok (.getfield 57, 3))) ?_
  refine mm_fc (ss_iload_n hx hb (by decide +kernel : decode cX11_feud 38 = .ok (.iload_n 2, 1)) rfl) ?_
  refine mm_fc (ss_aload_n hx hb (by decide +kernel : decode cX11_feud 39 = .ok (.aload_n 0, 1)) rfl) ?_
  refine mm_fc (ss_get X rfl in_X11 (by decide) rfl wd_2_98 (by decide +kernel : decode cX11_feud 40 = .ok (.getfield 57, 3))) ?_
  refine mm_fc (ss_iload_n hx hb (by decide +kernel : decode cX11_feud 43 = .ok (.iload_n 1, 1)) rfl) ?_
  refine mm_fc (ss_iconst hx hb (by decide +kernel : decode cX11_feud 44 = .ok (.iconst 1, 1)) (by decide)) ?_
  refine mm_fc (ss_iadd hx hb (by decide +kernel : decode cX11_feud 45 = .ok (.iadd, 1))) ?_
  refine mm_fc (ss_callV X rfl rfl wd_3_120 wd_1_8 wd_4_151 wd_3_118 wd_3_119 (by decide +kernel) (by decide +kernel) (by decide) (by decide +kernel : decode cX11_feud 46 = .ok (.invokevirtual 187, 3))) ?_
  refine mm_fc (ss_callV X rfl rfl wd_4_64 wd_1_12 wd_4_193 wd_4_62 wd_4_63 (by decide +kernel) (by decide +kernel) (by decide) (by decide +kernel : decode cX11_feud 49 = .ok (.invokevirtual 219, 3))) ?_
  refine mm_fc (ss_ifeq hx hb (by decide +kernel : decode cX11_feud 52 = .ok (.ifCond .eq 7, 3)) (by decide)) ?_
  refine mm_fc (ss_iconst hx hb (by decide +kernel : decode cX11_feud 55 = .ok (.iconst 1, 1)) (by decide)) ?_
  refine mm_fc (ss_goto hx hb (by decide +kernel : decode cX11_feud 56 = .ok (.goto 4, 3)) (by decide)) ?_
  refine mm_fc (ss_iconst hx hb (by decide +kernel : decode cX11_feud 59 = .ok (.iconst 0, 1)) (by decide)) ?_
  refine mm_fc (ss_iret (by decide +kernel : decode cX11_feud 60 = .ok (.ireturn, 1)) rfl) ?_
  exact mm_fn
def cd_X11_kept : mm_K mm_H := [(0, s_aload 0 1), (1, s_get 11 5 4), (4, s_iload 1 5), (5, s_iload 2 6), (6, s_callV 7 121 2 1 9), (9, s_iret)]
set_option maxRecDepth 100000 in
set_option maxHeartbeats 4000000 in
theorem ok_X11_kept (l : Launch) : mm_CodeOK l mm_I0 RX11 cX11_kept 3 (some .int) cd_X11_kept := by
  intro p e R s m args below meth c Q σ cA D A kc ks d C X
  have hx := X.1
  have hb := X.2.1
  have hown := X.2.2.2.1
  have hts := X.2.2.2.2.1
  refine mm_fc (ss_aload_n hx hb (by decide +kernel : decode cX11_kept 0 = .ok (.aload_n 0, 1)) rfl) ?_
  refine mm_fc (ss_get X rfl in_X11 (by decide) rfl wd_2_98 (by decide +kernel : decode cX11_kept 1 = .ok (.getfield 57, 3))) ?_
  refine mm_fc (ss_iload_n hx hb (by decide +kernel : decode cX11_kept 4 = .ok (.iload_n 1, 1)) rfl) ?_
  refine mm_fc (ss_iload_n hx hb (by decide +kernel : decode cX11_kept 5 = .ok (.iload_n 2, 1)) rfl) ?_
  refine mm_fc (ss_callV X rfl rfl wd_4_201 wd_1_8 wd_4_198 wd_4_199 wd_4_200 (by decide +kernel) (by decide +kernel) (by decide) (by decide +kernel : decode cX11_kept 6 = .ok (.invokevirtual 223, 3))) ?_
  refine mm_fc (ss_iret (by decide +kernel : decode cX11_kept 9 = .ok (.ireturn, 1)) rfl) ?_
  exact mm_fn
def cd_X11_later : mm_K mm_H := [(0, s_aload 0 1), (1, s_get 11 5 4), (4, s_iload 1 5), (5, s_callV 7 102 1 1 8), (8, s_if (fun x => x = 0) 22 11), (11, s_aload 0 12), (12, s_iload 2 13), (13, s_pushI 0 14), (14, s_pushI 60 16), (16, s_callV 11 184 3 1 19), (19, s_if (fun x => ¬ x = 0) 24 22), (22, s_pushI (-1) 23), (23, s_iret), (24, s_aload 0 25), (25, s_get 11 7 28), (28, s_aload 0 29), (29, s_get 11 10 32), (32, s_aload 0 33), (33, s_get 11 5 36), (36, s_iload 2 37), (37, s_callV 0 15 3 3 40), (40, s_iload 1 41), (41, s_callV 7 106 1 1 44), (44, s_iret)]
set_option maxRecDepth 100000 in
set_option maxHeartbeats 4000000 in
theorem ok_X11_later (l : Launch) : mm_CodeOK l mm_I0 RX11 cX11_later 3 (some .int) cd_X11_later := by
  intro p e R s m args below meth c Q σ cA D A kc ks d C X
  have hx := X.1
  have hb := X.2.1
  have hown := X.2.2.2.1
  have hts := X.2.2.2.2.1
  refine mm_fc (ss_aload_n hx hb (by decide +kernel : decode cX11_later 0 = .ok (.aload_n 0, 1)) rfl) ?_
  refine mm_fc (ss_get X rfl in_X11 (by decide) rfl wd_2_98 (by decide +kernel : decode cX11_later 1 = .ok (.getfield 57, 3))) ?_
  refine mm_fc (ss_iload_n hx hb (by decide +kernel : decode cX11_later 4 = .ok (.iload_n 1, 1)) rfl) ?_
  refine mm_fc (ss_callV X rfl rfl wd_3_108 wd_1_8 wd_4_145 wd_3_106 wd_3_107 (by decide +kernel) (by decide +kernel) (by decide) (by decide +kernel : decode cX11_later 5 = .ok (.invokevirtual 179, 3))) ?_
  refine mm_fc (ss_ifeq hx hb (by decide +kernel : decode cX11_later 8 = .ok (.ifCond .eq 14, 3)) (by decide)) ?_
  refine mm_fc (ss_aload_n hx hb (by decide +kernel : decode cX11_later 11 = .ok (.aload_n 0, 1)) rfl) ?_
  refine mm_fc (ss_iload_n hx hb (by decide +kernel : decode cX11_later 12 = .ok (.iload_n 2, 1)) rfl) ?_
  refine mm_fc (ss_iconst hx hb (by decide +kernel : decode cX11_later 13 = .ok (.iconst 0, 1)) (by decide)) ?_
  refine mm_fc (ss_bipush hx hb (by decide +kernel : decode cX11_later 14 = .ok (.bipush 60, 2)) (by decide)) ?_
  refine mm_fc (ss_callV X rfl rfl wd_4_213 wd_1_1 wd_4_210 wd_4_212 wd_p_31 (by decide +kernel) (by decide +kernel) (by decide) (by decide +kernel : decode cX11_later 16 = .ok (.invokevirtual 226, 3))) ?_
  refine mm_fc (ss_ifne hx hb (by decide +kernel : decode cX11_later 19 = .ok (.ifCond .ne 5, 3)) (by decide)) ?_
  refine mm_fc (ss_iconst hx hb (by decide +kernel : decode cX11_later 22 = .ok (.iconst (-1), 1)) (by decide)) ?_
  refine mm_fc (ss_iret (by decide +kernel : decode cX11_later 23 = .ok (.ireturn, 1)) rfl) ?_
  refine mm_fc (ss_aload_n hx hb (by decide +kernel : decode cX11_later 24 = .ok (.aload_n 0, 1)) rfl) ?_
  refine mm_fc (ss_get X rfl in_X11 (by decide) rfl wd_2_100 (by decide +kernel : decode cX11_later 25 = .ok (.getfield 71, 3))) ?_
  refine mm_fc (ss_aload_n hx hb (by decide +kernel : decode cX11_later 28 = .ok (.aload_n 0, 1)) rfl) ?_
  refine mm_fc (ss_get X rfl in_X11 (by decide) rfl wd_2_103 (by decide +kernel : decode cX11_later 29 = .ok (.getfield 89, 3))) ?_
  refine mm_fc (ss_aload_n hx hb (by decide +kernel : decode cX11_later 32 = .ok (.aload_n 0, 1)) rfl) ?_
  refine mm_fc (ss_get X rfl in_X11 (by decide) rfl wd_2_98 (by decide +kernel : decode cX11_later 33 = .ok (.getfield 57, 3))) ?_
  refine mm_fc (ss_iload_n hx hb (by decide +kernel : decode cX11_later 36 = .ok (.iload_n 2, 1)) rfl) ?_
  refine mm_fc (ss_callV X rfl rfl wd_4_217 wd_1_10 wd_4_214 wd_4_215 wd_4_216 (by decide +kernel) (by decide +kernel) (by decide) (by decide +kernel : decode cX11_later 37 = .ok (.invokevirtual 230, 3))) ?_
  refine mm_fc (ss_iload_n hx hb (by decide +kernel : decode cX11_later 40 = .ok (.iload_n 1, 1)) rfl) ?_
  refine mm_fc (ss_callV X rfl rfl wd_4_42 wd_1_8 wd_4_160 wd_4_40 wd_4_41 (by decide +kernel) (by decide +kernel) (by decide) (by decide +kernel : decode cX11_later 41 = .ok (.invokevirtual 193, 3))) ?_
  refine mm_fc (ss_iret (by decide +kernel : decode cX11_later 44 = .ok (.ireturn, 1)) rfl) ?_
  exact mm_fn
def cd_X11_mind : mm_K mm_H := [(0, s_aload 0 1), (1, s_get 11 5 4), (4, s_iload 1 5), (5, s_iload 2 6), (6, s_callV 7 103 2 1 9), (9, s_if (fun x => x = 0) 23 12), (12, s_aload 0 13), (13, s_iload 3 14), (14, s_pushI 0 15), (15, s_pushI 60 17), (17, s_callV 11 184 3 1 20), (20, s_if (fun x => ¬ x = 0) 25 23), (23, s_pushI (-1) 24), (24, s_iret), (25, s_aload 0 26), (26, s_get 11 7 29), (29, s_aload 0 30), (30, s_get 11 10 33), (33, s_aload 0 34), (34, s_get 11 5 37), (37, s_iload 3 38), (38, s_callV 0 15 3 3 41), (41, s_iload 1 42), (42, s_iload 2 43), (43, s_callV 7 110 2 1 46), (46, s_iret)]
set_option maxRecDepth 100000 in
set_option maxHeartbeats 4000000 in
theorem ok_X11_mind (l : Launch) : mm_CodeOK l mm_I0 RX11 cX11_mind 4 (some .int) cd_X11_mind := by
  intro p e R s m args below meth c Q σ cA D A kc ks d C X
  have hx := X.1
  have hb := X.2.1
  have hown := X.2.2.2.1
  have hts := X.2.2.2.2.1
  refine mm_fc (ss_aload_n hx hb (by decide +kernel : decode cX11_mind 0 = .ok (.aload_n 0, 1)) rfl) ?_
  refine mm_fc (ss_get X rfl in_X11 (by decide) rfl wd_2_98 (by decide +kernel : decode cX11_mind 1 = .ok (.getfield 57, 3))) ?_
  refine mm_fc (ss_iload_n hx hb (by decide +kernel : decode cX11_mind 4 = .ok (.iload_n 1, 1)) rfl) ?_
  refine mm_fc (ss_iload_n hx hb (by decide +kernel : decode cX11_mind 5 = .ok (.iload_n 2, 1)) rfl) ?_
  refine mm_fc (ss_callV X rfl rfl wd_3_141 wd_1_8 wd_4_169 wd_3_139 wd_3_140 (by decide +kernel) (by decide +kernel) (by decide) (by decide +kernel : decode cX11_mind 6 = .ok (.invokevirtual 208, 3))) ?_
  refine mm_fc (ss_ifeq hx hb (by decide +kernel : decode cX11_mind 9 = .ok (.ifCond .eq 14, 3)) (by decide)) ?_
  refine mm_fc (ss_aload_n hx hb (by decide +kernel : decode cX11_mind 12 = .ok (.aload_n 0, 1)) rfl) ?_
  refine mm_fc (ss_iload_n hx hb (by decide +kernel : decode cX11_mind 13 = .ok (.iload_n 3, 1)) rfl) ?_
  refine mm_fc (ss_iconst hx hb (by decide +kernel : decode cX11_mind 14 = .ok (.iconst 0, 1)) (by decide)) ?_
  refine mm_fc (ss_bipush hx hb (by decide +kernel : decode cX11_mind 15 = .ok (.bipush 60, 2)) (by decide)) ?_
  refine mm_fc (ss_callV X rfl rfl wd_4_213 wd_1_1 wd_4_210 wd_4_212 wd_p_31 (by decide +kernel) (by decide +kernel) (by decide) (by decide +kernel : decode cX11_mind 17 = .ok (.invokevirtual 226, 3))) ?_
  refine mm_fc (ss_ifne hx hb (by decide +kernel : decode cX11_mind 20 = .ok (.ifCond .ne 5, 3)) (by decide)) ?_
  refine mm_fc (ss_iconst hx hb (by decide +kernel : decode cX11_mind 23 = .ok (.iconst (-1), 1)) (by decide)) ?_
  refine mm_fc (ss_iret (by decide +kernel : decode cX11_mind 24 = .ok (.ireturn, 1)) rfl) ?_
  refine mm_fc (ss_aload_n hx hb (by decide +kernel : decode cX11_mind 25 = .ok (.aload_n 0, 1)) rfl) ?_
  refine mm_fc (ss_get X rfl in_X11 (by decide) rfl wd_2_100 (by decide +kernel : decode cX11_mind 26 = .ok (.getfield 71, 3))) ?_
  refine mm_fc (ss_aload_n hx hb (by decide +kernel : decode cX11_mind 29 = .ok (.aload_n 0, 1)) rfl) ?_
  refine mm_fc (ss_get X rfl in_X11 (by decide) rfl wd_2_103 (by decide +kernel : decode cX11_mind 30 = .ok (.getfield 89, 3))) ?_
  refine mm_fc (ss_aload_n hx hb (by decide +kernel : decode cX11_mind 33 = .ok (.aload_n 0, 1)) rfl) ?_
  refine mm_fc (ss_get X rfl in_X11 (by decide) rfl wd_2_98 (by decide +kernel : decode cX11_mind 34 = .ok (.getfield 57, 3))) ?_
  refine mm_fc (ss_iload_n hx hb (by decide +kernel : decode cX11_mind 37 = .ok (.iload_n 3, 1)) rfl) ?_
  refine mm_fc (ss_callV X rfl rfl wd_4_217 wd_1_10 wd_4_214 wd_4_215 wd_4_216 (by decide +kernel) (by decide +kernel) (by decide) (by decide +kernel : decode cX11_mind 38 = .ok (.invokevirtual 230, 3))) ?_
  refine mm_fc (ss_iload_n hx hb (by decide +kernel : decode cX11_mind 41 = .ok (.iload_n 1, 1)) rfl) ?_
  refine mm_fc (ss_iload_n hx hb (by decide +kernel : decode cX11_mind 42 = .ok (.iload_n 2, 1)) rfl) ?_
  refine mm_fc (ss_callV X rfl rfl wd_4_80 wd_1_8 wd_4_170 wd_4_78 wd_4_79 (by decide +kernel) (by decide +kernel) (by decide) (by decide +kernel : decode cX11_mind 43 = .ok (.invokevirtual 212, 3))) ?_
  refine mm_fc (ss_iret (by decide +kernel : decode cX11_mind 46 = .ok (.ireturn, 1)) rfl) ?_
  exact mm_fn
def cd_X11_curtain : mm_K mm_H := [(0, s_aload 0 1), (1, s_get 11 5 4), (4, s_iload 1 5), (5, s_callV 7 102 1 1 8), (8, s_if (fun x => x = 0) 30 11), (11, s_aload 0 12), (12, s_get 11 7 15), (15, s_aload 0 16), (16, s_get 11 10 19), (19, s_aload 0 20), (20, s_get 11 5 23), (23, s_iload 1 24), (24, s_callV 0 16 3 1 27), (27, s_goto 31), (30, s_pushI (-1) 31), (31, s_iret)]
set_option maxRecDepth 100000 in
set_option maxHeartbeats 4000000 in
theorem ok_X11_curtain (l : Launch) : mm_CodeOK l mm_I0 RX11 cX11_curtain 2 (some .int) cd_X11_curtain := by
  intro p e R s m args below meth c Q σ cA D A kc ks d C X
  have hx := X.1
  have hb := X.2.1
  have hown := X.2.2.2.1
  have hts := X.2.2.2.2.1
  refine mm_fc (ss_aload_n hx hb (by decide +kernel : decode cX11_curtain 0 = .ok (.aload_n 0, 1)) rfl) ?_
  refine mm_fc (ss_get X rfl in_X11 (by decide) rfl wd_2_98 (by decide +kernel : decode cX11_curtain 1 = .ok (.getfield 57, 3))) ?_
  refine mm_fc (ss_iload_n hx hb (by decide +kernel : decode cX11_curtain 4 = .ok (.iload_n 1, 1)) rfl) ?_
  refine mm_fc (ss_callV X rfl rfl wd_3_108 wd_1_8 wd_4_145 wd_3_106 wd_3_107 (by decide +kernel) (by decide +kernel) (by decide) (by decide +kernel : decode cX11_curtain 5 = .ok (.invokevirtual 179, 3))) ?_
  refine mm_fc (ss_ifeq hx hb (by decide +kernel : decode cX11_curtain 8 = .ok (.ifCond .eq 22, 3)) (by decide)) ?_
  refine mm_fc (ss_aload_n hx hb (by decide +kernel : decode cX11_curtain 11 = .ok (.aload_n 0, 1)) rfl) ?_
  refine mm_fc (ss_get X rfl in_X11 (by decide) rfl wd_2_100 (by decide +kernel : decode cX11_curtain 12 = .ok (.getfield 71, 3))) ?_
  refine mm_fc (ss_aload_n hx hb (by decide +kernel : decode cX11_curtain 15 = .ok (.aload_n 0, 1)) rfl) ?_
  refine mm_fc (ss_get X rfl in_X11 (by decide) rfl wd_2_103 (by decide +kernel : decode cX11_curtain 16 = .ok (.getfield 89, 3))) ?_
  refine mm_fc (ss_aload_n hx hb (by decide +kernel : decode cX11_curtain 19 = .ok (.aload_n 0, 1)) rfl) ?_
  refine mm_fc (ss_get X rfl in_X11 (by decide) rfl wd_2_98 (by decide +kernel : decode cX11_curtain 20 = .ok (.getfield 57, 3))) ?_
  refine mm_fc (ss_iload_n hx hb (by decide +kernel : decode cX11_curtain 23 = .ok (.iload_n 1, 1)) rfl) ?_
  refine mm_fc (ss_callV X rfl rfl wd_5_12 wd_1_10 wd_5_9 wd_5_10 wd_5_11 (by decide +kernel) (by decide +kernel) (by decide) (by decide +kernel : decode cX11_curtain 24 = .ok (.invokevirtual 234, 3))) ?_
  refine mm_fc (ss_goto hx hb (by decide +kernel : decode cX11_curtain 27 = .ok (.goto 4, 3)) (by decide)) ?_
  refine mm_fc (ss_iconst hx hb (by decide +kernel : decode cX11_curtain 30 = .ok (.iconst (-1), 1)) (by decide)) ?_
  refine mm_fc (ss_iret (by decide +kernel : decode cX11_curtain 31 = .ok (.ireturn, 1)) rfl) ?_
  exact mm_fn
def cd_X11_changed : mm_K mm_H := [(0, s_aload 0 1), (1, s_get 11 12 4), (4, s_if (fun x => x = 0) 27 7), (7, s_aload 0 8), (8, s_iload 1 9), (9, s_pushI 1 10), (10, s_pushI 20 12), (12, s_callV 11 184 3 1 15), (15, s_if (fun x => x = 0) 27 18), (18, s_iload 2 19), (19, s_if (fun x => x < 0) 27 22), (22, s_iload 2 23), (23, s_pushI 2 24), (24, s_icmp (fun x y => x ≤ y) 29 27), (27, s_pushI (-1) 28), (28, s_iret), (29, s_aload 0 30), (30, s_get 11 7 33), (33, s_aload 0 34), (34, s_get 11 10 37), (37, s_aload 0 38), (38, s_get 11 5 41), (41, s_iload 1 42), (42, s_callV 0 17 3 1 45), (45, s_if (fun x => ¬ x = 0) 50 48), (48, s_pushI (-1) 49), (49, s_iret), (50, s_iload 2 51), (51, s_pushI 2 52), (52, s_icmp (fun x y => ¬ x = y) 63 55), (55, s_aload 0 56), (56, s_get 11 7 59), (59, s_get 0 8 62), (62, s_iret), (63, s_iload 2 64), (64, s_if (fun x => ¬ x = 0) 77 67), (67, s_aload 0 68), (68, s_get 11 7 71), (71, s_get 0 6 74), (74, s_goto 84), (77, s_aload 0 78), (78, s_get 11 7 81), (81, s_get 0 7 84), (84, s_iret)]
set_option maxRecDepth 100000 in
set_option maxHeartbeats 4000000 in
theorem ok_X11_changed (l : Launch) : mm_CodeOK l mm_I0 RX11 cX11_changed 3 (some .int) cd_X11_changed := by
  intro p e R s m args below meth c Q σ cA D A kc ks d C X
  have hx := X.1
  have hb := X.2.1
  have hown := X.2.2.2.1
  have hts := X.2.2.2.2.1
  refine mm_fc (ss_aload_n hx hb (by decide +kernel : decode cX11_changed 0 = .ok (.aload_n 0, 1)) rfl) ?_
  refine mm_fc (ss_get X rfl in_X11 (by decide) rfl wd_2_105 (by decide +kernel : decode cX11_changed 1 = .ok (.getfield 96, 3))) ?_
  refine mm_fc (ss_ifeq hx hb (by decide +kernel : decode cX11_changed 4 = .ok (.ifCond .eq 23, 3)) (by decide)) ?_
  refine mm_fc (ss_aload_n hx hb (by decide +kernel : decode cX11_changed 7 = .ok (.aload_n 0, 1)) rfl) ?_
  refine mm_fc (ss_iload_n hx hb (by decide +kernel : decode cX11_changed 8 = .ok (.iload_n 1, 1)) rfl) ?_
  refine mm_fc (ss_iconst hx hb (by decide +kernel : decode cX11_changed 9 = .ok (.iconst 1, 1)) (by decide)) ?_
  refine mm_fc (ss_bipush hx hb (by decide +kernel : decode cX11_changed 10 = .ok (.bipush 20, 2)) (by decide)) ?_
  refine mm_fc (ss_callV X rfl rfl wd_4_213 wd_1_1 wd_4_210 wd_4_212 wd_p_31 (by decide +kernel) (by decide +kernel) (by decide) (by decide +kernel : decode cX11_changed 12 = .ok (.invokevirtual 226, 3))) ?_
  refine mm_fc (ss_ifeq hx hb (by decide +kernel : decode cX11_changed 15 = .ok (.ifCond .eq 12, 3)) (by decide)) ?_
  refine mm_fc (ss_iload_n hx hb (by decide +kernel : decode cX11_changed 18 = .ok (.iload_n 2, 1)) rfl) ?_
  refine mm_fc (ss_iflt hx hb (by decide +kernel : decode cX11_changed 19 = .ok (.ifCond .lt 8, 3)) (by decide)) ?_
  refine mm_fc (ss_iload_n hx hb (by decide +kernel : decode cX11_changed 22 = .ok (.iload_n 2, 1)) rfl) ?_
  refine mm_fc (ss_iconst hx hb (by decide +kernel : decode cX11_changed 23 = .ok (.iconst 2, 1)) (by decide)) ?_
  refine mm_fc (ss_icmple hx hb (by decide +kernel : decode cX11_changed 24 = .ok (.if_icmp .le 5, 3)) (by decide)) ?_
  refine mm_fc (ss_iconst hx hb (by decide +kernel : decode cX11_changed 27 = .ok (.iconst (-1), 1)) (by decide)) ?_
  refine mm_fc (ss_iret (by decide +kernel : decode cX11_changed 28 = .ok (.ireturn, 1)) rfl) ?_
  refine mm_fc (ss_aload_n hx hb (by decide +kernel : decode cX11_changed 29 = .ok (.aload_n 0, 1)) rfl) ?_
  refine mm_fc (ss_get X rfl in_X11 (by decide) rfl wd_2_100 (by decide +kernel : decode cX11_changed 30 = .ok (.getfield 71, 3))) ?_
  refine mm_fc (ss_aload_n hx hb (by decide +kernel : decode cX11_changed 33 = .ok (.aload_n 0, 1)) rfl) ?_
  refine mm_fc (ss_get X rfl in_X11 (by decide) rfl wd_2_103 (by decide +kernel : decode cX11_changed 34 = .ok (.getfield 89, 3))) ?_
  refine mm_fc (ss_aload_n hx hb (by decide +kernel : decode cX11_changed 37 = .ok (.aload_n 0, 1)) rfl) ?_
  refine mm_fc (ss_get X rfl in_X11 (by decide) rfl wd_2_98 (by decide +kernel : decode cX11_changed 38 = .ok (.getfield 57, 3))) ?_
  refine mm_fc (ss_iload_n hx hb (by decide +kernel : decode cX11_changed 41 = .ok (.iload_n 1, 1)) rfl) ?_
  refine mm_fc (ss_callV X rfl rfl wd_5_22 wd_1_10 wd_5_19 wd_5_20 wd_5_21 (by decide +kernel) (by decide +kernel) (by decide) (by decide +kernel : decode cX11_changed 42 = .ok (.invokevirtual 238, 3))) ?_
  refine mm_fc (ss_ifne hx hb (by decide +kernel : decode cX11_changed 45 = .ok (.ifCond .ne 5, 3)) (by decide)) ?_
  refine mm_fc (ss_iconst hx hb (by decide +kernel : decode cX11_changed 48 = .ok (.iconst (-1), 1)) (by decide)) ?_
  refine mm_fc (ss_iret (by decide +kernel : decode cX11_changed 49 = .ok (.ireturn, 1)) rfl) ?_
  refine mm_fc (ss_iload_n hx hb (by decide +kernel : decode cX11_changed 50 = .ok (.iload_n 2, 1)) rfl) ?_
  refine mm_fc (ss_iconst hx hb (by decide +kernel : decode cX11_changed 51 = .ok (.iconst 2, 1)) (by decide)) ?_
  refine mm_fc (ss_icmpne hx hb (by decide +kernel : decode cX11_changed 52 = .ok (.if_icmp .ne 11, 3)) (by decide)) ?_
  refine mm_fc (ss_aload_n hx hb (by decide +kernel : decode cX11_changed 55 = .ok (.aload_n 0, 1)) rfl) ?_
  refine mm_fc (ss_get X rfl in_X11 (by decide) rfl wd_2_100 (by decide +kernel : decode cX11_changed 56 = .ok (.getfield 71, 3))) ?_
  refine mm_fc (ss_getN X rfl in_X0 (by decide) rfl wd_2_6 (by decide +kernel : decode cX11_changed 59 = .ok (.getfield 242, 3))) ?_
  refine mm_fc (ss_iret (by decide +kernel : decode cX11_changed 62 = .ok (.ireturn, 1)) rfl) ?_
  refine mm_fc (ss_iload_n hx hb (by decide +kernel : decode cX11_changed 63 = .ok (.iload_n 2, 1)) rfl) ?_
  refine mm_fc (ss_ifne hx hb (by decide +kernel : decode cX11_changed 64 = .ok (.ifCond .ne 13, 3)) (by decide)) ?_
  refine mm_fc (ss_aload_n hx hb (by decide +kernel : decode cX11_changed 67 = .ok (.aload_n 0, 1)) rfl) ?_
  refine mm_fc (ss_get X rfl in_X11 (by decide) rfl wd_2_100 (by decide +kernel : decode cX11_changed 68 = .ok (.getfield 71, 3))) ?_
  refine mm_fc (ss_getN X rfl in_X0 (by decide) rfl wd_2_2 (by decide +kernel : decode cX11_changed 71 = .ok (.getfield 245, 3))) ?_
  refine mm_fc (ss_goto hx hb (by decide +kernel : decode cX11_changed 74 = .ok (.goto 10, 3)) (by decide)) ?_
  refine mm_fc (ss_aload_n hx hb (by decide +kernel : decode cX11_changed 77 = .ok (.aload_n 0, 1)) rfl) ?_
  refine mm_fc (ss_get X rfl in_X11 (by decide) rfl wd_2_100 (by decide +kernel : decode cX11_changed 78 = .ok (.getfield 71, 3))) ?_
  refine mm_fc (ss_getN X rfl in_X0 (by decide) rfl wd_2_4 (by decide +kernel : decode cX11_changed 81 = .ok (.getfield 248, 3))) ?_
  refine mm_fc (ss_iret (by decide +kernel : decode cX11_changed 84 = .ok (.ireturn, 1)) rfl) ?_
  exact mm_fn
def cd_X11_stranger : mm_K mm_H := [(0, s_aload 0 1), (1, s_get 11 12 4), (4, s_if (fun x => x = 0) 29 7), (7, s_aload 0 8), (8, s_iload 3 9), (9, s_pushI 1 10), (10, s_pushI 20 12), (12, s_callV 11 184 3 1 15), (15, s_if (fun x => x = 0) 29 18), (18, s_iload 4 20), (20, s_if (fun x => x < 0) 29 23), (23, s_iload 4 25), (25, s_pushI 1 26), (26, s_icmp (fun x y => x ≤ y) 31 29), (29, s_pushI (-1) 30), (30, s_iret), (31, s_iload 1 32), (32, s_if (fun x => x < 0) 51 35), (35, s_iload 1 36), (36, s_pushI 9 38), (38, s_icmp (fun x y => y < x) 51 41), (41, s_iload 2 42), (42, s_if (fun x => x < 0) 51 45), (45, s_iload 2 46), (46, s_pushI 9 48), (48, s_icmp (fun x y => x ≤ y) 53 51), (51, s_pushI (-1) 52), (52, s_iret), (53, s_aload 0 54), (54, s_get 11 7 57), (57, s_aload 0 58), (58, s_get 11 10 61), (61, s_aload 0 62), (62, s_get 11 5 65), (65, s_iload 1 66), (66, s_iload 2 67), (67, s_iload 3 68), (68, s_callV 0 18 5 1 71), (71, s_if (fun x => ¬ x = 0) 76 74), (74, s_pushI (-1) 75), (75, s_iret), (76, s_iload 4 78), (78, s_if (fun x => ¬ x = 0) 91 81), (81, s_aload 0 82), (82, s_get 11 7 85), (85, s_get 0 6 88), (88, s_goto 98), (91, s_aload 0 92), (92, s_get 11 7 95), (95, s_get 0 8 98), (98, s_iret)]
set_option maxRecDepth 100000 in
set_option maxHeartbeats 4000000 in
theorem ok_X11_stranger (l : Launch) : mm_CodeOK l mm_I0 RX11 cX11_stranger 5 (some .int) cd_X11_stranger := by
  intro p e R s m args below meth c Q σ cA D A kc ks d C X
  have hx := X.1
  have hb := X.2.1
  have hown := X.2.2.2.1
  have hts := X.2.2.2.2.1
  refine mm_fc (ss_aload_n hx hb (by decide +kernel : decode cX11_stranger 0 = .ok (.aload_n 0, 1)) rfl) ?_
  refine mm_fc (ss_get X rfl in_X11 (by decide) rfl wd_2_105 (by decide +kernel : decode cX11_stranger 1 = .ok (.getfield 96, 3))) ?_
  refine mm_fc (ss_ifeq hx hb (by decide +kernel : decode cX11_stranger 4 = .ok (.ifCond .eq 25, 3)) (by decide)) ?_
  refine mm_fc (ss_aload_n hx hb (by decide +kernel : decode cX11_stranger 7 = .ok (.aload_n 0, 1)) rfl) ?_
  refine mm_fc (ss_iload_n hx hb (by decide +kernel : decode cX11_stranger 8 = .ok (.iload_n 3, 1)) rfl) ?_
  refine mm_fc (ss_iconst hx hb (by decide +kernel : decode cX11_stranger 9 = .ok (.iconst 1, 1)) (by decide)) ?_
  refine mm_fc (ss_bipush hx hb (by decide +kernel : decode cX11_stranger 10 = .ok (.bipush 20, 2)) (by decide)) ?_
  refine mm_fc (ss_callV X rfl rfl wd_4_213 wd_1_1 wd_4_210 wd_4_212 wd_p_31 (by decide +kernel) (by decide +kernel) (by decide) (by decide +kernel : decode cX11_stranger 12 = .ok (.invokevirtual 226, 3))) ?_
  refine mm_fc (ss_ifeq hx hb (by decide +kernel : decode cX11_stranger 15 = .ok (.ifCond .eq 14, 3)) (by decide)) ?_
  refine mm_fc (ss_iload hx hb (by decide +kernel : decode cX11_stranger 18 = .ok (.iload 4, 2))) ?_
  refine mm_fc (ss_iflt hx hb (by decide +kernel : decode cX11_stranger 20 = .ok (.ifCond .lt 9, 3)) (by decide)) ?_
  refine mm_fc (ss_iload hx hb (by decide +kernel : decode cX11_stranger 23 = .ok (.iload 4, 2))) ?_
  refine mm_fc (ss_iconst hx hb (by decide +kernel : decode cX11_stranger 25 = .ok (.iconst 1, 1)) (by decide)) ?_
  refine mm_fc (ss_icmple hx hb (by decide +kernel : decode cX11_stranger 26 = .ok (.if_icmp .le 5, 3)) (by decide)) ?_
  refine mm_fc (ss_iconst hx hb (by decide +kernel : decode cX11_stranger 29 = .ok (.iconst (-1), 1)) (by decide)) ?_
  refine mm_fc (ss_iret (by decide +kernel : decode cX11_stranger 30 = .ok (.ireturn, 1)) rfl) ?_
  refine mm_fc (ss_iload_n hx hb (by decide +kernel : decode cX11_stranger 31 = .ok (.iload_n 1, 1)) rfl) ?_
  refine mm_fc (ss_iflt hx hb (by decide +kernel : decode cX11_stranger 32 = .ok (.ifCond .lt 19, 3)) (by decide)) ?_
  refine mm_fc (ss_iload_n hx hb (by decide +kernel : decode cX11_stranger 35 = .ok (.iload_n 1, 1)) rfl) ?_
  refine mm_fc (ss_bipush hx hb (by decide +kernel : decode cX11_stranger 36 = .ok (.bipush 9, 2)) (by decide)) ?_
  refine mm_fc (ss_icmpgt hx hb (by decide +kernel : decode cX11_stranger 38 = .ok (.if_icmp .gt 13, 3)) (by decide)) ?_
  refine mm_fc (ss_iload_n hx hb (by decide +kernel : decode cX11_stranger 41 = .ok (.iload_n 2, 1)) rfl) ?_
  refine mm_fc (ss_iflt hx hb (by decide +kernel : decode cX11_stranger 42 = .ok (.ifCond .lt 9, 3)) (by decide)) ?_
  refine mm_fc (ss_iload_n hx hb (by decide +kernel : decode cX11_stranger 45 = .ok (.iload_n 2, 1)) rfl) ?_
  refine mm_fc (ss_bipush hx hb (by decide +kernel : decode cX11_stranger 46 = .ok (.bipush 9, 2)) (by decide)) ?_
  refine mm_fc (ss_icmple hx hb (by decide +kernel : decode cX11_stranger 48 = .ok (.if_icmp .le 5, 3)) (by decide)) ?_
  refine mm_fc (ss_iconst hx hb (by decide +kernel : decode cX11_stranger 51 = .ok (.iconst (-1), 1)) (by decide)) ?_
  refine mm_fc (ss_iret (by decide +kernel : decode cX11_stranger 52 = .ok (.ireturn, 1)) rfl) ?_
  refine mm_fc (ss_aload_n hx hb (by decide +kernel : decode cX11_stranger 53 = .ok (.aload_n 0, 1)) rfl) ?_
  refine mm_fc (ss_get X rfl in_X11 (by decide) rfl wd_2_100 (by decide +kernel : decode cX11_stranger 54 = .ok (.getfield 71, 3))) ?_
  refine mm_fc (ss_aload_n hx hb (by decide +kernel : decode cX11_stranger 57 = .ok (.aload_n 0, 1)) rfl) ?_
  refine mm_fc (ss_get X rfl in_X11 (by decide) rfl wd_2_103 (by decide +kernel : decode cX11_stranger 58 = .ok (.getfield 89, 3))) ?_
  refine mm_fc (ss_aload_n hx hb (by decide +kernel : decode cX11_stranger 61 = .ok (.aload_n 0, 1)) rfl) ?_
  refine mm_fc (ss_get X rfl in_X11 (by decide) rfl wd_2_98 (by decide +kernel : decode cX11_stranger 62 = .ok (.getfield 57, 3))) ?_
  refine mm_fc (ss_iload_n hx hb (by decide +kernel : decode cX11_stranger 65 = .ok (.iload_n 1, 1)) rfl) ?_
  refine mm_fc (ss_iload_n hx hb (by decide +kernel : decode cX11_stranger 66 = .ok (.iload_n 2, 1)) rfl) ?_
  refine mm_fc (ss_iload_n hx hb (by decide +kernel : decode cX11_stranger 67 = .ok (.iload_n 3, 1)) rfl) ?_
  refine mm_fc (ss_callV X rfl rfl wd_5_36 wd_1_10 wd_5_33 wd_5_34 wd_5_35 (by decide +kernel) (by decide +kernel) (by decide) (by decide +kernel : decode cX11_stranger 68 = .ok (.invokevirtual 251, 3))) ?_
  refine mm_fc (ss_ifne hx hb (by decide +kernel : decode cX11_stranger 71 = .ok (.ifCond .ne 5, 3)) (by decide)) ?_
  refine mm_fc (ss_iconst hx hb (by decide +kernel : decode cX11_stranger 74 = .ok (.iconst (-1), 1)) (by decide)) ?_
  refine mm_fc (ss_iret (by decide +kernel : decode cX11_stranger 75 = .ok (.ireturn, 1)) rfl) ?_
  refine mm_fc (ss_iload hx hb (by decide +kernel : decode cX11_stranger 76 = .ok (.iload 4, 2))) ?_
  refine mm_fc (ss_ifne hx hb (by decide +kernel : decode cX11_stranger 78 = .ok (.ifCond .ne 13, 3)) (by decide)) ?_
  refine mm_fc (ss_aload_n hx hb (by decide +kernel : decode cX11_stranger 81 = .ok (.aload_n 0, 1)) rfl) ?_
  refine mm_fc (ss_get X rfl in_X11 (by decide) rfl wd_2_100 (by decide +kernel : decode cX11_stranger 82 = .ok (.getfield 71, 3))) ?_
  refine mm_fc (ss_getN X rfl in_X0 (by decide) rfl wd_2_2 (by decide +kernel : decode cX11_stranger 85 = .ok (.getfield 245, 3))) ?_
  refine mm_fc (ss_goto hx hb (by decide +kernel : decode cX11_stranger 88 = .ok (.goto 10, 3)) (by decide)) ?_
  refine mm_fc (ss_aload_n hx hb (by decide +kernel : decode cX11_stranger 91 = .ok (.aload_n 0, 1)) rfl) ?_
  refine mm_fc (ss_get X rfl in_X11 (by decide) rfl wd_2_100 (by decide +kernel : decode cX11_stranger 92 = .ok (.getfield 71, 3))) ?_
  refine mm_fc (ss_getN X rfl in_X0 (by decide) rfl wd_2_6 (by decide +kernel : decode cX11_stranger 95 = .ok (.getfield 242, 3))) ?_
  refine mm_fc (ss_iret (by decide +kernel : decode cX11_stranger 98 = .ok (.ireturn, 1)) rfl) ?_
  exact mm_fn
def cd_X11_parted : mm_K mm_H := [(0, s_aload 0 1), (1, s_get 11 7 4), (4, s_aload 0 5), (5, s_get 11 10 8), (8, s_aload 0 9), (9, s_get 11 5 12), (12, s_callV 0 19 2 1 15), (15, s_iret)]
set_option maxRecDepth 100000 in
set_option maxHeartbeats 4000000 in
theorem ok_X11_parted (l : Launch) : mm_CodeOK l mm_I0 RX11 cX11_parted 1 (some .int) cd_X11_parted := by
  intro p e R s m args below meth c Q σ cA D A kc ks d C X
  have hx := X.1
  have hb := X.2.1
  have hown := X.2.2.2.1
  have hts := X.2.2.2.2.1
  refine mm_fc (ss_aload_n hx hb (by decide +kernel : decode cX11_parted 0 = .ok (.aload_n 0, 1)) rfl) ?_
  refine mm_fc (ss_get X rfl in_X11 (by decide) rfl wd_2_100 (by decide +kernel : decode cX11_parted 1 = .ok (.getfield 71, 3))) ?_
  refine mm_fc (ss_aload_n hx hb (by decide +kernel : decode cX11_parted 4 = .ok (.aload_n 0, 1)) rfl) ?_
  refine mm_fc (ss_get X rfl in_X11 (by decide) rfl wd_2_103 (by decide +kernel : decode cX11_parted 5 = .ok (.getfield 89, 3))) ?_
  refine mm_fc (ss_aload_n hx hb (by decide +kernel : decode cX11_parted 8 = .ok (.aload_n 0, 1)) rfl) ?_
  refine mm_fc (ss_get X rfl in_X11 (by decide) rfl wd_2_98 (by decide +kernel : decode cX11_parted 9 = .ok (.getfield 57, 3))) ?_
  refine mm_fc (ss_callV X rfl rfl wd_5_46 wd_1_10 wd_5_43 wd_5_44 wd_5_45 (by decide +kernel) (by decide +kernel) (by decide) (by decide +kernel : decode cX11_parted 12 = .ok (.invokevirtual 255, 3))) ?_
  refine mm_fc (ss_iret (by decide +kernel : decode cX11_parted 15 = .ok (.ireturn, 1)) rfl) ?_
  exact mm_fn
def cd_X11_rest : mm_K mm_H := [(0, s_aload 0 1), (1, s_get 11 12 4), (4, s_if (fun x => x = 0) 18 7), (7, s_aload 0 8), (8, s_iload 1 9), (9, s_pushI 1 10), (10, s_pushI 20 12), (12, s_callV 11 184 3 1 15), (15, s_if (fun x => ¬ x = 0) 20 18), (18, s_pushI (-1) 19), (19, s_iret), (20, s_aload 0 21), (21, s_get 11 7 24), (24, s_callV 0 21 0 0 27), (27, s_pushI 1 28), (28, s_aload 0 29), (29, s_get 11 5 32), (32, s_get 7 10 35), (35, s_bin (fun x y => x <<< (y &&& 31)) 36), (36, s_istore 2 37), (37, s_pushI 0 38), (38, s_kill 39 [4] (s_istore 3 39)), (39, s_iload 3 40), (40, s_aload 0 41), (41, s_get 11 5 44), (44, s_get 7 10 47), (47, s_icmp (fun x y => y < x) 104 50), (50, s_pushI 0 51), (51, s_istore 4 53), (53, s_iload 4 55), (55, s_iload 2 56), (56, s_icmp (fun x y => y ≤ x) 98 59), (59, s_iload 4 61), (61, s_callS 6 1 1 64), (64, s_iload 3 65), (65, s_icmp (fun x y => ¬ x = y) 92 68), (68, s_aload 0 69), (69, s_get 11 7 72), (72, s_aload 0 73), (73, s_get 11 10 76), (76, s_aload 0 77), (77, s_get 11 5 80), (80, s_iload 1 81), (81, s_iload 4 83), (83, s_callV 0 22 4 1 86), (86, s_if (fun x => x = 0) 92 89), (89, s_iload 4 91), (91, s_iret), (92, s_iinc 4 1 95), (95, s_goto 53), (98, s_iinc 3 1 101), (101, s_kill 39 [4] (s_goto 39)), (104, s_pushI (-1) 105), (105, s_iret)]
set_option maxRecDepth 100000 in
set_option maxHeartbeats 4000000 in
theorem ok_X11_rest (l : Launch) : mm_CodeOK l mm_I0 RX11 cX11_rest 5 (some .int) cd_X11_rest := by
  intro p e R s m args below meth c Q σ cA D A kc ks d C X
  have hx := X.1
  have hb := X.2.1
  have hown := X.2.2.2.1
  have hts := X.2.2.2.2.1
  refine mm_fc (ss_aload_n hx hb (by decide +kernel : decode cX11_rest 0 = .ok (.aload_n 0, 1)) rfl) ?_
  refine mm_fc (ss_get X rfl in_X11 (by decide) rfl wd_2_105 (by decide +kernel : decode cX11_rest 1 = .ok (.getfield 96, 3))) ?_
  refine mm_fc (ss_ifeq hx hb (by decide +kernel : decode cX11_rest 4 = .ok (.ifCond .eq 14, 3)) (by decide)) ?_
  refine mm_fc (ss_aload_n hx hb (by decide +kernel : decode cX11_rest 7 = .ok (.aload_n 0, 1)) rfl) ?_
  refine mm_fc (ss_iload_n hx hb (by decide +kernel : decode cX11_rest 8 = .ok (.iload_n 1, 1)) rfl) ?_
  refine mm_fc (ss_iconst hx hb (by decide +kernel : decode cX11_rest 9 = .ok (.iconst 1, 1)) (by decide)) ?_
  refine mm_fc (ss_bipush hx hb (by decide +kernel : decode cX11_rest 10 = .ok (.bipush 20, 2)) (by decide)) ?_
  refine mm_fc (ss_callV X rfl rfl wd_4_213 wd_1_1 wd_4_210 wd_4_212 wd_p_31 (by decide +kernel) (by decide +kernel) (by decide) (by decide +kernel : decode cX11_rest 12 = .ok (.invokevirtual 226, 3))) ?_
  refine mm_fc (ss_ifne hx hb (by decide +kernel : decode cX11_rest 15 = .ok (.ifCond .ne 5, 3)) (by decide)) ?_
  refine mm_fc (ss_iconst hx hb (by decide +kernel : decode cX11_rest 18 = .ok (.iconst (-1), 1)) (by decide)) ?_
  refine mm_fc (ss_iret (by decide +kernel : decode cX11_rest 19 = .ok (.ireturn, 1)) rfl) ?_
  refine mm_fc (ss_aload_n hx hb (by decide +kernel : decode cX11_rest 20 = .ok (.aload_n 0, 1)) rfl) ?_
  refine mm_fc (ss_get X rfl in_X11 (by decide) rfl wd_2_100 (by decide +kernel : decode cX11_rest 21 = .ok (.getfield 71, 3))) ?_
  refine mm_fc (ss_callV X rfl rfl wd_5_59 wd_1_10 wd_5_56 wd_5_57 wd_5_58 (by decide +kernel) (by decide +kernel) (by decide) (by decide +kernel : decode cX11_rest 24 = .ok (.invokevirtual 259, 3))) ?_
  refine mm_fc (ss_iconst hx hb (by decide +kernel : decode cX11_rest 27 = .ok (.iconst 1, 1)) (by decide)) ?_
  refine mm_fc (ss_aload_n hx hb (by decide +kernel : decode cX11_rest 28 = .ok (.aload_n 0, 1)) rfl) ?_
  refine mm_fc (ss_get X rfl in_X11 (by decide) rfl wd_2_98 (by decide +kernel : decode cX11_rest 29 = .ok (.getfield 57, 3))) ?_
  refine mm_fc (ss_getN X rfl in_X7 (by decide) rfl wd_1_175 (by decide +kernel : decode cX11_rest 32 = .ok (.getfield 148, 3))) ?_
  refine mm_fc (ss_ishl hx hb (by decide +kernel : decode cX11_rest 35 = .ok (.ishl, 1))) ?_
  refine mm_fc (ss_istore_n hx hb (by decide +kernel : decode cX11_rest 36 = .ok (.istore_n 2, 1)) rfl (by decide)) ?_
  refine mm_fc (ss_iconst hx hb (by decide +kernel : decode cX11_rest 37 = .ok (.iconst 0, 1)) (by decide)) ?_
  refine mm_fc (ss_kill (ss_istore_n hx hb (by decide +kernel : decode cX11_rest 38 = .ok (.istore_n 3, 1)) rfl (by decide))) ?_
  refine mm_fc (ss_iload_n hx hb (by decide +kernel : decode cX11_rest 39 = .ok (.iload_n 3, 1)) rfl) ?_
  refine mm_fc (ss_aload_n hx hb (by decide +kernel : decode cX11_rest 40 = .ok (.aload_n 0, 1)) rfl) ?_
  refine mm_fc (ss_get X rfl in_X11 (by decide) rfl wd_2_98 (by decide +kernel : decode cX11_rest 41 = .ok (.getfield 57, 3))) ?_
  refine mm_fc (ss_getN X rfl in_X7 (by decide) rfl wd_1_175 (by decide +kernel : decode cX11_rest 44 = .ok (.getfield 148, 3))) ?_
  refine mm_fc (ss_icmpgt hx hb (by decide +kernel : decode cX11_rest 47 = .ok (.if_icmp .gt 57, 3)) (by decide)) ?_
  refine mm_fc (ss_iconst hx hb (by decide +kernel : decode cX11_rest 50 = .ok (.iconst 0, 1)) (by decide)) ?_
  refine mm_fc (ss_istore hx hb (by decide +kernel : decode cX11_rest 51 = .ok (.istore 4, 2)) (by decide)) ?_
  refine mm_fc (ss_iload hx hb (by decide +kernel : decode cX11_rest 53 = .ok (.iload 4, 2))) ?_
  refine mm_fc (ss_iload_n hx hb (by decide +kernel : decode cX11_rest 55 = .ok (.iload_n 2, 1)) rfl) ?_
  refine mm_fc (ss_icmpge hx hb (by decide +kernel : decode cX11_rest 56 = .ok (.if_icmp .ge 42, 3)) (by decide)) ?_
  refine mm_fc (ss_iload hx hb (by decide +kernel : decode cX11_rest 59 = .ok (.iload 4, 2))) ?_
  refine mm_fc (ss_callS X rfl wd_4_120 wd_1_20 wd_4_118 wd_4_119 (by decide +kernel) (by decide +kernel) (by decide) (by decide +kernel : decode cX11_rest 61 = .ok (.invokestatic 164, 3))) ?_
  refine mm_fc (ss_iload_n hx hb (by decide +kernel : decode cX11_rest 64 = .ok (.iload_n 3, 1)) rfl) ?_
  refine mm_fc (ss_icmpne hx hb (by decide +kernel : decode cX11_rest 65 = .ok (.if_icmp .ne 27, 3)) (by decide)) ?_
  refine mm_fc (ss_aload_n hx hb (by decide +kernel : decode cX11_rest 68 = .ok (.aload_n 0, 1)) rfl) ?_
  refine mm_fc (ss_get X rfl in_X11 (by decide) rfl wd_2_100 (by decide +kernel : decode cX11_rest 69 = .ok (.getfield 71, 3))) ?_
  refine mm_fc (ss_aload_n hx hb (by decide +kernel : decode cX11_rest 72 = .ok (.aload_n 0, 1)) rfl) ?_
  refine mm_fc (ss_get X rfl in_X11 (by decide) rfl wd_2_103 (by decide +kernel : decode cX11_rest 73 = .ok (.getfield 89, 3))) ?_
  refine mm_fc (ss_aload_n hx hb (by decide +kernel : decode cX11_rest 76 = .ok (.aload_n 0, 1)) rfl) ?_
  refine mm_fc (ss_get X rfl in_X11 (by decide) rfl wd_2_98 (by decide +kernel : decode cX11_rest 77 = .ok (.getfield 57, 3))) ?_
  refine mm_fc (ss_iload_n hx hb (by decide +kernel : decode cX11_rest 80 = .ok (.iload_n 1, 1)) rfl) ?_
  refine mm_fc (ss_iload hx hb (by decide +kernel : decode cX11_rest 81 = .ok (.iload 4, 2))) ?_
  refine mm_fc (ss_callV X rfl rfl wd_5_63 wd_1_10 wd_5_60 wd_5_61 wd_5_62 (by decide +kernel) (by decide +kernel) (by decide) (by decide +kernel : decode cX11_rest 83 = .ok (.invokevirtual 262, 3))) ?_
  refine mm_fc (ss_ifeq hx hb (by decide +kernel : decode cX11_rest 86 = .ok (.ifCond .eq 6, 3)) (by decide)) ?_
  refine mm_fc (ss_iload hx hb (by decide +kernel : decode cX11_rest 89 = .ok (.iload 4, 2))) ?_
  refine mm_fc (ss_iret (by decide +kernel : decode cX11_rest 91 = .ok (.ireturn, 1)) rfl) ?_
  refine mm_fc (ss_iinc hx hb (by decide +kernel : decode cX11_rest 92 = .ok (.iinc 4 1, 3)) (by decide) (by decide)) ?_
  refine mm_fc (ss_goto hx hb (by decide +kernel : decode cX11_rest 95 = .ok (.goto (-42), 3)) (by decide)) ?_
  refine mm_fc (ss_iinc hx hb (by decide +kernel : decode cX11_rest 98 = .ok (.iinc 3 1, 3)) (by decide) (by decide)) ?_
  refine mm_fc (ss_kill (ss_goto hx hb (by decide +kernel : decode cX11_rest 101 = .ok (.goto (-62), 3)) (by decide))) ?_
  refine mm_fc (ss_iconst hx hb (by decide +kernel : decode cX11_rest 104 = .ok (.iconst (-1), 1)) (by decide)) ?_
  refine mm_fc (ss_iret (by decide +kernel : decode cX11_rest 105 = .ok (.ireturn, 1)) rfl) ?_
  exact mm_fn
def cd_X11_see : mm_K mm_H := [(0, s_aload 0 1), (1, s_get 11 7 4), (4, s_aload 0 5), (5, s_get 11 0 8), (8, s_aload 0 9), (9, s_get 11 5 12), (12, s_callV 0 24 2 1 15), (15, s_istore 1 16), (16, s_aload 0 17), (17, s_get 11 0 20), (20, s_pushI 0 21), (21, s_callV 8 128 1 0 24), (24, s_iload 1 25), (25, s_if (fun x => x = 0) 38 28), (28, s_aload 0 29), (29, s_get 11 7 32), (32, s_callV 0 13 0 1 35), (35, s_goto 43), (38, s_aload 0 39), (39, s_pushI 1 40), (40, s_callV 11 183 1 1 43), (43, s_iret)]
set_option maxRecDepth 100000 in
set_option maxHeartbeats 4000000 in
theorem ok_X11_see (l : Launch) : mm_CodeOK l mm_I0 RX11 cX11_see 2 (some .int) cd_X11_see := by
  intro p e R s m args below meth c Q σ cA D A kc ks d C X
  have hx := X.1
  have hb := X.2.1
  have hown := X.2.2.2.1
  have hts := X.2.2.2.2.1
  refine mm_fc (ss_aload_n hx hb (by decide +kernel : decode cX11_see 0 = .ok (.aload_n 0, 1)) rfl) ?_
  refine mm_fc (ss_get X rfl in_X11 (by decide) rfl wd_2_100 (by decide +kernel : decode cX11_see 1 = .ok (.getfield 71, 3))) ?_
  refine mm_fc (ss_aload_n hx hb (by decide +kernel : decode cX11_see 4 = .ok (.aload_n 0, 1)) rfl) ?_
  refine mm_fc (ss_get X rfl in_X11 (by decide) rfl wd_2_93 (by decide +kernel : decode cX11_see 5 = .ok (.getfield 10, 3))) ?_
  refine mm_fc (ss_aload_n hx hb (by decide +kernel : decode cX11_see 8 = .ok (.aload_n 0, 1)) rfl) ?_
  refine mm_fc (ss_get X rfl in_X11 (by decide) rfl wd_2_98 (by decide +kernel : decode cX11_see 9 = .ok (.getfield 57, 3))) ?_
  refine mm_fc (ss_callV X rfl rfl wd_5_80 wd_1_10 wd_5_77 wd_5_78 wd_5_79 (by decide +kernel) (by decide +kernel) (by decide) (by decide +kernel : decode cX11_see 12 = .ok (.invokevirtual 266, 3))) ?_
  refine mm_fc (ss_istore_n hx hb (by decide +kernel : decode cX11_see 15 = .ok (.istore_n 1, 1)) rfl (by decide)) ?_
  refine mm_fc (ss_aload_n hx hb (by decide +kernel : decode cX11_see 16 = .ok (.aload_n 0, 1)) rfl) ?_
  refine mm_fc (ss_get X rfl in_X11 (by decide) rfl wd_2_93 (by decide +kernel : decode cX11_see 17 = .ok (.getfield 10, 3))) ?_
  refine mm_fc (ss_iconst hx hb (by decide +kernel : decode cX11_see 20 = .ok (.iconst 0, 1)) (by decide)) ?_
  refine mm_fc (ss_callV X rfl rfl wd_2_159 wd_1_2 wd_2_156 wd_2_157 wd_2_158 (by decide +kernel) (by decide +kernel) (by decide) (by decide +kernel : decode cX11_see 21 = .ok (.invokevirtual 116, 3))) ?_
  refine mm_fc (ss_iload_n hx hb (by decide +kernel : decode cX11_see 24 = .ok (.iload_n 1, 1)) rfl) ?_
  refine mm_fc (ss_ifeq hx hb (by decide +kernel : decode cX11_see 25 = .ok (.ifCond .eq 13, 3)) (by decide)) ?_
  refine mm_fc (ss_aload_n hx hb (by decide +kernel : decode cX11_see 28 = .ok (.aload_n 0, 1)) rfl) ?_
  refine mm_fc (ss_get X rfl in_X11 (by decide) rfl wd_2_100 (by decide +kernel : decode cX11_see 29 = .ok (.getfield 71, 3))) ?_
  refine mm_fc (ss_callV X rfl rfl wd_4_136 wd_1_10 wd_4_133 wd_4_134 wd_4_135 (by decide +kernel) (by decide +kernel) (by decide) (by decide +kernel : decode cX11_see 32 = .ok (.invokevirtual 175, 3))) ?_
  refine mm_fc (ss_goto hx hb (by decide +kernel : decode cX11_see 35 = .ok (.goto 8, 3)) (by decide)) ?_
  refine mm_fc (ss_aload_n hx hb (by decide +kernel : decode cX11_see 38 = .ok (.aload_n 0, 1)) rfl) ?_
  refine mm_fc (ss_iconst hx hb (by decide +kernel : decode cX11_see 39 = .ok (.iconst 1, 1)) (by decide)) ?_
  refine mm_fc (ss_callV X rfl rfl wd_2_147 wd_1_1 wd_2_144 wd_2_146 wd_p_0 (by decide +kernel) (by decide +kernel) (by decide) (by decide +kernel : decode cX11_see 40 = .ok (.invokevirtual 108, 3))) ?_
  refine mm_fc (ss_iret (by decide +kernel : decode cX11_see 43 = .ok (.ireturn, 1)) rfl) ?_
  exact mm_fn
def cd_X11_thoughts : mm_K mm_H := [(0, s_aload 0 1), (1, s_get 11 5 4), (4, s_iload 1 5), (5, s_iload 2 6), (6, s_callV 7 103 2 1 9), (9, s_if (fun x => x = 0) 32 12), (12, s_aload 0 13), (13, s_get 11 7 16), (16, s_aload 0 17), (17, s_get 11 10 20), (20, s_aload 0 21), (21, s_get 11 5 24), (24, s_iload 1 25), (25, s_iload 2 26), (26, s_callV 0 25 4 1 29), (29, s_goto 33), (32, s_pushI (-1) 33), (33, s_iret)]
set_option maxRecDepth 100000 in
set_option maxHeartbeats 4000000 in
theorem ok_X11_thoughts (l : Launch) : mm_CodeOK l mm_I0 RX11 cX11_thoughts 3 (some .int) cd_X11_thoughts := by
  intro p e R s m args below meth c Q σ cA D A kc ks d C X
  have hx := X.1
  have hb := X.2.1
  have hown := X.2.2.2.1
  have hts := X.2.2.2.2.1
  refine mm_fc (ss_aload_n hx hb (by decide +kernel : decode cX11_thoughts 0 = .ok (.aload_n 0, 1)) rfl) ?_
  refine mm_fc (ss_get X rfl in_X11 (by decide) rfl wd_2_98 (by decide +kernel : decode cX11_thoughts 1 = .ok (.getfield 57, 3))) ?_
  refine mm_fc (ss_iload_n hx hb (by decide +kernel : decode cX11_thoughts 4 = .ok (.iload_n 1, 1)) rfl) ?_
  refine mm_fc (ss_iload_n hx hb (by decide +kernel : decode cX11_thoughts 5 = .ok (.iload_n 2, 1)) rfl) ?_
  refine mm_fc (ss_callV X rfl rfl wd_3_141 wd_1_8 wd_4_169 wd_3_139 wd_3_140 (by decide +kernel) (by decide +kernel) (by decide) (by decide +kernel : decode cX11_thoughts 6 = .ok (.invokevirtual 208, 3))) ?_
  refine mm_fc (ss_ifeq hx hb (by decide +kernel : decode cX11_thoughts 9 = .ok (.ifCond .eq 23, 3)) (by decide)) ?_
  refine mm_fc (ss_aload_n hx hb (by decide +kernel : decode cX11_thoughts 12 = .ok (.aload_n 0, 1)) rfl) ?_
  refine mm_fc (ss_get X rfl in_X11 (by decide) rfl wd_2_100 (by decide +kernel : decode cX11_thoughts 13 = .ok (.getfield 71, 3))) ?_
  refine mm_fc (ss_aload_n hx hb (by decide +kernel : decode cX11_thoughts 16 = .ok (.aload_n 0, 1)) rfl) ?_
  refine mm_fc (ss_get X rfl in_X11 (by decide) rfl wd_2_103 (by decide +kernel : decode cX11_thoughts 17 = .ok (.getfield 89, 3))) ?_
  refine mm_fc (ss_aload_n hx hb (by decide +kernel : decode cX11_thoughts 20 = .ok (.aload_n 0, 1)) rfl) ?_
  refine mm_fc (ss_get X rfl in_X11 (by decide) rfl wd_2_98 (by decide +kernel : decode cX11_thoughts 21 = .ok (.getfield 57, 3))) ?_
  refine mm_fc (ss_iload_n hx hb (by decide +kernel : decode cX11_thoughts 24 = .ok (.iload_n 1, 1)) rfl) ?_
  refine mm_fc (ss_iload_n hx hb (by decide +kernel : decode cX11_thoughts 25 = .ok (.iload_n 2, 1)) rfl) ?_
  refine mm_fc (ss_callV X rfl rfl wd_5_90 wd_1_10 wd_5_87 wd_5_88 wd_5_89 (by decide +kernel) (by decide +kernel) (by decide) (by decide +kernel : decode cX11_thoughts 26 = .ok (.invokevirtual 270, 3))) ?_
  refine mm_fc (ss_goto hx hb (by decide +kernel : decode cX11_thoughts 29 = .ok (.goto 4, 3)) (by decide)) ?_
  refine mm_fc (ss_iconst hx hb (by decide +kernel : decode cX11_thoughts 32 = .ok (.iconst (-1), 1)) (by decide)) ?_
  refine mm_fc (ss_iret (by decide +kernel : decode cX11_thoughts 33 = .ok (.ireturn, 1)) rfl) ?_
  exact mm_fn
def cd_X11_faces : mm_K mm_H := [(0, s_aload 0 1), (1, s_get 11 5 4), (4, s_iload 1 5), (5, s_callV 7 102 1 1 8), (8, s_if (fun x => x = 0) 30 11), (11, s_aload 0 12), (12, s_get 11 7 15), (15, s_aload 0 16), (16, s_get 11 10 19), (19, s_aload 0 20), (20, s_get 11 5 23), (23, s_iload 1 24), (24, s_callV 0 26 3 1 27), (27, s_goto 31), (30, s_pushI (-1) 31), (31, s_iret)]
set_option maxRecDepth 100000 in
set_option maxHeartbeats 4000000 in
theorem ok_X11_faces (l : Launch) : mm_CodeOK l mm_I0 RX11 cX11_faces 2 (some .int) cd_X11_faces := by
  intro p e R s m args below meth c Q σ cA D A kc ks d C X
  have hx := X.1
  have hb := X.2.1
  have hown := X.2.2.2.1
  have hts := X.2.2.2.2.1
  refine mm_fc (ss_aload_n hx hb (by decide +kernel : decode cX11_faces 0 = .ok (.aload_n 0, 1)) rfl) ?_
  refine mm_fc (ss_get X rfl in_X11 (by decide) rfl wd_2_98 (by decide +kernel : decode cX11_faces 1 = .ok (.getfield 57, 3))) ?_
  refine mm_fc (ss_iload_n hx hb (by decide +kernel : decode cX11_faces 4 = .ok (.iload_n 1, 1)) rfl) ?_
  refine mm_fc (ss_callV X rfl rfl wd_3_108 wd_1_8 wd_4_145 wd_3_106 wd_3_107 (by decide +kernel) (by decide +kernel) (by decide) (by decide +kernel : decode cX11_faces 5 = .ok (.invokevirtual 179, 3))) ?_
  refine mm_fc (ss_ifeq hx hb (by decide +kernel : decode cX11_faces 8 = .ok (.ifCond .eq 22, 3)) (by decide)) ?_
  refine mm_fc (ss_aload_n hx hb (by decide +kernel : decode cX11_faces 11 = .ok (.aload_n 0, 1)) rfl) ?_
  refine mm_fc (ss_get X rfl in_X11 (by decide) rfl wd_2_100 (by decide +kernel : decode cX11_faces 12 = .ok (.getfield 71, 3))) ?_
  refine mm_fc (ss_aload_n hx hb (by decide +kernel : decode cX11_faces 15 = .ok (.aload_n 0, 1)) rfl) ?_
  refine mm_fc (ss_get X rfl in_X11 (by decide) rfl wd_2_103 (by decide +kernel : decode cX11_faces 16 = .ok (.getfield 89, 3))) ?_
  refine mm_fc (ss_aload_n hx hb (by decide +kernel : decode cX11_faces 19 = .ok (.aload_n 0, 1)) rfl) ?_
  refine mm_fc (ss_get X rfl in_X11 (by decide) rfl wd_2_98 (by decide +kernel : decode cX11_faces 20 = .ok (.getfield 57, 3))) ?_
  refine mm_fc (ss_iload_n hx hb (by decide +kernel : decode cX11_faces 23 = .ok (.iload_n 1, 1)) rfl) ?_
  refine mm_fc (ss_callV X rfl rfl wd_5_112 wd_1_10 wd_5_109 wd_5_110 wd_5_111 (by decide +kernel) (by decide +kernel) (by decide) (by decide +kernel : decode cX11_faces 24 = .ok (.invokevirtual 274, 3))) ?_
  refine mm_fc (ss_goto hx hb (by decide +kernel : decode cX11_faces 27 = .ok (.goto 4, 3)) (by decide)) ?_
  refine mm_fc (ss_iconst hx hb (by decide +kernel : decode cX11_faces 30 = .ok (.iconst (-1), 1)) (by decide)) ?_
  refine mm_fc (ss_iret (by decide +kernel : decode cX11_faces 31 = .ok (.ireturn, 1)) rfl) ?_
  exact mm_fn
def cd_X11_tells : mm_K mm_H := [(0, s_aload 0 1), (1, s_get 11 5 4), (4, s_iload 1 5), (5, s_iload 2 6), (6, s_callV 7 103 2 1 9), (9, s_if (fun x => x = 0) 21 12), (12, s_iload 3 13), (13, s_if (fun x => x < 0) 21 16), (16, s_iload 3 17), (17, s_pushI 1 18), (18, s_icmp (fun x y => x ≤ y) 23 21), (21, s_pushI (-1) 22), (22, s_iret), (23, s_aload 0 24), (24, s_get 11 7 27), (27, s_aload 0 28), (28, s_get 11 10 31), (31, s_aload 0 32), (32, s_get 11 5 35), (35, s_iload 1 36), (36, s_iload 2 37), (37, s_callV 0 25 4 1 40), (40, s_istore 4 42), (42, s_aload 0 43), (43, s_get 11 7 46), (46, s_aload 0 47), (47, s_get 11 10 50), (50, s_aload 0 51), (51, s_get 11 5 54), (54, s_iload 1 55), (55, s_iload 2 56), (56, s_iload 4 58), (58, s_callV 0 30 5 1 61), (61, s_if (fun x => ¬ x = 0) 66 64), (64, s_pushI (-1) 65), (65, s_iret), (66, s_iload 3 67), (67, s_if (fun x => ¬ x = 0) 80 70), (70, s_aload 0 71), (71, s_get 11 7 74), (74, s_get 0 9 77), (77, s_goto 87), (80, s_aload 0 81), (81, s_get 11 7 84), (84, s_get 0 10 87), (87, s_iret)]
set_option maxRecDepth 100000 in
set_option maxHeartbeats 4000000 in
theorem ok_X11_tells (l : Launch) : mm_CodeOK l mm_I0 RX11 cX11_tells 5 (some .int) cd_X11_tells := by
  intro p e R s m args below meth c Q σ cA D A kc ks d C X
  have hx := X.1
  have hb := X.2.1
  have hown := X.2.2.2.1
  have hts := X.2.2.2.2.1
  refine mm_fc (ss_aload_n hx hb (by decide +kernel : decode cX11_tells 0 = .ok (.aload_n 0, 1)) rfl) ?_
  refine mm_fc (ss_get X rfl in_X11 (by decide) rfl wd_2_98 (by decide +kernel : decode cX11_tells 1 = .ok (.getfield 57, 3))) ?_
  refine mm_fc (ss_iload_n hx hb (by decide +kernel : decode cX11_tells 4 = .ok (.iload_n 1, 1)) rfl) ?_
  refine mm_fc (ss_iload_n hx hb (by decide +kernel : decode cX11_tells 5 = .ok (.iload_n 2, 1)) rfl) ?_
  refine mm_fc (ss_callV X rfl rfl wd_3_141 wd_1_8 wd_4_169 wd_3_139 wd_3_140 (by decide +kernel) (by decide +kernel) (by decide) (by decide +kernel : decode cX11_tells 6 = .ok (.invokevirtual 208, 3))) ?_
  refine mm_fc (ss_ifeq hx hb (by decide +kernel : decode cX11_tells 9 = .ok (.ifCond .eq 12, 3)) (by decide)) ?_
  refine mm_fc (ss_iload_n hx hb (by decide +kernel : decode cX11_tells 12 = .ok (.iload_n 3, 1)) rfl) ?_
  refine mm_fc (ss_iflt hx hb (by decide +kernel : decode cX11_tells 13 = .ok (.ifCond .lt 8, 3)) (by decide)) ?_
  refine mm_fc (ss_iload_n hx hb (by decide +kernel : decode cX11_tells 16 = .ok (.iload_n 3, 1)) rfl) ?_
  refine mm_fc (ss_iconst hx hb (by decide +kernel : decode cX11_tells 17 = .ok (.iconst 1, 1)) (by decide)) ?_
  refine mm_fc (ss_icmple hx hb (by decide +kernel : decode cX11_tells 18 = .ok (.if_icmp .le 5, 3)) (by decide)) ?_
  refine mm_fc (ss_iconst hx hb (by decide +kernel : decode cX11_tells 21 = .ok (.iconst (-1), 1)) (by decide)) ?_
  refine mm_fc (ss_iret (by decide +kernel : decode cX11_tells 22 = .ok (.ireturn, 1)) rfl) ?_
  refine mm_fc (ss_aload_n hx hb (by decide +kernel : decode cX11_tells 23 = .ok (.aload_n 0, 1)) rfl) ?_
  refine mm_fc (ss_get X rfl in_X11 (by decide) rfl wd_2_100 (by decide +kernel : decode cX11_tells 24 = .ok (.getfield 71, 3))) ?_
  refine mm_fc (ss_aload_n hx hb (by decide +kernel : decode cX11_tells 27 = .ok (.aload_n 0, 1)) rfl) ?_
  refine mm_fc (ss_get X rfl in_X11 (by decide) rfl wd_2_103 (by decide +kernel : decode cX11_tells 28 = .ok (.getfield 89, 3))) ?_
  refine mm_fc (ss_aload_n hx hb (by decide +kernel : decode cX11_tells 31 = .ok (.aload_n 0, 1)) rfl) ?_
  refine mm_fc (ss_get X rfl in_X11 (by decide) rfl wd_2_98 (by decide +kernel : decode cX11_tells 32 = .ok (.getfield 57, 3))) ?_
  refine mm_fc (ss_iload_n hx hb (by decide +kernel : decode cX11_tells 35 = .ok (.iload_n 1, 1)) rfl) ?_
  refine mm_fc (ss_iload_n hx hb (by decide +kernel : decode cX11_tells 36 = .ok (.iload_n 2, 1)) rfl) ?_
  refine mm_fc (ss_callV X rfl rfl wd_5_90 wd_1_10 wd_5_87 wd_5_88 wd_5_89 (by decide +kernel) (by decide +kernel) (by decide) (by decide +kernel : decode cX11_tells 37 = .ok (.invokevirtual 270, 3))) ?_
  refine mm_fc (ss_istore hx hb (by decide +kernel : decode cX11_tells 40 = .ok (.istore 4, 2)) (by decide)) ?_
  refine mm_fc (ss_aload_n hx hb (by decide +kernel : decode cX11_tells 42 = .ok (.aload_n 0, 1)) rfl) ?_
  refine mm_fc (ss_get X rfl in_X11 (by decide) rfl wd_2_100 (by decide +kernel : decode cX11_tells 43 = .ok (.getfield 71, 3))) ?_
  refine mm_fc (ss_aload_n hx hb (by decide +kernel : decode cX11_tells 46 = .ok (.aload_n 0, 1)) rfl) ?_
  refine mm_fc (ss_get X rfl in_X11 (by decide) rfl wd_2_103 (by decide +kernel : decode cX11_tells 47 = .ok (.getfield 89, 3))) ?_
  refine mm_fc (ss_aload_n hx hb (by decide +kernel : decode cX11_tells 50 = .ok (.aload_n 0, 1)) rfl) ?_
  refine mm_fc (ss_get X rfl in_X11 (by decide) rfl wd_2_98 (by decide +kernel : decode cX11_tells 51 = .ok (.getfield 57, 3))) ?_
  refine mm_fc (ss_iload_n hx hb (by decide +kernel : decode cX11_tells 54 = .ok (.iload_n 1, 1)) rfl) ?_
  refine mm_fc (ss_iload_n hx hb (by decide +kernel : decode cX11_tells 55 = .ok (.iload_n 2, 1)) rfl) ?_
  refine mm_fc (ss_iload hx hb (by decide +kernel : decode cX11_tells 56 = .ok (.iload 4, 2))) ?_
  refine mm_fc (ss_callV X rfl rfl wd_5_124 wd_1_10 wd_5_121 wd_5_122 wd_5_123 (by decide +kernel) (by decide +kernel) (by decide) (by decide +kernel : decode cX11_tells 58 = .ok (.invokevirtual 277, 3))) ?_
  refine mm_fc (ss_ifne hx hb (by decide +kernel : decode cX11_tells 61 = .ok (.ifCond .ne 5, 3)) (by decide)) ?_
  refine mm_fc (ss_iconst hx hb (by decide +kernel : decode cX11_tells 64 = .ok (.iconst (-1), 1)) (by decide)) ?_
  refine mm_fc (ss_iret (by decide +kernel : decode cX11_tells 65 = .ok (.ireturn, 1)) rfl) ?_
  refine mm_fc (ss_iload_n hx hb (by decide +kernel : decode cX11_tells 66 = .ok (.iload_n 3, 1)) rfl) ?_
  refine mm_fc (ss_ifne hx hb (by decide +kernel : decode cX11_tells 67 = .ok (.ifCond .ne 13, 3)) (by decide)) ?_
  refine mm_fc (ss_aload_n hx hb (by decide +kernel : decode cX11_tells 70 = .ok (.aload_n 0, 1)) rfl) ?_
  refine mm_fc (ss_get X rfl in_X11 (by decide) rfl wd_2_100 (by decide +kernel : decode cX11_tells 71 = .ok (.getfield 71, 3))) ?_
  refine mm_fc (ss_getN X rfl in_X0 (by decide) rfl wd_2_8 (by decide +kernel : decode cX11_tells 74 = .ok (.getfield 280, 3))) ?_
  refine mm_fc (ss_goto hx hb (by decide +kernel : decode cX11_tells 77 = .ok (.goto 10, 3)) (by decide)) ?_
  refine mm_fc (ss_aload_n hx hb (by decide +kernel : decode cX11_tells 80 = .ok (.aload_n 0, 1)) rfl) ?_
  refine mm_fc (ss_get X rfl in_X11 (by decide) rfl wd_2_100 (by decide +kernel : decode cX11_tells 81 = .ok (.getfield 71, 3))) ?_
  refine mm_fc (ss_getN X rfl in_X0 (by decide) rfl wd_2_10 (by decide +kernel : decode cX11_tells 84 = .ok (.getfield 283, 3))) ?_
  refine mm_fc (ss_iret (by decide +kernel : decode cX11_tells 87 = .ok (.ireturn, 1)) rfl) ?_
  exact mm_fn
def cd_X11_change : mm_K mm_H := [(0, s_aload 0 1), (1, s_get 11 5 4), (4, s_iload 1 5), (5, s_callV 7 104 1 1 8), (8, s_pushI (-1) 9), (9, s_icmp (fun x y => ¬ x = y) 24 12), (12, s_aload 0 13), (13, s_get 11 5 16), (16, s_iload 2 17), (17, s_callV 7 104 1 1 20), (20, s_pushI (-1) 21), (21, s_icmp (fun x y => x = y) 28 24), (24, s_pushI 1 25), (25, s_goto 29), (28, s_pushI 0 29), (29, s_istore 3 30), (30, s_iload 1 31), (31, s_iload 2 32), (32, s_icmp (fun x y => x = y) 61 35), (35, s_aload 0 36), (36, s_get 11 5 39), (39, s_iload 1 40), (40, s_callV 7 101 1 1 43), (43, s_if (fun x => x = 0) 61 46), (46, s_aload 0 47), (47, s_get 11 5 50), (50, s_iload 2 51), (51, s_callV 7 101 1 1 54), (54, s_if (fun x => x = 0) 61 57), (57, s_iload 3 58), (58, s_if (fun x => ¬ x = 0) 69 61), (61, s_aload 0 62), (62, s_pushI 2 63), (63, s_callV 11 183 1 1 66), (66, s_pop 67), (67, s_pushI 0 68), (68, s_zret), (69, s_aload 0 70), (70, s_get 11 6 73), (73, s_aload 0 74), (74, s_get 11 5 77), (77, s_callV 3 62 1 0 80), (80, s_aload 0 81), (81, s_get 11 5 84), (84, s_iload 1 85), (85, s_iload 2 86), (86, s_callV 7 117 2 0 89), (89, s_pushI 1 90), (90, s_zret)]
set_option maxRecDepth 100000 in
set_option maxHeartbeats 4000000 in
theorem ok_X11_change (l : Launch) : mm_CodeOK l mm_I0 RX11 cX11_change 4 (some .boolean) cd_X11_change := by
  intro p e R s m args below meth c Q σ cA D A kc ks d C X
  have hx := X.1
  have hb := X.2.1
  have hown := X.2.2.2.1
  have hts := X.2.2.2.2.1
  refine mm_fc (ss_aload_n hx hb (by decide +kernel : decode cX11_change 0 = .ok (.aload_n 0, 1)) rfl) ?_
  refine mm_fc (ss_get X rfl in_X11 (by decide) rfl wd_2_98 (by decide +kernel : decode cX11_change 1 = .ok (.getfield 57, 3))) ?_
  refine mm_fc (ss_iload_n hx hb (by decide +kernel : decode cX11_change 4 = .ok (.iload_n 1, 1)) rfl) ?_
  refine mm_fc (ss_callV X rfl rfl wd_3_120 wd_1_8 wd_4_151 wd_3_118 wd_3_119 (by decide +kernel) (by decide +kernel) (by decide) (by decide +kernel : decode cX11_change 5 = .ok (.invokevirtual 187, 3))) ?_
  refine mm_fc (ss_iconst hx hb (by decide +kernel : decode cX11_change 8 = .ok (.iconst (-1), 1)) (by decide)) ?_
  refine mm_fc (ss_icmpne hx hb (by decide +kernel : decode cX11_change 9 = .ok (.if_icmp .ne 15, 3)) (by decide)) ?_
  refine mm_fc (ss_aload_n hx hb (by decide +kernel : decode cX11_change 12 = .ok (.aload_n 0, 1)) rfl) ?_
  refine mm_fc (ss_get X rfl in_X11 (by decide) rfl wd_2_98 (by decide +kernel : decode cX11_change 13 = .ok (.getfield 57, 3))) ?_
  refine mm_fc (ss_iload_n hx hb (by decide +kernel : decode cX11_change 16 = .ok (.iload_n 2, 1)) rfl) ?_
  refine mm_fc (ss_callV X rfl rfl wd_3_120 wd_1_8 wd_4_151 wd_3_118 wd_3_119 (by decide +kernel) (by decide +kernel) (by decide) (by decide +kernel : decode cX11_change 17 = .ok (.invokevirtual 187, 3))) ?_
  refine mm_fc (ss_iconst hx hb (by decide +kernel : decode cX11_change 20 = .ok (.iconst (-1), 1)) (by decide)) ?_
  refine mm_fc (ss_icmpeq hx hb (by decide +kernel : decode cX11_change 21 = .ok (.if_icmp .eq 7, 3)) (by decide)) ?_
  refine mm_fc (ss_iconst hx hb (by decide +kernel : decode cX11_change 24 = .ok (.iconst 1, 1)) (by decide)) ?_
  refine mm_fc (ss_goto hx hb (by decide +kernel : decode cX11_change 25 = .ok (.goto 4, 3)) (by decide)) ?_
  refine mm_fc (ss_iconst hx hb (by decide +kernel : decode cX11_change 28 = .ok (.iconst 0, 1)) (by decide)) ?_
  refine mm_fc (ss_istore_n hx hb (by decide +kernel : decode cX11_change 29 = .ok (.istore_n 3, 1)) rfl (by decide)) ?_
  refine mm_fc (ss_iload_n hx hb (by decide +kernel : decode cX11_change 30 = .ok (.iload_n 1, 1)) rfl) ?_
  refine mm_fc (ss_iload_n hx hb (by decide +kernel : decode cX11_change 31 = .ok (.iload_n 2, 1)) rfl) ?_
  refine mm_fc (ss_icmpeq hx hb (by decide +kernel : decode cX11_change 32 = .ok (.if_icmp .eq 29, 3)) (by decide)) ?_
  refine mm_fc (ss_aload_n hx hb (by decide +kernel : decode cX11_change 35 = .ok (.aload_n 0, 1)) rfl) ?_
  refine mm_fc (ss_get X rfl in_X11 (by decide) rfl wd_2_98 (by decide +kernel : decode cX11_change 36 = .ok (.getfield 57, 3))) ?_
  refine mm_fc (ss_iload_n hx hb (by decide +kernel : decode cX11_change 39 = .ok (.iload_n 1, 1)) rfl) ?_
  refine mm_fc (ss_callV X rfl rfl wd_3_124 wd_1_8 wd_5_137 wd_3_122 wd_3_123 (by decide +kernel) (by decide +kernel) (by decide) (by decide +kernel : decode cX11_change 40 = .ok (.invokevirtual 286, 3))) ?_
  refine mm_fc (ss_ifeq hx hb (by decide +kernel : decode cX11_change 43 = .ok (.ifCond .eq 18, 3)) (by decide)) ?_
  refine mm_fc (ss_aload_n hx hb (by decide +kernel : decode cX11_change 46 = .ok (.aload_n 0, 1)) rfl) ?_
  refine mm_fc (ss_get X rfl in_X11 (by decide) rfl wd_2_98 (by decide +kernel : decode cX11_change 47 = .ok (.getfield 57, 3))) ?_
  refine mm_fc (ss_iload_n hx hb (by decide +kernel : decode cX11_change 50 = .ok (.iload_n 2, 1)) rfl) ?_
  refine mm_fc (ss_callV X rfl rfl wd_3_124 wd_1_8 wd_5_137 wd_3_122 wd_3_123 (by decide +kernel) (by decide +kernel) (by decide) (by decide +kernel : decode cX11_change 51 = .ok (.invokevirtual 286, 3))) ?_
  refine mm_fc (ss_ifeq hx hb (by decide +kernel : decode cX11_change 54 = .ok (.ifCond .eq 7, 3)) (by decide)) ?_
  refine mm_fc (ss_iload_n hx hb (by decide +kernel : decode cX11_change 57 = .ok (.iload_n 3, 1)) rfl) ?_
  refine mm_fc (ss_ifne hx hb (by decide +kernel : decode cX11_change 58 = .ok (.ifCond .ne 11, 3)) (by decide)) ?_
  refine mm_fc (ss_aload_n hx hb (by decide +kernel : decode cX11_change 61 = .ok (.aload_n 0, 1)) rfl) ?_
  refine mm_fc (ss_iconst hx hb (by decide +kernel : decode cX11_change 62 = .ok (.iconst 2, 1)) (by decide)) ?_
  refine mm_fc (ss_callV X rfl rfl wd_2_147 wd_1_1 wd_2_144 wd_2_146 wd_p_0 (by decide +kernel) (by decide +kernel) (by decide) (by decide +kernel : decode cX11_change 63 = .ok (.invokevirtual 108, 3))) ?_
  refine mm_fc (ss_pop hx hb (by decide +kernel : decode cX11_change 66 = .ok (.pop, 1))) ?_
  refine mm_fc (ss_iconst hx hb (by decide +kernel : decode cX11_change 67 = .ok (.iconst 0, 1)) (by decide)) ?_
  refine mm_fc (ss_zret (by decide +kernel : decode cX11_change 68 = .ok (.ireturn, 1)) rfl) ?_
  refine mm_fc (ss_aload_n hx hb (by decide +kernel : decode cX11_change 69 = .ok (.aload_n 0, 1)) rfl) ?_
  refine mm_fc (ss_get X rfl in_X11 (by decide) rfl wd_2_99 (by decide +kernel : decode cX11_change 70 = .ok (.getfield 64, 3))) ?_
  refine mm_fc (ss_aload_n hx hb (by decide +kernel : decode cX11_change 73 = .ok (.aload_n 0, 1)) rfl) ?_
  refine mm_fc (ss_get X rfl in_X11 (by decide) rfl wd_2_98 (by decide +kernel : decode cX11_change 74 = .ok (.getfield 57, 3))) ?_
  refine mm_fc (ss_callV X rfl rfl wd_5_141 wd_1_9 wd_5_138 wd_5_139 wd_5_140 (by decide +kernel) (by decide +kernel) (by decide) (by decide +kernel : decode cX11_change 77 = .ok (.invokevirtual 289, 3))) ?_
  refine mm_fc (ss_aload_n hx hb (by decide +kernel : decode cX11_change 80 = .ok (.aload_n 0, 1)) rfl) ?_
  refine mm_fc (ss_get X rfl in_X11 (by decide) rfl wd_2_98 (by decide +kernel : decode cX11_change 81 = .ok (.getfield 57, 3))) ?_
  refine mm_fc (ss_iload_n hx hb (by decide +kernel : decode cX11_change 84 = .ok (.iload_n 1, 1)) rfl) ?_
  refine mm_fc (ss_iload_n hx hb (by decide +kernel : decode cX11_change 85 = .ok (.iload_n 2, 1)) rfl) ?_
  refine mm_fc (ss_callV X rfl rfl wd_5_28 wd_1_8 wd_5_145 wd_5_26 wd_5_27 (by decide +kernel) (by decide +kernel) (by decide) (by decide +kernel : decode cX11_change 86 = .ok (.invokevirtual 292, 3))) ?_
  refine mm_fc (ss_iconst hx hb (by decide +kernel : decode cX11_change 89 = .ok (.iconst 1, 1)) (by decide)) ?_
  refine mm_fc (ss_zret (by decide +kernel : decode cX11_change 90 = .ok (.ireturn, 1)) rfl) ?_
  exact mm_fn
