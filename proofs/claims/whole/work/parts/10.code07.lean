def cd_X11_right : mm_K mm_H := [(0, s_aload 0 1), (1, s_get 11 5 4), (4, s_iload 1 5), (5, s_callV 7 107 1 1 8), (8, s_pushI 10 10), (10, s_bin (fun x y => x * y) 11), (11, s_istore 2 12), (12, s_aload 0 13), (13, s_get 11 5 16), (16, s_iload 1 17), (17, s_callV 7 102 1 1 20), (20, s_if (fun x => x = 0) 35 23), (23, s_aload 0 24), (24, s_get 11 5 27), (27, s_iload 1 28), (28, s_callV 7 106 1 1 31), (31, s_iload 2 32), (32, s_icmp (fun x y => ¬ x = y) 43 35), (35, s_aload 0 36), (36, s_pushI 2 37), (37, s_callV 11 183 1 1 40), (40, s_pop 41), (41, s_pushI 0 42), (42, s_zret), (43, s_aload 0 44), (44, s_get 11 6 47), (47, s_aload 0 48), (48, s_get 11 5 51), (51, s_callV 3 62 1 0 54), (54, s_aload 0 55), (55, s_get 11 5 58), (58, s_iload 1 59), (59, s_iload 2 60), (60, s_callV 7 112 2 0 63), (63, s_pushI 1 64), (64, s_zret)]
set_option maxRecDepth 100000 in
set_option maxHeartbeats 4000000 in
theorem ok_X11_right (l : Launch) : mm_CodeOK l mm_I0 RX11 cX11_right 3 (some .boolean) cd_X11_right := by
  intro p e R s m args below meth c Q σ cA D A kc ks d C X
  have hx := X.1
  have hb := X.2.1
  have hown := X.2.2.2.1
  have hts := X.2.2.2.2.1
  refine mm_fc (ss_aload_n hx hb (by decide +kernel : decode cX11_right 0 = .ok (.aload_n 0, 1)) rfl) ?_
  refine mm_fc (ss_get X rfl in_X11 (by decide) rfl wd_2_98 (by decide +kernel : decode cX11_right 1 = .ok (.getfield 57, 3))) ?_
  refine mm_fc (ss_iload_n hx hb (by decide +kernel : decode cX11_right 4 = .ok (.iload_n 1, 1)) rfl) ?_
  refine mm_fc (ss_callV X rfl rfl wd_4_68 wd_1_8 wd_4_161 wd_4_66 wd_4_67 (by decide +kernel) (by decide +kernel) (by decide) (by decide +kernel : decode cX11_right 5 = .ok (.invokevirtual 196, 3))) ?_
  refine mm_fc (ss_bipush hx hb (by decide +kernel : decode cX11_right 8 = .ok (.bipush 10, 2)) (by decide)) ?_
  refine mm_fc (ss_imul hx hb (by decide +kernel : decode cX11_right 10 = .ok (.imul, 1))) ?_
  refine mm_fc (ss_istore_n hx hb (by decide +kernel : decode cX11_right 11 = .ok (.istore_n 2, 1)) rfl (by decide)) ?_
  refine mm_fc (ss_aload_n hx hb (by decide +kernel : decode cX11_right 12 = .ok (.aload_n 0, 1)) rfl) ?_
  refine mm_fc (ss_get X rfl in_X11 (by decide) rfl wd_2_98 (by decide +kernel : decode cX11_right 13 = .ok (.getfield 57, 3))) ?_
  refine mm_fc (ss_iload_n hx hb (by decide +kernel : decode cX11_right 16 = .ok (.iload_n 1, 1)) rfl) ?_
  refine mm_fc (ss_callV X rfl rfl wd_3_108 wd_1_8 wd_4_145 wd_3_106 wd_3_107 (by decide +kernel) (by decide +kernel) (by decide) (by decide +kernel : decode cX11_right 17 = .ok (.invokevirtual 179, 3))) ?_
  refine mm_fc (ss_ifeq hx hb (by decide +kernel : decode cX11_right 20 = .ok (.ifCond .eq 15, 3)) (by decide)) ?_
  refine mm_fc (ss_aload_n hx hb (by decide +kernel : decode cX11_right 23 = .ok (.aload_n 0, 1)) rfl) ?_
  refine mm_fc (ss_get X rfl in_X11 (by decide) rfl wd_2_98 (by decide +kernel : decode cX11_right 24 = .ok (.getfield 57, 3))) ?_
  refine mm_fc (ss_iload_n hx hb (by decide +kernel : decode cX11_right 27 = .ok (.iload_n 1, 1)) rfl) ?_
  refine mm_fc (ss_callV X rfl rfl wd_4_42 wd_1_8 wd_4_160 wd_4_40 wd_4_41 (by decide +kernel) (by decide +kernel) (by decide) (by decide +kernel : decode cX11_right 28 = .ok (.invokevirtual 193, 3))) ?_
  refine mm_fc (ss_iload_n hx hb (by decide +kernel : decode cX11_right 31 = .ok (.iload_n 2, 1)) rfl) ?_
  refine mm_fc (ss_icmpne hx hb (by decide +kernel : decode cX11_right 32 = .ok (.if_icmp .ne 11, 3)) (by decide)) ?_
  refine mm_fc (ss_aload_n hx hb (by decide +kernel : decode cX11_right 35 = .ok (.aload_n 0, 1)) rfl) ?_
  refine mm_fc (ss_iconst hx hb (by decide +kernel : decode cX11_right 36 = .ok (.iconst 2, 1)) (by decide)) ?_
  refine mm_fc (ss_callV X rfl rfl wd_2_147 wd_1_1 wd_2_144 wd_2_146 wd_p_0 (by decide +kernel) (by decide +kernel) (by decide) (by decide +kernel : decode cX11_right 37 = .ok (.invokevirtual 108, 3))) ?_
  refine mm_fc (ss_pop hx hb (by decide +kernel : decode cX11_right 40 = .ok (.pop, 1))) ?_
  refine mm_fc (ss_iconst hx hb (by decide +kernel : decode cX11_right 41 = .ok (.iconst 0, 1)) (by decide)) ?_
  refine mm_fc (ss_zret (by decide +kernel : decode cX11_right 42 = .ok (.ireturn, 1)) rfl) ?_
  refine mm_fc (ss_aload_n hx hb (by decide +kernel : decode cX11_right 43 = .ok (.aload_n 0, 1)) rfl) ?_
  refine mm_fc (ss_get X rfl in_X11 (by decide) rfl wd_2_99 (by decide +kernel : decode cX11_right 44 = .ok (.getfield 64, 3))) ?_
  refine mm_fc (ss_aload_n hx hb (by decide +kernel : decode cX11_right 47 = .ok (.aload_n 0, 1)) rfl) ?_
  refine mm_fc (ss_get X rfl in_X11 (by decide) rfl wd_2_98 (by decide +kernel : decode cX11_right 48 = .ok (.getfield 57, 3))) ?_
  refine mm_fc (ss_callV X rfl rfl wd_5_141 wd_1_9 wd_5_138 wd_5_139 wd_5_140 (by decide +kernel) (by decide +kernel) (by decide) (by decide +kernel : decode cX11_right 51 = .ok (.invokevirtual 289, 3))) ?_
  refine mm_fc (ss_aload_n hx hb (by decide +kernel : decode cX11_right 54 = .ok (.aload_n 0, 1)) rfl) ?_
  refine mm_fc (ss_get X rfl in_X11 (by decide) rfl wd_2_98 (by decide +kernel : decode cX11_right 55 = .ok (.getfield 57, 3))) ?_
  refine mm_fc (ss_iload_n hx hb (by decide +kernel : decode cX11_right 58 = .ok (.iload_n 1, 1)) rfl) ?_
  refine mm_fc (ss_iload_n hx hb (by decide +kernel : decode cX11_right 59 = .ok (.iload_n 2, 1)) rfl) ?_
  refine mm_fc (ss_callV X rfl rfl wd_4_231 wd_1_8 wd_5_150 wd_4_229 wd_4_230 (by decide +kernel) (by decide +kernel) (by decide) (by decide +kernel : decode cX11_right 60 = .ok (.invokevirtual 296, 3))) ?_
  refine mm_fc (ss_iconst hx hb (by decide +kernel : decode cX11_right 63 = .ok (.iconst 1, 1)) (by decide)) ?_
  refine mm_fc (ss_zret (by decide +kernel : decode cX11_right 64 = .ok (.ireturn, 1)) rfl) ?_
  exact mm_fn
def cd_X11_spare : mm_K mm_H := [(0, s_aload 0 1), (1, s_get 11 5 4), (4, s_iload 1 5), (5, s_callV 7 102 1 1 8), (8, s_if (fun x => x = 0) 32 11), (11, s_iload 2 12), (12, s_if (fun x => x < 0) 32 15), (15, s_iload 2 16), (16, s_pushI 1 17), (17, s_icmp (fun x y => y < x) 32 20), (20, s_aload 0 21), (21, s_get 11 5 24), (24, s_iload 1 25), (25, s_callV 7 109 1 1 28), (28, s_iload 2 29), (29, s_icmp (fun x y => ¬ x = y) 40 32), (32, s_aload 0 33), (33, s_pushI 2 34), (34, s_callV 11 183 1 1 37), (37, s_pop 38), (38, s_pushI 0 39), (39, s_zret), (40, s_aload 0 41), (41, s_get 11 6 44), (44, s_aload 0 45), (45, s_get 11 5 48), (48, s_callV 3 62 1 0 51), (51, s_aload 0 52), (52, s_get 11 5 55), (55, s_iload 1 56), (56, s_iload 2 57), (57, s_callV 7 114 2 0 60), (60, s_pushI 1 61), (61, s_zret)]
set_option maxRecDepth 100000 in
set_option maxHeartbeats 4000000 in
theorem ok_X11_spare (l : Launch) : mm_CodeOK l mm_I0 RX11 cX11_spare 3 (some .boolean) cd_X11_spare := by
  intro p e R s m args below meth c Q σ cA D A kc ks d C X
  have hx := X.1
  have hb := X.2.1
  have hown := X.2.2.2.1
  have hts := X.2.2.2.2.1
  refine mm_fc (ss_aload_n hx hb (by decide +kernel : decode cX11_spare 0 = .ok (.aload_n 0, 1)) rfl) ?_
  refine mm_fc (ss_get X rfl in_X11 (by decide) rfl wd_2_98 (by decide +kernel : decode cX11_spare 1 = .ok (.getfield 57, 3))) ?_
  refine mm_fc (ss_iload_n hx hb (by decide +kernel : decode cX11_spare 4 = .ok (.iload_n 1, 1)) rfl) ?_
  refine mm_fc (ss_callV X rfl rfl wd_3_108 wd_1_8 wd_4_145 wd_3_106 wd_3_107 (by decide +kernel) (by decide +kernel) (by decide) (by decide +kernel : decode cX11_spare 5 = .ok (.invokevirtual 179, 3))) ?_
  refine mm_fc (ss_ifeq hx hb (by decide +kernel : decode cX11_spare 8 = .ok (.ifCond .eq 24, 3)) (by decide)) ?_
  refine mm_fc (ss_iload_n hx hb (by decide +kernel : decode cX11_spare 11 = .ok (.iload_n 2, 1)) rfl) ?_
  refine mm_fc (ss_iflt hx hb (by decide +kernel : decode cX11_spare 12 = .ok (.ifCond .lt 20, 3)) (by decide)) ?_
  refine mm_fc (ss_iload_n hx hb (by decide +kernel : decode cX11_spare 15 = .ok (.iload_n 2, 1)) rfl) ?_
  refine mm_fc (ss_iconst hx hb (by decide +kernel : decode cX11_spare 16 = .ok (.iconst 1, 1)) (by decide)) ?_
  refine mm_fc (ss_icmpgt hx hb (by decide +kernel : decode cX11_spare 17 = .ok (.if_icmp .gt 15, 3)) (by decide)) ?_
  refine mm_fc (ss_aload_n hx hb (by decide +kernel : decode cX11_spare 20 = .ok (.aload_n 0, 1)) rfl) ?_
  refine mm_fc (ss_get X rfl in_X11 (by decide) rfl wd_2_98 (by decide +kernel : decode cX11_spare 21 = .ok (.getfield 57, 3))) ?_
  refine mm_fc (ss_iload_n hx hb (by decide +kernel : decode cX11_spare 24 = .ok (.iload_n 1, 1)) rfl) ?_
  refine mm_fc (ss_callV X rfl rfl wd_4_50 wd_1_8 wd_4_163 wd_4_48 wd_4_49 (by decide +kernel) (by decide +kernel) (by decide) (by decide +kernel : decode cX11_spare 25 = .ok (.invokevirtual 202, 3))) ?_
  refine mm_fc (ss_iload_n hx hb (by decide +kernel : decode cX11_spare 28 = .ok (.iload_n 2, 1)) rfl) ?_
  refine mm_fc (ss_icmpne hx hb (by decide +kernel : decode cX11_spare 29 = .ok (.if_icmp .ne 11, 3)) (by decide)) ?_
  refine mm_fc (ss_aload_n hx hb (by decide +kernel : decode cX11_spare 32 = .ok (.aload_n 0, 1)) rfl) ?_
  refine mm_fc (ss_iconst hx hb (by decide +kernel : decode cX11_spare 33 = .ok (.iconst 2, 1)) (by decide)) ?_
  refine mm_fc (ss_callV X rfl rfl wd_2_147 wd_1_1 wd_2_144 wd_2_146 wd_p_0 (by decide +kernel) (by decide +kernel) (by decide) (by decide +kernel : decode cX11_spare 34 = .ok (.invokevirtual 108, 3))) ?_
  refine mm_fc (ss_pop hx hb (by decide +kernel : decode cX11_spare 37 = .ok (.pop, 1))) ?_
  refine mm_fc (ss_iconst hx hb (by decide +kernel : decode cX11_spare 38 = .ok (.iconst 0, 1)) (by decide)) ?_
  refine mm_fc (ss_zret (by decide +kernel : decode cX11_spare 39 = .ok (.ireturn, 1)) rfl) ?_
  refine mm_fc (ss_aload_n hx hb (by decide +kernel : decode cX11_spare 40 = .ok (.aload_n 0, 1)) rfl) ?_
  refine mm_fc (ss_get X rfl in_X11 (by decide) rfl wd_2_99 (by decide +kernel : decode cX11_spare 41 = .ok (.getfield 64, 3))) ?_
  refine mm_fc (ss_aload_n hx hb (by decide +kernel : decode cX11_spare 44 = .ok (.aload_n 0, 1)) rfl) ?_
  refine mm_fc (ss_get X rfl in_X11 (by decide) rfl wd_2_98 (by decide +kernel : decode cX11_spare 45 = .ok (.getfield 57, 3))) ?_
  refine mm_fc (ss_callV X rfl rfl wd_5_141 wd_1_9 wd_5_138 wd_5_139 wd_5_140 (by decide +kernel) (by decide +kernel) (by decide) (by decide +kernel : decode cX11_spare 48 = .ok (.invokevirtual 289, 3))) ?_
  refine mm_fc (ss_aload_n hx hb (by decide +kernel : decode cX11_spare 51 = .ok (.aload_n 0, 1)) rfl) ?_
  refine mm_fc (ss_get X rfl in_X11 (by decide) rfl wd_2_98 (by decide +kernel : decode cX11_spare 52 = .ok (.getfield 57, 3))) ?_
  refine mm_fc (ss_iload_n hx hb (by decide +kernel : decode cX11_spare 55 = .ok (.iload_n 1, 1)) rfl) ?_
  refine mm_fc (ss_iload_n hx hb (by decide +kernel : decode cX11_spare 56 = .ok (.iload_n 2, 1)) rfl) ?_
  refine mm_fc (ss_callV X rfl rfl wd_5_72 wd_1_8 wd_5_155 wd_5_70 wd_5_71 (by decide +kernel) (by decide +kernel) (by decide) (by decide +kernel : decode cX11_spare 57 = .ok (.invokevirtual 299, 3))) ?_
  refine mm_fc (ss_iconst hx hb (by decide +kernel : decode cX11_spare 60 = .ok (.iconst 1, 1)) (by decide)) ?_
  refine mm_fc (ss_zret (by decide +kernel : decode cX11_spare 61 = .ok (.ireturn, 1)) rfl) ?_
  exact mm_fn
def cd_X11_years : mm_K mm_H := [(0, s_aload 0 1), (1, s_get 11 12 4), (4, s_if (fun x => x = 0) 18 7), (7, s_aload 0 8), (8, s_iload 1 9), (9, s_pushI 1 10), (10, s_pushI 100 12), (12, s_callV 11 184 3 1 15), (15, s_if (fun x => ¬ x = 0) 24 18), (18, s_aload 0 19), (19, s_pushI 3 20), (20, s_callV 11 183 1 1 23), (23, s_iret), (24, s_aload 0 25), (25, s_get 11 6 28), (28, s_aload 0 29), (29, s_get 11 5 32), (32, s_callV 3 62 1 0 35), (35, s_aload 0 36), (36, s_get 11 5 39), (39, s_get 7 8 42), (42, s_istore 2 43), (43, s_aload 0 44), (44, s_get 11 10 47), (47, s_aload 0 48), (48, s_get 11 5 51), (51, s_iload 1 52), (52, s_callV 10 141 2 0 55), (55, s_aload 0 56), (56, s_get 11 5 59), (59, s_get 7 8 62), (62, s_iload 2 63), (63, s_bin (fun x y => x - y) 64), (64, s_iret)]
set_option maxRecDepth 100000 in
set_option maxHeartbeats 4000000 in
theorem ok_X11_years (l : Launch) : mm_CodeOK l mm_I0 RX11 cX11_years 3 (some .int) cd_X11_years := by
  intro p e R s m args below meth c Q σ cA D A kc ks d C X
  have hx := X.1
  have hb := X.2.1
  have hown := X.2.2.2.1
  have hts := X.2.2.2.2.1
  refine mm_fc (ss_aload_n hx hb (by decide +kernel : decode cX11_years 0 = .ok (.aload_n 0, 1)) rfl) ?_
  refine mm_fc (ss_get X rfl in_X11 (by decide) rfl wd_2_105 (by decide +kernel : decode cX11_years 1 = .ok (.getfield 96, 3))) ?_
  refine mm_fc (ss_ifeq hx hb (by decide +kernel : decode cX11_years 4 = .ok (.ifCond .eq 14, 3)) (by decide)) ?_
  refine mm_fc (ss_aload_n hx hb (by decide +kernel : decode cX11_years 7 = .ok (.aload_n 0, 1)) rfl) ?_
  refine mm_fc (ss_iload_n hx hb (by decide +kernel : decode cX11_years 8 = .ok (.iload_n 1, 1)) rfl) ?_
  refine mm_fc (ss_iconst hx hb (by decide +kernel : decode cX11_years 9 = .ok (.iconst 1, 1)) (by decide)) ?_
  refine mm_fc (ss_bipush hx hb (by decide +kernel : decode cX11_years 10 = .ok (.bipush 100, 2)) (by decide)) ?_
  refine mm_fc (ss_callV X rfl rfl wd_4_213 wd_1_1 wd_4_210 wd_4_212 wd_p_31 (by decide +kernel) (by decide +kernel) (by decide) (by decide +kernel : decode cX11_years 12 = .ok (.invokevirtual 226, 3))) ?_
  refine mm_fc (ss_ifne hx hb (by decide +kernel : decode cX11_years 15 = .ok (.ifCond .ne 9, 3)) (by decide)) ?_
  refine mm_fc (ss_aload_n hx hb (by decide +kernel : decode cX11_years 18 = .ok (.aload_n 0, 1)) rfl) ?_
  refine mm_fc (ss_iconst hx hb (by decide +kernel : decode cX11_years 19 = .ok (.iconst 3, 1)) (by decide)) ?_
  refine mm_fc (ss_callV X rfl rfl wd_2_147 wd_1_1 wd_2_144 wd_2_146 wd_p_0 (by decide +kernel) (by decide +kernel) (by decide) (by decide +kernel : decode cX11_years 20 = .ok (.invokevirtual 108, 3))) ?_
  refine mm_fc (ss_iret (by decide +kernel : decode cX11_years 23 = .ok (.ireturn, 1)) rfl) ?_
  refine mm_fc (ss_aload_n hx hb (by decide +kernel : decode cX11_years 24 = .ok (.aload_n 0, 1)) rfl) ?_
  refine mm_fc (ss_get X rfl in_X11 (by decide) rfl wd_2_99 (by decide +kernel : decode cX11_years 25 = .ok (.getfield 64, 3))) ?_
  refine mm_fc (ss_aload_n hx hb (by decide +kernel : decode cX11_years 28 = .ok (.aload_n 0, 1)) rfl) ?_
  refine mm_fc (ss_get X rfl in_X11 (by decide) rfl wd_2_98 (by decide +kernel : decode cX11_years 29 = .ok (.getfield 57, 3))) ?_
  refine mm_fc (ss_callV X rfl rfl wd_5_141 wd_1_9 wd_5_138 wd_5_139 wd_5_140 (by decide +kernel) (by decide +kernel) (by decide) (by decide +kernel : decode cX11_years 32 = .ok (.invokevirtual 289, 3))) ?_
  refine mm_fc (ss_aload_n hx hb (by decide +kernel : decode cX11_years 35 = .ok (.aload_n 0, 1)) rfl) ?_
  refine mm_fc (ss_get X rfl in_X11 (by decide) rfl wd_2_98 (by decide +kernel : decode cX11_years 36 = .ok (.getfield 57, 3))) ?_
  refine mm_fc (ss_getN X rfl in_X7 (by decide) rfl wd_1_163 (by decide +kernel : decode cX11_years 39 = .ok (.getfield 302, 3))) ?_
  refine mm_fc (ss_istore_n hx hb (by decide +kernel : decode cX11_years 42 = .ok (.istore_n 2, 1)) rfl (by decide)) ?_
  refine mm_fc (ss_aload_n hx hb (by decide +kernel : decode cX11_years 43 = .ok (.aload_n 0, 1)) rfl) ?_
  refine mm_fc (ss_get X rfl in_X11 (by decide) rfl wd_2_103 (by decide +kernel : decode cX11_years 44 = .ok (.getfield 89, 3))) ?_
  refine mm_fc (ss_aload_n hx hb (by decide +kernel : decode cX11_years 47 = .ok (.aload_n 0, 1)) rfl) ?_
  refine mm_fc (ss_get X rfl in_X11 (by decide) rfl wd_2_98 (by decide +kernel : decode cX11_years 48 = .ok (.getfield 57, 3))) ?_
  refine mm_fc (ss_iload_n hx hb (by decide +kernel : decode cX11_years 51 = .ok (.iload_n 1, 1)) rfl) ?_
  refine mm_fc (ss_callV X rfl rfl wd_4_222 wd_1_12 wd_5_160 wd_4_220 wd_4_221 (by decide +kernel) (by decide +kernel) (by decide) (by decide +kernel : decode cX11_years 52 = .ok (.invokevirtual 305, 3))) ?_
  refine mm_fc (ss_aload_n hx hb (by decide +kernel : decode cX11_years 55 = .ok (.aload_n 0, 1)) rfl) ?_
  refine mm_fc (ss_get X rfl in_X11 (by decide) rfl wd_2_98 (by decide +kernel : decode cX11_years 56 = .ok (.getfield 57, 3))) ?_
  refine mm_fc (ss_getN X rfl in_X7 (by decide) rfl wd_1_163 (by decide +kernel : decode cX11_years 59 = .ok (.getfield 302, 3))) ?_
  refine mm_fc (ss_iload_n hx hb (by decide +kernel : decode cX11_years 62 = .ok (.iload_n 2, 1)) rfl) ?_
  refine mm_fc (ss_isub hx hb (by decide +kernel : decode cX11_years 63 = .ok (.isub, 1))) ?_
  refine mm_fc (ss_iret (by decide +kernel : decode cX11_years 64 = .ok (.ireturn, 1)) rfl) ?_
  exact mm_fn
def cd_X11_chance : mm_K mm_H := [(0, s_aload 0 1), (1, s_get 11 12 4), (4, s_if (fun x => x = 0) 18 7), (7, s_aload 0 8), (8, s_iload 1 9), (9, s_pushI 1 10), (10, s_pushI 100 12), (12, s_callV 11 184 3 1 15), (15, s_if (fun x => ¬ x = 0) 24 18), (18, s_aload 0 19), (19, s_pushI 3 20), (20, s_callV 11 183 1 1 23), (23, s_iret), (24, s_aload 0 25), (25, s_get 11 6 28), (28, s_aload 0 29), (29, s_get 11 5 32), (32, s_callV 3 62 1 0 35), (35, s_pushI 0 36), (36, s_istore 2 37), (37, s_pushI 0 38), (38, s_istore 3 39), (39, s_iload 3 40), (40, s_iload 1 41), (41, s_icmp (fun x y => y ≤ x) 69 44), (44, s_iload 2 45), (45, s_aload 0 46), (46, s_callV 11 185 0 1 49), (49, s_bin (fun x y => x + y) 50), (50, s_istore 2 51), (51, s_aload 0 52), (52, s_get 11 10 55), (55, s_aload 0 56), (56, s_get 11 5 59), (59, s_pushI 1 60), (60, s_callV 10 141 2 0 63), (63, s_iinc 3 1 66), (66, s_goto 39), (69, s_iload 2 70), (70, s_iret)]
set_option maxRecDepth 100000 in
set_option maxHeartbeats 4000000 in
theorem ok_X11_chance (l : Launch) : mm_CodeOK l mm_I0 RX11 cX11_chance 4 (some .int) cd_X11_chance := by
  intro p e R s m args below meth c Q σ cA D A kc ks d C X
  have hx := X.1
  have hb := X.2.1
  have hown := X.2.2.2.1
  have hts := X.2.2.2.2.1
  refine mm_fc (ss_aload_n hx hb (by decide +kernel : decode cX11_chance 0 = .ok (.aload_n 0, 1)) rfl) ?_
  refine mm_fc (ss_get X rfl in_X11 (by decide) rfl wd_2_105 (by decide +kernel : decode cX11_chance 1 = .ok (.getfield 96, 3))) ?_
  refine mm_fc (ss_ifeq hx hb (by decide +kernel : decode cX11_chance 4 = .ok (.ifCond .eq 14, 3)) (by decide)) ?_
  refine mm_fc (ss_aload_n hx hb (by decide +kernel : decode cX11_chance 7 = .ok (.aload_n 0, 1)) rfl) ?_
  refine mm_fc (ss_iload_n hx hb (by decide +kernel : decode cX11_chance 8 = .ok (.iload_n 1, 1)) rfl) ?_
  refine mm_fc (ss_iconst hx hb (by decide +kernel : decode cX11_chance 9 = .ok (.iconst 1, 1)) (by decide)) ?_
  refine mm_fc (ss_bipush hx hb (by decide +kernel : decode cX11_chance 10 = .ok (.bipush 100, 2)) (by decide)) ?_
  refine mm_fc (ss_callV X rfl rfl wd_4_213 wd_1_1 wd_4_210 wd_4_212 wd_p_31 (by decide +kernel) (by decide +kernel) (by decide) (by decide +kernel : decode cX11_chance 12 = .ok (.invokevirtual 226, 3))) ?_
  refine mm_fc (ss_ifne hx hb (by decide +kernel : decode cX11_chance 15 = .ok (.ifCond .ne 9, 3)) (by decide)) ?_
  refine mm_fc (ss_aload_n hx hb (by decide +kernel : decode cX11_chance 18 = .ok (.aload_n 0, 1)) rfl) ?_
  refine mm_fc (ss_iconst hx hb (by decide +kernel : decode cX11_chance 19 = .ok (.iconst 3, 1)) (by decide)) ?_
  refine mm_fc (ss_callV X rfl rfl wd_2_147 wd_1_1 wd_2_144 wd_2_146 wd_p_0 (by decide +kernel) (by decide +kernel) (by decide) (by decide +kernel : decode cX11_chance 20 = .ok (.invokevirtual 108, 3))) ?_
  refine mm_fc (ss_iret (by decide +kernel : decode cX11_chance 23 = .ok (.ireturn, 1)) rfl) ?_
  refine mm_fc (ss_aload_n hx hb (by decide +kernel : decode cX11_chance 24 = .ok (.aload_n 0, 1)) rfl) ?_
  refine mm_fc (ss_get X rfl in_X11 (by decide) rfl wd_2_99 (by decide +kernel : decode cX11_chance 25 = .ok (.getfield 64, 3))) ?_
  refine mm_fc (ss_aload_n hx hb (by decide +kernel : decode cX11_chance 28 = .ok (.aload_n 0, 1)) rfl) ?_
  refine mm_fc (ss_get X rfl in_X11 (by decide) rfl wd_2_98 (by decide +kernel : decode cX11_chance 29 = .ok (.getfield 57, 3))) ?_
  refine mm_fc (ss_callV X rfl rfl wd_5_141 wd_1_9 wd_5_138 wd_5_139 wd_5_140 (by decide +kernel) (by decide +kernel) (by decide) (by decide +kernel : decode cX11_chance 32 = .ok (.invokevirtual 289, 3))) ?_
  refine mm_fc (ss_iconst hx hb (by decide +kernel : decode cX11_chance 35 = .ok (.iconst 0, 1)) (by decide)) ?_
  refine mm_fc (ss_istore_n hx hb (by decide +kernel : decode cX11_chance 36 = .ok (.istore_n 2, 1)) rfl (by decide)) ?_
  refine mm_fc (ss_iconst hx hb (by decide +kernel : decode cX11_chance 37 = .ok (.iconst 0, 1)) (by decide)) ?_
  refine mm_fc (ss_istore_n hx hb (by decide +kernel : decode cX11_chance 38 = .ok (.istore_n 3, 1)) rfl (by decide)) ?_
  refine mm_fc (ss_iload_n hx hb (by decide +kernel : decode cX11_chance 39 = .ok (.iload_n 3, 1)) rfl) ?_
  refine mm_fc (ss_iload_n hx hb (by decide +kernel : decode cX11_chance 40 = .ok (.iload_n 1, 1)) rfl) ?_
  refine mm_fc (ss_icmpge hx hb (by decide +kernel : decode cX11_chance 41 = .ok (.if_icmp .ge 28, 3)) (by decide)) ?_
  refine mm_fc (ss_iload_n hx hb (by decide +kernel : decode cX11_chance 44 = .ok (.iload_n 2, 1)) rfl) ?_
  refine mm_fc (ss_aload_n hx hb (by decide +kernel : decode cX11_chance 45 = .ok (.aload_n 0, 1)) rfl) ?_
  refine mm_fc (ss_callV X rfl rfl wd_5_168 wd_1_1 wd_5_165 wd_5_167 wd_p_40 (by decide +kernel) (by decide +kernel) (by decide) (by decide +kernel : decode cX11_chance 46 = .ok (.invokevirtual 309, 3))) ?_
  refine mm_fc (ss_iadd hx hb (by decide +kernel : decode cX11_chance 49 = .ok (.iadd, 1))) ?_
  refine mm_fc (ss_istore_n hx hb (by decide +kernel : decode cX11_chance 50 = .ok (.istore_n 2, 1)) rfl (by decide)) ?_
  refine mm_fc (ss_aload_n hx hb (by decide +kernel : decode cX11_chance 51 = .ok (.aload_n 0, 1)) rfl) ?_
  refine mm_fc (ss_get X rfl in_X11 (by decide) rfl wd_2_103 (by decide +kernel : decode cX11_chance 52 = .ok (.getfield 89, 3))) ?_
  refine mm_fc (ss_aload_n hx hb (by decide +kernel : decode cX11_chance 55 = .ok (.aload_n 0, 1)) rfl) ?_
  refine mm_fc (ss_get X rfl in_X11 (by decide) rfl wd_2_98 (by decide +kernel : decode cX11_chance 56 = .ok (.getfield 57, 3))) ?_
  refine mm_fc (ss_iconst hx hb (by decide +kernel : decode cX11_chance 59 = .ok (.iconst 1, 1)) (by decide)) ?_
  refine mm_fc (ss_callV X rfl rfl wd_4_222 wd_1_12 wd_5_160 wd_4_220 wd_4_221 (by decide +kernel) (by decide +kernel) (by decide) (by decide +kernel : decode cX11_chance 60 = .ok (.invokevirtual 305, 3))) ?_
  refine mm_fc (ss_iinc hx hb (by decide +kernel : decode cX11_chance 63 = .ok (.iinc 3 1, 3)) (by decide) (by decide)) ?_
  refine mm_fc (ss_goto hx hb (by decide +kernel : decode cX11_chance 66 = .ok (.goto (-27), 3)) (by decide)) ?_
  refine mm_fc (ss_iload_n hx hb (by decide +kernel : decode cX11_chance 69 = .ok (.iload_n 2, 1)) rfl) ?_
  refine mm_fc (ss_iret (by decide +kernel : decode cX11_chance 70 = .ok (.ireturn, 1)) rfl) ?_
  exact mm_fn
def cd_X11_undo : mm_K mm_H := [(0, s_aload 0 1), (1, s_get 11 6 4), (4, s_aload 0 5), (5, s_get 11 5 8), (8, s_callV 3 63 1 1 11), (11, s_if (fun x => ¬ x = 0) 22 14), (14, s_aload 0 15), (15, s_pushI 4 16), (16, s_callV 11 183 1 1 19), (19, s_pop 20), (20, s_pushI 0 21), (21, s_zret), (22, s_pushI 1 23), (23, s_zret)]
set_option maxRecDepth 100000 in
set_option maxHeartbeats 4000000 in
theorem ok_X11_undo (l : Launch) : mm_CodeOK l mm_I0 RX11 cX11_undo 1 (some .boolean) cd_X11_undo := by
  intro p e R s m args below meth c Q σ cA D A kc ks d C X
  have hx := X.1
  have hb := X.2.1
  have hown := X.2.2.2.1
  have hts := X.2.2.2.2.1
  refine mm_fc (ss_aload_n hx hb (by decide +kernel : decode cX11_undo 0 = .ok (.aload_n 0, 1)) rfl) ?_
  refine mm_fc (ss_get X rfl in_X11 (by decide) rfl wd_2_99 (by decide +kernel : decode cX11_undo 1 = .ok (.getfield 64, 3))) ?_
  refine mm_fc (ss_aload_n hx hb (by decide +kernel : decode cX11_undo 4 = .ok (.aload_n 0, 1)) rfl) ?_
  refine mm_fc (ss_get X rfl in_X11 (by decide) rfl wd_2_98 (by decide +kernel : decode cX11_undo 5 = .ok (.getfield 57, 3))) ?_
  refine mm_fc (ss_callV X rfl rfl wd_5_182 wd_1_9 wd_5_179 wd_5_180 wd_5_181 (by decide +kernel) (by decide +kernel) (by decide) (by decide +kernel : decode cX11_undo 8 = .ok (.invokevirtual 312, 3))) ?_
  refine mm_fc (ss_ifne hx hb (by decide +kernel : decode cX11_undo 11 = .ok (.ifCond .ne 11, 3)) (by decide)) ?_
  refine mm_fc (ss_aload_n hx hb (by decide +kernel : decode cX11_undo 14 = .ok (.aload_n 0, 1)) rfl) ?_
  refine mm_fc (ss_iconst hx hb (by decide +kernel : decode cX11_undo 15 = .ok (.iconst 4, 1)) (by decide)) ?_
  refine mm_fc (ss_callV X rfl rfl wd_2_147 wd_1_1 wd_2_144 wd_2_146 wd_p_0 (by decide +kernel) (by decide +kernel) (by decide) (by decide +kernel : decode cX11_undo 16 = .ok (.invokevirtual 108, 3))) ?_
  refine mm_fc (ss_pop hx hb (by decide +kernel : decode cX11_undo 19 = .ok (.pop, 1))) ?_
  refine mm_fc (ss_iconst hx hb (by decide +kernel : decode cX11_undo 20 = .ok (.iconst 0, 1)) (by decide)) ?_
  refine mm_fc (ss_zret (by decide +kernel : decode cX11_undo 21 = .ok (.ireturn, 1)) rfl) ?_
  refine mm_fc (ss_iconst hx hb (by decide +kernel : decode cX11_undo 22 = .ok (.iconst 1, 1)) (by decide)) ?_
  refine mm_fc (ss_zret (by decide +kernel : decode cX11_undo 23 = .ok (.ireturn, 1)) rfl) ?_
  exact mm_fn
def cd_X11_seed : mm_K mm_H := [(0, s_iload 1 1), (1, s_if (fun x => 0 ≤ x) 12 4), (4, s_aload 0 5), (5, s_pushI 5 6), (6, s_callV 11 183 1 1 9), (9, s_pop 10), (10, s_pushI 0 11), (11, s_zret), (12, s_aload 0 13), (13, s_iload 1 14), (14, s_putI 11 13 17), (17, s_pushI 1 18), (18, s_zret)]
set_option maxRecDepth 100000 in
set_option maxHeartbeats 4000000 in
theorem ok_X11_seed (l : Launch) : mm_CodeOK l mm_I0 RX11 cX11_seed 2 (some .boolean) cd_X11_seed := by
  intro p e R s m args below meth c Q σ cA D A kc ks d C X
  have hx := X.1
  have hb := X.2.1
  have hown := X.2.2.2.1
  have hts := X.2.2.2.2.1
  refine mm_fc (ss_iload_n hx hb (by decide +kernel : decode cX11_seed 0 = .ok (.iload_n 1, 1)) rfl) ?_
  refine mm_fc (ss_ifge hx hb (by decide +kernel : decode cX11_seed 1 = .ok (.ifCond .ge 11, 3)) (by decide)) ?_
  refine mm_fc (ss_aload_n hx hb (by decide +kernel : decode cX11_seed 4 = .ok (.aload_n 0, 1)) rfl) ?_
  refine mm_fc (ss_iconst hx hb (by decide +kernel : decode cX11_seed 5 = .ok (.iconst 5, 1)) (by decide)) ?_
  refine mm_fc (ss_callV X rfl rfl wd_2_147 wd_1_1 wd_2_144 wd_2_146 wd_p_0 (by decide +kernel) (by decide +kernel) (by decide) (by decide +kernel : decode cX11_seed 6 = .ok (.invokevirtual 108, 3))) ?_
  refine mm_fc (ss_pop hx hb (by decide +kernel : decode cX11_seed 9 = .ok (.pop, 1))) ?_
  refine mm_fc (ss_iconst hx hb (by decide +kernel : decode cX11_seed 10 = .ok (.iconst 0, 1)) (by decide)) ?_
  refine mm_fc (ss_zret (by decide +kernel : decode cX11_seed 11 = .ok (.ireturn, 1)) rfl) ?_
  refine mm_fc (ss_aload_n hx hb (by decide +kernel : decode cX11_seed 12 = .ok (.aload_n 0, 1)) rfl) ?_
  refine mm_fc (ss_iload_n hx hb (by decide +kernel : decode cX11_seed 13 = .ok (.iload_n 1, 1)) rfl) ?_
  refine mm_fc (ss_putI X rfl in_X11 tyX11_ok nmX11 (by decide) rfl rfl rfl rfl wd_2_106 (by decide +kernel : decode cX11_seed 14 = .ok (.putfield 100, 3))) ?_
  refine mm_fc (ss_iconst hx hb (by decide +kernel : decode cX11_seed 17 = .ok (.iconst 1, 1)) (by decide)) ?_
  refine mm_fc (ss_zret (by decide +kernel : decode cX11_seed 18 = .ok (.ireturn, 1)) rfl) ?_
  exact mm_fn
def cd_X11_ask : mm_K mm_H := [(0, s_aload 0 1), (1, s_get 11 12 4), (4, s_if (fun x => x = 0) 29 7), (7, s_aload 0 8), (8, s_get 11 4 11), (11, s_aload 0 12), (12, s_get 11 1 15), (15, s_aload 0 16), (16, s_get 11 2 19), (19, s_callV 5 70 2 1 22), (22, s_if (fun x => x = 0) 29 25), (25, s_pushI 1 26), (26, s_goto 30), (29, s_pushI 0 30), (30, s_istore 1 31), (31, s_aload 0 32), (32, s_get 11 0 35), (35, s_pushI 0 36), (36, s_callV 8 128 1 0 39), (39, s_iload 1 40), (40, s_if (fun x => x = 0) 57 43), (43, s_aload 0 44), (44, s_get 11 4 47), (47, s_aload 0 48), (48, s_get 11 5 51), (51, s_callV 5 71 1 2 54), (54, s_goto 60), (57, s_pushL (-1000000000000000) 60), (60, s_lret)]
set_option maxRecDepth 100000 in
set_option maxHeartbeats 4000000 in
theorem ok_X11_ask (l : Launch) : mm_CodeOK l mm_I0 RX11 cX11_ask 2 (some .long) cd_X11_ask := by
  intro p e R s m args below meth c Q σ cA D A kc ks d C X
  have hx := X.1
  have hb := X.2.1
  have hown := X.2.2.2.1
  have hts := X.2.2.2.2.1
  refine mm_fc (ss_aload_n hx hb (by decide +kernel : decode cX11_ask 0 = .ok (.aload_n 0, 1)) rfl) ?_
  refine mm_fc (ss_get X rfl in_X11 (by decide) rfl wd_2_105 (by decide +kernel : decode cX11_ask 1 = .ok (.getfield 96, 3))) ?_
  refine mm_fc (ss_ifeq hx hb (by decide +kernel : decode cX11_ask 4 = .ok (.ifCond .eq 25, 3)) (by decide)) ?_
  refine mm_fc (ss_aload_n hx hb (by decide +kernel : decode cX11_ask 7 = .ok (.aload_n 0, 1)) rfl) ?_
  refine mm_fc (ss_get X rfl in_X11 (by decide) rfl wd_2_97 (by decide +kernel : decode cX11_ask 8 = .ok (.getfield 28, 3))) ?_
  refine mm_fc (ss_aload_n hx hb (by decide +kernel : decode cX11_ask 11 = .ok (.aload_n 0, 1)) rfl) ?_
  refine mm_fc (ss_get X rfl in_X11 (by decide) rfl wd_2_94 (by decide +kernel : decode cX11_ask 12 = .ok (.getfield 21, 3))) ?_
  refine mm_fc (ss_aload_n hx hb (by decide +kernel : decode cX11_ask 15 = .ok (.aload_n 0, 1)) rfl) ?_
  refine mm_fc (ss_get X rfl in_X11 (by decide) rfl wd_2_95 (by decide +kernel : decode cX11_ask 16 = .ok (.getfield 41, 3))) ?_
  refine mm_fc (ss_callV X rfl rfl wd_5_194 wd_1_4 wd_5_191 wd_5_192 wd_5_193 (by decide +kernel) (by decide +kernel) (by decide) (by decide +kernel : decode cX11_ask 19 = .ok (.invokevirtual 316, 3))) ?_
  refine mm_fc (ss_ifeq hx hb (by decide +kernel : decode cX11_ask 22 = .ok (.ifCond .eq 7, 3)) (by decide)) ?_
  refine mm_fc (ss_iconst hx hb (by decide +kernel : decode cX11_ask 25 = .ok (.iconst 1, 1)) (by decide)) ?_
  refine mm_fc (ss_goto hx hb (by decide +kernel : decode cX11_ask 26 = .ok (.goto 4, 3)) (by decide)) ?_
  refine mm_fc (ss_iconst hx hb (by decide +kernel : decode cX11_ask 29 = .ok (.iconst 0, 1)) (by decide)) ?_
  refine mm_fc (ss_istore_n hx hb (by decide +kernel : decode cX11_ask 30 = .ok (.istore_n 1, 1)) rfl (by decide)) ?_
  refine mm_fc (ss_aload_n hx hb (by decide +kernel : decode cX11_ask 31 = .ok (.aload_n 0, 1)) rfl) ?_
  refine mm_fc (ss_get X rfl in_X11 (by decide) rfl wd_2_93 (by decide +kernel : decode cX11_ask 32 = .ok (.getfield 10, 3))) ?_
  refine mm_fc (ss_iconst hx hb (by decide +kernel : decode cX11_ask 35 = .ok (.iconst 0, 1)) (by decide)) ?_
  refine mm_fc (ss_callV X rfl rfl wd_2_159 wd_1_2 wd_2_156 wd_2_157 wd_2_158 (by decide +kernel) (by decide +kernel) (by decide) (by decide +kernel : decode cX11_ask 36 = .ok (.invokevirtual 116, 3))) ?_
  refine mm_fc (ss_iload_n hx hb (by decide +kernel : decode cX11_ask 39 = .ok (.iload_n 1, 1)) rfl) ?_
  refine mm_fc (ss_ifeq hx hb (by decide +kernel : decode cX11_ask 40 = .ok (.ifCond .eq 17, 3)) (by decide)) ?_
  refine mm_fc (ss_aload_n hx hb (by decide +kernel : decode cX11_ask 43 = .ok (.aload_n 0, 1)) rfl) ?_
  refine mm_fc (ss_get X rfl in_X11 (by decide) rfl wd_2_97 (by decide +kernel : decode cX11_ask 44 = .ok (.getfield 28, 3))) ?_
  refine mm_fc (ss_aload_n hx hb (by decide +kernel : decode cX11_ask 47 = .ok (.aload_n 0, 1)) rfl) ?_
  refine mm_fc (ss_get X rfl in_X11 (by decide) rfl wd_2_98 (by decide +kernel : decode cX11_ask 48 = .ok (.getfield 57, 3))) ?_
  refine mm_fc (ss_callV X rfl rfl wd_5_204 wd_1_4 wd_5_201 wd_5_202 wd_5_203 (by decide +kernel) (by decide +kernel) (by decide) (by decide +kernel : decode cX11_ask 51 = .ok (.invokevirtual 320, 3))) ?_
  refine mm_fc (ss_goto hx hb (by decide +kernel : decode cX11_ask 54 = .ok (.goto 6, 3)) (by decide)) ?_
  refine mm_fc (ss_ldc2 hx hb hown (hts _ (mm_in wd_5_227 rfl)) (by decide +kernel : decode cX11_ask 57 = .ok (.ldc2_w 324, 3))) ?_
  refine mm_fc (ss_lret (by decide +kernel : decode cX11_ask 60 = .ok (.lreturn, 1)) rfl) ?_
  exact mm_fn
def cd_X11_image : mm_K mm_H := [(0, s_aload 0 1), (1, s_get 11 8 4), (4, s_aload 0 5), (5, s_get 11 5 8), (8, s_callV 4 65 1 1 11), (11, s_iret)]
set_option maxRecDepth 100000 in
set_option maxHeartbeats 4000000 in
theorem ok_X11_image (l : Launch) : mm_CodeOK l mm_I0 RX11 cX11_image 1 (some .int) cd_X11_image := by
  intro p e R s m args below meth c Q σ cA D A kc ks d C X
  have hx := X.1
  have hb := X.2.1
  have hown := X.2.2.2.1
  have hts := X.2.2.2.2.1
  refine mm_fc (ss_aload_n hx hb (by decide +kernel : decode cX11_image 0 = .ok (.aload_n 0, 1)) rfl) ?_
  refine mm_fc (ss_get X rfl in_X11 (by decide) rfl wd_2_101 (by decide +kernel : decode cX11_image 1 = .ok (.getfield 78, 3))) ?_
  refine mm_fc (ss_aload_n hx hb (by decide +kernel : decode cX11_image 4 = .ok (.aload_n 0, 1)) rfl) ?_
  refine mm_fc (ss_get X rfl in_X11 (by decide) rfl wd_2_98 (by decide +kernel : decode cX11_image 5 = .ok (.getfield 57, 3))) ?_
  refine mm_fc (ss_callV X rfl rfl wd_5_235 wd_1_11 wd_5_232 wd_5_233 wd_5_234 (by decide +kernel) (by decide +kernel) (by decide) (by decide +kernel : decode cX11_image 8 = .ok (.invokevirtual 326, 3))) ?_
  refine mm_fc (ss_iret (by decide +kernel : decode cX11_image 11 = .ok (.ireturn, 1)) rfl) ?_
  exact mm_fn
def cd_X11_octet : mm_K mm_H := [(0, s_aload 0 1), (1, s_get 11 8 4), (4, s_iload 1 5), (5, s_callV 4 64 1 1 8), (8, s_iret)]
set_option maxRecDepth 100000 in
set_option maxHeartbeats 4000000 in
theorem ok_X11_octet (l : Launch) : mm_CodeOK l mm_I0 RX11 cX11_octet 2 (some .int) cd_X11_octet := by
  intro p e R s m args below meth c Q σ cA D A kc ks d C X
  have hx := X.1
  have hb := X.2.1
  have hown := X.2.2.2.1
  have hts := X.2.2.2.2.1
  refine mm_fc (ss_aload_n hx hb (by decide +kernel : decode cX11_octet 0 = .ok (.aload_n 0, 1)) rfl) ?_
  refine mm_fc (ss_get X rfl in_X11 (by decide) rfl wd_2_101 (by decide +kernel : decode cX11_octet 1 = .ok (.getfield 78, 3))) ?_
  refine mm_fc (ss_iload_n hx hb (by decide +kernel : decode cX11_octet 4 = .ok (.iload_n 1, 1)) rfl) ?_
  refine mm_fc (ss_callV X rfl rfl wd_6_11 wd_1_11 wd_6_8 wd_6_9 wd_6_10 (by decide +kernel) (by decide +kernel) (by decide) (by decide +kernel : decode cX11_octet 5 = .ok (.invokevirtual 329, 3))) ?_
  refine mm_fc (ss_iret (by decide +kernel : decode cX11_octet 8 = .ok (.ireturn, 1)) rfl) ?_
  exact mm_fn
def cd_X11_on : mm_K mm_H := [(0, s_aload 0 1), (1, s_get 11 12 4), (4, s_if (fun x => x = 0) 29 7), (7, s_aload 0 8), (8, s_get 11 8 11), (11, s_aload 0 12), (12, s_get 11 0 15), (15, s_aload 0 16), (16, s_get 11 5 19), (19, s_callV 4 67 2 1 22), (22, s_if (fun x => x = 0) 29 25), (25, s_pushI 1 26), (26, s_goto 30), (29, s_pushI 0 30), (30, s_istore 1 31), (31, s_aload 0 32), (32, s_get 11 0 35), (35, s_pushI 0 36), (36, s_callV 8 128 1 0 39), (39, s_iload 1 40), (40, s_if (fun x => ¬ x = 0) 51 43), (43, s_aload 0 44), (44, s_pushI 5 45), (45, s_callV 11 183 1 1 48), (48, s_pop 49), (49, s_pushI 0 50), (50, s_zret), (51, s_aload 0 52), (52, s_get 11 6 55), (55, s_callV 3 61 0 0 58), (58, s_pushI 1 59), (59, s_zret)]
set_option maxRecDepth 100000 in
set_option maxHeartbeats 4000000 in
theorem ok_X11_on (l : Launch) : mm_CodeOK l mm_I0 RX11 cX11_on 2 (some .boolean) cd_X11_on := by
  intro p e R s m args below meth c Q σ cA D A kc ks d C X
  have hx := X.1
  have hb := X.2.1
  have hown := X.2.2.2.1
  have hts := X.2.2.2.2.1
  refine mm_fc (ss_aload_n hx hb (by decide +kernel : decode cX11_on 0 = .ok (.aload_n 0, 1)) rfl) ?_
  refine mm_fc (ss_get X rfl in_X11 (by decide) rfl wd_2_105 (by decide +kernel : decode cX11_on 1 = .ok (.getfield 96, 3))) ?_
  refine mm_fc (ss_ifeq hx hb (by decide +kernel : decode cX11_on 4 = .ok (.ifCond .eq 25, 3)) (by decide)) ?_
  refine mm_fc (ss_aload_n hx hb (by decide +kernel : decode cX11_on 7 = .ok (.aload_n 0, 1)) rfl) ?_
  refine mm_fc (ss_get X rfl in_X11 (by decide) rfl wd_2_101 (by decide +kernel : decode cX11_on 8 = .ok (.getfield 78, 3))) ?_
  refine mm_fc (ss_aload_n hx hb (by decide +kernel : decode cX11_on 11 = .ok (.aload_n 0, 1)) rfl) ?_
  refine mm_fc (ss_get X rfl in_X11 (by decide) rfl wd_2_93 (by decide +kernel : decode cX11_on 12 = .ok (.getfield 10, 3))) ?_
  refine mm_fc (ss_aload_n hx hb (by decide +kernel : decode cX11_on 15 = .ok (.aload_n 0, 1)) rfl) ?_
  refine mm_fc (ss_get X rfl in_X11 (by decide) rfl wd_2_98 (by decide +kernel : decode cX11_on 16 = .ok (.getfield 57, 3))) ?_
  refine mm_fc (ss_callV X rfl rfl wd_6_19 wd_1_11 wd_6_16 wd_6_17 wd_6_18 (by decide +kernel) (by decide +kernel) (by decide) (by decide +kernel : decode cX11_on 19 = .ok (.invokevirtual 332, 3))) ?_
  refine mm_fc (ss_ifeq hx hb (by decide +kernel : decode cX11_on 22 = .ok (.ifCond .eq 7, 3)) (by decide)) ?_
  refine mm_fc (ss_iconst hx hb (by decide +kernel : decode cX11_on 25 = .ok (.iconst 1, 1)) (by decide)) ?_
  refine mm_fc (ss_goto hx hb (by decide +kernel : decode cX11_on 26 = .ok (.goto 4, 3)) (by decide)) ?_
  refine mm_fc (ss_iconst hx hb (by decide +kernel : decode cX11_on 29 = .ok (.iconst 0, 1)) (by decide)) ?_
  refine mm_fc (ss_istore_n hx hb (by decide +kernel : decode cX11_on 30 = .ok (.istore_n 1, 1)) rfl (by decide)) ?_
  refine mm_fc (ss_aload_n hx hb (by decide +kernel : decode cX11_on 31 = .ok (.aload_n 0, 1)) rfl) ?_
  refine mm_fc (ss_get X rfl in_X11 (by decide) rfl wd_2_93 (by decide +kernel : decode cX11_on 32 = .ok (.getfield 10, 3))) ?_
  refine mm_fc (ss_iconst hx hb (by decide +kernel : decode cX11_on 35 = .ok (.iconst 0, 1)) (by decide)) ?_
  refine mm_fc (ss_callV X rfl rfl wd_2_159 wd_1_2 wd_2_156 wd_2_157 wd_2_158 (by decide +kernel) (by decide +kernel) (by decide) (by decide +kernel : decode cX11_on 36 = .ok (.invokevirtual 116, 3))) ?_
  refine mm_fc (ss_iload_n hx hb (by decide +kernel : decode cX11_on 39 = .ok (.iload_n 1, 1)) rfl) ?_
  refine mm_fc (ss_ifne hx hb (by decide +kernel : decode cX11_on 40 = .ok (.ifCond .ne 11, 3)) (by decide)) ?_
  refine mm_fc (ss_aload_n hx hb (by decide +kernel : decode cX11_on 43 = .ok (.aload_n 0, 1)) rfl) ?_
  refine mm_fc (ss_iconst hx hb (by decide +kernel : decode cX11_on 44 = .ok (.iconst 5, 1)) (by decide)) ?_
  refine mm_fc (ss_callV X rfl rfl wd_2_147 wd_1_1 wd_2_144 wd_2_146 wd_p_0 (by decide +kernel) (by decide +kernel) (by decide) (by decide +kernel : decode cX11_on 45 = .ok (.invokevirtual 108, 3))) ?_
  refine mm_fc (ss_pop hx hb (by decide +kernel : decode cX11_on 48 = .ok (.pop, 1))) ?_
  refine mm_fc (ss_iconst hx hb (by decide +kernel : decode cX11_on 49 = .ok (.iconst 0, 1)) (by decide)) ?_
  refine mm_fc (ss_zret (by decide +kernel : decode cX11_on 50 = .ok (.ireturn, 1)) rfl) ?_
  refine mm_fc (ss_aload_n hx hb (by decide +kernel : decode cX11_on 51 = .ok (.aload_n 0, 1)) rfl) ?_
  refine mm_fc (ss_get X rfl in_X11 (by decide) rfl wd_2_99 (by decide +kernel : decode cX11_on 52 = .ok (.getfield 64, 3))) ?_
  refine mm_fc (ss_callV X rfl rfl wd_4_21 wd_1_9 wd_4_18 wd_4_19 wd_4_20 (by decide +kernel) (by decide +kernel) (by decide) (by decide +kernel : decode cX11_on 55 = .ok (.invokevirtual 130, 3))) ?_
  refine mm_fc (ss_iconst hx hb (by decide +kernel : decode cX11_on 58 = .ok (.iconst 1, 1)) (by decide)) ?_
  refine mm_fc (ss_zret (by decide +kernel : decode cX11_on 59 = .ok (.ireturn, 1)) rfl) ?_
  exact mm_fn
def cd_X11_status : mm_K mm_H := [(0, s_iload 1 1), (1, s_if (fun x => x < 0) 22 4), (4, s_iload 1 5), (5, s_aload 0 6), (6, s_get 11 9 9), (9, s_alen 10), (10, s_icmp (fun x y => y ≤ x) 22 13), (13, s_aload 0 14), (14, s_get 11 9 17), (17, s_iload 1 18), (18, s_iald 19), (19, s_goto 23), (22, s_pushI (-1) 23), (23, s_iret)]
set_option maxRecDepth 100000 in
set_option maxHeartbeats 4000000 in
theorem ok_X11_status (l : Launch) : mm_CodeOK l mm_I0 RX11 cX11_status 2 (some .int) cd_X11_status := by
  intro p e R s m args below meth c Q σ cA D A kc ks d C X
  have hx := X.1
  have hb := X.2.1
  have hown := X.2.2.2.1
  have hts := X.2.2.2.2.1
  refine mm_fc (ss_iload_n hx hb (by decide +kernel : decode cX11_status 0 = .ok (.iload_n 1, 1)) rfl) ?_
  refine mm_fc (ss_iflt hx hb (by decide +kernel : decode cX11_status 1 = .ok (.ifCond .lt 21, 3)) (by decide)) ?_
  refine mm_fc (ss_iload_n hx hb (by decide +kernel : decode cX11_status 4 = .ok (.iload_n 1, 1)) rfl) ?_
  refine mm_fc (ss_aload_n hx hb (by decide +kernel : decode cX11_status 5 = .ok (.aload_n 0, 1)) rfl) ?_
  refine mm_fc (ss_get X rfl in_X11 (by decide) rfl wd_2_102 (by decide +kernel : decode cX11_status 6 = .ok (.getfield 82, 3))) ?_
  refine mm_fc (ss_alen X (by decide +kernel : decode cX11_status 9 = .ok (.arraylength, 1))) ?_
  refine mm_fc (ss_icmpge hx hb (by decide +kernel : decode cX11_status 10 = .ok (.if_icmp .ge 12, 3)) (by decide)) ?_
  refine mm_fc (ss_aload_n hx hb (by decide +kernel : decode cX11_status 13 = .ok (.aload_n 0, 1)) rfl) ?_
  refine mm_fc (ss_get X rfl in_X11 (by decide) rfl wd_2_102 (by decide +kernel : decode cX11_status 14 = .ok (.getfield 82, 3))) ?_
  refine mm_fc (ss_iload_n hx hb (by decide +kernel : decode cX11_status 17 = .ok (.iload_n 1, 1)) rfl) ?_
  refine mm_fc (ss_iald X (by decide +kernel : decode cX11_status 18 = .ok (.iaload, 1))) ?_
  refine mm_fc (ss_goto hx hb (by decide +kernel : decode cX11_status 19 = .ok (.goto 4, 3)) (by decide)) ?_
  refine mm_fc (ss_iconst hx hb (by decide +kernel : decode cX11_status 22 = .ok (.iconst (-1), 1)) (by decide)) ?_
  refine mm_fc (ss_iret (by decide +kernel : decode cX11_status 23 = .ok (.ireturn, 1)) rfl) ?_
  exact mm_fn
def cd_X11_refuse : mm_K mm_H := [(0, s_iload 1 1), (1, s_if (fun x => x < 0) 23 4), (4, s_iload 1 5), (5, s_aload 0 6), (6, s_get 11 9 9), (9, s_alen 10), (10, s_icmp (fun x y => y ≤ x) 23 13), (13, s_aload 0 14), (14, s_get 11 9 17), (17, s_iload 1 18), (18, s_dup2 19), (19, s_iald 20), (20, s_pushI 1 21), (21, s_bin (fun x y => x + y) 22), (22, s_iast 23), (23, s_pushI (-1) 24), (24, s_iret)]
set_option maxRecDepth 100000 in
set_option maxHeartbeats 4000000 in
theorem ok_X11_refuse (l : Launch) : mm_CodeOK l mm_I0 RX11 cX11_refuse 2 (some .int) cd_X11_refuse := by
  intro p e R s m args below meth c Q σ cA D A kc ks d C X
  have hx := X.1
  have hb := X.2.1
  have hown := X.2.2.2.1
  have hts := X.2.2.2.2.1
  refine mm_fc (ss_iload_n hx hb (by decide +kernel : decode cX11_refuse 0 = .ok (.iload_n 1, 1)) rfl) ?_
  refine mm_fc (ss_iflt hx hb (by decide +kernel : decode cX11_refuse 1 = .ok (.ifCond .lt 22, 3)) (by decide)) ?_
  refine mm_fc (ss_iload_n hx hb (by decide +kernel : decode cX11_refuse 4 = .ok (.iload_n 1, 1)) rfl) ?_
  refine mm_fc (ss_aload_n hx hb (by decide +kernel : decode cX11_refuse 5 = .ok (.aload_n 0, 1)) rfl) ?_
  refine mm_fc (ss_get X rfl in_X11 (by decide) rfl wd_2_102 (by decide +kernel : decode cX11_refuse 6 = .ok (.getfield 82, 3))) ?_
  refine mm_fc (ss_alen X (by decide +kernel : decode cX11_refuse 9 = .ok (.arraylength, 1))) ?_
  refine mm_fc (ss_icmpge hx hb (by decide +kernel : decode cX11_refuse 10 = .ok (.if_icmp .ge 13, 3)) (by decide)) ?_
  refine mm_fc (ss_aload_n hx hb (by decide +kernel : decode cX11_refuse 13 = .ok (.aload_n 0, 1)) rfl) ?_
  refine mm_fc (ss_get X rfl in_X11 (by decide) rfl wd_2_102 (by decide +kernel : decode cX11_refuse 14 = .ok (.getfield 82, 3))) ?_
  refine mm_fc (ss_iload_n hx hb (by decide +kernel : decode cX11_refuse 17 = .ok (.iload_n 1, 1)) rfl) ?_
  refine mm_fc (ss_dup2 hx hb (by decide +kernel : decode cX11_refuse 18 = .ok (.dup2, 1))) ?_
  refine mm_fc (ss_iald X (by decide +kernel : decode cX11_refuse 19 = .ok (.iaload, 1))) ?_
  refine mm_fc (ss_iconst hx hb (by decide +kernel : decode cX11_refuse 20 = .ok (.iconst 1, 1)) (by decide)) ?_
  refine mm_fc (ss_iadd hx hb (by decide +kernel : decode cX11_refuse 21 = .ok (.iadd, 1))) ?_
  refine mm_fc (ss_iast X (by decide +kernel : decode cX11_refuse 22 = .ok (.iastore, 1))) ?_
  refine mm_fc (ss_iconst hx hb (by decide +kernel : decode cX11_refuse 23 = .ok (.iconst (-1), 1)) (by decide)) ?_
  refine mm_fc (ss_iret (by decide +kernel : decode cX11_refuse 24 = .ok (.ireturn, 1)) rfl) ?_
  exact mm_fn
def cd_X11_canPass : mm_K mm_H := [(0, s_iload 1 1), (1, s_iload 2 2), (2, s_icmp (fun x y => x < y) 29 5), (5, s_iload 1 6), (6, s_iload 3 7), (7, s_icmp (fun x y => y < x) 29 10), (10, s_aload 0 11), (11, s_get 11 5 14), (14, s_get 7 11 17), (17, s_iload 1 18), (18, s_bin (fun x y => x + y) 19), (19, s_pushI 999 22), (22, s_icmp (fun x y => y < x) 29 25), (25, s_pushI 1 26), (26, s_goto 30), (29, s_pushI 0 30), (30, s_zret)]
set_option maxRecDepth 100000 in
set_option maxHeartbeats 4000000 in
theorem ok_X11_canPass (l : Launch) : mm_CodeOK l mm_I0 RX11 cX11_canPass 4 (some .boolean) cd_X11_canPass := by
  intro p e R s m args below meth c Q σ cA D A kc ks d C X
  have hx := X.1
  have hb := X.2.1
  have hown := X.2.2.2.1
  have hts := X.2.2.2.2.1
  refine mm_fc (ss_iload_n hx hb (by decide +kernel : decode cX11_canPass 0 = .ok (.iload_n 1, 1)) rfl) ?_
  refine mm_fc (ss_iload_n hx hb (by decide +kernel : decode cX11_canPass 1 = .ok (.iload_n 2, 1)) rfl) ?_
  refine mm_fc (ss_icmplt hx hb (by decide +kernel : decode cX11_canPass 2 = .ok (.if_icmp .lt 27, 3)) (by decide)) ?_
  refine mm_fc (ss_iload_n hx hb (by decide +kernel : decode cX11_canPass 5 = .ok (.iload_n 1, 1)) rfl) ?_
  refine mm_fc (ss_iload_n hx hb (by decide +kernel : decode cX11_canPass 6 = .ok (.iload_n 3, 1)) rfl) ?_
  refine mm_fc (ss_icmpgt hx hb (by decide +kernel : decode cX11_canPass 7 = .ok (.if_icmp .gt 22, 3)) (by decide)) ?_
  refine mm_fc (ss_aload_n hx hb (by decide +kernel : decode cX11_canPass 10 = .ok (.aload_n 0, 1)) rfl) ?_
  refine mm_fc (ss_get X rfl in_X11 (by decide) rfl wd_2_98 (by decide +kernel : decode cX11_canPass 11 = .ok (.getfield 57, 3))) ?_
  refine mm_fc (ss_getN X rfl in_X7 (by decide) rfl wd_1_181 (by decide +kernel : decode cX11_canPass 14 = .ok (.getfield 151, 3))) ?_
  refine mm_fc (ss_iload_n hx hb (by decide +kernel : decode cX11_canPass 17 = .ok (.iload_n 1, 1)) rfl) ?_
  refine mm_fc (ss_iadd hx hb (by decide +kernel : decode cX11_canPass 18 = .ok (.iadd, 1))) ?_
  refine mm_fc (ss_sipush hx hb (by decide +kernel : decode cX11_canPass 19 = .ok (.sipush 999, 3)) (by decide)) ?_
  refine mm_fc (ss_icmpgt hx hb (by decide +kernel : decode cX11_canPass 22 = .ok (.if_icmp .gt 7, 3)) (by decide)) ?_
  refine mm_fc (ss_iconst hx hb (by decide +kernel : decode cX11_canPass 25 = .ok (.iconst 1, 1)) (by decide)) ?_
  refine mm_fc (ss_goto hx hb (by decide +kernel : decode cX11_canPass 26 = .ok (.goto 4, 3)) (by decide)) ?_
  refine mm_fc (ss_iconst hx hb (by decide +kernel : decode cX11_canPass 29 = .ok (.iconst 0, 1)) (by decide)) ?_
  refine mm_fc (ss_zret (by decide +kernel : decode cX11_canPass 30 = .ok (.ireturn, 1)) rfl) ?_
  exact mm_fn
def cd_X11_slipOnce : mm_K mm_H := [(0, s_aload 0 1), (1, s_pushI 100 3), (3, s_callV 11 186 1 1 6), (6, s_aload 0 7), (7, s_get 11 10 10), (10, s_get 10 3 13), (13, s_icmp (fun x y => y ≤ x) 26 16), (16, s_aload 0 17), (17, s_get 11 5 20), (20, s_get 7 10 23), (23, s_if (fun x => ¬ x = 0) 28 26), (26, s_pushI 0 27), (27, s_iret), (28, s_aload 0 29), (29, s_aload 0 30), (30, s_get 11 5 33), (33, s_get 7 10 36), (36, s_callV 11 186 1 1 39), (39, s_istore 1 40), (40, s_aload 0 41), (41, s_get 11 5 44), (44, s_iload 1 45), (45, s_aload 0 46), (46, s_pushI 100 48), (48, s_callV 11 186 1 1 51), (51, s_callV 7 112 2 0 54), (54, s_pushI 1 55), (55, s_iret)]
set_option maxRecDepth 100000 in
set_option maxHeartbeats 4000000 in
theorem ok_X11_slipOnce (l : Launch) : mm_CodeOK l mm_I0 RX11 cX11_slipOnce 2 (some .int) cd_X11_slipOnce := by
  intro p e R s m args below meth c Q σ cA D A kc ks d C X
  have hx := X.1
  have hb := X.2.1
  have hown := X.2.2.2.1
  have hts := X.2.2.2.2.1
  refine mm_fc (ss_aload_n hx hb (by decide +kernel : decode cX11_slipOnce 0 = .ok (.aload_n 0, 1)) rfl) ?_
  refine mm_fc (ss_bipush hx hb (by decide +kernel : decode cX11_slipOnce 1 = .ok (.bipush 100, 2)) (by decide)) ?_
  refine mm_fc (ss_callV X rfl rfl wd_5_172 wd_1_1 wd_5_169 wd_5_171 wd_p_41 (by decide +kernel) (by decide +kernel) (by decide) (by decide +kernel : decode cX11_slipOnce 3 = .ok (.invokevirtual 334, 3))) ?_
  refine mm_fc (ss_aload_n hx hb (by decide +kernel : decode cX11_slipOnce 6 = .ok (.aload_n 0, 1)) rfl) ?_
  refine mm_fc (ss_get X rfl in_X11 (by decide) rfl wd_2_103 (by decide +kernel : decode cX11_slipOnce 7 = .ok (.getfield 89, 3))) ?_
  refine mm_fc (ss_getN X rfl in_X10 (by decide) rfl wd_2_78 (by decide +kernel : decode cX11_slipOnce 10 = .ok (.getfield 337, 3))) ?_
  refine mm_fc (ss_icmpge hx hb (by decide +kernel : decode cX11_slipOnce 13 = .ok (.if_icmp .ge 13, 3)) (by decide)) ?_
  refine mm_fc (ss_aload_n hx hb (by decide +kernel : decode cX11_slipOnce 16 = .ok (.aload_n 0, 1)) rfl) ?_
  refine mm_fc (ss_get X rfl in_X11 (by decide) rfl wd_2_98 (by decide +kernel : decode cX11_slipOnce 17 = .ok (.getfield 57, 3))) ?_
  refine mm_fc (ss_getN X rfl in_X7 (by decide) rfl wd_1_175 (by decide +kernel : decode cX11_slipOnce 20 = .ok (.getfield 148, 3))) ?_
  refine mm_fc (ss_ifne hx hb (by decide +kernel : decode cX11_slipOnce 23 = .ok (.ifCond .ne 5, 3)) (by decide)) ?_
  refine mm_fc (ss_iconst hx hb (by decide +kernel : decode cX11_slipOnce 26 = .ok (.iconst 0, 1)) (by decide)) ?_
  refine mm_fc (ss_iret (by decide +kernel : decode cX11_slipOnce 27 = .ok (.ireturn, 1)) rfl) ?_
  refine mm_fc (ss_aload_n hx hb (by decide +kernel : decode cX11_slipOnce 28 = .ok (.aload_n 0, 1)) rfl) ?_
  refine mm_fc (ss_aload_n hx hb (by decide +kernel : decode cX11_slipOnce 29 = .ok (.aload_n 0, 1)) rfl) ?_
  refine mm_fc (ss_get X rfl in_X11 (by decide) rfl wd_2_98 (by decide +kernel : decode cX11_slipOnce 30 = .ok (.getfield 57, 3))) ?_
  refine mm_fc (ss_getN X rfl in_X7 (by decide) rfl wd_1_175 (by decide +kernel : decode cX11_slipOnce 33 = .ok (.getfield 148, 3))) ?_
  refine mm_fc (ss_callV X rfl rfl wd_5_172 wd_1_1 wd_5_169 wd_5_171 wd_p_41 (by decide +kernel) (by decide +kernel) (by decide) (by decide +kernel : decode cX11_slipOnce 36 = .ok (.invokevirtual 334, 3))) ?_
  refine mm_fc (ss_istore_n hx hb (by decide +kernel : decode cX11_slipOnce 39 = .ok (.istore_n 1, 1)) rfl (by decide)) ?_
  refine mm_fc (ss_aload_n hx hb (by decide +kernel : decode cX11_slipOnce 40 = .ok (.aload_n 0, 1)) rfl) ?_
  refine mm_fc (ss_get X rfl in_X11 (by decide) rfl wd_2_98 (by decide +kernel : decode cX11_slipOnce 41 = .ok (.getfield 57, 3))) ?_
  refine mm_fc (ss_iload_n hx hb (by decide +kernel : decode cX11_slipOnce 44 = .ok (.iload_n 1, 1)) rfl) ?_
  refine mm_fc (ss_aload_n hx hb (by decide +kernel : decode cX11_slipOnce 45 = .ok (.aload_n 0, 1)) rfl) ?_
  refine mm_fc (ss_bipush hx hb (by decide +kernel : decode cX11_slipOnce 46 = .ok (.bipush 100, 2)) (by decide)) ?_
  refine mm_fc (ss_callV X rfl rfl wd_5_172 wd_1_1 wd_5_169 wd_5_171 wd_p_41 (by decide +kernel) (by decide +kernel) (by decide) (by decide +kernel : decode cX11_slipOnce 48 = .ok (.invokevirtual 334, 3))) ?_
  refine mm_fc (ss_callV X rfl rfl wd_4_231 wd_1_8 wd_5_150 wd_4_229 wd_4_230 (by decide +kernel) (by decide +kernel) (by decide) (by decide +kernel : decode cX11_slipOnce 51 = .ok (.invokevirtual 296, 3))) ?_
  refine mm_fc (ss_iconst hx hb (by decide +kernel : decode cX11_slipOnce 54 = .ok (.iconst 1, 1)) (by decide)) ?_
  refine mm_fc (ss_iret (by decide +kernel : decode cX11_slipOnce 55 = .ok (.ireturn, 1)) rfl) ?_
  exact mm_fn
def cd_X11_draw : mm_K mm_H := [(0, s_aload 0 1), (1, s_pushI 1103515245 4), (4, s_aload 0 5), (5, s_get 11 13 8), (8, s_bin (fun x y => x * y) 9), (9, s_pushI 12345 12), (12, s_bin (fun x y => x + y) 13), (13, s_pushI 2147483647 16), (16, s_bin (fun x y => x &&& y) 17), (17, s_putI 11 13 20), (20, s_iload 1 21), (21, s_if (fun x => x ≤ 0) 36 24), (24, s_aload 0 25), (25, s_get 11 13 28), (28, s_pushI 64 30), (30, s_bin0 (fun x y => x / y) 31), (31, s_iload 1 32), (32, s_bin0 (fun x y => x - x / y * y) 33), (33, s_goto 37), (36, s_pushI 0 37), (37, s_iret)]
set_option maxRecDepth 100000 in
set_option maxHeartbeats 4000000 in
theorem ok_X11_draw (l : Launch) : mm_CodeOK l mm_I0 RX11 cX11_draw 2 (some .int) cd_X11_draw := by
  intro p e R s m args below meth c Q σ cA D A kc ks d C X
  have hx := X.1
  have hb := X.2.1
  have hown := X.2.2.2.1
  have hts := X.2.2.2.2.1
  refine mm_fc (ss_aload_n hx hb (by decide +kernel : decode cX11_draw 0 = .ok (.aload_n 0, 1)) rfl) ?_
  refine mm_fc (ss_ldcw hx hb hown (hts _ (mm_in wd_5_173 rfl)) (by decide +kernel : decode cX11_draw 1 = .ok (.ldc_w 340, 3))) ?_
  refine mm_fc (ss_aload_n hx hb (by decide +kernel : decode cX11_draw 4 = .ok (.aload_n 0, 1)) rfl) ?_
  refine mm_fc (ss_get X rfl in_X11 (by decide) rfl wd_2_106 (by decide +kernel : decode cX11_draw 5 = .ok (.getfield 100, 3))) ?_
  refine mm_fc (ss_imul hx hb (by decide +kernel : decode cX11_draw 8 = .ok (.imul, 1))) ?_
  refine mm_fc (ss_sipush hx hb (by decide +kernel : decode cX11_draw 9 = .ok (.sipush 12345, 3)) (by decide)) ?_
  refine mm_fc (ss_iadd hx hb (by decide +kernel : decode cX11_draw 12 = .ok (.iadd, 1))) ?_
  refine mm_fc (ss_ldcw hx hb hown (hts _ (mm_in wd_5_174 rfl)) (by decide +kernel : decode cX11_draw 13 = .ok (.ldc_w 341, 3))) ?_
  refine mm_fc (ss_iand hx hb (by decide +kernel : decode cX11_draw 16 = .ok (.iand, 1))) ?_
  refine mm_fc (ss_putI X rfl in_X11 tyX11_ok nmX11 (by decide) rfl rfl rfl rfl wd_2_106 (by decide +kernel : decode cX11_draw 17 = .ok (.putfield 100, 3))) ?_
  refine mm_fc (ss_iload_n hx hb (by decide +kernel : decode cX11_draw 20 = .ok (.iload_n 1, 1)) rfl) ?_
  refine mm_fc (ss_ifle hx hb (by decide +kernel : decode cX11_draw 21 = .ok (.ifCond .le 15, 3)) (by decide)) ?_
  refine mm_fc (ss_aload_n hx hb (by decide +kernel : decode cX11_draw 24 = .ok (.aload_n 0, 1)) rfl) ?_
  refine mm_fc (ss_get X rfl in_X11 (by decide) rfl wd_2_106 (by decide +kernel : decode cX11_draw 25 = .ok (.getfield 100, 3))) ?_
  refine mm_fc (ss_bipush hx hb (by decide +kernel : decode cX11_draw 28 = .ok (.bipush 64, 2)) (by decide)) ?_
  refine mm_fc (ss_idiv hx hb (by decide +kernel : decode cX11_draw 30 = .ok (.idiv, 1))) ?_
  refine mm_fc (ss_iload_n hx hb (by decide +kernel : decode cX11_draw 31 = .ok (.iload_n 1, 1)) rfl) ?_
  refine mm_fc (ss_irem hx hb (by decide +kernel : decode cX11_draw 32 = .ok (.irem, 1))) ?_
  refine mm_fc (ss_goto hx hb (by decide +kernel : decode cX11_draw 33 = .ok (.goto 4, 3)) (by decide)) ?_
  refine mm_fc (ss_iconst hx hb (by decide +kernel : decode cX11_draw 36 = .ok (.iconst 0, 1)) (by decide)) ?_
  refine mm_fc (ss_iret (by decide +kernel : decode cX11_draw 37 = .ok (.ireturn, 1)) rfl) ?_
  exact mm_fn
def cd_X11_within : mm_K mm_H := [(0, s_pushI 0 1), (1, s_iload 1 2), (2, s_iload 0 3), (3, s_callS 11 2 1 6), (6, s_callS 9 2 1 9), (9, s_iret)]
set_option maxRecDepth 100000 in
set_option maxHeartbeats 4000000 in
theorem ok_X11_within (l : Launch) : mm_CodeOK l mm_I0 RX11 cX11_within 2 (some .int) cd_X11_within := by
  intro p e R s m args below meth c Q σ cA D A kc ks d C X
  have hx := X.1
  have hb := X.2.1
  have hown := X.2.2.2.1
  have hts := X.2.2.2.2.1
  refine mm_fc (ss_iconst hx hb (by decide +kernel : decode cX11_within 0 = .ok (.iconst 0, 1)) (by decide)) ?_
  refine mm_fc (ss_iload_n hx hb (by decide +kernel : decode cX11_within 1 = .ok (.iload_n 1, 1)) rfl) ?_
  refine mm_fc (ss_iload_n hx hb (by decide +kernel : decode cX11_within 2 = .ok (.iload_n 0, 1)) rfl) ?_
  refine mm_fc (ss_callS X rfl wd_2_162 wd_1_14 wd_4_187 wd_2_161 (by decide +kernel) (by decide +kernel) (by decide) (by decide +kernel : decode cX11_within 3 = .ok (.invokestatic 342, 3))) ?_
  refine mm_fc (ss_callS X rfl wd_2_165 wd_1_14 wd_4_188 wd_2_164 (by decide +kernel) (by decide +kernel) (by decide) (by decide +kernel : decode cX11_within 6 = .ok (.invokestatic 347, 3))) ?_
  refine mm_fc (ss_iret (by decide +kernel : decode cX11_within 9 = .ok (.ireturn, 1)) rfl) ?_
  exact mm_fn
def cd_X12_isIn : mm_K mm_H := [(0, s_lload 0 1), (1, s_lload 2 2), (2, s_lcmp 3), (3, s_if (fun x => x < 0) 17 6), (6, s_lload 0 7), (7, s_lload 4 9), (9, s_lcmp 10), (10, s_if (fun x => 0 < x) 17 13), (13, s_pushI 1 14), (14, s_goto 18), (17, s_pushI 0 18), (18, s_zret)]
set_option maxRecDepth 100000 in
set_option maxHeartbeats 4000000 in
theorem ok_X12_isIn (l : Launch) : mm_CodeOK l mm_I0 RX12 cX12_isIn 6 (some .boolean) cd_X12_isIn := by
  intro p e R s m args below meth c Q σ cA D A kc ks d C X
  have hx := X.1
  have hb := X.2.1
  have hown := X.2.2.2.1
  have hts := X.2.2.2.2.1
  refine mm_fc (ss_lload_n hx hb (by decide +kernel : decode cX12_isIn 0 = .ok (.lload_n 0, 1)) rfl) ?_
  refine mm_fc (ss_lload_n hx hb (by decide +kernel : decode cX12_isIn 1 = .ok (.lload_n 2, 1)) rfl) ?_
  refine mm_fc (ss_lcmp hx hb (by decide +kernel : decode cX12_isIn 2 = .ok (.lcmp, 1))) ?_
  refine mm_fc (ss_iflt hx hb (by decide +kernel : decode cX12_isIn 3 = .ok (.ifCond .lt 14, 3)) (by decide)) ?_
  refine mm_fc (ss_lload_n hx hb (by decide +kernel : decode cX12_isIn 6 = .ok (.lload_n 0, 1)) rfl) ?_
  refine mm_fc (ss_lload hx hb (by decide +kernel : decode cX12_isIn 7 = .ok (.lload 4, 2))) ?_
  refine mm_fc (ss_lcmp hx hb (by decide +kernel : decode cX12_isIn 9 = .ok (.lcmp, 1))) ?_
  refine mm_fc (ss_ifgt hx hb (by decide +kernel : decode cX12_isIn 10 = .ok (.ifCond .gt 7, 3)) (by decide)) ?_
  refine mm_fc (ss_iconst hx hb (by decide +kernel : decode cX12_isIn 13 = .ok (.iconst 1, 1)) (by decide)) ?_
  refine mm_fc (ss_goto hx hb (by decide +kernel : decode cX12_isIn 14 = .ok (.goto 4, 3)) (by decide)) ?_
  refine mm_fc (ss_iconst hx hb (by decide +kernel : decode cX12_isIn 17 = .ok (.iconst 0, 1)) (by decide)) ?_
  refine mm_fc (ss_zret (by decide +kernel : decode cX12_isIn 18 = .ok (.ireturn, 1)) rfl) ?_
  exact mm_fn
def cd_X12_feed : mm_K mm_H := [(0, s_aload 0 1), (1, s_get 12 1 4), (4, s_pushI 20 6), (6, s_bin (fun x y => x + y) 7), (7, s_pushI 1600 10), (10, s_icmp (fun x y => x ≤ y) 25 13), (13, s_aload 0 14), (14, s_get 12 9 17), (17, s_pushI 0 18), (18, s_dup2 19), (19, s_iald 20), (20, s_pushI 1 21), (21, s_bin (fun x y => x + y) 22), (22, s_iast 23), (23, s_pushI (-1) 24), (24, s_iret), (25, s_pushI 0 26), (26, s_kill 28 [7] (s_istore 6 28)), (28, s_iload 6 30), (30, s_pushI 20 32), (32, s_icmp (fun x y => y ≤ x) 124 35), (35, s_iload 6 37), (37, s_pushI 4 38), (38, s_icmp (fun x y => y ≤ x) 45 41), (41, s_iload 1 42), (42, s_goto 81), (45, s_iload 6 47), (47, s_pushI 8 49), (49, s_icmp (fun x y => y ≤ x) 56 52), (52, s_iload 2 53), (53, s_goto 81), (56, s_iload 6 58), (58, s_pushI 12 60), (60, s_icmp (fun x y => y ≤ x) 67 63), (63, s_iload 3 64), (64, s_goto 81), (67, s_iload 6 69), (69, s_pushI 16 71), (71, s_icmp (fun x y => y ≤ x) 79 74), (74, s_iload 4 76), (76, s_goto 81), (79, s_iload 5 81), (81, s_istore 7 83), (83, s_aload 0 84), (84, s_get 12 0 87), (87, s_aload 0 88), (88, s_get 12 1 91), (91, s_iload 7 93), (93, s_pushI 8 95), (95, s_pushI 3 96), (96, s_iload 6 98), (98, s_pushI 4 99), (99, s_bin0 (fun x y => x - x / y * y) 100), (100, s_bin (fun x y => x - y) 101), (101, s_bin (fun x y => x * y) 102), (102, s_bin (fun x y => x >>> (y &&& 31)) 103), (103, s_pushI 255 106), (106, s_bin (fun x y => x &&& y) 107), (107, s_iast 108), (108, s_aload 0 109), (109, s_dup 110), (110, s_get 12 1 113), (113, s_pushI 1 114), (114, s_bin (fun x y => x + y) 115), (115, s_putI 12 1 118), (118, s_iinc 6 1 121), (121, s_kill 28 [7] (s_goto 28)), (124, s_aload 0 125), (125, s_get 12 1 128), (128, s_iret)]
set_option maxRecDepth 100000 in
set_option maxHeartbeats 4000000 in
theorem ok_X12_feed (l : Launch) : mm_CodeOK l mm_I0 RX12 cX12_feed 8 (some .int) cd_X12_feed := by
  intro p e R s m args below meth c Q σ cA D A kc ks d C X
  have hx := X.1
  have hb := X.2.1
  have hown := X.2.2.2.1
  have hts := X.2.2.2.2.1
  refine mm_fc (ss_aload_n hx hb (by decide +kernel : decode cX12_feed 0 = .ok (.aload_n 0, 1)) rfl) ?_
  refine mm_fc (ss_get X rfl in_X12 (by decide) rfl wd_6_47 (by decide +kernel : decode cX12_feed 1 = .ok (.getfield 234, 3))) ?_
  refine mm_fc (ss_bipush hx hb (by decide +kernel : decode cX12_feed 4 = .ok (.bipush 20, 2)) (by decide)) ?_
  refine mm_fc (ss_iadd hx hb (by decide +kernel : decode cX12_feed 6 = .ok (.iadd, 1))) ?_
  refine mm_fc (ss_sipush hx hb (by decide +kernel : decode cX12_feed 7 = .ok (.sipush 1600, 3)) (by decide)) ?_
  refine mm_fc (ss_icmple hx hb (by decide +kernel : decode cX12_feed 10 = .ok (.if_icmp .le 15, 3)) (by decide)) ?_
  refine mm_fc (ss_aload_n hx hb (by decide +kernel : decode cX12_feed 13 = .ok (.aload_n 0, 1)) rfl) ?_
  refine mm_fc (ss_get X rfl in_X12 (by decide) rfl wd_6_55 (by decide +kernel : decode cX12_feed 14 = .ok (.getfield 17, 3))) ?_
  refine mm_fc (ss_iconst hx hb (by decide +kernel : decode cX12_feed 17 = .ok (.iconst 0, 1)) (by decide)) ?_
  refine mm_fc (ss_dup2 hx hb (by decide +kernel : decode cX12_feed 18 = .ok (.dup2, 1))) ?_
  refine mm_fc (ss_iald X (by decide +kernel : decode cX12_feed 19 = .ok (.iaload, 1))) ?_
  refine mm_fc (ss_iconst hx hb (by decide +kernel : decode cX12_feed 20 = .ok (.iconst 1, 1)) (by decide)) ?_
  refine mm_fc (ss_iadd hx hb (by decide +kernel : decode cX12_feed 21 = .ok (.iadd, 1))) ?_
  refine mm_fc (ss_iast X (by decide +kernel : decode cX12_feed 22 = .ok (.iastore, 1))) ?_
  refine mm_fc (ss_iconst hx hb (by decide +kernel : decode cX12_feed 23 = .ok (.iconst (-1), 1)) (by decide)) ?_
  refine mm_fc (ss_iret (by decide +kernel : decode cX12_feed 24 = .ok (.ireturn, 1)) rfl) ?_
  refine mm_fc (ss_iconst hx hb (by decide +kernel : decode cX12_feed 25 = .ok (.iconst 0, 1)) (by decide)) ?_
  refine mm_fc (ss_kill (ss_istore hx hb (by decide +kernel : decode cX12_feed 26 = .ok (.istore 6, 2)) (by decide))) ?_
  refine mm_fc (ss_iload hx hb (by decide +kernel : decode cX12_feed 28 = .ok (.iload 6, 2))) ?_
  refine mm_fc (ss_bipush hx hb (by decide +kernel : decode cX12_feed 30 = .ok (.bipush 20, 2)) (by decide)) ?_
  refine mm_fc (ss_icmpge hx hb (by decide +kernel : decode cX12_feed 32 = .ok (.if_icmp .ge 92, 3)) (by decide)) ?_
  refine mm_fc (ss_iload hx hb (by decide +kernel : decode cX12_feed 35 = .ok (.iload 6, 2))) ?_
  refine mm_fc (ss_iconst hx hb (by decide +kernel : decode cX12_feed 37 = .ok (.iconst 4, 1)) (by decide)) ?_
  refine mm_fc (ss_icmpge hx hb (by decide +kernel : decode cX12_feed 38 = .ok (.if_icmp .ge 7, 3)) (by decide)) ?_
  refine mm_fc (ss_iload_n hx hb (by decide +kernel : decode cX12_feed 41 = .ok (.iload_n 1, 1)) rfl) ?_
  refine mm_fc (ss_goto hx hb (by decide +kernel : decode cX12_feed 42 = .ok (.goto 39, 3)) (by decide)) ?_
  refine mm_fc (ss_iload hx hb (by decide +kernel : decode cX12_feed 45 = .ok (.iload 6, 2))) ?_
  refine mm_fc (ss_bipush hx hb (by decide +kernel : decode cX12_feed 47 = .ok (.bipush 8, 2)) (by decide)) ?_
  refine mm_fc (ss_icmpge hx hb (by decide +kernel : decode cX12_feed 49 = .ok (.if_icmp .ge 7, 3)) (by decide)) ?_
  refine mm_fc (ss_iload_n hx hb (by decide +kernel : decode cX12_feed 52 = .ok (.iload_n 2, 1)) rfl) ?_
  refine mm_fc (ss_goto hx hb (by decide +kernel : decode cX12_feed 53 = .ok (.goto 28, 3)) (by decide)) ?_
  refine mm_fc (ss_iload hx hb (by decide +kernel : decode cX12_feed 56 = .ok (.iload 6, 2))) ?_
  refine mm_fc (ss_bipush hx hb (by decide +kernel : decode cX12_feed 58 = .ok (.bipush 12, 2)) (by decide)) ?_
  refine mm_fc (ss_icmpge hx hb (by decide +kernel : decode cX12_feed 60 = .ok (.if_icmp .ge 7, 3)) (by decide)) ?_
  refine mm_fc (ss_iload_n hx hb (by decide +kernel : decode cX12_feed 63 = .ok (.iload_n 3, 1)) rfl) ?_
  refine mm_fc (ss_goto hx hb (by decide +kernel : decode cX12_feed 64 = .ok (.goto 17, 3)) (by decide)) ?_
  refine mm_fc (ss_iload hx hb (by decide +kernel : decode cX12_feed 67 = .ok (.iload 6, 2))) ?_
  refine mm_fc (ss_bipush hx hb (by decide +kernel : decode cX12_feed 69 = .ok (.bipush 16, 2)) (by decide)) ?_
  refine mm_fc (ss_icmpge hx hb (by decide +kernel : decode cX12_feed 71 = .ok (.if_icmp .ge 8, 3)) (by decide)) ?_
  refine mm_fc (ss_iload hx hb (by decide +kernel : decode cX12_feed 74 = .ok (.iload 4, 2))) ?_
  refine mm_fc (ss_goto hx hb (by decide +kernel : decode cX12_feed 76 = .ok (.goto 5, 3)) (by decide)) ?_
  refine mm_fc (ss_iload hx hb (by decide +kernel : decode cX12_feed 79 = .ok (.iload 5, 2))) ?_
  refine mm_fc (ss_istore hx hb (by decide +kernel : decode cX12_feed 81 = .ok (.istore 7, 2)) (by decide)) ?_
  refine mm_fc (ss_aload_n hx hb (by decide +kernel : decode cX12_feed 83 = .ok (.aload_n 0, 1)) rfl) ?_
  refine mm_fc (ss_get X rfl in_X12 (by decide) rfl wd_6_46 (by decide +kernel : decode cX12_feed 84 = .ok (.getfield 7, 3))) ?_
  refine mm_fc (ss_aload_n hx hb (by decide +kernel : decode cX12_feed 87 = .ok (.aload_n 0, 1)) rfl) ?_
  refine mm_fc (ss_get X rfl in_X12 (by decide) rfl wd_6_47 (by decide +kernel : decode cX12_feed 88 = .ok (.getfield 234, 3))) ?_
  refine mm_fc (ss_iload hx hb (by decide +kernel : decode cX12_feed 91 = .ok (.iload 7, 2))) ?_
  refine mm_fc (ss_bipush hx hb (by decide +kernel : decode cX12_feed 93 = .ok (.bipush 8, 2)) (by decide)) ?_
  refine mm_fc (ss_iconst hx hb (by decide +kernel : decode cX12_feed 95 = .ok (.iconst 3, 1)) (by decide)) ?_
  refine mm_fc (ss_iload hx hb (by decide +kernel : decode cX12_feed 96 = .ok (.iload 6, 2))) ?_
  refine mm_fc (ss_iconst hx hb (by decide +kernel : decode cX12_feed 98 = .ok (.iconst 4, 1)) (by decide)) ?_
  refine mm_fc (ss_irem hx hb (by decide +kernel : decode cX12_feed 99 = .ok (.irem, 1))) ?_
  refine mm_fc (ss_isub hx hb (by decide +kernel : decode cX12_feed 100 = .ok (.isub, 1))) ?_
  refine mm_fc (ss_imul hx hb (by decide +kernel : decode cX12_feed 101 = .ok (.imul, 1))) ?_
  refine mm_fc (ss_ishr hx hb (by decide +kernel : decode cX12_feed 102 = .ok (.ishr, 1))) ?_
  refine mm_fc (ss_sipush hx hb (by decide +kernel : decode cX12_feed 103 = .ok (.sipush 255, 3)) (by decide)) ?_
  refine mm_fc (ss_iand hx hb (by decide +kernel : decode cX12_feed 106 = .ok (.iand, 1))) ?_
  refine mm_fc (ss_iast X (by decide +kernel : decode cX12_feed 107 = .ok (.iastore, 1))) ?_
  refine mm_fc (ss_aload_n hx hb (by decide +kernel : decode cX12_feed 108 = .ok (.aload_n 0, 1)) rfl) ?_
  refine mm_fc (ss_dup hx hb (by decide +kernel : decode cX12_feed 109 = .ok (.dup, 1))) ?_
  refine mm_fc (ss_get X rfl in_X12 (by decide) rfl wd_6_47 (by decide +kernel : decode cX12_feed 110 = .ok (.getfield 234, 3))) ?_
  refine mm_fc (ss_iconst hx hb (by decide +kernel : decode cX12_feed 113 = .ok (.iconst 1, 1)) (by decide)) ?_
  refine mm_fc (ss_iadd hx hb (by decide +kernel : decode cX12_feed 114 = .ok (.iadd, 1))) ?_
  refine mm_fc (ss_putI X rfl in_X12 tyX12_ok nmX12 (by decide) rfl rfl rfl rfl wd_6_47 (by decide +kernel : decode cX12_feed 115 = .ok (.putfield 234, 3))) ?_
  refine mm_fc (ss_iinc hx hb (by decide +kernel : decode cX12_feed 118 = .ok (.iinc 6 1, 3)) (by decide) (by decide)) ?_
  refine mm_fc (ss_kill (ss_goto hx hb (by decide +kernel : decode cX12_feed 121 = .ok (.goto (-93), 3)) (by decide))) ?_
  refine mm_fc (ss_aload_n hx hb (by decide +kernel : decode cX12_feed 124 = .ok (.aload_n 0, 1)) rfl) ?_
  refine mm_fc (ss_get X rfl in_X12 (by decide) rfl wd_6_47 (by decide +kernel : decode cX12_feed 125 = .ok (.getfield 234, 3))) ?_
  refine mm_fc (ss_iret (by decide +kernel : decode cX12_feed 128 = .ok (.ireturn, 1)) rfl) ?_
  exact mm_fn
def cd_X12_end : mm_K mm_H := [(0, s_iload 1 1), (1, s_if (fun x => x < 0) 12 4), (4, s_iload 1 5), (5, s_aload 0 6), (6, s_get 12 1 9), (9, s_icmp (fun x y => x ≤ y) 24 12), (12, s_aload 0 13), (13, s_get 12 9 16), (16, s_pushI 0 17), (17, s_dup2 18), (18, s_iald 19), (19, s_pushI 1 20), (20, s_bin (fun x y => x + y) 21), (21, s_iast 22), (22, s_pushI 0 23), (23, s_zret), (24, s_aload 0 25), (25, s_iload 1 26), (26, s_putI 12 1 29), (29, s_pushI 1 30), (30, s_zret)]
set_option maxRecDepth 100000 in
set_option maxHeartbeats 4000000 in
theorem ok_X12_end (l : Launch) : mm_CodeOK l mm_I0 RX12 cX12_end 2 (some .boolean) cd_X12_end := by
  intro p e R s m args below meth c Q σ cA D A kc ks d C X
  have hx := X.1
  have hb := X.2.1
  have hown := X.2.2.2.1
  have hts := X.2.2.2.2.1
  refine mm_fc (ss_iload_n hx hb (by decide +kernel : decode cX12_end 0 = .ok (.iload_n 1, 1)) rfl) ?_
  refine mm_fc (ss_iflt hx hb (by decide +kernel : decode cX12_end 1 = .ok (.ifCond .lt 11, 3)) (by decide)) ?_
  refine mm_fc (ss_iload_n hx hb (by decide +kernel : decode cX12_end 4 = .ok (.iload_n 1, 1)) rfl) ?_
  refine mm_fc (ss_aload_n hx hb (by decide +kernel : decode cX12_end 5 = .ok (.aload_n 0, 1)) rfl) ?_
  refine mm_fc (ss_get X rfl in_X12 (by decide) rfl wd_6_47 (by decide +kernel : decode cX12_end 6 = .ok (.getfield 234, 3))) ?_
  refine mm_fc (ss_icmple hx hb (by decide +kernel : decode cX12_end 9 = .ok (.if_icmp .le 15, 3)) (by decide)) ?_
  refine mm_fc (ss_aload_n hx hb (by decide +kernel : decode cX12_end 12 = .ok (.aload_n 0, 1)) rfl) ?_
  refine mm_fc (ss_get X rfl in_X12 (by decide) rfl wd_6_55 (by decide +kernel : decode cX12_end 13 = .ok (.getfield 17, 3))) ?_
  refine mm_fc (ss_iconst hx hb (by decide +kernel : decode cX12_end 16 = .ok (.iconst 0, 1)) (by decide)) ?_
  refine mm_fc (ss_dup2 hx hb (by decide +kernel : decode cX12_end 17 = .ok (.dup2, 1))) ?_
  refine mm_fc (ss_iald X (by decide +kernel : decode cX12_end 18 = .ok (.iaload, 1))) ?_
  refine mm_fc (ss_iconst hx hb (by decide +kernel : decode cX12_end 19 = .ok (.iconst 1, 1)) (by decide)) ?_
  refine mm_fc (ss_iadd hx hb (by decide +kernel : decode cX12_end 20 = .ok (.iadd, 1))) ?_
  refine mm_fc (ss_iast X (by decide +kernel : decode cX12_end 21 = .ok (.iastore, 1))) ?_
  refine mm_fc (ss_iconst hx hb (by decide +kernel : decode cX12_end 22 = .ok (.iconst 0, 1)) (by decide)) ?_
  refine mm_fc (ss_zret (by decide +kernel : decode cX12_end 23 = .ok (.ireturn, 1)) rfl) ?_
  refine mm_fc (ss_aload_n hx hb (by decide +kernel : decode cX12_end 24 = .ok (.aload_n 0, 1)) rfl) ?_
  refine mm_fc (ss_iload_n hx hb (by decide +kernel : decode cX12_end 25 = .ok (.iload_n 1, 1)) rfl) ?_
  refine mm_fc (ss_putI X rfl in_X12 tyX12_ok nmX12 (by decide) rfl rfl rfl rfl wd_6_47 (by decide +kernel : decode cX12_end 26 = .ok (.putfield 234, 3))) ?_
  refine mm_fc (ss_iconst hx hb (by decide +kernel : decode cX12_end 29 = .ok (.iconst 1, 1)) (by decide)) ?_
  refine mm_fc (ss_zret (by decide +kernel : decode cX12_end 30 = .ok (.ireturn, 1)) rfl) ?_
  exact mm_fn
def cd_X12_fail : mm_K mm_H := [(0, s_aload 0 1), (1, s_get 12 5 4), (4, s_if (fun x => x = 0) 8 7), (7, s_vret), (8, s_aload 0 9), (9, s_iload 1 10), (10, s_putI 12 5 13), (13, s_aload 0 14), (14, s_iload 2 15), (15, s_putI 12 6 18), (18, s_vret)]
set_option maxRecDepth 100000 in
set_option maxHeartbeats 4000000 in
theorem ok_X12_fail (l : Launch) : mm_CodeOK l mm_I0 RX12 cX12_fail 3 none cd_X12_fail := by
  intro p e R s m args below meth c Q σ cA D A kc ks d C X
  have hx := X.1
  have hb := X.2.1
  have hown := X.2.2.2.1
  have hts := X.2.2.2.2.1
  refine mm_fc (ss_aload_n hx hb (by decide +kernel : decode cX12_fail 0 = .ok (.aload_n 0, 1)) rfl) ?_
  refine mm_fc (ss_get X rfl in_X12 (by decide) rfl wd_6_51 (by decide +kernel : decode cX12_fail 1 = .ok (.getfield 237, 3))) ?_
  refine mm_fc (ss_ifeq hx hb (by decide +kernel : decode cX12_fail 4 = .ok (.ifCond .eq 4, 3)) (by decide)) ?_
  refine mm_fc (ss_vret (by decide +kernel : decode cX12_fail 7 = .ok (.return_, 1)) rfl) ?_
  refine mm_fc (ss_aload_n hx hb (by decide +kernel : decode cX12_fail 8 = .ok (.aload_n 0, 1)) rfl) ?_
  refine mm_fc (ss_iload_n hx hb (by decide +kernel : decode cX12_fail 9 = .ok (.iload_n 1, 1)) rfl) ?_
  refine mm_fc (ss_putI X rfl in_X12 tyX12_ok nmX12 (by decide) rfl rfl rfl rfl wd_6_51 (by decide +kernel : decode cX12_fail 10 = .ok (.putfield 237, 3))) ?_
  refine mm_fc (ss_aload_n hx hb (by decide +kernel : decode cX12_fail 13 = .ok (.aload_n 0, 1)) rfl) ?_
  refine mm_fc (ss_iload_n hx hb (by decide +kernel : decode cX12_fail 14 = .ok (.iload_n 2, 1)) rfl) ?_
  refine mm_fc (ss_putI X rfl in_X12 tyX12_ok nmX12 (by decide) rfl rfl rfl rfl wd_6_52 (by decide +kernel : decode cX12_fail 15 = .ok (.putfield 240, 3))) ?_
  refine mm_fc (ss_vret (by decide +kernel : decode cX12_fail 18 = .ok (.return_, 1)) rfl) ?_
  exact mm_fn
def cd_X12_isLetter : mm_K mm_H := [(0, s_iload 0 1), (1, s_pushI 97 3), (3, s_icmp (fun x y => x < y) 16 6), (6, s_iload 0 7), (7, s_pushI 122 9), (9, s_icmp (fun x y => y < x) 16 12), (12, s_pushI 1 13), (13, s_goto 17), (16, s_pushI 0 17), (17, s_zret)]
set_option maxRecDepth 100000 in
set_option maxHeartbeats 4000000 in
theorem ok_X12_isLetter (l : Launch) : mm_CodeOK l mm_I0 RX12 cX12_isLetter 1 (some .boolean) cd_X12_isLetter := by
  intro p e R s m args below meth c Q σ cA D A kc ks d C X
  have hx := X.1
  have hb := X.2.1
  have hown := X.2.2.2.1
  have hts := X.2.2.2.2.1
  refine mm_fc (ss_iload_n hx hb (by decide +kernel : decode cX12_isLetter 0 = .ok (.iload_n 0, 1)) rfl) ?_
  refine mm_fc (ss_bipush hx hb (by decide +kernel : decode cX12_isLetter 1 = .ok (.bipush 97, 2)) (by decide)) ?_
  refine mm_fc (ss_icmplt hx hb (by decide +kernel : decode cX12_isLetter 3 = .ok (.if_icmp .lt 13, 3)) (by decide)) ?_
  refine mm_fc (ss_iload_n hx hb (by decide +kernel : decode cX12_isLetter 6 = .ok (.iload_n 0, 1)) rfl) ?_
  refine mm_fc (ss_bipush hx hb (by decide +kernel : decode cX12_isLetter 7 = .ok (.bipush 122, 2)) (by decide)) ?_
  refine mm_fc (ss_icmpgt hx hb (by decide +kernel : decode cX12_isLetter 9 = .ok (.if_icmp .gt 7, 3)) (by decide)) ?_
  refine mm_fc (ss_iconst hx hb (by decide +kernel : decode cX12_isLetter 12 = .ok (.iconst 1, 1)) (by decide)) ?_
  refine mm_fc (ss_goto hx hb (by decide +kernel : decode cX12_isLetter 13 = .ok (.goto 4, 3)) (by decide)) ?_
  refine mm_fc (ss_iconst hx hb (by decide +kernel : decode cX12_isLetter 16 = .ok (.iconst 0, 1)) (by decide)) ?_
  refine mm_fc (ss_zret (by decide +kernel : decode cX12_isLetter 17 = .ok (.ireturn, 1)) rfl) ?_
  exact mm_fn
def cd_X12_isDigit : mm_K mm_H := [(0, s_iload 0 1), (1, s_pushI 48 3), (3, s_icmp (fun x y => x < y) 16 6), (6, s_iload 0 7), (7, s_pushI 57 9), (9, s_icmp (fun x y => y < x) 16 12), (12, s_pushI 1 13), (13, s_goto 17), (16, s_pushI 0 17), (17, s_zret)]
set_option maxRecDepth 100000 in
set_option maxHeartbeats 4000000 in
theorem ok_X12_isDigit (l : Launch) : mm_CodeOK l mm_I0 RX12 cX12_isDigit 1 (some .boolean) cd_X12_isDigit := by
  intro p e R s m args below meth c Q σ cA D A kc ks d C X
  have hx := X.1
  have hb := X.2.1
  have hown := X.2.2.2.1
  have hts := X.2.2.2.2.1
  refine mm_fc (ss_iload_n hx hb (by decide +kernel : decode cX12_isDigit 0 = .ok (.iload_n 0, 1)) rfl) ?_
  refine mm_fc (ss_bipush hx hb (by decide +kernel : decode cX12_isDigit 1 = .ok (.bipush 48, 2)) (by decide)) ?_
  refine mm_fc (ss_icmplt hx hb (by decide +kernel : decode cX12_isDigit 3 = .ok (.if_icmp .lt 13, 3)) (by decide)) ?_
  refine mm_fc (ss_iload_n hx hb (by decide +kernel : decode cX12_isDigit 6 = .ok (.iload_n 0, 1)) rfl) ?_
  refine mm_fc (ss_bipush hx hb (by decide +kernel : decode cX12_isDigit 7 = .ok (.bipush 57, 2)) (by decide)) ?_
  refine mm_fc (ss_icmpgt hx hb (by decide +kernel : decode cX12_isDigit 9 = .ok (.if_icmp .gt 7, 3)) (by decide)) ?_
  refine mm_fc (ss_iconst hx hb (by decide +kernel : decode cX12_isDigit 12 = .ok (.iconst 1, 1)) (by decide)) ?_
  refine mm_fc (ss_goto hx hb (by decide +kernel : decode cX12_isDigit 13 = .ok (.goto 4, 3)) (by decide)) ?_
  refine mm_fc (ss_iconst hx hb (by decide +kernel : decode cX12_isDigit 16 = .ok (.iconst 0, 1)) (by decide)) ?_
  refine mm_fc (ss_zret (by decide +kernel : decode cX12_isDigit 17 = .ok (.ireturn, 1)) rfl) ?_
  exact mm_fn
def cd_X12_look : mm_K mm_H := [(0, s_aload 0 1), (1, s_get 12 2 4), (4, s_aload 0 5), (5, s_get 12 3 8), (8, s_icmp (fun x y => y ≤ x) 52 11), (11, s_aload 0 12), (12, s_get 12 0 15), (15, s_aload 0 16), (16, s_get 12 2 19), (19, s_iald 20), (20, s_pushI 10 22), (22, s_icmp (fun x y => x = y) 39 25), (25, s_aload 0 26), (26, s_get 12 0 29), (29, s_aload 0 30), (30, s_get 12 2 33), (33, s_iald 34), (34, s_pushI 32 36), (36, s_icmp (fun x y => ¬ x = y) 52 39), (39, s_aload 0 40), (40, s_dup 41), (41, s_get 12 2 44), (44, s_pushI 1 45), (45, s_bin (fun x y => x + y) 46), (46, s_putI 12 2 49), (49, s_goto 0), (52, s_aload 0 53), (53, s_get 12 2 56), (56, s_aload 0 57), (57, s_get 12 3 60), (60, s_icmp (fun x y => y ≤ x) 75 63), (63, s_aload 0 64), (64, s_get 12 0 67), (67, s_aload 0 68), (68, s_get 12 2 71), (71, s_iald 72), (72, s_goto 76), (75, s_pushI (-1) 76), (76, s_iret)]
set_option maxRecDepth 100000 in
set_option maxHeartbeats 4000000 in
theorem ok_X12_look (l : Launch) : mm_CodeOK l mm_I0 RX12 cX12_look 1 (some .int) cd_X12_look := by
  intro p e R s m args below meth c Q σ cA D A kc ks d C X
  have hx := X.1
  have hb := X.2.1
  have hown := X.2.2.2.1
  have hts := X.2.2.2.2.1
  refine mm_fc (ss_aload_n hx hb (by decide +kernel : decode cX12_look 0 = .ok (.aload_n 0, 1)) rfl) ?_
  refine mm_fc (ss_get X rfl in_X12 (by decide) rfl wd_6_48 (by decide +kernel : decode cX12_look 1 = .ok (.getfield 243, 3))) ?_
  refine mm_fc (ss_aload_n hx hb (by decide +kernel : decode cX12_look 4 = .ok (.aload_n 0, 1)) rfl) ?_
  refine mm_fc (ss_get X rfl in_X12 (by decide) rfl wd_6_49 (by decide +kernel : decode cX12_look 5 = .ok (.getfield 246, 3))) ?_
  refine mm_fc (ss_icmpge hx hb (by decide +kernel : decode cX12_look 8 = .ok (.if_icmp .ge 44, 3)) (by decide)) ?_
  refine mm_fc (ss_aload_n hx hb (by decide +kernel : decode cX12_look 11 = .ok (.aload_n 0, 1)) rfl) ?_
  refine mm_fc (ss_get X rfl in_X12 (by decide) rfl wd_6_46 (by decide +kernel : decode cX12_look 12 = .ok (.getfield 7, 3))) ?_
  refine mm_fc (ss_aload_n hx hb (by decide +kernel : decode cX12_look 15 = .ok (.aload_n 0, 1)) rfl) ?_
  refine mm_fc (ss_get X rfl in_X12 (by decide) rfl wd_6_48 (by decide +kernel : decode cX12_look 16 = .ok (.getfield 243, 3))) ?_
  refine mm_fc (ss_iald X (by decide +kernel : decode cX12_look 19 = .ok (.iaload, 1))) ?_
  refine mm_fc (ss_bipush hx hb (by decide +kernel : decode cX12_look 20 = .ok (.bipush 10, 2)) (by decide)) ?_
  refine mm_fc (ss_icmpeq hx hb (by decide +kernel : decode cX12_look 22 = .ok (.if_icmp .eq 17, 3)) (by decide)) ?_
  refine mm_fc (ss_aload_n hx hb (by decide +kernel : decode cX12_look 25 = .ok (.aload_n 0, 1)) rfl) ?_
  refine mm_fc (ss_get X rfl in_X12 (by decide) rfl wd_6_46 (by decide +kernel : decode cX12_look 26 = .ok (.getfield 7, 3))) ?_
  refine mm_fc (ss_aload_n hx hb (by decide +kernel : decode cX12_look 29 = .ok (.aload_n 0, 1)) rfl) ?_
  refine mm_fc (ss_get X rfl in_X12 (by decide) rfl wd_6_48 (by decide +kernel : decode cX12_look 30 = .ok (.getfield 243, 3))) ?_
  refine mm_fc (ss_iald X (by decide +kernel : decode cX12_look 33 = .ok (.iaload, 1))) ?_
  refine mm_fc (ss_bipush hx hb (by decide +kernel : decode cX12_look 34 = .ok (.bipush 32, 2)) (by decide)) ?_
  refine mm_fc (ss_icmpne hx hb (by decide +kernel : decode cX12_look 36 = .ok (.if_icmp .ne 16, 3)) (by decide)) ?_
  refine mm_fc (ss_aload_n hx hb (by decide +kernel : decode cX12_look 39 = .ok (.aload_n 0, 1)) rfl) ?_
  refine mm_fc (ss_dup hx hb (by decide +kernel : decode cX12_look 40 = .ok (.dup, 1))) ?_
  refine mm_fc (ss_get X rfl in_X12 (by decide) rfl wd_6_48 (by decide +kernel : decode cX12_look 41 = .ok (.getfield 243, 3))) ?_
  refine mm_fc (ss_iconst hx hb (by decide +kernel : decode cX12_look 44 = .ok (.iconst 1, 1)) (by decide)) ?_
  refine mm_fc (ss_iadd hx hb (by decide +kernel : decode cX12_look 45 = .ok (.iadd, 1))) ?_
  refine mm_fc (ss_putI X rfl in_X12 tyX12_ok nmX12 (by decide) rfl rfl rfl rfl wd_6_48 (by decide +kernel : decode cX12_look 46 = .ok (.putfield 243, 3))) ?_
  refine mm_fc (ss_goto hx hb (by decide +kernel : decode cX12_look 49 = .ok (.goto (-49), 3)) (by decide)) ?_
  refine mm_fc (ss_aload_n hx hb (by decide +kernel : decode cX12_look 52 = .ok (.aload_n 0, 1)) rfl) ?_
  refine mm_fc (ss_get X rfl in_X12 (by decide) rfl wd_6_48 (by decide +kernel : decode cX12_look 53 = .ok (.getfield 243, 3))) ?_
  refine mm_fc (ss_aload_n hx hb (by decide +kernel : decode cX12_look 56 = .ok (.aload_n 0, 1)) rfl) ?_
  refine mm_fc (ss_get X rfl in_X12 (by decide) rfl wd_6_49 (by decide +kernel : decode cX12_look 57 = .ok (.getfield 246, 3))) ?_
  refine mm_fc (ss_icmpge hx hb (by decide +kernel : decode cX12_look 60 = .ok (.if_icmp .ge 15, 3)) (by decide)) ?_
  refine mm_fc (ss_aload_n hx hb (by decide +kernel : decode cX12_look 63 = .ok (.aload_n 0, 1)) rfl) ?_
  refine mm_fc (ss_get X rfl in_X12 (by decide) rfl wd_6_46 (by decide +kernel : decode cX12_look 64 = .ok (.getfield 7, 3))) ?_
  refine mm_fc (ss_aload_n hx hb (by decide +kernel : decode cX12_look 67 = .ok (.aload_n 0, 1)) rfl) ?_
  refine mm_fc (ss_get X rfl in_X12 (by decide) rfl wd_6_48 (by decide +kernel : decode cX12_look 68 = .ok (.getfield 243, 3))) ?_
  refine mm_fc (ss_iald X (by decide +kernel : decode cX12_look 71 = .ok (.iaload, 1))) ?_
  refine mm_fc (ss_goto hx hb (by decide +kernel : decode cX12_look 72 = .ok (.goto 4, 3)) (by decide)) ?_
  refine mm_fc (ss_iconst hx hb (by decide +kernel : decode cX12_look 75 = .ok (.iconst (-1), 1)) (by decide)) ?_
  refine mm_fc (ss_iret (by decide +kernel : decode cX12_look 76 = .ok (.ireturn, 1)) rfl) ?_
  exact mm_fn
def cd_X12_isHere : mm_K mm_H := [(0, s_aload 0 1), (1, s_get 12 5 4), (4, s_if (fun x => ¬ x = 0) 28 7), (7, s_aload 0 8), (8, s_callV 12 194 0 1 11), (11, s_callS 192 1 1 14), (14, s_if (fun x => x = 0) 28 17), (17, s_aload 0 18), (18, s_get 12 2 21), (21, s_aload 0 22), (22, s_get 12 4 25), (25, s_icmp (fun x y => ¬ x = y) 30 28), (28, s_pushI 0 29), (29, s_zret), (30, s_aload 0 31), (31, s_get 12 2 34), (34, s_kill 35 [3] (s_istore 2 35)), (35, s_iload 2 36), (36, s_aload 0 37), (37, s_get 12 3 40), (40, s_icmp (fun x y => y ≤ x) 61 43), (43, s_aload 0 44), (44, s_get 12 0 47), (47, s_iload 2 48), (48, s_iald 49), (49, s_callS 192 1 1 52), (52, s_if (fun x => x = 0) 61 55), (55, s_iinc 2 1 58), (58, s_kill 35 [3] (s_goto 35)), (61, s_iload 2 62), (62, s_aload 0 63), (63, s_get 12 2 66), (66, s_bin (fun x y => x - y) 67), (67, s_aload 1 68), (68, s_alen 69), (69, s_icmp (fun x y => x = y) 74 72), (72, s_pushI 0 73), (73, s_zret), (74, s_pushI 0 75), (75, s_kill 76 [2] (s_istore 3 76)), (76, s_iload 3 77), (77, s_aload 1 78), (78, s_alen 79), (79, s_icmp (fun x y => y ≤ x) 107 82), (82, s_aload 0 83), (83, s_get 12 0 86), (86, s_aload 0 87), (87, s_get 12 2 90), (90, s_iload 3 91), (91, s_bin (fun x y => x + y) 92), (92, s_iald 93), (93, s_aload 1 94), (94, s_iload 3 95), (95, s_cald 96), (96, s_icmp (fun x y => x = y) 101 99), (99, s_pushI 0 100), (100, s_zret), (101, s_iinc 3 1 104), (104, s_kill 76 [2] (s_goto 76)), (107, s_pushI 1 108), (108, s_zret)]
set_option maxRecDepth 100000 in
set_option maxHeartbeats 4000000 in
theorem ok_X12_isHere (l : Launch) : mm_CodeOK l mm_I0 RX12 cX12_isHere 4 (some .boolean) cd_X12_isHere := by
  intro p e R s m args below meth c Q σ cA D A kc ks d C X
  have hx := X.1
  have hb := X.2.1
  have hown := X.2.2.2.1
  have hts := X.2.2.2.2.1
  refine mm_fc (ss_aload_n hx hb (by decide +kernel : decode cX12_isHere 0 = .ok (.aload_n 0, 1)) rfl) ?_
  refine mm_fc (ss_get X rfl in_X12 (by decide) rfl wd_6_51 (by decide +kernel : decode cX12_isHere 1 = .ok (.getfield 237, 3))) ?_
  refine mm_fc (ss_ifne hx hb (by decide +kernel : decode cX12_isHere 4 = .ok (.ifCond .ne 24, 3)) (by decide)) ?_
  refine mm_fc (ss_aload_n hx hb (by decide +kernel : decode cX12_isHere 7 = .ok (.aload_n 0, 1)) rfl) ?_
  refine mm_fc (ss_callV X rfl rfl wd_7_179 wd_1_13 wd_7_176 wd_7_178 wd_p_50 (by decide +kernel) (by decide +kernel) (by decide) (by decide +kernel : decode cX12_isHere 8 = .ok (.invokevirtual 249, 3))) ?_
  refine mm_fc (ss_callS X rfl wd_7_182 wd_1_13 wd_7_180 wd_7_181 (by decide +kernel) (by decide +kernel) (by decide) (by decide +kernel : decode cX12_isHere 11 = .ok (.invokestatic 253, 3))) ?_
  refine mm_fc (ss_ifeq hx hb (by decide +kernel : decode cX12_isHere 14 = .ok (.ifCond .eq 14, 3)) (by decide)) ?_
  refine mm_fc (ss_aload_n hx hb (by decide +kernel : decode cX12_isHere 17 = .ok (.aload_n 0, 1)) rfl) ?_
  refine mm_fc (ss_get X rfl in_X12 (by decide) rfl wd_6_48 (by decide +kernel : decode cX12_isHere 18 = .ok (.getfield 243, 3))) ?_
  refine mm_fc (ss_aload_n hx hb (by decide +kernel : decode cX12_isHere 21 = .ok (.aload_n 0, 1)) rfl) ?_
  refine mm_fc (ss_get X rfl in_X12 (by decide) rfl wd_6_50 (by decide +kernel : decode cX12_isHere 22 = .ok (.getfield 257, 3))) ?_
  refine mm_fc (ss_icmpne hx hb (by decide +kernel : decode cX12_isHere 25 = .ok (.if_icmp .ne 5, 3)) (by decide)) ?_
  refine mm_fc (ss_iconst hx hb (by decide +kernel : decode cX12_isHere 28 = .ok (.iconst 0, 1)) (by decide)) ?_
  refine mm_fc (ss_zret (by decide +kernel : decode cX12_isHere 29 = .ok (.ireturn, 1)) rfl) ?_
  refine mm_fc (ss_aload_n hx hb (by decide +kernel : decode cX12_isHere 30 = .ok (.aload_n 0, 1)) rfl) ?_
  refine mm_fc (ss_get X rfl in_X12 (by decide) rfl wd_6_48 (by decide +kernel : decode cX12_isHere 31 = .ok (.getfield 243, 3))) ?_
  refine mm_fc (ss_kill (ss_istore_n hx hb (by decide +kernel : decode cX12_isHere 34 = .ok (.istore_n 2, 1)) rfl (by decide))) ?_
  refine mm_fc (ss_iload_n hx hb (by decide +kernel : decode cX12_isHere 35 = .ok (.iload_n 2, 1)) rfl) ?_
  refine mm_fc (ss_aload_n hx hb (by decide +kernel : decode cX12_isHere 36 = .ok (.aload_n 0, 1)) rfl) ?_
  refine mm_fc (ss_get X rfl in_X12 (by decide) rfl wd_6_49 (by decide +kernel : decode cX12_isHere 37 = .ok (.getfield 246, 3))) ?_
  refine mm_fc (ss_icmpge hx hb (by decide +kernel : decode cX12_isHere 40 = .ok (.if_icmp .ge 21, 3)) (by decide)) ?_
  refine mm_fc (ss_aload_n hx hb (by decide +kernel : decode cX12_isHere 43 = .ok (.aload_n 0, 1)) rfl) ?_
  refine mm_fc (ss_get X rfl in_X12 (by decide) rfl wd_6_46 (by decide +kernel : decode cX12_isHere 44 = .ok (.getfield 7, 3))) ?_
  refine mm_fc (ss_iload_n hx hb (by decide +kernel : decode cX12_isHere 47 = .ok (.iload_n 2, 1)) rfl) ?_
  refine mm_fc (ss_iald X (by decide +kernel : decode cX12_isHere 48 = .ok (.iaload, 1))) ?_
  refine mm_fc (ss_callS X rfl wd_7_182 wd_1_13 wd_7_180 wd_7_181 (by decide +kernel) (by decide +kernel) (by decide) (by decide +kernel : decode cX12_isHere 49 = .ok (.invokestatic 253, 3))) ?_
  refine mm_fc (ss_ifeq hx hb (by decide +kernel : decode cX12_isHere 52 = .ok (.ifCond .eq 9, 3)) (by decide)) ?_
  refine mm_fc (ss_iinc hx hb (by decide +kernel : decode cX12_isHere 55 = .ok (.iinc 2 1, 3)) (by decide) (by decide)) ?_
  refine mm_fc (ss_kill (ss_goto hx hb (by decide +kernel : decode cX12_isHere 58 = .ok (.goto (-23), 3)) (by decide))) ?_
  refine mm_fc (ss_iload_n hx hb (by decide +kernel : decode cX12_isHere 61 = .ok (.iload_n 2, 1)) rfl) ?_
  refine mm_fc (ss_aload_n hx hb (by decide +kernel : decode cX12_isHere 62 = .ok (.aload_n 0, 1)) rfl) ?_
  refine mm_fc (ss_get X rfl in_X12 (by decide) rfl wd_6_48 (by decide +kernel : decode cX12_isHere 63 = .ok (.getfield 243, 3))) ?_
  refine mm_fc (ss_isub hx hb (by decide +kernel : decode cX12_isHere 66 = .ok (.isub, 1))) ?_
  refine mm_fc (ss_aload_n hx hb (by decide +kernel : decode cX12_isHere 67 = .ok (.aload_n 1, 1)) rfl) ?_
  refine mm_fc (ss_alen X (by decide +kernel : decode cX12_isHere 68 = .ok (.arraylength, 1))) ?_
  refine mm_fc (ss_icmpeq hx hb (by decide +kernel : decode cX12_isHere 69 = .ok (.if_icmp .eq 5, 3)) (by decide)) ?_
  refine mm_fc (ss_iconst hx hb (by decide +kernel : decode cX12_isHere 72 = .ok (.iconst 0, 1)) (by decide)) ?_
  refine mm_fc (ss_zret (by decide +kernel : decode cX12_isHere 73 = .ok (.ireturn, 1)) rfl) ?_
  refine mm_fc (ss_iconst hx hb (by decide +kernel : decode cX12_isHere 74 = .ok (.iconst 0, 1)) (by decide)) ?_
  refine mm_fc (ss_kill (ss_istore_n hx hb (by decide +kernel : decode cX12_isHere 75 = .ok (.istore_n 3, 1)) rfl (by decide))) ?_
  refine mm_fc (ss_iload_n hx hb (by decide +kernel : decode cX12_isHere 76 = .ok (.iload_n 3, 1)) rfl) ?_
  refine mm_fc (ss_aload_n hx hb (by decide +kernel : decode cX12_isHere 77 = .ok (.aload_n 1, 1)) rfl) ?_
  refine mm_fc (ss_alen X (by decide +kernel : decode cX12_isHere 78 = .ok (.arraylength, 1))) ?_
  refine mm_fc (ss_icmpge hx hb (by decide +kernel : decode cX12_isHere 79 = .ok (.if_icmp .ge 28, 3)) (by decide)) ?_
  refine mm_fc (ss_aload_n hx hb (by decide +kernel : decode cX12_isHere 82 = .ok (.aload_n 0, 1)) rfl) ?_
  refine mm_fc (ss_get X rfl in_X12 (by decide) rfl wd_6_46 (by decide +kernel : decode cX12_isHere 83 = .ok (.getfield 7, 3))) ?_
  refine mm_fc (ss_aload_n hx hb (by decide +kernel : decode cX12_isHere 86 = .ok (.aload_n 0, 1)) rfl) ?_
  refine mm_fc (ss_get X rfl in_X12 (by decide) rfl wd_6_48 (by decide +kernel : decode cX12_isHere 87 = .ok (.getfield 243, 3))) ?_
  refine mm_fc (ss_iload_n hx hb (by decide +kernel : decode cX12_isHere 90 = .ok (.iload_n 3, 1)) rfl) ?_
  refine mm_fc (ss_iadd hx hb (by decide +kernel : decode cX12_isHere 91 = .ok (.iadd, 1))) ?_
  refine mm_fc (ss_iald X (by decide +kernel : decode cX12_isHere 92 = .ok (.iaload, 1))) ?_
  refine mm_fc (ss_aload_n hx hb (by decide +kernel : decode cX12_isHere 93 = .ok (.aload_n 1, 1)) rfl) ?_
  refine mm_fc (ss_iload_n hx hb (by decide +kernel : decode cX12_isHere 94 = .ok (.iload_n 3, 1)) rfl) ?_
  refine mm_fc (ss_cald X (by decide +kernel : decode cX12_isHere 95 = .ok (.caload, 1))) ?_
  refine mm_fc (ss_icmpeq hx hb (by decide +kernel : decode cX12_isHere 96 = .ok (.if_icmp .eq 5, 3)) (by decide)) ?_
  refine mm_fc (ss_iconst hx hb (by decide +kernel : decode cX12_isHere 99 = .ok (.iconst 0, 1)) (by decide)) ?_
  refine mm_fc (ss_zret (by decide +kernel : decode cX12_isHere 100 = .ok (.ireturn, 1)) rfl) ?_
  refine mm_fc (ss_iinc hx hb (by decide +kernel : decode cX12_isHere 101 = .ok (.iinc 3 1, 3)) (by decide) (by decide)) ?_
  refine mm_fc (ss_kill (ss_goto hx hb (by decide +kernel : decode cX12_isHere 104 = .ok (.goto (-28), 3)) (by decide))) ?_
  refine mm_fc (ss_iconst hx hb (by decide +kernel : decode cX12_isHere 107 = .ok (.iconst 1, 1)) (by decide)) ?_
  refine mm_fc (ss_zret (by decide +kernel : decode cX12_isHere 108 = .ok (.ireturn, 1)) rfl) ?_
  exact mm_fn
def cd_X12_takes : mm_K mm_H := [(0, s_aload 0 1), (1, s_aload 1 2), (2, s_callV 12 195 1 1 5), (5, s_if (fun x => ¬ x = 0) 10 8), (8, s_pushI 0 9), (9, s_zret), (10, s_aload 0 11), (11, s_dup 12), (12, s_get 12 2 15), (15, s_aload 1 16), (16, s_alen 17), (17, s_bin (fun x y => x + y) 18), (18, s_putI 12 2 21), (21, s_aload 0 22), (22, s_aload 0 23), (23, s_get 12 2 26), (26, s_putI 12 4 29), (29, s_pushI 1 30), (30, s_zret)]
set_option maxRecDepth 100000 in
set_option maxHeartbeats 4000000 in
theorem ok_X12_takes (l : Launch) : mm_CodeOK l mm_I0 RX12 cX12_takes 2 (some .boolean) cd_X12_takes := by
  intro p e R s m args below meth c Q σ cA D A kc ks d C X
  have hx := X.1
  have hb := X.2.1
  have hown := X.2.2.2.1
  have hts := X.2.2.2.2.1
  refine mm_fc (ss_aload_n hx hb (by decide +kernel : decode cX12_takes 0 = .ok (.aload_n 0, 1)) rfl) ?_
  refine mm_fc (ss_aload_n hx hb (by decide +kernel : decode cX12_takes 1 = .ok (.aload_n 1, 1)) rfl) ?_
  refine mm_fc (ss_callV X rfl rfl wd_7_175 wd_1_13 wd_7_172 wd_7_174 wd_p_49 (by decide +kernel) (by decide +kernel) (by decide) (by decide +kernel : decode cX12_takes 2 = .ok (.invokevirtual 260, 3))) ?_
  refine mm_fc (ss_ifne hx hb (by decide +kernel : decode cX12_takes 5 = .ok (.ifCond .ne 5, 3)) (by decide)) ?_
  refine mm_fc (ss_iconst hx hb (by decide +kernel : decode cX12_takes 8 = .ok (.iconst 0, 1)) (by decide)) ?_
  refine mm_fc (ss_zret (by decide +kernel : decode cX12_takes 9 = .ok (.ireturn, 1)) rfl) ?_
  refine mm_fc (ss_aload_n hx hb (by decide +kernel : decode cX12_takes 10 = .ok (.aload_n 0, 1)) rfl) ?_
  refine mm_fc (ss_dup hx hb (by decide +kernel : decode cX12_takes 11 = .ok (.dup, 1))) ?_
  refine mm_fc (ss_get X rfl in_X12 (by decide) rfl wd_6_48 (by decide +kernel : decode cX12_takes 12 = .ok (.getfield 243, 3))) ?_
  refine mm_fc (ss_aload_n hx hb (by decide +kernel : decode cX12_takes 15 = .ok (.aload_n 1, 1)) rfl) ?_
  refine mm_fc (ss_alen X (by decide +kernel : decode cX12_takes 16 = .ok (.arraylength, 1))) ?_
  refine mm_fc (ss_iadd hx hb (by decide +kernel : decode cX12_takes 17 = .ok (.iadd, 1))) ?_
  refine mm_fc (ss_putI X rfl in_X12 tyX12_ok nmX12 (by decide) rfl rfl rfl rfl wd_6_48 (by decide +kernel : decode cX12_takes 18 = .ok (.putfield 243, 3))) ?_
  refine mm_fc (ss_aload_n hx hb (by decide +kernel : decode cX12_takes 21 = .ok (.aload_n 0, 1)) rfl) ?_
  refine mm_fc (ss_aload_n hx hb (by decide +kernel : decode cX12_takes 22 = .ok (.aload_n 0, 1)) rfl) ?_
  refine mm_fc (ss_get X rfl in_X12 (by decide) rfl wd_6_48 (by decide +kernel : decode cX12_takes 23 = .ok (.getfield 243, 3))) ?_
  refine mm_fc (ss_putI X rfl in_X12 tyX12_ok nmX12 (by decide) rfl rfl rfl rfl wd_6_50 (by decide +kernel : decode cX12_takes 26 = .ok (.putfield 257, 3))) ?_
  refine mm_fc (ss_iconst hx hb (by decide +kernel : decode cX12_takes 29 = .ok (.iconst 1, 1)) (by decide)) ?_
  refine mm_fc (ss_zret (by decide +kernel : decode cX12_takes 30 = .ok (.ireturn, 1)) rfl) ?_
  exact mm_fn
def cd_X12_asks : mm_K mm_H := [(0, s_aload 0 1), (1, s_get 12 5 4), (4, s_if (fun x => ¬ x = 0) 24 7), (7, s_aload 0 8), (8, s_aload 1 9), (9, s_callV 12 196 1 1 12), (12, s_if (fun x => ¬ x = 0) 24 15), (15, s_aload 0 16), (16, s_pushI 1 17), (17, s_aload 0 18), (18, s_get 12 2 21), (21, s_callV 12 191 2 0 24), (24, s_vret)]
set_option maxRecDepth 100000 in
set_option maxHeartbeats 4000000 in
theorem ok_X12_asks (l : Launch) : mm_CodeOK l mm_I0 RX12 cX12_asks 2 none cd_X12_asks := by
  intro p e R s m args below meth c Q σ cA D A kc ks d C X
  have hx := X.1
  have hb := X.2.1
  have hown := X.2.2.2.1
  have hts := X.2.2.2.2.1
  refine mm_fc (ss_aload_n hx hb (by decide +kernel : decode cX12_asks 0 = .ok (.aload_n 0, 1)) rfl) ?_
  refine mm_fc (ss_get X rfl in_X12 (by decide) rfl wd_6_51 (by decide +kernel : decode cX12_asks 1 = .ok (.getfield 237, 3))) ?_
  refine mm_fc (ss_ifne hx hb (by decide +kernel : decode cX12_asks 4 = .ok (.ifCond .ne 20, 3)) (by decide)) ?_
  refine mm_fc (ss_aload_n hx hb (by decide +kernel : decode cX12_asks 7 = .ok (.aload_n 0, 1)) rfl) ?_
  refine mm_fc (ss_aload_n hx hb (by decide +kernel : decode cX12_asks 8 = .ok (.aload_n 1, 1)) rfl) ?_
  refine mm_fc (ss_callV X rfl rfl wd_7_171 wd_1_13 wd_7_168 wd_7_170 wd_p_48 (by decide +kernel) (by decide +kernel) (by decide) (by decide +kernel : decode cX12_asks 9 = .ok (.invokevirtual 264, 3))) ?_
  refine mm_fc (ss_ifne hx hb (by decide +kernel : decode cX12_asks 12 = .ok (.ifCond .ne 12, 3)) (by decide)) ?_
  refine mm_fc (ss_aload_n hx hb (by decide +kernel : decode cX12_asks 15 = .ok (.aload_n 0, 1)) rfl) ?_
  refine mm_fc (ss_iconst hx hb (by decide +kernel : decode cX12_asks 16 = .ok (.iconst 1, 1)) (by decide)) ?_
  refine mm_fc (ss_aload_n hx hb (by decide +kernel : decode cX12_asks 17 = .ok (.aload_n 0, 1)) rfl) ?_
  refine mm_fc (ss_get X rfl in_X12 (by decide) rfl wd_6_48 (by decide +kernel : decode cX12_asks 18 = .ok (.getfield 243, 3))) ?_
  refine mm_fc (ss_callV X rfl rfl wd_7_186 wd_1_13 wd_7_183 wd_7_185 wd_p_51 (by decide +kernel) (by decide +kernel) (by decide) (by decide +kernel : decode cX12_asks 21 = .ok (.invokevirtual 267, 3))) ?_
  refine mm_fc (ss_vret (by decide +kernel : decode cX12_asks 24 = .ok (.return_, 1)) rfl) ?_
  exact mm_fn
def cd_X12_takesSign : mm_K mm_H := [(0, s_aload 0 1), (1, s_get 12 5 4), (4, s_if (fun x => ¬ x = 0) 15 7), (7, s_aload 0 8), (8, s_callV 12 194 0 1 11), (11, s_iload 1 12), (12, s_icmp (fun x y => x = y) 17 15), (15, s_pushI 0 16), (16, s_zret), (17, s_aload 0 18), (18, s_dup 19), (19, s_get 12 2 22), (22, s_pushI 1 23), (23, s_bin (fun x y => x + y) 24), (24, s_putI 12 2 27), (27, s_pushI 1 28), (28, s_zret)]
set_option maxRecDepth 100000 in
set_option maxHeartbeats 4000000 in
theorem ok_X12_takesSign (l : Launch) : mm_CodeOK l mm_I0 RX12 cX12_takesSign 2 (some .boolean) cd_X12_takesSign := by
  intro p e R s m args below meth c Q σ cA D A kc ks d C X
  have hx := X.1
  have hb := X.2.1
  have hown := X.2.2.2.1
  have hts := X.2.2.2.2.1
  refine mm_fc (ss_aload_n hx hb (by decide +kernel : decode cX12_takesSign 0 = .ok (.aload_n 0, 1)) rfl) ?_
  refine mm_fc (ss_get X rfl in_X12 (by decide) rfl wd_6_51 (by decide +kernel : decode cX12_takesSign 1 = .ok (.getfield 237, 3))) ?_
  refine mm_fc (ss_ifne hx hb (by decide +kernel : decode cX12_takesSign 4 = .ok (.ifCond .ne 11, 3)) (by decide)) ?_
  refine mm_fc (ss_aload_n hx hb (by decide +kernel : decode cX12_takesSign 7 = .ok (.aload_n 0, 1)) rfl) ?_
  refine mm_fc (ss_callV X rfl rfl wd_7_179 wd_1_13 wd_7_176 wd_7_178 wd_p_50 (by decide +kernel) (by decide +kernel) (by decide) (by decide +kernel : decode cX12_takesSign 8 = .ok (.invokevirtual 249, 3))) ?_
  refine mm_fc (ss_iload_n hx hb (by decide +kernel : decode cX12_takesSign 11 = .ok (.iload_n 1, 1)) rfl) ?_
  refine mm_fc (ss_icmpeq hx hb (by decide +kernel : decode cX12_takesSign 12 = .ok (.if_icmp .eq 5, 3)) (by decide)) ?_
  refine mm_fc (ss_iconst hx hb (by decide +kernel : decode cX12_takesSign 15 = .ok (.iconst 0, 1)) (by decide)) ?_
  refine mm_fc (ss_zret (by decide +kernel : decode cX12_takesSign 16 = .ok (.ireturn, 1)) rfl) ?_
  refine mm_fc (ss_aload_n hx hb (by decide +kernel : decode cX12_takesSign 17 = .ok (.aload_n 0, 1)) rfl) ?_
  refine mm_fc (ss_dup hx hb (by decide +kernel : decode cX12_takesSign 18 = .ok (.dup, 1))) ?_
  refine mm_fc (ss_get X rfl in_X12 (by decide) rfl wd_6_48 (by decide +kernel : decode cX12_takesSign 19 = .ok (.getfield 243, 3))) ?_
  refine mm_fc (ss_iconst hx hb (by decide +kernel : decode cX12_takesSign 22 = .ok (.iconst 1, 1)) (by decide)) ?_
  refine mm_fc (ss_iadd hx hb (by decide +kernel : decode cX12_takesSign 23 = .ok (.iadd, 1))) ?_
  refine mm_fc (ss_putI X rfl in_X12 tyX12_ok nmX12 (by decide) rfl rfl rfl rfl wd_6_48 (by decide +kernel : decode cX12_takesSign 24 = .ok (.putfield 243, 3))) ?_
  refine mm_fc (ss_iconst hx hb (by decide +kernel : decode cX12_takesSign 27 = .ok (.iconst 1, 1)) (by decide)) ?_
  refine mm_fc (ss_zret (by decide +kernel : decode cX12_takesSign 28 = .ok (.ireturn, 1)) rfl) ?_
  exact mm_fn
def cd_X12_asksSign : mm_K mm_H := [(0, s_aload 0 1), (1, s_get 12 5 4), (4, s_if (fun x => ¬ x = 0) 24 7), (7, s_aload 0 8), (8, s_iload 1 9), (9, s_callV 12 198 1 1 12), (12, s_if (fun x => ¬ x = 0) 24 15), (15, s_aload 0 16), (16, s_pushI 1 17), (17, s_aload 0 18), (18, s_get 12 2 21), (21, s_callV 12 191 2 0 24), (24, s_vret)]
set_option maxRecDepth 100000 in
set_option maxHeartbeats 4000000 in
theorem ok_X12_asksSign (l : Launch) : mm_CodeOK l mm_I0 RX12 cX12_asksSign 2 none cd_X12_asksSign := by
  intro p e R s m args below meth c Q σ cA D A kc ks d C X
  have hx := X.1
  have hb := X.2.1
  have hown := X.2.2.2.1
  have hts := X.2.2.2.2.1
  refine mm_fc (ss_aload_n hx hb (by decide +kernel : decode cX12_asksSign 0 = .ok (.aload_n 0, 1)) rfl) ?_
  refine mm_fc (ss_get X rfl in_X12 (by decide) rfl wd_6_51 (by decide +kernel : decode cX12_asksSign 1 = .ok (.getfield 237, 3))) ?_
  refine mm_fc (ss_ifne hx hb (by decide +kernel : decode cX12_asksSign 4 = .ok (.ifCond .ne 20, 3)) (by decide)) ?_
  refine mm_fc (ss_aload_n hx hb (by decide +kernel : decode cX12_asksSign 7 = .ok (.aload_n 0, 1)) rfl) ?_
  refine mm_fc (ss_iload_n hx hb (by decide +kernel : decode cX12_asksSign 8 = .ok (.iload_n 1, 1)) rfl) ?_
  refine mm_fc (ss_callV X rfl rfl wd_7_204 wd_1_13 wd_7_201 wd_7_203 wd_p_54 (by decide +kernel) (by decide +kernel) (by decide) (by decide +kernel : decode cX12_asksSign 9 = .ok (.invokevirtual 271, 3))) ?_
  refine mm_fc (ss_ifne hx hb (by decide +kernel : decode cX12_asksSign 12 = .ok (.ifCond .ne 12, 3)) (by decide)) ?_
  refine mm_fc (ss_aload_n hx hb (by decide +kernel : decode cX12_asksSign 15 = .ok (.aload_n 0, 1)) rfl) ?_
  refine mm_fc (ss_iconst hx hb (by decide +kernel : decode cX12_asksSign 16 = .ok (.iconst 1, 1)) (by decide)) ?_
  refine mm_fc (ss_aload_n hx hb (by decide +kernel : decode cX12_asksSign 17 = .ok (.aload_n 0, 1)) rfl) ?_
  refine mm_fc (ss_get X rfl in_X12 (by decide) rfl wd_6_48 (by decide +kernel : decode cX12_asksSign 18 = .ok (.getfield 243, 3))) ?_
  refine mm_fc (ss_callV X rfl rfl wd_7_186 wd_1_13 wd_7_183 wd_7_185 wd_p_51 (by decide +kernel) (by decide +kernel) (by decide) (by decide +kernel : decode cX12_asksSign 21 = .ok (.invokevirtual 267, 3))) ?_
  refine mm_fc (ss_vret (by decide +kernel : decode cX12_asksSign 24 = .ok (.return_, 1)) rfl) ?_
  exact mm_fn
def cd_X12_number : mm_K mm_H := [(0, s_aload 0 1), (1, s_get 12 5 4), (4, s_if (fun x => x = 0) 9 7), (7, s_pushI 0 8), (8, s_iret), (9, s_aload 0 10), (10, s_callV 12 194 0 1 13), (13, s_callS 193 1 1 16), (16, s_if (fun x => x = 0) 30 19), (19, s_aload 0 20), (20, s_get 12 2 23), (23, s_aload 0 24), (24, s_get 12 4 27), (27, s_icmp (fun x y => ¬ x = y) 41 30), (30, s_aload 0 31), (31, s_pushI 1 32), (32, s_aload 0 33), (33, s_get 12 2 36), (36, s_callV 12 191 2 0 39), (39, s_pushI 0 40), (40, s_iret), (41, s_aload 0 42), (42, s_get 12 2 45), (45, s_istore 3 46), (46, s_pushI 0 47), (47, s_istore 4 49), (49, s_aload 0 50), (50, s_get 12 2 53), (53, s_aload 0 54), (54, s_get 12 3 57), (57, s_icmp (fun x y => y ≤ x) 129 60), (60, s_aload 0 61), (61, s_get 12 0 64), (64, s_aload 0 65), (65, s_get 12 2 68), (68, s_iald 69), (69, s_callS 193 1 1 72), (72, s_if (fun x => x = 0) 129 75), (75, s_aload 0 76), (76, s_get 12 2 79), (79, s_iload 3 80), (80, s_bin (fun x y => x - y) 81), (81, s_pushI 4 82), (82, s_icmp (fun x y => ¬ x = y) 96 85), (85, s_aload 0 86), (86, s_pushI 1 87), (87, s_aload 0 88), (88, s_get 12 2 91), (91, s_callV 12 191 2 0 94), (94, s_pushI 0 95), (95, s_iret), (96, s_pushI 10 98), (98, s_iload 4 100), (100, s_bin (fun x y => x * y) 101), (101, s_aload 0 102), (102, s_get 12 0 105), (105, s_aload 0 106), (106, s_get 12 2 109), (109, s_iald 110), (110, s_bin (fun x y => x + y) 111), (111, s_pushI 48 113), (113, s_bin (fun x y => x - y) 114), (114, s_istore 4 116), (116, s_aload 0 117), (117, s_dup 118), (118, s_get 12 2 121), (121, s_pushI 1 122), (122, s_bin (fun x y => x + y) 123), (123, s_putI 12 2 126), (126, s_goto 49), (129, s_aload 0 130), (130, s_aload 0 131), (131, s_get 12 2 134), (134, s_putI 12 4 137), (137, s_aload 0 138), (138, s_iload 3 139), (139, s_putI 12 10 142), (142, s_iload 4 144), (144, s_i2l 145), (145, s_iload 1 146), (146, s_i2l 147), (147, s_iload 2 148), (148, s_i2l 149), (149, s_callS 188 3 1 152), (152, s_if (fun x => ¬ x = 0) 161 155), (155, s_aload 0 156), (156, s_pushI 2 157), (157, s_iload 3 158), (158, s_callV 12 191 2 0 161), (161, s_iload 4 163), (163, s_iret)]
set_option maxRecDepth 100000 in
set_option maxHeartbeats 4000000 in
theorem ok_X12_number (l : Launch) : mm_CodeOK l mm_I0 RX12 cX12_number 5 (some .int) cd_X12_number := by
  intro p e R s m args below meth c Q σ cA D A kc ks d C X
  have hx := X.1
  have hb := X.2.1
  have hown := X.2.2.2.1
  have hts := X.2.2.2.2.1
  refine mm_fc (ss_aload_n hx hb (by decide +kernel : decode cX12_number 0 = .ok (.aload_n 0, 1)) rfl) ?_
  refine mm_fc (ss_get X rfl in_X12 (by decide) rfl wd_6_51 (by decide +kernel : decode cX12_number 1 = .ok (.getfield 237, 3))) ?_
  refine mm_fc (ss_ifeq hx hb (by decide +kernel : decode cX12_number 4 = .ok (.ifCond .eq 5, 3)) (by decide)) ?_
  refine mm_fc (ss_iconst hx hb (by decide +kernel : decode cX12_number 7 = .ok (.iconst 0, 1)) (by decide)) ?_
  refine mm_fc (ss_iret (by decide +kernel : decode cX12_number 8 = .ok (.ireturn, 1)) rfl) ?_
  refine mm_fc (ss_aload_n hx hb (by decide +kernel : decode cX12_number 9 = .ok (.aload_n 0, 1)) rfl) ?_
  refine mm_fc (ss_callV X rfl rfl wd_7_179 wd_1_13 wd_7_176 wd_7_178 wd_p_50 (by decide +kernel) (by decide +kernel) (by decide) (by decide +kernel : decode cX12_number 10 = .ok (.invokevirtual 249, 3))) ?_
  refine mm_fc (ss_callS X rfl wd_7_193 wd_1_13 wd_7_191 wd_7_192 (by decide +kernel) (by decide +kernel) (by decide) (by decide +kernel : decode cX12_number 13 = .ok (.invokestatic 274, 3))) ?_
  refine mm_fc (ss_ifeq hx hb (by decide +kernel : decode cX12_number 16 = .ok (.ifCond .eq 14, 3)) (by decide)) ?_
  refine mm_fc (ss_aload_n hx hb (by decide +kernel : decode cX12_number 19 = .ok (.aload_n 0, 1)) rfl) ?_
  refine mm_fc (ss_get X rfl in_X12 (by decide) rfl wd_6_48 (by decide +kernel : decode cX12_number 20 = .ok (.getfield 243, 3))) ?_
  refine mm_fc (ss_aload_n hx hb (by decide +kernel : decode cX12_number 23 = .ok (.aload_n 0, 1)) rfl) ?_
  refine mm_fc (ss_get X rfl in_X12 (by decide) rfl wd_6_50 (by decide +kernel : decode cX12_number 24 = .ok (.getfield 257, 3))) ?_
  refine mm_fc (ss_icmpne hx hb (by decide +kernel : decode cX12_number 27 = .ok (.if_icmp .ne 14, 3)) (by decide)) ?_
  refine mm_fc (ss_aload_n hx hb (by decide +kernel : decode cX12_number 30 = .ok (.aload_n 0, 1)) rfl) ?_
  refine mm_fc (ss_iconst hx hb (by decide +kernel : decode cX12_number 31 = .ok (.iconst 1, 1)) (by decide)) ?_
  refine mm_fc (ss_aload_n hx hb (by decide +kernel : decode cX12_number 32 = .ok (.aload_n 0, 1)) rfl) ?_
  refine mm_fc (ss_get X rfl in_X12 (by decide) rfl wd_6_48 (by decide +kernel : decode cX12_number 33 = .ok (.getfield 243, 3))) ?_
  refine mm_fc (ss_callV X rfl rfl wd_7_186 wd_1_13 wd_7_183 wd_7_185 wd_p_51 (by decide +kernel) (by decide +kernel) (by decide) (by decide +kernel : decode cX12_number 36 = .ok (.invokevirtual 267, 3))) ?_
  refine mm_fc (ss_iconst hx hb (by decide +kernel : decode cX12_number 39 = .ok (.iconst 0, 1)) (by decide)) ?_
  refine mm_fc (ss_iret (by decide +kernel : decode cX12_number 40 = .ok (.ireturn, 1)) rfl) ?_
  refine mm_fc (ss_aload_n hx hb (by decide +kernel : decode cX12_number 41 = .ok (.aload_n 0, 1)) rfl) ?_
  refine mm_fc (ss_get X rfl in_X12 (by decide) rfl wd_6_48 (by decide +kernel : decode cX12_number 42 = .ok (.getfield 243, 3))) ?_
  refine mm_fc (ss_istore_n hx hb (by decide +kernel : decode cX12_number 45 = .ok (.istore_n 3, 1)) rfl (by decide)) ?_
  refine mm_fc (ss_iconst hx hb (by decide +kernel : decode cX12_number 46 = .ok (.iconst 0, 1)) (by decide)) ?_
  refine mm_fc (ss_istore hx hb (by decide +kernel : decode cX12_number 47 = .ok (.istore 4, 2)) (by decide)) ?_
  refine mm_fc (ss_aload_n hx hb (by decide +kernel : decode cX12_number 49 = .ok (.aload_n 0, 1)) rfl) ?_
  refine mm_fc (ss_get X rfl in_X12 (by decide) rfl wd_6_48 (by decide +kernel : decode cX12_number 50 = .ok (.getfield 243, 3))) ?_
  refine mm_fc (ss_aload_n hx hb (by decide +kernel : decode cX12_number 53 = .ok (.aload_n 0, 1)) rfl) ?_
  refine mm_fc (ss_get X rfl in_X12 (by decide) rfl wd_6_49 (by decide +kernel : decode cX12_number 54 = .ok (.getfield 246, 3))) ?_
  refine mm_fc (ss_icmpge hx hb (by decide +kernel : decode cX12_number 57 = .ok (.if_icmp .ge 72, 3)) (by decide)) ?_
  refine mm_fc (ss_aload_n hx hb (by decide +kernel : decode cX12_number 60 = .ok (.aload_n 0, 1)) rfl) ?_
  refine mm_fc (ss_get X rfl in_X12 (by decide) rfl wd_6_46 (by decide +kernel : decode cX12_number 61 = .ok (.getfield 7, 3))) ?_
  refine mm_fc (ss_aload_n hx hb (by decide +kernel : decode cX12_number 64 = .ok (.aload_n 0, 1)) rfl) ?_
  refine mm_fc (ss_get X rfl in_X12 (by decide) rfl wd_6_48 (by decide +kernel : decode cX12_number 65 = .ok (.getfield 243, 3))) ?_
  refine mm_fc (ss_iald X (by decide +kernel : decode cX12_number 68 = .ok (.iaload, 1))) ?_
  refine mm_fc (ss_callS X rfl wd_7_193 wd_1_13 wd_7_191 wd_7_192 (by decide +kernel) (by decide +kernel) (by decide) (by decide +kernel : decode cX12_number 69 = .ok (.invokestatic 274, 3))) ?_
  refine mm_fc (ss_ifeq hx hb (by decide +kernel : decode cX12_number 72 = .ok (.ifCond .eq 57, 3)) (by decide)) ?_
  refine mm_fc (ss_aload_n hx hb (by decide +kernel : decode cX12_number 75 = .ok (.aload_n 0, 1)) rfl) ?_
  refine mm_fc (ss_get X rfl in_X12 (by decide) rfl wd_6_48 (by decide +kernel : decode cX12_number 76 = .ok (.getfield 243, 3))) ?_
  refine mm_fc (ss_iload_n hx hb (by decide +kernel : decode cX12_number 79 = .ok (.iload_n 3, 1)) rfl) ?_
  refine mm_fc (ss_isub hx hb (by decide +kernel : decode cX12_number 80 = .ok (.isub, 1))) ?_
  refine mm_fc (ss_iconst hx hb (by decide +kernel : decode cX12_number 81 = .ok (.iconst 4, 1)) (by decide)) ?_
  refine mm_fc (ss_icmpne hx hb (by decide +kernel : decode cX12_number 82 = .ok (.if_icmp .ne 14, 3)) (by decide)) ?_
  refine mm_fc (ss_aload_n hx hb (by decide +kernel : decode cX12_number 85 = .ok (.aload_n 0, 1)) rfl) ?_
  refine mm_fc (ss_iconst hx hb (by decide +kernel : decode cX12_number 86 = .ok (.iconst 1, 1)) (by decide)) ?_
  refine mm_fc (ss_aload_n hx hb (by decide +kernel : decode cX12_number 87 = .ok (.aload_n 0, 1)) rfl) ?_
  refine mm_fc (ss_get X rfl in_X12 (by decide) rfl wd_6_48 (by decide +kernel : decode cX12_number 88 = .ok (.getfield 243, 3))) ?_
  refine mm_fc (ss_callV X rfl rfl wd_7_186 wd_1_13 wd_7_183 wd_7_185 wd_p_51 (by decide +kernel) (by decide +kernel) (by decide) (by decide +kernel : decode cX12_number 91 = .ok (.invokevirtual 267, 3))) ?_
  refine mm_fc (ss_iconst hx hb (by decide +kernel : decode cX12_number 94 = .ok (.iconst 0, 1)) (by decide)) ?_
  refine mm_fc (ss_iret (by decide +kernel : decode cX12_number 95 = .ok (.ireturn, 1)) rfl) ?_
  refine mm_fc (ss_bipush hx hb (by decide +kernel : decode cX12_number 96 = .ok (.bipush 10, 2)) (by decide)) ?_
  refine mm_fc (ss_iload hx hb (by decide +kernel : decode cX12_number 98 = .ok (.iload 4, 2))) ?_
  refine mm_fc (ss_imul hx hb (by decide +kernel : decode cX12_number 100 = .ok (.imul, 1))) ?_
  refine mm_fc (ss_aload_n hx hb (by decide +kernel : decode cX12_number 101 = .ok (.aload_n 0, 1)) rfl) ?_
  refine mm_fc (ss_get X rfl in_X12 (by decide) rfl wd_6_46 (by decide +kernel : decode cX12_number 102 = .ok (.getfield 7, 3))) ?_
  refine mm_fc (ss_aload_n hx hb (by decide +kernel : decode cX12_number 105 = .ok (.aload_n 0, 1)) rfl) ?_
  refine mm_fc (ss_get X rfl in_X12 (by decide) rfl wd_6_48 (by decide +kernel : decode cX12_number 106 = .ok (.getfield 243, 3))) ?_
  refine mm_fc (ss_iald X (by decide +kernel : decode cX12_number 109 = .ok (.iaload, 1))) ?_
  refine mm_fc (ss_iadd hx hb (by decide +kernel : decode cX12_number 110 = .ok (.iadd, 1))) ?_
  refine mm_fc (ss_bipush hx hb (by decide +kernel : decode cX12_number 111 = .ok (.bipush 48, 2)) (by decide)) ?_
  refine mm_fc (ss_isub hx hb (by decide +kernel : decode cX12_number 113 = .ok (.isub, 1))) ?_
  refine mm_fc (ss_istore hx hb (by decide +kernel : decode cX12_number 114 = .ok (.istore 4, 2)) (by decide)) ?_
  refine mm_fc (ss_aload_n hx hb (by decide +kernel : decode cX12_number 116 = .ok (.aload_n 0, 1)) rfl) ?_
  refine mm_fc (ss_dup hx hb (by decide +kernel : decode cX12_number 117 = .ok (.dup, 1))) ?_
  refine mm_fc (ss_get X rfl in_X12 (by decide) rfl wd_6_48 (by decide +kernel : decode cX12_number 118 = .ok (.getfield 243, 3))) ?_
  refine mm_fc (ss_iconst hx hb (by decide +kernel : decode cX12_number 121 = .ok (.iconst 1, 1)) (by decide)) ?_
  refine mm_fc (ss_iadd hx hb (by decide +kernel : decode cX12_number 122 = .ok (.iadd, 1))) ?_
  refine mm_fc (ss_putI X rfl in_X12 tyX12_ok nmX12 (by decide) rfl rfl rfl rfl wd_6_48 (by decide +kernel : decode cX12_number 123 = .ok (.putfield 243, 3))) ?_
  refine mm_fc (ss_goto hx hb (by decide +kernel : decode cX12_number 126 = .ok (.goto (-77), 3)) (by decide)) ?_
  refine mm_fc (ss_aload_n hx hb (by decide +kernel : decode cX12_number 129 = .ok (.aload_n 0, 1)) rfl) ?_
  refine mm_fc (ss_aload_n hx hb (by decide +kernel : decode cX12_number 130 = .ok (.aload_n 0, 1)) rfl) ?_
  refine mm_fc (ss_get X rfl in_X12 (by decide) rfl wd_6_48 (by decide +kernel : decode cX12_number 131 = .ok (.getfield 243, 3))) ?_
  refine mm_fc (ss_putI X rfl in_X12 tyX12_ok nmX12 (by decide) rfl rfl rfl rfl wd_6_50 (by decide +kernel : decode cX12_number 134 = .ok (.putfield 257, 3))) ?_
  refine mm_fc (ss_aload_n hx hb (by decide +kernel : decode cX12_number 137 = .ok (.aload_n 0, 1)) rfl) ?_
  refine mm_fc (ss_iload_n hx hb (by decide +kernel : decode cX12_number 138 = .ok (.iload_n 3, 1)) rfl) ?_
  refine mm_fc (ss_putI X rfl in_X12 tyX12_ok nmX12 (by decide) rfl rfl rfl rfl wd_6_56 (by decide +kernel : decode cX12_number 139 = .ok (.putfield 277, 3))) ?_
  refine mm_fc (ss_iload hx hb (by decide +kernel : decode cX12_number 142 = .ok (.iload 4, 2))) ?_
  refine mm_fc (ss_i2l hx hb (by decide +kernel : decode cX12_number 144 = .ok (.i2l, 1))) ?_
  refine mm_fc (ss_iload_n hx hb (by decide +kernel : decode cX12_number 145 = .ok (.iload_n 1, 1)) rfl) ?_
  refine mm_fc (ss_i2l hx hb (by decide +kernel : decode cX12_number 146 = .ok (.i2l, 1))) ?_
  refine mm_fc (ss_iload_n hx hb (by decide +kernel : decode cX12_number 147 = .ok (.iload_n 2, 1)) rfl) ?_
  refine mm_fc (ss_i2l hx hb (by decide +kernel : decode cX12_number 148 = .ok (.i2l, 1))) ?_
  refine mm_fc (ss_callS X rfl wd_7_196 wd_1_13 wd_7_194 wd_7_195 (by decide +kernel) (by decide +kernel) (by decide) (by decide +kernel : decode cX12_number 149 = .ok (.invokestatic 280, 3))) ?_
  refine mm_fc (ss_ifne hx hb (by decide +kernel : decode cX12_number 152 = .ok (.ifCond .ne 9, 3)) (by decide)) ?_
  refine mm_fc (ss_aload_n hx hb (by decide +kernel : decode cX12_number 155 = .ok (.aload_n 0, 1)) rfl) ?_
  refine mm_fc (ss_iconst hx hb (by decide +kernel : decode cX12_number 156 = .ok (.iconst 2, 1)) (by decide)) ?_
  refine mm_fc (ss_iload_n hx hb (by decide +kernel : decode cX12_number 157 = .ok (.iload_n 3, 1)) rfl) ?_
  refine mm_fc (ss_callV X rfl rfl wd_7_186 wd_1_13 wd_7_183 wd_7_185 wd_p_51 (by decide +kernel) (by decide +kernel) (by decide) (by decide +kernel : decode cX12_number 158 = .ok (.invokevirtual 267, 3))) ?_
  refine mm_fc (ss_iload hx hb (by decide +kernel : decode cX12_number 161 = .ok (.iload 4, 2))) ?_
  refine mm_fc (ss_iret (by decide +kernel : decode cX12_number 163 = .ok (.ireturn, 1)) rfl) ?_
  exact mm_fn
