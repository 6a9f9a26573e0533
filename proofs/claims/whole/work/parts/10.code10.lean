def cd_X12_yearsGo : mm_K mm_H := [(0, s_pushI 0 1), (1, s_istore 2 2), (2, s_iload 2 3), (3, s_iload 1 4), (4, s_icmp (fun x y => y ≤ x) 17 7), (7, s_aload 0 8), (8, s_callV 12 233 0 0 11), (11, s_iinc 2 1 14), (14, s_goto 2), (17, s_vret)]
set_option maxRecDepth 100000 in
set_option maxHeartbeats 4000000 in
theorem ok_X12_yearsGo (l : Launch) : mm_CodeOK l mm_I0 RX12 cX12_yearsGo 3 none cd_X12_yearsGo := by
  intro p e R s m args below meth c Q σ cA D A kc ks d C X
  have hx := X.1
  have hb := X.2.1
  have hown := X.2.2.2.1
  have hts := X.2.2.2.2.1
  refine mm_fc (ss_iconst hx hb (by decide +kernel : decode cX12_yearsGo 0 = .ok (.iconst 0, 1)) (by decide)) ?_
  refine mm_fc (ss_istore_n hx hb (by decide +kernel : decode cX12_yearsGo 1 = .ok (.istore_n 2, 1)) rfl (by decide)) ?_
  refine mm_fc (ss_iload_n hx hb (by decide +kernel : decode cX12_yearsGo 2 = .ok (.iload_n 2, 1)) rfl) ?_
  refine mm_fc (ss_iload_n hx hb (by decide +kernel : decode cX12_yearsGo 3 = .ok (.iload_n 1, 1)) rfl) ?_
  refine mm_fc (ss_icmpge hx hb (by decide +kernel : decode cX12_yearsGo 4 = .ok (.if_icmp .ge 13, 3)) (by decide)) ?_
  refine mm_fc (ss_aload_n hx hb (by decide +kernel : decode cX12_yearsGo 7 = .ok (.aload_n 0, 1)) rfl) ?_
  refine mm_fc (ss_callV X rfl rfl wd_9_2 wd_1_13 wd_8_239 wd_9_1 wd_p_109 (by decide +kernel) (by decide +kernel) (by decide) (by decide +kernel : decode cX12_yearsGo 8 = .ok (.invokevirtual 489, 3))) ?_
  refine mm_fc (ss_iinc hx hb (by decide +kernel : decode cX12_yearsGo 11 = .ok (.iinc 2 1, 3)) (by decide) (by decide)) ?_
  refine mm_fc (ss_goto hx hb (by decide +kernel : decode cX12_yearsGo 14 = .ok (.goto (-12), 3)) (by decide)) ?_
  refine mm_fc (ss_vret (by decide +kernel : decode cX12_yearsGo 17 = .ok (.return_, 1)) rfl) ?_
  exact mm_fn
def cd_X12_putsAside : mm_K mm_H := [(0, s_aload 0 1), (1, s_pushI 1 2), (2, s_putZ 12 64 5), (5, s_pushI 0 6), (6, s_istore 1 7), (7, s_iload 1 8), (8, s_pushI 89 10), (10, s_icmp (fun x y => y ≤ x) 31 13), (13, s_aload 0 14), (14, s_get 12 56 17), (17, s_iload 1 18), (18, s_aload 0 19), (19, s_get 12 55 22), (22, s_iload 1 23), (23, s_iald 24), (24, s_iast 25), (25, s_iinc 1 1 28), (28, s_goto 7), (31, s_vret)]
set_option maxRecDepth 100000 in
set_option maxHeartbeats 4000000 in
theorem ok_X12_putsAside (l : Launch) : mm_CodeOK l mm_I0 RX12 cX12_putsAside 2 none cd_X12_putsAside := by
  intro p e R s m args below meth c Q σ cA D A kc ks d C X
  have hx := X.1
  have hb := X.2.1
  have hown := X.2.2.2.1
  have hts := X.2.2.2.2.1
  refine mm_fc (ss_aload_n hx hb (by decide +kernel : decode cX12_putsAside 0 = .ok (.aload_n 0, 1)) rfl) ?_
  refine mm_fc (ss_iconst hx hb (by decide +kernel : decode cX12_putsAside 1 = .ok (.iconst 1, 1)) (by decide)) ?_
  refine mm_fc (ss_putZ X rfl in_X12 tyX12_ok nmX12 (by decide) rfl rfl rfl rfl wd_6_110 (by decide +kernel : decode cX12_putsAside 2 = .ok (.putfield 464, 3))) ?_
  refine mm_fc (ss_iconst hx hb (by decide +kernel : decode cX12_putsAside 5 = .ok (.iconst 0, 1)) (by decide)) ?_
  refine mm_fc (ss_istore_n hx hb (by decide +kernel : decode cX12_putsAside 6 = .ok (.istore_n 1, 1)) rfl (by decide)) ?_
  refine mm_fc (ss_iload_n hx hb (by decide +kernel : decode cX12_putsAside 7 = .ok (.iload_n 1, 1)) rfl) ?_
  refine mm_fc (ss_bipush hx hb (by decide +kernel : decode cX12_putsAside 8 = .ok (.bipush 89, 2)) (by decide)) ?_
  refine mm_fc (ss_icmpge hx hb (by decide +kernel : decode cX12_putsAside 10 = .ok (.if_icmp .ge 21, 3)) (by decide)) ?_
  refine mm_fc (ss_aload_n hx hb (by decide +kernel : decode cX12_putsAside 13 = .ok (.aload_n 0, 1)) rfl) ?_
  refine mm_fc (ss_get X rfl in_X12 (by decide) rfl wd_6_102 (by decide +kernel : decode cX12_putsAside 14 = .ok (.getfield 124, 3))) ?_
  refine mm_fc (ss_iload_n hx hb (by decide +kernel : decode cX12_putsAside 17 = .ok (.iload_n 1, 1)) rfl) ?_
  refine mm_fc (ss_aload_n hx hb (by decide +kernel : decode cX12_putsAside 18 = .ok (.aload_n 0, 1)) rfl) ?_
  refine mm_fc (ss_get X rfl in_X12 (by decide) rfl wd_6_101 (by decide +kernel : decode cX12_putsAside 19 = .ok (.getfield 121, 3))) ?_
  refine mm_fc (ss_iload_n hx hb (by decide +kernel : decode cX12_putsAside 22 = .ok (.iload_n 1, 1)) rfl) ?_
  refine mm_fc (ss_iald X (by decide +kernel : decode cX12_putsAside 23 = .ok (.iaload, 1))) ?_
  refine mm_fc (ss_iast X (by decide +kernel : decode cX12_putsAside 24 = .ok (.iastore, 1))) ?_
  refine mm_fc (ss_iinc hx hb (by decide +kernel : decode cX12_putsAside 25 = .ok (.iinc 1 1, 3)) (by decide) (by decide)) ?_
  refine mm_fc (ss_goto hx hb (by decide +kernel : decode cX12_putsAside 28 = .ok (.goto (-21), 3)) (by decide)) ?_
  refine mm_fc (ss_vret (by decide +kernel : decode cX12_putsAside 31 = .ok (.return_, 1)) rfl) ?_
  exact mm_fn
def cd_X12_triesAnew : mm_K mm_H := [(0, s_pushI 0 1), (1, s_istore 1 2), (2, s_iload 1 3), (3, s_pushI 89 5), (5, s_icmp (fun x y => y ≤ x) 26 8), (8, s_aload 0 9), (9, s_get 12 55 12), (12, s_iload 1 13), (13, s_aload 0 14), (14, s_get 12 56 17), (17, s_iload 1 18), (18, s_iald 19), (19, s_iast 20), (20, s_iinc 1 1 23), (23, s_goto 2), (26, s_vret)]
set_option maxRecDepth 100000 in
set_option maxHeartbeats 4000000 in
theorem ok_X12_triesAnew (l : Launch) : mm_CodeOK l mm_I0 RX12 cX12_triesAnew 2 none cd_X12_triesAnew := by
  intro p e R s m args below meth c Q σ cA D A kc ks d C X
  have hx := X.1
  have hb := X.2.1
  have hown := X.2.2.2.1
  have hts := X.2.2.2.2.1
  refine mm_fc (ss_iconst hx hb (by decide +kernel : decode cX12_triesAnew 0 = .ok (.iconst 0, 1)) (by decide)) ?_
  refine mm_fc (ss_istore_n hx hb (by decide +kernel : decode cX12_triesAnew 1 = .ok (.istore_n 1, 1)) rfl (by decide)) ?_
  refine mm_fc (ss_iload_n hx hb (by decide +kernel : decode cX12_triesAnew 2 = .ok (.iload_n 1, 1)) rfl) ?_
  refine mm_fc (ss_bipush hx hb (by decide +kernel : decode cX12_triesAnew 3 = .ok (.bipush 89, 2)) (by decide)) ?_
  refine mm_fc (ss_icmpge hx hb (by decide +kernel : decode cX12_triesAnew 5 = .ok (.if_icmp .ge 21, 3)) (by decide)) ?_
  refine mm_fc (ss_aload_n hx hb (by decide +kernel : decode cX12_triesAnew 8 = .ok (.aload_n 0, 1)) rfl) ?_
  refine mm_fc (ss_get X rfl in_X12 (by decide) rfl wd_6_101 (by decide +kernel : decode cX12_triesAnew 9 = .ok (.getfield 121, 3))) ?_
  refine mm_fc (ss_iload_n hx hb (by decide +kernel : decode cX12_triesAnew 12 = .ok (.iload_n 1, 1)) rfl) ?_
  refine mm_fc (ss_aload_n hx hb (by decide +kernel : decode cX12_triesAnew 13 = .ok (.aload_n 0, 1)) rfl) ?_
  refine mm_fc (ss_get X rfl in_X12 (by decide) rfl wd_6_102 (by decide +kernel : decode cX12_triesAnew 14 = .ok (.getfield 124, 3))) ?_
  refine mm_fc (ss_iload_n hx hb (by decide +kernel : decode cX12_triesAnew 17 = .ok (.iload_n 1, 1)) rfl) ?_
  refine mm_fc (ss_iald X (by decide +kernel : decode cX12_triesAnew 18 = .ok (.iaload, 1))) ?_
  refine mm_fc (ss_iast X (by decide +kernel : decode cX12_triesAnew 19 = .ok (.iastore, 1))) ?_
  refine mm_fc (ss_iinc hx hb (by decide +kernel : decode cX12_triesAnew 20 = .ok (.iinc 1 1, 3)) (by decide) (by decide)) ?_
  refine mm_fc (ss_goto hx hb (by decide +kernel : decode cX12_triesAnew 23 = .ok (.goto (-21), 3)) (by decide)) ?_
  refine mm_fc (ss_vret (by decide +kernel : decode cX12_triesAnew 26 = .ok (.return_, 1)) rfl) ?_
  exact mm_fn
def cd_X12_takesBack : mm_K mm_H := [(0, s_aload 0 1), (1, s_callV 12 236 0 0 4), (4, s_aload 0 5), (5, s_pushI 0 6), (6, s_putZ 12 64 9), (9, s_vret)]
set_option maxRecDepth 100000 in
set_option maxHeartbeats 4000000 in
theorem ok_X12_takesBack (l : Launch) : mm_CodeOK l mm_I0 RX12 cX12_takesBack 1 none cd_X12_takesBack := by
  intro p e R s m args below meth c Q σ cA D A kc ks d C X
  have hx := X.1
  have hb := X.2.1
  have hown := X.2.2.2.1
  have hts := X.2.2.2.2.1
  refine mm_fc (ss_aload_n hx hb (by decide +kernel : decode cX12_takesBack 0 = .ok (.aload_n 0, 1)) rfl) ?_
  refine mm_fc (ss_callV X rfl rfl wd_9_22 wd_1_13 wd_9_19 wd_9_21 wd_p_114 (by decide +kernel) (by decide +kernel) (by decide) (by decide +kernel : decode cX12_takesBack 1 = .ok (.invokevirtual 492, 3))) ?_
  refine mm_fc (ss_aload_n hx hb (by decide +kernel : decode cX12_takesBack 4 = .ok (.aload_n 0, 1)) rfl) ?_
  refine mm_fc (ss_iconst hx hb (by decide +kernel : decode cX12_takesBack 5 = .ok (.iconst 0, 1)) (by decide)) ?_
  refine mm_fc (ss_putZ X rfl in_X12 tyX12_ok nmX12 (by decide) rfl rfl rfl rfl wd_6_110 (by decide +kernel : decode cX12_takesBack 6 = .ok (.putfield 464, 3))) ?_
  refine mm_fc (ss_vret (by decide +kernel : decode cX12_takesBack 9 = .ok (.return_, 1)) rfl) ?_
  exact mm_fn
def cd_X12_isAhead : mm_K mm_H := [(0, s_iload 1 1), (1, s_i2l 2), (2, s_iload 2 3), (3, s_i2l 4), (4, s_iload 3 5), (5, s_i2l 6), (6, s_callS 188 3 1 9), (9, s_if (fun x => x = 0) 30 12), (12, s_aload 0 13), (13, s_get 12 55 16), (16, s_pushI 0 17), (17, s_iald 18), (18, s_iload 1 19), (19, s_bin (fun x y => x + y) 20), (20, s_pushI 999 23), (23, s_icmp (fun x y => y < x) 30 26), (26, s_pushI 1 27), (27, s_goto 31), (30, s_pushI 0 31), (31, s_zret)]
set_option maxRecDepth 100000 in
set_option maxHeartbeats 4000000 in
theorem ok_X12_isAhead (l : Launch) : mm_CodeOK l mm_I0 RX12 cX12_isAhead 4 (some .boolean) cd_X12_isAhead := by
  intro p e R s m args below meth c Q σ cA D A kc ks d C X
  have hx := X.1
  have hb := X.2.1
  have hown := X.2.2.2.1
  have hts := X.2.2.2.2.1
  refine mm_fc (ss_iload_n hx hb (by decide +kernel : decode cX12_isAhead 0 = .ok (.iload_n 1, 1)) rfl) ?_
  refine mm_fc (ss_i2l hx hb (by decide +kernel : decode cX12_isAhead 1 = .ok (.i2l, 1))) ?_
  refine mm_fc (ss_iload_n hx hb (by decide +kernel : decode cX12_isAhead 2 = .ok (.iload_n 2, 1)) rfl) ?_
  refine mm_fc (ss_i2l hx hb (by decide +kernel : decode cX12_isAhead 3 = .ok (.i2l, 1))) ?_
  refine mm_fc (ss_iload_n hx hb (by decide +kernel : decode cX12_isAhead 4 = .ok (.iload_n 3, 1)) rfl) ?_
  refine mm_fc (ss_i2l hx hb (by decide +kernel : decode cX12_isAhead 5 = .ok (.i2l, 1))) ?_
  refine mm_fc (ss_callS X rfl wd_7_196 wd_1_13 wd_7_194 wd_7_195 (by decide +kernel) (by decide +kernel) (by decide) (by decide +kernel : decode cX12_isAhead 6 = .ok (.invokestatic 280, 3))) ?_
  refine mm_fc (ss_ifeq hx hb (by decide +kernel : decode cX12_isAhead 9 = .ok (.ifCond .eq 21, 3)) (by decide)) ?_
  refine mm_fc (ss_aload_n hx hb (by decide +kernel : decode cX12_isAhead 12 = .ok (.aload_n 0, 1)) rfl) ?_
  refine mm_fc (ss_get X rfl in_X12 (by decide) rfl wd_6_101 (by decide +kernel : decode cX12_isAhead 13 = .ok (.getfield 121, 3))) ?_
  refine mm_fc (ss_iconst hx hb (by decide +kernel : decode cX12_isAhead 16 = .ok (.iconst 0, 1)) (by decide)) ?_
  refine mm_fc (ss_iald X (by decide +kernel : decode cX12_isAhead 17 = .ok (.iaload, 1))) ?_
  refine mm_fc (ss_iload_n hx hb (by decide +kernel : decode cX12_isAhead 18 = .ok (.iload_n 1, 1)) rfl) ?_
  refine mm_fc (ss_iadd hx hb (by decide +kernel : decode cX12_isAhead 19 = .ok (.iadd, 1))) ?_
  refine mm_fc (ss_sipush hx hb (by decide +kernel : decode cX12_isAhead 20 = .ok (.sipush 999, 3)) (by decide)) ?_
  refine mm_fc (ss_icmpgt hx hb (by decide +kernel : decode cX12_isAhead 23 = .ok (.if_icmp .gt 7, 3)) (by decide)) ?_
  refine mm_fc (ss_iconst hx hb (by decide +kernel : decode cX12_isAhead 26 = .ok (.iconst 1, 1)) (by decide)) ?_
  refine mm_fc (ss_goto hx hb (by decide +kernel : decode cX12_isAhead 27 = .ok (.goto 4, 3)) (by decide)) ?_
  refine mm_fc (ss_iconst hx hb (by decide +kernel : decode cX12_isAhead 30 = .ok (.iconst 0, 1)) (by decide)) ?_
  refine mm_fc (ss_zret (by decide +kernel : decode cX12_isAhead 31 = .ok (.ireturn, 1)) rfl) ?_
  exact mm_fn
def cd_X12_bits : mm_K mm_H := [(0, s_pushI 0 1), (1, s_istore 1 2), (2, s_iload 0 3), (3, s_kill 4 [0] (s_istore 2 4)), (4, s_iload 2 5), (5, s_if (fun x => x = 0) 20 8), (8, s_iinc 1 1 11), (11, s_iload 2 12), (12, s_iload 2 13), (13, s_pushI 1 14), (14, s_bin (fun x y => x - y) 15), (15, s_bin (fun x y => x &&& y) 16), (16, s_istore 2 17), (17, s_kill 4 [0] (s_goto 4)), (20, s_iload 1 21), (21, s_iret)]
set_option maxRecDepth 100000 in
set_option maxHeartbeats 4000000 in
theorem ok_X12_bits (l : Launch) : mm_CodeOK l mm_I0 RX12 cX12_bits 3 (some .int) cd_X12_bits := by
  intro p e R s m args below meth c Q σ cA D A kc ks d C X
  have hx := X.1
  have hb := X.2.1
  have hown := X.2.2.2.1
  have hts := X.2.2.2.2.1
  refine mm_fc (ss_iconst hx hb (by decide +kernel : decode cX12_bits 0 = .ok (.iconst 0, 1)) (by decide)) ?_
  refine mm_fc (ss_istore_n hx hb (by decide +kernel : decode cX12_bits 1 = .ok (.istore_n 1, 1)) rfl (by decide)) ?_
  refine mm_fc (ss_iload_n hx hb (by decide +kernel : decode cX12_bits 2 = .ok (.iload_n 0, 1)) rfl) ?_
  refine mm_fc (ss_kill (ss_istore_n hx hb (by decide +kernel : decode cX12_bits 3 = .ok (.istore_n 2, 1)) rfl (by decide))) ?_
  refine mm_fc (ss_iload_n hx hb (by decide +kernel : decode cX12_bits 4 = .ok (.iload_n 2, 1)) rfl) ?_
  refine mm_fc (ss_ifeq hx hb (by decide +kernel : decode cX12_bits 5 = .ok (.ifCond .eq 15, 3)) (by decide)) ?_
  refine mm_fc (ss_iinc hx hb (by decide +kernel : decode cX12_bits 8 = .ok (.iinc 1 1, 3)) (by decide) (by decide)) ?_
  refine mm_fc (ss_iload_n hx hb (by decide +kernel : decode cX12_bits 11 = .ok (.iload_n 2, 1)) rfl) ?_
  refine mm_fc (ss_iload_n hx hb (by decide +kernel : decode cX12_bits 12 = .ok (.iload_n 2, 1)) rfl) ?_
  refine mm_fc (ss_iconst hx hb (by decide +kernel : decode cX12_bits 13 = .ok (.iconst 1, 1)) (by decide)) ?_
  refine mm_fc (ss_isub hx hb (by decide +kernel : decode cX12_bits 14 = .ok (.isub, 1))) ?_
  refine mm_fc (ss_iand hx hb (by decide +kernel : decode cX12_bits 15 = .ok (.iand, 1))) ?_
  refine mm_fc (ss_istore_n hx hb (by decide +kernel : decode cX12_bits 16 = .ok (.istore_n 2, 1)) rfl (by decide)) ?_
  refine mm_fc (ss_kill (ss_goto hx hb (by decide +kernel : decode cX12_bits 17 = .ok (.goto (-13), 3)) (by decide))) ?_
  refine mm_fc (ss_iload_n hx hb (by decide +kernel : decode cX12_bits 20 = .ok (.iload_n 1, 1)) rfl) ?_
  refine mm_fc (ss_iret (by decide +kernel : decode cX12_bits 21 = .ok (.ireturn, 1)) rfl) ?_
  exact mm_fn
def cd_X12_lookAll : mm_K mm_H := [(0, s_pushI 0 1), (1, s_istore 1 2), (2, s_pushI 0 3), (3, s_istore 2 4), (4, s_iload 2 5), (5, s_aload 0 6), (6, s_get 12 40 9), (9, s_icmp (fun x y => y ≤ x) 26 12), (12, s_iload 1 13), (13, s_aload 0 14), (14, s_iload 2 15), (15, s_callV 12 219 1 1 18), (18, s_bin (fun x y => x + y) 19), (19, s_istore 1 20), (20, s_iinc 2 1 23), (23, s_goto 4), (26, s_iload 1 27), (27, s_iret)]
set_option maxRecDepth 100000 in
set_option maxHeartbeats 4000000 in
theorem ok_X12_lookAll (l : Launch) : mm_CodeOK l mm_I0 RX12 cX12_lookAll 3 (some .int) cd_X12_lookAll := by
  intro p e R s m args below meth c Q σ cA D A kc ks d C X
  have hx := X.1
  have hb := X.2.1
  have hown := X.2.2.2.1
  have hts := X.2.2.2.2.1
  refine mm_fc (ss_iconst hx hb (by decide +kernel : decode cX12_lookAll 0 = .ok (.iconst 0, 1)) (by decide)) ?_
  refine mm_fc (ss_istore_n hx hb (by decide +kernel : decode cX12_lookAll 1 = .ok (.istore_n 1, 1)) rfl (by decide)) ?_
  refine mm_fc (ss_iconst hx hb (by decide +kernel : decode cX12_lookAll 2 = .ok (.iconst 0, 1)) (by decide)) ?_
  refine mm_fc (ss_istore_n hx hb (by decide +kernel : decode cX12_lookAll 3 = .ok (.istore_n 2, 1)) rfl (by decide)) ?_
  refine mm_fc (ss_iload_n hx hb (by decide +kernel : decode cX12_lookAll 4 = .ok (.iload_n 2, 1)) rfl) ?_
  refine mm_fc (ss_aload_n hx hb (by decide +kernel : decode cX12_lookAll 5 = .ok (.aload_n 0, 1)) rfl) ?_
  refine mm_fc (ss_get X rfl in_X12 (by decide) rfl wd_6_86 (by decide +kernel : decode cX12_lookAll 6 = .ok (.getfield 382, 3))) ?_
  refine mm_fc (ss_icmpge hx hb (by decide +kernel : decode cX12_lookAll 9 = .ok (.if_icmp .ge 17, 3)) (by decide)) ?_
  refine mm_fc (ss_iload_n hx hb (by decide +kernel : decode cX12_lookAll 12 = .ok (.iload_n 1, 1)) rfl) ?_
  refine mm_fc (ss_aload_n hx hb (by decide +kernel : decode cX12_lookAll 13 = .ok (.aload_n 0, 1)) rfl) ?_
  refine mm_fc (ss_iload_n hx hb (by decide +kernel : decode cX12_lookAll 14 = .ok (.iload_n 2, 1)) rfl) ?_
  refine mm_fc (ss_callV X rfl rfl wd_8_97 wd_1_13 wd_8_94 wd_8_96 wd_p_84 (by decide +kernel) (by decide +kernel) (by decide) (by decide +kernel : decode cX12_lookAll 15 = .ok (.invokevirtual 423, 3))) ?_
  refine mm_fc (ss_iadd hx hb (by decide +kernel : decode cX12_lookAll 18 = .ok (.iadd, 1))) ?_
  refine mm_fc (ss_istore_n hx hb (by decide +kernel : decode cX12_lookAll 19 = .ok (.istore_n 1, 1)) rfl (by decide)) ?_
  refine mm_fc (ss_iinc hx hb (by decide +kernel : decode cX12_lookAll 20 = .ok (.iinc 2 1, 3)) (by decide) (by decide)) ?_
  refine mm_fc (ss_goto hx hb (by decide +kernel : decode cX12_lookAll 23 = .ok (.goto (-19), 3)) (by decide)) ?_
  refine mm_fc (ss_iload_n hx hb (by decide +kernel : decode cX12_lookAll 26 = .ok (.iload_n 1, 1)) rfl) ?_
  refine mm_fc (ss_iret (by decide +kernel : decode cX12_lookAll 27 = .ok (.ireturn, 1)) rfl) ?_
  exact mm_fn
def cd_X12_curtainsNow : mm_K mm_H := [(0, s_pushI 0 1), (1, s_istore 1 2), (2, s_pushI 0 3), (3, s_istore 2 4), (4, s_iload 2 5), (5, s_aload 0 6), (6, s_get 12 40 9), (9, s_icmp (fun x y => y ≤ x) 29 12), (12, s_aload 0 13), (13, s_iload 2 14), (14, s_callV 12 219 1 1 17), (17, s_if (fun x => ¬ x = 0) 23 20), (20, s_iinc 1 1 23), (23, s_iinc 2 1 26), (26, s_goto 4), (29, s_iload 1 30), (30, s_iret)]
set_option maxRecDepth 100000 in
set_option maxHeartbeats 4000000 in
theorem ok_X12_curtainsNow (l : Launch) : mm_CodeOK l mm_I0 RX12 cX12_curtainsNow 3 (some .int) cd_X12_curtainsNow := by
  intro p e R s m args below meth c Q σ cA D A kc ks d C X
  have hx := X.1
  have hb := X.2.1
  have hown := X.2.2.2.1
  have hts := X.2.2.2.2.1
  refine mm_fc (ss_iconst hx hb (by decide +kernel : decode cX12_curtainsNow 0 = .ok (.iconst 0, 1)) (by decide)) ?_
  refine mm_fc (ss_istore_n hx hb (by decide +kernel : decode cX12_curtainsNow 1 = .ok (.istore_n 1, 1)) rfl (by decide)) ?_
  refine mm_fc (ss_iconst hx hb (by decide +kernel : decode cX12_curtainsNow 2 = .ok (.iconst 0, 1)) (by decide)) ?_
  refine mm_fc (ss_istore_n hx hb (by decide +kernel : decode cX12_curtainsNow 3 = .ok (.istore_n 2, 1)) rfl (by decide)) ?_
  refine mm_fc (ss_iload_n hx hb (by decide +kernel : decode cX12_curtainsNow 4 = .ok (.iload_n 2, 1)) rfl) ?_
  refine mm_fc (ss_aload_n hx hb (by decide +kernel : decode cX12_curtainsNow 5 = .ok (.aload_n 0, 1)) rfl) ?_
  refine mm_fc (ss_get X rfl in_X12 (by decide) rfl wd_6_86 (by decide +kernel : decode cX12_curtainsNow 6 = .ok (.getfield 382, 3))) ?_
  refine mm_fc (ss_icmpge hx hb (by decide +kernel : decode cX12_curtainsNow 9 = .ok (.if_icmp .ge 20, 3)) (by decide)) ?_
  refine mm_fc (ss_aload_n hx hb (by decide +kernel : decode cX12_curtainsNow 12 = .ok (.aload_n 0, 1)) rfl) ?_
  refine mm_fc (ss_iload_n hx hb (by decide +kernel : decode cX12_curtainsNow 13 = .ok (.iload_n 2, 1)) rfl) ?_
  refine mm_fc (ss_callV X rfl rfl wd_8_97 wd_1_13 wd_8_94 wd_8_96 wd_p_84 (by decide +kernel) (by decide +kernel) (by decide) (by decide +kernel : decode cX12_curtainsNow 14 = .ok (.invokevirtual 423, 3))) ?_
  refine mm_fc (ss_ifne hx hb (by decide +kernel : decode cX12_curtainsNow 17 = .ok (.ifCond .ne 6, 3)) (by decide)) ?_
  refine mm_fc (ss_iinc hx hb (by decide +kernel : decode cX12_curtainsNow 20 = .ok (.iinc 1 1, 3)) (by decide) (by decide)) ?_
  refine mm_fc (ss_iinc hx hb (by decide +kernel : decode cX12_curtainsNow 23 = .ok (.iinc 2 1, 3)) (by decide) (by decide)) ?_
  refine mm_fc (ss_goto hx hb (by decide +kernel : decode cX12_curtainsNow 26 = .ok (.goto (-22), 3)) (by decide)) ?_
  refine mm_fc (ss_iload_n hx hb (by decide +kernel : decode cX12_curtainsNow 29 = .ok (.iload_n 1, 1)) rfl) ?_
  refine mm_fc (ss_iret (by decide +kernel : decode cX12_curtainsNow 30 = .ok (.ireturn, 1)) rfl) ?_
  exact mm_fn
def cd_X12_spareMany : mm_K mm_H := [(0, s_pushI 0 1), (1, s_istore 1 2), (2, s_pushI 0 3), (3, s_istore 2 4), (4, s_iload 2 5), (5, s_aload 0 6), (6, s_get 12 40 9), (9, s_icmp (fun x y => y ≤ x) 29 12), (12, s_aload 0 13), (13, s_iload 2 14), (14, s_callV 12 220 1 1 17), (17, s_if (fun x => x = 0) 23 20), (20, s_iinc 1 1 23), (23, s_iinc 2 1 26), (26, s_goto 4), (29, s_iload 1 30), (30, s_iret)]
set_option maxRecDepth 100000 in
set_option maxHeartbeats 4000000 in
theorem ok_X12_spareMany (l : Launch) : mm_CodeOK l mm_I0 RX12 cX12_spareMany 3 (some .int) cd_X12_spareMany := by
  intro p e R s m args below meth c Q σ cA D A kc ks d C X
  have hx := X.1
  have hb := X.2.1
  have hown := X.2.2.2.1
  have hts := X.2.2.2.2.1
  refine mm_fc (ss_iconst hx hb (by decide +kernel : decode cX12_spareMany 0 = .ok (.iconst 0, 1)) (by decide)) ?_
  refine mm_fc (ss_istore_n hx hb (by decide +kernel : decode cX12_spareMany 1 = .ok (.istore_n 1, 1)) rfl (by decide)) ?_
  refine mm_fc (ss_iconst hx hb (by decide +kernel : decode cX12_spareMany 2 = .ok (.iconst 0, 1)) (by decide)) ?_
  refine mm_fc (ss_istore_n hx hb (by decide +kernel : decode cX12_spareMany 3 = .ok (.istore_n 2, 1)) rfl (by decide)) ?_
  refine mm_fc (ss_iload_n hx hb (by decide +kernel : decode cX12_spareMany 4 = .ok (.iload_n 2, 1)) rfl) ?_
  refine mm_fc (ss_aload_n hx hb (by decide +kernel : decode cX12_spareMany 5 = .ok (.aload_n 0, 1)) rfl) ?_
  refine mm_fc (ss_get X rfl in_X12 (by decide) rfl wd_6_86 (by decide +kernel : decode cX12_spareMany 6 = .ok (.getfield 382, 3))) ?_
  refine mm_fc (ss_icmpge hx hb (by decide +kernel : decode cX12_spareMany 9 = .ok (.if_icmp .ge 20, 3)) (by decide)) ?_
  refine mm_fc (ss_aload_n hx hb (by decide +kernel : decode cX12_spareMany 12 = .ok (.aload_n 0, 1)) rfl) ?_
  refine mm_fc (ss_iload_n hx hb (by decide +kernel : decode cX12_spareMany 13 = .ok (.iload_n 2, 1)) rfl) ?_
  refine mm_fc (ss_callV X rfl rfl wd_8_105 wd_1_13 wd_8_102 wd_8_104 wd_p_86 (by decide +kernel) (by decide +kernel) (by decide) (by decide +kernel : decode cX12_spareMany 14 = .ok (.invokevirtual 470, 3))) ?_
  refine mm_fc (ss_ifeq hx hb (by decide +kernel : decode cX12_spareMany 17 = .ok (.ifCond .eq 6, 3)) (by decide)) ?_
  refine mm_fc (ss_iinc hx hb (by decide +kernel : decode cX12_spareMany 20 = .ok (.iinc 1 1, 3)) (by decide) (by decide)) ?_
  refine mm_fc (ss_iinc hx hb (by decide +kernel : decode cX12_spareMany 23 = .ok (.iinc 2 1, 3)) (by decide) (by decide)) ?_
  refine mm_fc (ss_goto hx hb (by decide +kernel : decode cX12_spareMany 26 = .ok (.goto (-22), 3)) (by decide)) ?_
  refine mm_fc (ss_iload_n hx hb (by decide +kernel : decode cX12_spareMany 29 = .ok (.iload_n 1, 1)) rfl) ?_
  refine mm_fc (ss_iret (by decide +kernel : decode cX12_spareMany 30 = .ok (.ireturn, 1)) rfl) ?_
  exact mm_fn
def cd_X12_feudAt : mm_K mm_H := [(0, s_aload 0 1), (1, s_iload 1 2), (2, s_callV 12 224 1 1 5), (5, s_istore 2 6), (6, s_aload 0 7), (7, s_iload 1 8), (8, s_pushI 1 9), (9, s_bin (fun x y => x + y) 10), (10, s_callV 12 224 1 1 13), (13, s_istore 3 14), (14, s_iload 2 15), (15, s_pushI (-1) 16), (16, s_icmp (fun x y => x = y) 24 19), (19, s_iload 3 20), (20, s_pushI (-1) 21), (21, s_icmp (fun x y => ¬ x = y) 28 24), (24, s_pushI (-1) 25), (25, s_goto 42), (28, s_aload 0 29), (29, s_iload 2 30), (30, s_iload 3 31), (31, s_callV 12 230 2 1 34), (34, s_if (fun x => x = 0) 41 37), (37, s_pushI 1 38), (38, s_goto 42), (41, s_pushI 0 42), (42, s_iret)]
set_option maxRecDepth 100000 in
set_option maxHeartbeats 4000000 in
theorem ok_X12_feudAt (l : Launch) : mm_CodeOK l mm_I0 RX12 cX12_feudAt 4 (some .int) cd_X12_feudAt := by
  intro p e R s m args below meth c Q σ cA D A kc ks d C X
  have hx := X.1
  have hb := X.2.1
  have hown := X.2.2.2.1
  have hts := X.2.2.2.2.1
  refine mm_fc (ss_aload_n hx hb (by decide +kernel : decode cX12_feudAt 0 = .ok (.aload_n 0, 1)) rfl) ?_
  refine mm_fc (ss_iload_n hx hb (by decide +kernel : decode cX12_feudAt 1 = .ok (.iload_n 1, 1)) rfl) ?_
  refine mm_fc (ss_callV X rfl rfl wd_8_117 wd_1_13 wd_8_114 wd_8_116 wd_p_89 (by decide +kernel) (by decide +kernel) (by decide) (by decide +kernel : decode cX12_feudAt 2 = .ok (.invokevirtual 406, 3))) ?_
  refine mm_fc (ss_istore_n hx hb (by decide +kernel : decode cX12_feudAt 5 = .ok (.istore_n 2, 1)) rfl (by decide)) ?_
  refine mm_fc (ss_aload_n hx hb (by decide +kernel : decode cX12_feudAt 6 = .ok (.aload_n 0, 1)) rfl) ?_
  refine mm_fc (ss_iload_n hx hb (by decide +kernel : decode cX12_feudAt 7 = .ok (.iload_n 1, 1)) rfl) ?_
  refine mm_fc (ss_iconst hx hb (by decide +kernel : decode cX12_feudAt 8 = .ok (.iconst 1, 1)) (by decide)) ?_
  refine mm_fc (ss_iadd hx hb (by decide +kernel : decode cX12_feudAt 9 = .ok (.iadd, 1))) ?_
  refine mm_fc (ss_callV X rfl rfl wd_8_117 wd_1_13 wd_8_114 wd_8_116 wd_p_89 (by decide +kernel) (by decide +kernel) (by decide) (by decide +kernel : decode cX12_feudAt 10 = .ok (.invokevirtual 406, 3))) ?_
  refine mm_fc (ss_istore_n hx hb (by decide +kernel : decode cX12_feudAt 13 = .ok (.istore_n 3, 1)) rfl (by decide)) ?_
  refine mm_fc (ss_iload_n hx hb (by decide +kernel : decode cX12_feudAt 14 = .ok (.iload_n 2, 1)) rfl) ?_
  refine mm_fc (ss_iconst hx hb (by decide +kernel : decode cX12_feudAt 15 = .ok (.iconst (-1), 1)) (by decide)) ?_
  refine mm_fc (ss_icmpeq hx hb (by decide +kernel : decode cX12_feudAt 16 = .ok (.if_icmp .eq 8, 3)) (by decide)) ?_
  refine mm_fc (ss_iload_n hx hb (by decide +kernel : decode cX12_feudAt 19 = .ok (.iload_n 3, 1)) rfl) ?_
  refine mm_fc (ss_iconst hx hb (by decide +kernel : decode cX12_feudAt 20 = .ok (.iconst (-1), 1)) (by decide)) ?_
  refine mm_fc (ss_icmpne hx hb (by decide +kernel : decode cX12_feudAt 21 = .ok (.if_icmp .ne 7, 3)) (by decide)) ?_
  refine mm_fc (ss_iconst hx hb (by decide +kernel : decode cX12_feudAt 24 = .ok (.iconst (-1), 1)) (by decide)) ?_
  refine mm_fc (ss_goto hx hb (by decide +kernel : decode cX12_feudAt 25 = .ok (.goto 17, 3)) (by decide)) ?_
  refine mm_fc (ss_aload_n hx hb (by decide +kernel : decode cX12_feudAt 28 = .ok (.aload_n 0, 1)) rfl) ?_
  refine mm_fc (ss_iload_n hx hb (by decide +kernel : decode cX12_feudAt 29 = .ok (.iload_n 2, 1)) rfl) ?_
  refine mm_fc (ss_iload_n hx hb (by decide +kernel : decode cX12_feudAt 30 = .ok (.iload_n 3, 1)) rfl) ?_
  refine mm_fc (ss_callV X rfl rfl wd_8_125 wd_1_13 wd_8_122 wd_8_124 wd_p_91 (by decide +kernel) (by decide +kernel) (by decide) (by decide +kernel : decode cX12_feudAt 31 = .ok (.invokevirtual 495, 3))) ?_
  refine mm_fc (ss_ifeq hx hb (by decide +kernel : decode cX12_feudAt 34 = .ok (.ifCond .eq 7, 3)) (by decide)) ?_
  refine mm_fc (ss_iconst hx hb (by decide +kernel : decode cX12_feudAt 37 = .ok (.iconst 1, 1)) (by decide)) ?_
  refine mm_fc (ss_goto hx hb (by decide +kernel : decode cX12_feudAt 38 = .ok (.goto 4, 3)) (by decide)) ?_
  refine mm_fc (ss_iconst hx hb (by decide +kernel : decode cX12_feudAt 41 = .ok (.iconst 0, 1)) (by decide)) ?_
  refine mm_fc (ss_iret (by decide +kernel : decode cX12_feudAt 42 = .ok (.ireturn, 1)) rfl) ?_
  exact mm_fn
def cd_X12_feudMany : mm_K mm_H := [(0, s_pushI 0 1), (1, s_istore 1 2), (2, s_pushI 0 3), (3, s_istore 2 4), (4, s_iload 2 5), (5, s_pushI 1 6), (6, s_bin (fun x y => x + y) 7), (7, s_aload 0 8), (8, s_get 12 38 11), (11, s_icmp (fun x y => y ≤ x) 32 14), (14, s_aload 0 15), (15, s_iload 2 16), (16, s_callV 12 243 1 1 19), (19, s_pushI 1 20), (20, s_icmp (fun x y => ¬ x = y) 26 23), (23, s_iinc 1 1 26), (26, s_iinc 2 1 29), (29, s_goto 4), (32, s_iload 1 33), (33, s_iret)]
set_option maxRecDepth 100000 in
set_option maxHeartbeats 4000000 in
theorem ok_X12_feudMany (l : Launch) : mm_CodeOK l mm_I0 RX12 cX12_feudMany 3 (some .int) cd_X12_feudMany := by
  intro p e R s m args below meth c Q σ cA D A kc ks d C X
  have hx := X.1
  have hb := X.2.1
  have hown := X.2.2.2.1
  have hts := X.2.2.2.2.1
  refine mm_fc (ss_iconst hx hb (by decide +kernel : decode cX12_feudMany 0 = .ok (.iconst 0, 1)) (by decide)) ?_
  refine mm_fc (ss_istore_n hx hb (by decide +kernel : decode cX12_feudMany 1 = .ok (.istore_n 1, 1)) rfl (by decide)) ?_
  refine mm_fc (ss_iconst hx hb (by decide +kernel : decode cX12_feudMany 2 = .ok (.iconst 0, 1)) (by decide)) ?_
  refine mm_fc (ss_istore_n hx hb (by decide +kernel : decode cX12_feudMany 3 = .ok (.istore_n 2, 1)) rfl (by decide)) ?_
  refine mm_fc (ss_iload_n hx hb (by decide +kernel : decode cX12_feudMany 4 = .ok (.iload_n 2, 1)) rfl) ?_
  refine mm_fc (ss_iconst hx hb (by decide +kernel : decode cX12_feudMany 5 = .ok (.iconst 1, 1)) (by decide)) ?_
  refine mm_fc (ss_iadd hx hb (by decide +kernel : decode cX12_feudMany 6 = .ok (.iadd, 1))) ?_
  refine mm_fc (ss_aload_n hx hb (by decide +kernel : decode cX12_feudMany 7 = .ok (.aload_n 0, 1)) rfl) ?_
  refine mm_fc (ss_get X rfl in_X12 (by decide) rfl wd_6_84 (by decide +kernel : decode cX12_feudMany 8 = .ok (.getfield 379, 3))) ?_
  refine mm_fc (ss_icmpge hx hb (by decide +kernel : decode cX12_feudMany 11 = .ok (.if_icmp .ge 21, 3)) (by decide)) ?_
  refine mm_fc (ss_aload_n hx hb (by decide +kernel : decode cX12_feudMany 14 = .ok (.aload_n 0, 1)) rfl) ?_
  refine mm_fc (ss_iload_n hx hb (by decide +kernel : decode cX12_feudMany 15 = .ok (.iload_n 2, 1)) rfl) ?_
  refine mm_fc (ss_callV X rfl rfl wd_8_113 wd_1_13 wd_8_110 wd_8_112 wd_p_88 (by decide +kernel) (by decide +kernel) (by decide) (by decide +kernel : decode cX12_feudMany 16 = .ok (.invokevirtual 499, 3))) ?_
  refine mm_fc (ss_iconst hx hb (by decide +kernel : decode cX12_feudMany 19 = .ok (.iconst 1, 1)) (by decide)) ?_
  refine mm_fc (ss_icmpne hx hb (by decide +kernel : decode cX12_feudMany 20 = .ok (.if_icmp .ne 6, 3)) (by decide)) ?_
  refine mm_fc (ss_iinc hx hb (by decide +kernel : decode cX12_feudMany 23 = .ok (.iinc 1 1, 3)) (by decide) (by decide)) ?_
  refine mm_fc (ss_iinc hx hb (by decide +kernel : decode cX12_feudMany 26 = .ok (.iinc 2 1, 3)) (by decide) (by decide)) ?_
  refine mm_fc (ss_goto hx hb (by decide +kernel : decode cX12_feudMany 29 = .ok (.goto (-25), 3)) (by decide)) ?_
  refine mm_fc (ss_iload_n hx hb (by decide +kernel : decode cX12_feudMany 32 = .ok (.iload_n 1, 1)) rfl) ?_
  refine mm_fc (ss_iret (by decide +kernel : decode cX12_feudMany 33 = .ok (.ireturn, 1)) rfl) ?_
  exact mm_fn
def cd_X12_has : mm_K mm_H := [(0, s_iload 1 1), (1, s_sw [(0, 56), (1, 61), (2, 66), (3, 73), (4, 78), (5, 83), (6, 88), (7, 93), (8, 101), (9, 106)] 111), (56, s_aload 0 57), (57, s_get 12 38 60), (60, s_iret), (61, s_aload 0 62), (62, s_get 12 40 65), (65, s_iret), (66, s_aload 0 67), (67, s_get 12 55 70), (70, s_pushI 0 71), (71, s_iald 72), (72, s_iret), (73, s_aload 0 74), (74, s_callV 12 241 0 1 77), (77, s_iret), (78, s_aload 0 79), (79, s_callV 12 242 0 1 82), (82, s_iret), (83, s_aload 0 84), (84, s_callV 12 244 0 1 87), (87, s_iret), (88, s_aload 0 89), (89, s_callV 12 240 0 1 92), (92, s_iret), (93, s_aload 0 94), (94, s_get 12 55 97), (97, s_pushI 89 99), (99, s_iald 100), (100, s_iret), (101, s_aload 0 102), (102, s_get 12 67 105), (105, s_iret), (106, s_aload 0 107), (107, s_get 12 73 110), (110, s_iret), (111, s_pushI (-1) 112), (112, s_iret)]
set_option maxRecDepth 100000 in
set_option maxHeartbeats 4000000 in
theorem ok_X12_has (l : Launch) : mm_CodeOK l mm_I0 RX12 cX12_has 2 (some .int) cd_X12_has := by
  intro p e R s m args below meth c Q σ cA D A kc ks d C X
  have hx := X.1
  have hb := X.2.1
  have hown := X.2.2.2.1
  have hts := X.2.2.2.2.1
  refine mm_fc (ss_iload_n hx hb (by decide +kernel : decode cX12_has 0 = .ok (.iload_n 1, 1)) rfl) ?_
  refine mm_fc (ss_table hx hb (by decide +kernel : decode cX12_has 1 = .ok (.tableswitch 110 0 9 #[55, 60, 65, 72, 77, 82, 87, 92, 100, 105], 55)) (by decide) (by decide) (by decide)) ?_
  refine mm_fc (ss_aload_n hx hb (by decide +kernel : decode cX12_has 56 = .ok (.aload_n 0, 1)) rfl) ?_
  refine mm_fc (ss_get X rfl in_X12 (by decide) rfl wd_6_84 (by decide +kernel : decode cX12_has 57 = .ok (.getfield 379, 3))) ?_
  refine mm_fc (ss_iret (by decide +kernel : decode cX12_has 60 = .ok (.ireturn, 1)) rfl) ?_
  refine mm_fc (ss_aload_n hx hb (by decide +kernel : decode cX12_has 61 = .ok (.aload_n 0, 1)) rfl) ?_
  refine mm_fc (ss_get X rfl in_X12 (by decide) rfl wd_6_86 (by decide +kernel : decode cX12_has 62 = .ok (.getfield 382, 3))) ?_
  refine mm_fc (ss_iret (by decide +kernel : decode cX12_has 65 = .ok (.ireturn, 1)) rfl) ?_
  refine mm_fc (ss_aload_n hx hb (by decide +kernel : decode cX12_has 66 = .ok (.aload_n 0, 1)) rfl) ?_
  refine mm_fc (ss_get X rfl in_X12 (by decide) rfl wd_6_101 (by decide +kernel : decode cX12_has 67 = .ok (.getfield 121, 3))) ?_
  refine mm_fc (ss_iconst hx hb (by decide +kernel : decode cX12_has 70 = .ok (.iconst 0, 1)) (by decide)) ?_
  refine mm_fc (ss_iald X (by decide +kernel : decode cX12_has 71 = .ok (.iaload, 1))) ?_
  refine mm_fc (ss_iret (by decide +kernel : decode cX12_has 72 = .ok (.ireturn, 1)) rfl) ?_
  refine mm_fc (ss_aload_n hx hb (by decide +kernel : decode cX12_has 73 = .ok (.aload_n 0, 1)) rfl) ?_
  refine mm_fc (ss_callV X rfl rfl wd_8_93 wd_1_13 wd_8_90 wd_8_92 wd_p_83 (by decide +kernel) (by decide +kernel) (by decide) (by decide +kernel : decode cX12_has 74 = .ok (.invokevirtual 502, 3))) ?_
  refine mm_fc (ss_iret (by decide +kernel : decode cX12_has 77 = .ok (.ireturn, 1)) rfl) ?_
  refine mm_fc (ss_aload_n hx hb (by decide +kernel : decode cX12_has 78 = .ok (.aload_n 0, 1)) rfl) ?_
  refine mm_fc (ss_callV X rfl rfl wd_8_101 wd_1_13 wd_8_98 wd_8_100 wd_p_85 (by decide +kernel) (by decide +kernel) (by decide) (by decide +kernel : decode cX12_has 79 = .ok (.invokevirtual 505, 3))) ?_
  refine mm_fc (ss_iret (by decide +kernel : decode cX12_has 82 = .ok (.ireturn, 1)) rfl) ?_
  refine mm_fc (ss_aload_n hx hb (by decide +kernel : decode cX12_has 83 = .ok (.aload_n 0, 1)) rfl) ?_
  refine mm_fc (ss_callV X rfl rfl wd_8_109 wd_1_13 wd_8_106 wd_8_108 wd_p_87 (by decide +kernel) (by decide +kernel) (by decide) (by decide +kernel : decode cX12_has 84 = .ok (.invokevirtual 508, 3))) ?_
  refine mm_fc (ss_iret (by decide +kernel : decode cX12_has 87 = .ok (.ireturn, 1)) rfl) ?_
  refine mm_fc (ss_aload_n hx hb (by decide +kernel : decode cX12_has 88 = .ok (.aload_n 0, 1)) rfl) ?_
  refine mm_fc (ss_callV X rfl rfl wd_8_165 wd_1_13 wd_8_162 wd_8_164 wd_p_99 (by decide +kernel) (by decide +kernel) (by decide) (by decide +kernel : decode cX12_has 89 = .ok (.invokevirtual 511, 3))) ?_
  refine mm_fc (ss_iret (by decide +kernel : decode cX12_has 92 = .ok (.ireturn, 1)) rfl) ?_
  refine mm_fc (ss_aload_n hx hb (by decide +kernel : decode cX12_has 93 = .ok (.aload_n 0, 1)) rfl) ?_
  refine mm_fc (ss_get X rfl in_X12 (by decide) rfl wd_6_101 (by decide +kernel : decode cX12_has 94 = .ok (.getfield 121, 3))) ?_
  refine mm_fc (ss_bipush hx hb (by decide +kernel : decode cX12_has 97 = .ok (.bipush 89, 2)) (by decide)) ?_
  refine mm_fc (ss_iald X (by decide +kernel : decode cX12_has 99 = .ok (.iaload, 1))) ?_
  refine mm_fc (ss_iret (by decide +kernel : decode cX12_has 100 = .ok (.ireturn, 1)) rfl) ?_
  refine mm_fc (ss_aload_n hx hb (by decide +kernel : decode cX12_has 101 = .ok (.aload_n 0, 1)) rfl) ?_
  refine mm_fc (ss_get X rfl in_X12 (by decide) rfl wd_6_113 (by decide +kernel : decode cX12_has 102 = .ok (.getfield 391, 3))) ?_
  refine mm_fc (ss_iret (by decide +kernel : decode cX12_has 105 = .ok (.ireturn, 1)) rfl) ?_
  refine mm_fc (ss_aload_n hx hb (by decide +kernel : decode cX12_has 106 = .ok (.aload_n 0, 1)) rfl) ?_
  refine mm_fc (ss_get X rfl in_X12 (by decide) rfl wd_6_119 (by decide +kernel : decode cX12_has 107 = .ok (.getfield 388, 3))) ?_
  refine mm_fc (ss_iret (by decide +kernel : decode cX12_has 110 = .ok (.ireturn, 1)) rfl) ?_
  refine mm_fc (ss_iconst hx hb (by decide +kernel : decode cX12_has 111 = .ok (.iconst (-1), 1)) (by decide)) ?_
  refine mm_fc (ss_iret (by decide +kernel : decode cX12_has 112 = .ok (.ireturn, 1)) rfl) ?_
  exact mm_fn
def cd_X12_letter : mm_K mm_H := [(0, s_aload 0 1), (1, s_iload 1 2), (2, s_i2l 3), (3, s_callV 12 214 1 1 6), (6, s_if (fun x => x = 0) 21 9), (9, s_iload 2 10), (10, s_i2l 11), (11, s_pushL 0 12), (12, s_pushL 5 15), (15, s_callS 188 3 1 18), (18, s_if (fun x => ¬ x = 0) 23 21), (21, s_pushI (-1) 22), (22, s_iret), (23, s_aload 0 24), (24, s_get 12 41 27), (27, s_pushI 8 29), (29, s_iload 1 30), (30, s_bin (fun x y => x + y) 31), (31, s_lald 32), (32, s_lstore 3 33), (33, s_pushI 0 34), (34, s_istore 5 36), (36, s_lload 3 37), (37, s_kill 39 [0, 1, 4, 7] (s_lstore 6 39)), (39, s_lload 6 41), (41, s_pushL 0 42), (42, s_lcmp 43), (43, s_if (fun x => x ≤ 0) 60 46), (46, s_iinc 5 1 49), (49, s_lload 6 51), (51, s_pushL 27 54), (54, s_lbin0 (fun x y => x / y) 55), (55, s_lstore 6 57), (57, s_kill 39 [0, 1, 4, 7] (s_goto 39)), (60, s_iload 2 61), (61, s_iload 5 63), (63, s_icmp (fun x y => x < y) 68 66), (66, s_pushI 0 67), (67, s_iret), (68, s_iload 5 70), (70, s_pushI 1 71), (71, s_bin (fun x y => x - y) 72), (72, s_kill 74 [0, 1, 4, 5, 7] (s_istore 6 74)), (74, s_iload 6 76), (76, s_iload 2 77), (77, s_icmp (fun x y => x ≤ y) 92 80), (80, s_lload 3 81), (81, s_pushL 27 84), (84, s_lbin0 (fun x y => x / y) 85), (85, s_lstore 3 86), (86, s_iinc 6 (-1) 89), (89, s_kill 74 [0, 1, 4, 5, 7] (s_goto 74)), (92, s_lload 3 93), (93, s_pushL 27 96), (96, s_lbin0 (fun x y => x - x / y * y) 97), (97, s_l2i 98), (98, s_iret)]
set_option maxRecDepth 100000 in
set_option maxHeartbeats 4000000 in
theorem ok_X12_letter (l : Launch) : mm_CodeOK l mm_I0 RX12 cX12_letter 8 (some .int) cd_X12_letter := by
  intro p e R s m args below meth c Q σ cA D A kc ks d C X
  have hx := X.1
  have hb := X.2.1
  have hown := X.2.2.2.1
  have hts := X.2.2.2.2.1
  refine mm_fc (ss_aload_n hx hb (by decide +kernel : decode cX12_letter 0 = .ok (.aload_n 0, 1)) rfl) ?_
  refine mm_fc (ss_iload_n hx hb (by decide +kernel : decode cX12_letter 1 = .ok (.iload_n 1, 1)) rfl) ?_
  refine mm_fc (ss_i2l hx hb (by decide +kernel : decode cX12_letter 2 = .ok (.i2l, 1))) ?_
  refine mm_fc (ss_callV X rfl rfl wd_8_173 wd_1_13 wd_8_170 wd_8_172 wd_p_100 (by decide +kernel) (by decide +kernel) (by decide) (by decide +kernel : decode cX12_letter 3 = .ok (.invokevirtual 394, 3))) ?_
  refine mm_fc (ss_ifeq hx hb (by decide +kernel : decode cX12_letter 6 = .ok (.ifCond .eq 15, 3)) (by decide)) ?_
  refine mm_fc (ss_iload_n hx hb (by decide +kernel : decode cX12_letter 9 = .ok (.iload_n 2, 1)) rfl) ?_
  refine mm_fc (ss_i2l hx hb (by decide +kernel : decode cX12_letter 10 = .ok (.i2l, 1))) ?_
  refine mm_fc (ss_lconst hx hb (by decide +kernel : decode cX12_letter 11 = .ok (.lconst 0, 1)) (by decide)) ?_
  refine mm_fc (ss_ldc2 hx hb hown (hts _ (mm_in wd_8_174 rfl)) (by decide +kernel : decode cX12_letter 12 = .ok (.ldc2_w 514, 3))) ?_
  refine mm_fc (ss_callS X rfl wd_7_196 wd_1_13 wd_7_194 wd_7_195 (by decide +kernel) (by decide +kernel) (by decide) (by decide +kernel : decode cX12_letter 15 = .ok (.invokestatic 280, 3))) ?_
  refine mm_fc (ss_ifne hx hb (by decide +kernel : decode cX12_letter 18 = .ok (.ifCond .ne 5, 3)) (by decide)) ?_
  refine mm_fc (ss_iconst hx hb (by decide +kernel : decode cX12_letter 21 = .ok (.iconst (-1), 1)) (by decide)) ?_
  refine mm_fc (ss_iret (by decide +kernel : decode cX12_letter 22 = .ok (.ireturn, 1)) rfl) ?_
  refine mm_fc (ss_aload_n hx hb (by decide +kernel : decode cX12_letter 23 = .ok (.aload_n 0, 1)) rfl) ?_
  refine mm_fc (ss_get X rfl in_X12 (by decide) rfl wd_6_87 (by decide +kernel : decode cX12_letter 24 = .ok (.getfield 96, 3))) ?_
  refine mm_fc (ss_bipush hx hb (by decide +kernel : decode cX12_letter 27 = .ok (.bipush 8, 2)) (by decide)) ?_
  refine mm_fc (ss_iload_n hx hb (by decide +kernel : decode cX12_letter 29 = .ok (.iload_n 1, 1)) rfl) ?_
  refine mm_fc (ss_iadd hx hb (by decide +kernel : decode cX12_letter 30 = .ok (.iadd, 1))) ?_
  refine mm_fc (ss_lald X (by decide +kernel : decode cX12_letter 31 = .ok (.laload, 1))) ?_
  refine mm_fc (ss_lstore_n hx hb (by decide +kernel : decode cX12_letter 32 = .ok (.lstore_n 3, 1)) rfl (by decide)) ?_
  refine mm_fc (ss_iconst hx hb (by decide +kernel : decode cX12_letter 33 = .ok (.iconst 0, 1)) (by decide)) ?_
  refine mm_fc (ss_istore hx hb (by decide +kernel : decode cX12_letter 34 = .ok (.istore 5, 2)) (by decide)) ?_
  refine mm_fc (ss_lload_n hx hb (by decide +kernel : decode cX12_letter 36 = .ok (.lload_n 3, 1)) rfl) ?_
  refine mm_fc (ss_kill (ss_lstore hx hb (by decide +kernel : decode cX12_letter 37 = .ok (.lstore 6, 2)) (by decide))) ?_
  refine mm_fc (ss_lload hx hb (by decide +kernel : decode cX12_letter 39 = .ok (.lload 6, 2))) ?_
  refine mm_fc (ss_lconst hx hb (by decide +kernel : decode cX12_letter 41 = .ok (.lconst 0, 1)) (by decide)) ?_
  refine mm_fc (ss_lcmp hx hb (by decide +kernel : decode cX12_letter 42 = .ok (.lcmp, 1))) ?_
  refine mm_fc (ss_ifle hx hb (by decide +kernel : decode cX12_letter 43 = .ok (.ifCond .le 17, 3)) (by decide)) ?_
  refine mm_fc (ss_iinc hx hb (by decide +kernel : decode cX12_letter 46 = .ok (.iinc 5 1, 3)) (by decide) (by decide)) ?_
  refine mm_fc (ss_lload hx hb (by decide +kernel : decode cX12_letter 49 = .ok (.lload 6, 2))) ?_
  refine mm_fc (ss_ldc2 hx hb hown (hts _ (mm_in wd_7_221 rfl)) (by decide +kernel : decode cX12_letter 51 = .ok (.ldc2_w 291, 3))) ?_
  refine mm_fc (ss_ldiv hx hb (by decide +kernel : decode cX12_letter 54 = .ok (.ldiv, 1))) ?_
  refine mm_fc (ss_lstore hx hb (by decide +kernel : decode cX12_letter 55 = .ok (.lstore 6, 2)) (by decide)) ?_
  refine mm_fc (ss_kill (ss_goto hx hb (by decide +kernel : decode cX12_letter 57 = .ok (.goto (-18), 3)) (by decide))) ?_
  refine mm_fc (ss_iload_n hx hb (by decide +kernel : decode cX12_letter 60 = .ok (.iload_n 2, 1)) rfl) ?_
  refine mm_fc (ss_iload hx hb (by decide +kernel : decode cX12_letter 61 = .ok (.iload 5, 2))) ?_
  refine mm_fc (ss_icmplt hx hb (by decide +kernel : decode cX12_letter 63 = .ok (.if_icmp .lt 5, 3)) (by decide)) ?_
  refine mm_fc (ss_iconst hx hb (by decide +kernel : decode cX12_letter 66 = .ok (.iconst 0, 1)) (by decide)) ?_
  refine mm_fc (ss_iret (by decide +kernel : decode cX12_letter 67 = .ok (.ireturn, 1)) rfl) ?_
  refine mm_fc (ss_iload hx hb (by decide +kernel : decode cX12_letter 68 = .ok (.iload 5, 2))) ?_
  refine mm_fc (ss_iconst hx hb (by decide +kernel : decode cX12_letter 70 = .ok (.iconst 1, 1)) (by decide)) ?_
  refine mm_fc (ss_isub hx hb (by decide +kernel : decode cX12_letter 71 = .ok (.isub, 1))) ?_
  refine mm_fc (ss_kill (ss_istore hx hb (by decide +kernel : decode cX12_letter 72 = .ok (.istore 6, 2)) (by decide))) ?_
  refine mm_fc (ss_iload hx hb (by decide +kernel : decode cX12_letter 74 = .ok (.iload 6, 2))) ?_
  refine mm_fc (ss_iload_n hx hb (by decide +kernel : decode cX12_letter 76 = .ok (.iload_n 2, 1)) rfl) ?_
  refine mm_fc (ss_icmple hx hb (by decide +kernel : decode cX12_letter 77 = .ok (.if_icmp .le 15, 3)) (by decide)) ?_
  refine mm_fc (ss_lload_n hx hb (by decide +kernel : decode cX12_letter 80 = .ok (.lload_n 3, 1)) rfl) ?_
  refine mm_fc (ss_ldc2 hx hb hown (hts _ (mm_in wd_7_221 rfl)) (by decide +kernel : decode cX12_letter 81 = .ok (.ldc2_w 291, 3))) ?_
  refine mm_fc (ss_ldiv hx hb (by decide +kernel : decode cX12_letter 84 = .ok (.ldiv, 1))) ?_
  refine mm_fc (ss_lstore_n hx hb (by decide +kernel : decode cX12_letter 85 = .ok (.lstore_n 3, 1)) rfl (by decide)) ?_
  refine mm_fc (ss_iinc hx hb (by decide +kernel : decode cX12_letter 86 = .ok (.iinc 6 (-1), 3)) (by decide) (by decide)) ?_
  refine mm_fc (ss_kill (ss_goto hx hb (by decide +kernel : decode cX12_letter 89 = .ok (.goto (-15), 3)) (by decide))) ?_
  refine mm_fc (ss_lload_n hx hb (by decide +kernel : decode cX12_letter 92 = .ok (.lload_n 3, 1)) rfl) ?_
  refine mm_fc (ss_ldc2 hx hb hown (hts _ (mm_in wd_7_221 rfl)) (by decide +kernel : decode cX12_letter 93 = .ok (.ldc2_w 291, 3))) ?_
  refine mm_fc (ss_lrem hx hb (by decide +kernel : decode cX12_letter 96 = .ok (.lrem, 1))) ?_
  refine mm_fc (ss_l2i hx hb (by decide +kernel : decode cX12_letter 97 = .ok (.l2i, 1))) ?_
  refine mm_fc (ss_iret (by decide +kernel : decode cX12_letter 98 = .ok (.ireturn, 1)) rfl) ?_
  exact mm_fn
def cd_X12_house : mm_K mm_H := [(0, s_aload 0 1), (1, s_iload 1 2), (2, s_callV 12 217 1 1 5), (5, s_if (fun x => x = 0) 16 8), (8, s_aload 0 9), (9, s_iload 1 10), (10, s_callV 12 224 1 1 13), (13, s_goto 17), (16, s_pushI (-1) 17), (17, s_iret)]
set_option maxRecDepth 100000 in
set_option maxHeartbeats 4000000 in
theorem ok_X12_house (l : Launch) : mm_CodeOK l mm_I0 RX12 cX12_house 2 (some .int) cd_X12_house := by
  intro p e R s m args below meth c Q σ cA D A kc ks d C X
  have hx := X.1
  have hb := X.2.1
  have hown := X.2.2.2.1
  have hts := X.2.2.2.2.1
  refine mm_fc (ss_aload_n hx hb (by decide +kernel : decode cX12_house 0 = .ok (.aload_n 0, 1)) rfl) ?_
  refine mm_fc (ss_iload_n hx hb (by decide +kernel : decode cX12_house 1 = .ok (.iload_n 1, 1)) rfl) ?_
  refine mm_fc (ss_callV X rfl rfl wd_8_182 wd_1_13 wd_8_179 wd_8_181 wd_p_101 (by decide +kernel) (by decide +kernel) (by decide) (by decide +kernel : decode cX12_house 2 = .ok (.invokevirtual 516, 3))) ?_
  refine mm_fc (ss_ifeq hx hb (by decide +kernel : decode cX12_house 5 = .ok (.ifCond .eq 11, 3)) (by decide)) ?_
  refine mm_fc (ss_aload_n hx hb (by decide +kernel : decode cX12_house 8 = .ok (.aload_n 0, 1)) rfl) ?_
  refine mm_fc (ss_iload_n hx hb (by decide +kernel : decode cX12_house 9 = .ok (.iload_n 1, 1)) rfl) ?_
  refine mm_fc (ss_callV X rfl rfl wd_8_117 wd_1_13 wd_8_114 wd_8_116 wd_p_89 (by decide +kernel) (by decide +kernel) (by decide) (by decide +kernel : decode cX12_house 10 = .ok (.invokevirtual 406, 3))) ?_
  refine mm_fc (ss_goto hx hb (by decide +kernel : decode cX12_house 13 = .ok (.goto 4, 3)) (by decide)) ?_
  refine mm_fc (ss_iconst hx hb (by decide +kernel : decode cX12_house 16 = .ok (.iconst (-1), 1)) (by decide)) ?_
  refine mm_fc (ss_iret (by decide +kernel : decode cX12_house 17 = .ok (.ireturn, 1)) rfl) ?_
  exact mm_fn
def cd_X12_person : mm_K mm_H := [(0, s_aload 0 1), (1, s_iload 1 2), (2, s_i2l 3), (3, s_callV 12 214 1 1 6), (6, s_if (fun x => ¬ x = 0) 11 9), (9, s_pushI (-1) 10), (10, s_iret), (11, s_iload 2 12), (12, s_sw [(0, 56), (1, 62), (2, 68), (3, 74), (4, 80), (5, 94), (6, 101)] 108), (56, s_aload 0 57), (57, s_iload 1 58), (58, s_callV 12 218 1 1 61), (61, s_iret), (62, s_aload 0 63), (63, s_iload 1 64), (64, s_callV 12 219 1 1 67), (67, s_iret), (68, s_aload 0 69), (69, s_iload 1 70), (70, s_callV 12 221 1 1 73), (73, s_iret), (74, s_aload 0 75), (75, s_iload 1 76), (76, s_callV 12 222 1 1 79), (79, s_iret), (80, s_aload 0 81), (81, s_iload 1 82), (82, s_callV 12 220 1 1 85), (85, s_if (fun x => x = 0) 92 88), (88, s_pushI 1 89), (89, s_goto 93), (92, s_pushI 0 93), (93, s_iret), (94, s_aload 0 95), (95, s_iload 1 96), (96, s_pushI 0 97), (97, s_callV 12 225 2 1 100), (100, s_iret), (101, s_aload 0 102), (102, s_iload 1 103), (103, s_pushI 1 104), (104, s_callV 12 225 2 1 107), (107, s_iret), (108, s_pushI (-1) 109), (109, s_iret)]
set_option maxRecDepth 100000 in
set_option maxHeartbeats 4000000 in
theorem ok_X12_person (l : Launch) : mm_CodeOK l mm_I0 RX12 cX12_person 3 (some .int) cd_X12_person := by
  intro p e R s m args below meth c Q σ cA D A kc ks d C X
  have hx := X.1
  have hb := X.2.1
  have hown := X.2.2.2.1
  have hts := X.2.2.2.2.1
  refine mm_fc (ss_aload_n hx hb (by decide +kernel : decode cX12_person 0 = .ok (.aload_n 0, 1)) rfl) ?_
  refine mm_fc (ss_iload_n hx hb (by decide +kernel : decode cX12_person 1 = .ok (.iload_n 1, 1)) rfl) ?_
  refine mm_fc (ss_i2l hx hb (by decide +kernel : decode cX12_person 2 = .ok (.i2l, 1))) ?_
  refine mm_fc (ss_callV X rfl rfl wd_8_173 wd_1_13 wd_8_170 wd_8_172 wd_p_100 (by decide +kernel) (by decide +kernel) (by decide) (by decide +kernel : decode cX12_person 3 = .ok (.invokevirtual 394, 3))) ?_
  refine mm_fc (ss_ifne hx hb (by decide +kernel : decode cX12_person 6 = .ok (.ifCond .ne 5, 3)) (by decide)) ?_
  refine mm_fc (ss_iconst hx hb (by decide +kernel : decode cX12_person 9 = .ok (.iconst (-1), 1)) (by decide)) ?_
  refine mm_fc (ss_iret (by decide +kernel : decode cX12_person 10 = .ok (.ireturn, 1)) rfl) ?_
  refine mm_fc (ss_iload_n hx hb (by decide +kernel : decode cX12_person 11 = .ok (.iload_n 2, 1)) rfl) ?_
  refine mm_fc (ss_table hx hb (by decide +kernel : decode cX12_person 12 = .ok (.tableswitch 96 0 6 #[44, 50, 56, 62, 68, 82, 89], 44)) (by decide) (by decide) (by decide)) ?_
  refine mm_fc (ss_aload_n hx hb (by decide +kernel : decode cX12_person 56 = .ok (.aload_n 0, 1)) rfl) ?_
  refine mm_fc (ss_iload_n hx hb (by decide +kernel : decode cX12_person 57 = .ok (.iload_n 1, 1)) rfl) ?_
  refine mm_fc (ss_callV X rfl rfl wd_8_121 wd_1_13 wd_8_118 wd_8_120 wd_p_90 (by decide +kernel) (by decide +kernel) (by decide) (by decide +kernel : decode cX12_person 58 = .ok (.invokevirtual 402, 3))) ?_
  refine mm_fc (ss_iret (by decide +kernel : decode cX12_person 61 = .ok (.ireturn, 1)) rfl) ?_
  refine mm_fc (ss_aload_n hx hb (by decide +kernel : decode cX12_person 62 = .ok (.aload_n 0, 1)) rfl) ?_
  refine mm_fc (ss_iload_n hx hb (by decide +kernel : decode cX12_person 63 = .ok (.iload_n 1, 1)) rfl) ?_
  refine mm_fc (ss_callV X rfl rfl wd_8_97 wd_1_13 wd_8_94 wd_8_96 wd_p_84 (by decide +kernel) (by decide +kernel) (by decide) (by decide +kernel : decode cX12_person 64 = .ok (.invokevirtual 423, 3))) ?_
  refine mm_fc (ss_iret (by decide +kernel : decode cX12_person 67 = .ok (.ireturn, 1)) rfl) ?_
  refine mm_fc (ss_aload_n hx hb (by decide +kernel : decode cX12_person 68 = .ok (.aload_n 0, 1)) rfl) ?_
  refine mm_fc (ss_iload_n hx hb (by decide +kernel : decode cX12_person 69 = .ok (.iload_n 1, 1)) rfl) ?_
  refine mm_fc (ss_callV X rfl rfl wd_8_133 wd_1_13 wd_8_130 wd_8_132 wd_p_93 (by decide +kernel) (by decide +kernel) (by decide) (by decide +kernel : decode cX12_person 70 = .ok (.invokevirtual 426, 3))) ?_
  refine mm_fc (ss_iret (by decide +kernel : decode cX12_person 73 = .ok (.ireturn, 1)) rfl) ?_
  refine mm_fc (ss_aload_n hx hb (by decide +kernel : decode cX12_person 74 = .ok (.aload_n 0, 1)) rfl) ?_
  refine mm_fc (ss_iload_n hx hb (by decide +kernel : decode cX12_person 75 = .ok (.iload_n 1, 1)) rfl) ?_
  refine mm_fc (ss_callV X rfl rfl wd_8_137 wd_1_13 wd_8_134 wd_8_136 wd_p_94 (by decide +kernel) (by decide +kernel) (by decide) (by decide +kernel : decode cX12_person 76 = .ok (.invokevirtual 432, 3))) ?_
  refine mm_fc (ss_iret (by decide +kernel : decode cX12_person 79 = .ok (.ireturn, 1)) rfl) ?_
  refine mm_fc (ss_aload_n hx hb (by decide +kernel : decode cX12_person 80 = .ok (.aload_n 0, 1)) rfl) ?_
  refine mm_fc (ss_iload_n hx hb (by decide +kernel : decode cX12_person 81 = .ok (.iload_n 1, 1)) rfl) ?_
  refine mm_fc (ss_callV X rfl rfl wd_8_105 wd_1_13 wd_8_102 wd_8_104 wd_p_86 (by decide +kernel) (by decide +kernel) (by decide) (by decide +kernel : decode cX12_person 82 = .ok (.invokevirtual 470, 3))) ?_
  refine mm_fc (ss_ifeq hx hb (by decide +kernel : decode cX12_person 85 = .ok (.ifCond .eq 7, 3)) (by decide)) ?_
  refine mm_fc (ss_iconst hx hb (by decide +kernel : decode cX12_person 88 = .ok (.iconst 1, 1)) (by decide)) ?_
  refine mm_fc (ss_goto hx hb (by decide +kernel : decode cX12_person 89 = .ok (.goto 4, 3)) (by decide)) ?_
  refine mm_fc (ss_iconst hx hb (by decide +kernel : decode cX12_person 92 = .ok (.iconst 0, 1)) (by decide)) ?_
  refine mm_fc (ss_iret (by decide +kernel : decode cX12_person 93 = .ok (.ireturn, 1)) rfl) ?_
  refine mm_fc (ss_aload_n hx hb (by decide +kernel : decode cX12_person 94 = .ok (.aload_n 0, 1)) rfl) ?_
  refine mm_fc (ss_iload_n hx hb (by decide +kernel : decode cX12_person 95 = .ok (.iload_n 1, 1)) rfl) ?_
  refine mm_fc (ss_iconst hx hb (by decide +kernel : decode cX12_person 96 = .ok (.iconst 0, 1)) (by decide)) ?_
  refine mm_fc (ss_callV X rfl rfl wd_8_190 wd_1_13 wd_8_187 wd_8_189 wd_p_102 (by decide +kernel) (by decide +kernel) (by decide) (by decide +kernel : decode cX12_person 97 = .ok (.invokevirtual 467, 3))) ?_
  refine mm_fc (ss_iret (by decide +kernel : decode cX12_person 100 = .ok (.ireturn, 1)) rfl) ?_
  refine mm_fc (ss_aload_n hx hb (by decide +kernel : decode cX12_person 101 = .ok (.aload_n 0, 1)) rfl) ?_
  refine mm_fc (ss_iload_n hx hb (by decide +kernel : decode cX12_person 102 = .ok (.iload_n 1, 1)) rfl) ?_
  refine mm_fc (ss_iconst hx hb (by decide +kernel : decode cX12_person 103 = .ok (.iconst 1, 1)) (by decide)) ?_
  refine mm_fc (ss_callV X rfl rfl wd_8_190 wd_1_13 wd_8_187 wd_8_189 wd_p_102 (by decide +kernel) (by decide +kernel) (by decide) (by decide +kernel : decode cX12_person 104 = .ok (.invokevirtual 467, 3))) ?_
  refine mm_fc (ss_iret (by decide +kernel : decode cX12_person 107 = .ok (.ireturn, 1)) rfl) ?_
  refine mm_fc (ss_iconst hx hb (by decide +kernel : decode cX12_person 108 = .ok (.iconst (-1), 1)) (by decide)) ?_
  refine mm_fc (ss_iret (by decide +kernel : decode cX12_person 109 = .ok (.ireturn, 1)) rfl) ?_
  exact mm_fn
def cd_X12_thinks : mm_K mm_H := [(0, s_aload 0 1), (1, s_iload 1 2), (2, s_iload 2 3), (3, s_callV 12 216 2 1 6), (6, s_if (fun x => x = 0) 18 9), (9, s_aload 0 10), (10, s_iload 1 11), (11, s_iload 2 12), (12, s_callV 12 223 2 1 15), (15, s_goto 19), (18, s_pushI (-1) 19), (19, s_iret)]
set_option maxRecDepth 100000 in
set_option maxHeartbeats 4000000 in
theorem ok_X12_thinks (l : Launch) : mm_CodeOK l mm_I0 RX12 cX12_thinks 3 (some .int) cd_X12_thinks := by
  intro p e R s m args below meth c Q σ cA D A kc ks d C X
  have hx := X.1
  have hb := X.2.1
  have hown := X.2.2.2.1
  have hts := X.2.2.2.2.1
  refine mm_fc (ss_aload_n hx hb (by decide +kernel : decode cX12_thinks 0 = .ok (.aload_n 0, 1)) rfl) ?_
  refine mm_fc (ss_iload_n hx hb (by decide +kernel : decode cX12_thinks 1 = .ok (.iload_n 1, 1)) rfl) ?_
  refine mm_fc (ss_iload_n hx hb (by decide +kernel : decode cX12_thinks 2 = .ok (.iload_n 2, 1)) rfl) ?_
  refine mm_fc (ss_callV X rfl rfl wd_8_198 wd_1_13 wd_8_195 wd_8_197 wd_p_103 (by decide +kernel) (by decide +kernel) (by decide) (by decide +kernel : decode cX12_thinks 3 = .ok (.invokevirtual 519, 3))) ?_
  refine mm_fc (ss_ifeq hx hb (by decide +kernel : decode cX12_thinks 6 = .ok (.ifCond .eq 12, 3)) (by decide)) ?_
  refine mm_fc (ss_aload_n hx hb (by decide +kernel : decode cX12_thinks 9 = .ok (.aload_n 0, 1)) rfl) ?_
  refine mm_fc (ss_iload_n hx hb (by decide +kernel : decode cX12_thinks 10 = .ok (.iload_n 1, 1)) rfl) ?_
  refine mm_fc (ss_iload_n hx hb (by decide +kernel : decode cX12_thinks 11 = .ok (.iload_n 2, 1)) rfl) ?_
  refine mm_fc (ss_callV X rfl rfl wd_8_129 wd_1_13 wd_8_126 wd_8_128 wd_p_92 (by decide +kernel) (by decide +kernel) (by decide) (by decide +kernel : decode cX12_thinks 12 = .ok (.invokevirtual 438, 3))) ?_
  refine mm_fc (ss_goto hx hb (by decide +kernel : decode cX12_thinks 15 = .ok (.goto 4, 3)) (by decide)) ?_
  refine mm_fc (ss_iconst hx hb (by decide +kernel : decode cX12_thinks 18 = .ok (.iconst (-1), 1)) (by decide)) ?_
  refine mm_fc (ss_iret (by decide +kernel : decode cX12_thinks 19 = .ok (.ireturn, 1)) rfl) ?_
  exact mm_fn
def cd_X12_paints : mm_K mm_H := [(0, s_aload 0 1), (1, s_iload 1 2), (2, s_i2l 3), (3, s_callV 12 214 1 1 6), (6, s_if (fun x => x = 0) 19 9), (9, s_iload 2 10), (10, s_i2l 11), (11, s_pushL 0 12), (12, s_pushL 1 13), (13, s_callS 188 3 1 16), (16, s_if (fun x => ¬ x = 0) 21 19), (19, s_pushI (-1) 20), (20, s_iret), (21, s_aload 0 22), (22, s_iload 1 23), (23, s_iload 2 24), (24, s_callV 12 225 2 1 27), (27, s_istore 3 28), (28, s_iload 3 29), (29, s_pushI (-1) 30), (30, s_icmp (fun x y => ¬ x = y) 37 33), (33, s_pushI (-1) 34), (34, s_goto 44), (37, s_aload 0 38), (38, s_iload 1 39), (39, s_iload 3 40), (40, s_iload 2 41), (41, s_callV 12 228 3 1 44), (44, s_iret)]
set_option maxRecDepth 100000 in
set_option maxHeartbeats 4000000 in
theorem ok_X12_paints (l : Launch) : mm_CodeOK l mm_I0 RX12 cX12_paints 4 (some .int) cd_X12_paints := by
  intro p e R s m args below meth c Q σ cA D A kc ks d C X
  have hx := X.1
  have hb := X.2.1
  have hown := X.2.2.2.1
  have hts := X.2.2.2.2.1
  refine mm_fc (ss_aload_n hx hb (by decide +kernel : decode cX12_paints 0 = .ok (.aload_n 0, 1)) rfl) ?_
  refine mm_fc (ss_iload_n hx hb (by decide +kernel : decode cX12_paints 1 = .ok (.iload_n 1, 1)) rfl) ?_
  refine mm_fc (ss_i2l hx hb (by decide +kernel : decode cX12_paints 2 = .ok (.i2l, 1))) ?_
  refine mm_fc (ss_callV X rfl rfl wd_8_173 wd_1_13 wd_8_170 wd_8_172 wd_p_100 (by decide +kernel) (by decide +kernel) (by decide) (by decide +kernel : decode cX12_paints 3 = .ok (.invokevirtual 394, 3))) ?_
  refine mm_fc (ss_ifeq hx hb (by decide +kernel : decode cX12_paints 6 = .ok (.ifCond .eq 13, 3)) (by decide)) ?_
  refine mm_fc (ss_iload_n hx hb (by decide +kernel : decode cX12_paints 9 = .ok (.iload_n 2, 1)) rfl) ?_
  refine mm_fc (ss_i2l hx hb (by decide +kernel : decode cX12_paints 10 = .ok (.i2l, 1))) ?_
  refine mm_fc (ss_lconst hx hb (by decide +kernel : decode cX12_paints 11 = .ok (.lconst 0, 1)) (by decide)) ?_
  refine mm_fc (ss_lconst hx hb (by decide +kernel : decode cX12_paints 12 = .ok (.lconst 1, 1)) (by decide)) ?_
  refine mm_fc (ss_callS X rfl wd_7_196 wd_1_13 wd_7_194 wd_7_195 (by decide +kernel) (by decide +kernel) (by decide) (by decide +kernel : decode cX12_paints 13 = .ok (.invokestatic 280, 3))) ?_
  refine mm_fc (ss_ifne hx hb (by decide +kernel : decode cX12_paints 16 = .ok (.ifCond .ne 5, 3)) (by decide)) ?_
  refine mm_fc (ss_iconst hx hb (by decide +kernel : decode cX12_paints 19 = .ok (.iconst (-1), 1)) (by decide)) ?_
  refine mm_fc (ss_iret (by decide +kernel : decode cX12_paints 20 = .ok (.ireturn, 1)) rfl) ?_
  refine mm_fc (ss_aload_n hx hb (by decide +kernel : decode cX12_paints 21 = .ok (.aload_n 0, 1)) rfl) ?_
  refine mm_fc (ss_iload_n hx hb (by decide +kernel : decode cX12_paints 22 = .ok (.iload_n 1, 1)) rfl) ?_
  refine mm_fc (ss_iload_n hx hb (by decide +kernel : decode cX12_paints 23 = .ok (.iload_n 2, 1)) rfl) ?_
  refine mm_fc (ss_callV X rfl rfl wd_8_190 wd_1_13 wd_8_187 wd_8_189 wd_p_102 (by decide +kernel) (by decide +kernel) (by decide) (by decide +kernel : decode cX12_paints 24 = .ok (.invokevirtual 467, 3))) ?_
  refine mm_fc (ss_istore_n hx hb (by decide +kernel : decode cX12_paints 27 = .ok (.istore_n 3, 1)) rfl (by decide)) ?_
  refine mm_fc (ss_iload_n hx hb (by decide +kernel : decode cX12_paints 28 = .ok (.iload_n 3, 1)) rfl) ?_
  refine mm_fc (ss_iconst hx hb (by decide +kernel : decode cX12_paints 29 = .ok (.iconst (-1), 1)) (by decide)) ?_
  refine mm_fc (ss_icmpne hx hb (by decide +kernel : decode cX12_paints 30 = .ok (.if_icmp .ne 7, 3)) (by decide)) ?_
  refine mm_fc (ss_iconst hx hb (by decide +kernel : decode cX12_paints 33 = .ok (.iconst (-1), 1)) (by decide)) ?_
  refine mm_fc (ss_goto hx hb (by decide +kernel : decode cX12_paints 34 = .ok (.goto 10, 3)) (by decide)) ?_
  refine mm_fc (ss_aload_n hx hb (by decide +kernel : decode cX12_paints 37 = .ok (.aload_n 0, 1)) rfl) ?_
  refine mm_fc (ss_iload_n hx hb (by decide +kernel : decode cX12_paints 38 = .ok (.iload_n 1, 1)) rfl) ?_
  refine mm_fc (ss_iload_n hx hb (by decide +kernel : decode cX12_paints 39 = .ok (.iload_n 3, 1)) rfl) ?_
  refine mm_fc (ss_iload_n hx hb (by decide +kernel : decode cX12_paints 40 = .ok (.iload_n 2, 1)) rfl) ?_
  refine mm_fc (ss_callV X rfl rfl wd_8_210 wd_1_13 wd_8_207 wd_8_209 wd_p_105 (by decide +kernel) (by decide +kernel) (by decide) (by decide +kernel : decode cX12_paints 41 = .ok (.invokevirtual 473, 3))) ?_
  refine mm_fc (ss_iret (by decide +kernel : decode cX12_paints 44 = .ok (.ireturn, 1)) rfl) ?_
  exact mm_fn
def cd_X12_feud : mm_K mm_H := [(0, s_aload 0 1), (1, s_iload 1 2), (2, s_callV 12 217 1 1 5), (5, s_if (fun x => x = 0) 26 8), (8, s_iload 1 9), (9, s_aload 0 10), (10, s_get 12 38 13), (13, s_pushI 1 14), (14, s_bin (fun x y => x - y) 15), (15, s_icmp (fun x y => y ≤ x) 26 18), (18, s_aload 0 19), (19, s_iload 1 20), (20, s_callV 12 243 1 1 23), (23, s_goto 27), (26, s_pushI (-1) 27), (27, s_iret)]
set_option maxRecDepth 100000 in
set_option maxHeartbeats 4000000 in
theorem ok_X12_feud (l : Launch) : mm_CodeOK l mm_I0 RX12 cX12_feud 2 (some .int) cd_X12_feud := by
  intro p e R s m args below meth c Q σ cA D A kc ks d C X
  have hx := X.1
  have hb := X.2.1
  have hown := X.2.2.2.1
  have hts := X.2.2.2.2.1
  refine mm_fc (ss_aload_n hx hb (by decide +kernel : decode cX12_feud 0 = .ok (.aload_n 0, 1)) rfl) ?_
  refine mm_fc (ss_iload_n hx hb (by decide +kernel : decode cX12_feud 1 = .ok (.iload_n 1, 1)) rfl) ?_
  refine mm_fc (ss_callV X rfl rfl wd_8_182 wd_1_13 wd_8_179 wd_8_181 wd_p_101 (by decide +kernel) (by decide +kernel) (by decide) (by decide +kernel : decode cX12_feud 2 = .ok (.invokevirtual 516, 3))) ?_
  refine mm_fc (ss_ifeq hx hb (by decide +kernel : decode cX12_feud 5 = .ok (.ifCond .eq 21, 3)) (by decide)) ?_
  refine mm_fc (ss_iload_n hx hb (by decide +kernel : decode cX12_feud 8 = .ok (.iload_n 1, 1)) rfl) ?_
  refine mm_fc (ss_aload_n hx hb (by decide +kernel : decode cX12_feud 9 = .ok (.aload_n 0, 1)) rfl) ?_
  refine mm_fc (ss_get X rfl in_X12 (by decide) rfl wd_6_84 (by decide +kernel : decode cX12_feud 10 = .ok (.getfield 379, 3))) ?_
  refine mm_fc (ss_iconst hx hb (by decide +kernel : decode cX12_feud 13 = .ok (.iconst 1, 1)) (by decide)) ?_
  refine mm_fc (ss_isub hx hb (by decide +kernel : decode cX12_feud 14 = .ok (.isub, 1))) ?_
  refine mm_fc (ss_icmpge hx hb (by decide +kernel : decode cX12_feud 15 = .ok (.if_icmp .ge 11, 3)) (by decide)) ?_
  refine mm_fc (ss_aload_n hx hb (by decide +kernel : decode cX12_feud 18 = .ok (.aload_n 0, 1)) rfl) ?_
  refine mm_fc (ss_iload_n hx hb (by decide +kernel : decode cX12_feud 19 = .ok (.iload_n 1, 1)) rfl) ?_
  refine mm_fc (ss_callV X rfl rfl wd_8_113 wd_1_13 wd_8_110 wd_8_112 wd_p_88 (by decide +kernel) (by decide +kernel) (by decide) (by decide +kernel : decode cX12_feud 20 = .ok (.invokevirtual 499, 3))) ?_
  refine mm_fc (ss_goto hx hb (by decide +kernel : decode cX12_feud 23 = .ok (.goto 4, 3)) (by decide)) ?_
  refine mm_fc (ss_iconst hx hb (by decide +kernel : decode cX12_feud 26 = .ok (.iconst (-1), 1)) (by decide)) ?_
  refine mm_fc (ss_iret (by decide +kernel : decode cX12_feud 27 = .ok (.ireturn, 1)) rfl) ?_
  exact mm_fn
def cd_X12_kept : mm_K mm_H := [(0, s_iload 1 1), (1, s_i2l 2), (2, s_pushL 0 3), (3, s_aload 0 4), (4, s_get 12 55 7), (7, s_pushI 89 9), (9, s_iald 10), (10, s_pushI 1 11), (11, s_bin (fun x y => x - y) 12), (12, s_i2l 13), (13, s_callS 188 3 1 16), (16, s_if (fun x => x = 0) 47 19), (19, s_iload 2 20), (20, s_i2l 21), (21, s_pushL 0 22), (22, s_pushL 2 25), (25, s_callS 188 3 1 28), (28, s_if (fun x => x = 0) 47 31), (31, s_aload 0 32), (32, s_get 12 55 35), (35, s_pushI 90 37), (37, s_pushI 3 38), (38, s_iload 1 39), (39, s_bin (fun x y => x * y) 40), (40, s_bin (fun x y => x + y) 41), (41, s_iload 2 42), (42, s_bin (fun x y => x + y) 43), (43, s_iald 44), (44, s_goto 48), (47, s_pushI (-1) 48), (48, s_iret)]
set_option maxRecDepth 100000 in
set_option maxHeartbeats 4000000 in
theorem ok_X12_kept (l : Launch) : mm_CodeOK l mm_I0 RX12 cX12_kept 3 (some .int) cd_X12_kept := by
  intro p e R s m args below meth c Q σ cA D A kc ks d C X
  have hx := X.1
  have hb := X.2.1
  have hown := X.2.2.2.1
  have hts := X.2.2.2.2.1
  refine mm_fc (ss_iload_n hx hb (by decide +kernel : decode cX12_kept 0 = .ok (.iload_n 1, 1)) rfl) ?_
  refine mm_fc (ss_i2l hx hb (by decide +kernel : decode cX12_kept 1 = .ok (.i2l, 1))) ?_
  refine mm_fc (ss_lconst hx hb (by decide +kernel : decode cX12_kept 2 = .ok (.lconst 0, 1)) (by decide)) ?_
  refine mm_fc (ss_aload_n hx hb (by decide +kernel : decode cX12_kept 3 = .ok (.aload_n 0, 1)) rfl) ?_
  refine mm_fc (ss_get X rfl in_X12 (by decide) rfl wd_6_101 (by decide +kernel : decode cX12_kept 4 = .ok (.getfield 121, 3))) ?_
  refine mm_fc (ss_bipush hx hb (by decide +kernel : decode cX12_kept 7 = .ok (.bipush 89, 2)) (by decide)) ?_
  refine mm_fc (ss_iald X (by decide +kernel : decode cX12_kept 9 = .ok (.iaload, 1))) ?_
  refine mm_fc (ss_iconst hx hb (by decide +kernel : decode cX12_kept 10 = .ok (.iconst 1, 1)) (by decide)) ?_
  refine mm_fc (ss_isub hx hb (by decide +kernel : decode cX12_kept 11 = .ok (.isub, 1))) ?_
  refine mm_fc (ss_i2l hx hb (by decide +kernel : decode cX12_kept 12 = .ok (.i2l, 1))) ?_
  refine mm_fc (ss_callS X rfl wd_7_196 wd_1_13 wd_7_194 wd_7_195 (by decide +kernel) (by decide +kernel) (by decide) (by decide +kernel : decode cX12_kept 13 = .ok (.invokestatic 280, 3))) ?_
  refine mm_fc (ss_ifeq hx hb (by decide +kernel : decode cX12_kept 16 = .ok (.ifCond .eq 31, 3)) (by decide)) ?_
  refine mm_fc (ss_iload_n hx hb (by decide +kernel : decode cX12_kept 19 = .ok (.iload_n 2, 1)) rfl) ?_
  refine mm_fc (ss_i2l hx hb (by decide +kernel : decode cX12_kept 20 = .ok (.i2l, 1))) ?_
  refine mm_fc (ss_lconst hx hb (by decide +kernel : decode cX12_kept 21 = .ok (.lconst 0, 1)) (by decide)) ?_
  refine mm_fc (ss_ldc2 hx hb hown (hts _ (mm_in wd_8_222 rfl)) (by decide +kernel : decode cX12_kept 22 = .ok (.ldc2_w 522, 3))) ?_
  refine mm_fc (ss_callS X rfl wd_7_196 wd_1_13 wd_7_194 wd_7_195 (by decide +kernel) (by decide +kernel) (by decide) (by decide +kernel : decode cX12_kept 25 = .ok (.invokestatic 280, 3))) ?_
  refine mm_fc (ss_ifeq hx hb (by decide +kernel : decode cX12_kept 28 = .ok (.ifCond .eq 19, 3)) (by decide)) ?_
  refine mm_fc (ss_aload_n hx hb (by decide +kernel : decode cX12_kept 31 = .ok (.aload_n 0, 1)) rfl) ?_
  refine mm_fc (ss_get X rfl in_X12 (by decide) rfl wd_6_101 (by decide +kernel : decode cX12_kept 32 = .ok (.getfield 121, 3))) ?_
  refine mm_fc (ss_bipush hx hb (by decide +kernel : decode cX12_kept 35 = .ok (.bipush 90, 2)) (by decide)) ?_
  refine mm_fc (ss_iconst hx hb (by decide +kernel : decode cX12_kept 37 = .ok (.iconst 3, 1)) (by decide)) ?_
  refine mm_fc (ss_iload_n hx hb (by decide +kernel : decode cX12_kept 38 = .ok (.iload_n 1, 1)) rfl) ?_
  refine mm_fc (ss_imul hx hb (by decide +kernel : decode cX12_kept 39 = .ok (.imul, 1))) ?_
  refine mm_fc (ss_iadd hx hb (by decide +kernel : decode cX12_kept 40 = .ok (.iadd, 1))) ?_
  refine mm_fc (ss_iload_n hx hb (by decide +kernel : decode cX12_kept 41 = .ok (.iload_n 2, 1)) rfl) ?_
  refine mm_fc (ss_iadd hx hb (by decide +kernel : decode cX12_kept 42 = .ok (.iadd, 1))) ?_
  refine mm_fc (ss_iald X (by decide +kernel : decode cX12_kept 43 = .ok (.iaload, 1))) ?_
  refine mm_fc (ss_goto hx hb (by decide +kernel : decode cX12_kept 44 = .ok (.goto 4, 3)) (by decide)) ?_
  refine mm_fc (ss_iconst hx hb (by decide +kernel : decode cX12_kept 47 = .ok (.iconst (-1), 1)) (by decide)) ?_
  refine mm_fc (ss_iret (by decide +kernel : decode cX12_kept 48 = .ok (.ireturn, 1)) rfl) ?_
  exact mm_fn
def cd_X12_later : mm_K mm_H := [(0, s_aload 0 1), (1, s_iload 1 2), (2, s_i2l 3), (3, s_callV 12 214 1 1 6), (6, s_if (fun x => x = 0) 20 9), (9, s_aload 0 10), (10, s_iload 2 11), (11, s_pushI 0 12), (12, s_pushI 60 14), (14, s_callV 12 238 3 1 17), (17, s_if (fun x => ¬ x = 0) 22 20), (20, s_pushI (-1) 21), (21, s_iret), (22, s_aload 0 23), (23, s_callV 12 235 0 0 26), (26, s_aload 0 27), (27, s_iload 2 28), (28, s_callV 12 234 1 0 31), (31, s_aload 0 32), (32, s_iload 1 33), (33, s_callV 12 219 1 1 36), (36, s_istore 3 37), (37, s_aload 0 38), (38, s_callV 12 237 0 0 41), (41, s_iload 3 42), (42, s_iret)]
set_option maxRecDepth 100000 in
set_option maxHeartbeats 4000000 in
theorem ok_X12_later (l : Launch) : mm_CodeOK l mm_I0 RX12 cX12_later 4 (some .int) cd_X12_later := by
  intro p e R s m args below meth c Q σ cA D A kc ks d C X
  have hx := X.1
  have hb := X.2.1
  have hown := X.2.2.2.1
  have hts := X.2.2.2.2.1
  refine mm_fc (ss_aload_n hx hb (by decide +kernel : decode cX12_later 0 = .ok (.aload_n 0, 1)) rfl) ?_
  refine mm_fc (ss_iload_n hx hb (by decide +kernel : decode cX12_later 1 = .ok (.iload_n 1, 1)) rfl) ?_
  refine mm_fc (ss_i2l hx hb (by decide +kernel : decode cX12_later 2 = .ok (.i2l, 1))) ?_
  refine mm_fc (ss_callV X rfl rfl wd_8_173 wd_1_13 wd_8_170 wd_8_172 wd_p_100 (by decide +kernel) (by decide +kernel) (by decide) (by decide +kernel : decode cX12_later 3 = .ok (.invokevirtual 394, 3))) ?_
  refine mm_fc (ss_ifeq hx hb (by decide +kernel : decode cX12_later 6 = .ok (.ifCond .eq 14, 3)) (by decide)) ?_
  refine mm_fc (ss_aload_n hx hb (by decide +kernel : decode cX12_later 9 = .ok (.aload_n 0, 1)) rfl) ?_
  refine mm_fc (ss_iload_n hx hb (by decide +kernel : decode cX12_later 10 = .ok (.iload_n 2, 1)) rfl) ?_
  refine mm_fc (ss_iconst hx hb (by decide +kernel : decode cX12_later 11 = .ok (.iconst 0, 1)) (by decide)) ?_
  refine mm_fc (ss_bipush hx hb (by decide +kernel : decode cX12_later 12 = .ok (.bipush 60, 2)) (by decide)) ?_
  refine mm_fc (ss_callV X rfl rfl wd_8_230 wd_1_13 wd_8_227 wd_8_229 wd_p_106 (by decide +kernel) (by decide +kernel) (by decide) (by decide +kernel : decode cX12_later 14 = .ok (.invokevirtual 524, 3))) ?_
  refine mm_fc (ss_ifne hx hb (by decide +kernel : decode cX12_later 17 = .ok (.ifCond .ne 5, 3)) (by decide)) ?_
  refine mm_fc (ss_iconst hx hb (by decide +kernel : decode cX12_later 20 = .ok (.iconst (-1), 1)) (by decide)) ?_
  refine mm_fc (ss_iret (by decide +kernel : decode cX12_later 21 = .ok (.ireturn, 1)) rfl) ?_
  refine mm_fc (ss_aload_n hx hb (by decide +kernel : decode cX12_later 22 = .ok (.aload_n 0, 1)) rfl) ?_
  refine mm_fc (ss_callV X rfl rfl wd_8_234 wd_1_13 wd_8_231 wd_8_233 wd_p_107 (by decide +kernel) (by decide +kernel) (by decide) (by decide +kernel : decode cX12_later 23 = .ok (.invokevirtual 528, 3))) ?_
  refine mm_fc (ss_aload_n hx hb (by decide +kernel : decode cX12_later 26 = .ok (.aload_n 0, 1)) rfl) ?_
  refine mm_fc (ss_iload_n hx hb (by decide +kernel : decode cX12_later 27 = .ok (.iload_n 2, 1)) rfl) ?_
  refine mm_fc (ss_callV X rfl rfl wd_8_238 wd_1_13 wd_8_235 wd_8_237 wd_p_108 (by decide +kernel) (by decide +kernel) (by decide) (by decide +kernel : decode cX12_later 28 = .ok (.invokevirtual 531, 3))) ?_
  refine mm_fc (ss_aload_n hx hb (by decide +kernel : decode cX12_later 31 = .ok (.aload_n 0, 1)) rfl) ?_
  refine mm_fc (ss_iload_n hx hb (by decide +kernel : decode cX12_later 32 = .ok (.iload_n 1, 1)) rfl) ?_
  refine mm_fc (ss_callV X rfl rfl wd_8_97 wd_1_13 wd_8_94 wd_8_96 wd_p_84 (by decide +kernel) (by decide +kernel) (by decide) (by decide +kernel : decode cX12_later 33 = .ok (.invokevirtual 423, 3))) ?_
  refine mm_fc (ss_istore_n hx hb (by decide +kernel : decode cX12_later 36 = .ok (.istore_n 3, 1)) rfl (by decide)) ?_
  refine mm_fc (ss_aload_n hx hb (by decide +kernel : decode cX12_later 37 = .ok (.aload_n 0, 1)) rfl) ?_
  refine mm_fc (ss_callV X rfl rfl wd_9_18 wd_1_13 wd_9_15 wd_9_17 wd_p_113 (by decide +kernel) (by decide +kernel) (by decide) (by decide +kernel : decode cX12_later 38 = .ok (.invokevirtual 534, 3))) ?_
  refine mm_fc (ss_iload_n hx hb (by decide +kernel : decode cX12_later 41 = .ok (.iload_n 3, 1)) rfl) ?_
  refine mm_fc (ss_iret (by decide +kernel : decode cX12_later 42 = .ok (.ireturn, 1)) rfl) ?_
  exact mm_fn
def cd_X12_mind : mm_K mm_H := [(0, s_aload 0 1), (1, s_iload 1 2), (2, s_iload 2 3), (3, s_callV 12 216 2 1 6), (6, s_if (fun x => x = 0) 20 9), (9, s_aload 0 10), (10, s_iload 3 11), (11, s_pushI 0 12), (12, s_pushI 60 14), (14, s_callV 12 238 3 1 17), (17, s_if (fun x => ¬ x = 0) 22 20), (20, s_pushI (-1) 21), (21, s_iret), (22, s_aload 0 23), (23, s_callV 12 235 0 0 26), (26, s_aload 0 27), (27, s_iload 3 28), (28, s_callV 12 234 1 0 31), (31, s_aload 0 32), (32, s_iload 1 33), (33, s_iload 2 34), (34, s_callV 12 223 2 1 37), (37, s_istore 4 39), (39, s_aload 0 40), (40, s_callV 12 237 0 0 43), (43, s_iload 4 45), (45, s_iret)]
set_option maxRecDepth 100000 in
set_option maxHeartbeats 4000000 in
theorem ok_X12_mind (l : Launch) : mm_CodeOK l mm_I0 RX12 cX12_mind 5 (some .int) cd_X12_mind := by
  intro p e R s m args below meth c Q σ cA D A kc ks d C X
  have hx := X.1
  have hb := X.2.1
  have hown := X.2.2.2.1
  have hts := X.2.2.2.2.1
  refine mm_fc (ss_aload_n hx hb (by decide +kernel : decode cX12_mind 0 = .ok (.aload_n 0, 1)) rfl) ?_
  refine mm_fc (ss_iload_n hx hb (by decide +kernel : decode cX12_mind 1 = .ok (.iload_n 1, 1)) rfl) ?_
  refine mm_fc (ss_iload_n hx hb (by decide +kernel : decode cX12_mind 2 = .ok (.iload_n 2, 1)) rfl) ?_
  refine mm_fc (ss_callV X rfl rfl wd_8_198 wd_1_13 wd_8_195 wd_8_197 wd_p_103 (by decide +kernel) (by decide +kernel) (by decide) (by decide +kernel : decode cX12_mind 3 = .ok (.invokevirtual 519, 3))) ?_
  refine mm_fc (ss_ifeq hx hb (by decide +kernel : decode cX12_mind 6 = .ok (.ifCond .eq 14, 3)) (by decide)) ?_
  refine mm_fc (ss_aload_n hx hb (by decide +kernel : decode cX12_mind 9 = .ok (.aload_n 0, 1)) rfl) ?_
  refine mm_fc (ss_iload_n hx hb (by decide +kernel : decode cX12_mind 10 = .ok (.iload_n 3, 1)) rfl) ?_
  refine mm_fc (ss_iconst hx hb (by decide +kernel : decode cX12_mind 11 = .ok (.iconst 0, 1)) (by decide)) ?_
  refine mm_fc (ss_bipush hx hb (by decide +kernel : decode cX12_mind 12 = .ok (.bipush 60, 2)) (by decide)) ?_
  refine mm_fc (ss_callV X rfl rfl wd_8_230 wd_1_13 wd_8_227 wd_8_229 wd_p_106 (by decide +kernel) (by decide +kernel) (by decide) (by decide +kernel : decode cX12_mind 14 = .ok (.invokevirtual 524, 3))) ?_
  refine mm_fc (ss_ifne hx hb (by decide +kernel : decode cX12_mind 17 = .ok (.ifCond .ne 5, 3)) (by decide)) ?_
  refine mm_fc (ss_iconst hx hb (by decide +kernel : decode cX12_mind 20 = .ok (.iconst (-1), 1)) (by decide)) ?_
  refine mm_fc (ss_iret (by decide +kernel : decode cX12_mind 21 = .ok (.ireturn, 1)) rfl) ?_
  refine mm_fc (ss_aload_n hx hb (by decide +kernel : decode cX12_mind 22 = .ok (.aload_n 0, 1)) rfl) ?_
  refine mm_fc (ss_callV X rfl rfl wd_8_234 wd_1_13 wd_8_231 wd_8_233 wd_p_107 (by decide +kernel) (by decide +kernel) (by decide) (by decide +kernel : decode cX12_mind 23 = .ok (.invokevirtual 528, 3))) ?_
  refine mm_fc (ss_aload_n hx hb (by decide +kernel : decode cX12_mind 26 = .ok (.aload_n 0, 1)) rfl) ?_
  refine mm_fc (ss_iload_n hx hb (by decide +kernel : decode cX12_mind 27 = .ok (.iload_n 3, 1)) rfl) ?_
  refine mm_fc (ss_callV X rfl rfl wd_8_238 wd_1_13 wd_8_235 wd_8_237 wd_p_108 (by decide +kernel) (by decide +kernel) (by decide) (by decide +kernel : decode cX12_mind 28 = .ok (.invokevirtual 531, 3))) ?_
  refine mm_fc (ss_aload_n hx hb (by decide +kernel : decode cX12_mind 31 = .ok (.aload_n 0, 1)) rfl) ?_
  refine mm_fc (ss_iload_n hx hb (by decide +kernel : decode cX12_mind 32 = .ok (.iload_n 1, 1)) rfl) ?_
  refine mm_fc (ss_iload_n hx hb (by decide +kernel : decode cX12_mind 33 = .ok (.iload_n 2, 1)) rfl) ?_
  refine mm_fc (ss_callV X rfl rfl wd_8_129 wd_1_13 wd_8_126 wd_8_128 wd_p_92 (by decide +kernel) (by decide +kernel) (by decide) (by decide +kernel : decode cX12_mind 34 = .ok (.invokevirtual 438, 3))) ?_
  refine mm_fc (ss_istore hx hb (by decide +kernel : decode cX12_mind 37 = .ok (.istore 4, 2)) (by decide)) ?_
  refine mm_fc (ss_aload_n hx hb (by decide +kernel : decode cX12_mind 39 = .ok (.aload_n 0, 1)) rfl) ?_
  refine mm_fc (ss_callV X rfl rfl wd_9_18 wd_1_13 wd_9_15 wd_9_17 wd_p_113 (by decide +kernel) (by decide +kernel) (by decide) (by decide +kernel : decode cX12_mind 40 = .ok (.invokevirtual 534, 3))) ?_
  refine mm_fc (ss_iload hx hb (by decide +kernel : decode cX12_mind 43 = .ok (.iload 4, 2))) ?_
  refine mm_fc (ss_iret (by decide +kernel : decode cX12_mind 45 = .ok (.ireturn, 1)) rfl) ?_
  exact mm_fn
def cd_X12_curtain : mm_K mm_H := [(0, s_aload 0 1), (1, s_iload 1 2), (2, s_i2l 3), (3, s_callV 12 214 1 1 6), (6, s_if (fun x => ¬ x = 0) 11 9), (9, s_pushI (-1) 10), (10, s_iret), (11, s_pushI 0 12), (12, s_istore 2 13), (13, s_aload 0 14), (14, s_kill 17 [3] (s_callV 12 235 0 0 17)), (17, s_aload 0 18), (18, s_iload 1 19), (19, s_callV 12 219 1 1 22), (22, s_if (fun x => x ≤ 0) 53 25), (25, s_iload 2 26), (26, s_pushI 60 28), (28, s_icmp (fun x y => y ≤ x) 53 31), (31, s_aload 0 32), (32, s_get 12 55 35), (35, s_pushI 0 36), (36, s_iald 37), (37, s_pushI 999 40), (40, s_icmp (fun x y => y ≤ x) 53 43), (43, s_aload 0 44), (44, s_callV 12 233 0 0 47), (47, s_iinc 2 1 50), (50, s_kill 17 [3] (s_goto 17)), (53, s_aload 0 54), (54, s_iload 1 55), (55, s_callV 12 219 1 1 58), (58, s_if (fun x => ¬ x = 0) 65 61), (61, s_pushI 1 62), (62, s_goto 66), (65, s_pushI 0 66), (66, s_istore 3 67), (67, s_aload 0 68), (68, s_callV 12 237 0 0 71), (71, s_iload 3 72), (72, s_if (fun x => x = 0) 79 75), (75, s_iload 2 76), (76, s_goto 80), (79, s_pushI (-1) 80), (80, s_iret)]
set_option maxRecDepth 100000 in
set_option maxHeartbeats 4000000 in
theorem ok_X12_curtain (l : Launch) : mm_CodeOK l mm_I0 RX12 cX12_curtain 4 (some .int) cd_X12_curtain := by
  intro p e R s m args below meth c Q σ cA D A kc ks d C X
  have hx := X.1
  have hb := X.2.1
  have hown := X.2.2.2.1
  have hts := X.2.2.2.2.1
  refine mm_fc (ss_aload_n hx hb (by decide +kernel : decode cX12_curtain 0 = .ok (.aload_n 0, 1)) rfl) ?_
  refine mm_fc (ss_iload_n hx hb (by decide +kernel : decode cX12_curtain 1 = .ok (.iload_n 1, 1)) rfl) ?_
  refine mm_fc (ss_i2l hx hb (by decide +kernel : decode cX12_curtain 2 = .ok (.i2l, 1))) ?_
  refine mm_fc (ss_callV X rfl rfl wd_8_173 wd_1_13 wd_8_170 wd_8_172 wd_p_100 (by decide +kernel) (by decide +kernel) (by decide) (by decide +kernel : decode cX12_curtain 3 = .ok (.invokevirtual 394, 3))) ?_
  refine mm_fc (ss_ifne hx hb (by decide +kernel : decode cX12_curtain 6 = .ok (.ifCond .ne 5, 3)) (by decide)) ?_
  refine mm_fc (ss_iconst hx hb (by decide +kernel : decode cX12_curtain 9 = .ok (.iconst (-1), 1)) (by decide)) ?_
  refine mm_fc (ss_iret (by decide +kernel : decode cX12_curtain 10 = .ok (.ireturn, 1)) rfl) ?_
  refine mm_fc (ss_iconst hx hb (by decide +kernel : decode cX12_curtain 11 = .ok (.iconst 0, 1)) (by decide)) ?_
  refine mm_fc (ss_istore_n hx hb (by decide +kernel : decode cX12_curtain 12 = .ok (.istore_n 2, 1)) rfl (by decide)) ?_
  refine mm_fc (ss_aload_n hx hb (by decide +kernel : decode cX12_curtain 13 = .ok (.aload_n 0, 1)) rfl) ?_
  refine mm_fc (ss_kill (ss_callV X rfl rfl wd_8_234 wd_1_13 wd_8_231 wd_8_233 wd_p_107 (by decide +kernel) (by decide +kernel) (by decide) (by decide +kernel : decode cX12_curtain 14 = .ok (.invokevirtual 528, 3)))) ?_
  refine mm_fc (ss_aload_n hx hb (by decide +kernel : decode cX12_curtain 17 = .ok (.aload_n 0, 1)) rfl) ?_
  refine mm_fc (ss_iload_n hx hb (by decide +kernel : decode cX12_curtain 18 = .ok (.iload_n 1, 1)) rfl) ?_
  refine mm_fc (ss_callV X rfl rfl wd_8_97 wd_1_13 wd_8_94 wd_8_96 wd_p_84 (by decide +kernel) (by decide +kernel) (by decide) (by decide +kernel : decode cX12_curtain 19 = .ok (.invokevirtual 423, 3))) ?_
  refine mm_fc (ss_ifle hx hb (by decide +kernel : decode cX12_curtain 22 = .ok (.ifCond .le 31, 3)) (by decide)) ?_
  refine mm_fc (ss_iload_n hx hb (by decide +kernel : decode cX12_curtain 25 = .ok (.iload_n 2, 1)) rfl) ?_
  refine mm_fc (ss_bipush hx hb (by decide +kernel : decode cX12_curtain 26 = .ok (.bipush 60, 2)) (by decide)) ?_
  refine mm_fc (ss_icmpge hx hb (by decide +kernel : decode cX12_curtain 28 = .ok (.if_icmp .ge 25, 3)) (by decide)) ?_
  refine mm_fc (ss_aload_n hx hb (by decide +kernel : decode cX12_curtain 31 = .ok (.aload_n 0, 1)) rfl) ?_
  refine mm_fc (ss_get X rfl in_X12 (by decide) rfl wd_6_101 (by decide +kernel : decode cX12_curtain 32 = .ok (.getfield 121, 3))) ?_
  refine mm_fc (ss_iconst hx hb (by decide +kernel : decode cX12_curtain 35 = .ok (.iconst 0, 1)) (by decide)) ?_
  refine mm_fc (ss_iald X (by decide +kernel : decode cX12_curtain 36 = .ok (.iaload, 1))) ?_
  refine mm_fc (ss_sipush hx hb (by decide +kernel : decode cX12_curtain 37 = .ok (.sipush 999, 3)) (by decide)) ?_
  refine mm_fc (ss_icmpge hx hb (by decide +kernel : decode cX12_curtain 40 = .ok (.if_icmp .ge 13, 3)) (by decide)) ?_
  refine mm_fc (ss_aload_n hx hb (by decide +kernel : decode cX12_curtain 43 = .ok (.aload_n 0, 1)) rfl) ?_
  refine mm_fc (ss_callV X rfl rfl wd_9_2 wd_1_13 wd_8_239 wd_9_1 wd_p_109 (by decide +kernel) (by decide +kernel) (by decide) (by decide +kernel : decode cX12_curtain 44 = .ok (.invokevirtual 489, 3))) ?_
  refine mm_fc (ss_iinc hx hb (by decide +kernel : decode cX12_curtain 47 = .ok (.iinc 2 1, 3)) (by decide) (by decide)) ?_
  refine mm_fc (ss_kill (ss_goto hx hb (by decide +kernel : decode cX12_curtain 50 = .ok (.goto (-33), 3)) (by decide))) ?_
  refine mm_fc (ss_aload_n hx hb (by decide +kernel : decode cX12_curtain 53 = .ok (.aload_n 0, 1)) rfl) ?_
  refine mm_fc (ss_iload_n hx hb (by decide +kernel : decode cX12_curtain 54 = .ok (.iload_n 1, 1)) rfl) ?_
  refine mm_fc (ss_callV X rfl rfl wd_8_97 wd_1_13 wd_8_94 wd_8_96 wd_p_84 (by decide +kernel) (by decide +kernel) (by decide) (by decide +kernel : decode cX12_curtain 55 = .ok (.invokevirtual 423, 3))) ?_
  refine mm_fc (ss_ifne hx hb (by decide +kernel : decode cX12_curtain 58 = .ok (.ifCond .ne 7, 3)) (by decide)) ?_
  refine mm_fc (ss_iconst hx hb (by decide +kernel : decode cX12_curtain 61 = .ok (.iconst 1, 1)) (by decide)) ?_
  refine mm_fc (ss_goto hx hb (by decide +kernel : decode cX12_curtain 62 = .ok (.goto 4, 3)) (by decide)) ?_
  refine mm_fc (ss_iconst hx hb (by decide +kernel : decode cX12_curtain 65 = .ok (.iconst 0, 1)) (by decide)) ?_
  refine mm_fc (ss_istore_n hx hb (by decide +kernel : decode cX12_curtain 66 = .ok (.istore_n 3, 1)) rfl (by decide)) ?_
  refine mm_fc (ss_aload_n hx hb (by decide +kernel : decode cX12_curtain 67 = .ok (.aload_n 0, 1)) rfl) ?_
  refine mm_fc (ss_callV X rfl rfl wd_9_18 wd_1_13 wd_9_15 wd_9_17 wd_p_113 (by decide +kernel) (by decide +kernel) (by decide) (by decide +kernel : decode cX12_curtain 68 = .ok (.invokevirtual 534, 3))) ?_
  refine mm_fc (ss_iload_n hx hb (by decide +kernel : decode cX12_curtain 71 = .ok (.iload_n 3, 1)) rfl) ?_
  refine mm_fc (ss_ifeq hx hb (by decide +kernel : decode cX12_curtain 72 = .ok (.ifCond .eq 7, 3)) (by decide)) ?_
  refine mm_fc (ss_iload_n hx hb (by decide +kernel : decode cX12_curtain 75 = .ok (.iload_n 2, 1)) rfl) ?_
  refine mm_fc (ss_goto hx hb (by decide +kernel : decode cX12_curtain 76 = .ok (.goto 4, 3)) (by decide)) ?_
  refine mm_fc (ss_iconst hx hb (by decide +kernel : decode cX12_curtain 79 = .ok (.iconst (-1), 1)) (by decide)) ?_
  refine mm_fc (ss_iret (by decide +kernel : decode cX12_curtain 80 = .ok (.ireturn, 1)) rfl) ?_
  exact mm_fn
def cd_X12_changes : mm_K mm_H := [(0, s_aload 0 1), (1, s_iload 1 2), (2, s_callV 12 224 1 1 5), (5, s_istore 3 6), (6, s_aload 0 7), (7, s_iload 2 8), (8, s_callV 12 224 1 1 11), (11, s_istore 4 13), (13, s_iload 3 14), (14, s_pushI (-1) 15), (15, s_icmp (fun x y => x = y) 29 18), (18, s_aload 0 19), (19, s_get 12 55 22), (22, s_pushI 1 23), (23, s_pushI 3 24), (24, s_iload 3 25), (25, s_bin (fun x y => x * y) 26), (26, s_bin (fun x y => x + y) 27), (27, s_iload 2 28), (28, s_iast 29), (29, s_iload 4 31), (31, s_pushI (-1) 32), (32, s_icmp (fun x y => x = y) 47 35), (35, s_aload 0 36), (36, s_get 12 55 39), (39, s_pushI 1 40), (40, s_pushI 3 41), (41, s_iload 4 43), (43, s_bin (fun x y => x * y) 44), (44, s_bin (fun x y => x + y) 45), (45, s_iload 1 46), (46, s_iast 47), (47, s_vret)]
set_option maxRecDepth 100000 in
set_option maxHeartbeats 4000000 in
theorem ok_X12_changes (l : Launch) : mm_CodeOK l mm_I0 RX12 cX12_changes 5 none cd_X12_changes := by
  intro p e R s m args below meth c Q σ cA D A kc ks d C X
  have hx := X.1
  have hb := X.2.1
  have hown := X.2.2.2.1
  have hts := X.2.2.2.2.1
  refine mm_fc (ss_aload_n hx hb (by decide +kernel : decode cX12_changes 0 = .ok (.aload_n 0, 1)) rfl) ?_
  refine mm_fc (ss_iload_n hx hb (by decide +kernel : decode cX12_changes 1 = .ok (.iload_n 1, 1)) rfl) ?_
  refine mm_fc (ss_callV X rfl rfl wd_8_117 wd_1_13 wd_8_114 wd_8_116 wd_p_89 (by decide +kernel) (by decide +kernel) (by decide) (by decide +kernel : decode cX12_changes 2 = .ok (.invokevirtual 406, 3))) ?_
  refine mm_fc (ss_istore_n hx hb (by decide +kernel : decode cX12_changes 5 = .ok (.istore_n 3, 1)) rfl (by decide)) ?_
  refine mm_fc (ss_aload_n hx hb (by decide +kernel : decode cX12_changes 6 = .ok (.aload_n 0, 1)) rfl) ?_
  refine mm_fc (ss_iload_n hx hb (by decide +kernel : decode cX12_changes 7 = .ok (.iload_n 2, 1)) rfl) ?_
  refine mm_fc (ss_callV X rfl rfl wd_8_117 wd_1_13 wd_8_114 wd_8_116 wd_p_89 (by decide +kernel) (by decide +kernel) (by decide) (by decide +kernel : decode cX12_changes 8 = .ok (.invokevirtual 406, 3))) ?_
  refine mm_fc (ss_istore hx hb (by decide +kernel : decode cX12_changes 11 = .ok (.istore 4, 2)) (by decide)) ?_
  refine mm_fc (ss_iload_n hx hb (by decide +kernel : decode cX12_changes 13 = .ok (.iload_n 3, 1)) rfl) ?_
  refine mm_fc (ss_iconst hx hb (by decide +kernel : decode cX12_changes 14 = .ok (.iconst (-1), 1)) (by decide)) ?_
  refine mm_fc (ss_icmpeq hx hb (by decide +kernel : decode cX12_changes 15 = .ok (.if_icmp .eq 14, 3)) (by decide)) ?_
  refine mm_fc (ss_aload_n hx hb (by decide +kernel : decode cX12_changes 18 = .ok (.aload_n 0, 1)) rfl) ?_
  refine mm_fc (ss_get X rfl in_X12 (by decide) rfl wd_6_101 (by decide +kernel : decode cX12_changes 19 = .ok (.getfield 121, 3))) ?_
  refine mm_fc (ss_iconst hx hb (by decide +kernel : decode cX12_changes 22 = .ok (.iconst 1, 1)) (by decide)) ?_
  refine mm_fc (ss_iconst hx hb (by decide +kernel : decode cX12_changes 23 = .ok (.iconst 3, 1)) (by decide)) ?_
  refine mm_fc (ss_iload_n hx hb (by decide +kernel : decode cX12_changes 24 = .ok (.iload_n 3, 1)) rfl) ?_
  refine mm_fc (ss_imul hx hb (by decide +kernel : decode cX12_changes 25 = .ok (.imul, 1))) ?_
  refine mm_fc (ss_iadd hx hb (by decide +kernel : decode cX12_changes 26 = .ok (.iadd, 1))) ?_
  refine mm_fc (ss_iload_n hx hb (by decide +kernel : decode cX12_changes 27 = .ok (.iload_n 2, 1)) rfl) ?_
  refine mm_fc (ss_iast X (by decide +kernel : decode cX12_changes 28 = .ok (.iastore, 1))) ?_
  refine mm_fc (ss_iload hx hb (by decide +kernel : decode cX12_changes 29 = .ok (.iload 4, 2))) ?_
  refine mm_fc (ss_iconst hx hb (by decide +kernel : decode cX12_changes 31 = .ok (.iconst (-1), 1)) (by decide)) ?_
  refine mm_fc (ss_icmpeq hx hb (by decide +kernel : decode cX12_changes 32 = .ok (.if_icmp .eq 15, 3)) (by decide)) ?_
  refine mm_fc (ss_aload_n hx hb (by decide +kernel : decode cX12_changes 35 = .ok (.aload_n 0, 1)) rfl) ?_
  refine mm_fc (ss_get X rfl in_X12 (by decide) rfl wd_6_101 (by decide +kernel : decode cX12_changes 36 = .ok (.getfield 121, 3))) ?_
  refine mm_fc (ss_iconst hx hb (by decide +kernel : decode cX12_changes 39 = .ok (.iconst 1, 1)) (by decide)) ?_
  refine mm_fc (ss_iconst hx hb (by decide +kernel : decode cX12_changes 40 = .ok (.iconst 3, 1)) (by decide)) ?_
  refine mm_fc (ss_iload hx hb (by decide +kernel : decode cX12_changes 41 = .ok (.iload 4, 2))) ?_
  refine mm_fc (ss_imul hx hb (by decide +kernel : decode cX12_changes 43 = .ok (.imul, 1))) ?_
  refine mm_fc (ss_iadd hx hb (by decide +kernel : decode cX12_changes 44 = .ok (.iadd, 1))) ?_
  refine mm_fc (ss_iload_n hx hb (by decide +kernel : decode cX12_changes 45 = .ok (.iload_n 1, 1)) rfl) ?_
  refine mm_fc (ss_iast X (by decide +kernel : decode cX12_changes 46 = .ok (.iastore, 1))) ?_
  refine mm_fc (ss_vret (by decide +kernel : decode cX12_changes 47 = .ok (.return_, 1)) rfl) ?_
  exact mm_fn
def cd_X12_changed : mm_K mm_H := [(0, s_aload 0 1), (1, s_get 12 53 4), (4, s_if (fun x => x = 0) 30 7), (7, s_aload 0 8), (8, s_iload 1 9), (9, s_pushI 1 10), (10, s_pushI 20 12), (12, s_callV 12 238 3 1 15), (15, s_if (fun x => x = 0) 30 18), (18, s_iload 2 19), (19, s_i2l 20), (20, s_pushL 0 21), (21, s_pushL 2 24), (24, s_callS 188 3 1 27), (27, s_if (fun x => ¬ x = 0) 32 30), (30, s_pushI (-1) 31), (31, s_iret), (32, s_aload 0 33), (33, s_callV 12 235 0 0 36), (36, s_aload 0 37), (37, s_iload 1 38), (38, s_callV 12 234 1 0 41), (41, s_aload 0 42), (42, s_callV 12 240 0 1 45), (45, s_istore 3 46), (46, s_aload 0 47), (47, s_callV 12 236 0 0 50), (50, s_pushI (-1) 51), (51, s_istore 4 53), (53, s_pushI (-1) 54), (54, s_istore 5 56), (56, s_pushI 0 57), (57, s_kill 59 [7, 8] (s_istore 6 59)), (59, s_iload 6 61), (61, s_aload 0 62), (62, s_get 12 38 65), (65, s_icmp (fun x y => y ≤ x) 138 68), (68, s_iload 6 70), (70, s_pushI 1 71), (71, s_bin (fun x y => x + y) 72), (72, s_kill 74 [8] (s_istore 7 74)), (74, s_iload 7 76), (76, s_aload 0 77), (77, s_get 12 38 80), (80, s_icmp (fun x y => y ≤ x) 132 83), (83, s_aload 0 84), (84, s_iload 6 86), (86, s_iload 7 88), (88, s_callV 12 256 2 0 91), (91, s_aload 0 92), (92, s_iload 1 93), (93, s_callV 12 234 1 0 96), (96, s_aload 0 97), (97, s_callV 12 240 0 1 100), (100, s_istore 8 102), (102, s_aload 0 103), (103, s_callV 12 236 0 0 106), (106, s_iload 8 108), (108, s_iload 3 109), (109, s_icmp (fun x y => y < x) 115 112), (112, s_goto 126), (115, s_iload 8 117), (117, s_istore 3 118), (118, s_iload 6 120), (120, s_istore 4 122), (122, s_iload 7 124), (124, s_istore 5 126), (126, s_iinc 7 1 129), (129, s_kill 74 [8] (s_goto 74)), (132, s_iinc 6 1 135), (135, s_kill 59 [7, 8] (s_goto 59)), (138, s_aload 0 139), (139, s_callV 12 237 0 0 142), (142, s_iload 4 144), (144, s_pushI (-1) 145), (145, s_icmp (fun x y => ¬ x = y) 152 148), (148, s_pushI (-1) 149), (149, s_goto 172), (152, s_iload 2 153), (153, s_if (fun x => ¬ x = 0) 161 156), (156, s_iload 4 158), (158, s_goto 172), (161, s_iload 2 162), (162, s_pushI 1 163), (163, s_icmp (fun x y => ¬ x = y) 171 166), (166, s_iload 5 168), (168, s_goto 172), (171, s_iload 3 172), (172, s_iret)]
set_option maxRecDepth 100000 in
set_option maxHeartbeats 4000000 in
theorem ok_X12_changed (l : Launch) : mm_CodeOK l mm_I0 RX12 cX12_changed 9 (some .int) cd_X12_changed := by
  intro p e R s m args below meth c Q σ cA D A kc ks d C X
  have hx := X.1
  have hb := X.2.1
  have hown := X.2.2.2.1
  have hts := X.2.2.2.2.1
  refine mm_fc (ss_aload_n hx hb (by decide +kernel : decode cX12_changed 0 = .ok (.aload_n 0, 1)) rfl) ?_
  refine mm_fc (ss_get X rfl in_X12 (by decide) rfl wd_6_99 (by decide +kernel : decode cX12_changed 1 = .ok (.getfield 375, 3))) ?_
  refine mm_fc (ss_ifeq hx hb (by decide +kernel : decode cX12_changed 4 = .ok (.ifCond .eq 26, 3)) (by decide)) ?_
  refine mm_fc (ss_aload_n hx hb (by decide +kernel : decode cX12_changed 7 = .ok (.aload_n 0, 1)) rfl) ?_
  refine mm_fc (ss_iload_n hx hb (by decide +kernel : decode cX12_changed 8 = .ok (.iload_n 1, 1)) rfl) ?_
  refine mm_fc (ss_iconst hx hb (by decide +kernel : decode cX12_changed 9 = .ok (.iconst 1, 1)) (by decide)) ?_
  refine mm_fc (ss_bipush hx hb (by decide +kernel : decode cX12_changed 10 = .ok (.bipush 20, 2)) (by decide)) ?_
  refine mm_fc (ss_callV X rfl rfl wd_8_230 wd_1_13 wd_8_227 wd_8_229 wd_p_106 (by decide +kernel) (by decide +kernel) (by decide) (by decide +kernel : decode cX12_changed 12 = .ok (.invokevirtual 524, 3))) ?_
  refine mm_fc (ss_ifeq hx hb (by decide +kernel : decode cX12_changed 15 = .ok (.ifCond .eq 15, 3)) (by decide)) ?_
  refine mm_fc (ss_iload_n hx hb (by decide +kernel : decode cX12_changed 18 = .ok (.iload_n 2, 1)) rfl) ?_
  refine mm_fc (ss_i2l hx hb (by decide +kernel : decode cX12_changed 19 = .ok (.i2l, 1))) ?_
  refine mm_fc (ss_lconst hx hb (by decide +kernel : decode cX12_changed 20 = .ok (.lconst 0, 1)) (by decide)) ?_
  refine mm_fc (ss_ldc2 hx hb hown (hts _ (mm_in wd_8_222 rfl)) (by decide +kernel : decode cX12_changed 21 = .ok (.ldc2_w 522, 3))) ?_
  refine mm_fc (ss_callS X rfl wd_7_196 wd_1_13 wd_7_194 wd_7_195 (by decide +kernel) (by decide +kernel) (by decide) (by decide +kernel : decode cX12_changed 24 = .ok (.invokestatic 280, 3))) ?_
  refine mm_fc (ss_ifne hx hb (by decide +kernel : decode cX12_changed 27 = .ok (.ifCond .ne 5, 3)) (by decide)) ?_
  refine mm_fc (ss_iconst hx hb (by decide +kernel : decode cX12_changed 30 = .ok (.iconst (-1), 1)) (by decide)) ?_
  refine mm_fc (ss_iret (by decide +kernel : decode cX12_changed 31 = .ok (.ireturn, 1)) rfl) ?_
  refine mm_fc (ss_aload_n hx hb (by decide +kernel : decode cX12_changed 32 = .ok (.aload_n 0, 1)) rfl) ?_
  refine mm_fc (ss_callV X rfl rfl wd_8_234 wd_1_13 wd_8_231 wd_8_233 wd_p_107 (by decide +kernel) (by decide +kernel) (by decide) (by decide +kernel : decode cX12_changed 33 = .ok (.invokevirtual 528, 3))) ?_
  refine mm_fc (ss_aload_n hx hb (by decide +kernel : decode cX12_changed 36 = .ok (.aload_n 0, 1)) rfl) ?_
  refine mm_fc (ss_iload_n hx hb (by decide +kernel : decode cX12_changed 37 = .ok (.iload_n 1, 1)) rfl) ?_
  refine mm_fc (ss_callV X rfl rfl wd_8_238 wd_1_13 wd_8_235 wd_8_237 wd_p_108 (by decide +kernel) (by decide +kernel) (by decide) (by decide +kernel : decode cX12_changed 38 = .ok (.invokevirtual 531, 3))) ?_
  refine mm_fc (ss_aload_n hx hb (by decide +kernel : decode cX12_changed 41 = .ok (.aload_n 0, 1)) rfl) ?_
  refine mm_fc (ss_callV X rfl rfl wd_8_165 wd_1_13 wd_8_162 wd_8_164 wd_p_99 (by decide +kernel) (by decide +kernel) (by decide) (by decide +kernel : decode cX12_changed 42 = .ok (.invokevirtual 511, 3))) ?_
  refine mm_fc (ss_istore_n hx hb (by decide +kernel : decode cX12_changed 45 = .ok (.istore_n 3, 1)) rfl (by decide)) ?_
  refine mm_fc (ss_aload_n hx hb (by decide +kernel : decode cX12_changed 46 = .ok (.aload_n 0, 1)) rfl) ?_
  refine mm_fc (ss_callV X rfl rfl wd_9_22 wd_1_13 wd_9_19 wd_9_21 wd_p_114 (by decide +kernel) (by decide +kernel) (by decide) (by decide +kernel : decode cX12_changed 47 = .ok (.invokevirtual 492, 3))) ?_
  refine mm_fc (ss_iconst hx hb (by decide +kernel : decode cX12_changed 50 = .ok (.iconst (-1), 1)) (by decide)) ?_
  refine mm_fc (ss_istore hx hb (by decide +kernel : decode cX12_changed 51 = .ok (.istore 4, 2)) (by decide)) ?_
  refine mm_fc (ss_iconst hx hb (by decide +kernel : decode cX12_changed 53 = .ok (.iconst (-1), 1)) (by decide)) ?_
  refine mm_fc (ss_istore hx hb (by decide +kernel : decode cX12_changed 54 = .ok (.istore 5, 2)) (by decide)) ?_
  refine mm_fc (ss_iconst hx hb (by decide +kernel : decode cX12_changed 56 = .ok (.iconst 0, 1)) (by decide)) ?_
  refine mm_fc (ss_kill (ss_istore hx hb (by decide +kernel : decode cX12_changed 57 = .ok (.istore 6, 2)) (by decide))) ?_
  refine mm_fc (ss_iload hx hb (by decide +kernel : decode cX12_changed 59 = .ok (.iload 6, 2))) ?_
  refine mm_fc (ss_aload_n hx hb (by decide +kernel : decode cX12_changed 61 = .ok (.aload_n 0, 1)) rfl) ?_
  refine mm_fc (ss_get X rfl in_X12 (by decide) rfl wd_6_84 (by decide +kernel : decode cX12_changed 62 = .ok (.getfield 379, 3))) ?_
  refine mm_fc (ss_icmpge hx hb (by decide +kernel : decode cX12_changed 65 = .ok (.if_icmp .ge 73, 3)) (by decide)) ?_
  refine mm_fc (ss_iload hx hb (by decide +kernel : decode cX12_changed 68 = .ok (.iload 6, 2))) ?_
  refine mm_fc (ss_iconst hx hb (by decide +kernel : decode cX12_changed 70 = .ok (.iconst 1, 1)) (by decide)) ?_
  refine mm_fc (ss_iadd hx hb (by decide +kernel : decode cX12_changed 71 = .ok (.iadd, 1))) ?_
  refine mm_fc (ss_kill (ss_istore hx hb (by decide +kernel : decode cX12_changed 72 = .ok (.istore 7, 2)) (by decide))) ?_
  refine mm_fc (ss_iload hx hb (by decide +kernel : decode cX12_changed 74 = .ok (.iload 7, 2))) ?_
  refine mm_fc (ss_aload_n hx hb (by decide +kernel : decode cX12_changed 76 = .ok (.aload_n 0, 1)) rfl) ?_
  refine mm_fc (ss_get X rfl in_X12 (by decide) rfl wd_6_84 (by decide +kernel : decode cX12_changed 77 = .ok (.getfield 379, 3))) ?_
  refine mm_fc (ss_icmpge hx hb (by decide +kernel : decode cX12_changed 80 = .ok (.if_icmp .ge 52, 3)) (by decide)) ?_
  refine mm_fc (ss_aload_n hx hb (by decide +kernel : decode cX12_changed 83 = .ok (.aload_n 0, 1)) rfl) ?_
  refine mm_fc (ss_iload hx hb (by decide +kernel : decode cX12_changed 84 = .ok (.iload 6, 2))) ?_
  refine mm_fc (ss_iload hx hb (by decide +kernel : decode cX12_changed 86 = .ok (.iload 7, 2))) ?_
  refine mm_fc (ss_callV X rfl rfl wd_9_38 wd_1_13 wd_9_35 wd_9_37 wd_p_115 (by decide +kernel) (by decide +kernel) (by decide) (by decide +kernel : decode cX12_changed 88 = .ok (.invokevirtual 537, 3))) ?_
  refine mm_fc (ss_aload_n hx hb (by decide +kernel : decode cX12_changed 91 = .ok (.aload_n 0, 1)) rfl) ?_
  refine mm_fc (ss_iload_n hx hb (by decide +kernel : decode cX12_changed 92 = .ok (.iload_n 1, 1)) rfl) ?_
  refine mm_fc (ss_callV X rfl rfl wd_8_238 wd_1_13 wd_8_235 wd_8_237 wd_p_108 (by decide +kernel) (by decide +kernel) (by decide) (by decide +kernel : decode cX12_changed 93 = .ok (.invokevirtual 531, 3))) ?_
  refine mm_fc (ss_aload_n hx hb (by decide +kernel : decode cX12_changed 96 = .ok (.aload_n 0, 1)) rfl) ?_
  refine mm_fc (ss_callV X rfl rfl wd_8_165 wd_1_13 wd_8_162 wd_8_164 wd_p_99 (by decide +kernel) (by decide +kernel) (by decide) (by decide +kernel : decode cX12_changed 97 = .ok (.invokevirtual 511, 3))) ?_
  refine mm_fc (ss_istore hx hb (by decide +kernel : decode cX12_changed 100 = .ok (.istore 8, 2)) (by decide)) ?_
  refine mm_fc (ss_aload_n hx hb (by decide +kernel : decode cX12_changed 102 = .ok (.aload_n 0, 1)) rfl) ?_
  refine mm_fc (ss_callV X rfl rfl wd_9_22 wd_1_13 wd_9_19 wd_9_21 wd_p_114 (by decide +kernel) (by decide +kernel) (by decide) (by decide +kernel : decode cX12_changed 103 = .ok (.invokevirtual 492, 3))) ?_
  refine mm_fc (ss_iload hx hb (by decide +kernel : decode cX12_changed 106 = .ok (.iload 8, 2))) ?_
  refine mm_fc (ss_iload_n hx hb (by decide +kernel : decode cX12_changed 108 = .ok (.iload_n 3, 1)) rfl) ?_
  refine mm_fc (ss_icmpgt hx hb (by decide +kernel : decode cX12_changed 109 = .ok (.if_icmp .gt 6, 3)) (by decide)) ?_
  refine mm_fc (ss_goto hx hb (by decide +kernel : decode cX12_changed 112 = .ok (.goto 14, 3)) (by decide)) ?_
  refine mm_fc (ss_iload hx hb (by decide +kernel : decode cX12_changed 115 = .ok (.iload 8, 2))) ?_
  refine mm_fc (ss_istore_n hx hb (by decide +kernel : decode cX12_changed 117 = .ok (.istore_n 3, 1)) rfl (by decide)) ?_
  refine mm_fc (ss_iload hx hb (by decide +kernel : decode cX12_changed 118 = .ok (.iload 6, 2))) ?_
  refine mm_fc (ss_istore hx hb (by decide +kernel : decode cX12_changed 120 = .ok (.istore 4, 2)) (by decide)) ?_
  refine mm_fc (ss_iload hx hb (by decide +kernel : decode cX12_changed 122 = .ok (.iload 7, 2))) ?_
  refine mm_fc (ss_istore hx hb (by decide +kernel : decode cX12_changed 124 = .ok (.istore 5, 2)) (by decide)) ?_
  refine mm_fc (ss_iinc hx hb (by decide +kernel : decode cX12_changed 126 = .ok (.iinc 7 1, 3)) (by decide) (by decide)) ?_
  refine mm_fc (ss_kill (ss_goto hx hb (by decide +kernel : decode cX12_changed 129 = .ok (.goto (-55), 3)) (by decide))) ?_
  refine mm_fc (ss_iinc hx hb (by decide +kernel : decode cX12_changed 132 = .ok (.iinc 6 1, 3)) (by decide) (by decide)) ?_
  refine mm_fc (ss_kill (ss_goto hx hb (by decide +kernel : decode cX12_changed 135 = .ok (.goto (-76), 3)) (by decide))) ?_
  refine mm_fc (ss_aload_n hx hb (by decide +kernel : decode cX12_changed 138 = .ok (.aload_n 0, 1)) rfl) ?_
  refine mm_fc (ss_callV X rfl rfl wd_9_18 wd_1_13 wd_9_15 wd_9_17 wd_p_113 (by decide +kernel) (by decide +kernel) (by decide) (by decide +kernel : decode cX12_changed 139 = .ok (.invokevirtual 534, 3))) ?_
  refine mm_fc (ss_iload hx hb (by decide +kernel : decode cX12_changed 142 = .ok (.iload 4, 2))) ?_
  refine mm_fc (ss_iconst hx hb (by decide +kernel : decode cX12_changed 144 = .ok (.iconst (-1), 1)) (by decide)) ?_
  refine mm_fc (ss_icmpne hx hb (by decide +kernel : decode cX12_changed 145 = .ok (.if_icmp .ne 7, 3)) (by decide)) ?_
  refine mm_fc (ss_iconst hx hb (by decide +kernel : decode cX12_changed 148 = .ok (.iconst (-1), 1)) (by decide)) ?_
  refine mm_fc (ss_goto hx hb (by decide +kernel : decode cX12_changed 149 = .ok (.goto 23, 3)) (by decide)) ?_
  refine mm_fc (ss_iload_n hx hb (by decide +kernel : decode cX12_changed 152 = .ok (.iload_n 2, 1)) rfl) ?_
  refine mm_fc (ss_ifne hx hb (by decide +kernel : decode cX12_changed 153 = .ok (.ifCond .ne 8, 3)) (by decide)) ?_
  refine mm_fc (ss_iload hx hb (by decide +kernel : decode cX12_changed 156 = .ok (.iload 4, 2))) ?_
  refine mm_fc (ss_goto hx hb (by decide +kernel : decode cX12_changed 158 = .ok (.goto 14, 3)) (by decide)) ?_
  refine mm_fc (ss_iload_n hx hb (by decide +kernel : decode cX12_changed 161 = .ok (.iload_n 2, 1)) rfl) ?_
  refine mm_fc (ss_iconst hx hb (by decide +kernel : decode cX12_changed 162 = .ok (.iconst 1, 1)) (by decide)) ?_
  refine mm_fc (ss_icmpne hx hb (by decide +kernel : decode cX12_changed 163 = .ok (.if_icmp .ne 8, 3)) (by decide)) ?_
  refine mm_fc (ss_iload hx hb (by decide +kernel : decode cX12_changed 166 = .ok (.iload 5, 2))) ?_
  refine mm_fc (ss_goto hx hb (by decide +kernel : decode cX12_changed 168 = .ok (.goto 4, 3)) (by decide)) ?_
  refine mm_fc (ss_iload_n hx hb (by decide +kernel : decode cX12_changed 171 = .ok (.iload_n 3, 1)) rfl) ?_
  refine mm_fc (ss_iret (by decide +kernel : decode cX12_changed 172 = .ok (.ireturn, 1)) rfl) ?_
  exact mm_fn
def cd_X12_comes : mm_K mm_H := [(0, s_aload 0 1), (1, s_get 12 43 4), (4, s_pushI 8 6), (6, s_iload 1 7), (7, s_bin (fun x y => x + y) 8), (8, s_iload 3 9), (9, s_iast 10), (10, s_aload 0 11), (11, s_get 12 44 14), (14, s_pushI 8 16), (16, s_iload 1 17), (17, s_bin (fun x y => x + y) 18), (18, s_iload 4 20), (20, s_iast 21), (21, s_aload 0 22), (22, s_get 12 55 25), (25, s_pushI 1 26), (26, s_pushI 3 27), (27, s_iload 1 28), (28, s_bin (fun x y => x * y) 29), (29, s_bin (fun x y => x + y) 30), (30, s_iload 2 31), (31, s_iast 32), (32, s_aload 0 33), (33, s_get 12 55 36), (36, s_pushI 2 37), (37, s_pushI 3 38), (38, s_iload 1 39), (39, s_bin (fun x y => x * y) 40), (40, s_bin (fun x y => x + y) 41), (41, s_pushI 10 43), (43, s_iload 3 44), (44, s_bin (fun x y => x * y) 45), (45, s_iast 46), (46, s_aload 0 47), (47, s_get 12 55 50), (50, s_pushI 3 51), (51, s_pushI 3 52), (52, s_iload 1 53), (53, s_bin (fun x y => x * y) 54), (54, s_bin (fun x y => x + y) 55), (55, s_pushI 0 56), (56, s_iast 57), (57, s_pushI 0 58), (58, s_kill 60 [2, 3, 4] (s_istore 5 60)), (60, s_iload 5 62), (62, s_pushI 8 64), (64, s_icmp (fun x y => y ≤ x) 105 67), (67, s_aload 0 68), (68, s_get 12 55 71), (71, s_pushI 25 73), (73, s_pushI 8 75), (75, s_iload 1 76), (76, s_bin (fun x y => x * y) 77), (77, s_bin (fun x y => x + y) 78), (78, s_iload 5 80), (80, s_bin (fun x y => x + y) 81), (81, s_pushI 5 82), (82, s_iast 83), (83, s_aload 0 84), (84, s_get 12 55 87), (87, s_pushI 25 89), (89, s_pushI 8 91), (91, s_iload 5 93), (93, s_bin (fun x y => x * y) 94), (94, s_bin (fun x y => x + y) 95), (95, s_iload 1 96), (96, s_bin (fun x y => x + y) 97), (97, s_pushI 5 98), (98, s_iast 99), (99, s_iinc 5 1 102), (102, s_kill 60 [2, 3, 4] (s_goto 60)), (105, s_vret)]
set_option maxRecDepth 100000 in
set_option maxHeartbeats 4000000 in
theorem ok_X12_comes (l : Launch) : mm_CodeOK l mm_I0 RX12 cX12_comes 6 none cd_X12_comes := by
  intro p e R s m args below meth c Q σ cA D A kc ks d C X
  have hx := X.1
  have hb := X.2.1
  have hown := X.2.2.2.1
  have hts := X.2.2.2.2.1
  refine mm_fc (ss_aload_n hx hb (by decide +kernel : decode cX12_comes 0 = .ok (.aload_n 0, 1)) rfl) ?_
  refine mm_fc (ss_get X rfl in_X12 (by decide) rfl wd_6_89 (by decide +kernel : decode cX12_comes 1 = .ok (.getfield 103, 3))) ?_
  refine mm_fc (ss_bipush hx hb (by decide +kernel : decode cX12_comes 4 = .ok (.bipush 8, 2)) (by decide)) ?_
  refine mm_fc (ss_iload_n hx hb (by decide +kernel : decode cX12_comes 6 = .ok (.iload_n 1, 1)) rfl) ?_
  refine mm_fc (ss_iadd hx hb (by decide +kernel : decode cX12_comes 7 = .ok (.iadd, 1))) ?_
  refine mm_fc (ss_iload_n hx hb (by decide +kernel : decode cX12_comes 8 = .ok (.iload_n 3, 1)) rfl) ?_
  refine mm_fc (ss_iast X (by decide +kernel : decode cX12_comes 9 = .ok (.iastore, 1))) ?_
  refine mm_fc (ss_aload_n hx hb (by decide +kernel : decode cX12_comes 10 = .ok (.aload_n 0, 1)) rfl) ?_
  refine mm_fc (ss_get X rfl in_X12 (by decide) rfl wd_6_90 (by decide +kernel : decode cX12_comes 11 = .ok (.getfield 106, 3))) ?_
  refine mm_fc (ss_bipush hx hb (by decide +kernel : decode cX12_comes 14 = .ok (.bipush 8, 2)) (by decide)) ?_
  refine mm_fc (ss_iload_n hx hb (by decide +kernel : decode cX12_comes 16 = .ok (.iload_n 1, 1)) rfl) ?_
  refine mm_fc (ss_iadd hx hb (by decide +kernel : decode cX12_comes 17 = .ok (.iadd, 1))) ?_
  refine mm_fc (ss_iload hx hb (by decide +kernel : decode cX12_comes 18 = .ok (.iload 4, 2))) ?_
  refine mm_fc (ss_iast X (by decide +kernel : decode cX12_comes 20 = .ok (.iastore, 1))) ?_
  refine mm_fc (ss_aload_n hx hb (by decide +kernel : decode cX12_comes 21 = .ok (.aload_n 0, 1)) rfl) ?_
  refine mm_fc (ss_get X rfl in_X12 (by decide) rfl wd_6_101 (by decide +kernel : decode cX12_comes 22 = .ok (.getfield 121, 3))) ?_
  refine mm_fc (ss_iconst hx hb (by decide +kernel : decode cX12_comes 25 = .ok (.iconst 1, 1)) (by decide)) ?_
  refine mm_fc (ss_iconst hx hb (by decide +kernel : decode cX12_comes 26 = .ok (.iconst 3, 1)) (by decide)) ?_
  refine mm_fc (ss_iload_n hx hb (by decide +kernel : decode cX12_comes 27 = .ok (.iload_n 1, 1)) rfl) ?_
  refine mm_fc (ss_imul hx hb (by decide +kernel : decode cX12_comes 28 = .ok (.imul, 1))) ?_
  refine mm_fc (ss_iadd hx hb (by decide +kernel : decode cX12_comes 29 = .ok (.iadd, 1))) ?_
  refine mm_fc (ss_iload_n hx hb (by decide +kernel : decode cX12_comes 30 = .ok (.iload_n 2, 1)) rfl) ?_
  refine mm_fc (ss_iast X (by decide +kernel : decode cX12_comes 31 = .ok (.iastore, 1))) ?_
  refine mm_fc (ss_aload_n hx hb (by decide +kernel : decode cX12_comes 32 = .ok (.aload_n 0, 1)) rfl) ?_
  refine mm_fc (ss_get X rfl in_X12 (by decide) rfl wd_6_101 (by decide +kernel : decode cX12_comes 33 = .ok (.getfield 121, 3))) ?_
  refine mm_fc (ss_iconst hx hb (by decide +kernel : decode cX12_comes 36 = .ok (.iconst 2, 1)) (by decide)) ?_
  refine mm_fc (ss_iconst hx hb (by decide +kernel : decode cX12_comes 37 = .ok (.iconst 3, 1)) (by decide)) ?_
  refine mm_fc (ss_iload_n hx hb (by decide +kernel : decode cX12_comes 38 = .ok (.iload_n 1, 1)) rfl) ?_
  refine mm_fc (ss_imul hx hb (by decide +kernel : decode cX12_comes 39 = .ok (.imul, 1))) ?_
  refine mm_fc (ss_iadd hx hb (by decide +kernel : decode cX12_comes 40 = .ok (.iadd, 1))) ?_
  refine mm_fc (ss_bipush hx hb (by decide +kernel : decode cX12_comes 41 = .ok (.bipush 10, 2)) (by decide)) ?_
  refine mm_fc (ss_iload_n hx hb (by decide +kernel : decode cX12_comes 43 = .ok (.iload_n 3, 1)) rfl) ?_
  refine mm_fc (ss_imul hx hb (by decide +kernel : decode cX12_comes 44 = .ok (.imul, 1))) ?_
  refine mm_fc (ss_iast X (by decide +kernel : decode cX12_comes 45 = .ok (.iastore, 1))) ?_
  refine mm_fc (ss_aload_n hx hb (by decide +kernel : decode cX12_comes 46 = .ok (.aload_n 0, 1)) rfl) ?_
  refine mm_fc (ss_get X rfl in_X12 (by decide) rfl wd_6_101 (by decide +kernel : decode cX12_comes 47 = .ok (.getfield 121, 3))) ?_
  refine mm_fc (ss_iconst hx hb (by decide +kernel : decode cX12_comes 50 = .ok (.iconst 3, 1)) (by decide)) ?_
  refine mm_fc (ss_iconst hx hb (by decide +kernel : decode cX12_comes 51 = .ok (.iconst 3, 1)) (by decide)) ?_
  refine mm_fc (ss_iload_n hx hb (by decide +kernel : decode cX12_comes 52 = .ok (.iload_n 1, 1)) rfl) ?_
  refine mm_fc (ss_imul hx hb (by decide +kernel : decode cX12_comes 53 = .ok (.imul, 1))) ?_
  refine mm_fc (ss_iadd hx hb (by decide +kernel : decode cX12_comes 54 = .ok (.iadd, 1))) ?_
  refine mm_fc (ss_iconst hx hb (by decide +kernel : decode cX12_comes 55 = .ok (.iconst 0, 1)) (by decide)) ?_
  refine mm_fc (ss_iast X (by decide +kernel : decode cX12_comes 56 = .ok (.iastore, 1))) ?_
  refine mm_fc (ss_iconst hx hb (by decide +kernel : decode cX12_comes 57 = .ok (.iconst 0, 1)) (by decide)) ?_
  refine mm_fc (ss_kill (ss_istore hx hb (by decide +kernel : decode cX12_comes 58 = .ok (.istore 5, 2)) (by decide))) ?_
  refine mm_fc (ss_iload hx hb (by decide +kernel : decode cX12_comes 60 = .ok (.iload 5, 2))) ?_
  refine mm_fc (ss_bipush hx hb (by decide +kernel : decode cX12_comes 62 = .ok (.bipush 8, 2)) (by decide)) ?_
  refine mm_fc (ss_icmpge hx hb (by decide +kernel : decode cX12_comes 64 = .ok (.if_icmp .ge 41, 3)) (by decide)) ?_
  refine mm_fc (ss_aload_n hx hb (by decide +kernel : decode cX12_comes 67 = .ok (.aload_n 0, 1)) rfl) ?_
  refine mm_fc (ss_get X rfl in_X12 (by decide) rfl wd_6_101 (by decide +kernel : decode cX12_comes 68 = .ok (.getfield 121, 3))) ?_
  refine mm_fc (ss_bipush hx hb (by decide +kernel : decode cX12_comes 71 = .ok (.bipush 25, 2)) (by decide)) ?_
  refine mm_fc (ss_bipush hx hb (by decide +kernel : decode cX12_comes 73 = .ok (.bipush 8, 2)) (by decide)) ?_
  refine mm_fc (ss_iload_n hx hb (by decide +kernel : decode cX12_comes 75 = .ok (.iload_n 1, 1)) rfl) ?_
  refine mm_fc (ss_imul hx hb (by decide +kernel : decode cX12_comes 76 = .ok (.imul, 1))) ?_
  refine mm_fc (ss_iadd hx hb (by decide +kernel : decode cX12_comes 77 = .ok (.iadd, 1))) ?_
  refine mm_fc (ss_iload hx hb (by decide +kernel : decode cX12_comes 78 = .ok (.iload 5, 2))) ?_
  refine mm_fc (ss_iadd hx hb (by decide +kernel : decode cX12_comes 80 = .ok (.iadd, 1))) ?_
  refine mm_fc (ss_iconst hx hb (by decide +kernel : decode cX12_comes 81 = .ok (.iconst 5, 1)) (by decide)) ?_
  refine mm_fc (ss_iast X (by decide +kernel : decode cX12_comes 82 = .ok (.iastore, 1))) ?_
  refine mm_fc (ss_aload_n hx hb (by decide +kernel : decode cX12_comes 83 = .ok (.aload_n 0, 1)) rfl) ?_
  refine mm_fc (ss_get X rfl in_X12 (by decide) rfl wd_6_101 (by decide +kernel : decode cX12_comes 84 = .ok (.getfield 121, 3))) ?_
  refine mm_fc (ss_bipush hx hb (by decide +kernel : decode cX12_comes 87 = .ok (.bipush 25, 2)) (by decide)) ?_
  refine mm_fc (ss_bipush hx hb (by decide +kernel : decode cX12_comes 89 = .ok (.bipush 8, 2)) (by decide)) ?_
  refine mm_fc (ss_iload hx hb (by decide +kernel : decode cX12_comes 91 = .ok (.iload 5, 2))) ?_
  refine mm_fc (ss_imul hx hb (by decide +kernel : decode cX12_comes 93 = .ok (.imul, 1))) ?_
  refine mm_fc (ss_iadd hx hb (by decide +kernel : decode cX12_comes 94 = .ok (.iadd, 1))) ?_
  refine mm_fc (ss_iload_n hx hb (by decide +kernel : decode cX12_comes 95 = .ok (.iload_n 1, 1)) rfl) ?_
  refine mm_fc (ss_iadd hx hb (by decide +kernel : decode cX12_comes 96 = .ok (.iadd, 1))) ?_
  refine mm_fc (ss_iconst hx hb (by decide +kernel : decode cX12_comes 97 = .ok (.iconst 5, 1)) (by decide)) ?_
  refine mm_fc (ss_iast X (by decide +kernel : decode cX12_comes 98 = .ok (.iastore, 1))) ?_
  refine mm_fc (ss_iinc hx hb (by decide +kernel : decode cX12_comes 99 = .ok (.iinc 5 1, 3)) (by decide) (by decide)) ?_
  refine mm_fc (ss_kill (ss_goto hx hb (by decide +kernel : decode cX12_comes 102 = .ok (.goto (-42), 3)) (by decide))) ?_
  refine mm_fc (ss_vret (by decide +kernel : decode cX12_comes 105 = .ok (.return_, 1)) rfl) ?_
  exact mm_fn
