def cd_X6_numberFrom : mm_K mm_H := [(0, s_iload 2 1), (1, s_iload 1 2), (2, s_pushI 4 3), (3, s_bin (fun x y => x + y) 4), (4, s_callS 11 2 1 7), (7, s_istore 3 8), (8, s_pushI 0 9), (9, s_istore 4 11), (11, s_iload 1 12), (12, s_kill 14 [1, 2] (s_istore 5 14)), (14, s_iload 5 16), (16, s_iload 3 17), (17, s_icmp (fun x y => y ≤ x) 46 20), (20, s_pushI 10 22), (22, s_iload 4 24), (24, s_bin (fun x y => x * y) 25), (25, s_aload 0 26), (26, s_get 6 0 29), (29, s_iload 5 31), (31, s_callV 8 126 1 1 34), (34, s_bin (fun x y => x + y) 35), (35, s_pushI 48 37), (37, s_bin (fun x y => x - y) 38), (38, s_istore 4 40), (40, s_iinc 5 1 43), (43, s_kill 14 [1, 2] (s_goto 14)), (46, s_iload 4 48), (48, s_iret)]
set_option maxRecDepth 100000 in
set_option maxHeartbeats 4000000 in
theorem ok_X6_numberFrom (l : Launch) : mm_CodeOK l mm_I0 RX6 cX6_numberFrom 6 (some .int) cd_X6_numberFrom := by
  intro p e R s m args below meth c Q σ cA D A kc ks d C X
  have hx := X.1
  have hb := X.2.1
  have hown := X.2.2.2.1
  have hts := X.2.2.2.2.1
  refine mm_fc (ss_iload_n hx hb (by decide +kernel : decode cX6_numberFrom 0 = .ok (.iload_n 2, 1)) rfl) ?_
  refine mm_fc (ss_iload_n hx hb (by decide +kernel : decode cX6_numberFrom 1 = .ok (.iload_n 1, 1)) rfl) ?_
  refine mm_fc (ss_iconst hx hb (by decide +kernel : decode cX6_numberFrom 2 = .ok (.iconst 4, 1)) (by decide)) ?_
  refine mm_fc (ss_iadd hx hb (by decide +kernel : decode cX6_numberFrom 3 = .ok (.iadd, 1))) ?_
  refine mm_fc (ss_callS X rfl wd_2_162 wd_1_14 wd_3_33 wd_2_161 (by decide +kernel) (by decide +kernel) (by decide) (by decide +kernel : decode cX6_numberFrom 4 = .ok (.invokestatic 102, 3))) ?_
  refine mm_fc (ss_istore_n hx hb (by decide +kernel : decode cX6_numberFrom 7 = .ok (.istore_n 3, 1)) rfl (by decide)) ?_
  refine mm_fc (ss_iconst hx hb (by decide +kernel : decode cX6_numberFrom 8 = .ok (.iconst 0, 1)) (by decide)) ?_
  refine mm_fc (ss_istore hx hb (by decide +kernel : decode cX6_numberFrom 9 = .ok (.istore 4, 2)) (by decide)) ?_
  refine mm_fc (ss_iload_n hx hb (by decide +kernel : decode cX6_numberFrom 11 = .ok (.iload_n 1, 1)) rfl) ?_
  refine mm_fc (ss_kill (ss_istore hx hb (by decide +kernel : decode cX6_numberFrom 12 = .ok (.istore 5, 2)) (by decide))) ?_
  refine mm_fc (ss_iload hx hb (by decide +kernel : decode cX6_numberFrom 14 = .ok (.iload 5, 2))) ?_
  refine mm_fc (ss_iload_n hx hb (by decide +kernel : decode cX6_numberFrom 16 = .ok (.iload_n 3, 1)) rfl) ?_
  refine mm_fc (ss_icmpge hx hb (by decide +kernel : decode cX6_numberFrom 17 = .ok (.if_icmp .ge 29, 3)) (by decide)) ?_
  refine mm_fc (ss_bipush hx hb (by decide +kernel : decode cX6_numberFrom 20 = .ok (.bipush 10, 2)) (by decide)) ?_
  refine mm_fc (ss_iload hx hb (by decide +kernel : decode cX6_numberFrom 22 = .ok (.iload 4, 2))) ?_
  refine mm_fc (ss_imul hx hb (by decide +kernel : decode cX6_numberFrom 24 = .ok (.imul, 1))) ?_
  refine mm_fc (ss_aload_n hx hb (by decide +kernel : decode cX6_numberFrom 25 = .ok (.aload_n 0, 1)) rfl) ?_
  refine mm_fc (ss_get X rfl in_X6 (by decide) rfl wd_1_49 (by decide +kernel : decode cX6_numberFrom 26 = .ok (.getfield 30, 3))) ?_
  refine mm_fc (ss_iload hx hb (by decide +kernel : decode cX6_numberFrom 29 = .ok (.iload 5, 2))) ?_
  refine mm_fc (ss_callV X rfl rfl wd_2_198 wd_1_2 wd_2_195 wd_2_196 wd_2_197 (by decide +kernel) (by decide +kernel) (by decide) (by decide +kernel : decode cX6_numberFrom 31 = .ok (.invokevirtual 41, 3))) ?_
  refine mm_fc (ss_iadd hx hb (by decide +kernel : decode cX6_numberFrom 34 = .ok (.iadd, 1))) ?_
  refine mm_fc (ss_bipush hx hb (by decide +kernel : decode cX6_numberFrom 35 = .ok (.bipush 48, 2)) (by decide)) ?_
  refine mm_fc (ss_isub hx hb (by decide +kernel : decode cX6_numberFrom 37 = .ok (.isub, 1))) ?_
  refine mm_fc (ss_istore hx hb (by decide +kernel : decode cX6_numberFrom 38 = .ok (.istore 4, 2)) (by decide)) ?_
  refine mm_fc (ss_iinc hx hb (by decide +kernel : decode cX6_numberFrom 40 = .ok (.iinc 5 1, 3)) (by decide) (by decide)) ?_
  refine mm_fc (ss_kill (ss_goto hx hb (by decide +kernel : decode cX6_numberFrom 43 = .ok (.goto (-29), 3)) (by decide))) ?_
  refine mm_fc (ss_iload hx hb (by decide +kernel : decode cX6_numberFrom 46 = .ok (.iload 4, 2))) ?_
  refine mm_fc (ss_iret (by decide +kernel : decode cX6_numberFrom 48 = .ok (.ireturn, 1)) rfl) ?_
  exact mm_fn
def cd_X6_isBlank : mm_K mm_H := [(0, s_iload 0 1), (1, s_pushI 10 3), (3, s_icmp (fun x y => x = y) 12 6), (6, s_iload 0 7), (7, s_pushI 32 9), (9, s_icmp (fun x y => ¬ x = y) 16 12), (12, s_pushI 1 13), (13, s_goto 17), (16, s_pushI 0 17), (17, s_zret)]
set_option maxRecDepth 100000 in
set_option maxHeartbeats 4000000 in
theorem ok_X6_isBlank (l : Launch) : mm_CodeOK l mm_I0 RX6 cX6_isBlank 1 (some .boolean) cd_X6_isBlank := by
  intro p e R s m args below meth c Q σ cA D A kc ks d C X
  have hx := X.1
  have hb := X.2.1
  have hown := X.2.2.2.1
  have hts := X.2.2.2.2.1
  refine mm_fc (ss_iload_n hx hb (by decide +kernel : decode cX6_isBlank 0 = .ok (.iload_n 0, 1)) rfl) ?_
  refine mm_fc (ss_bipush hx hb (by decide +kernel : decode cX6_isBlank 1 = .ok (.bipush 10, 2)) (by decide)) ?_
  refine mm_fc (ss_icmpeq hx hb (by decide +kernel : decode cX6_isBlank 3 = .ok (.if_icmp .eq 9, 3)) (by decide)) ?_
  refine mm_fc (ss_iload_n hx hb (by decide +kernel : decode cX6_isBlank 6 = .ok (.iload_n 0, 1)) rfl) ?_
  refine mm_fc (ss_bipush hx hb (by decide +kernel : decode cX6_isBlank 7 = .ok (.bipush 32, 2)) (by decide)) ?_
  refine mm_fc (ss_icmpne hx hb (by decide +kernel : decode cX6_isBlank 9 = .ok (.if_icmp .ne 7, 3)) (by decide)) ?_
  refine mm_fc (ss_iconst hx hb (by decide +kernel : decode cX6_isBlank 12 = .ok (.iconst 1, 1)) (by decide)) ?_
  refine mm_fc (ss_goto hx hb (by decide +kernel : decode cX6_isBlank 13 = .ok (.goto 4, 3)) (by decide)) ?_
  refine mm_fc (ss_iconst hx hb (by decide +kernel : decode cX6_isBlank 16 = .ok (.iconst 0, 1)) (by decide)) ?_
  refine mm_fc (ss_zret (by decide +kernel : decode cX6_isBlank 17 = .ok (.ireturn, 1)) rfl) ?_
  exact mm_fn
def cd_X6_isLetter : mm_K mm_H := [(0, s_iload 0 1), (1, s_pushI 97 3), (3, s_icmp (fun x y => x < y) 16 6), (6, s_iload 0 7), (7, s_pushI 122 9), (9, s_icmp (fun x y => y < x) 16 12), (12, s_pushI 1 13), (13, s_goto 17), (16, s_pushI 0 17), (17, s_zret)]
set_option maxRecDepth 100000 in
set_option maxHeartbeats 4000000 in
theorem ok_X6_isLetter (l : Launch) : mm_CodeOK l mm_I0 RX6 cX6_isLetter 1 (some .boolean) cd_X6_isLetter := by
  intro p e R s m args below meth c Q σ cA D A kc ks d C X
  have hx := X.1
  have hb := X.2.1
  have hown := X.2.2.2.1
  have hts := X.2.2.2.2.1
  refine mm_fc (ss_iload_n hx hb (by decide +kernel : decode cX6_isLetter 0 = .ok (.iload_n 0, 1)) rfl) ?_
  refine mm_fc (ss_bipush hx hb (by decide +kernel : decode cX6_isLetter 1 = .ok (.bipush 97, 2)) (by decide)) ?_
  refine mm_fc (ss_icmplt hx hb (by decide +kernel : decode cX6_isLetter 3 = .ok (.if_icmp .lt 13, 3)) (by decide)) ?_
  refine mm_fc (ss_iload_n hx hb (by decide +kernel : decode cX6_isLetter 6 = .ok (.iload_n 0, 1)) rfl) ?_
  refine mm_fc (ss_bipush hx hb (by decide +kernel : decode cX6_isLetter 7 = .ok (.bipush 122, 2)) (by decide)) ?_
  refine mm_fc (ss_icmpgt hx hb (by decide +kernel : decode cX6_isLetter 9 = .ok (.if_icmp .gt 7, 3)) (by decide)) ?_
  refine mm_fc (ss_iconst hx hb (by decide +kernel : decode cX6_isLetter 12 = .ok (.iconst 1, 1)) (by decide)) ?_
  refine mm_fc (ss_goto hx hb (by decide +kernel : decode cX6_isLetter 13 = .ok (.goto 4, 3)) (by decide)) ?_
  refine mm_fc (ss_iconst hx hb (by decide +kernel : decode cX6_isLetter 16 = .ok (.iconst 0, 1)) (by decide)) ?_
  refine mm_fc (ss_zret (by decide +kernel : decode cX6_isLetter 17 = .ok (.ireturn, 1)) rfl) ?_
  exact mm_fn
def cd_X6_isDigit : mm_K mm_H := [(0, s_iload 0 1), (1, s_pushI 48 3), (3, s_icmp (fun x y => x < y) 16 6), (6, s_iload 0 7), (7, s_pushI 57 9), (9, s_icmp (fun x y => y < x) 16 12), (12, s_pushI 1 13), (13, s_goto 17), (16, s_pushI 0 17), (17, s_zret)]
set_option maxRecDepth 100000 in
set_option maxHeartbeats 4000000 in
theorem ok_X6_isDigit (l : Launch) : mm_CodeOK l mm_I0 RX6 cX6_isDigit 1 (some .boolean) cd_X6_isDigit := by
  intro p e R s m args below meth c Q σ cA D A kc ks d C X
  have hx := X.1
  have hb := X.2.1
  have hown := X.2.2.2.1
  have hts := X.2.2.2.2.1
  refine mm_fc (ss_iload_n hx hb (by decide +kernel : decode cX6_isDigit 0 = .ok (.iload_n 0, 1)) rfl) ?_
  refine mm_fc (ss_bipush hx hb (by decide +kernel : decode cX6_isDigit 1 = .ok (.bipush 48, 2)) (by decide)) ?_
  refine mm_fc (ss_icmplt hx hb (by decide +kernel : decode cX6_isDigit 3 = .ok (.if_icmp .lt 13, 3)) (by decide)) ?_
  refine mm_fc (ss_iload_n hx hb (by decide +kernel : decode cX6_isDigit 6 = .ok (.iload_n 0, 1)) rfl) ?_
  refine mm_fc (ss_bipush hx hb (by decide +kernel : decode cX6_isDigit 7 = .ok (.bipush 57, 2)) (by decide)) ?_
  refine mm_fc (ss_icmpgt hx hb (by decide +kernel : decode cX6_isDigit 9 = .ok (.if_icmp .gt 7, 3)) (by decide)) ?_
  refine mm_fc (ss_iconst hx hb (by decide +kernel : decode cX6_isDigit 12 = .ok (.iconst 1, 1)) (by decide)) ?_
  refine mm_fc (ss_goto hx hb (by decide +kernel : decode cX6_isDigit 13 = .ok (.goto 4, 3)) (by decide)) ?_
  refine mm_fc (ss_iconst hx hb (by decide +kernel : decode cX6_isDigit 16 = .ok (.iconst 0, 1)) (by decide)) ?_
  refine mm_fc (ss_zret (by decide +kernel : decode cX6_isDigit 17 = .ok (.ireturn, 1)) rfl) ?_
  exact mm_fn
def cd_X7_clear : mm_K mm_H := [(0, s_aload 0 1), (1, s_pushI 0 2), (2, s_putI 7 8 5), (5, s_aload 0 6), (6, s_pushI 0 7), (7, s_putI 7 9 10), (10, s_aload 0 11), (11, s_pushI 0 12), (12, s_putI 7 10 15), (15, s_aload 0 16), (16, s_pushI 0 17), (17, s_putI 7 11 20), (20, s_pushI 0 21), (21, s_istore 1 22), (22, s_iload 1 23), (23, s_pushI 9 25), (25, s_icmp (fun x y => y ≤ x) 41 28), (28, s_aload 0 29), (29, s_get 7 6 32), (32, s_iload 1 33), (33, s_pushI (-1) 34), (34, s_iast 35), (35, s_iinc 1 1 38), (38, s_goto 22), (41, s_vret)]
set_option maxRecDepth 100000 in
set_option maxHeartbeats 4000000 in
theorem ok_X7_clear (l : Launch) : mm_CodeOK l mm_I0 RX7 cX7_clear 2 none cd_X7_clear := by
  intro p e R s m args below meth c Q σ cA D A kc ks d C X
  have hx := X.1
  have hb := X.2.1
  have hown := X.2.2.2.1
  have hts := X.2.2.2.2.1
  refine mm_fc (ss_aload_n hx hb (by decide +kernel : decode cX7_clear 0 = .ok (.aload_n 0, 1)) rfl) ?_
  refine mm_fc (ss_iconst hx hb (by decide +kernel : decode cX7_clear 1 = .ok (.iconst 0, 1)) (by decide)) ?_
  refine mm_fc (ss_putI X rfl in_X7 tyX7_ok nmX7 (by decide) rfl rfl rfl rfl wd_1_161 (by decide +kernel : decode cX7_clear 2 = .ok (.putfield 36, 3))) ?_
  refine mm_fc (ss_aload_n hx hb (by decide +kernel : decode cX7_clear 5 = .ok (.aload_n 0, 1)) rfl) ?_
  refine mm_fc (ss_iconst hx hb (by decide +kernel : decode cX7_clear 6 = .ok (.iconst 0, 1)) (by decide)) ?_
  refine mm_fc (ss_putI X rfl in_X7 tyX7_ok nmX7 (by decide) rfl rfl rfl rfl wd_1_164 (by decide +kernel : decode cX7_clear 7 = .ok (.putfield 40, 3))) ?_
  refine mm_fc (ss_aload_n hx hb (by decide +kernel : decode cX7_clear 10 = .ok (.aload_n 0, 1)) rfl) ?_
  refine mm_fc (ss_iconst hx hb (by decide +kernel : decode cX7_clear 11 = .ok (.iconst 0, 1)) (by decide)) ?_
  refine mm_fc (ss_putI X rfl in_X7 tyX7_ok nmX7 (by decide) rfl rfl rfl rfl wd_1_170 (by decide +kernel : decode cX7_clear 12 = .ok (.putfield 43, 3))) ?_
  refine mm_fc (ss_aload_n hx hb (by decide +kernel : decode cX7_clear 15 = .ok (.aload_n 0, 1)) rfl) ?_
  refine mm_fc (ss_iconst hx hb (by decide +kernel : decode cX7_clear 16 = .ok (.iconst 0, 1)) (by decide)) ?_
  refine mm_fc (ss_putI X rfl in_X7 tyX7_ok nmX7 (by decide) rfl rfl rfl rfl wd_1_177 (by decide +kernel : decode cX7_clear 17 = .ok (.putfield 46, 3))) ?_
  refine mm_fc (ss_iconst hx hb (by decide +kernel : decode cX7_clear 20 = .ok (.iconst 0, 1)) (by decide)) ?_
  refine mm_fc (ss_istore_n hx hb (by decide +kernel : decode cX7_clear 21 = .ok (.istore_n 1, 1)) rfl (by decide)) ?_
  refine mm_fc (ss_iload_n hx hb (by decide +kernel : decode cX7_clear 22 = .ok (.iload_n 1, 1)) rfl) ?_
  refine mm_fc (ss_bipush hx hb (by decide +kernel : decode cX7_clear 23 = .ok (.bipush 9, 2)) (by decide)) ?_
  refine mm_fc (ss_icmpge hx hb (by decide +kernel : decode cX7_clear 25 = .ok (.if_icmp .ge 16, 3)) (by decide)) ?_
  refine mm_fc (ss_aload_n hx hb (by decide +kernel : decode cX7_clear 28 = .ok (.aload_n 0, 1)) rfl) ?_
  refine mm_fc (ss_get X rfl in_X7 (by decide) rfl wd_1_159 (by decide +kernel : decode cX7_clear 29 = .ok (.getfield 30, 3))) ?_
  refine mm_fc (ss_iload_n hx hb (by decide +kernel : decode cX7_clear 32 = .ok (.iload_n 1, 1)) rfl) ?_
  refine mm_fc (ss_iconst hx hb (by decide +kernel : decode cX7_clear 33 = .ok (.iconst (-1), 1)) (by decide)) ?_
  refine mm_fc (ss_iast X (by decide +kernel : decode cX7_clear 34 = .ok (.iastore, 1))) ?_
  refine mm_fc (ss_iinc hx hb (by decide +kernel : decode cX7_clear 35 = .ok (.iinc 1 1, 3)) (by decide) (by decide)) ?_
  refine mm_fc (ss_goto hx hb (by decide +kernel : decode cX7_clear 38 = .ok (.goto (-16), 3)) (by decide)) ?_
  refine mm_fc (ss_vret (by decide +kernel : decode cX7_clear 41 = .ok (.return_, 1)) rfl) ?_
  exact mm_fn
def cd_X7_copyFrom : mm_K mm_H := [(0, s_aload 1 1), (1, s_get 7 0 4), (4, s_pushI 0 5), (5, s_aload 0 6), (6, s_get 7 0 9), (9, s_pushI 0 10), (10, s_pushI 8 12), (12, s_copy 15), (15, s_aload 1 16), (16, s_get 7 1 19), (19, s_pushI 0 20), (20, s_aload 0 21), (21, s_get 7 1 24), (24, s_pushI 0 25), (25, s_pushI 8 27), (27, s_copy 30), (30, s_aload 1 31), (31, s_get 7 2 34), (34, s_pushI 0 35), (35, s_aload 0 36), (36, s_get 7 2 39), (39, s_pushI 0 40), (40, s_pushI 8 42), (42, s_copy 45), (45, s_aload 1 46), (46, s_get 7 3 49), (49, s_pushI 0 50), (50, s_aload 0 51), (51, s_get 7 3 54), (54, s_pushI 0 55), (55, s_pushI 8 57), (57, s_copy 60), (60, s_aload 1 61), (61, s_get 7 4 64), (64, s_pushI 0 65), (65, s_aload 0 66), (66, s_get 7 4 69), (69, s_pushI 0 70), (70, s_pushI 8 72), (72, s_copy 75), (75, s_aload 1 76), (76, s_get 7 5 79), (79, s_pushI 0 80), (80, s_aload 0 81), (81, s_get 7 5 84), (84, s_pushI 0 85), (85, s_pushI 64 87), (87, s_copy 90), (90, s_aload 1 91), (91, s_get 7 6 94), (94, s_pushI 0 95), (95, s_aload 0 96), (96, s_get 7 6 99), (99, s_pushI 0 100), (100, s_pushI 9 102), (102, s_copy 105), (105, s_aload 1 106), (106, s_get 7 7 109), (109, s_pushI 0 110), (110, s_aload 0 111), (111, s_get 7 7 114), (114, s_pushI 0 115), (115, s_pushI 40 117), (117, s_copy 120), (120, s_aload 0 121), (121, s_aload 1 122), (122, s_get 7 8 125), (125, s_putI 7 8 128), (128, s_aload 0 129), (129, s_aload 1 130), (130, s_get 7 9 133), (133, s_putI 7 9 136), (136, s_aload 0 137), (137, s_aload 1 138), (138, s_get 7 10 141), (141, s_putI 7 10 144), (144, s_aload 0 145), (145, s_aload 1 146), (146, s_get 7 11 149), (149, s_putI 7 11 152), (152, s_vret)]
set_option maxRecDepth 100000 in
set_option maxHeartbeats 4000000 in
theorem ok_X7_copyFrom (l : Launch) : mm_CodeOK l mm_I0 RX7 cX7_copyFrom 2 none cd_X7_copyFrom := by
  intro p e R s m args below meth c Q σ cA D A kc ks d C X
  have hx := X.1
  have hb := X.2.1
  have hown := X.2.2.2.1
  have hts := X.2.2.2.2.1
  refine mm_fc (ss_aload_n hx hb (by decide +kernel : decode cX7_copyFrom 0 = .ok (.aload_n 1, 1)) rfl) ?_
  refine mm_fc (ss_get X rfl in_X7 (by decide) rfl wd_1_153 (by decide +kernel : decode cX7_copyFrom 1 = .ok (.getfield 9, 3))) ?_
  refine mm_fc (ss_iconst hx hb (by decide +kernel : decode cX7_copyFrom 4 = .ok (.iconst 0, 1)) (by decide)) ?_
  refine mm_fc (ss_aload_n hx hb (by decide +kernel : decode cX7_copyFrom 5 = .ok (.aload_n 0, 1)) rfl) ?_
  refine mm_fc (ss_get X rfl in_X7 (by decide) rfl wd_1_153 (by decide +kernel : decode cX7_copyFrom 6 = .ok (.getfield 9, 3))) ?_
  refine mm_fc (ss_iconst hx hb (by decide +kernel : decode cX7_copyFrom 9 = .ok (.iconst 0, 1)) (by decide)) ?_
  refine mm_fc (ss_bipush hx hb (by decide +kernel : decode cX7_copyFrom 10 = .ok (.bipush 8, 2)) (by decide)) ?_
  refine mm_fc (ss_copy X wd_4_15 wd_4_17 wd_4_16 wd_1_19 (by decide +kernel : decode cX7_copyFrom 12 = .ok (.invokestatic 49, 3))) ?_
  refine mm_fc (ss_aload_n hx hb (by decide +kernel : decode cX7_copyFrom 15 = .ok (.aload_n 1, 1)) rfl) ?_
  refine mm_fc (ss_get X rfl in_X7 (by decide) rfl wd_1_154 (by decide +kernel : decode cX7_copyFrom 16 = .ok (.getfield 15, 3))) ?_
  refine mm_fc (ss_iconst hx hb (by decide +kernel : decode cX7_copyFrom 19 = .ok (.iconst 0, 1)) (by decide)) ?_
  refine mm_fc (ss_aload_n hx hb (by decide +kernel : decode cX7_copyFrom 20 = .ok (.aload_n 0, 1)) rfl) ?_
  refine mm_fc (ss_get X rfl in_X7 (by decide) rfl wd_1_154 (by decide +kernel : decode cX7_copyFrom 21 = .ok (.getfield 15, 3))) ?_
  refine mm_fc (ss_iconst hx hb (by decide +kernel : decode cX7_copyFrom 24 = .ok (.iconst 0, 1)) (by decide)) ?_
  refine mm_fc (ss_bipush hx hb (by decide +kernel : decode cX7_copyFrom 25 = .ok (.bipush 8, 2)) (by decide)) ?_
  refine mm_fc (ss_copy X wd_4_15 wd_4_17 wd_4_16 wd_1_19 (by decide +kernel : decode cX7_copyFrom 27 = .ok (.invokestatic 49, 3))) ?_
  refine mm_fc (ss_aload_n hx hb (by decide +kernel : decode cX7_copyFrom 30 = .ok (.aload_n 1, 1)) rfl) ?_
  refine mm_fc (ss_get X rfl in_X7 (by decide) rfl wd_1_155 (by decide +kernel : decode cX7_copyFrom 31 = .ok (.getfield 18, 3))) ?_
  refine mm_fc (ss_iconst hx hb (by decide +kernel : decode cX7_copyFrom 34 = .ok (.iconst 0, 1)) (by decide)) ?_
  refine mm_fc (ss_aload_n hx hb (by decide +kernel : decode cX7_copyFrom 35 = .ok (.aload_n 0, 1)) rfl) ?_
  refine mm_fc (ss_get X rfl in_X7 (by decide) rfl wd_1_155 (by decide +kernel : decode cX7_copyFrom 36 = .ok (.getfield 18, 3))) ?_
  refine mm_fc (ss_iconst hx hb (by decide +kernel : decode cX7_copyFrom 39 = .ok (.iconst 0, 1)) (by decide)) ?_
  refine mm_fc (ss_bipush hx hb (by decide +kernel : decode cX7_copyFrom 40 = .ok (.bipush 8, 2)) (by decide)) ?_
  refine mm_fc (ss_copy X wd_4_15 wd_4_17 wd_4_16 wd_1_19 (by decide +kernel : decode cX7_copyFrom 42 = .ok (.invokestatic 49, 3))) ?_
  refine mm_fc (ss_aload_n hx hb (by decide +kernel : decode cX7_copyFrom 45 = .ok (.aload_n 1, 1)) rfl) ?_
  refine mm_fc (ss_get X rfl in_X7 (by decide) rfl wd_1_156 (by decide +kernel : decode cX7_copyFrom 46 = .ok (.getfield 21, 3))) ?_
  refine mm_fc (ss_iconst hx hb (by decide +kernel : decode cX7_copyFrom 49 = .ok (.iconst 0, 1)) (by decide)) ?_
  refine mm_fc (ss_aload_n hx hb (by decide +kernel : decode cX7_copyFrom 50 = .ok (.aload_n 0, 1)) rfl) ?_
  refine mm_fc (ss_get X rfl in_X7 (by decide) rfl wd_1_156 (by decide +kernel : decode cX7_copyFrom 51 = .ok (.getfield 21, 3))) ?_
  refine mm_fc (ss_iconst hx hb (by decide +kernel : decode cX7_copyFrom 54 = .ok (.iconst 0, 1)) (by decide)) ?_
  refine mm_fc (ss_bipush hx hb (by decide +kernel : decode cX7_copyFrom 55 = .ok (.bipush 8, 2)) (by decide)) ?_
  refine mm_fc (ss_copy X wd_4_15 wd_4_17 wd_4_16 wd_1_19 (by decide +kernel : decode cX7_copyFrom 57 = .ok (.invokestatic 49, 3))) ?_
  refine mm_fc (ss_aload_n hx hb (by decide +kernel : decode cX7_copyFrom 60 = .ok (.aload_n 1, 1)) rfl) ?_
  refine mm_fc (ss_get X rfl in_X7 (by decide) rfl wd_1_157 (by decide +kernel : decode cX7_copyFrom 61 = .ok (.getfield 24, 3))) ?_
  refine mm_fc (ss_iconst hx hb (by decide +kernel : decode cX7_copyFrom 64 = .ok (.iconst 0, 1)) (by decide)) ?_
  refine mm_fc (ss_aload_n hx hb (by decide +kernel : decode cX7_copyFrom 65 = .ok (.aload_n 0, 1)) rfl) ?_
  refine mm_fc (ss_get X rfl in_X7 (by decide) rfl wd_1_157 (by decide +kernel : decode cX7_copyFrom 66 = .ok (.getfield 24, 3))) ?_
  refine mm_fc (ss_iconst hx hb (by decide +kernel : decode cX7_copyFrom 69 = .ok (.iconst 0, 1)) (by decide)) ?_
  refine mm_fc (ss_bipush hx hb (by decide +kernel : decode cX7_copyFrom 70 = .ok (.bipush 8, 2)) (by decide)) ?_
  refine mm_fc (ss_copy X wd_4_15 wd_4_17 wd_4_16 wd_1_19 (by decide +kernel : decode cX7_copyFrom 72 = .ok (.invokestatic 49, 3))) ?_
  refine mm_fc (ss_aload_n hx hb (by decide +kernel : decode cX7_copyFrom 75 = .ok (.aload_n 1, 1)) rfl) ?_
  refine mm_fc (ss_get X rfl in_X7 (by decide) rfl wd_1_158 (by decide +kernel : decode cX7_copyFrom 76 = .ok (.getfield 27, 3))) ?_
  refine mm_fc (ss_iconst hx hb (by decide +kernel : decode cX7_copyFrom 79 = .ok (.iconst 0, 1)) (by decide)) ?_
  refine mm_fc (ss_aload_n hx hb (by decide +kernel : decode cX7_copyFrom 80 = .ok (.aload_n 0, 1)) rfl) ?_
  refine mm_fc (ss_get X rfl in_X7 (by decide) rfl wd_1_158 (by decide +kernel : decode cX7_copyFrom 81 = .ok (.getfield 27, 3))) ?_
  refine mm_fc (ss_iconst hx hb (by decide +kernel : decode cX7_copyFrom 84 = .ok (.iconst 0, 1)) (by decide)) ?_
  refine mm_fc (ss_bipush hx hb (by decide +kernel : decode cX7_copyFrom 85 = .ok (.bipush 64, 2)) (by decide)) ?_
  refine mm_fc (ss_copy X wd_4_15 wd_4_17 wd_4_16 wd_1_19 (by decide +kernel : decode cX7_copyFrom 87 = .ok (.invokestatic 49, 3))) ?_
  refine mm_fc (ss_aload_n hx hb (by decide +kernel : decode cX7_copyFrom 90 = .ok (.aload_n 1, 1)) rfl) ?_
  refine mm_fc (ss_get X rfl in_X7 (by decide) rfl wd_1_159 (by decide +kernel : decode cX7_copyFrom 91 = .ok (.getfield 30, 3))) ?_
  refine mm_fc (ss_iconst hx hb (by decide +kernel : decode cX7_copyFrom 94 = .ok (.iconst 0, 1)) (by decide)) ?_
  refine mm_fc (ss_aload_n hx hb (by decide +kernel : decode cX7_copyFrom 95 = .ok (.aload_n 0, 1)) rfl) ?_
  refine mm_fc (ss_get X rfl in_X7 (by decide) rfl wd_1_159 (by decide +kernel : decode cX7_copyFrom 96 = .ok (.getfield 30, 3))) ?_
  refine mm_fc (ss_iconst hx hb (by decide +kernel : decode cX7_copyFrom 99 = .ok (.iconst 0, 1)) (by decide)) ?_
  refine mm_fc (ss_bipush hx hb (by decide +kernel : decode cX7_copyFrom 100 = .ok (.bipush 9, 2)) (by decide)) ?_
  refine mm_fc (ss_copy X wd_4_15 wd_4_17 wd_4_16 wd_1_19 (by decide +kernel : decode cX7_copyFrom 102 = .ok (.invokestatic 49, 3))) ?_
  refine mm_fc (ss_aload_n hx hb (by decide +kernel : decode cX7_copyFrom 105 = .ok (.aload_n 1, 1)) rfl) ?_
  refine mm_fc (ss_get X rfl in_X7 (by decide) rfl wd_1_160 (by decide +kernel : decode cX7_copyFrom 106 = .ok (.getfield 33, 3))) ?_
  refine mm_fc (ss_iconst hx hb (by decide +kernel : decode cX7_copyFrom 109 = .ok (.iconst 0, 1)) (by decide)) ?_
  refine mm_fc (ss_aload_n hx hb (by decide +kernel : decode cX7_copyFrom 110 = .ok (.aload_n 0, 1)) rfl) ?_
  refine mm_fc (ss_get X rfl in_X7 (by decide) rfl wd_1_160 (by decide +kernel : decode cX7_copyFrom 111 = .ok (.getfield 33, 3))) ?_
  refine mm_fc (ss_iconst hx hb (by decide +kernel : decode cX7_copyFrom 114 = .ok (.iconst 0, 1)) (by decide)) ?_
  refine mm_fc (ss_bipush hx hb (by decide +kernel : decode cX7_copyFrom 115 = .ok (.bipush 40, 2)) (by decide)) ?_
  refine mm_fc (ss_copy X wd_4_15 wd_4_17 wd_4_16 wd_1_19 (by decide +kernel : decode cX7_copyFrom 117 = .ok (.invokestatic 49, 3))) ?_
  refine mm_fc (ss_aload_n hx hb (by decide +kernel : decode cX7_copyFrom 120 = .ok (.aload_n 0, 1)) rfl) ?_
  refine mm_fc (ss_aload_n hx hb (by decide +kernel : decode cX7_copyFrom 121 = .ok (.aload_n 1, 1)) rfl) ?_
  refine mm_fc (ss_get X rfl in_X7 (by decide) rfl wd_1_161 (by decide +kernel : decode cX7_copyFrom 122 = .ok (.getfield 36, 3))) ?_
  refine mm_fc (ss_putI X rfl in_X7 tyX7_ok nmX7 (by decide) rfl rfl rfl rfl wd_1_161 (by decide +kernel : decode cX7_copyFrom 125 = .ok (.putfield 36, 3))) ?_
  refine mm_fc (ss_aload_n hx hb (by decide +kernel : decode cX7_copyFrom 128 = .ok (.aload_n 0, 1)) rfl) ?_
  refine mm_fc (ss_aload_n hx hb (by decide +kernel : decode cX7_copyFrom 129 = .ok (.aload_n 1, 1)) rfl) ?_
  refine mm_fc (ss_get X rfl in_X7 (by decide) rfl wd_1_164 (by decide +kernel : decode cX7_copyFrom 130 = .ok (.getfield 40, 3))) ?_
  refine mm_fc (ss_putI X rfl in_X7 tyX7_ok nmX7 (by decide) rfl rfl rfl rfl wd_1_164 (by decide +kernel : decode cX7_copyFrom 133 = .ok (.putfield 40, 3))) ?_
  refine mm_fc (ss_aload_n hx hb (by decide +kernel : decode cX7_copyFrom 136 = .ok (.aload_n 0, 1)) rfl) ?_
  refine mm_fc (ss_aload_n hx hb (by decide +kernel : decode cX7_copyFrom 137 = .ok (.aload_n 1, 1)) rfl) ?_
  refine mm_fc (ss_get X rfl in_X7 (by decide) rfl wd_1_170 (by decide +kernel : decode cX7_copyFrom 138 = .ok (.getfield 43, 3))) ?_
  refine mm_fc (ss_putI X rfl in_X7 tyX7_ok nmX7 (by decide) rfl rfl rfl rfl wd_1_170 (by decide +kernel : decode cX7_copyFrom 141 = .ok (.putfield 43, 3))) ?_
  refine mm_fc (ss_aload_n hx hb (by decide +kernel : decode cX7_copyFrom 144 = .ok (.aload_n 0, 1)) rfl) ?_
  refine mm_fc (ss_aload_n hx hb (by decide +kernel : decode cX7_copyFrom 145 = .ok (.aload_n 1, 1)) rfl) ?_
  refine mm_fc (ss_get X rfl in_X7 (by decide) rfl wd_1_177 (by decide +kernel : decode cX7_copyFrom 146 = .ok (.getfield 46, 3))) ?_
  refine mm_fc (ss_putI X rfl in_X7 tyX7_ok nmX7 (by decide) rfl rfl rfl rfl wd_1_177 (by decide +kernel : decode cX7_copyFrom 149 = .ok (.putfield 46, 3))) ?_
  refine mm_fc (ss_vret (by decide +kernel : decode cX7_copyFrom 152 = .ok (.return_, 1)) rfl) ?_
  exact mm_fn
def cd_X7_isHouse : mm_K mm_H := [(0, s_iload 1 1), (1, s_if (fun x => x < 0) 22 4), (4, s_iload 1 5), (5, s_aload 0 6), (6, s_get 7 9 9), (9, s_icmp (fun x y => y ≤ x) 22 12), (12, s_iload 1 13), (13, s_pushI 9 15), (15, s_icmp (fun x y => y ≤ x) 22 18), (18, s_pushI 1 19), (19, s_goto 23), (22, s_pushI 0 23), (23, s_zret)]
set_option maxRecDepth 100000 in
set_option maxHeartbeats 4000000 in
theorem ok_X7_isHouse (l : Launch) : mm_CodeOK l mm_I0 RX7 cX7_isHouse 2 (some .boolean) cd_X7_isHouse := by
  intro p e R s m args below meth c Q σ cA D A kc ks d C X
  have hx := X.1
  have hb := X.2.1
  have hown := X.2.2.2.1
  have hts := X.2.2.2.2.1
  refine mm_fc (ss_iload_n hx hb (by decide +kernel : decode cX7_isHouse 0 = .ok (.iload_n 1, 1)) rfl) ?_
  refine mm_fc (ss_iflt hx hb (by decide +kernel : decode cX7_isHouse 1 = .ok (.ifCond .lt 21, 3)) (by decide)) ?_
  refine mm_fc (ss_iload_n hx hb (by decide +kernel : decode cX7_isHouse 4 = .ok (.iload_n 1, 1)) rfl) ?_
  refine mm_fc (ss_aload_n hx hb (by decide +kernel : decode cX7_isHouse 5 = .ok (.aload_n 0, 1)) rfl) ?_
  refine mm_fc (ss_get X rfl in_X7 (by decide) rfl wd_1_164 (by decide +kernel : decode cX7_isHouse 6 = .ok (.getfield 40, 3))) ?_
  refine mm_fc (ss_icmpge hx hb (by decide +kernel : decode cX7_isHouse 9 = .ok (.if_icmp .ge 13, 3)) (by decide)) ?_
  refine mm_fc (ss_iload_n hx hb (by decide +kernel : decode cX7_isHouse 12 = .ok (.iload_n 1, 1)) rfl) ?_
  refine mm_fc (ss_bipush hx hb (by decide +kernel : decode cX7_isHouse 13 = .ok (.bipush 9, 2)) (by decide)) ?_
  refine mm_fc (ss_icmpge hx hb (by decide +kernel : decode cX7_isHouse 15 = .ok (.if_icmp .ge 7, 3)) (by decide)) ?_
  refine mm_fc (ss_iconst hx hb (by decide +kernel : decode cX7_isHouse 18 = .ok (.iconst 1, 1)) (by decide)) ?_
  refine mm_fc (ss_goto hx hb (by decide +kernel : decode cX7_isHouse 19 = .ok (.goto 4, 3)) (by decide)) ?_
  refine mm_fc (ss_iconst hx hb (by decide +kernel : decode cX7_isHouse 22 = .ok (.iconst 0, 1)) (by decide)) ?_
  refine mm_fc (ss_zret (by decide +kernel : decode cX7_isHouse 23 = .ok (.ireturn, 1)) rfl) ?_
  exact mm_fn
def cd_X7_isPerson : mm_K mm_H := [(0, s_iload 1 1), (1, s_if (fun x => x < 0) 22 4), (4, s_iload 1 5), (5, s_aload 0 6), (6, s_get 7 10 9), (9, s_icmp (fun x y => y ≤ x) 22 12), (12, s_iload 1 13), (13, s_pushI 8 15), (15, s_icmp (fun x y => y ≤ x) 22 18), (18, s_pushI 1 19), (19, s_goto 23), (22, s_pushI 0 23), (23, s_zret)]
set_option maxRecDepth 100000 in
set_option maxHeartbeats 4000000 in
theorem ok_X7_isPerson (l : Launch) : mm_CodeOK l mm_I0 RX7 cX7_isPerson 2 (some .boolean) cd_X7_isPerson := by
  intro p e R s m args below meth c Q σ cA D A kc ks d C X
  have hx := X.1
  have hb := X.2.1
  have hown := X.2.2.2.1
  have hts := X.2.2.2.2.1
  refine mm_fc (ss_iload_n hx hb (by decide +kernel : decode cX7_isPerson 0 = .ok (.iload_n 1, 1)) rfl) ?_
  refine mm_fc (ss_iflt hx hb (by decide +kernel : decode cX7_isPerson 1 = .ok (.ifCond .lt 21, 3)) (by decide)) ?_
  refine mm_fc (ss_iload_n hx hb (by decide +kernel : decode cX7_isPerson 4 = .ok (.iload_n 1, 1)) rfl) ?_
  refine mm_fc (ss_aload_n hx hb (by decide +kernel : decode cX7_isPerson 5 = .ok (.aload_n 0, 1)) rfl) ?_
  refine mm_fc (ss_get X rfl in_X7 (by decide) rfl wd_1_170 (by decide +kernel : decode cX7_isPerson 6 = .ok (.getfield 43, 3))) ?_
  refine mm_fc (ss_icmpge hx hb (by decide +kernel : decode cX7_isPerson 9 = .ok (.if_icmp .ge 13, 3)) (by decide)) ?_
  refine mm_fc (ss_iload_n hx hb (by decide +kernel : decode cX7_isPerson 12 = .ok (.iload_n 1, 1)) rfl) ?_
  refine mm_fc (ss_bipush hx hb (by decide +kernel : decode cX7_isPerson 13 = .ok (.bipush 8, 2)) (by decide)) ?_
  refine mm_fc (ss_icmpge hx hb (by decide +kernel : decode cX7_isPerson 15 = .ok (.if_icmp .ge 7, 3)) (by decide)) ?_
  refine mm_fc (ss_iconst hx hb (by decide +kernel : decode cX7_isPerson 18 = .ok (.iconst 1, 1)) (by decide)) ?_
  refine mm_fc (ss_goto hx hb (by decide +kernel : decode cX7_isPerson 19 = .ok (.goto 4, 3)) (by decide)) ?_
  refine mm_fc (ss_iconst hx hb (by decide +kernel : decode cX7_isPerson 22 = .ok (.iconst 0, 1)) (by decide)) ?_
  refine mm_fc (ss_zret (by decide +kernel : decode cX7_isPerson 23 = .ok (.ireturn, 1)) rfl) ?_
  exact mm_fn
def cd_X7_arePair : mm_K mm_H := [(0, s_aload 0 1), (1, s_iload 1 2), (2, s_callV 7 102 1 1 5), (5, s_if (fun x => x = 0) 25 8), (8, s_aload 0 9), (9, s_iload 2 10), (10, s_callV 7 102 1 1 13), (13, s_if (fun x => x = 0) 25 16), (16, s_iload 1 17), (17, s_iload 2 18), (18, s_icmp (fun x y => x = y) 25 21), (21, s_pushI 1 22), (22, s_goto 26), (25, s_pushI 0 26), (26, s_zret)]
set_option maxRecDepth 100000 in
set_option maxHeartbeats 4000000 in
theorem ok_X7_arePair (l : Launch) : mm_CodeOK l mm_I0 RX7 cX7_arePair 3 (some .boolean) cd_X7_arePair := by
  intro p e R s m args below meth c Q σ cA D A kc ks d C X
  have hx := X.1
  have hb := X.2.1
  have hown := X.2.2.2.1
  have hts := X.2.2.2.2.1
  refine mm_fc (ss_aload_n hx hb (by decide +kernel : decode cX7_arePair 0 = .ok (.aload_n 0, 1)) rfl) ?_
  refine mm_fc (ss_iload_n hx hb (by decide +kernel : decode cX7_arePair 1 = .ok (.iload_n 1, 1)) rfl) ?_
  refine mm_fc (ss_callV X rfl rfl wd_3_108 wd_1_8 wd_3_133 wd_3_106 wd_3_107 (by decide +kernel) (by decide +kernel) (by decide) (by decide +kernel : decode cX7_arePair 2 = .ok (.invokevirtual 55, 3))) ?_
  refine mm_fc (ss_ifeq hx hb (by decide +kernel : decode cX7_arePair 5 = .ok (.ifCond .eq 20, 3)) (by decide)) ?_
  refine mm_fc (ss_aload_n hx hb (by decide +kernel : decode cX7_arePair 8 = .ok (.aload_n 0, 1)) rfl) ?_
  refine mm_fc (ss_iload_n hx hb (by decide +kernel : decode cX7_arePair 9 = .ok (.iload_n 2, 1)) rfl) ?_
  refine mm_fc (ss_callV X rfl rfl wd_3_108 wd_1_8 wd_3_133 wd_3_106 wd_3_107 (by decide +kernel) (by decide +kernel) (by decide) (by decide +kernel : decode cX7_arePair 10 = .ok (.invokevirtual 55, 3))) ?_
  refine mm_fc (ss_ifeq hx hb (by decide +kernel : decode cX7_arePair 13 = .ok (.ifCond .eq 12, 3)) (by decide)) ?_
  refine mm_fc (ss_iload_n hx hb (by decide +kernel : decode cX7_arePair 16 = .ok (.iload_n 1, 1)) rfl) ?_
  refine mm_fc (ss_iload_n hx hb (by decide +kernel : decode cX7_arePair 17 = .ok (.iload_n 2, 1)) rfl) ?_
  refine mm_fc (ss_icmpeq hx hb (by decide +kernel : decode cX7_arePair 18 = .ok (.if_icmp .eq 7, 3)) (by decide)) ?_
  refine mm_fc (ss_iconst hx hb (by decide +kernel : decode cX7_arePair 21 = .ok (.iconst 1, 1)) (by decide)) ?_
  refine mm_fc (ss_goto hx hb (by decide +kernel : decode cX7_arePair 22 = .ok (.goto 4, 3)) (by decide)) ?_
  refine mm_fc (ss_iconst hx hb (by decide +kernel : decode cX7_arePair 25 = .ok (.iconst 0, 1)) (by decide)) ?_
  refine mm_fc (ss_zret (by decide +kernel : decode cX7_arePair 26 = .ok (.ireturn, 1)) rfl) ?_
  exact mm_fn
def cd_X7_lodgerAt : mm_K mm_H := [(0, s_aload 0 1), (1, s_iload 1 2), (2, s_callV 7 101 1 1 5), (5, s_if (fun x => x = 0) 17 8), (8, s_aload 0 9), (9, s_get 7 6 12), (12, s_iload 1 13), (13, s_iald 14), (14, s_goto 18), (17, s_pushI (-1) 18), (18, s_iret)]
set_option maxRecDepth 100000 in
set_option maxHeartbeats 4000000 in
theorem ok_X7_lodgerAt (l : Launch) : mm_CodeOK l mm_I0 RX7 cX7_lodgerAt 2 (some .int) cd_X7_lodgerAt := by
  intro p e R s m args below meth c Q σ cA D A kc ks d C X
  have hx := X.1
  have hb := X.2.1
  have hown := X.2.2.2.1
  have hts := X.2.2.2.2.1
  refine mm_fc (ss_aload_n hx hb (by decide +kernel : decode cX7_lodgerAt 0 = .ok (.aload_n 0, 1)) rfl) ?_
  refine mm_fc (ss_iload_n hx hb (by decide +kernel : decode cX7_lodgerAt 1 = .ok (.iload_n 1, 1)) rfl) ?_
  refine mm_fc (ss_callV X rfl rfl wd_3_124 wd_1_8 wd_3_121 wd_3_122 wd_3_123 (by decide +kernel) (by decide +kernel) (by decide) (by decide +kernel : decode cX7_lodgerAt 2 = .ok (.invokevirtual 59, 3))) ?_
  refine mm_fc (ss_ifeq hx hb (by decide +kernel : decode cX7_lodgerAt 5 = .ok (.ifCond .eq 12, 3)) (by decide)) ?_
  refine mm_fc (ss_aload_n hx hb (by decide +kernel : decode cX7_lodgerAt 8 = .ok (.aload_n 0, 1)) rfl) ?_
  refine mm_fc (ss_get X rfl in_X7 (by decide) rfl wd_1_159 (by decide +kernel : decode cX7_lodgerAt 9 = .ok (.getfield 30, 3))) ?_
  refine mm_fc (ss_iload_n hx hb (by decide +kernel : decode cX7_lodgerAt 12 = .ok (.iload_n 1, 1)) rfl) ?_
  refine mm_fc (ss_iald X (by decide +kernel : decode cX7_lodgerAt 13 = .ok (.iaload, 1))) ?_
  refine mm_fc (ss_goto hx hb (by decide +kernel : decode cX7_lodgerAt 14 = .ok (.goto 4, 3)) (by decide)) ?_
  refine mm_fc (ss_iconst hx hb (by decide +kernel : decode cX7_lodgerAt 17 = .ok (.iconst (-1), 1)) (by decide)) ?_
  refine mm_fc (ss_iret (by decide +kernel : decode cX7_lodgerAt 18 = .ok (.ireturn, 1)) rfl) ?_
  exact mm_fn
def cd_X7_homeOf : mm_K mm_H := [(0, s_aload 0 1), (1, s_iload 1 2), (2, s_callV 7 102 1 1 5), (5, s_if (fun x => x = 0) 17 8), (8, s_aload 0 9), (9, s_get 7 2 12), (12, s_iload 1 13), (13, s_iald 14), (14, s_goto 18), (17, s_pushI (-1) 18), (18, s_iret)]
set_option maxRecDepth 100000 in
set_option maxHeartbeats 4000000 in
theorem ok_X7_homeOf (l : Launch) : mm_CodeOK l mm_I0 RX7 cX7_homeOf 2 (some .int) cd_X7_homeOf := by
  intro p e R s m args below meth c Q σ cA D A kc ks d C X
  have hx := X.1
  have hb := X.2.1
  have hown := X.2.2.2.1
  have hts := X.2.2.2.2.1
  refine mm_fc (ss_aload_n hx hb (by decide +kernel : decode cX7_homeOf 0 = .ok (.aload_n 0, 1)) rfl) ?_
  refine mm_fc (ss_iload_n hx hb (by decide +kernel : decode cX7_homeOf 1 = .ok (.iload_n 1, 1)) rfl) ?_
  refine mm_fc (ss_callV X rfl rfl wd_3_108 wd_1_8 wd_3_133 wd_3_106 wd_3_107 (by decide +kernel) (by decide +kernel) (by decide) (by decide +kernel : decode cX7_homeOf 2 = .ok (.invokevirtual 55, 3))) ?_
  refine mm_fc (ss_ifeq hx hb (by decide +kernel : decode cX7_homeOf 5 = .ok (.ifCond .eq 12, 3)) (by decide)) ?_
  refine mm_fc (ss_aload_n hx hb (by decide +kernel : decode cX7_homeOf 8 = .ok (.aload_n 0, 1)) rfl) ?_
  refine mm_fc (ss_get X rfl in_X7 (by decide) rfl wd_1_155 (by decide +kernel : decode cX7_homeOf 9 = .ok (.getfield 18, 3))) ?_
  refine mm_fc (ss_iload_n hx hb (by decide +kernel : decode cX7_homeOf 12 = .ok (.iload_n 1, 1)) rfl) ?_
  refine mm_fc (ss_iald X (by decide +kernel : decode cX7_homeOf 13 = .ok (.iaload, 1))) ?_
  refine mm_fc (ss_goto hx hb (by decide +kernel : decode cX7_homeOf 14 = .ok (.goto 4, 3)) (by decide)) ?_
  refine mm_fc (ss_iconst hx hb (by decide +kernel : decode cX7_homeOf 17 = .ok (.iconst (-1), 1)) (by decide)) ?_
  refine mm_fc (ss_iret (by decide +kernel : decode cX7_homeOf 18 = .ok (.ireturn, 1)) rfl) ?_
  exact mm_fn
def cd_X7_lookOf : mm_K mm_H := [(0, s_aload 0 1), (1, s_iload 1 2), (2, s_callV 7 102 1 1 5), (5, s_if (fun x => x = 0) 17 8), (8, s_aload 0 9), (9, s_get 7 3 12), (12, s_iload 1 13), (13, s_iald 14), (14, s_goto 18), (17, s_pushI 0 18), (18, s_iret)]
set_option maxRecDepth 100000 in
set_option maxHeartbeats 4000000 in
theorem ok_X7_lookOf (l : Launch) : mm_CodeOK l mm_I0 RX7 cX7_lookOf 2 (some .int) cd_X7_lookOf := by
  intro p e R s m args below meth c Q σ cA D A kc ks d C X
  have hx := X.1
  have hb := X.2.1
  have hown := X.2.2.2.1
  have hts := X.2.2.2.2.1
  refine mm_fc (ss_aload_n hx hb (by decide +kernel : decode cX7_lookOf 0 = .ok (.aload_n 0, 1)) rfl) ?_
  refine mm_fc (ss_iload_n hx hb (by decide +kernel : decode cX7_lookOf 1 = .ok (.iload_n 1, 1)) rfl) ?_
  refine mm_fc (ss_callV X rfl rfl wd_3_108 wd_1_8 wd_3_133 wd_3_106 wd_3_107 (by decide +kernel) (by decide +kernel) (by decide) (by decide +kernel : decode cX7_lookOf 2 = .ok (.invokevirtual 55, 3))) ?_
  refine mm_fc (ss_ifeq hx hb (by decide +kernel : decode cX7_lookOf 5 = .ok (.ifCond .eq 12, 3)) (by decide)) ?_
  refine mm_fc (ss_aload_n hx hb (by decide +kernel : decode cX7_lookOf 8 = .ok (.aload_n 0, 1)) rfl) ?_
  refine mm_fc (ss_get X rfl in_X7 (by decide) rfl wd_1_156 (by decide +kernel : decode cX7_lookOf 9 = .ok (.getfield 21, 3))) ?_
  refine mm_fc (ss_iload_n hx hb (by decide +kernel : decode cX7_lookOf 12 = .ok (.iload_n 1, 1)) rfl) ?_
  refine mm_fc (ss_iald X (by decide +kernel : decode cX7_lookOf 13 = .ok (.iaload, 1))) ?_
  refine mm_fc (ss_goto hx hb (by decide +kernel : decode cX7_lookOf 14 = .ok (.goto 4, 3)) (by decide)) ?_
  refine mm_fc (ss_iconst hx hb (by decide +kernel : decode cX7_lookOf 17 = .ok (.iconst 0, 1)) (by decide)) ?_
  refine mm_fc (ss_iret (by decide +kernel : decode cX7_lookOf 18 = .ok (.ireturn, 1)) rfl) ?_
  exact mm_fn
def cd_X7_faceOf : mm_K mm_H := [(0, s_aload 0 1), (1, s_iload 1 2), (2, s_callV 7 102 1 1 5), (5, s_if (fun x => x = 0) 17 8), (8, s_aload 0 9), (9, s_get 7 0 12), (12, s_iload 1 13), (13, s_iald 14), (14, s_goto 18), (17, s_pushI 0 18), (18, s_iret)]
set_option maxRecDepth 100000 in
set_option maxHeartbeats 4000000 in
theorem ok_X7_faceOf (l : Launch) : mm_CodeOK l mm_I0 RX7 cX7_faceOf 2 (some .int) cd_X7_faceOf := by
  intro p e R s m args below meth c Q σ cA D A kc ks d C X
  have hx := X.1
  have hb := X.2.1
  have hown := X.2.2.2.1
  have hts := X.2.2.2.2.1
  refine mm_fc (ss_aload_n hx hb (by decide +kernel : decode cX7_faceOf 0 = .ok (.aload_n 0, 1)) rfl) ?_
  refine mm_fc (ss_iload_n hx hb (by decide +kernel : decode cX7_faceOf 1 = .ok (.iload_n 1, 1)) rfl) ?_
  refine mm_fc (ss_callV X rfl rfl wd_3_108 wd_1_8 wd_3_133 wd_3_106 wd_3_107 (by decide +kernel) (by decide +kernel) (by decide) (by decide +kernel : decode cX7_faceOf 2 = .ok (.invokevirtual 55, 3))) ?_
  refine mm_fc (ss_ifeq hx hb (by decide +kernel : decode cX7_faceOf 5 = .ok (.ifCond .eq 12, 3)) (by decide)) ?_
  refine mm_fc (ss_aload_n hx hb (by decide +kernel : decode cX7_faceOf 8 = .ok (.aload_n 0, 1)) rfl) ?_
  refine mm_fc (ss_get X rfl in_X7 (by decide) rfl wd_1_153 (by decide +kernel : decode cX7_faceOf 9 = .ok (.getfield 9, 3))) ?_
  refine mm_fc (ss_iload_n hx hb (by decide +kernel : decode cX7_faceOf 12 = .ok (.iload_n 1, 1)) rfl) ?_
  refine mm_fc (ss_iald X (by decide +kernel : decode cX7_faceOf 13 = .ok (.iaload, 1))) ?_
  refine mm_fc (ss_goto hx hb (by decide +kernel : decode cX7_faceOf 14 = .ok (.goto 4, 3)) (by decide)) ?_
  refine mm_fc (ss_iconst hx hb (by decide +kernel : decode cX7_faceOf 17 = .ok (.iconst 0, 1)) (by decide)) ?_
  refine mm_fc (ss_iret (by decide +kernel : decode cX7_faceOf 18 = .ok (.ireturn, 1)) rfl) ?_
  exact mm_fn
def cd_X7_kindOf : mm_K mm_H := [(0, s_aload 0 1), (1, s_iload 1 2), (2, s_callV 7 102 1 1 5), (5, s_if (fun x => x = 0) 17 8), (8, s_aload 0 9), (9, s_get 7 1 12), (12, s_iload 1 13), (13, s_iald 14), (14, s_goto 18), (17, s_pushI 0 18), (18, s_iret)]
set_option maxRecDepth 100000 in
set_option maxHeartbeats 4000000 in
theorem ok_X7_kindOf (l : Launch) : mm_CodeOK l mm_I0 RX7 cX7_kindOf 2 (some .int) cd_X7_kindOf := by
  intro p e R s m args below meth c Q σ cA D A kc ks d C X
  have hx := X.1
  have hb := X.2.1
  have hown := X.2.2.2.1
  have hts := X.2.2.2.2.1
  refine mm_fc (ss_aload_n hx hb (by decide +kernel : decode cX7_kindOf 0 = .ok (.aload_n 0, 1)) rfl) ?_
  refine mm_fc (ss_iload_n hx hb (by decide +kernel : decode cX7_kindOf 1 = .ok (.iload_n 1, 1)) rfl) ?_
  refine mm_fc (ss_callV X rfl rfl wd_3_108 wd_1_8 wd_3_133 wd_3_106 wd_3_107 (by decide +kernel) (by decide +kernel) (by decide) (by decide +kernel : decode cX7_kindOf 2 = .ok (.invokevirtual 55, 3))) ?_
  refine mm_fc (ss_ifeq hx hb (by decide +kernel : decode cX7_kindOf 5 = .ok (.ifCond .eq 12, 3)) (by decide)) ?_
  refine mm_fc (ss_aload_n hx hb (by decide +kernel : decode cX7_kindOf 8 = .ok (.aload_n 0, 1)) rfl) ?_
  refine mm_fc (ss_get X rfl in_X7 (by decide) rfl wd_1_154 (by decide +kernel : decode cX7_kindOf 9 = .ok (.getfield 15, 3))) ?_
  refine mm_fc (ss_iload_n hx hb (by decide +kernel : decode cX7_kindOf 12 = .ok (.iload_n 1, 1)) rfl) ?_
  refine mm_fc (ss_iald X (by decide +kernel : decode cX7_kindOf 13 = .ok (.iaload, 1))) ?_
  refine mm_fc (ss_goto hx hb (by decide +kernel : decode cX7_kindOf 14 = .ok (.goto 4, 3)) (by decide)) ?_
  refine mm_fc (ss_iconst hx hb (by decide +kernel : decode cX7_kindOf 17 = .ok (.iconst 0, 1)) (by decide)) ?_
  refine mm_fc (ss_iret (by decide +kernel : decode cX7_kindOf 18 = .ok (.ireturn, 1)) rfl) ?_
  exact mm_fn
def cd_X7_sparingOf : mm_K mm_H := [(0, s_aload 0 1), (1, s_iload 1 2), (2, s_callV 7 102 1 1 5), (5, s_if (fun x => x = 0) 17 8), (8, s_aload 0 9), (9, s_get 7 4 12), (12, s_iload 1 13), (13, s_iald 14), (14, s_goto 18), (17, s_pushI 0 18), (18, s_iret)]
set_option maxRecDepth 100000 in
set_option maxHeartbeats 4000000 in
theorem ok_X7_sparingOf (l : Launch) : mm_CodeOK l mm_I0 RX7 cX7_sparingOf 2 (some .int) cd_X7_sparingOf := by
  intro p e R s m args below meth c Q σ cA D A kc ks d C X
  have hx := X.1
  have hb := X.2.1
  have hown := X.2.2.2.1
  have hts := X.2.2.2.2.1
  refine mm_fc (ss_aload_n hx hb (by decide +kernel : decode cX7_sparingOf 0 = .ok (.aload_n 0, 1)) rfl) ?_
  refine mm_fc (ss_iload_n hx hb (by decide +kernel : decode cX7_sparingOf 1 = .ok (.iload_n 1, 1)) rfl) ?_
  refine mm_fc (ss_callV X rfl rfl wd_3_108 wd_1_8 wd_3_133 wd_3_106 wd_3_107 (by decide +kernel) (by decide +kernel) (by decide) (by decide +kernel : decode cX7_sparingOf 2 = .ok (.invokevirtual 55, 3))) ?_
  refine mm_fc (ss_ifeq hx hb (by decide +kernel : decode cX7_sparingOf 5 = .ok (.ifCond .eq 12, 3)) (by decide)) ?_
  refine mm_fc (ss_aload_n hx hb (by decide +kernel : decode cX7_sparingOf 8 = .ok (.aload_n 0, 1)) rfl) ?_
  refine mm_fc (ss_get X rfl in_X7 (by decide) rfl wd_1_157 (by decide +kernel : decode cX7_sparingOf 9 = .ok (.getfield 24, 3))) ?_
  refine mm_fc (ss_iload_n hx hb (by decide +kernel : decode cX7_sparingOf 12 = .ok (.iload_n 1, 1)) rfl) ?_
  refine mm_fc (ss_iald X (by decide +kernel : decode cX7_sparingOf 13 = .ok (.iaload, 1))) ?_
  refine mm_fc (ss_goto hx hb (by decide +kernel : decode cX7_sparingOf 14 = .ok (.goto 4, 3)) (by decide)) ?_
  refine mm_fc (ss_iconst hx hb (by decide +kernel : decode cX7_sparingOf 17 = .ok (.iconst 0, 1)) (by decide)) ?_
  refine mm_fc (ss_iret (by decide +kernel : decode cX7_sparingOf 18 = .ok (.ireturn, 1)) rfl) ?_
  exact mm_fn
def cd_X7_thoughtOf : mm_K mm_H := [(0, s_iload 1 1), (1, s_if (fun x => x < 0) 37 4), (4, s_iload 1 5), (5, s_aload 0 6), (6, s_get 7 10 9), (9, s_icmp (fun x y => y ≤ x) 37 12), (12, s_iload 2 13), (13, s_if (fun x => x < 0) 37 16), (16, s_iload 2 17), (17, s_aload 0 18), (18, s_get 7 10 21), (21, s_icmp (fun x y => y ≤ x) 37 24), (24, s_aload 0 25), (25, s_get 7 10 28), (28, s_pushI 8 30), (30, s_icmp (fun x y => y < x) 37 33), (33, s_pushI 1 34), (34, s_goto 38), (37, s_pushI 0 38), (38, s_istore 3 39), (39, s_iload 3 40), (40, s_if (fun x => x = 0) 62 43), (43, s_iload 1 44), (44, s_iload 2 45), (45, s_icmp (fun x y => x = y) 62 48), (48, s_aload 0 49), (49, s_get 7 5 52), (52, s_iload 1 53), (53, s_pushI 8 55), (55, s_bin (fun x y => x * y) 56), (56, s_iload 2 57), (57, s_bin (fun x y => x + y) 58), (58, s_iald 59), (59, s_goto 63), (62, s_pushI 0 63), (63, s_iret)]
set_option maxRecDepth 100000 in
set_option maxHeartbeats 4000000 in
theorem ok_X7_thoughtOf (l : Launch) : mm_CodeOK l mm_I0 RX7 cX7_thoughtOf 4 (some .int) cd_X7_thoughtOf := by
  intro p e R s m args below meth c Q σ cA D A kc ks d C X
  have hx := X.1
  have hb := X.2.1
  have hown := X.2.2.2.1
  have hts := X.2.2.2.2.1
  refine mm_fc (ss_iload_n hx hb (by decide +kernel : decode cX7_thoughtOf 0 = .ok (.iload_n 1, 1)) rfl) ?_
  refine mm_fc (ss_iflt hx hb (by decide +kernel : decode cX7_thoughtOf 1 = .ok (.ifCond .lt 36, 3)) (by decide)) ?_
  refine mm_fc (ss_iload_n hx hb (by decide +kernel : decode cX7_thoughtOf 4 = .ok (.iload_n 1, 1)) rfl) ?_
  refine mm_fc (ss_aload_n hx hb (by decide +kernel : decode cX7_thoughtOf 5 = .ok (.aload_n 0, 1)) rfl) ?_
  refine mm_fc (ss_get X rfl in_X7 (by decide) rfl wd_1_170 (by decide +kernel : decode cX7_thoughtOf 6 = .ok (.getfield 43, 3))) ?_
  refine mm_fc (ss_icmpge hx hb (by decide +kernel : decode cX7_thoughtOf 9 = .ok (.if_icmp .ge 28, 3)) (by decide)) ?_
  refine mm_fc (ss_iload_n hx hb (by decide +kernel : decode cX7_thoughtOf 12 = .ok (.iload_n 2, 1)) rfl) ?_
  refine mm_fc (ss_iflt hx hb (by decide +kernel : decode cX7_thoughtOf 13 = .ok (.ifCond .lt 24, 3)) (by decide)) ?_
  refine mm_fc (ss_iload_n hx hb (by decide +kernel : decode cX7_thoughtOf 16 = .ok (.iload_n 2, 1)) rfl) ?_
  refine mm_fc (ss_aload_n hx hb (by decide +kernel : decode cX7_thoughtOf 17 = .ok (.aload_n 0, 1)) rfl) ?_
  refine mm_fc (ss_get X rfl in_X7 (by decide) rfl wd_1_170 (by decide +kernel : decode cX7_thoughtOf 18 = .ok (.getfield 43, 3))) ?_
  refine mm_fc (ss_icmpge hx hb (by decide +kernel : decode cX7_thoughtOf 21 = .ok (.if_icmp .ge 16, 3)) (by decide)) ?_
  refine mm_fc (ss_aload_n hx hb (by decide +kernel : decode cX7_thoughtOf 24 = .ok (.aload_n 0, 1)) rfl) ?_
  refine mm_fc (ss_get X rfl in_X7 (by decide) rfl wd_1_170 (by decide +kernel : decode cX7_thoughtOf 25 = .ok (.getfield 43, 3))) ?_
  refine mm_fc (ss_bipush hx hb (by decide +kernel : decode cX7_thoughtOf 28 = .ok (.bipush 8, 2)) (by decide)) ?_
  refine mm_fc (ss_icmpgt hx hb (by decide +kernel : decode cX7_thoughtOf 30 = .ok (.if_icmp .gt 7, 3)) (by decide)) ?_
  refine mm_fc (ss_iconst hx hb (by decide +kernel : decode cX7_thoughtOf 33 = .ok (.iconst 1, 1)) (by decide)) ?_
  refine mm_fc (ss_goto hx hb (by decide +kernel : decode cX7_thoughtOf 34 = .ok (.goto 4, 3)) (by decide)) ?_
  refine mm_fc (ss_iconst hx hb (by decide +kernel : decode cX7_thoughtOf 37 = .ok (.iconst 0, 1)) (by decide)) ?_
  refine mm_fc (ss_istore_n hx hb (by decide +kernel : decode cX7_thoughtOf 38 = .ok (.istore_n 3, 1)) rfl (by decide)) ?_
  refine mm_fc (ss_iload_n hx hb (by decide +kernel : decode cX7_thoughtOf 39 = .ok (.iload_n 3, 1)) rfl) ?_
  refine mm_fc (ss_ifeq hx hb (by decide +kernel : decode cX7_thoughtOf 40 = .ok (.ifCond .eq 22, 3)) (by decide)) ?_
  refine mm_fc (ss_iload_n hx hb (by decide +kernel : decode cX7_thoughtOf 43 = .ok (.iload_n 1, 1)) rfl) ?_
  refine mm_fc (ss_iload_n hx hb (by decide +kernel : decode cX7_thoughtOf 44 = .ok (.iload_n 2, 1)) rfl) ?_
  refine mm_fc (ss_icmpeq hx hb (by decide +kernel : decode cX7_thoughtOf 45 = .ok (.if_icmp .eq 17, 3)) (by decide)) ?_
  refine mm_fc (ss_aload_n hx hb (by decide +kernel : decode cX7_thoughtOf 48 = .ok (.aload_n 0, 1)) rfl) ?_
  refine mm_fc (ss_get X rfl in_X7 (by decide) rfl wd_1_158 (by decide +kernel : decode cX7_thoughtOf 49 = .ok (.getfield 27, 3))) ?_
  refine mm_fc (ss_iload_n hx hb (by decide +kernel : decode cX7_thoughtOf 52 = .ok (.iload_n 1, 1)) rfl) ?_
  refine mm_fc (ss_bipush hx hb (by decide +kernel : decode cX7_thoughtOf 53 = .ok (.bipush 8, 2)) (by decide)) ?_
  refine mm_fc (ss_imul hx hb (by decide +kernel : decode cX7_thoughtOf 55 = .ok (.imul, 1))) ?_
  refine mm_fc (ss_iload_n hx hb (by decide +kernel : decode cX7_thoughtOf 56 = .ok (.iload_n 2, 1)) rfl) ?_
  refine mm_fc (ss_iadd hx hb (by decide +kernel : decode cX7_thoughtOf 57 = .ok (.iadd, 1))) ?_
  refine mm_fc (ss_iald X (by decide +kernel : decode cX7_thoughtOf 58 = .ok (.iaload, 1))) ?_
  refine mm_fc (ss_goto hx hb (by decide +kernel : decode cX7_thoughtOf 59 = .ok (.goto 4, 3)) (by decide)) ?_
  refine mm_fc (ss_iconst hx hb (by decide +kernel : decode cX7_thoughtOf 62 = .ok (.iconst 0, 1)) (by decide)) ?_
  refine mm_fc (ss_iret (by decide +kernel : decode cX7_thoughtOf 63 = .ok (.ireturn, 1)) rfl) ?_
  exact mm_fn
def cd_X7_neighbourOf : mm_K mm_H := [(0, s_aload 0 1), (1, s_iload 1 2), (2, s_callV 7 102 1 1 5), (5, s_if (fun x => x = 0) 17 8), (8, s_iload 2 9), (9, s_if (fun x => x < 0) 17 12), (12, s_iload 2 13), (13, s_pushI 1 14), (14, s_icmp (fun x y => x ≤ y) 19 17), (17, s_pushI (-1) 18), (18, s_iret), (19, s_aload 0 20), (20, s_aload 0 21), (21, s_get 7 2 24), (24, s_iload 1 25), (25, s_iald 26), (26, s_iload 2 27), (27, s_if (fun x => ¬ x = 0) 34 30), (30, s_pushI (-1) 31), (31, s_goto 35), (34, s_pushI 1 35), (35, s_bin (fun x y => x + y) 36), (36, s_callV 7 104 1 1 39), (39, s_iret)]
set_option maxRecDepth 100000 in
set_option maxHeartbeats 4000000 in
theorem ok_X7_neighbourOf (l : Launch) : mm_CodeOK l mm_I0 RX7 cX7_neighbourOf 3 (some .int) cd_X7_neighbourOf := by
  intro p e R s m args below meth c Q σ cA D A kc ks d C X
  have hx := X.1
  have hb := X.2.1
  have hown := X.2.2.2.1
  have hts := X.2.2.2.2.1
  refine mm_fc (ss_aload_n hx hb (by decide +kernel : decode cX7_neighbourOf 0 = .ok (.aload_n 0, 1)) rfl) ?_
  refine mm_fc (ss_iload_n hx hb (by decide +kernel : decode cX7_neighbourOf 1 = .ok (.iload_n 1, 1)) rfl) ?_
  refine mm_fc (ss_callV X rfl rfl wd_3_108 wd_1_8 wd_3_133 wd_3_106 wd_3_107 (by decide +kernel) (by decide +kernel) (by decide) (by decide +kernel : decode cX7_neighbourOf 2 = .ok (.invokevirtual 55, 3))) ?_
  refine mm_fc (ss_ifeq hx hb (by decide +kernel : decode cX7_neighbourOf 5 = .ok (.ifCond .eq 12, 3)) (by decide)) ?_
  refine mm_fc (ss_iload_n hx hb (by decide +kernel : decode cX7_neighbourOf 8 = .ok (.iload_n 2, 1)) rfl) ?_
  refine mm_fc (ss_iflt hx hb (by decide +kernel : decode cX7_neighbourOf 9 = .ok (.ifCond .lt 8, 3)) (by decide)) ?_
  refine mm_fc (ss_iload_n hx hb (by decide +kernel : decode cX7_neighbourOf 12 = .ok (.iload_n 2, 1)) rfl) ?_
  refine mm_fc (ss_iconst hx hb (by decide +kernel : decode cX7_neighbourOf 13 = .ok (.iconst 1, 1)) (by decide)) ?_
  refine mm_fc (ss_icmple hx hb (by decide +kernel : decode cX7_neighbourOf 14 = .ok (.if_icmp .le 5, 3)) (by decide)) ?_
  refine mm_fc (ss_iconst hx hb (by decide +kernel : decode cX7_neighbourOf 17 = .ok (.iconst (-1), 1)) (by decide)) ?_
  refine mm_fc (ss_iret (by decide +kernel : decode cX7_neighbourOf 18 = .ok (.ireturn, 1)) rfl) ?_
  refine mm_fc (ss_aload_n hx hb (by decide +kernel : decode cX7_neighbourOf 19 = .ok (.aload_n 0, 1)) rfl) ?_
  refine mm_fc (ss_aload_n hx hb (by decide +kernel : decode cX7_neighbourOf 20 = .ok (.aload_n 0, 1)) rfl) ?_
  refine mm_fc (ss_get X rfl in_X7 (by decide) rfl wd_1_155 (by decide +kernel : decode cX7_neighbourOf 21 = .ok (.getfield 18, 3))) ?_
  refine mm_fc (ss_iload_n hx hb (by decide +kernel : decode cX7_neighbourOf 24 = .ok (.iload_n 1, 1)) rfl) ?_
  refine mm_fc (ss_iald X (by decide +kernel : decode cX7_neighbourOf 25 = .ok (.iaload, 1))) ?_
  refine mm_fc (ss_iload_n hx hb (by decide +kernel : decode cX7_neighbourOf 26 = .ok (.iload_n 2, 1)) rfl) ?_
  refine mm_fc (ss_ifne hx hb (by decide +kernel : decode cX7_neighbourOf 27 = .ok (.ifCond .ne 7, 3)) (by decide)) ?_
  refine mm_fc (ss_iconst hx hb (by decide +kernel : decode cX7_neighbourOf 30 = .ok (.iconst (-1), 1)) (by decide)) ?_
  refine mm_fc (ss_goto hx hb (by decide +kernel : decode cX7_neighbourOf 31 = .ok (.goto 4, 3)) (by decide)) ?_
  refine mm_fc (ss_iconst hx hb (by decide +kernel : decode cX7_neighbourOf 34 = .ok (.iconst 1, 1)) (by decide)) ?_
  refine mm_fc (ss_iadd hx hb (by decide +kernel : decode cX7_neighbourOf 35 = .ok (.iadd, 1))) ?_
  refine mm_fc (ss_callV X rfl rfl wd_3_120 wd_1_8 wd_4_60 wd_3_118 wd_3_119 (by decide +kernel) (by decide +kernel) (by decide) (by decide +kernel : decode cX7_neighbourOf 36 = .ok (.invokevirtual 62, 3))) ?_
  refine mm_fc (ss_iret (by decide +kernel : decode cX7_neighbourOf 39 = .ok (.ireturn, 1)) rfl) ?_
  exact mm_fn
def cd_X7_setLook : mm_K mm_H := [(0, s_aload 0 1), (1, s_iload 1 2), (2, s_callV 7 102 1 1 5), (5, s_if (fun x => x = 0) 15 8), (8, s_aload 0 9), (9, s_get 7 3 12), (12, s_iload 1 13), (13, s_iload 2 14), (14, s_iast 15), (15, s_vret)]
set_option maxRecDepth 100000 in
set_option maxHeartbeats 4000000 in
theorem ok_X7_setLook (l : Launch) : mm_CodeOK l mm_I0 RX7 cX7_setLook 3 none cd_X7_setLook := by
  intro p e R s m args below meth c Q σ cA D A kc ks d C X
  have hx := X.1
  have hb := X.2.1
  have hown := X.2.2.2.1
  have hts := X.2.2.2.2.1
  refine mm_fc (ss_aload_n hx hb (by decide +kernel : decode cX7_setLook 0 = .ok (.aload_n 0, 1)) rfl) ?_
  refine mm_fc (ss_iload_n hx hb (by decide +kernel : decode cX7_setLook 1 = .ok (.iload_n 1, 1)) rfl) ?_
  refine mm_fc (ss_callV X rfl rfl wd_3_108 wd_1_8 wd_3_133 wd_3_106 wd_3_107 (by decide +kernel) (by decide +kernel) (by decide) (by decide +kernel : decode cX7_setLook 2 = .ok (.invokevirtual 55, 3))) ?_
  refine mm_fc (ss_ifeq hx hb (by decide +kernel : decode cX7_setLook 5 = .ok (.ifCond .eq 10, 3)) (by decide)) ?_
  refine mm_fc (ss_aload_n hx hb (by decide +kernel : decode cX7_setLook 8 = .ok (.aload_n 0, 1)) rfl) ?_
  refine mm_fc (ss_get X rfl in_X7 (by decide) rfl wd_1_156 (by decide +kernel : decode cX7_setLook 9 = .ok (.getfield 21, 3))) ?_
  refine mm_fc (ss_iload_n hx hb (by decide +kernel : decode cX7_setLook 12 = .ok (.iload_n 1, 1)) rfl) ?_
  refine mm_fc (ss_iload_n hx hb (by decide +kernel : decode cX7_setLook 13 = .ok (.iload_n 2, 1)) rfl) ?_
  refine mm_fc (ss_iast X (by decide +kernel : decode cX7_setLook 14 = .ok (.iastore, 1))) ?_
  refine mm_fc (ss_vret (by decide +kernel : decode cX7_setLook 15 = .ok (.return_, 1)) rfl) ?_
  exact mm_fn
def cd_X7_setFace : mm_K mm_H := [(0, s_aload 0 1), (1, s_iload 1 2), (2, s_callV 7 102 1 1 5), (5, s_if (fun x => x = 0) 15 8), (8, s_aload 0 9), (9, s_get 7 0 12), (12, s_iload 1 13), (13, s_iload 2 14), (14, s_iast 15), (15, s_vret)]
set_option maxRecDepth 100000 in
set_option maxHeartbeats 4000000 in
theorem ok_X7_setFace (l : Launch) : mm_CodeOK l mm_I0 RX7 cX7_setFace 3 none cd_X7_setFace := by
  intro p e R s m args below meth c Q σ cA D A kc ks d C X
  have hx := X.1
  have hb := X.2.1
  have hown := X.2.2.2.1
  have hts := X.2.2.2.2.1
  refine mm_fc (ss_aload_n hx hb (by decide +kernel : decode cX7_setFace 0 = .ok (.aload_n 0, 1)) rfl) ?_
  refine mm_fc (ss_iload_n hx hb (by decide +kernel : decode cX7_setFace 1 = .ok (.iload_n 1, 1)) rfl) ?_
  refine mm_fc (ss_callV X rfl rfl wd_3_108 wd_1_8 wd_3_133 wd_3_106 wd_3_107 (by decide +kernel) (by decide +kernel) (by decide) (by decide +kernel : decode cX7_setFace 2 = .ok (.invokevirtual 55, 3))) ?_
  refine mm_fc (ss_ifeq hx hb (by decide +kernel : decode cX7_setFace 5 = .ok (.ifCond .eq 10, 3)) (by decide)) ?_
  refine mm_fc (ss_aload_n hx hb (by decide +kernel : decode cX7_setFace 8 = .ok (.aload_n 0, 1)) rfl) ?_
  refine mm_fc (ss_get X rfl in_X7 (by decide) rfl wd_1_153 (by decide +kernel : decode cX7_setFace 9 = .ok (.getfield 9, 3))) ?_
  refine mm_fc (ss_iload_n hx hb (by decide +kernel : decode cX7_setFace 12 = .ok (.iload_n 1, 1)) rfl) ?_
  refine mm_fc (ss_iload_n hx hb (by decide +kernel : decode cX7_setFace 13 = .ok (.iload_n 2, 1)) rfl) ?_
  refine mm_fc (ss_iast X (by decide +kernel : decode cX7_setFace 14 = .ok (.iastore, 1))) ?_
  refine mm_fc (ss_vret (by decide +kernel : decode cX7_setFace 15 = .ok (.return_, 1)) rfl) ?_
  exact mm_fn
def cd_X7_setSparing : mm_K mm_H := [(0, s_aload 0 1), (1, s_iload 1 2), (2, s_callV 7 102 1 1 5), (5, s_if (fun x => x = 0) 15 8), (8, s_aload 0 9), (9, s_get 7 4 12), (12, s_iload 1 13), (13, s_iload 2 14), (14, s_iast 15), (15, s_vret)]
set_option maxRecDepth 100000 in
set_option maxHeartbeats 4000000 in
theorem ok_X7_setSparing (l : Launch) : mm_CodeOK l mm_I0 RX7 cX7_setSparing 3 none cd_X7_setSparing := by
  intro p e R s m args below meth c Q σ cA D A kc ks d C X
  have hx := X.1
  have hb := X.2.1
  have hown := X.2.2.2.1
  have hts := X.2.2.2.2.1
  refine mm_fc (ss_aload_n hx hb (by decide +kernel : decode cX7_setSparing 0 = .ok (.aload_n 0, 1)) rfl) ?_
  refine mm_fc (ss_iload_n hx hb (by decide +kernel : decode cX7_setSparing 1 = .ok (.iload_n 1, 1)) rfl) ?_
  refine mm_fc (ss_callV X rfl rfl wd_3_108 wd_1_8 wd_3_133 wd_3_106 wd_3_107 (by decide +kernel) (by decide +kernel) (by decide) (by decide +kernel : decode cX7_setSparing 2 = .ok (.invokevirtual 55, 3))) ?_
  refine mm_fc (ss_ifeq hx hb (by decide +kernel : decode cX7_setSparing 5 = .ok (.ifCond .eq 10, 3)) (by decide)) ?_
  refine mm_fc (ss_aload_n hx hb (by decide +kernel : decode cX7_setSparing 8 = .ok (.aload_n 0, 1)) rfl) ?_
  refine mm_fc (ss_get X rfl in_X7 (by decide) rfl wd_1_157 (by decide +kernel : decode cX7_setSparing 9 = .ok (.getfield 24, 3))) ?_
  refine mm_fc (ss_iload_n hx hb (by decide +kernel : decode cX7_setSparing 12 = .ok (.iload_n 1, 1)) rfl) ?_
  refine mm_fc (ss_iload_n hx hb (by decide +kernel : decode cX7_setSparing 13 = .ok (.iload_n 2, 1)) rfl) ?_
  refine mm_fc (ss_iast X (by decide +kernel : decode cX7_setSparing 14 = .ok (.iastore, 1))) ?_
  refine mm_fc (ss_vret (by decide +kernel : decode cX7_setSparing 15 = .ok (.return_, 1)) rfl) ?_
  exact mm_fn
def cd_X7_setThought : mm_K mm_H := [(0, s_aload 0 1), (1, s_iload 1 2), (2, s_iload 2 3), (3, s_callV 7 103 2 1 6), (6, s_if (fun x => x = 0) 21 9), (9, s_aload 0 10), (10, s_get 7 5 13), (13, s_iload 1 14), (14, s_pushI 8 16), (16, s_bin (fun x y => x * y) 17), (17, s_iload 2 18), (18, s_bin (fun x y => x + y) 19), (19, s_iload 3 20), (20, s_iast 21), (21, s_vret)]
set_option maxRecDepth 100000 in
set_option maxHeartbeats 4000000 in
theorem ok_X7_setThought (l : Launch) : mm_CodeOK l mm_I0 RX7 cX7_setThought 4 none cd_X7_setThought := by
  intro p e R s m args below meth c Q σ cA D A kc ks d C X
  have hx := X.1
  have hb := X.2.1
  have hown := X.2.2.2.1
  have hts := X.2.2.2.2.1
  refine mm_fc (ss_aload_n hx hb (by decide +kernel : decode cX7_setThought 0 = .ok (.aload_n 0, 1)) rfl) ?_
  refine mm_fc (ss_iload_n hx hb (by decide +kernel : decode cX7_setThought 1 = .ok (.iload_n 1, 1)) rfl) ?_
  refine mm_fc (ss_iload_n hx hb (by decide +kernel : decode cX7_setThought 2 = .ok (.iload_n 2, 1)) rfl) ?_
  refine mm_fc (ss_callV X rfl rfl wd_3_141 wd_1_8 wd_3_138 wd_3_139 wd_3_140 (by decide +kernel) (by decide +kernel) (by decide) (by decide +kernel : decode cX7_setThought 3 = .ok (.invokevirtual 66, 3))) ?_
  refine mm_fc (ss_ifeq hx hb (by decide +kernel : decode cX7_setThought 6 = .ok (.ifCond .eq 15, 3)) (by decide)) ?_
  refine mm_fc (ss_aload_n hx hb (by decide +kernel : decode cX7_setThought 9 = .ok (.aload_n 0, 1)) rfl) ?_
  refine mm_fc (ss_get X rfl in_X7 (by decide) rfl wd_1_158 (by decide +kernel : decode cX7_setThought 10 = .ok (.getfield 27, 3))) ?_
  refine mm_fc (ss_iload_n hx hb (by decide +kernel : decode cX7_setThought 13 = .ok (.iload_n 1, 1)) rfl) ?_
  refine mm_fc (ss_bipush hx hb (by decide +kernel : decode cX7_setThought 14 = .ok (.bipush 8, 2)) (by decide)) ?_
  refine mm_fc (ss_imul hx hb (by decide +kernel : decode cX7_setThought 16 = .ok (.imul, 1))) ?_
  refine mm_fc (ss_iload_n hx hb (by decide +kernel : decode cX7_setThought 17 = .ok (.iload_n 2, 1)) rfl) ?_
  refine mm_fc (ss_iadd hx hb (by decide +kernel : decode cX7_setThought 18 = .ok (.iadd, 1))) ?_
  refine mm_fc (ss_iload_n hx hb (by decide +kernel : decode cX7_setThought 19 = .ok (.iload_n 3, 1)) rfl) ?_
  refine mm_fc (ss_iast X (by decide +kernel : decode cX7_setThought 20 = .ok (.iastore, 1))) ?_
  refine mm_fc (ss_vret (by decide +kernel : decode cX7_setThought 21 = .ok (.return_, 1)) rfl) ?_
  exact mm_fn
def cd_X7_place : mm_K mm_H := [(0, s_aload 0 1), (1, s_iload 2 2), (2, s_callV 7 101 1 1 5), (5, s_if (fun x => x = 0) 15 8), (8, s_aload 0 9), (9, s_get 7 6 12), (12, s_iload 2 13), (13, s_iload 1 14), (14, s_iast 15), (15, s_aload 0 16), (16, s_iload 1 17), (17, s_callV 7 102 1 1 20), (20, s_if (fun x => x = 0) 30 23), (23, s_aload 0 24), (24, s_get 7 2 27), (27, s_iload 1 28), (28, s_iload 2 29), (29, s_iast 30), (30, s_vret)]
set_option maxRecDepth 100000 in
set_option maxHeartbeats 4000000 in
theorem ok_X7_place (l : Launch) : mm_CodeOK l mm_I0 RX7 cX7_place 3 none cd_X7_place := by
  intro p e R s m args below meth c Q σ cA D A kc ks d C X
  have hx := X.1
  have hb := X.2.1
  have hown := X.2.2.2.1
  have hts := X.2.2.2.2.1
  refine mm_fc (ss_aload_n hx hb (by decide +kernel : decode cX7_place 0 = .ok (.aload_n 0, 1)) rfl) ?_
  refine mm_fc (ss_iload_n hx hb (by decide +kernel : decode cX7_place 1 = .ok (.iload_n 2, 1)) rfl) ?_
  refine mm_fc (ss_callV X rfl rfl wd_3_124 wd_1_8 wd_3_121 wd_3_122 wd_3_123 (by decide +kernel) (by decide +kernel) (by decide) (by decide +kernel : decode cX7_place 2 = .ok (.invokevirtual 59, 3))) ?_
  refine mm_fc (ss_ifeq hx hb (by decide +kernel : decode cX7_place 5 = .ok (.ifCond .eq 10, 3)) (by decide)) ?_
  refine mm_fc (ss_aload_n hx hb (by decide +kernel : decode cX7_place 8 = .ok (.aload_n 0, 1)) rfl) ?_
  refine mm_fc (ss_get X rfl in_X7 (by decide) rfl wd_1_159 (by decide +kernel : decode cX7_place 9 = .ok (.getfield 30, 3))) ?_
  refine mm_fc (ss_iload_n hx hb (by decide +kernel : decode cX7_place 12 = .ok (.iload_n 2, 1)) rfl) ?_
  refine mm_fc (ss_iload_n hx hb (by decide +kernel : decode cX7_place 13 = .ok (.iload_n 1, 1)) rfl) ?_
  refine mm_fc (ss_iast X (by decide +kernel : decode cX7_place 14 = .ok (.iastore, 1))) ?_
  refine mm_fc (ss_aload_n hx hb (by decide +kernel : decode cX7_place 15 = .ok (.aload_n 0, 1)) rfl) ?_
  refine mm_fc (ss_iload_n hx hb (by decide +kernel : decode cX7_place 16 = .ok (.iload_n 1, 1)) rfl) ?_
  refine mm_fc (ss_callV X rfl rfl wd_3_108 wd_1_8 wd_3_133 wd_3_106 wd_3_107 (by decide +kernel) (by decide +kernel) (by decide) (by decide +kernel : decode cX7_place 17 = .ok (.invokevirtual 55, 3))) ?_
  refine mm_fc (ss_ifeq hx hb (by decide +kernel : decode cX7_place 20 = .ok (.ifCond .eq 10, 3)) (by decide)) ?_
  refine mm_fc (ss_aload_n hx hb (by decide +kernel : decode cX7_place 23 = .ok (.aload_n 0, 1)) rfl) ?_
  refine mm_fc (ss_get X rfl in_X7 (by decide) rfl wd_1_155 (by decide +kernel : decode cX7_place 24 = .ok (.getfield 18, 3))) ?_
  refine mm_fc (ss_iload_n hx hb (by decide +kernel : decode cX7_place 27 = .ok (.iload_n 1, 1)) rfl) ?_
  refine mm_fc (ss_iload_n hx hb (by decide +kernel : decode cX7_place 28 = .ok (.iload_n 2, 1)) rfl) ?_
  refine mm_fc (ss_iast X (by decide +kernel : decode cX7_place 29 = .ok (.iastore, 1))) ?_
  refine mm_fc (ss_vret (by decide +kernel : decode cX7_place 30 = .ok (.return_, 1)) rfl) ?_
  exact mm_fn
def cd_X7_swapHouses : mm_K mm_H := [(0, s_aload 0 1), (1, s_iload 1 2), (2, s_callV 7 104 1 1 5), (5, s_istore 3 6), (6, s_aload 0 7), (7, s_aload 0 8), (8, s_iload 2 9), (9, s_callV 7 104 1 1 12), (12, s_iload 1 13), (13, s_callV 7 116 2 0 16), (16, s_aload 0 17), (17, s_iload 3 18), (18, s_iload 2 19), (19, s_callV 7 116 2 0 22), (22, s_vret)]
set_option maxRecDepth 100000 in
set_option maxHeartbeats 4000000 in
theorem ok_X7_swapHouses (l : Launch) : mm_CodeOK l mm_I0 RX7 cX7_swapHouses 4 none cd_X7_swapHouses := by
  intro p e R s m args below meth c Q σ cA D A kc ks d C X
  have hx := X.1
  have hb := X.2.1
  have hown := X.2.2.2.1
  have hts := X.2.2.2.2.1
  refine mm_fc (ss_aload_n hx hb (by decide +kernel : decode cX7_swapHouses 0 = .ok (.aload_n 0, 1)) rfl) ?_
  refine mm_fc (ss_iload_n hx hb (by decide +kernel : decode cX7_swapHouses 1 = .ok (.iload_n 1, 1)) rfl) ?_
  refine mm_fc (ss_callV X rfl rfl wd_3_120 wd_1_8 wd_4_60 wd_3_118 wd_3_119 (by decide +kernel) (by decide +kernel) (by decide) (by decide +kernel : decode cX7_swapHouses 2 = .ok (.invokevirtual 62, 3))) ?_
  refine mm_fc (ss_istore_n hx hb (by decide +kernel : decode cX7_swapHouses 5 = .ok (.istore_n 3, 1)) rfl (by decide)) ?_
  refine mm_fc (ss_aload_n hx hb (by decide +kernel : decode cX7_swapHouses 6 = .ok (.aload_n 0, 1)) rfl) ?_
  refine mm_fc (ss_aload_n hx hb (by decide +kernel : decode cX7_swapHouses 7 = .ok (.aload_n 0, 1)) rfl) ?_
  refine mm_fc (ss_iload_n hx hb (by decide +kernel : decode cX7_swapHouses 8 = .ok (.iload_n 2, 1)) rfl) ?_
  refine mm_fc (ss_callV X rfl rfl wd_3_120 wd_1_8 wd_4_60 wd_3_118 wd_3_119 (by decide +kernel) (by decide +kernel) (by decide) (by decide +kernel : decode cX7_swapHouses 9 = .ok (.invokevirtual 62, 3))) ?_
  refine mm_fc (ss_iload_n hx hb (by decide +kernel : decode cX7_swapHouses 12 = .ok (.iload_n 1, 1)) rfl) ?_
  refine mm_fc (ss_callV X rfl rfl wd_3_132 wd_1_8 wd_3_129 wd_3_130 wd_3_131 (by decide +kernel) (by decide +kernel) (by decide) (by decide +kernel : decode cX7_swapHouses 13 = .ok (.invokevirtual 70, 3))) ?_
  refine mm_fc (ss_aload_n hx hb (by decide +kernel : decode cX7_swapHouses 16 = .ok (.aload_n 0, 1)) rfl) ?_
  refine mm_fc (ss_iload_n hx hb (by decide +kernel : decode cX7_swapHouses 17 = .ok (.iload_n 3, 1)) rfl) ?_
  refine mm_fc (ss_iload_n hx hb (by decide +kernel : decode cX7_swapHouses 18 = .ok (.iload_n 2, 1)) rfl) ?_
  refine mm_fc (ss_callV X rfl rfl wd_3_132 wd_1_8 wd_3_129 wd_3_130 wd_3_131 (by decide +kernel) (by decide +kernel) (by decide) (by decide +kernel : decode cX7_swapHouses 19 = .ok (.invokevirtual 70, 3))) ?_
  refine mm_fc (ss_vret (by decide +kernel : decode cX7_swapHouses 22 = .ok (.return_, 1)) rfl) ?_
  exact mm_fn
def cd_X7_moveIn : mm_K mm_H := [(0, s_aload 0 1), (1, s_get 7 10 4), (4, s_pushI 8 6), (6, s_icmp (fun x y => x < y) 10 9), (9, s_vret), (10, s_aload 0 11), (11, s_get 7 10 14), (14, s_istore 4 16), (16, s_aload 0 17), (17, s_dup 18), (18, s_get 7 10 21), (21, s_pushI 1 22), (22, s_bin (fun x y => x + y) 23), (23, s_putI 7 10 26), (26, s_aload 0 27), (27, s_get 7 0 30), (30, s_iload 4 32), (32, s_iload 2 33), (33, s_iast 34), (34, s_aload 0 35), (35, s_get 7 1 38), (38, s_iload 4 40), (40, s_iload 3 41), (41, s_iast 42), (42, s_aload 0 43), (43, s_get 7 3 46), (46, s_iload 4 48), (48, s_iload 2 49), (49, s_pushI 10 51), (51, s_bin (fun x y => x * y) 52), (52, s_iast 53), (53, s_aload 0 54), (54, s_get 7 4 57), (57, s_iload 4 59), (59, s_pushI 0 60), (60, s_iast 61), (61, s_aload 0 62), (62, s_iload 4 64), (64, s_iload 1 65), (65, s_callV 7 116 2 0 68), (68, s_pushI 0 69), (69, s_kill 71 [1, 2, 3] (s_istore 5 71)), (71, s_iload 5 73), (73, s_iload 4 75), (75, s_icmp (fun x y => y ≤ x) 102 78), (78, s_aload 0 79), (79, s_iload 4 81), (81, s_iload 5 83), (83, s_pushI 5 84), (84, s_callV 7 115 3 0 87), (87, s_aload 0 88), (88, s_iload 5 90), (90, s_iload 4 92), (92, s_pushI 5 93), (93, s_callV 7 115 3 0 96), (96, s_iinc 5 1 99), (99, s_kill 71 [1, 2, 3] (s_goto 71)), (102, s_vret)]
set_option maxRecDepth 100000 in
set_option maxHeartbeats 4000000 in
theorem ok_X7_moveIn (l : Launch) : mm_CodeOK l mm_I0 RX7 cX7_moveIn 6 none cd_X7_moveIn := by
  intro p e R s m args below meth c Q σ cA D A kc ks d C X
  have hx := X.1
  have hb := X.2.1
  have hown := X.2.2.2.1
  have hts := X.2.2.2.2.1
  refine mm_fc (ss_aload_n hx hb (by decide +kernel : decode cX7_moveIn 0 = .ok (.aload_n 0, 1)) rfl) ?_
  refine mm_fc (ss_get X rfl in_X7 (by decide) rfl wd_1_170 (by decide +kernel : decode cX7_moveIn 1 = .ok (.getfield 43, 3))) ?_
  refine mm_fc (ss_bipush hx hb (by decide +kernel : decode cX7_moveIn 4 = .ok (.bipush 8, 2)) (by decide)) ?_
  refine mm_fc (ss_icmplt hx hb (by decide +kernel : decode cX7_moveIn 6 = .ok (.if_icmp .lt 4, 3)) (by decide)) ?_
  refine mm_fc (ss_vret (by decide +kernel : decode cX7_moveIn 9 = .ok (.return_, 1)) rfl) ?_
  refine mm_fc (ss_aload_n hx hb (by decide +kernel : decode cX7_moveIn 10 = .ok (.aload_n 0, 1)) rfl) ?_
  refine mm_fc (ss_get X rfl in_X7 (by decide) rfl wd_1_170 (by decide +kernel : decode cX7_moveIn 11 = .ok (.getfield 43, 3))) ?_
  refine mm_fc (ss_istore hx hb (by decide +kernel : decode cX7_moveIn 14 = .ok (.istore 4, 2)) (by decide)) ?_
  refine mm_fc (ss_aload_n hx hb (by decide +kernel : decode cX7_moveIn 16 = .ok (.aload_n 0, 1)) rfl) ?_
  refine mm_fc (ss_dup hx hb (by decide +kernel : decode cX7_moveIn 17 = .ok (.dup, 1))) ?_
  refine mm_fc (ss_get X rfl in_X7 (by decide) rfl wd_1_170 (by decide +kernel : decode cX7_moveIn 18 = .ok (.getfield 43, 3))) ?_
  refine mm_fc (ss_iconst hx hb (by decide +kernel : decode cX7_moveIn 21 = .ok (.iconst 1, 1)) (by decide)) ?_
  refine mm_fc (ss_iadd hx hb (by decide +kernel : decode cX7_moveIn 22 = .ok (.iadd, 1))) ?_
  refine mm_fc (ss_putI X rfl in_X7 tyX7_ok nmX7 (by decide) rfl rfl rfl rfl wd_1_170 (by decide +kernel : decode cX7_moveIn 23 = .ok (.putfield 43, 3))) ?_
  refine mm_fc (ss_aload_n hx hb (by decide +kernel : decode cX7_moveIn 26 = .ok (.aload_n 0, 1)) rfl) ?_
  refine mm_fc (ss_get X rfl in_X7 (by decide) rfl wd_1_153 (by decide +kernel : decode cX7_moveIn 27 = .ok (.getfield 9, 3))) ?_
  refine mm_fc (ss_iload hx hb (by decide +kernel : decode cX7_moveIn 30 = .ok (.iload 4, 2))) ?_
  refine mm_fc (ss_iload_n hx hb (by decide +kernel : decode cX7_moveIn 32 = .ok (.iload_n 2, 1)) rfl) ?_
  refine mm_fc (ss_iast X (by decide +kernel : decode cX7_moveIn 33 = .ok (.iastore, 1))) ?_
  refine mm_fc (ss_aload_n hx hb (by decide +kernel : decode cX7_moveIn 34 = .ok (.aload_n 0, 1)) rfl) ?_
  refine mm_fc (ss_get X rfl in_X7 (by decide) rfl wd_1_154 (by decide +kernel : decode cX7_moveIn 35 = .ok (.getfield 15, 3))) ?_
  refine mm_fc (ss_iload hx hb (by decide +kernel : decode cX7_moveIn 38 = .ok (.iload 4, 2))) ?_
  refine mm_fc (ss_iload_n hx hb (by decide +kernel : decode cX7_moveIn 40 = .ok (.iload_n 3, 1)) rfl) ?_
  refine mm_fc (ss_iast X (by decide +kernel : decode cX7_moveIn 41 = .ok (.iastore, 1))) ?_
  refine mm_fc (ss_aload_n hx hb (by decide +kernel : decode cX7_moveIn 42 = .ok (.aload_n 0, 1)) rfl) ?_
  refine mm_fc (ss_get X rfl in_X7 (by decide) rfl wd_1_156 (by decide +kernel : decode cX7_moveIn 43 = .ok (.getfield 21, 3))) ?_
  refine mm_fc (ss_iload hx hb (by decide +kernel : decode cX7_moveIn 46 = .ok (.iload 4, 2))) ?_
  refine mm_fc (ss_iload_n hx hb (by decide +kernel : decode cX7_moveIn 48 = .ok (.iload_n 2, 1)) rfl) ?_
  refine mm_fc (ss_bipush hx hb (by decide +kernel : decode cX7_moveIn 49 = .ok (.bipush 10, 2)) (by decide)) ?_
  refine mm_fc (ss_imul hx hb (by decide +kernel : decode cX7_moveIn 51 = .ok (.imul, 1))) ?_
  refine mm_fc (ss_iast X (by decide +kernel : decode cX7_moveIn 52 = .ok (.iastore, 1))) ?_
  refine mm_fc (ss_aload_n hx hb (by decide +kernel : decode cX7_moveIn 53 = .ok (.aload_n 0, 1)) rfl) ?_
  refine mm_fc (ss_get X rfl in_X7 (by decide) rfl wd_1_157 (by decide +kernel : decode cX7_moveIn 54 = .ok (.getfield 24, 3))) ?_
  refine mm_fc (ss_iload hx hb (by decide +kernel : decode cX7_moveIn 57 = .ok (.iload 4, 2))) ?_
  refine mm_fc (ss_iconst hx hb (by decide +kernel : decode cX7_moveIn 59 = .ok (.iconst 0, 1)) (by decide)) ?_
  refine mm_fc (ss_iast X (by decide +kernel : decode cX7_moveIn 60 = .ok (.iastore, 1))) ?_
  refine mm_fc (ss_aload_n hx hb (by decide +kernel : decode cX7_moveIn 61 = .ok (.aload_n 0, 1)) rfl) ?_
  refine mm_fc (ss_iload hx hb (by decide +kernel : decode cX7_moveIn 62 = .ok (.iload 4, 2))) ?_
  refine mm_fc (ss_iload_n hx hb (by decide +kernel : decode cX7_moveIn 64 = .ok (.iload_n 1, 1)) rfl) ?_
  refine mm_fc (ss_callV X rfl rfl wd_3_132 wd_1_8 wd_3_129 wd_3_130 wd_3_131 (by decide +kernel) (by decide +kernel) (by decide) (by decide +kernel : decode cX7_moveIn 65 = .ok (.invokevirtual 70, 3))) ?_
  refine mm_fc (ss_iconst hx hb (by decide +kernel : decode cX7_moveIn 68 = .ok (.iconst 0, 1)) (by decide)) ?_
  refine mm_fc (ss_kill (ss_istore hx hb (by decide +kernel : decode cX7_moveIn 69 = .ok (.istore 5, 2)) (by decide))) ?_
  refine mm_fc (ss_iload hx hb (by decide +kernel : decode cX7_moveIn 71 = .ok (.iload 5, 2))) ?_
  refine mm_fc (ss_iload hx hb (by decide +kernel : decode cX7_moveIn 73 = .ok (.iload 4, 2))) ?_
  refine mm_fc (ss_icmpge hx hb (by decide +kernel : decode cX7_moveIn 75 = .ok (.if_icmp .ge 27, 3)) (by decide)) ?_
  refine mm_fc (ss_aload_n hx hb (by decide +kernel : decode cX7_moveIn 78 = .ok (.aload_n 0, 1)) rfl) ?_
  refine mm_fc (ss_iload hx hb (by decide +kernel : decode cX7_moveIn 79 = .ok (.iload 4, 2))) ?_
  refine mm_fc (ss_iload hx hb (by decide +kernel : decode cX7_moveIn 81 = .ok (.iload 5, 2))) ?_
  refine mm_fc (ss_iconst hx hb (by decide +kernel : decode cX7_moveIn 83 = .ok (.iconst 5, 1)) (by decide)) ?_
  refine mm_fc (ss_callV X rfl rfl wd_3_137 wd_1_8 wd_3_134 wd_3_135 wd_3_136 (by decide +kernel) (by decide +kernel) (by decide) (by decide +kernel : decode cX7_moveIn 84 = .ok (.invokevirtual 74, 3))) ?_
  refine mm_fc (ss_aload_n hx hb (by decide +kernel : decode cX7_moveIn 87 = .ok (.aload_n 0, 1)) rfl) ?_
  refine mm_fc (ss_iload hx hb (by decide +kernel : decode cX7_moveIn 88 = .ok (.iload 5, 2))) ?_
  refine mm_fc (ss_iload hx hb (by decide +kernel : decode cX7_moveIn 90 = .ok (.iload 4, 2))) ?_
  refine mm_fc (ss_iconst hx hb (by decide +kernel : decode cX7_moveIn 92 = .ok (.iconst 5, 1)) (by decide)) ?_
  refine mm_fc (ss_callV X rfl rfl wd_3_137 wd_1_8 wd_3_134 wd_3_135 wd_3_136 (by decide +kernel) (by decide +kernel) (by decide) (by decide +kernel : decode cX7_moveIn 93 = .ok (.invokevirtual 74, 3))) ?_
  refine mm_fc (ss_iinc hx hb (by decide +kernel : decode cX7_moveIn 96 = .ok (.iinc 5 1, 3)) (by decide) (by decide)) ?_
  refine mm_fc (ss_kill (ss_goto hx hb (by decide +kernel : decode cX7_moveIn 99 = .ok (.goto (-28), 3)) (by decide))) ?_
  refine mm_fc (ss_vret (by decide +kernel : decode cX7_moveIn 102 = .ok (.return_, 1)) rfl) ?_
  exact mm_fn
def cd_X7_keep : mm_K mm_H := [(0, s_aload 0 1), (1, s_get 7 7 4), (4, s_aload 0 5), (5, s_get 7 8 8), (8, s_pushI 40 10), (10, s_callS 8 2 1 13), (13, s_aload 0 14), (14, s_get 7 11 17), (17, s_pushI 8 19), (19, s_bin (fun x y => x * y) 20), (20, s_iload 1 21), (21, s_bin (fun x y => x + y) 22), (22, s_pushI 8 24), (24, s_bin (fun x y => x * y) 25), (25, s_iload 2 26), (26, s_bin (fun x y => x + y) 27), (27, s_iast 28), (28, s_aload 0 29), (29, s_dup 30), (30, s_get 7 8 33), (33, s_pushI 1 34), (34, s_bin (fun x y => x + y) 35), (35, s_putI 7 8 38), (38, s_vret)]
set_option maxRecDepth 100000 in
set_option maxHeartbeats 4000000 in
theorem ok_X7_keep (l : Launch) : mm_CodeOK l mm_I0 RX7 cX7_keep 3 none cd_X7_keep := by
  intro p e R s m args below meth c Q σ cA D A kc ks d C X
  have hx := X.1
  have hb := X.2.1
  have hown := X.2.2.2.1
  have hts := X.2.2.2.2.1
  refine mm_fc (ss_aload_n hx hb (by decide +kernel : decode cX7_keep 0 = .ok (.aload_n 0, 1)) rfl) ?_
  refine mm_fc (ss_get X rfl in_X7 (by decide) rfl wd_1_160 (by decide +kernel : decode cX7_keep 1 = .ok (.getfield 33, 3))) ?_
  refine mm_fc (ss_aload_n hx hb (by decide +kernel : decode cX7_keep 4 = .ok (.aload_n 0, 1)) rfl) ?_
  refine mm_fc (ss_get X rfl in_X7 (by decide) rfl wd_1_161 (by decide +kernel : decode cX7_keep 5 = .ok (.getfield 36, 3))) ?_
  refine mm_fc (ss_bipush hx hb (by decide +kernel : decode cX7_keep 8 = .ok (.bipush 40, 2)) (by decide)) ?_
  refine mm_fc (ss_callS X rfl wd_4_205 wd_1_14 wd_4_203 wd_4_204 (by decide +kernel) (by decide +kernel) (by decide) (by decide +kernel : decode cX7_keep 10 = .ok (.invokestatic 78, 3))) ?_
  refine mm_fc (ss_aload_n hx hb (by decide +kernel : decode cX7_keep 13 = .ok (.aload_n 0, 1)) rfl) ?_
  refine mm_fc (ss_get X rfl in_X7 (by decide) rfl wd_1_177 (by decide +kernel : decode cX7_keep 14 = .ok (.getfield 46, 3))) ?_
  refine mm_fc (ss_bipush hx hb (by decide +kernel : decode cX7_keep 17 = .ok (.bipush 8, 2)) (by decide)) ?_
  refine mm_fc (ss_imul hx hb (by decide +kernel : decode cX7_keep 19 = .ok (.imul, 1))) ?_
  refine mm_fc (ss_iload_n hx hb (by decide +kernel : decode cX7_keep 20 = .ok (.iload_n 1, 1)) rfl) ?_
  refine mm_fc (ss_iadd hx hb (by decide +kernel : decode cX7_keep 21 = .ok (.iadd, 1))) ?_
  refine mm_fc (ss_bipush hx hb (by decide +kernel : decode cX7_keep 22 = .ok (.bipush 8, 2)) (by decide)) ?_
  refine mm_fc (ss_imul hx hb (by decide +kernel : decode cX7_keep 24 = .ok (.imul, 1))) ?_
  refine mm_fc (ss_iload_n hx hb (by decide +kernel : decode cX7_keep 25 = .ok (.iload_n 2, 1)) rfl) ?_
  refine mm_fc (ss_iadd hx hb (by decide +kernel : decode cX7_keep 26 = .ok (.iadd, 1))) ?_
  refine mm_fc (ss_iast X (by decide +kernel : decode cX7_keep 27 = .ok (.iastore, 1))) ?_
  refine mm_fc (ss_aload_n hx hb (by decide +kernel : decode cX7_keep 28 = .ok (.aload_n 0, 1)) rfl) ?_
  refine mm_fc (ss_dup hx hb (by decide +kernel : decode cX7_keep 29 = .ok (.dup, 1))) ?_
  refine mm_fc (ss_get X rfl in_X7 (by decide) rfl wd_1_161 (by decide +kernel : decode cX7_keep 30 = .ok (.getfield 36, 3))) ?_
  refine mm_fc (ss_iconst hx hb (by decide +kernel : decode cX7_keep 33 = .ok (.iconst 1, 1)) (by decide)) ?_
  refine mm_fc (ss_iadd hx hb (by decide +kernel : decode cX7_keep 34 = .ok (.iadd, 1))) ?_
  refine mm_fc (ss_putI X rfl in_X7 tyX7_ok nmX7 (by decide) rfl rfl rfl rfl wd_1_161 (by decide +kernel : decode cX7_keep 35 = .ok (.putfield 36, 3))) ?_
  refine mm_fc (ss_vret (by decide +kernel : decode cX7_keep 38 = .ok (.return_, 1)) rfl) ?_
  exact mm_fn
def cd_X7_countKept : mm_K mm_H := [(0, s_aload 0 1), (1, s_get 7 8 4), (4, s_pushI 40 6), (6, s_callS 11 2 1 9), (9, s_iret)]
set_option maxRecDepth 100000 in
set_option maxHeartbeats 4000000 in
theorem ok_X7_countKept (l : Launch) : mm_CodeOK l mm_I0 RX7 cX7_countKept 1 (some .int) cd_X7_countKept := by
  intro p e R s m args below meth c Q σ cA D A kc ks d C X
  have hx := X.1
  have hb := X.2.1
  have hown := X.2.2.2.1
  have hts := X.2.2.2.2.1
  refine mm_fc (ss_aload_n hx hb (by decide +kernel : decode cX7_countKept 0 = .ok (.aload_n 0, 1)) rfl) ?_
  refine mm_fc (ss_get X rfl in_X7 (by decide) rfl wd_1_161 (by decide +kernel : decode cX7_countKept 1 = .ok (.getfield 36, 3))) ?_
  refine mm_fc (ss_bipush hx hb (by decide +kernel : decode cX7_countKept 4 = .ok (.bipush 40, 2)) (by decide)) ?_
  refine mm_fc (ss_callS X rfl wd_2_162 wd_1_14 wd_4_132 wd_2_161 (by decide +kernel) (by decide +kernel) (by decide) (by decide +kernel : decode cX7_countKept 6 = .ok (.invokestatic 84, 3))) ?_
  refine mm_fc (ss_iret (by decide +kernel : decode cX7_countKept 9 = .ok (.ireturn, 1)) rfl) ?_
  exact mm_fn
def cd_X7_keptAt : mm_K mm_H := [(0, s_iload 1 1), (1, s_if (fun x => x < 0) 12 4), (4, s_iload 1 5), (5, s_aload 0 6), (6, s_callV 7 120 0 1 9), (9, s_icmp (fun x y => x < y) 14 12), (12, s_pushI (-1) 13), (13, s_iret), (14, s_aload 0 15), (15, s_get 7 7 18), (18, s_aload 0 19), (19, s_get 7 8 22), (22, s_aload 0 23), (23, s_callV 7 120 0 1 26), (26, s_bin (fun x y => x - y) 27), (27, s_iload 1 28), (28, s_bin (fun x y => x + y) 29), (29, s_pushI 40 31), (31, s_callS 8 2 1 34), (34, s_iald 35), (35, s_istore 3 36), (36, s_iload 2 37), (37, s_sw [(0, 64), (1, 72), (2, 80)] 85), (64, s_iload 3 65), (65, s_pushI 8 67), (67, s_bin0 (fun x y => x / y) 68), (68, s_pushI 8 70), (70, s_bin0 (fun x y => x / y) 71), (71, s_iret), (72, s_iload 3 73), (73, s_pushI 8 75), (75, s_bin0 (fun x y => x / y) 76), (76, s_pushI 8 78), (78, s_bin0 (fun x y => x - x / y * y) 79), (79, s_iret), (80, s_iload 3 81), (81, s_pushI 8 83), (83, s_bin0 (fun x y => x - x / y * y) 84), (84, s_iret), (85, s_pushI (-1) 86), (86, s_iret)]
set_option maxRecDepth 100000 in
set_option maxHeartbeats 4000000 in
theorem ok_X7_keptAt (l : Launch) : mm_CodeOK l mm_I0 RX7 cX7_keptAt 4 (some .int) cd_X7_keptAt := by
  intro p e R s m args below meth c Q σ cA D A kc ks d C X
  have hx := X.1
  have hb := X.2.1
  have hown := X.2.2.2.1
  have hts := X.2.2.2.2.1
  refine mm_fc (ss_iload_n hx hb (by decide +kernel : decode cX7_keptAt 0 = .ok (.iload_n 1, 1)) rfl) ?_
  refine mm_fc (ss_iflt hx hb (by decide +kernel : decode cX7_keptAt 1 = .ok (.ifCond .lt 11, 3)) (by decide)) ?_
  refine mm_fc (ss_iload_n hx hb (by decide +kernel : decode cX7_keptAt 4 = .ok (.iload_n 1, 1)) rfl) ?_
  refine mm_fc (ss_aload_n hx hb (by decide +kernel : decode cX7_keptAt 5 = .ok (.aload_n 0, 1)) rfl) ?_
  refine mm_fc (ss_callV X rfl rfl wd_4_131 wd_1_8 wd_4_202 wd_4_129 wd_4_130 (by decide +kernel) (by decide +kernel) (by decide) (by decide +kernel : decode cX7_keptAt 6 = .ok (.invokevirtual 87, 3))) ?_
  refine mm_fc (ss_icmplt hx hb (by decide +kernel : decode cX7_keptAt 9 = .ok (.if_icmp .lt 5, 3)) (by decide)) ?_
  refine mm_fc (ss_iconst hx hb (by decide +kernel : decode cX7_keptAt 12 = .ok (.iconst (-1), 1)) (by decide)) ?_
  refine mm_fc (ss_iret (by decide +kernel : decode cX7_keptAt 13 = .ok (.ireturn, 1)) rfl) ?_
  refine mm_fc (ss_aload_n hx hb (by decide +kernel : decode cX7_keptAt 14 = .ok (.aload_n 0, 1)) rfl) ?_
  refine mm_fc (ss_get X rfl in_X7 (by decide) rfl wd_1_160 (by decide +kernel : decode cX7_keptAt 15 = .ok (.getfield 33, 3))) ?_
  refine mm_fc (ss_aload_n hx hb (by decide +kernel : decode cX7_keptAt 18 = .ok (.aload_n 0, 1)) rfl) ?_
  refine mm_fc (ss_get X rfl in_X7 (by decide) rfl wd_1_161 (by decide +kernel : decode cX7_keptAt 19 = .ok (.getfield 36, 3))) ?_
  refine mm_fc (ss_aload_n hx hb (by decide +kernel : decode cX7_keptAt 22 = .ok (.aload_n 0, 1)) rfl) ?_
  refine mm_fc (ss_callV X rfl rfl wd_4_131 wd_1_8 wd_4_202 wd_4_129 wd_4_130 (by decide +kernel) (by decide +kernel) (by decide) (by decide +kernel : decode cX7_keptAt 23 = .ok (.invokevirtual 87, 3))) ?_
  refine mm_fc (ss_isub hx hb (by decide +kernel : decode cX7_keptAt 26 = .ok (.isub, 1))) ?_
  refine mm_fc (ss_iload_n hx hb (by decide +kernel : decode cX7_keptAt 27 = .ok (.iload_n 1, 1)) rfl) ?_
  refine mm_fc (ss_iadd hx hb (by decide +kernel : decode cX7_keptAt 28 = .ok (.iadd, 1))) ?_
  refine mm_fc (ss_bipush hx hb (by decide +kernel : decode cX7_keptAt 29 = .ok (.bipush 40, 2)) (by decide)) ?_
  refine mm_fc (ss_callS X rfl wd_4_205 wd_1_14 wd_4_203 wd_4_204 (by decide +kernel) (by decide +kernel) (by decide) (by decide +kernel : decode cX7_keptAt 31 = .ok (.invokestatic 78, 3))) ?_
  refine mm_fc (ss_iald X (by decide +kernel : decode cX7_keptAt 34 = .ok (.iaload, 1))) ?_
  refine mm_fc (ss_istore_n hx hb (by decide +kernel : decode cX7_keptAt 35 = .ok (.istore_n 3, 1)) rfl (by decide)) ?_
  refine mm_fc (ss_iload_n hx hb (by decide +kernel : decode cX7_keptAt 36 = .ok (.iload_n 2, 1)) rfl) ?_
  refine mm_fc (ss_table hx hb (by decide +kernel : decode cX7_keptAt 37 = .ok (.tableswitch 48 0 2 #[27, 35, 43], 27)) (by decide) (by decide) (by decide)) ?_
  refine mm_fc (ss_iload_n hx hb (by decide +kernel : decode cX7_keptAt 64 = .ok (.iload_n 3, 1)) rfl) ?_
  refine mm_fc (ss_bipush hx hb (by decide +kernel : decode cX7_keptAt 65 = .ok (.bipush 8, 2)) (by decide)) ?_
  refine mm_fc (ss_idiv hx hb (by decide +kernel : decode cX7_keptAt 67 = .ok (.idiv, 1))) ?_
  refine mm_fc (ss_bipush hx hb (by decide +kernel : decode cX7_keptAt 68 = .ok (.bipush 8, 2)) (by decide)) ?_
  refine mm_fc (ss_idiv hx hb (by decide +kernel : decode cX7_keptAt 70 = .ok (.idiv, 1))) ?_
  refine mm_fc (ss_iret (by decide +kernel : decode cX7_keptAt 71 = .ok (.ireturn, 1)) rfl) ?_
  refine mm_fc (ss_iload_n hx hb (by decide +kernel : decode cX7_keptAt 72 = .ok (.iload_n 3, 1)) rfl) ?_
  refine mm_fc (ss_bipush hx hb (by decide +kernel : decode cX7_keptAt 73 = .ok (.bipush 8, 2)) (by decide)) ?_
  refine mm_fc (ss_idiv hx hb (by decide +kernel : decode cX7_keptAt 75 = .ok (.idiv, 1))) ?_
  refine mm_fc (ss_bipush hx hb (by decide +kernel : decode cX7_keptAt 76 = .ok (.bipush 8, 2)) (by decide)) ?_
  refine mm_fc (ss_irem hx hb (by decide +kernel : decode cX7_keptAt 78 = .ok (.irem, 1))) ?_
  refine mm_fc (ss_iret (by decide +kernel : decode cX7_keptAt 79 = .ok (.ireturn, 1)) rfl) ?_
  refine mm_fc (ss_iload_n hx hb (by decide +kernel : decode cX7_keptAt 80 = .ok (.iload_n 3, 1)) rfl) ?_
  refine mm_fc (ss_bipush hx hb (by decide +kernel : decode cX7_keptAt 81 = .ok (.bipush 8, 2)) (by decide)) ?_
  refine mm_fc (ss_irem hx hb (by decide +kernel : decode cX7_keptAt 83 = .ok (.irem, 1))) ?_
  refine mm_fc (ss_iret (by decide +kernel : decode cX7_keptAt 84 = .ok (.ireturn, 1)) rfl) ?_
  refine mm_fc (ss_iconst hx hb (by decide +kernel : decode cX7_keptAt 85 = .ok (.iconst (-1), 1)) (by decide)) ?_
  refine mm_fc (ss_iret (by decide +kernel : decode cX7_keptAt 86 = .ok (.ireturn, 1)) rfl) ?_
  exact mm_fn
def cd_X7_countCurtains : mm_K mm_H := [(0, s_pushI 0 1), (1, s_istore 1 2), (2, s_pushI 0 3), (3, s_istore 2 4), (4, s_iload 2 5), (5, s_aload 0 6), (6, s_get 7 10 9), (9, s_icmp (fun x y => y ≤ x) 34 12), (12, s_iload 1 13), (13, s_aload 0 14), (14, s_iload 2 15), (15, s_callV 7 106 1 1 18), (18, s_if (fun x => ¬ x = 0) 25 21), (21, s_pushI 1 22), (22, s_goto 26), (25, s_pushI 0 26), (26, s_bin (fun x y => x + y) 27), (27, s_istore 1 28), (28, s_iinc 2 1 31), (31, s_goto 4), (34, s_iload 1 35), (35, s_iret)]
set_option maxRecDepth 100000 in
set_option maxHeartbeats 4000000 in
theorem ok_X7_countCurtains (l : Launch) : mm_CodeOK l mm_I0 RX7 cX7_countCurtains 3 (some .int) cd_X7_countCurtains := by
  intro p e R s m args below meth c Q σ cA D A kc ks d C X
  have hx := X.1
  have hb := X.2.1
  have hown := X.2.2.2.1
  have hts := X.2.2.2.2.1
  refine mm_fc (ss_iconst hx hb (by decide +kernel : decode cX7_countCurtains 0 = .ok (.iconst 0, 1)) (by decide)) ?_
  refine mm_fc (ss_istore_n hx hb (by decide +kernel : decode cX7_countCurtains 1 = .ok (.istore_n 1, 1)) rfl (by decide)) ?_
  refine mm_fc (ss_iconst hx hb (by decide +kernel : decode cX7_countCurtains 2 = .ok (.iconst 0, 1)) (by decide)) ?_
  refine mm_fc (ss_istore_n hx hb (by decide +kernel : decode cX7_countCurtains 3 = .ok (.istore_n 2, 1)) rfl (by decide)) ?_
  refine mm_fc (ss_iload_n hx hb (by decide +kernel : decode cX7_countCurtains 4 = .ok (.iload_n 2, 1)) rfl) ?_
  refine mm_fc (ss_aload_n hx hb (by decide +kernel : decode cX7_countCurtains 5 = .ok (.aload_n 0, 1)) rfl) ?_
  refine mm_fc (ss_get X rfl in_X7 (by decide) rfl wd_1_170 (by decide +kernel : decode cX7_countCurtains 6 = .ok (.getfield 43, 3))) ?_
  refine mm_fc (ss_icmpge hx hb (by decide +kernel : decode cX7_countCurtains 9 = .ok (.if_icmp .ge 25, 3)) (by decide)) ?_
  refine mm_fc (ss_iload_n hx hb (by decide +kernel : decode cX7_countCurtains 12 = .ok (.iload_n 1, 1)) rfl) ?_
  refine mm_fc (ss_aload_n hx hb (by decide +kernel : decode cX7_countCurtains 13 = .ok (.aload_n 0, 1)) rfl) ?_
  refine mm_fc (ss_iload_n hx hb (by decide +kernel : decode cX7_countCurtains 14 = .ok (.iload_n 2, 1)) rfl) ?_
  refine mm_fc (ss_callV X rfl rfl wd_4_42 wd_1_8 wd_4_39 wd_4_40 wd_4_41 (by decide +kernel) (by decide +kernel) (by decide) (by decide +kernel : decode cX7_countCurtains 15 = .ok (.invokevirtual 91, 3))) ?_
  refine mm_fc (ss_ifne hx hb (by decide +kernel : decode cX7_countCurtains 18 = .ok (.ifCond .ne 7, 3)) (by decide)) ?_
  refine mm_fc (ss_iconst hx hb (by decide +kernel : decode cX7_countCurtains 21 = .ok (.iconst 1, 1)) (by decide)) ?_
  refine mm_fc (ss_goto hx hb (by decide +kernel : decode cX7_countCurtains 22 = .ok (.goto 4, 3)) (by decide)) ?_
  refine mm_fc (ss_iconst hx hb (by decide +kernel : decode cX7_countCurtains 25 = .ok (.iconst 0, 1)) (by decide)) ?_
  refine mm_fc (ss_iadd hx hb (by decide +kernel : decode cX7_countCurtains 26 = .ok (.iadd, 1))) ?_
  refine mm_fc (ss_istore_n hx hb (by decide +kernel : decode cX7_countCurtains 27 = .ok (.istore_n 1, 1)) rfl (by decide)) ?_
  refine mm_fc (ss_iinc hx hb (by decide +kernel : decode cX7_countCurtains 28 = .ok (.iinc 2 1, 3)) (by decide) (by decide)) ?_
  refine mm_fc (ss_goto hx hb (by decide +kernel : decode cX7_countCurtains 31 = .ok (.goto (-27), 3)) (by decide)) ?_
  refine mm_fc (ss_iload_n hx hb (by decide +kernel : decode cX7_countCurtains 34 = .ok (.iload_n 1, 1)) rfl) ?_
  refine mm_fc (ss_iret (by decide +kernel : decode cX7_countCurtains 35 = .ok (.ireturn, 1)) rfl) ?_
  exact mm_fn
def cd_X7_countSparing : mm_K mm_H := [(0, s_pushI 0 1), (1, s_istore 1 2), (2, s_pushI 0 3), (3, s_istore 2 4), (4, s_iload 2 5), (5, s_aload 0 6), (6, s_get 7 10 9), (9, s_icmp (fun x y => y ≤ x) 26 12), (12, s_iload 1 13), (13, s_aload 0 14), (14, s_iload 2 15), (15, s_callV 7 109 1 1 18), (18, s_bin (fun x y => x + y) 19), (19, s_istore 1 20), (20, s_iinc 2 1 23), (23, s_goto 4), (26, s_iload 1 27), (27, s_iret)]
set_option maxRecDepth 100000 in
set_option maxHeartbeats 4000000 in
theorem ok_X7_countSparing (l : Launch) : mm_CodeOK l mm_I0 RX7 cX7_countSparing 3 (some .int) cd_X7_countSparing := by
  intro p e R s m args below meth c Q σ cA D A kc ks d C X
  have hx := X.1
  have hb := X.2.1
  have hown := X.2.2.2.1
  have hts := X.2.2.2.2.1
  refine mm_fc (ss_iconst hx hb (by decide +kernel : decode cX7_countSparing 0 = .ok (.iconst 0, 1)) (by decide)) ?_
  refine mm_fc (ss_istore_n hx hb (by decide +kernel : decode cX7_countSparing 1 = .ok (.istore_n 1, 1)) rfl (by decide)) ?_
  refine mm_fc (ss_iconst hx hb (by decide +kernel : decode cX7_countSparing 2 = .ok (.iconst 0, 1)) (by decide)) ?_
  refine mm_fc (ss_istore_n hx hb (by decide +kernel : decode cX7_countSparing 3 = .ok (.istore_n 2, 1)) rfl (by decide)) ?_
  refine mm_fc (ss_iload_n hx hb (by decide +kernel : decode cX7_countSparing 4 = .ok (.iload_n 2, 1)) rfl) ?_
  refine mm_fc (ss_aload_n hx hb (by decide +kernel : decode cX7_countSparing 5 = .ok (.aload_n 0, 1)) rfl) ?_
  refine mm_fc (ss_get X rfl in_X7 (by decide) rfl wd_1_170 (by decide +kernel : decode cX7_countSparing 6 = .ok (.getfield 43, 3))) ?_
  refine mm_fc (ss_icmpge hx hb (by decide +kernel : decode cX7_countSparing 9 = .ok (.if_icmp .ge 17, 3)) (by decide)) ?_
  refine mm_fc (ss_iload_n hx hb (by decide +kernel : decode cX7_countSparing 12 = .ok (.iload_n 1, 1)) rfl) ?_
  refine mm_fc (ss_aload_n hx hb (by decide +kernel : decode cX7_countSparing 13 = .ok (.aload_n 0, 1)) rfl) ?_
  refine mm_fc (ss_iload_n hx hb (by decide +kernel : decode cX7_countSparing 14 = .ok (.iload_n 2, 1)) rfl) ?_
  refine mm_fc (ss_callV X rfl rfl wd_4_50 wd_1_8 wd_4_47 wd_4_48 wd_4_49 (by decide +kernel) (by decide +kernel) (by decide) (by decide +kernel : decode cX7_countSparing 15 = .ok (.invokevirtual 94, 3))) ?_
  refine mm_fc (ss_iadd hx hb (by decide +kernel : decode cX7_countSparing 18 = .ok (.iadd, 1))) ?_
  refine mm_fc (ss_istore_n hx hb (by decide +kernel : decode cX7_countSparing 19 = .ok (.istore_n 1, 1)) rfl (by decide)) ?_
  refine mm_fc (ss_iinc hx hb (by decide +kernel : decode cX7_countSparing 20 = .ok (.iinc 2 1, 3)) (by decide) (by decide)) ?_
  refine mm_fc (ss_goto hx hb (by decide +kernel : decode cX7_countSparing 23 = .ok (.goto (-19), 3)) (by decide)) ?_
  refine mm_fc (ss_iload_n hx hb (by decide +kernel : decode cX7_countSparing 26 = .ok (.iload_n 1, 1)) rfl) ?_
  refine mm_fc (ss_iret (by decide +kernel : decode cX7_countSparing 27 = .ok (.ireturn, 1)) rfl) ?_
  exact mm_fn
def cd_X7_allLooks : mm_K mm_H := [(0, s_pushI 0 1), (1, s_istore 1 2), (2, s_pushI 0 3), (3, s_istore 2 4), (4, s_iload 2 5), (5, s_aload 0 6), (6, s_get 7 10 9), (9, s_icmp (fun x y => y ≤ x) 26 12), (12, s_iload 1 13), (13, s_aload 0 14), (14, s_iload 2 15), (15, s_callV 7 106 1 1 18), (18, s_bin (fun x y => x + y) 19), (19, s_istore 1 20), (20, s_iinc 2 1 23), (23, s_goto 4), (26, s_iload 1 27), (27, s_iret)]
set_option maxRecDepth 100000 in
set_option maxHeartbeats 4000000 in
theorem ok_X7_allLooks (l : Launch) : mm_CodeOK l mm_I0 RX7 cX7_allLooks 3 (some .int) cd_X7_allLooks := by
  intro p e R s m args below meth c Q σ cA D A kc ks d C X
  have hx := X.1
  have hb := X.2.1
  have hown := X.2.2.2.1
  have hts := X.2.2.2.2.1
  refine mm_fc (ss_iconst hx hb (by decide +kernel : decode cX7_allLooks 0 = .ok (.iconst 0, 1)) (by decide)) ?_
  refine mm_fc (ss_istore_n hx hb (by decide +kernel : decode cX7_allLooks 1 = .ok (.istore_n 1, 1)) rfl (by decide)) ?_
  refine mm_fc (ss_iconst hx hb (by decide +kernel : decode cX7_allLooks 2 = .ok (.iconst 0, 1)) (by decide)) ?_
  refine mm_fc (ss_istore_n hx hb (by decide +kernel : decode cX7_allLooks 3 = .ok (.istore_n 2, 1)) rfl (by decide)) ?_
  refine mm_fc (ss_iload_n hx hb (by decide +kernel : decode cX7_allLooks 4 = .ok (.iload_n 2, 1)) rfl) ?_
  refine mm_fc (ss_aload_n hx hb (by decide +kernel : decode cX7_allLooks 5 = .ok (.aload_n 0, 1)) rfl) ?_
  refine mm_fc (ss_get X rfl in_X7 (by decide) rfl wd_1_170 (by decide +kernel : decode cX7_allLooks 6 = .ok (.getfield 43, 3))) ?_
  refine mm_fc (ss_icmpge hx hb (by decide +kernel : decode cX7_allLooks 9 = .ok (.if_icmp .ge 17, 3)) (by decide)) ?_
  refine mm_fc (ss_iload_n hx hb (by decide +kernel : decode cX7_allLooks 12 = .ok (.iload_n 1, 1)) rfl) ?_
  refine mm_fc (ss_aload_n hx hb (by decide +kernel : decode cX7_allLooks 13 = .ok (.aload_n 0, 1)) rfl) ?_
  refine mm_fc (ss_iload_n hx hb (by decide +kernel : decode cX7_allLooks 14 = .ok (.iload_n 2, 1)) rfl) ?_
  refine mm_fc (ss_callV X rfl rfl wd_4_42 wd_1_8 wd_4_39 wd_4_40 wd_4_41 (by decide +kernel) (by decide +kernel) (by decide) (by decide +kernel : decode cX7_allLooks 15 = .ok (.invokevirtual 91, 3))) ?_
  refine mm_fc (ss_iadd hx hb (by decide +kernel : decode cX7_allLooks 18 = .ok (.iadd, 1))) ?_
  refine mm_fc (ss_istore_n hx hb (by decide +kernel : decode cX7_allLooks 19 = .ok (.istore_n 1, 1)) rfl (by decide)) ?_
  refine mm_fc (ss_iinc hx hb (by decide +kernel : decode cX7_allLooks 20 = .ok (.iinc 2 1, 3)) (by decide) (by decide)) ?_
  refine mm_fc (ss_goto hx hb (by decide +kernel : decode cX7_allLooks 23 = .ok (.goto (-19), 3)) (by decide)) ?_
  refine mm_fc (ss_iload_n hx hb (by decide +kernel : decode cX7_allLooks 26 = .ok (.iload_n 1, 1)) rfl) ?_
  refine mm_fc (ss_iret (by decide +kernel : decode cX7_allLooks 27 = .ok (.ireturn, 1)) rfl) ?_
  exact mm_fn
def cd_X8_size : mm_K mm_H := [(0, s_aload 0 1), (1, s_get 8 1 4), (4, s_iret)]
set_option maxRecDepth 100000 in
set_option maxHeartbeats 4000000 in
theorem ok_X8_size (l : Launch) : mm_CodeOK l mm_I0 RX8 cX8_size 1 (some .int) cd_X8_size := by
  intro p e R s m args below meth c Q σ cA D A kc ks d C X
  have hx := X.1
  have hb := X.2.1
  have hown := X.2.2.2.1
  have hts := X.2.2.2.2.1
  refine mm_fc (ss_aload_n hx hb (by decide +kernel : decode cX8_size 0 = .ok (.aload_n 0, 1)) rfl) ?_
  refine mm_fc (ss_get X rfl in_X8 (by decide) rfl wd_1_36 (by decide +kernel : decode cX8_size 1 = .ok (.getfield 15, 3))) ?_
  refine mm_fc (ss_iret (by decide +kernel : decode cX8_size 4 = .ok (.ireturn, 1)) rfl) ?_
  exact mm_fn
def cd_X8_byteAt : mm_K mm_H := [(0, s_iload 1 1), (1, s_if (fun x => x < 0) 30 4), (4, s_iload 1 5), (5, s_aload 0 6), (6, s_get 8 1 9), (9, s_icmp (fun x y => y ≤ x) 30 12), (12, s_iload 1 13), (13, s_aload 0 14), (14, s_get 8 0 17), (17, s_alen 18), (18, s_icmp (fun x y => y ≤ x) 30 21), (21, s_aload 0 22), (22, s_get 8 0 25), (25, s_iload 1 26), (26, s_iald 27), (27, s_goto 31), (30, s_pushI (-1) 31), (31, s_iret)]
set_option maxRecDepth 100000 in
set_option maxHeartbeats 4000000 in
theorem ok_X8_byteAt (l : Launch) : mm_CodeOK l mm_I0 RX8 cX8_byteAt 2 (some .int) cd_X8_byteAt := by
  intro p e R s m args below meth c Q σ cA D A kc ks d C X
  have hx := X.1
  have hb := X.2.1
  have hown := X.2.2.2.1
  have hts := X.2.2.2.2.1
  refine mm_fc (ss_iload_n hx hb (by decide +kernel : decode cX8_byteAt 0 = .ok (.iload_n 1, 1)) rfl) ?_
  refine mm_fc (ss_iflt hx hb (by decide +kernel : decode cX8_byteAt 1 = .ok (.ifCond .lt 29, 3)) (by decide)) ?_
  refine mm_fc (ss_iload_n hx hb (by decide +kernel : decode cX8_byteAt 4 = .ok (.iload_n 1, 1)) rfl) ?_
  refine mm_fc (ss_aload_n hx hb (by decide +kernel : decode cX8_byteAt 5 = .ok (.aload_n 0, 1)) rfl) ?_
  refine mm_fc (ss_get X rfl in_X8 (by decide) rfl wd_1_36 (by decide +kernel : decode cX8_byteAt 6 = .ok (.getfield 15, 3))) ?_
  refine mm_fc (ss_icmpge hx hb (by decide +kernel : decode cX8_byteAt 9 = .ok (.if_icmp .ge 21, 3)) (by decide)) ?_
  refine mm_fc (ss_iload_n hx hb (by decide +kernel : decode cX8_byteAt 12 = .ok (.iload_n 1, 1)) rfl) ?_
  refine mm_fc (ss_aload_n hx hb (by decide +kernel : decode cX8_byteAt 13 = .ok (.aload_n 0, 1)) rfl) ?_
  refine mm_fc (ss_get X rfl in_X8 (by decide) rfl wd_1_35 (by decide +kernel : decode cX8_byteAt 14 = .ok (.getfield 9, 3))) ?_
  refine mm_fc (ss_alen X (by decide +kernel : decode cX8_byteAt 17 = .ok (.arraylength, 1))) ?_
  refine mm_fc (ss_icmpge hx hb (by decide +kernel : decode cX8_byteAt 18 = .ok (.if_icmp .ge 12, 3)) (by decide)) ?_
  refine mm_fc (ss_aload_n hx hb (by decide +kernel : decode cX8_byteAt 21 = .ok (.aload_n 0, 1)) rfl) ?_
  refine mm_fc (ss_get X rfl in_X8 (by decide) rfl wd_1_35 (by decide +kernel : decode cX8_byteAt 22 = .ok (.getfield 9, 3))) ?_
  refine mm_fc (ss_iload_n hx hb (by decide +kernel : decode cX8_byteAt 25 = .ok (.iload_n 1, 1)) rfl) ?_
  refine mm_fc (ss_iald X (by decide +kernel : decode cX8_byteAt 26 = .ok (.iaload, 1))) ?_
  refine mm_fc (ss_goto hx hb (by decide +kernel : decode cX8_byteAt 27 = .ok (.goto 4, 3)) (by decide)) ?_
  refine mm_fc (ss_iconst hx hb (by decide +kernel : decode cX8_byteAt 30 = .ok (.iconst (-1), 1)) (by decide)) ?_
  refine mm_fc (ss_iret (by decide +kernel : decode cX8_byteAt 31 = .ok (.ireturn, 1)) rfl) ?_
  exact mm_fn
def cd_X8_addNumber : mm_K mm_H := [(0, s_pushI 24 2), (2, s_istore 2 3), (3, s_iload 2 4), (4, s_if (fun x => x < 0) 51 7), (7, s_aload 0 8), (8, s_get 8 1 11), (11, s_aload 0 12), (12, s_get 8 0 15), (15, s_alen 16), (16, s_icmp (fun x y => y ≤ x) 45 19), (19, s_aload 0 20), (20, s_get 8 0 23), (23, s_aload 0 24), (24, s_get 8 1 27), (27, s_iload 1 28), (28, s_iload 2 29), (29, s_bin (fun x y => x >>> (y &&& 31)) 30), (30, s_pushI 255 33), (33, s_bin (fun x y => x &&& y) 34), (34, s_iast 35), (35, s_aload 0 36), (36, s_dup 37), (37, s_get 8 1 40), (40, s_pushI 1 41), (41, s_bin (fun x y => x + y) 42), (42, s_putI 8 1 45), (45, s_iinc 2 (-8) 48), (48, s_goto 3), (51, s_vret)]
set_option maxRecDepth 100000 in
set_option maxHeartbeats 4000000 in
theorem ok_X8_addNumber (l : Launch) : mm_CodeOK l mm_I0 RX8 cX8_addNumber 3 none cd_X8_addNumber := by
  intro p e R s m args below meth c Q σ cA D A kc ks d C X
  have hx := X.1
  have hb := X.2.1
  have hown := X.2.2.2.1
  have hts := X.2.2.2.2.1
  refine mm_fc (ss_bipush hx hb (by decide +kernel : decode cX8_addNumber 0 = .ok (.bipush 24, 2)) (by decide)) ?_
  refine mm_fc (ss_istore_n hx hb (by decide +kernel : decode cX8_addNumber 2 = .ok (.istore_n 2, 1)) rfl (by decide)) ?_
  refine mm_fc (ss_iload_n hx hb (by decide +kernel : decode cX8_addNumber 3 = .ok (.iload_n 2, 1)) rfl) ?_
  refine mm_fc (ss_iflt hx hb (by decide +kernel : decode cX8_addNumber 4 = .ok (.ifCond .lt 47, 3)) (by decide)) ?_
  refine mm_fc (ss_aload_n hx hb (by decide +kernel : decode cX8_addNumber 7 = .ok (.aload_n 0, 1)) rfl) ?_
  refine mm_fc (ss_get X rfl in_X8 (by decide) rfl wd_1_36 (by decide +kernel : decode cX8_addNumber 8 = .ok (.getfield 15, 3))) ?_
  refine mm_fc (ss_aload_n hx hb (by decide +kernel : decode cX8_addNumber 11 = .ok (.aload_n 0, 1)) rfl) ?_
  refine mm_fc (ss_get X rfl in_X8 (by decide) rfl wd_1_35 (by decide +kernel : decode cX8_addNumber 12 = .ok (.getfield 9, 3))) ?_
  refine mm_fc (ss_alen X (by decide +kernel : decode cX8_addNumber 15 = .ok (.arraylength, 1))) ?_
  refine mm_fc (ss_icmpge hx hb (by decide +kernel : decode cX8_addNumber 16 = .ok (.if_icmp .ge 29, 3)) (by decide)) ?_
  refine mm_fc (ss_aload_n hx hb (by decide +kernel : decode cX8_addNumber 19 = .ok (.aload_n 0, 1)) rfl) ?_
  refine mm_fc (ss_get X rfl in_X8 (by decide) rfl wd_1_35 (by decide +kernel : decode cX8_addNumber 20 = .ok (.getfield 9, 3))) ?_
  refine mm_fc (ss_aload_n hx hb (by decide +kernel : decode cX8_addNumber 23 = .ok (.aload_n 0, 1)) rfl) ?_
  refine mm_fc (ss_get X rfl in_X8 (by decide) rfl wd_1_36 (by decide +kernel : decode cX8_addNumber 24 = .ok (.getfield 15, 3))) ?_
  refine mm_fc (ss_iload_n hx hb (by decide +kernel : decode cX8_addNumber 27 = .ok (.iload_n 1, 1)) rfl) ?_
  refine mm_fc (ss_iload_n hx hb (by decide +kernel : decode cX8_addNumber 28 = .ok (.iload_n 2, 1)) rfl) ?_
  refine mm_fc (ss_ishr hx hb (by decide +kernel : decode cX8_addNumber 29 = .ok (.ishr, 1))) ?_
  refine mm_fc (ss_sipush hx hb (by decide +kernel : decode cX8_addNumber 30 = .ok (.sipush 255, 3)) (by decide)) ?_
  refine mm_fc (ss_iand hx hb (by decide +kernel : decode cX8_addNumber 33 = .ok (.iand, 1))) ?_
  refine mm_fc (ss_iast X (by decide +kernel : decode cX8_addNumber 34 = .ok (.iastore, 1))) ?_
  refine mm_fc (ss_aload_n hx hb (by decide +kernel : decode cX8_addNumber 35 = .ok (.aload_n 0, 1)) rfl) ?_
  refine mm_fc (ss_dup hx hb (by decide +kernel : decode cX8_addNumber 36 = .ok (.dup, 1))) ?_
  refine mm_fc (ss_get X rfl in_X8 (by decide) rfl wd_1_36 (by decide +kernel : decode cX8_addNumber 37 = .ok (.getfield 15, 3))) ?_
  refine mm_fc (ss_iconst hx hb (by decide +kernel : decode cX8_addNumber 40 = .ok (.iconst 1, 1)) (by decide)) ?_
  refine mm_fc (ss_iadd hx hb (by decide +kernel : decode cX8_addNumber 41 = .ok (.iadd, 1))) ?_
  refine mm_fc (ss_putI X rfl in_X8 tyX8_ok nmX8 (by decide) rfl rfl rfl rfl wd_1_36 (by decide +kernel : decode cX8_addNumber 42 = .ok (.putfield 15, 3))) ?_
  refine mm_fc (ss_iinc hx hb (by decide +kernel : decode cX8_addNumber 45 = .ok (.iinc 2 (-8), 3)) (by decide) (by decide)) ?_
  refine mm_fc (ss_goto hx hb (by decide +kernel : decode cX8_addNumber 48 = .ok (.goto (-45), 3)) (by decide)) ?_
  refine mm_fc (ss_vret (by decide +kernel : decode cX8_addNumber 51 = .ok (.return_, 1)) rfl) ?_
  exact mm_fn
def cd_X8_shorten : mm_K mm_H := [(0, s_aload 0 1), (1, s_pushI 0 2), (2, s_aload 0 3), (3, s_get 8 1 6), (6, s_iload 1 7), (7, s_callS 11 2 1 10), (10, s_callS 9 2 1 13), (13, s_putI 8 1 16), (16, s_vret)]
set_option maxRecDepth 100000 in
set_option maxHeartbeats 4000000 in
theorem ok_X8_shorten (l : Launch) : mm_CodeOK l mm_I0 RX8 cX8_shorten 2 none cd_X8_shorten := by
  intro p e R s m args below meth c Q σ cA D A kc ks d C X
  have hx := X.1
  have hb := X.2.1
  have hown := X.2.2.2.1
  have hts := X.2.2.2.2.1
  refine mm_fc (ss_aload_n hx hb (by decide +kernel : decode cX8_shorten 0 = .ok (.aload_n 0, 1)) rfl) ?_
  refine mm_fc (ss_iconst hx hb (by decide +kernel : decode cX8_shorten 1 = .ok (.iconst 0, 1)) (by decide)) ?_
  refine mm_fc (ss_aload_n hx hb (by decide +kernel : decode cX8_shorten 2 = .ok (.aload_n 0, 1)) rfl) ?_
  refine mm_fc (ss_get X rfl in_X8 (by decide) rfl wd_1_36 (by decide +kernel : decode cX8_shorten 3 = .ok (.getfield 15, 3))) ?_
  refine mm_fc (ss_iload_n hx hb (by decide +kernel : decode cX8_shorten 6 = .ok (.iload_n 1, 1)) rfl) ?_
  refine mm_fc (ss_callS X rfl wd_2_162 wd_1_14 wd_2_160 wd_2_161 (by decide +kernel) (by decide +kernel) (by decide) (by decide +kernel : decode cX8_shorten 7 = .ok (.invokestatic 19, 3))) ?_
  refine mm_fc (ss_callS X rfl wd_2_165 wd_1_14 wd_2_163 wd_2_164 (by decide +kernel) (by decide +kernel) (by decide) (by decide +kernel : decode cX8_shorten 10 = .ok (.invokestatic 25, 3))) ?_
  refine mm_fc (ss_putI X rfl in_X8 tyX8_ok nmX8 (by decide) rfl rfl rfl rfl wd_1_36 (by decide +kernel : decode cX8_shorten 13 = .ok (.putfield 15, 3))) ?_
  refine mm_fc (ss_vret (by decide +kernel : decode cX8_shorten 16 = .ok (.return_, 1)) rfl) ?_
  exact mm_fn
def cd_X9_readTerrace : mm_K mm_H := [(0, s_aload 1 1), (1, s_callV 10 136 0 0 4), (4, s_aload 0 5), (5, s_get 9 0 8), (8, s_callV 6 74 0 0 11), (11, s_aload 0 12), (12, s_aload 1 13), (13, s_callV 9 130 1 1 16), (16, s_if (fun x => x = 0) 31 19), (19, s_aload 0 20), (20, s_get 9 0 23), (23, s_pushI 59 25), (25, s_callV 6 82 1 1 28), (28, s_if (fun x => ¬ x = 0) 33 31), (31, s_pushI 0 32), (32, s_zret), (33, s_pushI 1 34), (34, s_istore 2 35), (35, s_iload 2 36), (36, s_pushI 80 38), (38, s_icmp (fun x y => y ≤ x) 79 41), (41, s_aload 0 42), (42, s_get 9 0 45), (45, s_callV 6 76 0 1 48), (48, s_if (fun x => ¬ x = 0) 79 51), (51, s_aload 0 52), (52, s_aload 1 53), (53, s_callV 9 131 1 1 56), (56, s_if (fun x => x = 0) 71 59), (59, s_aload 0 60), (60, s_get 9 0 63), (63, s_pushI 59 65), (65, s_callV 6 82 1 1 68), (68, s_if (fun x => ¬ x = 0) 73 71), (71, s_pushI 0 72), (72, s_zret), (73, s_iinc 2 1 76), (76, s_goto 35), (79, s_aload 0 80), (80, s_get 9 0 83), (83, s_callV 6 76 0 1 86), (86, s_if (fun x => ¬ x = 0) 98 89), (89, s_aload 0 90), (90, s_get 9 0 93), (93, s_pushI 5 94), (94, s_callV 6 89 1 1 97), (97, s_zret), (98, s_aload 1 99), (99, s_iload 2 100), (100, s_putI 10 4 103), (103, s_aload 1 104), (104, s_callV 10 140 0 0 107), (107, s_pushI 1 108), (108, s_zret)]
set_option maxRecDepth 100000 in
set_option maxHeartbeats 4000000 in
theorem ok_X9_readTerrace (l : Launch) : mm_CodeOK l mm_I0 RX9 cX9_readTerrace 3 (some .boolean) cd_X9_readTerrace := by
  intro p e R s m args below meth c Q σ cA D A kc ks d C X
  have hx := X.1
  have hb := X.2.1
  have hown := X.2.2.2.1
  have hts := X.2.2.2.2.1
  refine mm_fc (ss_aload_n hx hb (by decide +kernel : decode cX9_readTerrace 0 = .ok (.aload_n 1, 1)) rfl) ?_
  refine mm_fc (ss_callV X rfl rfl wd_2_177 wd_1_12 wd_2_174 wd_2_175 wd_2_176 (by decide +kernel) (by decide +kernel) (by decide) (by decide +kernel : decode cX9_readTerrace 1 = .ok (.invokevirtual 19, 3))) ?_
  refine mm_fc (ss_aload_n hx hb (by decide +kernel : decode cX9_readTerrace 4 = .ok (.aload_n 0, 1)) rfl) ?_
  refine mm_fc (ss_get X rfl in_X9 (by decide) rfl wd_1_140 (by decide +kernel : decode cX9_readTerrace 5 = .ok (.getfield 9, 3))) ?_
  refine mm_fc (ss_callV X rfl rfl wd_2_185 wd_1_3 wd_2_182 wd_2_183 wd_2_184 (by decide +kernel) (by decide +kernel) (by decide) (by decide +kernel : decode cX9_readTerrace 8 = .ok (.invokevirtual 24, 3))) ?_
  refine mm_fc (ss_aload_n hx hb (by decide +kernel : decode cX9_readTerrace 11 = .ok (.aload_n 0, 1)) rfl) ?_
  refine mm_fc (ss_aload_n hx hb (by decide +kernel : decode cX9_readTerrace 12 = .ok (.aload_n 1, 1)) rfl) ?_
  refine mm_fc (ss_callV X rfl rfl wd_3_37 wd_1_7 wd_3_34 wd_3_36 wd_p_6 (by decide +kernel) (by decide +kernel) (by decide) (by decide +kernel : decode cX9_readTerrace 13 = .ok (.invokevirtual 29, 3))) ?_
  refine mm_fc (ss_ifeq hx hb (by decide +kernel : decode cX9_readTerrace 16 = .ok (.ifCond .eq 15, 3)) (by decide)) ?_
  refine mm_fc (ss_aload_n hx hb (by decide +kernel : decode cX9_readTerrace 19 = .ok (.aload_n 0, 1)) rfl) ?_
  refine mm_fc (ss_get X rfl in_X9 (by decide) rfl wd_1_140 (by decide +kernel : decode cX9_readTerrace 20 = .ok (.getfield 9, 3))) ?_
  refine mm_fc (ss_bipush hx hb (by decide +kernel : decode cX9_readTerrace 23 = .ok (.bipush 59, 2)) (by decide)) ?_
  refine mm_fc (ss_callV X rfl rfl wd_3_69 wd_1_3 wd_3_66 wd_3_67 wd_3_68 (by decide +kernel) (by decide +kernel) (by decide) (by decide +kernel : decode cX9_readTerrace 25 = .ok (.invokevirtual 33, 3))) ?_
  refine mm_fc (ss_ifne hx hb (by decide +kernel : decode cX9_readTerrace 28 = .ok (.ifCond .ne 5, 3)) (by decide)) ?_
  refine mm_fc (ss_iconst hx hb (by decide +kernel : decode cX9_readTerrace 31 = .ok (.iconst 0, 1)) (by decide)) ?_
  refine mm_fc (ss_zret (by decide +kernel : decode cX9_readTerrace 32 = .ok (.ireturn, 1)) rfl) ?_
  refine mm_fc (ss_iconst hx hb (by decide +kernel : decode cX9_readTerrace 33 = .ok (.iconst 1, 1)) (by decide)) ?_
  refine mm_fc (ss_istore_n hx hb (by decide +kernel : decode cX9_readTerrace 34 = .ok (.istore_n 2, 1)) rfl (by decide)) ?_
  refine mm_fc (ss_iload_n hx hb (by decide +kernel : decode cX9_readTerrace 35 = .ok (.iload_n 2, 1)) rfl) ?_
  refine mm_fc (ss_bipush hx hb (by decide +kernel : decode cX9_readTerrace 36 = .ok (.bipush 80, 2)) (by decide)) ?_
  refine mm_fc (ss_icmpge hx hb (by decide +kernel : decode cX9_readTerrace 38 = .ok (.if_icmp .ge 41, 3)) (by decide)) ?_
  refine mm_fc (ss_aload_n hx hb (by decide +kernel : decode cX9_readTerrace 41 = .ok (.aload_n 0, 1)) rfl) ?_
  refine mm_fc (ss_get X rfl in_X9 (by decide) rfl wd_1_140 (by decide +kernel : decode cX9_readTerrace 42 = .ok (.getfield 9, 3))) ?_
  refine mm_fc (ss_callV X rfl rfl wd_3_77 wd_1_3 wd_3_74 wd_3_75 wd_3_76 (by decide +kernel) (by decide +kernel) (by decide) (by decide +kernel : decode cX9_readTerrace 45 = .ok (.invokevirtual 37, 3))) ?_
  refine mm_fc (ss_ifne hx hb (by decide +kernel : decode cX9_readTerrace 48 = .ok (.ifCond .ne 31, 3)) (by decide)) ?_
  refine mm_fc (ss_aload_n hx hb (by decide +kernel : decode cX9_readTerrace 51 = .ok (.aload_n 0, 1)) rfl) ?_
  refine mm_fc (ss_aload_n hx hb (by decide +kernel : decode cX9_readTerrace 52 = .ok (.aload_n 1, 1)) rfl) ?_
  refine mm_fc (ss_callV X rfl rfl wd_3_81 wd_1_7 wd_3_78 wd_3_80 wd_p_8 (by decide +kernel) (by decide +kernel) (by decide) (by decide +kernel : decode cX9_readTerrace 53 = .ok (.invokevirtual 41, 3))) ?_
  refine mm_fc (ss_ifeq hx hb (by decide +kernel : decode cX9_readTerrace 56 = .ok (.ifCond .eq 15, 3)) (by decide)) ?_
  refine mm_fc (ss_aload_n hx hb (by decide +kernel : decode cX9_readTerrace 59 = .ok (.aload_n 0, 1)) rfl) ?_
  refine mm_fc (ss_get X rfl in_X9 (by decide) rfl wd_1_140 (by decide +kernel : decode cX9_readTerrace 60 = .ok (.getfield 9, 3))) ?_
  refine mm_fc (ss_bipush hx hb (by decide +kernel : decode cX9_readTerrace 63 = .ok (.bipush 59, 2)) (by decide)) ?_
  refine mm_fc (ss_callV X rfl rfl wd_3_69 wd_1_3 wd_3_66 wd_3_67 wd_3_68 (by decide +kernel) (by decide +kernel) (by decide) (by decide +kernel : decode cX9_readTerrace 65 = .ok (.invokevirtual 33, 3))) ?_
  refine mm_fc (ss_ifne hx hb (by decide +kernel : decode cX9_readTerrace 68 = .ok (.ifCond .ne 5, 3)) (by decide)) ?_
  refine mm_fc (ss_iconst hx hb (by decide +kernel : decode cX9_readTerrace 71 = .ok (.iconst 0, 1)) (by decide)) ?_
  refine mm_fc (ss_zret (by decide +kernel : decode cX9_readTerrace 72 = .ok (.ireturn, 1)) rfl) ?_
  refine mm_fc (ss_iinc hx hb (by decide +kernel : decode cX9_readTerrace 73 = .ok (.iinc 2 1, 3)) (by decide) (by decide)) ?_
  refine mm_fc (ss_goto hx hb (by decide +kernel : decode cX9_readTerrace 76 = .ok (.goto (-41), 3)) (by decide)) ?_
  refine mm_fc (ss_aload_n hx hb (by decide +kernel : decode cX9_readTerrace 79 = .ok (.aload_n 0, 1)) rfl) ?_
  refine mm_fc (ss_get X rfl in_X9 (by decide) rfl wd_1_140 (by decide +kernel : decode cX9_readTerrace 80 = .ok (.getfield 9, 3))) ?_
  refine mm_fc (ss_callV X rfl rfl wd_3_77 wd_1_3 wd_3_74 wd_3_75 wd_3_76 (by decide +kernel) (by decide +kernel) (by decide) (by decide +kernel : decode cX9_readTerrace 83 = .ok (.invokevirtual 37, 3))) ?_
  refine mm_fc (ss_ifne hx hb (by decide +kernel : decode cX9_readTerrace 86 = .ok (.ifCond .ne 12, 3)) (by decide)) ?_
  refine mm_fc (ss_aload_n hx hb (by decide +kernel : decode cX9_readTerrace 89 = .ok (.aload_n 0, 1)) rfl) ?_
  refine mm_fc (ss_get X rfl in_X9 (by decide) rfl wd_1_140 (by decide +kernel : decode cX9_readTerrace 90 = .ok (.getfield 9, 3))) ?_
  refine mm_fc (ss_iconst hx hb (by decide +kernel : decode cX9_readTerrace 93 = .ok (.iconst 5, 1)) (by decide)) ?_
  refine mm_fc (ss_callV X rfl rfl wd_3_61 wd_1_3 wd_3_91 wd_3_59 wd_3_60 (by decide +kernel) (by decide +kernel) (by decide) (by decide +kernel : decode cX9_readTerrace 94 = .ok (.invokevirtual 44, 3))) ?_
  refine mm_fc (ss_zret (by decide +kernel : decode cX9_readTerrace 97 = .ok (.ireturn, 1)) rfl) ?_
  refine mm_fc (ss_aload_n hx hb (by decide +kernel : decode cX9_readTerrace 98 = .ok (.aload_n 1, 1)) rfl) ?_
  refine mm_fc (ss_iload_n hx hb (by decide +kernel : decode cX9_readTerrace 99 = .ok (.iload_n 2, 1)) rfl) ?_
  refine mm_fc (ss_putIN X rfl in_X10 tyX10_ok nmX10 (by decide) rfl rfl rfl rfl wd_2_80 (by decide +kernel : decode cX9_readTerrace 100 = .ok (.putfield 48, 3))) ?_
  refine mm_fc (ss_aload_n hx hb (by decide +kernel : decode cX9_readTerrace 103 = .ok (.aload_n 1, 1)) rfl) ?_
  refine mm_fc (ss_callV X rfl rfl wd_4_6 wd_1_12 wd_4_3 wd_4_4 wd_4_5 (by decide +kernel) (by decide +kernel) (by decide) (by decide +kernel : decode cX9_readTerrace 104 = .ok (.invokevirtual 52, 3))) ?_
  refine mm_fc (ss_iconst hx hb (by decide +kernel : decode cX9_readTerrace 107 = .ok (.iconst 1, 1)) (by decide)) ?_
  refine mm_fc (ss_zret (by decide +kernel : decode cX9_readTerrace 108 = .ok (.ireturn, 1)) rfl) ?_
  exact mm_fn
