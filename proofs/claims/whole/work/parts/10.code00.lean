def cd_J0_length_8abf5 : mm_K mm_H := [(0, s_aload 0 1), (1, s_sval 4), (4, s_blen 5), (5, s_aload 0 6), (6, s_callT 2 0 1 9), (9, s_bin (fun x y => x >>> (y &&& 31)) 10), (10, s_iret)]
set_option maxRecDepth 100000 in
set_option maxHeartbeats 4000000 in
theorem ok_J0_length_8abf5 (l : Launch) : mm_CodeOK l mm_I0 RJ0 cJ0_length_8abf5 1 (some .int) cd_J0_length_8abf5 := by
  intro p e R s m args below meth c Q σ cA D A kc ks d C X
  have hx := X.1
  have hb := X.2.1
  have hown := X.2.2.2.1
  have hts := X.2.2.2.2.1
  refine mm_fc (ss_aload_n hx hb (by decide +kernel : decode cJ0_length_8abf5 0 = .ok (.aload_n 0, 1)) rfl) ?_
  refine mm_fc (ss_sval X wd_9_208 (by decide +kernel : decode cJ0_length_8abf5 1 = .ok (.getfield 9, 3))) ?_
  refine mm_fc (ss_blen X (by decide +kernel : decode cJ0_length_8abf5 4 = .ok (.arraylength, 1))) ?_
  refine mm_fc (ss_aload_n hx hb (by decide +kernel : decode cJ0_length_8abf5 5 = .ok (.aload_n 0, 1)) rfl) ?_
  refine mm_fc (ss_callT X rfl wd_2_221 wd_1_15 wd_2_218 wd_2_219 wd_2_220 (by decide +kernel) (by decide +kernel) (by decide) (by decide +kernel : decode cJ0_length_8abf5 6 = .ok (.invokevirtual 335, 3))) ?_
  refine mm_fc (ss_ishr hx hb (by decide +kernel : decode cJ0_length_8abf5 9 = .ok (.ishr, 1))) ?_
  refine mm_fc (ss_iret (by decide +kernel : decode cJ0_length_8abf5 10 = .ok (.ireturn, 1)) rfl) ?_
  exact mm_fn
def cd_J0_charAt_5068e : mm_K mm_H := [(0, s_aload 0 1), (1, s_callT 3 0 1 4), (4, s_if (fun x => x = 0) 16 7), (7, s_aload 0 8), (8, s_sval 11), (11, s_iload 1 12), (12, s_callS 5 2 1 15), (15, s_nret .char)]
set_option maxRecDepth 100000 in
set_option maxHeartbeats 4000000 in
theorem ok_J0_charAt_5068e (l : Launch) : mm_CodeOK l mm_I0 RJ0 cJ0_charAt_5068e 2 (some .char) cd_J0_charAt_5068e := by
  intro p e R s m args below meth c Q σ cA D A kc ks d C X
  have hx := X.1
  have hb := X.2.1
  have hown := X.2.2.2.1
  have hts := X.2.2.2.2.1
  refine mm_fc (ss_aload_n hx hb (by decide +kernel : decode cJ0_charAt_5068e 0 = .ok (.aload_n 0, 1)) rfl) ?_
  refine mm_fc (ss_callT X rfl wd_2_231 wd_1_15 wd_2_228 wd_2_229 wd_2_230 (by decide +kernel) (by decide +kernel) (by decide) (by decide +kernel : decode cJ0_charAt_5068e 1 = .ok (.invokevirtual 492, 3))) ?_
  refine mm_fc (ss_ifeq hx hb (by decide +kernel : decode cJ0_charAt_5068e 4 = .ok (.ifCond .eq 12, 3)) (by decide)) ?_
  refine mm_fc (ss_aload_n hx hb (by decide +kernel : decode cJ0_charAt_5068e 7 = .ok (.aload_n 0, 1)) rfl) ?_
  refine mm_fc (ss_sval X wd_9_208 (by decide +kernel : decode cJ0_charAt_5068e 8 = .ok (.getfield 9, 3))) ?_
  refine mm_fc (ss_iload_n hx hb (by decide +kernel : decode cJ0_charAt_5068e 11 = .ok (.iload_n 1, 1)) rfl) ?_
  refine mm_fc (ss_callS X rfl wd_2_234 wd_1_16 wd_2_232 wd_2_233 (by decide +kernel) (by decide +kernel) (by decide) (by decide +kernel : decode cJ0_charAt_5068e 12 = .ok (.invokestatic 495, 3))) ?_
  refine mm_fc (ss_nret (by decide +kernel : decode cJ0_charAt_5068e 15 = .ok (.ireturn, 1)) rfl) ?_
  exact mm_fn
def cd_J0_coder_7d493 : mm_K mm_H := [(0, s_pushI 1 3), (3, s_if (fun x => x = 0) 13 6), (6, s_aload 0 7), (7, s_scod 10), (10, s_goto 14), (13, s_pushI 1 14), (14, s_nret .byte)]
set_option maxRecDepth 100000 in
set_option maxHeartbeats 4000000 in
theorem ok_J0_coder_7d493 (l : Launch) : mm_CodeOK l mm_I0 RJ0 cJ0_coder_7d493 1 (some .byte) cd_J0_coder_7d493 := by
  intro p e R s m args below meth c Q σ cA D A kc ks d C X
  have hx := X.1
  have hb := X.2.1
  have hown := X.2.2.2.1
  have hts := X.2.2.2.2.1
  refine mm_fc (ss_compact X wd_2_222 (by decide +kernel : decode cJ0_coder_7d493 0 = .ok (.getstatic 38, 3))) ?_
  refine mm_fc (ss_ifeq hx hb (by decide +kernel : decode cJ0_coder_7d493 3 = .ok (.ifCond .eq 10, 3)) (by decide)) ?_
  refine mm_fc (ss_aload_n hx hb (by decide +kernel : decode cJ0_coder_7d493 6 = .ok (.aload_n 0, 1)) rfl) ?_
  refine mm_fc (ss_scod X wd_9_209 (by decide +kernel : decode cJ0_coder_7d493 7 = .ok (.getfield 15, 3))) ?_
  refine mm_fc (ss_goto hx hb (by decide +kernel : decode cJ0_coder_7d493 10 = .ok (.goto 4, 3)) (by decide)) ?_
  refine mm_fc (ss_iconst hx hb (by decide +kernel : decode cJ0_coder_7d493 13 = .ok (.iconst 1, 1)) (by decide)) ?_
  refine mm_fc (ss_nret (by decide +kernel : decode cJ0_coder_7d493 14 = .ok (.ireturn, 1)) rfl) ?_
  exact mm_fn
def cd_J0_isLatin1_aae02 : mm_K mm_H := [(0, s_pushI 1 3), (3, s_if (fun x => x = 0) 17 6), (6, s_aload 0 7), (7, s_scod 10), (10, s_if (fun x => ¬ x = 0) 17 13), (13, s_pushI 1 14), (14, s_goto 18), (17, s_pushI 0 18), (18, s_zret)]
set_option maxRecDepth 100000 in
set_option maxHeartbeats 4000000 in
theorem ok_J0_isLatin1_aae02 (l : Launch) : mm_CodeOK l mm_I0 RJ0 cJ0_isLatin1_aae02 1 (some .boolean) cd_J0_isLatin1_aae02 := by
  intro p e R s m args below meth c Q σ cA D A kc ks d C X
  have hx := X.1
  have hb := X.2.1
  have hown := X.2.2.2.1
  have hts := X.2.2.2.2.1
  refine mm_fc (ss_compact X wd_2_222 (by decide +kernel : decode cJ0_isLatin1_aae02 0 = .ok (.getstatic 38, 3))) ?_
  refine mm_fc (ss_ifeq hx hb (by decide +kernel : decode cJ0_isLatin1_aae02 3 = .ok (.ifCond .eq 14, 3)) (by decide)) ?_
  refine mm_fc (ss_aload_n hx hb (by decide +kernel : decode cJ0_isLatin1_aae02 6 = .ok (.aload_n 0, 1)) rfl) ?_
  refine mm_fc (ss_scod X wd_9_209 (by decide +kernel : decode cJ0_isLatin1_aae02 7 = .ok (.getfield 15, 3))) ?_
  refine mm_fc (ss_ifne hx hb (by decide +kernel : decode cJ0_isLatin1_aae02 10 = .ok (.ifCond .ne 7, 3)) (by decide)) ?_
  refine mm_fc (ss_iconst hx hb (by decide +kernel : decode cJ0_isLatin1_aae02 13 = .ok (.iconst 1, 1)) (by decide)) ?_
  refine mm_fc (ss_goto hx hb (by decide +kernel : decode cJ0_isLatin1_aae02 14 = .ok (.goto 4, 3)) (by decide)) ?_
  refine mm_fc (ss_iconst hx hb (by decide +kernel : decode cJ0_isLatin1_aae02 17 = .ok (.iconst 0, 1)) (by decide)) ?_
  refine mm_fc (ss_zret (by decide +kernel : decode cJ0_isLatin1_aae02 18 = .ok (.ireturn, 1)) rfl) ?_
  exact mm_fn
def cd_J1_charAt_3b067 : mm_K mm_H := [(0, s_iload 1 1), (1, s_aload 0 2), (2, s_blen 3), (3, s_callS 4 2 0 6), (6, s_aload 0 7), (7, s_iload 1 8), (8, s_bald 9), (9, s_pushI 255 12), (12, s_bin (fun x y => x &&& y) 13), (13, s_i2c 14), (14, s_nret .char)]
set_option maxRecDepth 100000 in
set_option maxHeartbeats 4000000 in
theorem ok_J1_charAt_3b067 (l : Launch) : mm_CodeOK l mm_I0 RJ1 cJ1_charAt_3b067 2 (some .char) cd_J1_charAt_3b067 := by
  intro p e R s m args below meth c Q σ cA D A kc ks d C X
  have hx := X.1
  have hb := X.2.1
  have hown := X.2.2.2.1
  have hts := X.2.2.2.2.1
  refine mm_fc (ss_iload_n hx hb (by decide +kernel : decode cJ1_charAt_3b067 0 = .ok (.iload_n 1, 1)) rfl) ?_
  refine mm_fc (ss_aload_n hx hb (by decide +kernel : decode cJ1_charAt_3b067 1 = .ok (.aload_n 0, 1)) rfl) ?_
  refine mm_fc (ss_blen X (by decide +kernel : decode cJ1_charAt_3b067 2 = .ok (.arraylength, 1))) ?_
  refine mm_fc (ss_callS X rfl wd_2_237 wd_1_15 wd_2_235 wd_2_236 (by decide +kernel) (by decide +kernel) (by decide) (by decide +kernel : decode cJ1_charAt_3b067 3 = .ok (.invokestatic 9, 3))) ?_
  refine mm_fc (ss_aload_n hx hb (by decide +kernel : decode cJ1_charAt_3b067 6 = .ok (.aload_n 0, 1)) rfl) ?_
  refine mm_fc (ss_iload_n hx hb (by decide +kernel : decode cJ1_charAt_3b067 7 = .ok (.iload_n 1, 1)) rfl) ?_
  refine mm_fc (ss_bald X (by decide +kernel : decode cJ1_charAt_3b067 8 = .ok (.baload, 1))) ?_
  refine mm_fc (ss_sipush hx hb (by decide +kernel : decode cJ1_charAt_3b067 9 = .ok (.sipush 255, 3)) (by decide)) ?_
  refine mm_fc (ss_iand hx hb (by decide +kernel : decode cJ1_charAt_3b067 12 = .ok (.iand, 1))) ?_
  refine mm_fc (ss_i2c hx hb (by decide +kernel : decode cJ1_charAt_3b067 13 = .ok (.i2c, 1))) ?_
  refine mm_fc (ss_nret (by decide +kernel : decode cJ1_charAt_3b067 14 = .ok (.ireturn, 1)) rfl) ?_
  exact mm_fn
def cd_J6_bitCount_0f7a4 : mm_K mm_H := [(0, s_iload 0 1), (1, s_iload 0 2), (2, s_pushI 1 3), (3, s_bin (fun x y => (x.toUInt32 >>> (y.toUInt32 &&& Int32.toUInt32 31)).toInt32) 4), (4, s_pushI 1431655765 7), (7, s_bin (fun x y => x &&& y) 8), (8, s_bin (fun x y => x - y) 9), (9, s_istore 0 10), (10, s_iload 0 11), (11, s_pushI 858993459 14), (14, s_bin (fun x y => x &&& y) 15), (15, s_iload 0 16), (16, s_pushI 2 17), (17, s_bin (fun x y => (x.toUInt32 >>> (y.toUInt32 &&& Int32.toUInt32 31)).toInt32) 18), (18, s_pushI 858993459 21), (21, s_bin (fun x y => x &&& y) 22), (22, s_bin (fun x y => x + y) 23), (23, s_istore 0 24), (24, s_iload 0 25), (25, s_iload 0 26), (26, s_pushI 4 27), (27, s_bin (fun x y => (x.toUInt32 >>> (y.toUInt32 &&& Int32.toUInt32 31)).toInt32) 28), (28, s_bin (fun x y => x + y) 29), (29, s_pushI 252645135 32), (32, s_bin (fun x y => x &&& y) 33), (33, s_istore 0 34), (34, s_iload 0 35), (35, s_iload 0 36), (36, s_pushI 8 38), (38, s_bin (fun x y => (x.toUInt32 >>> (y.toUInt32 &&& Int32.toUInt32 31)).toInt32) 39), (39, s_bin (fun x y => x + y) 40), (40, s_istore 0 41), (41, s_iload 0 42), (42, s_iload 0 43), (43, s_pushI 16 45), (45, s_bin (fun x y => (x.toUInt32 >>> (y.toUInt32 &&& Int32.toUInt32 31)).toInt32) 46), (46, s_bin (fun x y => x + y) 47), (47, s_istore 0 48), (48, s_iload 0 49), (49, s_pushI 63 51), (51, s_bin (fun x y => x &&& y) 52), (52, s_iret)]
set_option maxRecDepth 100000 in
set_option maxHeartbeats 4000000 in
theorem ok_J6_bitCount_0f7a4 (l : Launch) : mm_CodeOK l mm_I0 RJ6 cJ6_bitCount_0f7a4 1 (some .int) cd_J6_bitCount_0f7a4 := by
  intro p e R s m args below meth c Q σ cA D A kc ks d C X
  have hx := X.1
  have hb := X.2.1
  have hown := X.2.2.2.1
  have hts := X.2.2.2.2.1
  refine mm_fc (ss_iload_n hx hb (by decide +kernel : decode cJ6_bitCount_0f7a4 0 = .ok (.iload_n 0, 1)) rfl) ?_
  refine mm_fc (ss_iload_n hx hb (by decide +kernel : decode cJ6_bitCount_0f7a4 1 = .ok (.iload_n 0, 1)) rfl) ?_
  refine mm_fc (ss_iconst hx hb (by decide +kernel : decode cJ6_bitCount_0f7a4 2 = .ok (.iconst 1, 1)) (by decide)) ?_
  refine mm_fc (ss_iushr hx hb (by decide +kernel : decode cJ6_bitCount_0f7a4 3 = .ok (.iushr, 1))) ?_
  refine mm_fc (ss_ldcw hx hb hown (hts _ (mm_in wd_4_121 rfl)) (by decide +kernel : decode cJ6_bitCount_0f7a4 4 = .ok (.ldc_w 265, 3))) ?_
  refine mm_fc (ss_iand hx hb (by decide +kernel : decode cJ6_bitCount_0f7a4 7 = .ok (.iand, 1))) ?_
  refine mm_fc (ss_isub hx hb (by decide +kernel : decode cJ6_bitCount_0f7a4 8 = .ok (.isub, 1))) ?_
  refine mm_fc (ss_istore_n hx hb (by decide +kernel : decode cJ6_bitCount_0f7a4 9 = .ok (.istore_n 0, 1)) rfl (by decide)) ?_
  refine mm_fc (ss_iload_n hx hb (by decide +kernel : decode cJ6_bitCount_0f7a4 10 = .ok (.iload_n 0, 1)) rfl) ?_
  refine mm_fc (ss_ldcw hx hb hown (hts _ (mm_in wd_4_122 rfl)) (by decide +kernel : decode cJ6_bitCount_0f7a4 11 = .ok (.ldc_w 266, 3))) ?_
  refine mm_fc (ss_iand hx hb (by decide +kernel : decode cJ6_bitCount_0f7a4 14 = .ok (.iand, 1))) ?_
  refine mm_fc (ss_iload_n hx hb (by decide +kernel : decode cJ6_bitCount_0f7a4 15 = .ok (.iload_n 0, 1)) rfl) ?_
  refine mm_fc (ss_iconst hx hb (by decide +kernel : decode cJ6_bitCount_0f7a4 16 = .ok (.iconst 2, 1)) (by decide)) ?_
  refine mm_fc (ss_iushr hx hb (by decide +kernel : decode cJ6_bitCount_0f7a4 17 = .ok (.iushr, 1))) ?_
  refine mm_fc (ss_ldcw hx hb hown (hts _ (mm_in wd_4_122 rfl)) (by decide +kernel : decode cJ6_bitCount_0f7a4 18 = .ok (.ldc_w 266, 3))) ?_
  refine mm_fc (ss_iand hx hb (by decide +kernel : decode cJ6_bitCount_0f7a4 21 = .ok (.iand, 1))) ?_
  refine mm_fc (ss_iadd hx hb (by decide +kernel : decode cJ6_bitCount_0f7a4 22 = .ok (.iadd, 1))) ?_
  refine mm_fc (ss_istore_n hx hb (by decide +kernel : decode cJ6_bitCount_0f7a4 23 = .ok (.istore_n 0, 1)) rfl (by decide)) ?_
  refine mm_fc (ss_iload_n hx hb (by decide +kernel : decode cJ6_bitCount_0f7a4 24 = .ok (.iload_n 0, 1)) rfl) ?_
  refine mm_fc (ss_iload_n hx hb (by decide +kernel : decode cJ6_bitCount_0f7a4 25 = .ok (.iload_n 0, 1)) rfl) ?_
  refine mm_fc (ss_iconst hx hb (by decide +kernel : decode cJ6_bitCount_0f7a4 26 = .ok (.iconst 4, 1)) (by decide)) ?_
  refine mm_fc (ss_iushr hx hb (by decide +kernel : decode cJ6_bitCount_0f7a4 27 = .ok (.iushr, 1))) ?_
  refine mm_fc (ss_iadd hx hb (by decide +kernel : decode cJ6_bitCount_0f7a4 28 = .ok (.iadd, 1))) ?_
  refine mm_fc (ss_ldcw hx hb hown (hts _ (mm_in wd_4_123 rfl)) (by decide +kernel : decode cJ6_bitCount_0f7a4 29 = .ok (.ldc_w 267, 3))) ?_
  refine mm_fc (ss_iand hx hb (by decide +kernel : decode cJ6_bitCount_0f7a4 32 = .ok (.iand, 1))) ?_
  refine mm_fc (ss_istore_n hx hb (by decide +kernel : decode cJ6_bitCount_0f7a4 33 = .ok (.istore_n 0, 1)) rfl (by decide)) ?_
  refine mm_fc (ss_iload_n hx hb (by decide +kernel : decode cJ6_bitCount_0f7a4 34 = .ok (.iload_n 0, 1)) rfl) ?_
  refine mm_fc (ss_iload_n hx hb (by decide +kernel : decode cJ6_bitCount_0f7a4 35 = .ok (.iload_n 0, 1)) rfl) ?_
  refine mm_fc (ss_bipush hx hb (by decide +kernel : decode cJ6_bitCount_0f7a4 36 = .ok (.bipush 8, 2)) (by decide)) ?_
  refine mm_fc (ss_iushr hx hb (by decide +kernel : decode cJ6_bitCount_0f7a4 38 = .ok (.iushr, 1))) ?_
  refine mm_fc (ss_iadd hx hb (by decide +kernel : decode cJ6_bitCount_0f7a4 39 = .ok (.iadd, 1))) ?_
  refine mm_fc (ss_istore_n hx hb (by decide +kernel : decode cJ6_bitCount_0f7a4 40 = .ok (.istore_n 0, 1)) rfl (by decide)) ?_
  refine mm_fc (ss_iload_n hx hb (by decide +kernel : decode cJ6_bitCount_0f7a4 41 = .ok (.iload_n 0, 1)) rfl) ?_
  refine mm_fc (ss_iload_n hx hb (by decide +kernel : decode cJ6_bitCount_0f7a4 42 = .ok (.iload_n 0, 1)) rfl) ?_
  refine mm_fc (ss_bipush hx hb (by decide +kernel : decode cJ6_bitCount_0f7a4 43 = .ok (.bipush 16, 2)) (by decide)) ?_
  refine mm_fc (ss_iushr hx hb (by decide +kernel : decode cJ6_bitCount_0f7a4 45 = .ok (.iushr, 1))) ?_
  refine mm_fc (ss_iadd hx hb (by decide +kernel : decode cJ6_bitCount_0f7a4 46 = .ok (.iadd, 1))) ?_
  refine mm_fc (ss_istore_n hx hb (by decide +kernel : decode cJ6_bitCount_0f7a4 47 = .ok (.istore_n 0, 1)) rfl (by decide)) ?_
  refine mm_fc (ss_iload_n hx hb (by decide +kernel : decode cJ6_bitCount_0f7a4 48 = .ok (.iload_n 0, 1)) rfl) ?_
  refine mm_fc (ss_bipush hx hb (by decide +kernel : decode cJ6_bitCount_0f7a4 49 = .ok (.bipush 63, 2)) (by decide)) ?_
  refine mm_fc (ss_iand hx hb (by decide +kernel : decode cJ6_bitCount_0f7a4 51 = .ok (.iand, 1))) ?_
  refine mm_fc (ss_iret (by decide +kernel : decode cJ6_bitCount_0f7a4 52 = .ok (.ireturn, 1)) rfl) ?_
  exact mm_fn
def cd_J9_floorDiv_7cf53 : mm_K mm_H := [(0, s_iload 0 1), (1, s_iload 1 2), (2, s_bin0 (fun x y => x / y) 3), (3, s_istore 2 4), (4, s_iload 0 5), (5, s_iload 1 6), (6, s_bin (fun x y => x ^^^ y) 7), (7, s_if (fun x => 0 ≤ x) 21 10), (10, s_iload 2 11), (11, s_iload 1 12), (12, s_bin (fun x y => x * y) 13), (13, s_iload 0 14), (14, s_icmp (fun x y => x = y) 21 17), (17, s_iload 2 18), (18, s_pushI 1 19), (19, s_bin (fun x y => x - y) 20), (20, s_iret), (21, s_iload 2 22), (22, s_iret)]
set_option maxRecDepth 100000 in
set_option maxHeartbeats 4000000 in
theorem ok_J9_floorDiv_7cf53 (l : Launch) : mm_CodeOK l mm_I0 RJ9 cJ9_floorDiv_7cf53 3 (some .int) cd_J9_floorDiv_7cf53 := by
  intro p e R s m args below meth c Q σ cA D A kc ks d C X
  have hx := X.1
  have hb := X.2.1
  have hown := X.2.2.2.1
  have hts := X.2.2.2.2.1
  refine mm_fc (ss_iload_n hx hb (by decide +kernel : decode cJ9_floorDiv_7cf53 0 = .ok (.iload_n 0, 1)) rfl) ?_
  refine mm_fc (ss_iload_n hx hb (by decide +kernel : decode cJ9_floorDiv_7cf53 1 = .ok (.iload_n 1, 1)) rfl) ?_
  refine mm_fc (ss_idiv hx hb (by decide +kernel : decode cJ9_floorDiv_7cf53 2 = .ok (.idiv, 1))) ?_
  refine mm_fc (ss_istore_n hx hb (by decide +kernel : decode cJ9_floorDiv_7cf53 3 = .ok (.istore_n 2, 1)) rfl (by decide)) ?_
  refine mm_fc (ss_iload_n hx hb (by decide +kernel : decode cJ9_floorDiv_7cf53 4 = .ok (.iload_n 0, 1)) rfl) ?_
  refine mm_fc (ss_iload_n hx hb (by decide +kernel : decode cJ9_floorDiv_7cf53 5 = .ok (.iload_n 1, 1)) rfl) ?_
  refine mm_fc (ss_ixor hx hb (by decide +kernel : decode cJ9_floorDiv_7cf53 6 = .ok (.ixor, 1))) ?_
  refine mm_fc (ss_ifge hx hb (by decide +kernel : decode cJ9_floorDiv_7cf53 7 = .ok (.ifCond .ge 14, 3)) (by decide)) ?_
  refine mm_fc (ss_iload_n hx hb (by decide +kernel : decode cJ9_floorDiv_7cf53 10 = .ok (.iload_n 2, 1)) rfl) ?_
  refine mm_fc (ss_iload_n hx hb (by decide +kernel : decode cJ9_floorDiv_7cf53 11 = .ok (.iload_n 1, 1)) rfl) ?_
  refine mm_fc (ss_imul hx hb (by decide +kernel : decode cJ9_floorDiv_7cf53 12 = .ok (.imul, 1))) ?_
  refine mm_fc (ss_iload_n hx hb (by decide +kernel : decode cJ9_floorDiv_7cf53 13 = .ok (.iload_n 0, 1)) rfl) ?_
  refine mm_fc (ss_icmpeq hx hb (by decide +kernel : decode cJ9_floorDiv_7cf53 14 = .ok (.if_icmp .eq 7, 3)) (by decide)) ?_
  refine mm_fc (ss_iload_n hx hb (by decide +kernel : decode cJ9_floorDiv_7cf53 17 = .ok (.iload_n 2, 1)) rfl) ?_
  refine mm_fc (ss_iconst hx hb (by decide +kernel : decode cJ9_floorDiv_7cf53 18 = .ok (.iconst 1, 1)) (by decide)) ?_
  refine mm_fc (ss_isub hx hb (by decide +kernel : decode cJ9_floorDiv_7cf53 19 = .ok (.isub, 1))) ?_
  refine mm_fc (ss_iret (by decide +kernel : decode cJ9_floorDiv_7cf53 20 = .ok (.ireturn, 1)) rfl) ?_
  refine mm_fc (ss_iload_n hx hb (by decide +kernel : decode cJ9_floorDiv_7cf53 21 = .ok (.iload_n 2, 1)) rfl) ?_
  refine mm_fc (ss_iret (by decide +kernel : decode cJ9_floorDiv_7cf53 22 = .ok (.ireturn, 1)) rfl) ?_
  exact mm_fn
def cd_J9_floorMod_7cf53 : mm_K mm_H := [(0, s_iload 0 1), (1, s_iload 1 2), (2, s_bin0 (fun x y => x - x / y * y) 3), (3, s_istore 2 4), (4, s_iload 0 5), (5, s_iload 1 6), (6, s_bin (fun x y => x ^^^ y) 7), (7, s_if (fun x => 0 ≤ x) 18 10), (10, s_iload 2 11), (11, s_if (fun x => x = 0) 18 14), (14, s_iload 2 15), (15, s_iload 1 16), (16, s_bin (fun x y => x + y) 17), (17, s_iret), (18, s_iload 2 19), (19, s_iret)]
set_option maxRecDepth 100000 in
set_option maxHeartbeats 4000000 in
theorem ok_J9_floorMod_7cf53 (l : Launch) : mm_CodeOK l mm_I0 RJ9 cJ9_floorMod_7cf53 3 (some .int) cd_J9_floorMod_7cf53 := by
  intro p e R s m args below meth c Q σ cA D A kc ks d C X
  have hx := X.1
  have hb := X.2.1
  have hown := X.2.2.2.1
  have hts := X.2.2.2.2.1
  refine mm_fc (ss_iload_n hx hb (by decide +kernel : decode cJ9_floorMod_7cf53 0 = .ok (.iload_n 0, 1)) rfl) ?_
  refine mm_fc (ss_iload_n hx hb (by decide +kernel : decode cJ9_floorMod_7cf53 1 = .ok (.iload_n 1, 1)) rfl) ?_
  refine mm_fc (ss_irem hx hb (by decide +kernel : decode cJ9_floorMod_7cf53 2 = .ok (.irem, 1))) ?_
  refine mm_fc (ss_istore_n hx hb (by decide +kernel : decode cJ9_floorMod_7cf53 3 = .ok (.istore_n 2, 1)) rfl (by decide)) ?_
  refine mm_fc (ss_iload_n hx hb (by decide +kernel : decode cJ9_floorMod_7cf53 4 = .ok (.iload_n 0, 1)) rfl) ?_
  refine mm_fc (ss_iload_n hx hb (by decide +kernel : decode cJ9_floorMod_7cf53 5 = .ok (.iload_n 1, 1)) rfl) ?_
  refine mm_fc (ss_ixor hx hb (by decide +kernel : decode cJ9_floorMod_7cf53 6 = .ok (.ixor, 1))) ?_
  refine mm_fc (ss_ifge hx hb (by decide +kernel : decode cJ9_floorMod_7cf53 7 = .ok (.ifCond .ge 11, 3)) (by decide)) ?_
  refine mm_fc (ss_iload_n hx hb (by decide +kernel : decode cJ9_floorMod_7cf53 10 = .ok (.iload_n 2, 1)) rfl) ?_
  refine mm_fc (ss_ifeq hx hb (by decide +kernel : decode cJ9_floorMod_7cf53 11 = .ok (.ifCond .eq 7, 3)) (by decide)) ?_
  refine mm_fc (ss_iload_n hx hb (by decide +kernel : decode cJ9_floorMod_7cf53 14 = .ok (.iload_n 2, 1)) rfl) ?_
  refine mm_fc (ss_iload_n hx hb (by decide +kernel : decode cJ9_floorMod_7cf53 15 = .ok (.iload_n 1, 1)) rfl) ?_
  refine mm_fc (ss_iadd hx hb (by decide +kernel : decode cJ9_floorMod_7cf53 16 = .ok (.iadd, 1))) ?_
  refine mm_fc (ss_iret (by decide +kernel : decode cJ9_floorMod_7cf53 17 = .ok (.ireturn, 1)) rfl) ?_
  refine mm_fc (ss_iload_n hx hb (by decide +kernel : decode cJ9_floorMod_7cf53 18 = .ok (.iload_n 2, 1)) rfl) ?_
  refine mm_fc (ss_iret (by decide +kernel : decode cJ9_floorMod_7cf53 19 = .ok (.ireturn, 1)) rfl) ?_
  exact mm_fn
def cd_J9_max_7cf53 : mm_K mm_H := [(0, s_iload 0 1), (1, s_iload 1 2), (2, s_icmp (fun x y => x < y) 9 5), (5, s_iload 0 6), (6, s_goto 10), (9, s_iload 1 10), (10, s_iret)]
set_option maxRecDepth 100000 in
set_option maxHeartbeats 4000000 in
theorem ok_J9_max_7cf53 (l : Launch) : mm_CodeOK l mm_I0 RJ9 cJ9_max_7cf53 2 (some .int) cd_J9_max_7cf53 := by
  intro p e R s m args below meth c Q σ cA D A kc ks d C X
  have hx := X.1
  have hb := X.2.1
  have hown := X.2.2.2.1
  have hts := X.2.2.2.2.1
  refine mm_fc (ss_iload_n hx hb (by decide +kernel : decode cJ9_max_7cf53 0 = .ok (.iload_n 0, 1)) rfl) ?_
  refine mm_fc (ss_iload_n hx hb (by decide +kernel : decode cJ9_max_7cf53 1 = .ok (.iload_n 1, 1)) rfl) ?_
  refine mm_fc (ss_icmplt hx hb (by decide +kernel : decode cJ9_max_7cf53 2 = .ok (.if_icmp .lt 7, 3)) (by decide)) ?_
  refine mm_fc (ss_iload_n hx hb (by decide +kernel : decode cJ9_max_7cf53 5 = .ok (.iload_n 0, 1)) rfl) ?_
  refine mm_fc (ss_goto hx hb (by decide +kernel : decode cJ9_max_7cf53 6 = .ok (.goto 4, 3)) (by decide)) ?_
  refine mm_fc (ss_iload_n hx hb (by decide +kernel : decode cJ9_max_7cf53 9 = .ok (.iload_n 1, 1)) rfl) ?_
  refine mm_fc (ss_iret (by decide +kernel : decode cJ9_max_7cf53 10 = .ok (.ireturn, 1)) rfl) ?_
  exact mm_fn
def cd_J9_max_f86c9 : mm_K mm_H := [(0, s_lload 0 1), (1, s_lload 2 2), (2, s_lcmp 3), (3, s_if (fun x => x < 0) 10 6), (6, s_lload 0 7), (7, s_goto 11), (10, s_lload 2 11), (11, s_lret)]
set_option maxRecDepth 100000 in
set_option maxHeartbeats 4000000 in
theorem ok_J9_max_f86c9 (l : Launch) : mm_CodeOK l mm_I0 RJ9 cJ9_max_f86c9 4 (some .long) cd_J9_max_f86c9 := by
  intro p e R s m args below meth c Q σ cA D A kc ks d C X
  have hx := X.1
  have hb := X.2.1
  have hown := X.2.2.2.1
  have hts := X.2.2.2.2.1
  refine mm_fc (ss_lload_n hx hb (by decide +kernel : decode cJ9_max_f86c9 0 = .ok (.lload_n 0, 1)) rfl) ?_
  refine mm_fc (ss_lload_n hx hb (by decide +kernel : decode cJ9_max_f86c9 1 = .ok (.lload_n 2, 1)) rfl) ?_
  refine mm_fc (ss_lcmp hx hb (by decide +kernel : decode cJ9_max_f86c9 2 = .ok (.lcmp, 1))) ?_
  refine mm_fc (ss_iflt hx hb (by decide +kernel : decode cJ9_max_f86c9 3 = .ok (.ifCond .lt 7, 3)) (by decide)) ?_
  refine mm_fc (ss_lload_n hx hb (by decide +kernel : decode cJ9_max_f86c9 6 = .ok (.lload_n 0, 1)) rfl) ?_
  refine mm_fc (ss_goto hx hb (by decide +kernel : decode cJ9_max_f86c9 7 = .ok (.goto 4, 3)) (by decide)) ?_
  refine mm_fc (ss_lload_n hx hb (by decide +kernel : decode cJ9_max_f86c9 10 = .ok (.lload_n 2, 1)) rfl) ?_
  refine mm_fc (ss_lret (by decide +kernel : decode cJ9_max_f86c9 11 = .ok (.lreturn, 1)) rfl) ?_
  exact mm_fn
def cd_J9_min_7cf53 : mm_K mm_H := [(0, s_iload 0 1), (1, s_iload 1 2), (2, s_icmp (fun x y => y < x) 9 5), (5, s_iload 0 6), (6, s_goto 10), (9, s_iload 1 10), (10, s_iret)]
set_option maxRecDepth 100000 in
set_option maxHeartbeats 4000000 in
theorem ok_J9_min_7cf53 (l : Launch) : mm_CodeOK l mm_I0 RJ9 cJ9_min_7cf53 2 (some .int) cd_J9_min_7cf53 := by
  intro p e R s m args below meth c Q σ cA D A kc ks d C X
  have hx := X.1
  have hb := X.2.1
  have hown := X.2.2.2.1
  have hts := X.2.2.2.2.1
  refine mm_fc (ss_iload_n hx hb (by decide +kernel : decode cJ9_min_7cf53 0 = .ok (.iload_n 0, 1)) rfl) ?_
  refine mm_fc (ss_iload_n hx hb (by decide +kernel : decode cJ9_min_7cf53 1 = .ok (.iload_n 1, 1)) rfl) ?_
  refine mm_fc (ss_icmpgt hx hb (by decide +kernel : decode cJ9_min_7cf53 2 = .ok (.if_icmp .gt 7, 3)) (by decide)) ?_
  refine mm_fc (ss_iload_n hx hb (by decide +kernel : decode cJ9_min_7cf53 5 = .ok (.iload_n 0, 1)) rfl) ?_
  refine mm_fc (ss_goto hx hb (by decide +kernel : decode cJ9_min_7cf53 6 = .ok (.goto 4, 3)) (by decide)) ?_
  refine mm_fc (ss_iload_n hx hb (by decide +kernel : decode cJ9_min_7cf53 9 = .ok (.iload_n 1, 1)) rfl) ?_
  refine mm_fc (ss_iret (by decide +kernel : decode cJ9_min_7cf53 10 = .ok (.ireturn, 1)) rfl) ?_
  exact mm_fn
def cd_J9_min_f86c9 : mm_K mm_H := [(0, s_lload 0 1), (1, s_lload 2 2), (2, s_lcmp 3), (3, s_if (fun x => 0 < x) 10 6), (6, s_lload 0 7), (7, s_goto 11), (10, s_lload 2 11), (11, s_lret)]
set_option maxRecDepth 100000 in
set_option maxHeartbeats 4000000 in
theorem ok_J9_min_f86c9 (l : Launch) : mm_CodeOK l mm_I0 RJ9 cJ9_min_f86c9 4 (some .long) cd_J9_min_f86c9 := by
  intro p e R s m args below meth c Q σ cA D A kc ks d C X
  have hx := X.1
  have hb := X.2.1
  have hown := X.2.2.2.1
  have hts := X.2.2.2.2.1
  refine mm_fc (ss_lload_n hx hb (by decide +kernel : decode cJ9_min_f86c9 0 = .ok (.lload_n 0, 1)) rfl) ?_
  refine mm_fc (ss_lload_n hx hb (by decide +kernel : decode cJ9_min_f86c9 1 = .ok (.lload_n 2, 1)) rfl) ?_
  refine mm_fc (ss_lcmp hx hb (by decide +kernel : decode cJ9_min_f86c9 2 = .ok (.lcmp, 1))) ?_
  refine mm_fc (ss_ifgt hx hb (by decide +kernel : decode cJ9_min_f86c9 3 = .ok (.ifCond .gt 7, 3)) (by decide)) ?_
  refine mm_fc (ss_lload_n hx hb (by decide +kernel : decode cJ9_min_f86c9 6 = .ok (.lload_n 0, 1)) rfl) ?_
  refine mm_fc (ss_goto hx hb (by decide +kernel : decode cJ9_min_f86c9 7 = .ok (.goto 4, 3)) (by decide)) ?_
  refine mm_fc (ss_lload_n hx hb (by decide +kernel : decode cJ9_min_f86c9 10 = .ok (.lload_n 2, 1)) rfl) ?_
  refine mm_fc (ss_lret (by decide +kernel : decode cJ9_min_f86c9 11 = .ok (.lreturn, 1)) rfl) ?_
  exact mm_fn
def cd_X0_countSeen : mm_K mm_H := [(0, s_aload 0 1), (1, s_get 0 2 4), (4, s_iret)]
set_option maxRecDepth 100000 in
set_option maxHeartbeats 4000000 in
theorem ok_X0_countSeen (l : Launch) : mm_CodeOK l mm_I0 RX0 cX0_countSeen 1 (some .int) cd_X0_countSeen := by
  intro p e R s m args below meth c Q σ cA D A kc ks d C X
  have hx := X.1
  have hb := X.2.1
  have hown := X.2.2.2.1
  have hts := X.2.2.2.2.1
  refine mm_fc (ss_aload_n hx hb (by decide +kernel : decode cX0_countSeen 0 = .ok (.aload_n 0, 1)) rfl) ?_
  refine mm_fc (ss_get X rfl in_X0 (by decide) rfl wd_1_237 (by decide +kernel : decode cX0_countSeen 1 = .ok (.getfield 22, 3))) ?_
  refine mm_fc (ss_iret (by decide +kernel : decode cX0_countSeen 4 = .ok (.ireturn, 1)) rfl) ?_
  exact mm_fn
def cd_X0_forgetSeen : mm_K mm_H := [(0, s_aload 0 1), (1, s_pushI 0 2), (2, s_putI 0 2 5), (5, s_vret)]
set_option maxRecDepth 100000 in
set_option maxHeartbeats 4000000 in
theorem ok_X0_forgetSeen (l : Launch) : mm_CodeOK l mm_I0 RX0 cX0_forgetSeen 1 none cd_X0_forgetSeen := by
  intro p e R s m args below meth c Q σ cA D A kc ks d C X
  have hx := X.1
  have hb := X.2.1
  have hown := X.2.2.2.1
  have hts := X.2.2.2.2.1
  refine mm_fc (ss_aload_n hx hb (by decide +kernel : decode cX0_forgetSeen 0 = .ok (.aload_n 0, 1)) rfl) ?_
  refine mm_fc (ss_iconst hx hb (by decide +kernel : decode cX0_forgetSeen 1 = .ok (.iconst 0, 1)) (by decide)) ?_
  refine mm_fc (ss_putI X rfl in_X0 tyX0_ok nmX0 (by decide) rfl rfl rfl rfl wd_1_237 (by decide +kernel : decode cX0_forgetSeen 2 = .ok (.putfield 22, 3))) ?_
  refine mm_fc (ss_vret (by decide +kernel : decode cX0_forgetSeen 5 = .ok (.return_, 1)) rfl) ?_
  exact mm_fn
def cd_X0_sceneAfter : mm_K mm_H := [(0, s_aload 0 1), (1, s_get 0 0 4), (4, s_aload 2 5), (5, s_callV 7 100 1 0 8), (8, s_aload 1 9), (9, s_aload 0 10), (10, s_get 0 0 13), (13, s_iload 3 14), (14, s_callV 10 141 2 0 17), (17, s_aload 0 18), (18, s_get 0 0 21), (21, s_aret)]
set_option maxRecDepth 100000 in
set_option maxHeartbeats 4000000 in
theorem ok_X0_sceneAfter (l : Launch) : mm_CodeOK l mm_I0 RX0 cX0_sceneAfter 4 (some (.object "Retouched$Scene")) cd_X0_sceneAfter := by
  intro p e R s m args below meth c Q σ cA D A kc ks d C X
  have hx := X.1
  have hb := X.2.1
  have hown := X.2.2.2.1
  have hts := X.2.2.2.2.1
  refine mm_fc (ss_aload_n hx hb (by decide +kernel : decode cX0_sceneAfter 0 = .ok (.aload_n 0, 1)) rfl) ?_
  refine mm_fc (ss_get X rfl in_X0 (by decide) rfl wd_1_235 (by decide +kernel : decode cX0_sceneAfter 1 = .ok (.getfield 12, 3))) ?_
  refine mm_fc (ss_aload_n hx hb (by decide +kernel : decode cX0_sceneAfter 4 = .ok (.aload_n 2, 1)) rfl) ?_
  refine mm_fc (ss_callV X rfl rfl wd_4_14 wd_1_8 wd_4_218 wd_4_12 wd_4_13 (by decide +kernel) (by decide +kernel) (by decide) (by decide +kernel : decode cX0_sceneAfter 5 = .ok (.invokevirtual 51, 3))) ?_
  refine mm_fc (ss_aload_n hx hb (by decide +kernel : decode cX0_sceneAfter 8 = .ok (.aload_n 1, 1)) rfl) ?_
  refine mm_fc (ss_aload_n hx hb (by decide +kernel : decode cX0_sceneAfter 9 = .ok (.aload_n 0, 1)) rfl) ?_
  refine mm_fc (ss_get X rfl in_X0 (by decide) rfl wd_1_235 (by decide +kernel : decode cX0_sceneAfter 10 = .ok (.getfield 12, 3))) ?_
  refine mm_fc (ss_iload_n hx hb (by decide +kernel : decode cX0_sceneAfter 13 = .ok (.iload_n 3, 1)) rfl) ?_
  refine mm_fc (ss_callV X rfl rfl wd_4_222 wd_1_12 wd_4_219 wd_4_220 wd_4_221 (by decide +kernel) (by decide +kernel) (by decide) (by decide +kernel : decode cX0_sceneAfter 14 = .ok (.invokevirtual 55, 3))) ?_
  refine mm_fc (ss_aload_n hx hb (by decide +kernel : decode cX0_sceneAfter 17 = .ok (.aload_n 0, 1)) rfl) ?_
  refine mm_fc (ss_get X rfl in_X0 (by decide) rfl wd_1_235 (by decide +kernel : decode cX0_sceneAfter 18 = .ok (.getfield 12, 3))) ?_
  refine mm_fc (ss_aret (by decide +kernel : decode cX0_sceneAfter 21 = .ok (.areturn, 1)) ⟨_, rfl, Or.inl ⟨_, rfl⟩⟩) ?_
  exact mm_fn
def cd_X0_firstCurtain : mm_K mm_H := [(0, s_aload 0 1), (1, s_get 0 0 4), (4, s_aload 2 5), (5, s_callV 7 100 1 0 8), (8, s_pushI 60 10), (10, s_pushI 999 13), (13, s_aload 2 14), (14, s_get 7 11 17), (17, s_bin (fun x y => x - y) 18), (18, s_callS 11 2 1 21), (21, s_istore 4 23), (23, s_pushI 0 24), (24, s_kill 26 [2] (s_istore 5 26)), (26, s_iload 5 28), (28, s_iload 4 30), (30, s_icmp (fun x y => y < x) 62 33), (33, s_aload 0 34), (34, s_get 0 0 37), (37, s_iload 3 38), (38, s_callV 7 106 1 1 41), (41, s_if (fun x => ¬ x = 0) 47 44), (44, s_iload 5 46), (46, s_iret), (47, s_aload 1 48), (48, s_aload 0 49), (49, s_get 0 0 52), (52, s_pushI 1 53), (53, s_callV 10 141 2 0 56), (56, s_iinc 5 1 59), (59, s_kill 26 [2] (s_goto 26)), (62, s_pushI (-1) 63), (63, s_iret)]
set_option maxRecDepth 100000 in
set_option maxHeartbeats 4000000 in
theorem ok_X0_firstCurtain (l : Launch) : mm_CodeOK l mm_I0 RX0 cX0_firstCurtain 6 (some .int) cd_X0_firstCurtain := by
  intro p e R s m args below meth c Q σ cA D A kc ks d C X
  have hx := X.1
  have hb := X.2.1
  have hown := X.2.2.2.1
  have hts := X.2.2.2.2.1
  refine mm_fc (ss_aload_n hx hb (by decide +kernel : decode cX0_firstCurtain 0 = .ok (.aload_n 0, 1)) rfl) ?_
  refine mm_fc (ss_get X rfl in_X0 (by decide) rfl wd_1_235 (by decide +kernel : decode cX0_firstCurtain 1 = .ok (.getfield 12, 3))) ?_
  refine mm_fc (ss_aload_n hx hb (by decide +kernel : decode cX0_firstCurtain 4 = .ok (.aload_n 2, 1)) rfl) ?_
  refine mm_fc (ss_callV X rfl rfl wd_4_14 wd_1_8 wd_4_218 wd_4_12 wd_4_13 (by decide +kernel) (by decide +kernel) (by decide) (by decide +kernel : decode cX0_firstCurtain 5 = .ok (.invokevirtual 51, 3))) ?_
  refine mm_fc (ss_bipush hx hb (by decide +kernel : decode cX0_firstCurtain 8 = .ok (.bipush 60, 2)) (by decide)) ?_
  refine mm_fc (ss_sipush hx hb (by decide +kernel : decode cX0_firstCurtain 10 = .ok (.sipush 999, 3)) (by decide)) ?_
  refine mm_fc (ss_aload_n hx hb (by decide +kernel : decode cX0_firstCurtain 13 = .ok (.aload_n 2, 1)) rfl) ?_
  refine mm_fc (ss_getN X rfl in_X7 (by decide) rfl wd_1_179 (by decide +kernel : decode cX0_firstCurtain 14 = .ok (.getfield 61, 3))) ?_
  refine mm_fc (ss_isub hx hb (by decide +kernel : decode cX0_firstCurtain 17 = .ok (.isub, 1))) ?_
  refine mm_fc (ss_callS X rfl wd_2_162 wd_1_14 wd_5_13 wd_2_161 (by decide +kernel) (by decide +kernel) (by decide) (by decide +kernel : decode cX0_firstCurtain 18 = .ok (.invokestatic 64, 3))) ?_
  refine mm_fc (ss_istore hx hb (by decide +kernel : decode cX0_firstCurtain 21 = .ok (.istore 4, 2)) (by decide)) ?_
  refine mm_fc (ss_iconst hx hb (by decide +kernel : decode cX0_firstCurtain 23 = .ok (.iconst 0, 1)) (by decide)) ?_
  refine mm_fc (ss_kill (ss_istore hx hb (by decide +kernel : decode cX0_firstCurtain 24 = .ok (.istore 5, 2)) (by decide))) ?_
  refine mm_fc (ss_iload hx hb (by decide +kernel : decode cX0_firstCurtain 26 = .ok (.iload 5, 2))) ?_
  refine mm_fc (ss_iload hx hb (by decide +kernel : decode cX0_firstCurtain 28 = .ok (.iload 4, 2))) ?_
  refine mm_fc (ss_icmpgt hx hb (by decide +kernel : decode cX0_firstCurtain 30 = .ok (.if_icmp .gt 32, 3)) (by decide)) ?_
  refine mm_fc (ss_aload_n hx hb (by decide +kernel : decode cX0_firstCurtain 33 = .ok (.aload_n 0, 1)) rfl) ?_
  refine mm_fc (ss_get X rfl in_X0 (by decide) rfl wd_1_235 (by decide +kernel : decode cX0_firstCurtain 34 = .ok (.getfield 12, 3))) ?_
  refine mm_fc (ss_iload_n hx hb (by decide +kernel : decode cX0_firstCurtain 37 = .ok (.iload_n 3, 1)) rfl) ?_
  refine mm_fc (ss_callV X rfl rfl wd_4_42 wd_1_8 wd_5_14 wd_4_40 wd_4_41 (by decide +kernel) (by decide +kernel) (by decide) (by decide +kernel : decode cX0_firstCurtain 38 = .ok (.invokevirtual 70, 3))) ?_
  refine mm_fc (ss_ifne hx hb (by decide +kernel : decode cX0_firstCurtain 41 = .ok (.ifCond .ne 6, 3)) (by decide)) ?_
  refine mm_fc (ss_iload hx hb (by decide +kernel : decode cX0_firstCurtain 44 = .ok (.iload 5, 2))) ?_
  refine mm_fc (ss_iret (by decide +kernel : decode cX0_firstCurtain 46 = .ok (.ireturn, 1)) rfl) ?_
  refine mm_fc (ss_aload_n hx hb (by decide +kernel : decode cX0_firstCurtain 47 = .ok (.aload_n 1, 1)) rfl) ?_
  refine mm_fc (ss_aload_n hx hb (by decide +kernel : decode cX0_firstCurtain 48 = .ok (.aload_n 0, 1)) rfl) ?_
  refine mm_fc (ss_get X rfl in_X0 (by decide) rfl wd_1_235 (by decide +kernel : decode cX0_firstCurtain 49 = .ok (.getfield 12, 3))) ?_
  refine mm_fc (ss_iconst hx hb (by decide +kernel : decode cX0_firstCurtain 52 = .ok (.iconst 1, 1)) (by decide)) ?_
  refine mm_fc (ss_callV X rfl rfl wd_4_222 wd_1_12 wd_4_219 wd_4_220 wd_4_221 (by decide +kernel) (by decide +kernel) (by decide) (by decide +kernel : decode cX0_firstCurtain 53 = .ok (.invokevirtual 55, 3))) ?_
  refine mm_fc (ss_iinc hx hb (by decide +kernel : decode cX0_firstCurtain 56 = .ok (.iinc 5 1, 3)) (by decide) (by decide)) ?_
  refine mm_fc (ss_kill (ss_goto hx hb (by decide +kernel : decode cX0_firstCurtain 59 = .ok (.goto (-33), 3)) (by decide))) ?_
  refine mm_fc (ss_iconst hx hb (by decide +kernel : decode cX0_firstCurtain 62 = .ok (.iconst (-1), 1)) (by decide)) ?_
  refine mm_fc (ss_iret (by decide +kernel : decode cX0_firstCurtain 63 = .ok (.ireturn, 1)) rfl) ?_
  exact mm_fn
def cd_X0_findChange : mm_K mm_H := [(0, s_aload 0 1), (1, s_pushI (-1) 2), (2, s_putI 0 6 5), (5, s_aload 0 6), (6, s_aload 0 7), (7, s_aload 1 8), (8, s_aload 2 9), (9, s_iload 3 10), (10, s_callV 0 15 3 3 13), (13, s_callV 7 124 0 1 16), (16, s_putI 0 8 19), (19, s_pushI 0 20), (20, s_kill 22 [5] (s_istore 4 22)), (22, s_iload 4 24), (24, s_aload 2 25), (25, s_get 7 9 28), (28, s_icmp (fun x y => y ≤ x) 123 31), (31, s_iload 4 33), (33, s_pushI 1 34), (34, s_bin (fun x y => x + y) 35), (35, s_istore 5 37), (37, s_iload 5 39), (39, s_aload 2 40), (40, s_get 7 9 43), (43, s_icmp (fun x y => y ≤ x) 117 46), (46, s_aload 0 47), (47, s_get 0 0 50), (50, s_aload 2 51), (51, s_callV 7 100 1 0 54), (54, s_aload 0 55), (55, s_get 0 0 58), (58, s_iload 4 60), (60, s_iload 5 62), (62, s_callV 7 117 2 0 65), (65, s_aload 1 66), (66, s_aload 0 67), (67, s_get 0 0 70), (70, s_iload 3 71), (71, s_callV 10 141 2 0 74), (74, s_aload 0 75), (75, s_get 0 0 78), (78, s_callV 7 124 0 1 81), (81, s_aload 0 82), (82, s_get 0 8 85), (85, s_icmp (fun x y => x ≤ y) 111 88), (88, s_aload 0 89), (89, s_iload 4 91), (91, s_putI 0 6 94), (94, s_aload 0 95), (95, s_iload 5 97), (97, s_putI 0 7 100), (100, s_aload 0 101), (101, s_aload 0 102), (102, s_get 0 0 105), (105, s_callV 7 124 0 1 108), (108, s_putI 0 8 111), (111, s_iinc 5 1 114), (114, s_goto 37), (117, s_iinc 4 1 120), (120, s_kill 22 [5] (s_goto 22)), (123, s_aload 0 124), (124, s_get 0 6 127), (127, s_pushI (-1) 128), (128, s_icmp (fun x y => x = y) 135 131), (131, s_pushI 1 132), (132, s_goto 136), (135, s_pushI 0 136), (136, s_zret)]
set_option maxRecDepth 100000 in
set_option maxHeartbeats 4000000 in
theorem ok_X0_findChange (l : Launch) : mm_CodeOK l mm_I0 RX0 cX0_findChange 6 (some .boolean) cd_X0_findChange := by
  intro p e R s m args below meth c Q σ cA D A kc ks d C X
  have hx := X.1
  have hb := X.2.1
  have hown := X.2.2.2.1
  have hts := X.2.2.2.2.1
  refine mm_fc (ss_aload_n hx hb (by decide +kernel : decode cX0_findChange 0 = .ok (.aload_n 0, 1)) rfl) ?_
  refine mm_fc (ss_iconst hx hb (by decide +kernel : decode cX0_findChange 1 = .ok (.iconst (-1), 1)) (by decide)) ?_
  refine mm_fc (ss_putI X rfl in_X0 tyX0_ok nmX0 (by decide) rfl rfl rfl rfl wd_2_1 (by decide +kernel : decode cX0_findChange 2 = .ok (.putfield 36, 3))) ?_
  refine mm_fc (ss_aload_n hx hb (by decide +kernel : decode cX0_findChange 5 = .ok (.aload_n 0, 1)) rfl) ?_
  refine mm_fc (ss_aload_n hx hb (by decide +kernel : decode cX0_findChange 6 = .ok (.aload_n 0, 1)) rfl) ?_
  refine mm_fc (ss_aload_n hx hb (by decide +kernel : decode cX0_findChange 7 = .ok (.aload_n 1, 1)) rfl) ?_
  refine mm_fc (ss_aload_n hx hb (by decide +kernel : decode cX0_findChange 8 = .ok (.aload_n 2, 1)) rfl) ?_
  refine mm_fc (ss_iload_n hx hb (by decide +kernel : decode cX0_findChange 9 = .ok (.iload_n 3, 1)) rfl) ?_
  refine mm_fc (ss_callV X rfl rfl wd_4_217 wd_1_10 wd_5_23 wd_4_215 wd_4_216 (by decide +kernel) (by decide +kernel) (by decide) (by decide +kernel : decode cX0_findChange 10 = .ok (.invokevirtual 74, 3))) ?_
  refine mm_fc (ss_callV X rfl rfl wd_4_127 wd_1_8 wd_5_24 wd_4_125 wd_4_126 (by decide +kernel) (by decide +kernel) (by decide) (by decide +kernel : decode cX0_findChange 13 = .ok (.invokevirtual 78, 3))) ?_
  refine mm_fc (ss_putI X rfl in_X0 tyX0_ok nmX0 (by decide) rfl rfl rfl rfl wd_2_5 (by decide +kernel : decode cX0_findChange 16 = .ok (.putfield 42, 3))) ?_
  refine mm_fc (ss_iconst hx hb (by decide +kernel : decode cX0_findChange 19 = .ok (.iconst 0, 1)) (by decide)) ?_
  refine mm_fc (ss_kill (ss_istore hx hb (by decide +kernel : decode cX0_findChange 20 = .ok (.istore 4, 2)) (by decide))) ?_
  refine mm_fc (ss_iload hx hb (by decide +kernel : decode cX0_findChange 22 = .ok (.iload 4, 2))) ?_
  refine mm_fc (ss_aload_n hx hb (by decide +kernel : decode cX0_findChange 24 = .ok (.aload_n 2, 1)) rfl) ?_
  refine mm_fc (ss_getN X rfl in_X7 (by decide) rfl wd_1_167 (by decide +kernel : decode cX0_findChange 25 = .ok (.getfield 82, 3))) ?_
  refine mm_fc (ss_icmpge hx hb (by decide +kernel : decode cX0_findChange 28 = .ok (.if_icmp .ge 95, 3)) (by decide)) ?_
  refine mm_fc (ss_iload hx hb (by decide +kernel : decode cX0_findChange 31 = .ok (.iload 4, 2))) ?_
  refine mm_fc (ss_iconst hx hb (by decide +kernel : decode cX0_findChange 33 = .ok (.iconst 1, 1)) (by decide)) ?_
  refine mm_fc (ss_iadd hx hb (by decide +kernel : decode cX0_findChange 34 = .ok (.iadd, 1))) ?_
  refine mm_fc (ss_istore hx hb (by decide +kernel : decode cX0_findChange 35 = .ok (.istore 5, 2)) (by decide)) ?_
  refine mm_fc (ss_iload hx hb (by decide +kernel : decode cX0_findChange 37 = .ok (.iload 5, 2))) ?_
  refine mm_fc (ss_aload_n hx hb (by decide +kernel : decode cX0_findChange 39 = .ok (.aload_n 2, 1)) rfl) ?_
  refine mm_fc (ss_getN X rfl in_X7 (by decide) rfl wd_1_167 (by decide +kernel : decode cX0_findChange 40 = .ok (.getfield 82, 3))) ?_
  refine mm_fc (ss_icmpge hx hb (by decide +kernel : decode cX0_findChange 43 = .ok (.if_icmp .ge 74, 3)) (by decide)) ?_
  refine mm_fc (ss_aload_n hx hb (by decide +kernel : decode cX0_findChange 46 = .ok (.aload_n 0, 1)) rfl) ?_
  refine mm_fc (ss_get X rfl in_X0 (by decide) rfl wd_1_235 (by decide +kernel : decode cX0_findChange 47 = .ok (.getfield 12, 3))) ?_
  refine mm_fc (ss_aload_n hx hb (by decide +kernel : decode cX0_findChange 50 = .ok (.aload_n 2, 1)) rfl) ?_
  refine mm_fc (ss_callV X rfl rfl wd_4_14 wd_1_8 wd_4_218 wd_4_12 wd_4_13 (by decide +kernel) (by decide +kernel) (by decide) (by decide +kernel : decode cX0_findChange 51 = .ok (.invokevirtual 51, 3))) ?_
  refine mm_fc (ss_aload_n hx hb (by decide +kernel : decode cX0_findChange 54 = .ok (.aload_n 0, 1)) rfl) ?_
  refine mm_fc (ss_get X rfl in_X0 (by decide) rfl wd_1_235 (by decide +kernel : decode cX0_findChange 55 = .ok (.getfield 12, 3))) ?_
  refine mm_fc (ss_iload hx hb (by decide +kernel : decode cX0_findChange 58 = .ok (.iload 4, 2))) ?_
  refine mm_fc (ss_iload hx hb (by decide +kernel : decode cX0_findChange 60 = .ok (.iload 5, 2))) ?_
  refine mm_fc (ss_callV X rfl rfl wd_5_28 wd_1_8 wd_5_25 wd_5_26 wd_5_27 (by decide +kernel) (by decide +kernel) (by decide) (by decide +kernel : decode cX0_findChange 62 = .ok (.invokevirtual 85, 3))) ?_
  refine mm_fc (ss_aload_n hx hb (by decide +kernel : decode cX0_findChange 65 = .ok (.aload_n 1, 1)) rfl) ?_
  refine mm_fc (ss_aload_n hx hb (by decide +kernel : decode cX0_findChange 66 = .ok (.aload_n 0, 1)) rfl) ?_
  refine mm_fc (ss_get X rfl in_X0 (by decide) rfl wd_1_235 (by decide +kernel : decode cX0_findChange 67 = .ok (.getfield 12, 3))) ?_
  refine mm_fc (ss_iload_n hx hb (by decide +kernel : decode cX0_findChange 70 = .ok (.iload_n 3, 1)) rfl) ?_
  refine mm_fc (ss_callV X rfl rfl wd_4_222 wd_1_12 wd_4_219 wd_4_220 wd_4_221 (by decide +kernel) (by decide +kernel) (by decide) (by decide +kernel : decode cX0_findChange 71 = .ok (.invokevirtual 55, 3))) ?_
  refine mm_fc (ss_aload_n hx hb (by decide +kernel : decode cX0_findChange 74 = .ok (.aload_n 0, 1)) rfl) ?_
  refine mm_fc (ss_get X rfl in_X0 (by decide) rfl wd_1_235 (by decide +kernel : decode cX0_findChange 75 = .ok (.getfield 12, 3))) ?_
  refine mm_fc (ss_callV X rfl rfl wd_4_127 wd_1_8 wd_5_24 wd_4_125 wd_4_126 (by decide +kernel) (by decide +kernel) (by decide) (by decide +kernel : decode cX0_findChange 78 = .ok (.invokevirtual 78, 3))) ?_
  refine mm_fc (ss_aload_n hx hb (by decide +kernel : decode cX0_findChange 81 = .ok (.aload_n 0, 1)) rfl) ?_
  refine mm_fc (ss_get X rfl in_X0 (by decide) rfl wd_2_5 (by decide +kernel : decode cX0_findChange 82 = .ok (.getfield 42, 3))) ?_
  refine mm_fc (ss_icmple hx hb (by decide +kernel : decode cX0_findChange 85 = .ok (.if_icmp .le 26, 3)) (by decide)) ?_
  refine mm_fc (ss_aload_n hx hb (by decide +kernel : decode cX0_findChange 88 = .ok (.aload_n 0, 1)) rfl) ?_
  refine mm_fc (ss_iload hx hb (by decide +kernel : decode cX0_findChange 89 = .ok (.iload 4, 2))) ?_
  refine mm_fc (ss_putI X rfl in_X0 tyX0_ok nmX0 (by decide) rfl rfl rfl rfl wd_2_1 (by decide +kernel : decode cX0_findChange 91 = .ok (.putfield 36, 3))) ?_
  refine mm_fc (ss_aload_n hx hb (by decide +kernel : decode cX0_findChange 94 = .ok (.aload_n 0, 1)) rfl) ?_
  refine mm_fc (ss_iload hx hb (by decide +kernel : decode cX0_findChange 95 = .ok (.iload 5, 2))) ?_
  refine mm_fc (ss_putI X rfl in_X0 tyX0_ok nmX0 (by decide) rfl rfl rfl rfl wd_2_3 (by decide +kernel : decode cX0_findChange 97 = .ok (.putfield 39, 3))) ?_
  refine mm_fc (ss_aload_n hx hb (by decide +kernel : decode cX0_findChange 100 = .ok (.aload_n 0, 1)) rfl) ?_
  refine mm_fc (ss_aload_n hx hb (by decide +kernel : decode cX0_findChange 101 = .ok (.aload_n 0, 1)) rfl) ?_
  refine mm_fc (ss_get X rfl in_X0 (by decide) rfl wd_1_235 (by decide +kernel : decode cX0_findChange 102 = .ok (.getfield 12, 3))) ?_
  refine mm_fc (ss_callV X rfl rfl wd_4_127 wd_1_8 wd_5_24 wd_4_125 wd_4_126 (by decide +kernel) (by decide +kernel) (by decide) (by decide +kernel : decode cX0_findChange 105 = .ok (.invokevirtual 78, 3))) ?_
  refine mm_fc (ss_putI X rfl in_X0 tyX0_ok nmX0 (by decide) rfl rfl rfl rfl wd_2_5 (by decide +kernel : decode cX0_findChange 108 = .ok (.putfield 42, 3))) ?_
  refine mm_fc (ss_iinc hx hb (by decide +kernel : decode cX0_findChange 111 = .ok (.iinc 5 1, 3)) (by decide) (by decide)) ?_
  refine mm_fc (ss_goto hx hb (by decide +kernel : decode cX0_findChange 114 = .ok (.goto (-77), 3)) (by decide)) ?_
  refine mm_fc (ss_iinc hx hb (by decide +kernel : decode cX0_findChange 117 = .ok (.iinc 4 1, 3)) (by decide) (by decide)) ?_
  refine mm_fc (ss_kill (ss_goto hx hb (by decide +kernel : decode cX0_findChange 120 = .ok (.goto (-98), 3)) (by decide))) ?_
  refine mm_fc (ss_aload_n hx hb (by decide +kernel : decode cX0_findChange 123 = .ok (.aload_n 0, 1)) rfl) ?_
  refine mm_fc (ss_get X rfl in_X0 (by decide) rfl wd_2_1 (by decide +kernel : decode cX0_findChange 124 = .ok (.getfield 36, 3))) ?_
  refine mm_fc (ss_iconst hx hb (by decide +kernel : decode cX0_findChange 127 = .ok (.iconst (-1), 1)) (by decide)) ?_
  refine mm_fc (ss_icmpeq hx hb (by decide +kernel : decode cX0_findChange 128 = .ok (.if_icmp .eq 7, 3)) (by decide)) ?_
  refine mm_fc (ss_iconst hx hb (by decide +kernel : decode cX0_findChange 131 = .ok (.iconst 1, 1)) (by decide)) ?_
  refine mm_fc (ss_goto hx hb (by decide +kernel : decode cX0_findChange 132 = .ok (.goto 4, 3)) (by decide)) ?_
  refine mm_fc (ss_iconst hx hb (by decide +kernel : decode cX0_findChange 135 = .ok (.iconst 0, 1)) (by decide)) ?_
  refine mm_fc (ss_zret (by decide +kernel : decode cX0_findChange 136 = .ok (.ireturn, 1)) rfl) ?_
  exact mm_fn
def cd_X0_findHome : mm_K mm_H := [(0, s_aload 0 1), (1, s_pushI (-1) 2), (2, s_putI 0 6 5), (5, s_aload 0 6), (6, s_pushI (-1) 7), (7, s_putI 0 8 10), (10, s_aload 2 11), (11, s_get 7 10 14), (14, s_pushI 8 16), (16, s_icmp (fun x y => x < y) 21 19), (19, s_pushI 0 20), (20, s_zret), (21, s_pushI 0 22), (22, s_istore 6 24), (24, s_iload 6 26), (26, s_aload 2 27), (27, s_get 7 9 30), (30, s_icmp (fun x y => y ≤ x) 118 33), (33, s_aload 2 34), (34, s_iload 6 36), (36, s_callV 7 104 1 1 39), (39, s_pushI (-1) 40), (40, s_icmp (fun x y => ¬ x = y) 112 43), (43, s_aload 0 44), (44, s_get 0 0 47), (47, s_aload 2 48), (48, s_callV 7 100 1 0 51), (51, s_aload 0 52), (52, s_get 0 0 55), (55, s_iload 6 57), (57, s_iload 3 58), (58, s_iload 4 60), (60, s_callV 7 118 3 0 63), (63, s_aload 1 64), (64, s_aload 0 65), (65, s_get 0 0 68), (68, s_iload 5 70), (70, s_callV 10 141 2 0 73), (73, s_aload 0 74), (74, s_get 0 0 77), (77, s_aload 2 78), (78, s_get 7 10 81), (81, s_callV 7 106 1 1 84), (84, s_aload 0 85), (85, s_get 0 8 88), (88, s_icmp (fun x y => x ≤ y) 112 91), (91, s_aload 0 92), (92, s_iload 6 94), (94, s_putI 0 6 97), (97, s_aload 0 98), (98, s_aload 0 99), (99, s_get 0 0 102), (102, s_aload 2 103), (103, s_get 7 10 106), (106, s_callV 7 106 1 1 109), (109, s_putI 0 8 112), (112, s_iinc 6 1 115), (115, s_goto 24), (118, s_aload 0 119), (119, s_get 0 6 122), (122, s_pushI (-1) 123), (123, s_icmp (fun x y => x = y) 130 126), (126, s_pushI 1 127), (127, s_goto 131), (130, s_pushI 0 131), (131, s_zret)]
set_option maxRecDepth 100000 in
set_option maxHeartbeats 4000000 in
theorem ok_X0_findHome (l : Launch) : mm_CodeOK l mm_I0 RX0 cX0_findHome 7 (some .boolean) cd_X0_findHome := by
  intro p e R s m args below meth c Q σ cA D A kc ks d C X
  have hx := X.1
  have hb := X.2.1
  have hown := X.2.2.2.1
  have hts := X.2.2.2.2.1
  refine mm_fc (ss_aload_n hx hb (by decide +kernel : decode cX0_findHome 0 = .ok (.aload_n 0, 1)) rfl) ?_
  refine mm_fc (ss_iconst hx hb (by decide +kernel : decode cX0_findHome 1 = .ok (.iconst (-1), 1)) (by decide)) ?_
  refine mm_fc (ss_putI X rfl in_X0 tyX0_ok nmX0 (by decide) rfl rfl rfl rfl wd_2_1 (by decide +kernel : decode cX0_findHome 2 = .ok (.putfield 36, 3))) ?_
  refine mm_fc (ss_aload_n hx hb (by decide +kernel : decode cX0_findHome 5 = .ok (.aload_n 0, 1)) rfl) ?_
  refine mm_fc (ss_iconst hx hb (by decide +kernel : decode cX0_findHome 6 = .ok (.iconst (-1), 1)) (by decide)) ?_
  refine mm_fc (ss_putI X rfl in_X0 tyX0_ok nmX0 (by decide) rfl rfl rfl rfl wd_2_5 (by decide +kernel : decode cX0_findHome 7 = .ok (.putfield 42, 3))) ?_
  refine mm_fc (ss_aload_n hx hb (by decide +kernel : decode cX0_findHome 10 = .ok (.aload_n 2, 1)) rfl) ?_
  refine mm_fc (ss_getN X rfl in_X7 (by decide) rfl wd_1_176 (by decide +kernel : decode cX0_findHome 11 = .ok (.getfield 89, 3))) ?_
  refine mm_fc (ss_bipush hx hb (by decide +kernel : decode cX0_findHome 14 = .ok (.bipush 8, 2)) (by decide)) ?_
  refine mm_fc (ss_icmplt hx hb (by decide +kernel : decode cX0_findHome 16 = .ok (.if_icmp .lt 5, 3)) (by decide)) ?_
  refine mm_fc (ss_iconst hx hb (by decide +kernel : decode cX0_findHome 19 = .ok (.iconst 0, 1)) (by decide)) ?_
  refine mm_fc (ss_zret (by decide +kernel : decode cX0_findHome 20 = .ok (.ireturn, 1)) rfl) ?_
  refine mm_fc (ss_iconst hx hb (by decide +kernel : decode cX0_findHome 21 = .ok (.iconst 0, 1)) (by decide)) ?_
  refine mm_fc (ss_istore hx hb (by decide +kernel : decode cX0_findHome 22 = .ok (.istore 6, 2)) (by decide)) ?_
  refine mm_fc (ss_iload hx hb (by decide +kernel : decode cX0_findHome 24 = .ok (.iload 6, 2))) ?_
  refine mm_fc (ss_aload_n hx hb (by decide +kernel : decode cX0_findHome 26 = .ok (.aload_n 2, 1)) rfl) ?_
  refine mm_fc (ss_getN X rfl in_X7 (by decide) rfl wd_1_167 (by decide +kernel : decode cX0_findHome 27 = .ok (.getfield 82, 3))) ?_
  refine mm_fc (ss_icmpge hx hb (by decide +kernel : decode cX0_findHome 30 = .ok (.if_icmp .ge 88, 3)) (by decide)) ?_
  refine mm_fc (ss_aload_n hx hb (by decide +kernel : decode cX0_findHome 33 = .ok (.aload_n 2, 1)) rfl) ?_
  refine mm_fc (ss_iload hx hb (by decide +kernel : decode cX0_findHome 34 = .ok (.iload 6, 2))) ?_
  refine mm_fc (ss_callV X rfl rfl wd_3_120 wd_1_8 wd_5_37 wd_3_118 wd_3_119 (by decide +kernel) (by decide +kernel) (by decide) (by decide +kernel : decode cX0_findHome 36 = .ok (.invokevirtual 92, 3))) ?_
  refine mm_fc (ss_iconst hx hb (by decide +kernel : decode cX0_findHome 39 = .ok (.iconst (-1), 1)) (by decide)) ?_
  refine mm_fc (ss_icmpne hx hb (by decide +kernel : decode cX0_findHome 40 = .ok (.if_icmp .ne 72, 3)) (by decide)) ?_
  refine mm_fc (ss_aload_n hx hb (by decide +kernel : decode cX0_findHome 43 = .ok (.aload_n 0, 1)) rfl) ?_
  refine mm_fc (ss_get X rfl in_X0 (by decide) rfl wd_1_235 (by decide +kernel : decode cX0_findHome 44 = .ok (.getfield 12, 3))) ?_
  refine mm_fc (ss_aload_n hx hb (by decide +kernel : decode cX0_findHome 47 = .ok (.aload_n 2, 1)) rfl) ?_
  refine mm_fc (ss_callV X rfl rfl wd_4_14 wd_1_8 wd_4_218 wd_4_12 wd_4_13 (by decide +kernel) (by decide +kernel) (by decide) (by decide +kernel : decode cX0_findHome 48 = .ok (.invokevirtual 51, 3))) ?_
  refine mm_fc (ss_aload_n hx hb (by decide +kernel : decode cX0_findHome 51 = .ok (.aload_n 0, 1)) rfl) ?_
  refine mm_fc (ss_get X rfl in_X0 (by decide) rfl wd_1_235 (by decide +kernel : decode cX0_findHome 52 = .ok (.getfield 12, 3))) ?_
  refine mm_fc (ss_iload hx hb (by decide +kernel : decode cX0_findHome 55 = .ok (.iload 6, 2))) ?_
  refine mm_fc (ss_iload_n hx hb (by decide +kernel : decode cX0_findHome 57 = .ok (.iload_n 3, 1)) rfl) ?_
  refine mm_fc (ss_iload hx hb (by decide +kernel : decode cX0_findHome 58 = .ok (.iload 4, 2))) ?_
  refine mm_fc (ss_callV X rfl rfl wd_3_128 wd_1_8 wd_5_38 wd_3_126 wd_3_127 (by decide +kernel) (by decide +kernel) (by decide) (by decide +kernel : decode cX0_findHome 60 = .ok (.invokevirtual 95, 3))) ?_
  refine mm_fc (ss_aload_n hx hb (by decide +kernel : decode cX0_findHome 63 = .ok (.aload_n 1, 1)) rfl) ?_
  refine mm_fc (ss_aload_n hx hb (by decide +kernel : decode cX0_findHome 64 = .ok (.aload_n 0, 1)) rfl) ?_
  refine mm_fc (ss_get X rfl in_X0 (by decide) rfl wd_1_235 (by decide +kernel : decode cX0_findHome 65 = .ok (.getfield 12, 3))) ?_
  refine mm_fc (ss_iload hx hb (by decide +kernel : decode cX0_findHome 68 = .ok (.iload 5, 2))) ?_
  refine mm_fc (ss_callV X rfl rfl wd_4_222 wd_1_12 wd_4_219 wd_4_220 wd_4_221 (by decide +kernel) (by decide +kernel) (by decide) (by decide +kernel : decode cX0_findHome 70 = .ok (.invokevirtual 55, 3))) ?_
  refine mm_fc (ss_aload_n hx hb (by decide +kernel : decode cX0_findHome 73 = .ok (.aload_n 0, 1)) rfl) ?_
  refine mm_fc (ss_get X rfl in_X0 (by decide) rfl wd_1_235 (by decide +kernel : decode cX0_findHome 74 = .ok (.getfield 12, 3))) ?_
  refine mm_fc (ss_aload_n hx hb (by decide +kernel : decode cX0_findHome 77 = .ok (.aload_n 2, 1)) rfl) ?_
  refine mm_fc (ss_getN X rfl in_X7 (by decide) rfl wd_1_176 (by decide +kernel : decode cX0_findHome 78 = .ok (.getfield 89, 3))) ?_
  refine mm_fc (ss_callV X rfl rfl wd_4_42 wd_1_8 wd_5_14 wd_4_40 wd_4_41 (by decide +kernel) (by decide +kernel) (by decide) (by decide +kernel : decode cX0_findHome 81 = .ok (.invokevirtual 70, 3))) ?_
  refine mm_fc (ss_aload_n hx hb (by decide +kernel : decode cX0_findHome 84 = .ok (.aload_n 0, 1)) rfl) ?_
  refine mm_fc (ss_get X rfl in_X0 (by decide) rfl wd_2_5 (by decide +kernel : decode cX0_findHome 85 = .ok (.getfield 42, 3))) ?_
  refine mm_fc (ss_icmple hx hb (by decide +kernel : decode cX0_findHome 88 = .ok (.if_icmp .le 24, 3)) (by decide)) ?_
  refine mm_fc (ss_aload_n hx hb (by decide +kernel : decode cX0_findHome 91 = .ok (.aload_n 0, 1)) rfl) ?_
  refine mm_fc (ss_iload hx hb (by decide +kernel : decode cX0_findHome 92 = .ok (.iload 6, 2))) ?_
  refine mm_fc (ss_putI X rfl in_X0 tyX0_ok nmX0 (by decide) rfl rfl rfl rfl wd_2_1 (by decide +kernel : decode cX0_findHome 94 = .ok (.putfield 36, 3))) ?_
  refine mm_fc (ss_aload_n hx hb (by decide +kernel : decode cX0_findHome 97 = .ok (.aload_n 0, 1)) rfl) ?_
  refine mm_fc (ss_aload_n hx hb (by decide +kernel : decode cX0_findHome 98 = .ok (.aload_n 0, 1)) rfl) ?_
  refine mm_fc (ss_get X rfl in_X0 (by decide) rfl wd_1_235 (by decide +kernel : decode cX0_findHome 99 = .ok (.getfield 12, 3))) ?_
  refine mm_fc (ss_aload_n hx hb (by decide +kernel : decode cX0_findHome 102 = .ok (.aload_n 2, 1)) rfl) ?_
  refine mm_fc (ss_getN X rfl in_X7 (by decide) rfl wd_1_176 (by decide +kernel : decode cX0_findHome 103 = .ok (.getfield 89, 3))) ?_
  refine mm_fc (ss_callV X rfl rfl wd_4_42 wd_1_8 wd_5_14 wd_4_40 wd_4_41 (by decide +kernel) (by decide +kernel) (by decide) (by decide +kernel : decode cX0_findHome 106 = .ok (.invokevirtual 70, 3))) ?_
  refine mm_fc (ss_putI X rfl in_X0 tyX0_ok nmX0 (by decide) rfl rfl rfl rfl wd_2_5 (by decide +kernel : decode cX0_findHome 109 = .ok (.putfield 42, 3))) ?_
  refine mm_fc (ss_iinc hx hb (by decide +kernel : decode cX0_findHome 112 = .ok (.iinc 6 1, 3)) (by decide) (by decide)) ?_
  refine mm_fc (ss_goto hx hb (by decide +kernel : decode cX0_findHome 115 = .ok (.goto (-91), 3)) (by decide)) ?_
  refine mm_fc (ss_aload_n hx hb (by decide +kernel : decode cX0_findHome 118 = .ok (.aload_n 0, 1)) rfl) ?_
  refine mm_fc (ss_get X rfl in_X0 (by decide) rfl wd_2_1 (by decide +kernel : decode cX0_findHome 119 = .ok (.getfield 36, 3))) ?_
  refine mm_fc (ss_iconst hx hb (by decide +kernel : decode cX0_findHome 122 = .ok (.iconst (-1), 1)) (by decide)) ?_
  refine mm_fc (ss_icmpeq hx hb (by decide +kernel : decode cX0_findHome 123 = .ok (.if_icmp .eq 7, 3)) (by decide)) ?_
  refine mm_fc (ss_iconst hx hb (by decide +kernel : decode cX0_findHome 126 = .ok (.iconst 1, 1)) (by decide)) ?_
  refine mm_fc (ss_goto hx hb (by decide +kernel : decode cX0_findHome 127 = .ok (.goto 4, 3)) (by decide)) ?_
  refine mm_fc (ss_iconst hx hb (by decide +kernel : decode cX0_findHome 130 = .ok (.iconst 0, 1)) (by decide)) ?_
  refine mm_fc (ss_zret (by decide +kernel : decode cX0_findHome 131 = .ok (.ireturn, 1)) rfl) ?_
  exact mm_fn
def cd_X0_fewestToPart : mm_K mm_H := [(0, s_aload 1 1), (1, s_aload 2 2), (2, s_callV 10 147 1 1 5), (5, s_istore 3 6), (6, s_pushI 1 7), (7, s_aload 2 8), (8, s_get 7 10 11), (11, s_bin (fun x y => x <<< (y &&& 31)) 12), (12, s_istore 4 14), (14, s_iload 4 16), (16, s_pushI 1 17), (17, s_bin (fun x y => x - y) 18), (18, s_istore 5 20), (20, s_pushI 0 21), (21, s_kill 23 [0, 1] (s_istore 6 23)), (23, s_iload 6 25), (25, s_iload 4 27), (27, s_icmp (fun x y => y ≤ x) 63 30), (30, s_iload 6 32), (32, s_callS 6 1 1 35), (35, s_iload 5 37), (37, s_callS 6 1 1 40), (40, s_icmp (fun x y => y ≤ x) 57 43), (43, s_aload 2 44), (44, s_iload 3 45), (45, s_iload 6 47), (47, s_callS 20 3 1 50), (50, s_if (fun x => x = 0) 57 53), (53, s_iload 6 55), (55, s_istore 5 57), (57, s_iinc 6 1 60), (60, s_kill 23 [0, 1] (s_goto 23)), (63, s_iload 5 65), (65, s_iret)]
set_option maxRecDepth 100000 in
set_option maxHeartbeats 4000000 in
theorem ok_X0_fewestToPart (l : Launch) : mm_CodeOK l mm_I0 RX0 cX0_fewestToPart 7 (some .int) cd_X0_fewestToPart := by
  intro p e R s m args below meth c Q σ cA D A kc ks d C X
  have hx := X.1
  have hb := X.2.1
  have hown := X.2.2.2.1
  have hts := X.2.2.2.2.1
  refine mm_fc (ss_aload_n hx hb (by decide +kernel : decode cX0_fewestToPart 0 = .ok (.aload_n 1, 1)) rfl) ?_
  refine mm_fc (ss_aload_n hx hb (by decide +kernel : decode cX0_fewestToPart 1 = .ok (.aload_n 2, 1)) rfl) ?_
  refine mm_fc (ss_callV X rfl rfl wd_4_54 wd_1_12 wd_5_47 wd_4_52 wd_4_53 (by decide +kernel) (by decide +kernel) (by decide) (by decide +kernel : decode cX0_fewestToPart 2 = .ok (.invokevirtual 99, 3))) ?_
  refine mm_fc (ss_istore_n hx hb (by decide +kernel : decode cX0_fewestToPart 5 = .ok (.istore_n 3, 1)) rfl (by decide)) ?_
  refine mm_fc (ss_iconst hx hb (by decide +kernel : decode cX0_fewestToPart 6 = .ok (.iconst 1, 1)) (by decide)) ?_
  refine mm_fc (ss_aload_n hx hb (by decide +kernel : decode cX0_fewestToPart 7 = .ok (.aload_n 2, 1)) rfl) ?_
  refine mm_fc (ss_getN X rfl in_X7 (by decide) rfl wd_1_176 (by decide +kernel : decode cX0_fewestToPart 8 = .ok (.getfield 89, 3))) ?_
  refine mm_fc (ss_ishl hx hb (by decide +kernel : decode cX0_fewestToPart 11 = .ok (.ishl, 1))) ?_
  refine mm_fc (ss_istore hx hb (by decide +kernel : decode cX0_fewestToPart 12 = .ok (.istore 4, 2)) (by decide)) ?_
  refine mm_fc (ss_iload hx hb (by decide +kernel : decode cX0_fewestToPart 14 = .ok (.iload 4, 2))) ?_
  refine mm_fc (ss_iconst hx hb (by decide +kernel : decode cX0_fewestToPart 16 = .ok (.iconst 1, 1)) (by decide)) ?_
  refine mm_fc (ss_isub hx hb (by decide +kernel : decode cX0_fewestToPart 17 = .ok (.isub, 1))) ?_
  refine mm_fc (ss_istore hx hb (by decide +kernel : decode cX0_fewestToPart 18 = .ok (.istore 5, 2)) (by decide)) ?_
  refine mm_fc (ss_iconst hx hb (by decide +kernel : decode cX0_fewestToPart 20 = .ok (.iconst 0, 1)) (by decide)) ?_
  refine mm_fc (ss_kill (ss_istore hx hb (by decide +kernel : decode cX0_fewestToPart 21 = .ok (.istore 6, 2)) (by decide))) ?_
  refine mm_fc (ss_iload hx hb (by decide +kernel : decode cX0_fewestToPart 23 = .ok (.iload 6, 2))) ?_
  refine mm_fc (ss_iload hx hb (by decide +kernel : decode cX0_fewestToPart 25 = .ok (.iload 4, 2))) ?_
  refine mm_fc (ss_icmpge hx hb (by decide +kernel : decode cX0_fewestToPart 27 = .ok (.if_icmp .ge 36, 3)) (by decide)) ?_
  refine mm_fc (ss_iload hx hb (by decide +kernel : decode cX0_fewestToPart 30 = .ok (.iload 6, 2))) ?_
  refine mm_fc (ss_callS X rfl wd_4_120 wd_1_20 wd_5_48 wd_4_119 (by decide +kernel) (by decide +kernel) (by decide) (by decide +kernel : decode cX0_fewestToPart 32 = .ok (.invokestatic 103, 3))) ?_
  refine mm_fc (ss_iload hx hb (by decide +kernel : decode cX0_fewestToPart 35 = .ok (.iload 5, 2))) ?_
  refine mm_fc (ss_callS X rfl wd_4_120 wd_1_20 wd_5_48 wd_4_119 (by decide +kernel) (by decide +kernel) (by decide) (by decide +kernel : decode cX0_fewestToPart 37 = .ok (.invokestatic 103, 3))) ?_
  refine mm_fc (ss_icmpge hx hb (by decide +kernel : decode cX0_fewestToPart 40 = .ok (.if_icmp .ge 17, 3)) (by decide)) ?_
  refine mm_fc (ss_aload_n hx hb (by decide +kernel : decode cX0_fewestToPart 43 = .ok (.aload_n 2, 1)) rfl) ?_
  refine mm_fc (ss_iload_n hx hb (by decide +kernel : decode cX0_fewestToPart 44 = .ok (.iload_n 3, 1)) rfl) ?_
  refine mm_fc (ss_iload hx hb (by decide +kernel : decode cX0_fewestToPart 45 = .ok (.iload 6, 2))) ?_
  refine mm_fc (ss_callS X rfl wd_5_51 wd_1_10 wd_5_49 wd_5_50 (by decide +kernel) (by decide +kernel) (by decide) (by decide +kernel : decode cX0_fewestToPart 47 = .ok (.invokestatic 108, 3))) ?_
  refine mm_fc (ss_ifeq hx hb (by decide +kernel : decode cX0_fewestToPart 50 = .ok (.ifCond .eq 7, 3)) (by decide)) ?_
  refine mm_fc (ss_iload hx hb (by decide +kernel : decode cX0_fewestToPart 53 = .ok (.iload 6, 2))) ?_
  refine mm_fc (ss_istore hx hb (by decide +kernel : decode cX0_fewestToPart 55 = .ok (.istore 5, 2)) (by decide)) ?_
  refine mm_fc (ss_iinc hx hb (by decide +kernel : decode cX0_fewestToPart 57 = .ok (.iinc 6 1, 3)) (by decide) (by decide)) ?_
  refine mm_fc (ss_kill (ss_goto hx hb (by decide +kernel : decode cX0_fewestToPart 60 = .ok (.goto (-37), 3)) (by decide))) ?_
  refine mm_fc (ss_iload hx hb (by decide +kernel : decode cX0_fewestToPart 63 = .ok (.iload 5, 2))) ?_
  refine mm_fc (ss_iret (by decide +kernel : decode cX0_fewestToPart 65 = .ok (.ireturn, 1)) rfl) ?_
  exact mm_fn
def cd_X0_parts : mm_K mm_H := [(0, s_pushI 0 1), (1, s_kill 2 [4, 5, 6] (s_istore 3 2)), (2, s_iload 3 3), (3, s_aload 0 4), (4, s_get 7 9 7), (7, s_icmp (fun x y => y ≤ x) 85 10), (10, s_aload 0 11), (11, s_iload 3 12), (12, s_callV 7 104 1 1 15), (15, s_istore 4 17), (17, s_aload 0 18), (18, s_iload 3 19), (19, s_pushI 1 20), (20, s_bin (fun x y => x + y) 21), (21, s_callV 7 104 1 1 24), (24, s_istore 5 26), (26, s_iload 4 28), (28, s_pushI (-1) 29), (29, s_icmp (fun x y => x = y) 51 32), (32, s_iload 5 34), (34, s_pushI (-1) 35), (35, s_icmp (fun x y => x = y) 51 38), (38, s_iload 1 39), (39, s_iload 3 40), (40, s_bin (fun x y => x >>> (y &&& 31)) 41), (41, s_pushI 1 42), (42, s_bin (fun x y => x &&& y) 43), (43, s_pushI 1 44), (44, s_icmp (fun x y => ¬ x = y) 51 47), (47, s_pushI 1 48), (48, s_goto 52), (51, s_pushI 0 52), (52, s_istore 6 54), (54, s_iload 6 56), (56, s_if (fun x => x = 0) 79 59), (59, s_iload 2 60), (60, s_iload 4 62), (62, s_bin (fun x y => x >>> (y &&& 31)) 63), (63, s_pushI 1 64), (64, s_bin (fun x y => x &&& y) 65), (65, s_if (fun x => ¬ x = 0) 79 68), (68, s_iload 2 69), (69, s_iload 5 71), (71, s_bin (fun x y => x >>> (y &&& 31)) 72), (72, s_pushI 1 73), (73, s_bin (fun x y => x &&& y) 74), (74, s_if (fun x => ¬ x = 0) 79 77), (77, s_pushI 0 78), (78, s_zret), (79, s_iinc 3 1 82), (82, s_kill 2 [4, 5, 6] (s_goto 2)), (85, s_pushI 1 86), (86, s_zret)]
set_option maxRecDepth 100000 in
set_option maxHeartbeats 4000000 in
theorem ok_X0_parts (l : Launch) : mm_CodeOK l mm_I0 RX0 cX0_parts 7 (some .boolean) cd_X0_parts := by
  intro p e R s m args below meth c Q σ cA D A kc ks d C X
  have hx := X.1
  have hb := X.2.1
  have hown := X.2.2.2.1
  have hts := X.2.2.2.2.1
  refine mm_fc (ss_iconst hx hb (by decide +kernel : decode cX0_parts 0 = .ok (.iconst 0, 1)) (by decide)) ?_
  refine mm_fc (ss_kill (ss_istore_n hx hb (by decide +kernel : decode cX0_parts 1 = .ok (.istore_n 3, 1)) rfl (by decide))) ?_
  refine mm_fc (ss_iload_n hx hb (by decide +kernel : decode cX0_parts 2 = .ok (.iload_n 3, 1)) rfl) ?_
  refine mm_fc (ss_aload_n hx hb (by decide +kernel : decode cX0_parts 3 = .ok (.aload_n 0, 1)) rfl) ?_
  refine mm_fc (ss_getN X rfl in_X7 (by decide) rfl wd_1_167 (by decide +kernel : decode cX0_parts 4 = .ok (.getfield 82, 3))) ?_
  refine mm_fc (ss_icmpge hx hb (by decide +kernel : decode cX0_parts 7 = .ok (.if_icmp .ge 78, 3)) (by decide)) ?_
  refine mm_fc (ss_aload_n hx hb (by decide +kernel : decode cX0_parts 10 = .ok (.aload_n 0, 1)) rfl) ?_
  refine mm_fc (ss_iload_n hx hb (by decide +kernel : decode cX0_parts 11 = .ok (.iload_n 3, 1)) rfl) ?_
  refine mm_fc (ss_callV X rfl rfl wd_3_120 wd_1_8 wd_5_37 wd_3_118 wd_3_119 (by decide +kernel) (by decide +kernel) (by decide) (by decide +kernel : decode cX0_parts 12 = .ok (.invokevirtual 92, 3))) ?_
  refine mm_fc (ss_istore hx hb (by decide +kernel : decode cX0_parts 15 = .ok (.istore 4, 2)) (by decide)) ?_
  refine mm_fc (ss_aload_n hx hb (by decide +kernel : decode cX0_parts 17 = .ok (.aload_n 0, 1)) rfl) ?_
  refine mm_fc (ss_iload_n hx hb (by decide +kernel : decode cX0_parts 18 = .ok (.iload_n 3, 1)) rfl) ?_
  refine mm_fc (ss_iconst hx hb (by decide +kernel : decode cX0_parts 19 = .ok (.iconst 1, 1)) (by decide)) ?_
  refine mm_fc (ss_iadd hx hb (by decide +kernel : decode cX0_parts 20 = .ok (.iadd, 1))) ?_
  refine mm_fc (ss_callV X rfl rfl wd_3_120 wd_1_8 wd_5_37 wd_3_118 wd_3_119 (by decide +kernel) (by decide +kernel) (by decide) (by decide +kernel : decode cX0_parts 21 = .ok (.invokevirtual 92, 3))) ?_
  refine mm_fc (ss_istore hx hb (by decide +kernel : decode cX0_parts 24 = .ok (.istore 5, 2)) (by decide)) ?_
  refine mm_fc (ss_iload hx hb (by decide +kernel : decode cX0_parts 26 = .ok (.iload 4, 2))) ?_
  refine mm_fc (ss_iconst hx hb (by decide +kernel : decode cX0_parts 28 = .ok (.iconst (-1), 1)) (by decide)) ?_
  refine mm_fc (ss_icmpeq hx hb (by decide +kernel : decode cX0_parts 29 = .ok (.if_icmp .eq 22, 3)) (by decide)) ?_
  refine mm_fc (ss_iload hx hb (by decide +kernel : decode cX0_parts 32 = .ok (.iload 5, 2))) ?_
  refine mm_fc (ss_iconst hx hb (by decide +kernel : decode cX0_parts 34 = .ok (.iconst (-1), 1)) (by decide)) ?_
  refine mm_fc (ss_icmpeq hx hb (by decide +kernel : decode cX0_parts 35 = .ok (.if_icmp .eq 16, 3)) (by decide)) ?_
  refine mm_fc (ss_iload_n hx hb (by decide +kernel : decode cX0_parts 38 = .ok (.iload_n 1, 1)) rfl) ?_
  refine mm_fc (ss_iload_n hx hb (by decide +kernel : decode cX0_parts 39 = .ok (.iload_n 3, 1)) rfl) ?_
  refine mm_fc (ss_ishr hx hb (by decide +kernel : decode cX0_parts 40 = .ok (.ishr, 1))) ?_
  refine mm_fc (ss_iconst hx hb (by decide +kernel : decode cX0_parts 41 = .ok (.iconst 1, 1)) (by decide)) ?_
  refine mm_fc (ss_iand hx hb (by decide +kernel : decode cX0_parts 42 = .ok (.iand, 1))) ?_
  refine mm_fc (ss_iconst hx hb (by decide +kernel : decode cX0_parts 43 = .ok (.iconst 1, 1)) (by decide)) ?_
  refine mm_fc (ss_icmpne hx hb (by decide +kernel : decode cX0_parts 44 = .ok (.if_icmp .ne 7, 3)) (by decide)) ?_
  refine mm_fc (ss_iconst hx hb (by decide +kernel : decode cX0_parts 47 = .ok (.iconst 1, 1)) (by decide)) ?_
  refine mm_fc (ss_goto hx hb (by decide +kernel : decode cX0_parts 48 = .ok (.goto 4, 3)) (by decide)) ?_
  refine mm_fc (ss_iconst hx hb (by decide +kernel : decode cX0_parts 51 = .ok (.iconst 0, 1)) (by decide)) ?_
  refine mm_fc (ss_istore hx hb (by decide +kernel : decode cX0_parts 52 = .ok (.istore 6, 2)) (by decide)) ?_
  refine mm_fc (ss_iload hx hb (by decide +kernel : decode cX0_parts 54 = .ok (.iload 6, 2))) ?_
  refine mm_fc (ss_ifeq hx hb (by decide +kernel : decode cX0_parts 56 = .ok (.ifCond .eq 23, 3)) (by decide)) ?_
  refine mm_fc (ss_iload_n hx hb (by decide +kernel : decode cX0_parts 59 = .ok (.iload_n 2, 1)) rfl) ?_
  refine mm_fc (ss_iload hx hb (by decide +kernel : decode cX0_parts 60 = .ok (.iload 4, 2))) ?_
  refine mm_fc (ss_ishr hx hb (by decide +kernel : decode cX0_parts 62 = .ok (.ishr, 1))) ?_
  refine mm_fc (ss_iconst hx hb (by decide +kernel : decode cX0_parts 63 = .ok (.iconst 1, 1)) (by decide)) ?_
  refine mm_fc (ss_iand hx hb (by decide +kernel : decode cX0_parts 64 = .ok (.iand, 1))) ?_
  refine mm_fc (ss_ifne hx hb (by decide +kernel : decode cX0_parts 65 = .ok (.ifCond .ne 14, 3)) (by decide)) ?_
  refine mm_fc (ss_iload_n hx hb (by decide +kernel : decode cX0_parts 68 = .ok (.iload_n 2, 1)) rfl) ?_
  refine mm_fc (ss_iload hx hb (by decide +kernel : decode cX0_parts 69 = .ok (.iload 5, 2))) ?_
  refine mm_fc (ss_ishr hx hb (by decide +kernel : decode cX0_parts 71 = .ok (.ishr, 1))) ?_
  refine mm_fc (ss_iconst hx hb (by decide +kernel : decode cX0_parts 72 = .ok (.iconst 1, 1)) (by decide)) ?_
  refine mm_fc (ss_iand hx hb (by decide +kernel : decode cX0_parts 73 = .ok (.iand, 1))) ?_
  refine mm_fc (ss_ifne hx hb (by decide +kernel : decode cX0_parts 74 = .ok (.ifCond .ne 5, 3)) (by decide)) ?_
  refine mm_fc (ss_iconst hx hb (by decide +kernel : decode cX0_parts 77 = .ok (.iconst 0, 1)) (by decide)) ?_
  refine mm_fc (ss_zret (by decide +kernel : decode cX0_parts 78 = .ok (.ireturn, 1)) rfl) ?_
  refine mm_fc (ss_iinc hx hb (by decide +kernel : decode cX0_parts 79 = .ok (.iinc 3 1, 3)) (by decide) (by decide)) ?_
  refine mm_fc (ss_kill (ss_goto hx hb (by decide +kernel : decode cX0_parts 82 = .ok (.goto (-80), 3)) (by decide))) ?_
  refine mm_fc (ss_iconst hx hb (by decide +kernel : decode cX0_parts 85 = .ok (.iconst 1, 1)) (by decide)) ?_
  refine mm_fc (ss_zret (by decide +kernel : decode cX0_parts 86 = .ok (.ireturn, 1)) rfl) ?_
  exact mm_fn
def cd_X0_forgetOutcomes : mm_K mm_H := [(0, s_pushI 0 1), (1, s_istore 1 2), (2, s_iload 1 3), (3, s_pushI 256 6), (6, s_icmp (fun x y => y ≤ x) 22 9), (9, s_aload 0 10), (10, s_get 0 4 13), (13, s_iload 1 14), (14, s_pushI 0 15), (15, s_zast 16), (16, s_iinc 1 1 19), (19, s_goto 2), (22, s_vret)]
set_option maxRecDepth 100000 in
set_option maxHeartbeats 4000000 in
theorem ok_X0_forgetOutcomes (l : Launch) : mm_CodeOK l mm_I0 RX0 cX0_forgetOutcomes 2 none cd_X0_forgetOutcomes := by
  intro p e R s m args below meth c Q σ cA D A kc ks d C X
  have hx := X.1
  have hb := X.2.1
  have hown := X.2.2.2.1
  have hts := X.2.2.2.2.1
  refine mm_fc (ss_iconst hx hb (by decide +kernel : decode cX0_forgetOutcomes 0 = .ok (.iconst 0, 1)) (by decide)) ?_
  refine mm_fc (ss_istore_n hx hb (by decide +kernel : decode cX0_forgetOutcomes 1 = .ok (.istore_n 1, 1)) rfl (by decide)) ?_
  refine mm_fc (ss_iload_n hx hb (by decide +kernel : decode cX0_forgetOutcomes 2 = .ok (.iload_n 1, 1)) rfl) ?_
  refine mm_fc (ss_sipush hx hb (by decide +kernel : decode cX0_forgetOutcomes 3 = .ok (.sipush 256, 3)) (by decide)) ?_
  refine mm_fc (ss_icmpge hx hb (by decide +kernel : decode cX0_forgetOutcomes 6 = .ok (.if_icmp .ge 16, 3)) (by decide)) ?_
  refine mm_fc (ss_aload_n hx hb (by decide +kernel : decode cX0_forgetOutcomes 9 = .ok (.aload_n 0, 1)) rfl) ?_
  refine mm_fc (ss_get X rfl in_X0 (by decide) rfl wd_1_239 (by decide +kernel : decode cX0_forgetOutcomes 10 = .ok (.getfield 29, 3))) ?_
  refine mm_fc (ss_iload_n hx hb (by decide +kernel : decode cX0_forgetOutcomes 13 = .ok (.iload_n 1, 1)) rfl) ?_
  refine mm_fc (ss_iconst hx hb (by decide +kernel : decode cX0_forgetOutcomes 14 = .ok (.iconst 0, 1)) (by decide)) ?_
  refine mm_fc (ss_zast X (by decide +kernel : decode cX0_forgetOutcomes 15 = .ok (.bastore, 1))) ?_
  refine mm_fc (ss_iinc hx hb (by decide +kernel : decode cX0_forgetOutcomes 16 = .ok (.iinc 1 1, 3)) (by decide) (by decide)) ?_
  refine mm_fc (ss_goto hx hb (by decide +kernel : decode cX0_forgetOutcomes 19 = .ok (.goto (-17), 3)) (by decide)) ?_
  refine mm_fc (ss_vret (by decide +kernel : decode cX0_forgetOutcomes 22 = .ok (.return_, 1)) rfl) ?_
  exact mm_fn
def cd_X0_isAtRest : mm_K mm_H := [(0, s_pushI 0 1), (1, s_kill 3 [6] (s_istore 5 3)), (3, s_iload 5 5), (5, s_aload 2 6), (6, s_get 7 10 9), (9, s_icmp (fun x y => y ≤ x) 54 12), (12, s_iload 4 14), (14, s_pushI 1 15), (15, s_iload 5 17), (17, s_bin (fun x y => x <<< (y &&& 31)) 18), (18, s_bin (fun x y => x ^^^ y) 19), (19, s_istore 6 21), (21, s_aload 0 22), (22, s_aload 1 23), (23, s_aload 2 24), (24, s_iload 3 25), (25, s_iload 6 27), (27, s_iload 5 29), (29, s_callV 0 23 5 1 32), (32, s_aload 0 33), (33, s_aload 1 34), (34, s_aload 2 35), (35, s_iload 3 36), (36, s_iload 4 38), (38, s_iload 5 40), (40, s_callV 0 23 5 1 43), (43, s_icmp (fun x y => x ≤ y) 48 46), (46, s_pushI 0 47), (47, s_zret), (48, s_iinc 5 1 51), (51, s_kill 3 [6] (s_goto 3)), (54, s_pushI 1 55), (55, s_zret)]
set_option maxRecDepth 100000 in
set_option maxHeartbeats 4000000 in
theorem ok_X0_isAtRest (l : Launch) : mm_CodeOK l mm_I0 RX0 cX0_isAtRest 7 (some .boolean) cd_X0_isAtRest := by
  intro p e R s m args below meth c Q σ cA D A kc ks d C X
  have hx := X.1
  have hb := X.2.1
  have hown := X.2.2.2.1
  have hts := X.2.2.2.2.1
  refine mm_fc (ss_iconst hx hb (by decide +kernel : decode cX0_isAtRest 0 = .ok (.iconst 0, 1)) (by decide)) ?_
  refine mm_fc (ss_kill (ss_istore hx hb (by decide +kernel : decode cX0_isAtRest 1 = .ok (.istore 5, 2)) (by decide))) ?_
  refine mm_fc (ss_iload hx hb (by decide +kernel : decode cX0_isAtRest 3 = .ok (.iload 5, 2))) ?_
  refine mm_fc (ss_aload_n hx hb (by decide +kernel : decode cX0_isAtRest 5 = .ok (.aload_n 2, 1)) rfl) ?_
  refine mm_fc (ss_getN X rfl in_X7 (by decide) rfl wd_1_176 (by decide +kernel : decode cX0_isAtRest 6 = .ok (.getfield 89, 3))) ?_
  refine mm_fc (ss_icmpge hx hb (by decide +kernel : decode cX0_isAtRest 9 = .ok (.if_icmp .ge 45, 3)) (by decide)) ?_
  refine mm_fc (ss_iload hx hb (by decide +kernel : decode cX0_isAtRest 12 = .ok (.iload 4, 2))) ?_
  refine mm_fc (ss_iconst hx hb (by decide +kernel : decode cX0_isAtRest 14 = .ok (.iconst 1, 1)) (by decide)) ?_
  refine mm_fc (ss_iload hx hb (by decide +kernel : decode cX0_isAtRest 15 = .ok (.iload 5, 2))) ?_
  refine mm_fc (ss_ishl hx hb (by decide +kernel : decode cX0_isAtRest 17 = .ok (.ishl, 1))) ?_
  refine mm_fc (ss_ixor hx hb (by decide +kernel : decode cX0_isAtRest 18 = .ok (.ixor, 1))) ?_
  refine mm_fc (ss_istore hx hb (by decide +kernel : decode cX0_isAtRest 19 = .ok (.istore 6, 2)) (by decide)) ?_
  refine mm_fc (ss_aload_n hx hb (by decide +kernel : decode cX0_isAtRest 21 = .ok (.aload_n 0, 1)) rfl) ?_
  refine mm_fc (ss_aload_n hx hb (by decide +kernel : decode cX0_isAtRest 22 = .ok (.aload_n 1, 1)) rfl) ?_
  refine mm_fc (ss_aload_n hx hb (by decide +kernel : decode cX0_isAtRest 23 = .ok (.aload_n 2, 1)) rfl) ?_
  refine mm_fc (ss_iload_n hx hb (by decide +kernel : decode cX0_isAtRest 24 = .ok (.iload_n 3, 1)) rfl) ?_
  refine mm_fc (ss_iload hx hb (by decide +kernel : decode cX0_isAtRest 25 = .ok (.iload 6, 2))) ?_
  refine mm_fc (ss_iload hx hb (by decide +kernel : decode cX0_isAtRest 27 = .ok (.iload 5, 2))) ?_
  refine mm_fc (ss_callV X rfl rfl wd_5_67 wd_1_10 wd_5_64 wd_5_66 wd_p_34 (by decide +kernel) (by decide +kernel) (by decide) (by decide +kernel : decode cX0_isAtRest 29 = .ok (.invokevirtual 112, 3))) ?_
  refine mm_fc (ss_aload_n hx hb (by decide +kernel : decode cX0_isAtRest 32 = .ok (.aload_n 0, 1)) rfl) ?_
  refine mm_fc (ss_aload_n hx hb (by decide +kernel : decode cX0_isAtRest 33 = .ok (.aload_n 1, 1)) rfl) ?_
  refine mm_fc (ss_aload_n hx hb (by decide +kernel : decode cX0_isAtRest 34 = .ok (.aload_n 2, 1)) rfl) ?_
  refine mm_fc (ss_iload_n hx hb (by decide +kernel : decode cX0_isAtRest 35 = .ok (.iload_n 3, 1)) rfl) ?_
  refine mm_fc (ss_iload hx hb (by decide +kernel : decode cX0_isAtRest 36 = .ok (.iload 4, 2))) ?_
  refine mm_fc (ss_iload hx hb (by decide +kernel : decode cX0_isAtRest 38 = .ok (.iload 5, 2))) ?_
  refine mm_fc (ss_callV X rfl rfl wd_5_67 wd_1_10 wd_5_64 wd_5_66 wd_p_34 (by decide +kernel) (by decide +kernel) (by decide) (by decide +kernel : decode cX0_isAtRest 40 = .ok (.invokevirtual 112, 3))) ?_
  refine mm_fc (ss_icmple hx hb (by decide +kernel : decode cX0_isAtRest 43 = .ok (.if_icmp .le 5, 3)) (by decide)) ?_
  refine mm_fc (ss_iconst hx hb (by decide +kernel : decode cX0_isAtRest 46 = .ok (.iconst 0, 1)) (by decide)) ?_
  refine mm_fc (ss_zret (by decide +kernel : decode cX0_isAtRest 47 = .ok (.ireturn, 1)) rfl) ?_
  refine mm_fc (ss_iinc hx hb (by decide +kernel : decode cX0_isAtRest 48 = .ok (.iinc 5 1, 3)) (by decide) (by decide)) ?_
  refine mm_fc (ss_kill (ss_goto hx hb (by decide +kernel : decode cX0_isAtRest 51 = .ok (.goto (-48), 3)) (by decide))) ?_
  refine mm_fc (ss_iconst hx hb (by decide +kernel : decode cX0_isAtRest 54 = .ok (.iconst 1, 1)) (by decide)) ?_
  refine mm_fc (ss_zret (by decide +kernel : decode cX0_isAtRest 55 = .ok (.ireturn, 1)) rfl) ?_
  exact mm_fn
def cd_X0_lookIn : mm_K mm_H := [(0, s_iload 4 2), (2, s_if (fun x => x < 0) 22 5), (5, s_iload 4 7), (7, s_pushI 256 10), (10, s_icmp (fun x y => y ≤ x) 22 13), (13, s_aload 2 14), (14, s_iload 5 16), (16, s_callV 7 102 1 1 19), (19, s_if (fun x => ¬ x = 0) 24 22), (22, s_pushI 0 23), (23, s_iret), (24, s_aload 0 25), (25, s_get 0 4 28), (28, s_iload 4 30), (30, s_zald 31), (31, s_if (fun x => ¬ x = 0) 131 34), (34, s_aload 0 35), (35, s_get 0 4 38), (38, s_iload 4 40), (40, s_pushI 1 41), (41, s_zast 42), (42, s_aload 0 43), (43, s_get 0 0 46), (46, s_aload 2 47), (47, s_callV 7 100 1 0 50), (50, s_pushI 0 51), (51, s_istore 6 53), (53, s_iload 6 55), (55, s_aload 2 56), (56, s_get 7 10 59), (59, s_icmp (fun x y => y ≤ x) 84 62), (62, s_aload 0 63), (63, s_get 0 0 66), (66, s_iload 6 68), (68, s_iload 4 70), (70, s_iload 6 72), (72, s_bin (fun x y => x >>> (y &&& 31)) 73), (73, s_pushI 1 74), (74, s_bin (fun x y => x &&& y) 75), (75, s_callV 7 114 2 0 78), (78, s_iinc 6 1 81), (81, s_goto 53), (84, s_aload 1 85), (85, s_aload 0 86), (86, s_get 0 0 89), (89, s_iload 3 90), (90, s_callV 10 141 2 0 93), (93, s_pushI 0 94), (94, s_kill 96 [1, 2, 3] (s_istore 6 96)), (96, s_iload 6 98), (98, s_pushI 8 100), (100, s_icmp (fun x y => y ≤ x) 131 103), (103, s_aload 0 104), (104, s_get 0 3 107), (107, s_iload 4 109), (109, s_pushI 8 111), (111, s_bin (fun x y => x * y) 112), (112, s_iload 6 114), (114, s_bin (fun x y => x + y) 115), (115, s_aload 0 116), (116, s_get 0 0 119), (119, s_iload 6 121), (121, s_callV 7 106 1 1 124), (124, s_iast 125), (125, s_iinc 6 1 128), (128, s_kill 96 [1, 2, 3] (s_goto 96)), (131, s_aload 0 132), (132, s_get 0 3 135), (135, s_iload 4 137), (137, s_pushI 8 139), (139, s_bin (fun x y => x * y) 140), (140, s_iload 5 142), (142, s_bin (fun x y => x + y) 143), (143, s_iald 144), (144, s_iret)]
set_option maxRecDepth 100000 in
set_option maxHeartbeats 4000000 in
theorem ok_X0_lookIn (l : Launch) : mm_CodeOK l mm_I0 RX0 cX0_lookIn 7 (some .int) cd_X0_lookIn := by
  intro p e R s m args below meth c Q σ cA D A kc ks d C X
  have hx := X.1
  have hb := X.2.1
  have hown := X.2.2.2.1
  have hts := X.2.2.2.2.1
  refine mm_fc (ss_iload hx hb (by decide +kernel : decode cX0_lookIn 0 = .ok (.iload 4, 2))) ?_
  refine mm_fc (ss_iflt hx hb (by decide +kernel : decode cX0_lookIn 2 = .ok (.ifCond .lt 20, 3)) (by decide)) ?_
  refine mm_fc (ss_iload hx hb (by decide +kernel : decode cX0_lookIn 5 = .ok (.iload 4, 2))) ?_
  refine mm_fc (ss_sipush hx hb (by decide +kernel : decode cX0_lookIn 7 = .ok (.sipush 256, 3)) (by decide)) ?_
  refine mm_fc (ss_icmpge hx hb (by decide +kernel : decode cX0_lookIn 10 = .ok (.if_icmp .ge 12, 3)) (by decide)) ?_
  refine mm_fc (ss_aload_n hx hb (by decide +kernel : decode cX0_lookIn 13 = .ok (.aload_n 2, 1)) rfl) ?_
  refine mm_fc (ss_iload hx hb (by decide +kernel : decode cX0_lookIn 14 = .ok (.iload 5, 2))) ?_
  refine mm_fc (ss_callV X rfl rfl wd_3_108 wd_1_8 wd_5_68 wd_3_106 wd_3_107 (by decide +kernel) (by decide +kernel) (by decide) (by decide +kernel : decode cX0_lookIn 16 = .ok (.invokevirtual 116, 3))) ?_
  refine mm_fc (ss_ifne hx hb (by decide +kernel : decode cX0_lookIn 19 = .ok (.ifCond .ne 5, 3)) (by decide)) ?_
  refine mm_fc (ss_iconst hx hb (by decide +kernel : decode cX0_lookIn 22 = .ok (.iconst 0, 1)) (by decide)) ?_
  refine mm_fc (ss_iret (by decide +kernel : decode cX0_lookIn 23 = .ok (.ireturn, 1)) rfl) ?_
  refine mm_fc (ss_aload_n hx hb (by decide +kernel : decode cX0_lookIn 24 = .ok (.aload_n 0, 1)) rfl) ?_
  refine mm_fc (ss_get X rfl in_X0 (by decide) rfl wd_1_239 (by decide +kernel : decode cX0_lookIn 25 = .ok (.getfield 29, 3))) ?_
  refine mm_fc (ss_iload hx hb (by decide +kernel : decode cX0_lookIn 28 = .ok (.iload 4, 2))) ?_
  refine mm_fc (ss_zald X (by decide +kernel : decode cX0_lookIn 30 = .ok (.baload, 1))) ?_
  refine mm_fc (ss_ifne hx hb (by decide +kernel : decode cX0_lookIn 31 = .ok (.ifCond .ne 100, 3)) (by decide)) ?_
  refine mm_fc (ss_aload_n hx hb (by decide +kernel : decode cX0_lookIn 34 = .ok (.aload_n 0, 1)) rfl) ?_
  refine mm_fc (ss_get X rfl in_X0 (by decide) rfl wd_1_239 (by decide +kernel : decode cX0_lookIn 35 = .ok (.getfield 29, 3))) ?_
  refine mm_fc (ss_iload hx hb (by decide +kernel : decode cX0_lookIn 38 = .ok (.iload 4, 2))) ?_
  refine mm_fc (ss_iconst hx hb (by decide +kernel : decode cX0_lookIn 40 = .ok (.iconst 1, 1)) (by decide)) ?_
  refine mm_fc (ss_zast X (by decide +kernel : decode cX0_lookIn 41 = .ok (.bastore, 1))) ?_
  refine mm_fc (ss_aload_n hx hb (by decide +kernel : decode cX0_lookIn 42 = .ok (.aload_n 0, 1)) rfl) ?_
  refine mm_fc (ss_get X rfl in_X0 (by decide) rfl wd_1_235 (by decide +kernel : decode cX0_lookIn 43 = .ok (.getfield 12, 3))) ?_
  refine mm_fc (ss_aload_n hx hb (by decide +kernel : decode cX0_lookIn 46 = .ok (.aload_n 2, 1)) rfl) ?_
  refine mm_fc (ss_callV X rfl rfl wd_4_14 wd_1_8 wd_4_218 wd_4_12 wd_4_13 (by decide +kernel) (by decide +kernel) (by decide) (by decide +kernel : decode cX0_lookIn 47 = .ok (.invokevirtual 51, 3))) ?_
  refine mm_fc (ss_iconst hx hb (by decide +kernel : decode cX0_lookIn 50 = .ok (.iconst 0, 1)) (by decide)) ?_
  refine mm_fc (ss_istore hx hb (by decide +kernel : decode cX0_lookIn 51 = .ok (.istore 6, 2)) (by decide)) ?_
  refine mm_fc (ss_iload hx hb (by decide +kernel : decode cX0_lookIn 53 = .ok (.iload 6, 2))) ?_
  refine mm_fc (ss_aload_n hx hb (by decide +kernel : decode cX0_lookIn 55 = .ok (.aload_n 2, 1)) rfl) ?_
  refine mm_fc (ss_getN X rfl in_X7 (by decide) rfl wd_1_176 (by decide +kernel : decode cX0_lookIn 56 = .ok (.getfield 89, 3))) ?_
  refine mm_fc (ss_icmpge hx hb (by decide +kernel : decode cX0_lookIn 59 = .ok (.if_icmp .ge 25, 3)) (by decide)) ?_
  refine mm_fc (ss_aload_n hx hb (by decide +kernel : decode cX0_lookIn 62 = .ok (.aload_n 0, 1)) rfl) ?_
  refine mm_fc (ss_get X rfl in_X0 (by decide) rfl wd_1_235 (by decide +kernel : decode cX0_lookIn 63 = .ok (.getfield 12, 3))) ?_
  refine mm_fc (ss_iload hx hb (by decide +kernel : decode cX0_lookIn 66 = .ok (.iload 6, 2))) ?_
  refine mm_fc (ss_iload hx hb (by decide +kernel : decode cX0_lookIn 68 = .ok (.iload 4, 2))) ?_
  refine mm_fc (ss_iload hx hb (by decide +kernel : decode cX0_lookIn 70 = .ok (.iload 6, 2))) ?_
  refine mm_fc (ss_ishr hx hb (by decide +kernel : decode cX0_lookIn 72 = .ok (.ishr, 1))) ?_
  refine mm_fc (ss_iconst hx hb (by decide +kernel : decode cX0_lookIn 73 = .ok (.iconst 1, 1)) (by decide)) ?_
  refine mm_fc (ss_iand hx hb (by decide +kernel : decode cX0_lookIn 74 = .ok (.iand, 1))) ?_
  refine mm_fc (ss_callV X rfl rfl wd_5_72 wd_1_8 wd_5_69 wd_5_70 wd_5_71 (by decide +kernel) (by decide +kernel) (by decide) (by decide +kernel : decode cX0_lookIn 75 = .ok (.invokevirtual 120, 3))) ?_
  refine mm_fc (ss_iinc hx hb (by decide +kernel : decode cX0_lookIn 78 = .ok (.iinc 6 1, 3)) (by decide) (by decide)) ?_
  refine mm_fc (ss_goto hx hb (by decide +kernel : decode cX0_lookIn 81 = .ok (.goto (-28), 3)) (by decide)) ?_
  refine mm_fc (ss_aload_n hx hb (by decide +kernel : decode cX0_lookIn 84 = .ok (.aload_n 1, 1)) rfl) ?_
  refine mm_fc (ss_aload_n hx hb (by decide +kernel : decode cX0_lookIn 85 = .ok (.aload_n 0, 1)) rfl) ?_
  refine mm_fc (ss_get X rfl in_X0 (by decide) rfl wd_1_235 (by decide +kernel : decode cX0_lookIn 86 = .ok (.getfield 12, 3))) ?_
  refine mm_fc (ss_iload_n hx hb (by decide +kernel : decode cX0_lookIn 89 = .ok (.iload_n 3, 1)) rfl) ?_
  refine mm_fc (ss_callV X rfl rfl wd_4_222 wd_1_12 wd_4_219 wd_4_220 wd_4_221 (by decide +kernel) (by decide +kernel) (by decide) (by decide +kernel : decode cX0_lookIn 90 = .ok (.invokevirtual 55, 3))) ?_
  refine mm_fc (ss_iconst hx hb (by decide +kernel : decode cX0_lookIn 93 = .ok (.iconst 0, 1)) (by decide)) ?_
  refine mm_fc (ss_kill (ss_istore hx hb (by decide +kernel : decode cX0_lookIn 94 = .ok (.istore 6, 2)) (by decide))) ?_
  refine mm_fc (ss_iload hx hb (by decide +kernel : decode cX0_lookIn 96 = .ok (.iload 6, 2))) ?_
  refine mm_fc (ss_bipush hx hb (by decide +kernel : decode cX0_lookIn 98 = .ok (.bipush 8, 2)) (by decide)) ?_
  refine mm_fc (ss_icmpge hx hb (by decide +kernel : decode cX0_lookIn 100 = .ok (.if_icmp .ge 31, 3)) (by decide)) ?_
  refine mm_fc (ss_aload_n hx hb (by decide +kernel : decode cX0_lookIn 103 = .ok (.aload_n 0, 1)) rfl) ?_
  refine mm_fc (ss_get X rfl in_X0 (by decide) rfl wd_1_238 (by decide +kernel : decode cX0_lookIn 104 = .ok (.getfield 26, 3))) ?_
  refine mm_fc (ss_iload hx hb (by decide +kernel : decode cX0_lookIn 107 = .ok (.iload 4, 2))) ?_
  refine mm_fc (ss_bipush hx hb (by decide +kernel : decode cX0_lookIn 109 = .ok (.bipush 8, 2)) (by decide)) ?_
  refine mm_fc (ss_imul hx hb (by decide +kernel : decode cX0_lookIn 111 = .ok (.imul, 1))) ?_
  refine mm_fc (ss_iload hx hb (by decide +kernel : decode cX0_lookIn 112 = .ok (.iload 6, 2))) ?_
  refine mm_fc (ss_iadd hx hb (by decide +kernel : decode cX0_lookIn 114 = .ok (.iadd, 1))) ?_
  refine mm_fc (ss_aload_n hx hb (by decide +kernel : decode cX0_lookIn 115 = .ok (.aload_n 0, 1)) rfl) ?_
  refine mm_fc (ss_get X rfl in_X0 (by decide) rfl wd_1_235 (by decide +kernel : decode cX0_lookIn 116 = .ok (.getfield 12, 3))) ?_
  refine mm_fc (ss_iload hx hb (by decide +kernel : decode cX0_lookIn 119 = .ok (.iload 6, 2))) ?_
  refine mm_fc (ss_callV X rfl rfl wd_4_42 wd_1_8 wd_5_14 wd_4_40 wd_4_41 (by decide +kernel) (by decide +kernel) (by decide) (by decide +kernel : decode cX0_lookIn 121 = .ok (.invokevirtual 70, 3))) ?_
  refine mm_fc (ss_iast X (by decide +kernel : decode cX0_lookIn 124 = .ok (.iastore, 1))) ?_
  refine mm_fc (ss_iinc hx hb (by decide +kernel : decode cX0_lookIn 125 = .ok (.iinc 6 1, 3)) (by decide) (by decide)) ?_
  refine mm_fc (ss_kill (ss_goto hx hb (by decide +kernel : decode cX0_lookIn 128 = .ok (.goto (-32), 3)) (by decide))) ?_
  refine mm_fc (ss_aload_n hx hb (by decide +kernel : decode cX0_lookIn 131 = .ok (.aload_n 0, 1)) rfl) ?_
  refine mm_fc (ss_get X rfl in_X0 (by decide) rfl wd_1_238 (by decide +kernel : decode cX0_lookIn 132 = .ok (.getfield 26, 3))) ?_
  refine mm_fc (ss_iload hx hb (by decide +kernel : decode cX0_lookIn 135 = .ok (.iload 4, 2))) ?_
  refine mm_fc (ss_bipush hx hb (by decide +kernel : decode cX0_lookIn 137 = .ok (.bipush 8, 2)) (by decide)) ?_
  refine mm_fc (ss_imul hx hb (by decide +kernel : decode cX0_lookIn 139 = .ok (.imul, 1))) ?_
  refine mm_fc (ss_iload hx hb (by decide +kernel : decode cX0_lookIn 140 = .ok (.iload 5, 2))) ?_
  refine mm_fc (ss_iadd hx hb (by decide +kernel : decode cX0_lookIn 142 = .ok (.iadd, 1))) ?_
  refine mm_fc (ss_iald X (by decide +kernel : decode cX0_lookIn 143 = .ok (.iaload, 1))) ?_
  refine mm_fc (ss_iret (by decide +kernel : decode cX0_lookIn 144 = .ok (.ireturn, 1)) rfl) ?_
  exact mm_fn
def cd_X0_readSeen : mm_K mm_H := [(0, s_aload 1 1), (1, s_callV 8 125 0 1 4), (4, s_istore 3 5), (5, s_iload 3 6), (6, s_if (fun x => x = 0) 24 9), (9, s_iload 3 10), (10, s_aload 0 11), (11, s_get 0 1 14), (14, s_alen 15), (15, s_icmp (fun x y => y < x) 24 18), (18, s_iload 3 19), (19, s_pushI 3 20), (20, s_bin0 (fun x y => x - x / y * y) 21), (21, s_if (fun x => x = 0) 26 24), (24, s_pushI 0 25), (25, s_zret), (26, s_pushI 0 27), (27, s_kill 29 [5] (s_istore 4 29)), (29, s_iload 4 31), (31, s_iload 3 32), (32, s_icmp (fun x y => y ≤ x) 94 35), (35, s_aload 1 36), (36, s_iload 4 38), (38, s_callV 8 126 1 1 41), (41, s_pushI 30 43), (43, s_icmp (fun x y => y < x) 65 46), (46, s_aload 2 47), (47, s_aload 1 48), (48, s_iload 4 50), (50, s_pushI 1 51), (51, s_bin (fun x y => x + y) 52), (52, s_callV 8 126 1 1 55), (55, s_callV 7 102 1 1 58), (58, s_if (fun x => x = 0) 65 61), (61, s_pushI 1 62), (62, s_goto 66), (65, s_pushI 0 66), (66, s_istore 5 68), (68, s_iload 5 70), (70, s_if (fun x => x = 0) 86 73), (73, s_aload 1 74), (74, s_iload 4 76), (76, s_pushI 2 77), (77, s_bin (fun x y => x + y) 78), (78, s_callV 8 126 1 1 81), (81, s_pushI 99 83), (83, s_icmp (fun x y => x ≤ y) 88 86), (86, s_pushI 0 87), (87, s_zret), (88, s_iinc 4 3 91), (91, s_kill 29 [5] (s_goto 29)), (94, s_pushI 0 95), (95, s_kill 97 [2, 5] (s_istore 4 97)), (97, s_iload 4 99), (99, s_iload 3 100), (100, s_icmp (fun x y => y ≤ x) 132 103), (103, s_iload 4 105), (105, s_aload 0 106), (106, s_get 0 1 109), (109, s_alen 110), (110, s_icmp (fun x y => y ≤ x) 132 113), (113, s_aload 0 114), (114, s_get 0 1 117), (117, s_iload 4 119), (119, s_aload 1 120), (120, s_iload 4 122), (122, s_callV 8 126 1 1 125), (125, s_iast 126), (126, s_iinc 4 1 129), (129, s_kill 97 [2, 5] (s_goto 97)), (132, s_aload 0 133), (133, s_iload 3 134), (134, s_pushI 3 135), (135, s_bin0 (fun x y => x / y) 136), (136, s_putI 0 2 139), (139, s_pushI 1 140), (140, s_zret)]
set_option maxRecDepth 100000 in
set_option maxHeartbeats 4000000 in
theorem ok_X0_readSeen (l : Launch) : mm_CodeOK l mm_I0 RX0 cX0_readSeen 6 (some .boolean) cd_X0_readSeen := by
  intro p e R s m args below meth c Q σ cA D A kc ks d C X
  have hx := X.1
  have hb := X.2.1
  have hown := X.2.2.2.1
  have hts := X.2.2.2.2.1
  refine mm_fc (ss_aload_n hx hb (by decide +kernel : decode cX0_readSeen 0 = .ok (.aload_n 1, 1)) rfl) ?_
  refine mm_fc (ss_callV X rfl rfl wd_2_143 wd_1_2 wd_5_81 wd_2_141 wd_2_142 (by decide +kernel) (by decide +kernel) (by decide) (by decide +kernel : decode cX0_readSeen 1 = .ok (.invokevirtual 123, 3))) ?_
  refine mm_fc (ss_istore_n hx hb (by decide +kernel : decode cX0_readSeen 4 = .ok (.istore_n 3, 1)) rfl (by decide)) ?_
  refine mm_fc (ss_iload_n hx hb (by decide +kernel : decode cX0_readSeen 5 = .ok (.iload_n 3, 1)) rfl) ?_
  refine mm_fc (ss_ifeq hx hb (by decide +kernel : decode cX0_readSeen 6 = .ok (.ifCond .eq 18, 3)) (by decide)) ?_
  refine mm_fc (ss_iload_n hx hb (by decide +kernel : decode cX0_readSeen 9 = .ok (.iload_n 3, 1)) rfl) ?_
  refine mm_fc (ss_aload_n hx hb (by decide +kernel : decode cX0_readSeen 10 = .ok (.aload_n 0, 1)) rfl) ?_
  refine mm_fc (ss_get X rfl in_X0 (by decide) rfl wd_1_236 (by decide +kernel : decode cX0_readSeen 11 = .ok (.getfield 18, 3))) ?_
  refine mm_fc (ss_alen X (by decide +kernel : decode cX0_readSeen 14 = .ok (.arraylength, 1))) ?_
  refine mm_fc (ss_icmpgt hx hb (by decide +kernel : decode cX0_readSeen 15 = .ok (.if_icmp .gt 9, 3)) (by decide)) ?_
  refine mm_fc (ss_iload_n hx hb (by decide +kernel : decode cX0_readSeen 18 = .ok (.iload_n 3, 1)) rfl) ?_
  refine mm_fc (ss_iconst hx hb (by decide +kernel : decode cX0_readSeen 19 = .ok (.iconst 3, 1)) (by decide)) ?_
  refine mm_fc (ss_irem hx hb (by decide +kernel : decode cX0_readSeen 20 = .ok (.irem, 1))) ?_
  refine mm_fc (ss_ifeq hx hb (by decide +kernel : decode cX0_readSeen 21 = .ok (.ifCond .eq 5, 3)) (by decide)) ?_
  refine mm_fc (ss_iconst hx hb (by decide +kernel : decode cX0_readSeen 24 = .ok (.iconst 0, 1)) (by decide)) ?_
  refine mm_fc (ss_zret (by decide +kernel : decode cX0_readSeen 25 = .ok (.ireturn, 1)) rfl) ?_
  refine mm_fc (ss_iconst hx hb (by decide +kernel : decode cX0_readSeen 26 = .ok (.iconst 0, 1)) (by decide)) ?_
  refine mm_fc (ss_kill (ss_istore hx hb (by decide +kernel : decode cX0_readSeen 27 = .ok (.istore 4, 2)) (by decide))) ?_
  refine mm_fc (ss_iload hx hb (by decide +kernel : decode cX0_readSeen 29 = .ok (.iload 4, 2))) ?_
  refine mm_fc (ss_iload_n hx hb (by decide +kernel : decode cX0_readSeen 31 = .ok (.iload_n 3, 1)) rfl) ?_
  refine mm_fc (ss_icmpge hx hb (by decide +kernel : decode cX0_readSeen 32 = .ok (.if_icmp .ge 62, 3)) (by decide)) ?_
  refine mm_fc (ss_aload_n hx hb (by decide +kernel : decode cX0_readSeen 35 = .ok (.aload_n 1, 1)) rfl) ?_
  refine mm_fc (ss_iload hx hb (by decide +kernel : decode cX0_readSeen 36 = .ok (.iload 4, 2))) ?_
  refine mm_fc (ss_callV X rfl rfl wd_2_198 wd_1_2 wd_5_82 wd_2_196 wd_2_197 (by decide +kernel) (by decide +kernel) (by decide) (by decide +kernel : decode cX0_readSeen 38 = .ok (.invokevirtual 128, 3))) ?_
  refine mm_fc (ss_bipush hx hb (by decide +kernel : decode cX0_readSeen 41 = .ok (.bipush 30, 2)) (by decide)) ?_
  refine mm_fc (ss_icmpgt hx hb (by decide +kernel : decode cX0_readSeen 43 = .ok (.if_icmp .gt 22, 3)) (by decide)) ?_
  refine mm_fc (ss_aload_n hx hb (by decide +kernel : decode cX0_readSeen 46 = .ok (.aload_n 2, 1)) rfl) ?_
  refine mm_fc (ss_aload_n hx hb (by decide +kernel : decode cX0_readSeen 47 = .ok (.aload_n 1, 1)) rfl) ?_
  refine mm_fc (ss_iload hx hb (by decide +kernel : decode cX0_readSeen 48 = .ok (.iload 4, 2))) ?_
  refine mm_fc (ss_iconst hx hb (by decide +kernel : decode cX0_readSeen 50 = .ok (.iconst 1, 1)) (by decide)) ?_
  refine mm_fc (ss_iadd hx hb (by decide +kernel : decode cX0_readSeen 51 = .ok (.iadd, 1))) ?_
  refine mm_fc (ss_callV X rfl rfl wd_2_198 wd_1_2 wd_5_82 wd_2_196 wd_2_197 (by decide +kernel) (by decide +kernel) (by decide) (by decide +kernel : decode cX0_readSeen 52 = .ok (.invokevirtual 128, 3))) ?_
  refine mm_fc (ss_callV X rfl rfl wd_3_108 wd_1_8 wd_5_68 wd_3_106 wd_3_107 (by decide +kernel) (by decide +kernel) (by decide) (by decide +kernel : decode cX0_readSeen 55 = .ok (.invokevirtual 116, 3))) ?_
  refine mm_fc (ss_ifeq hx hb (by decide +kernel : decode cX0_readSeen 58 = .ok (.ifCond .eq 7, 3)) (by decide)) ?_
  refine mm_fc (ss_iconst hx hb (by decide +kernel : decode cX0_readSeen 61 = .ok (.iconst 1, 1)) (by decide)) ?_
  refine mm_fc (ss_goto hx hb (by decide +kernel : decode cX0_readSeen 62 = .ok (.goto 4, 3)) (by decide)) ?_
  refine mm_fc (ss_iconst hx hb (by decide +kernel : decode cX0_readSeen 65 = .ok (.iconst 0, 1)) (by decide)) ?_
  refine mm_fc (ss_istore hx hb (by decide +kernel : decode cX0_readSeen 66 = .ok (.istore 5, 2)) (by decide)) ?_
  refine mm_fc (ss_iload hx hb (by decide +kernel : decode cX0_readSeen 68 = .ok (.iload 5, 2))) ?_
  refine mm_fc (ss_ifeq hx hb (by decide +kernel : decode cX0_readSeen 70 = .ok (.ifCond .eq 16, 3)) (by decide)) ?_
  refine mm_fc (ss_aload_n hx hb (by decide +kernel : decode cX0_readSeen 73 = .ok (.aload_n 1, 1)) rfl) ?_
  refine mm_fc (ss_iload hx hb (by decide +kernel : decode cX0_readSeen 74 = .ok (.iload 4, 2))) ?_
  refine mm_fc (ss_iconst hx hb (by decide +kernel : decode cX0_readSeen 76 = .ok (.iconst 2, 1)) (by decide)) ?_
  refine mm_fc (ss_iadd hx hb (by decide +kernel : decode cX0_readSeen 77 = .ok (.iadd, 1))) ?_
  refine mm_fc (ss_callV X rfl rfl wd_2_198 wd_1_2 wd_5_82 wd_2_196 wd_2_197 (by decide +kernel) (by decide +kernel) (by decide) (by decide +kernel : decode cX0_readSeen 78 = .ok (.invokevirtual 128, 3))) ?_
  refine mm_fc (ss_bipush hx hb (by decide +kernel : decode cX0_readSeen 81 = .ok (.bipush 99, 2)) (by decide)) ?_
  refine mm_fc (ss_icmple hx hb (by decide +kernel : decode cX0_readSeen 83 = .ok (.if_icmp .le 5, 3)) (by decide)) ?_
  refine mm_fc (ss_iconst hx hb (by decide +kernel : decode cX0_readSeen 86 = .ok (.iconst 0, 1)) (by decide)) ?_
  refine mm_fc (ss_zret (by decide +kernel : decode cX0_readSeen 87 = .ok (.ireturn, 1)) rfl) ?_
  refine mm_fc (ss_iinc hx hb (by decide +kernel : decode cX0_readSeen 88 = .ok (.iinc 4 3, 3)) (by decide) (by decide)) ?_
  refine mm_fc (ss_kill (ss_goto hx hb (by decide +kernel : decode cX0_readSeen 91 = .ok (.goto (-62), 3)) (by decide))) ?_
  refine mm_fc (ss_iconst hx hb (by decide +kernel : decode cX0_readSeen 94 = .ok (.iconst 0, 1)) (by decide)) ?_
  refine mm_fc (ss_kill (ss_istore hx hb (by decide +kernel : decode cX0_readSeen 95 = .ok (.istore 4, 2)) (by decide))) ?_
  refine mm_fc (ss_iload hx hb (by decide +kernel : decode cX0_readSeen 97 = .ok (.iload 4, 2))) ?_
  refine mm_fc (ss_iload_n hx hb (by decide +kernel : decode cX0_readSeen 99 = .ok (.iload_n 3, 1)) rfl) ?_
  refine mm_fc (ss_icmpge hx hb (by decide +kernel : decode cX0_readSeen 100 = .ok (.if_icmp .ge 32, 3)) (by decide)) ?_
  refine mm_fc (ss_iload hx hb (by decide +kernel : decode cX0_readSeen 103 = .ok (.iload 4, 2))) ?_
  refine mm_fc (ss_aload_n hx hb (by decide +kernel : decode cX0_readSeen 105 = .ok (.aload_n 0, 1)) rfl) ?_
  refine mm_fc (ss_get X rfl in_X0 (by decide) rfl wd_1_236 (by decide +kernel : decode cX0_readSeen 106 = .ok (.getfield 18, 3))) ?_
  refine mm_fc (ss_alen X (by decide +kernel : decode cX0_readSeen 109 = .ok (.arraylength, 1))) ?_
  refine mm_fc (ss_icmpge hx hb (by decide +kernel : decode cX0_readSeen 110 = .ok (.if_icmp .ge 22, 3)) (by decide)) ?_
  refine mm_fc (ss_aload_n hx hb (by decide +kernel : decode cX0_readSeen 113 = .ok (.aload_n 0, 1)) rfl) ?_
  refine mm_fc (ss_get X rfl in_X0 (by decide) rfl wd_1_236 (by decide +kernel : decode cX0_readSeen 114 = .ok (.getfield 18, 3))) ?_
  refine mm_fc (ss_iload hx hb (by decide +kernel : decode cX0_readSeen 117 = .ok (.iload 4, 2))) ?_
  refine mm_fc (ss_aload_n hx hb (by decide +kernel : decode cX0_readSeen 119 = .ok (.aload_n 1, 1)) rfl) ?_
  refine mm_fc (ss_iload hx hb (by decide +kernel : decode cX0_readSeen 120 = .ok (.iload 4, 2))) ?_
  refine mm_fc (ss_callV X rfl rfl wd_2_198 wd_1_2 wd_5_82 wd_2_196 wd_2_197 (by decide +kernel) (by decide +kernel) (by decide) (by decide +kernel : decode cX0_readSeen 122 = .ok (.invokevirtual 128, 3))) ?_
  refine mm_fc (ss_iast X (by decide +kernel : decode cX0_readSeen 125 = .ok (.iastore, 1))) ?_
  refine mm_fc (ss_iinc hx hb (by decide +kernel : decode cX0_readSeen 126 = .ok (.iinc 4 1, 3)) (by decide) (by decide)) ?_
  refine mm_fc (ss_kill (ss_goto hx hb (by decide +kernel : decode cX0_readSeen 129 = .ok (.goto (-32), 3)) (by decide))) ?_
  refine mm_fc (ss_aload_n hx hb (by decide +kernel : decode cX0_readSeen 132 = .ok (.aload_n 0, 1)) rfl) ?_
  refine mm_fc (ss_iload_n hx hb (by decide +kernel : decode cX0_readSeen 133 = .ok (.iload_n 3, 1)) rfl) ?_
  refine mm_fc (ss_iconst hx hb (by decide +kernel : decode cX0_readSeen 134 = .ok (.iconst 3, 1)) (by decide)) ?_
  refine mm_fc (ss_idiv hx hb (by decide +kernel : decode cX0_readSeen 135 = .ok (.idiv, 1))) ?_
  refine mm_fc (ss_putI X rfl in_X0 tyX0_ok nmX0 (by decide) rfl rfl rfl rfl wd_1_237 (by decide +kernel : decode cX0_readSeen 136 = .ok (.putfield 22, 3))) ?_
  refine mm_fc (ss_iconst hx hb (by decide +kernel : decode cX0_readSeen 139 = .ok (.iconst 1, 1)) (by decide)) ?_
  refine mm_fc (ss_zret (by decide +kernel : decode cX0_readSeen 140 = .ok (.ireturn, 1)) rfl) ?_
  exact mm_fn
def cd_X0_possibleThoughts : mm_K mm_H := [(0, s_pushI 0 1), (1, s_istore 5 3), (3, s_pushI 0 4), (4, s_istore 6 6), (6, s_iload 6 8), (8, s_pushI 9 10), (10, s_icmp (fun x y => y < x) 60 13), (13, s_aload 0 14), (14, s_get 0 0 17), (17, s_aload 2 18), (18, s_callV 7 100 1 0 21), (21, s_aload 0 22), (22, s_get 0 0 25), (25, s_iload 3 26), (26, s_iload 4 28), (28, s_iload 6 30), (30, s_callV 7 115 3 0 33), (33, s_iload 5 35), (35, s_aload 0 36), (36, s_aload 1 37), (37, s_callV 0 27 1 1 40), (40, s_if (fun x => x = 0) 50 43), (43, s_pushI 1 44), (44, s_iload 6 46), (46, s_bin (fun x y => x <<< (y &&& 31)) 47), (47, s_goto 51), (50, s_pushI 0 51), (51, s_bin (fun x y => x ||| y) 52), (52, s_istore 5 54), (54, s_iinc 6 1 57), (57, s_goto 6), (60, s_iload 5 62), (62, s_iret)]
set_option maxRecDepth 100000 in
set_option maxHeartbeats 4000000 in
theorem ok_X0_possibleThoughts (l : Launch) : mm_CodeOK l mm_I0 RX0 cX0_possibleThoughts 7 (some .int) cd_X0_possibleThoughts := by
  intro p e R s m args below meth c Q σ cA D A kc ks d C X
  have hx := X.1
  have hb := X.2.1
  have hown := X.2.2.2.1
  have hts := X.2.2.2.2.1
  refine mm_fc (ss_iconst hx hb (by decide +kernel : decode cX0_possibleThoughts 0 = .ok (.iconst 0, 1)) (by decide)) ?_
  refine mm_fc (ss_istore hx hb (by decide +kernel : decode cX0_possibleThoughts 1 = .ok (.istore 5, 2)) (by decide)) ?_
  refine mm_fc (ss_iconst hx hb (by decide +kernel : decode cX0_possibleThoughts 3 = .ok (.iconst 0, 1)) (by decide)) ?_
  refine mm_fc (ss_istore hx hb (by decide +kernel : decode cX0_possibleThoughts 4 = .ok (.istore 6, 2)) (by decide)) ?_
  refine mm_fc (ss_iload hx hb (by decide +kernel : decode cX0_possibleThoughts 6 = .ok (.iload 6, 2))) ?_
  refine mm_fc (ss_bipush hx hb (by decide +kernel : decode cX0_possibleThoughts 8 = .ok (.bipush 9, 2)) (by decide)) ?_
  refine mm_fc (ss_icmpgt hx hb (by decide +kernel : decode cX0_possibleThoughts 10 = .ok (.if_icmp .gt 50, 3)) (by decide)) ?_
  refine mm_fc (ss_aload_n hx hb (by decide +kernel : decode cX0_possibleThoughts 13 = .ok (.aload_n 0, 1)) rfl) ?_
  refine mm_fc (ss_get X rfl in_X0 (by decide) rfl wd_1_235 (by decide +kernel : decode cX0_possibleThoughts 14 = .ok (.getfield 12, 3))) ?_
  refine mm_fc (ss_aload_n hx hb (by decide +kernel : decode cX0_possibleThoughts 17 = .ok (.aload_n 2, 1)) rfl) ?_
  refine mm_fc (ss_callV X rfl rfl wd_4_14 wd_1_8 wd_4_218 wd_4_12 wd_4_13 (by decide +kernel) (by decide +kernel) (by decide) (by decide +kernel : decode cX0_possibleThoughts 18 = .ok (.invokevirtual 51, 3))) ?_
  refine mm_fc (ss_aload_n hx hb (by decide +kernel : decode cX0_possibleThoughts 21 = .ok (.aload_n 0, 1)) rfl) ?_
  refine mm_fc (ss_get X rfl in_X0 (by decide) rfl wd_1_235 (by decide +kernel : decode cX0_possibleThoughts 22 = .ok (.getfield 12, 3))) ?_
  refine mm_fc (ss_iload_n hx hb (by decide +kernel : decode cX0_possibleThoughts 25 = .ok (.iload_n 3, 1)) rfl) ?_
  refine mm_fc (ss_iload hx hb (by decide +kernel : decode cX0_possibleThoughts 26 = .ok (.iload 4, 2))) ?_
  refine mm_fc (ss_iload hx hb (by decide +kernel : decode cX0_possibleThoughts 28 = .ok (.iload 6, 2))) ?_
  refine mm_fc (ss_callV X rfl rfl wd_3_137 wd_1_8 wd_5_91 wd_3_135 wd_3_136 (by decide +kernel) (by decide +kernel) (by decide) (by decide +kernel : decode cX0_possibleThoughts 30 = .ok (.invokevirtual 131, 3))) ?_
  refine mm_fc (ss_iload hx hb (by decide +kernel : decode cX0_possibleThoughts 33 = .ok (.iload 5, 2))) ?_
  refine mm_fc (ss_aload_n hx hb (by decide +kernel : decode cX0_possibleThoughts 35 = .ok (.aload_n 0, 1)) rfl) ?_
  refine mm_fc (ss_aload_n hx hb (by decide +kernel : decode cX0_possibleThoughts 36 = .ok (.aload_n 1, 1)) rfl) ?_
  refine mm_fc (ss_callV X rfl rfl wd_5_95 wd_1_10 wd_5_92 wd_5_94 wd_p_35 (by decide +kernel) (by decide +kernel) (by decide) (by decide +kernel : decode cX0_possibleThoughts 37 = .ok (.invokevirtual 134, 3))) ?_
  refine mm_fc (ss_ifeq hx hb (by decide +kernel : decode cX0_possibleThoughts 40 = .ok (.ifCond .eq 10, 3)) (by decide)) ?_
  refine mm_fc (ss_iconst hx hb (by decide +kernel : decode cX0_possibleThoughts 43 = .ok (.iconst 1, 1)) (by decide)) ?_
  refine mm_fc (ss_iload hx hb (by decide +kernel : decode cX0_possibleThoughts 44 = .ok (.iload 6, 2))) ?_
  refine mm_fc (ss_ishl hx hb (by decide +kernel : decode cX0_possibleThoughts 46 = .ok (.ishl, 1))) ?_
  refine mm_fc (ss_goto hx hb (by decide +kernel : decode cX0_possibleThoughts 47 = .ok (.goto 4, 3)) (by decide)) ?_
  refine mm_fc (ss_iconst hx hb (by decide +kernel : decode cX0_possibleThoughts 50 = .ok (.iconst 0, 1)) (by decide)) ?_
  refine mm_fc (ss_ior hx hb (by decide +kernel : decode cX0_possibleThoughts 51 = .ok (.ior, 1))) ?_
  refine mm_fc (ss_istore hx hb (by decide +kernel : decode cX0_possibleThoughts 52 = .ok (.istore 5, 2)) (by decide)) ?_
  refine mm_fc (ss_iinc hx hb (by decide +kernel : decode cX0_possibleThoughts 54 = .ok (.iinc 6 1, 3)) (by decide) (by decide)) ?_
  refine mm_fc (ss_goto hx hb (by decide +kernel : decode cX0_possibleThoughts 57 = .ok (.goto (-51), 3)) (by decide)) ?_
  refine mm_fc (ss_iload hx hb (by decide +kernel : decode cX0_possibleThoughts 60 = .ok (.iload 5, 2))) ?_
  refine mm_fc (ss_iret (by decide +kernel : decode cX0_possibleThoughts 62 = .ok (.ireturn, 1)) rfl) ?_
  exact mm_fn
def cd_X0_possibleFaces : mm_K mm_H := [(0, s_pushI 0 1), (1, s_istore 4 3), (3, s_pushI 0 4), (4, s_istore 5 6), (6, s_iload 5 8), (8, s_pushI 9 10), (10, s_icmp (fun x y => y < x) 58 13), (13, s_aload 0 14), (14, s_get 0 0 17), (17, s_aload 2 18), (18, s_callV 7 100 1 0 21), (21, s_aload 0 22), (22, s_get 0 0 25), (25, s_iload 3 26), (26, s_iload 5 28), (28, s_callV 7 113 2 0 31), (31, s_iload 4 33), (33, s_aload 0 34), (34, s_aload 1 35), (35, s_callV 0 27 1 1 38), (38, s_if (fun x => x = 0) 48 41), (41, s_pushI 1 42), (42, s_iload 5 44), (44, s_bin (fun x y => x <<< (y &&& 31)) 45), (45, s_goto 49), (48, s_pushI 0 49), (49, s_bin (fun x y => x ||| y) 50), (50, s_istore 4 52), (52, s_iinc 5 1 55), (55, s_goto 6), (58, s_iload 4 60), (60, s_iret)]
set_option maxRecDepth 100000 in
set_option maxHeartbeats 4000000 in
theorem ok_X0_possibleFaces (l : Launch) : mm_CodeOK l mm_I0 RX0 cX0_possibleFaces 6 (some .int) cd_X0_possibleFaces := by
  intro p e R s m args below meth c Q σ cA D A kc ks d C X
  have hx := X.1
  have hb := X.2.1
  have hown := X.2.2.2.1
  have hts := X.2.2.2.2.1
  refine mm_fc (ss_iconst hx hb (by decide +kernel : decode cX0_possibleFaces 0 = .ok (.iconst 0, 1)) (by decide)) ?_
  refine mm_fc (ss_istore hx hb (by decide +kernel : decode cX0_possibleFaces 1 = .ok (.istore 4, 2)) (by decide)) ?_
  refine mm_fc (ss_iconst hx hb (by decide +kernel : decode cX0_possibleFaces 3 = .ok (.iconst 0, 1)) (by decide)) ?_
  refine mm_fc (ss_istore hx hb (by decide +kernel : decode cX0_possibleFaces 4 = .ok (.istore 5, 2)) (by decide)) ?_
  refine mm_fc (ss_iload hx hb (by decide +kernel : decode cX0_possibleFaces 6 = .ok (.iload 5, 2))) ?_
  refine mm_fc (ss_bipush hx hb (by decide +kernel : decode cX0_possibleFaces 8 = .ok (.bipush 9, 2)) (by decide)) ?_
  refine mm_fc (ss_icmpgt hx hb (by decide +kernel : decode cX0_possibleFaces 10 = .ok (.if_icmp .gt 48, 3)) (by decide)) ?_
  refine mm_fc (ss_aload_n hx hb (by decide +kernel : decode cX0_possibleFaces 13 = .ok (.aload_n 0, 1)) rfl) ?_
  refine mm_fc (ss_get X rfl in_X0 (by decide) rfl wd_1_235 (by decide +kernel : decode cX0_possibleFaces 14 = .ok (.getfield 12, 3))) ?_
  refine mm_fc (ss_aload_n hx hb (by decide +kernel : decode cX0_possibleFaces 17 = .ok (.aload_n 2, 1)) rfl) ?_
  refine mm_fc (ss_callV X rfl rfl wd_4_14 wd_1_8 wd_4_218 wd_4_12 wd_4_13 (by decide +kernel) (by decide +kernel) (by decide) (by decide +kernel : decode cX0_possibleFaces 18 = .ok (.invokevirtual 51, 3))) ?_
  refine mm_fc (ss_aload_n hx hb (by decide +kernel : decode cX0_possibleFaces 21 = .ok (.aload_n 0, 1)) rfl) ?_
  refine mm_fc (ss_get X rfl in_X0 (by decide) rfl wd_1_235 (by decide +kernel : decode cX0_possibleFaces 22 = .ok (.getfield 12, 3))) ?_
  refine mm_fc (ss_iload_n hx hb (by decide +kernel : decode cX0_possibleFaces 25 = .ok (.iload_n 3, 1)) rfl) ?_
  refine mm_fc (ss_iload hx hb (by decide +kernel : decode cX0_possibleFaces 26 = .ok (.iload 5, 2))) ?_
  refine mm_fc (ss_callV X rfl rfl wd_5_116 wd_1_8 wd_5_113 wd_5_114 wd_5_115 (by decide +kernel) (by decide +kernel) (by decide) (by decide +kernel : decode cX0_possibleFaces 28 = .ok (.invokevirtual 138, 3))) ?_
  refine mm_fc (ss_iload hx hb (by decide +kernel : decode cX0_possibleFaces 31 = .ok (.iload 4, 2))) ?_
  refine mm_fc (ss_aload_n hx hb (by decide +kernel : decode cX0_possibleFaces 33 = .ok (.aload_n 0, 1)) rfl) ?_
  refine mm_fc (ss_aload_n hx hb (by decide +kernel : decode cX0_possibleFaces 34 = .ok (.aload_n 1, 1)) rfl) ?_
  refine mm_fc (ss_callV X rfl rfl wd_5_95 wd_1_10 wd_5_92 wd_5_94 wd_p_35 (by decide +kernel) (by decide +kernel) (by decide) (by decide +kernel : decode cX0_possibleFaces 35 = .ok (.invokevirtual 134, 3))) ?_
  refine mm_fc (ss_ifeq hx hb (by decide +kernel : decode cX0_possibleFaces 38 = .ok (.ifCond .eq 10, 3)) (by decide)) ?_
  refine mm_fc (ss_iconst hx hb (by decide +kernel : decode cX0_possibleFaces 41 = .ok (.iconst 1, 1)) (by decide)) ?_
  refine mm_fc (ss_iload hx hb (by decide +kernel : decode cX0_possibleFaces 42 = .ok (.iload 5, 2))) ?_
  refine mm_fc (ss_ishl hx hb (by decide +kernel : decode cX0_possibleFaces 44 = .ok (.ishl, 1))) ?_
  refine mm_fc (ss_goto hx hb (by decide +kernel : decode cX0_possibleFaces 45 = .ok (.goto 4, 3)) (by decide)) ?_
  refine mm_fc (ss_iconst hx hb (by decide +kernel : decode cX0_possibleFaces 48 = .ok (.iconst 0, 1)) (by decide)) ?_
  refine mm_fc (ss_ior hx hb (by decide +kernel : decode cX0_possibleFaces 49 = .ok (.ior, 1))) ?_
  refine mm_fc (ss_istore hx hb (by decide +kernel : decode cX0_possibleFaces 50 = .ok (.istore 4, 2)) (by decide)) ?_
  refine mm_fc (ss_iinc hx hb (by decide +kernel : decode cX0_possibleFaces 52 = .ok (.iinc 5 1, 3)) (by decide) (by decide)) ?_
  refine mm_fc (ss_goto hx hb (by decide +kernel : decode cX0_possibleFaces 55 = .ok (.goto (-49), 3)) (by decide)) ?_
  refine mm_fc (ss_iload hx hb (by decide +kernel : decode cX0_possibleFaces 58 = .ok (.iload 4, 2))) ?_
  refine mm_fc (ss_iret (by decide +kernel : decode cX0_possibleFaces 60 = .ok (.ireturn, 1)) rfl) ?_
  exact mm_fn
def cd_X0_comesAsSeen : mm_K mm_H := [(0, s_pushI 0 1), (1, s_istore 2 2), (2, s_pushI 0 3), (3, s_istore 3 4), (4, s_iload 3 5), (5, s_aload 0 6), (6, s_get 0 2 9), (9, s_icmp (fun x y => y ≤ x) 29 12), (12, s_iload 2 13), (13, s_aload 0 14), (14, s_iload 3 15), (15, s_pushI 0 16), (16, s_callV 0 29 2 1 19), (19, s_callS 9 2 1 22), (22, s_istore 2 23), (23, s_iinc 3 1 26), (26, s_goto 4), (29, s_aload 0 30), (30, s_get 0 0 33), (33, s_get 7 11 36), (36, s_iload 2 37), (37, s_bin (fun x y => x + y) 38), (38, s_pushI 999 41), (41, s_icmp (fun x y => x ≤ y) 46 44), (44, s_pushI 0 45), (45, s_zret), (46, s_pushI 0 47), (47, s_istore 3 48), (48, s_iload 3 49), (49, s_iload 2 50), (50, s_icmp (fun x y => y < x) 78 53), (53, s_aload 0 54), (54, s_iload 3 55), (55, s_callV 0 28 1 1 58), (58, s_if (fun x => ¬ x = 0) 63 61), (61, s_pushI 0 62), (62, s_zret), (63, s_aload 1 64), (64, s_aload 0 65), (65, s_get 0 0 68), (68, s_pushI 1 69), (69, s_callV 10 141 2 0 72), (72, s_iinc 3 1 75), (75, s_goto 48), (78, s_pushI 1 79), (79, s_zret)]
set_option maxRecDepth 100000 in
set_option maxHeartbeats 4000000 in
theorem ok_X0_comesAsSeen (l : Launch) : mm_CodeOK l mm_I0 RX0 cX0_comesAsSeen 4 (some .boolean) cd_X0_comesAsSeen := by
  intro p e R s m args below meth c Q σ cA D A kc ks d C X
  have hx := X.1
  have hb := X.2.1
  have hown := X.2.2.2.1
  have hts := X.2.2.2.2.1
  refine mm_fc (ss_iconst hx hb (by decide +kernel : decode cX0_comesAsSeen 0 = .ok (.iconst 0, 1)) (by decide)) ?_
  refine mm_fc (ss_istore_n hx hb (by decide +kernel : decode cX0_comesAsSeen 1 = .ok (.istore_n 2, 1)) rfl (by decide)) ?_
  refine mm_fc (ss_iconst hx hb (by decide +kernel : decode cX0_comesAsSeen 2 = .ok (.iconst 0, 1)) (by decide)) ?_
  refine mm_fc (ss_istore_n hx hb (by decide +kernel : decode cX0_comesAsSeen 3 = .ok (.istore_n 3, 1)) rfl (by decide)) ?_
  refine mm_fc (ss_iload_n hx hb (by decide +kernel : decode cX0_comesAsSeen 4 = .ok (.iload_n 3, 1)) rfl) ?_
  refine mm_fc (ss_aload_n hx hb (by decide +kernel : decode cX0_comesAsSeen 5 = .ok (.aload_n 0, 1)) rfl) ?_
  refine mm_fc (ss_get X rfl in_X0 (by decide) rfl wd_1_237 (by decide +kernel : decode cX0_comesAsSeen 6 = .ok (.getfield 22, 3))) ?_
  refine mm_fc (ss_icmpge hx hb (by decide +kernel : decode cX0_comesAsSeen 9 = .ok (.if_icmp .ge 20, 3)) (by decide)) ?_
  refine mm_fc (ss_iload_n hx hb (by decide +kernel : decode cX0_comesAsSeen 12 = .ok (.iload_n 2, 1)) rfl) ?_
  refine mm_fc (ss_aload_n hx hb (by decide +kernel : decode cX0_comesAsSeen 13 = .ok (.aload_n 0, 1)) rfl) ?_
  refine mm_fc (ss_iload_n hx hb (by decide +kernel : decode cX0_comesAsSeen 14 = .ok (.iload_n 3, 1)) rfl) ?_
  refine mm_fc (ss_iconst hx hb (by decide +kernel : decode cX0_comesAsSeen 15 = .ok (.iconst 0, 1)) (by decide)) ?_
  refine mm_fc (ss_callV X rfl rfl wd_5_99 wd_1_10 wd_5_96 wd_5_98 wd_p_36 (by decide +kernel) (by decide +kernel) (by decide) (by decide +kernel : decode cX0_comesAsSeen 16 = .ok (.invokevirtual 141, 3))) ?_
  refine mm_fc (ss_callS X rfl wd_2_165 wd_1_14 wd_5_100 wd_2_164 (by decide +kernel) (by decide +kernel) (by decide) (by decide +kernel : decode cX0_comesAsSeen 19 = .ok (.invokestatic 144, 3))) ?_
  refine mm_fc (ss_istore_n hx hb (by decide +kernel : decode cX0_comesAsSeen 22 = .ok (.istore_n 2, 1)) rfl (by decide)) ?_
  refine mm_fc (ss_iinc hx hb (by decide +kernel : decode cX0_comesAsSeen 23 = .ok (.iinc 3 1, 3)) (by decide) (by decide)) ?_
  refine mm_fc (ss_goto hx hb (by decide +kernel : decode cX0_comesAsSeen 26 = .ok (.goto (-22), 3)) (by decide)) ?_
  refine mm_fc (ss_aload_n hx hb (by decide +kernel : decode cX0_comesAsSeen 29 = .ok (.aload_n 0, 1)) rfl) ?_
  refine mm_fc (ss_get X rfl in_X0 (by decide) rfl wd_1_235 (by decide +kernel : decode cX0_comesAsSeen 30 = .ok (.getfield 12, 3))) ?_
  refine mm_fc (ss_getN X rfl in_X7 (by decide) rfl wd_1_179 (by decide +kernel : decode cX0_comesAsSeen 33 = .ok (.getfield 61, 3))) ?_
  refine mm_fc (ss_iload_n hx hb (by decide +kernel : decode cX0_comesAsSeen 36 = .ok (.iload_n 2, 1)) rfl) ?_
  refine mm_fc (ss_iadd hx hb (by decide +kernel : decode cX0_comesAsSeen 37 = .ok (.iadd, 1))) ?_
  refine mm_fc (ss_sipush hx hb (by decide +kernel : decode cX0_comesAsSeen 38 = .ok (.sipush 999, 3)) (by decide)) ?_
  refine mm_fc (ss_icmple hx hb (by decide +kernel : decode cX0_comesAsSeen 41 = .ok (.if_icmp .le 5, 3)) (by decide)) ?_
  refine mm_fc (ss_iconst hx hb (by decide +kernel : decode cX0_comesAsSeen 44 = .ok (.iconst 0, 1)) (by decide)) ?_
  refine mm_fc (ss_zret (by decide +kernel : decode cX0_comesAsSeen 45 = .ok (.ireturn, 1)) rfl) ?_
  refine mm_fc (ss_iconst hx hb (by decide +kernel : decode cX0_comesAsSeen 46 = .ok (.iconst 0, 1)) (by decide)) ?_
  refine mm_fc (ss_istore_n hx hb (by decide +kernel : decode cX0_comesAsSeen 47 = .ok (.istore_n 3, 1)) rfl (by decide)) ?_
  refine mm_fc (ss_iload_n hx hb (by decide +kernel : decode cX0_comesAsSeen 48 = .ok (.iload_n 3, 1)) rfl) ?_
  refine mm_fc (ss_iload_n hx hb (by decide +kernel : decode cX0_comesAsSeen 49 = .ok (.iload_n 2, 1)) rfl) ?_
  refine mm_fc (ss_icmpgt hx hb (by decide +kernel : decode cX0_comesAsSeen 50 = .ok (.if_icmp .gt 28, 3)) (by decide)) ?_
  refine mm_fc (ss_aload_n hx hb (by decide +kernel : decode cX0_comesAsSeen 53 = .ok (.aload_n 0, 1)) rfl) ?_
  refine mm_fc (ss_iload_n hx hb (by decide +kernel : decode cX0_comesAsSeen 54 = .ok (.iload_n 3, 1)) rfl) ?_
  refine mm_fc (ss_callV X rfl rfl wd_5_104 wd_1_10 wd_5_101 wd_5_103 wd_p_37 (by decide +kernel) (by decide +kernel) (by decide) (by decide +kernel : decode cX0_comesAsSeen 55 = .ok (.invokevirtual 147, 3))) ?_
  refine mm_fc (ss_ifne hx hb (by decide +kernel : decode cX0_comesAsSeen 58 = .ok (.ifCond .ne 5, 3)) (by decide)) ?_
  refine mm_fc (ss_iconst hx hb (by decide +kernel : decode cX0_comesAsSeen 61 = .ok (.iconst 0, 1)) (by decide)) ?_
  refine mm_fc (ss_zret (by decide +kernel : decode cX0_comesAsSeen 62 = .ok (.ireturn, 1)) rfl) ?_
  refine mm_fc (ss_aload_n hx hb (by decide +kernel : decode cX0_comesAsSeen 63 = .ok (.aload_n 1, 1)) rfl) ?_
  refine mm_fc (ss_aload_n hx hb (by decide +kernel : decode cX0_comesAsSeen 64 = .ok (.aload_n 0, 1)) rfl) ?_
  refine mm_fc (ss_get X rfl in_X0 (by decide) rfl wd_1_235 (by decide +kernel : decode cX0_comesAsSeen 65 = .ok (.getfield 12, 3))) ?_
  refine mm_fc (ss_iconst hx hb (by decide +kernel : decode cX0_comesAsSeen 68 = .ok (.iconst 1, 1)) (by decide)) ?_
  refine mm_fc (ss_callV X rfl rfl wd_4_222 wd_1_12 wd_4_219 wd_4_220 wd_4_221 (by decide +kernel) (by decide +kernel) (by decide) (by decide +kernel : decode cX0_comesAsSeen 69 = .ok (.invokevirtual 55, 3))) ?_
  refine mm_fc (ss_iinc hx hb (by decide +kernel : decode cX0_comesAsSeen 72 = .ok (.iinc 3 1, 3)) (by decide) (by decide)) ?_
  refine mm_fc (ss_goto hx hb (by decide +kernel : decode cX0_comesAsSeen 75 = .ok (.goto (-27), 3)) (by decide)) ?_
  refine mm_fc (ss_iconst hx hb (by decide +kernel : decode cX0_comesAsSeen 78 = .ok (.iconst 1, 1)) (by decide)) ?_
  refine mm_fc (ss_zret (by decide +kernel : decode cX0_comesAsSeen 79 = .ok (.ireturn, 1)) rfl) ?_
  exact mm_fn
