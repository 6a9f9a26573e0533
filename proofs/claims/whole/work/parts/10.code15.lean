def cd_X12_status : mm_K mm_H := [(0, s_iload 1 1), (1, s_i2l 2), (2, s_pushL 0 3), (3, s_pushL 5 6), (6, s_callS 188 3 1 9), (9, s_if (fun x => x = 0) 21 12), (12, s_aload 0 13), (13, s_get 12 9 16), (16, s_iload 1 17), (17, s_iald 18), (18, s_goto 22), (21, s_pushI (-1) 22), (22, s_iret)]
set_option maxRecDepth 100000 in
set_option maxHeartbeats 4000000 in
theorem ok_X12_status (l : Launch) : mm_CodeOK l mm_I0 RX12 cX12_status 2 (some .int) cd_X12_status := by
  intro p e R s m args below meth c Q σ cA D A kc ks d C X
  have hx := X.1
  have hb := X.2.1
  have hown := X.2.2.2.1
  have hts := X.2.2.2.2.1
  refine mm_fc (ss_iload_n hx hb (by decide +kernel : decode cX12_status 0 = .ok (.iload_n 1, 1)) rfl) ?_
  refine mm_fc (ss_i2l hx hb (by decide +kernel : decode cX12_status 1 = .ok (.i2l, 1))) ?_
  refine mm_fc (ss_lconst hx hb (by decide +kernel : decode cX12_status 2 = .ok (.lconst 0, 1)) (by decide)) ?_
  refine mm_fc (ss_ldc2 hx hb hown (hts _ (mm_in wd_8_174 rfl)) (by decide +kernel : decode cX12_status 3 = .ok (.ldc2_w 514, 3))) ?_
  refine mm_fc (ss_callS X rfl wd_7_196 wd_1_13 wd_7_194 wd_7_195 (by decide +kernel) (by decide +kernel) (by decide) (by decide +kernel : decode cX12_status 6 = .ok (.invokestatic 280, 3))) ?_
  refine mm_fc (ss_ifeq hx hb (by decide +kernel : decode cX12_status 9 = .ok (.ifCond .eq 12, 3)) (by decide)) ?_
  refine mm_fc (ss_aload_n hx hb (by decide +kernel : decode cX12_status 12 = .ok (.aload_n 0, 1)) rfl) ?_
  refine mm_fc (ss_get X rfl in_X12 (by decide) rfl wd_6_55 (by decide +kernel : decode cX12_status 13 = .ok (.getfield 17, 3))) ?_
  refine mm_fc (ss_iload_n hx hb (by decide +kernel : decode cX12_status 16 = .ok (.iload_n 1, 1)) rfl) ?_
  refine mm_fc (ss_iald X (by decide +kernel : decode cX12_status 17 = .ok (.iaload, 1))) ?_
  refine mm_fc (ss_goto hx hb (by decide +kernel : decode cX12_status 18 = .ok (.goto 4, 3)) (by decide)) ?_
  refine mm_fc (ss_iconst hx hb (by decide +kernel : decode cX12_status 21 = .ok (.iconst (-1), 1)) (by decide)) ?_
  refine mm_fc (ss_iret (by decide +kernel : decode cX12_status 22 = .ok (.ireturn, 1)) rfl) ?_
  exact mm_fn
