def cc_TL : List (Nat × mm_K cc_H) := [(1, cdc_X0_init), (1, cdc_X1_init), (3, cdc_X2_init), (2, cdc_X3_init), (1, cdc_X4_init), (1, cdc_X5_init), (2, cdc_X6_init), (1, cdc_X7_init), (1, cdc_X8_init), (3, cdc_X9_init), (1, cdc_X10_init), (1, cdc_X11_init), (1, cdc_X12_init), (2, cdc_X1_clear)]
def cc_T0 : mm_T cc_H := fun y => cc_TL[y]?
set_option maxRecDepth 100000 in
theorem cc_T0_ok (l : Launch) : cc_TOK l cc_T0 cc_I0 := by
  intro y nL cd hy
  match y, hy with
  | 0, hy => cases hy; exact ⟨by decide +kernel, rfl, okc_X0_init l⟩
  | 1, hy => cases hy; exact ⟨by decide +kernel, rfl, okc_X1_init l⟩
  | 2, hy => cases hy; exact ⟨by decide +kernel, rfl, okc_X2_init l⟩
  | 3, hy => cases hy; exact ⟨by decide +kernel, rfl, okc_X3_init l⟩
  | 4, hy => cases hy; exact ⟨by decide +kernel, rfl, okc_X4_init l⟩
  | 5, hy => cases hy; exact ⟨by decide +kernel, rfl, okc_X5_init l⟩
  | 6, hy => cases hy; exact ⟨by decide +kernel, rfl, okc_X6_init l⟩
  | 7, hy => cases hy; exact ⟨by decide +kernel, rfl, okc_X7_init l⟩
  | 8, hy => cases hy; exact ⟨by decide +kernel, rfl, okc_X8_init l⟩
  | 9, hy => cases hy; exact ⟨by decide +kernel, rfl, okc_X9_init l⟩
  | 10, hy => cases hy; exact ⟨by decide +kernel, rfl, okc_X10_init l⟩
  | 11, hy => cases hy; exact ⟨by decide +kernel, rfl, okc_X11_init l⟩
  | 12, hy => cases hy; exact ⟨by decide +kernel, rfl, okc_X12_init l⟩
  | 13, hy => cases hy; exact ⟨by decide +kernel, rfl, okc_X1_clear l⟩
  | y + 14, hy => cases hy
def cdc_law : mm_K cc_H := [(0, c_new 11 [.null, .null, .null, .null, .null, .null, .null, .null, .null, .null, .null, .null, .int 0, .int 0] 3), (3, s_dup 4), (4, c_init 11 0 263 13808 7), (7, s_astore 1 8), (8, c_new 12 [.null, .int 0, .int 0, .int 0, .int 0, .int 0, .int 0, .int 0, .int 0, .null, .int 0, .null, .null, .null, .null, .null, .null, .null, .null, .null, .null, .null, .null, .null, .null, .null, .null, .null, .null, .null, .null, .null, .null, .null, .null, .null, .int 0, .int 0, .int 0, .int 0, .int 0, .null, .null, .null, .null, .null, .int 0, .int 0, .null, .null, .null, .int 0, .int 0, .int 0, .int 0, .null, .null, .int 0, .int 0, .int 0, .int 0, .int 0, .int 0, .int 0, .int 0, .int 0, .null, .int 0, .null, .null, .null, .int 0, .null, .int 0, .int 0, .long 0, .null, .null, .null, .null, .null, .null, .null, .null, .null, .null, .null, .null, .null, .null, .null, .null, .null, .null, .null, .null, .null, .null, .null, .null, .null, .null, .int 0, .null, .int 0, .int 0, .int 0, .null, .int 0, .long 0, .int 0, .null, .int 0] 11), (11, s_dup 12), (12, c_init 12 0 71 17244 15), (15, s_astore 2 16), (16, s_pushI 0 17), (17, s_istore 3 18)]
set_option maxRecDepth 100000 in
set_option maxHeartbeats 4000000 in
theorem okc_law (l : Launch) (nm : String) : cc_CodeOK l cc_I0 RL nm cL_law 4 ret cdc_law := by
  intro p e R s m args below meth c Q σ cA D B c0 m0 cap capS d C X
  have hx := X.1
  have hb := X.2.1
  have hown := X.2.2.2.1
  have hts := X.2.2.2.2.1
  refine mm_fc (sc_new X rfl in_X11 tyX11_ok wd_1_21 wd_1_22 wd_1_1 (by decide +kernel) rfl rfl (by decide +kernel : decode cL_law 0 = .ok (.new 7, 3))) ?_
  refine mm_fc (ss_dup hx hb (by decide +kernel : decode cL_law 3 = .ok (.dup, 1))) ?_
  refine mm_fc (sc_init X rfl wd_1_25 wd_1_1 wd_1_23 wd_1_24 rfl (by decide +kernel) (by decide +kernel) (by decide) (by decide +kernel : decode cL_law 4 = .ok (.invokespecial 9, 3))) ?_
  refine mm_fc (ss_astore_n hx hb (by decide +kernel : decode cL_law 7 = .ok (.astore_n 1, 1)) rfl (by decide)) ?_
  refine mm_fc (sc_new X rfl in_X12 tyX12_ok wd_6_40 wd_6_41 wd_1_13 (by decide +kernel) rfl rfl (by decide +kernel : decode cL_law 8 = .ok (.new 10, 3))) ?_
  refine mm_fc (ss_dup hx hb (by decide +kernel : decode cL_law 11 = .ok (.dup, 1))) ?_
  refine mm_fc (sc_init X rfl wd_6_44 wd_1_13 wd_6_42 wd_6_43 rfl (by decide +kernel) (by decide +kernel) (by decide) (by decide +kernel : decode cL_law 12 = .ok (.invokespecial 12, 3))) ?_
  refine mm_fc (ss_astore_n hx hb (by decide +kernel : decode cL_law 15 = .ok (.astore_n 2, 1)) rfl (by decide)) ?_
  refine mm_fc (ss_iconst hx hb (by decide +kernel : decode cL_law 16 = .ok (.iconst 0, 1)) (by decide)) ?_
  refine mm_fc (ss_istore_n hx hb (by decide +kernel : decode cL_law 17 = .ok (.istore_n 3, 1)) rfl (by decide)) ?_
  exact mm_fn
