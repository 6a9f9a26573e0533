/-! calls that only read -/
section CALLS
variable {a b c : Int}
theorem K_fault (al : -2147483648 ≤ a) (au : a < 2147483648) : CallI 151 213 [.int (iI a)] := by
  refine CallI.same (fun d h i I => ?_)
  obtain ⟨t, st, pm, hm, fc, kd, cp, cm, cf, n, ev, past, M, W, H, S, P, N⟩ := I
  by_cases c0 : a = 0
  · refine ⟨iI (fd h 264 7), ?_, ?_⟩
    · rw [U_X11_fault]
      simp (disch := omega) only [iI_lit, jI_lit, iI_neg, jI_neg, iI_add, iI_sub, iI_mul, jI_add, jI_sub, jI_mul, rdI, rdL, iI_lt, iI_le, iI_eq, iI_nat, iI_b2_0, iI_b2_1, mm_bI_some, mm_bV_some, mm_bL_some, mm_bA_some, fd_wL, fd_wR, fl_wI, fl_wR, re_wI, re_wL, re_wC, ite_true, ite_false, not_true_eq_false, not_false_eq_true, lq_ge, lq_le, lq_gt, lq_lt, lq_eq, jI_lt, jI_le, jI_eq, if_pos, if_neg, M.2.2.2.1.1]
    · rw [U_X12_fault]
      simp (disch := omega) only [iI_lit, jI_lit, iI_neg, jI_neg, iI_add, iI_sub, iI_mul, jI_add, jI_sub, jI_mul, rdI, rdL, iI_lt, iI_le, iI_eq, iI_nat, iI_b2_0, iI_b2_1, mm_bI_some, mm_bV_some, mm_bL_some, mm_bA_some, fd_wL, fd_wR, fl_wI, fl_wR, re_wI, re_wL, re_wC, ite_true, ite_false, not_true_eq_false, not_false_eq_true, lq_ge, lq_le, lq_gt, lq_lt, lq_eq, jI_lt, jI_le, jI_eq, if_pos, if_neg]
  · by_cases c1 : a = 1
    · refine ⟨iI (fd h 264 8), ?_, ?_⟩
      · rw [U_X11_fault]
        simp (disch := omega) only [iI_lit, jI_lit, iI_neg, jI_neg, iI_add, iI_sub, iI_mul, jI_add, jI_sub, jI_mul, rdI, rdL, iI_lt, iI_le, iI_eq, iI_nat, iI_b2_0, iI_b2_1, mm_bI_some, mm_bV_some, mm_bL_some, mm_bA_some, fd_wL, fd_wR, fl_wI, fl_wR, re_wI, re_wL, re_wC, ite_true, ite_false, not_true_eq_false, not_false_eq_true, lq_ge, lq_le, lq_gt, lq_lt, lq_eq, jI_lt, jI_le, jI_eq, if_pos, if_neg, M.2.2.2.1.2]
      · rw [U_X12_fault]
        simp (disch := omega) only [iI_lit, jI_lit, iI_neg, jI_neg, iI_add, iI_sub, iI_mul, jI_add, jI_sub, jI_mul, rdI, rdL, iI_lt, iI_le, iI_eq, iI_nat, iI_b2_0, iI_b2_1, mm_bI_some, mm_bV_some, mm_bL_some, mm_bA_some, fd_wL, fd_wR, fl_wI, fl_wR, re_wI, re_wL, re_wC, ite_true, ite_false, not_true_eq_false, not_false_eq_true, lq_ge, lq_le, lq_gt, lq_lt, lq_eq, jI_lt, jI_le, jI_eq, if_pos, if_neg]
    · refine ⟨iI (-1), ?_, ?_⟩
      · rw [U_X11_fault]
        simp (disch := omega) only [iI_lit, jI_lit, iI_neg, jI_neg, iI_add, iI_sub, iI_mul, jI_add, jI_sub, jI_mul, rdI, rdL, iI_lt, iI_le, iI_eq, iI_nat, iI_b2_0, iI_b2_1, mm_bI_some, mm_bV_some, mm_bL_some, mm_bA_some, fd_wL, fd_wR, fl_wI, fl_wR, re_wI, re_wL, re_wC, ite_true, ite_false, not_true_eq_false, not_false_eq_true, lq_ge, lq_le, lq_gt, lq_lt, lq_eq, jI_lt, jI_le, jI_eq, if_pos, if_neg]
      · rw [U_X12_fault]
        simp (disch := omega) only [iI_lit, jI_lit, iI_neg, jI_neg, iI_add, iI_sub, iI_mul, jI_add, jI_sub, jI_mul, rdI, rdL, iI_lt, iI_le, iI_eq, iI_nat, iI_b2_0, iI_b2_1, mm_bI_some, mm_bV_some, mm_bL_some, mm_bA_some, fd_wL, fd_wR, fl_wI, fl_wR, re_wI, re_wL, re_wC, ite_true, ite_false, not_true_eq_false, not_false_eq_true, lq_ge, lq_le, lq_gt, lq_lt, lq_eq, jI_lt, jI_le, jI_eq, if_pos, if_neg]
theorem K_status (al : -2147483648 ≤ a) (au : a < 2147483648) : CallI 182 321 [.int (iI a)] := by
  refine CallI.same (fun d h i I => ?_)
  obtain ⟨t, st, pm, hm, fc, kd, cp, cm, cf, n, ev, past, M, W, H, S, P, N⟩ := I
  by_cases c0 : 0 ≤ a ∧ a < 6
  · have e := M.2.2.2.2.1 a.toNat (by omega)
    refine ⟨iI (fd h 266 a.toNat), ?_, ?_⟩
    · rw [U_X11_status]
      simp (disch := omega) only [iI_lit, jI_lit, iI_neg, jI_neg, iI_add, iI_sub, iI_mul, jI_add, jI_sub, jI_mul, rdI, rdL, iI_lt, iI_le, iI_eq, iI_nat, iI_b2_0, iI_b2_1, mm_bI_some, mm_bV_some, mm_bL_some, mm_bA_some, fd_wL, fd_wR, fl_wI, fl_wR, re_wI, re_wL, re_wC, ite_true, ite_false, not_true_eq_false, not_false_eq_true, lq_ge, lq_le, lq_gt, lq_lt, lq_eq, jI_lt, jI_le, jI_eq, if_pos, if_neg, e]
    · rw [U_X12_status]
      simp (disch := omega) only [iI_lit, jI_lit, iI_neg, jI_neg, iI_add, iI_sub, iI_mul, jI_add, jI_sub, jI_mul, rdI, rdL, iI_lt, iI_le, iI_eq, iI_nat, iI_b2_0, iI_b2_1, mm_bI_some, mm_bV_some, mm_bL_some, mm_bA_some, fd_wL, fd_wR, fl_wI, fl_wR, re_wI, re_wL, re_wC, ite_true, ite_false, not_true_eq_false, not_false_eq_true, lq_ge, lq_le, lq_gt, lq_lt, lq_eq, jI_lt, jI_le, jI_eq, if_pos, if_neg, iI_jI, R_isIn]
  · refine ⟨iI (-1), ?_, ?_⟩
    · rw [U_X11_status]
      by_cases c1 : a < 0 <;> simp (disch := omega) only [iI_lit, jI_lit, iI_neg, jI_neg, iI_add, iI_sub, iI_mul, jI_add, jI_sub, jI_mul, rdI, rdL, iI_lt, iI_le, iI_eq, iI_nat, iI_b2_0, iI_b2_1, mm_bI_some, mm_bV_some, mm_bL_some, mm_bA_some, fd_wL, fd_wR, fl_wI, fl_wR, re_wI, re_wL, re_wC, ite_true, ite_false, not_true_eq_false, not_false_eq_true, lq_ge, lq_le, lq_gt, lq_lt, lq_eq, jI_lt, jI_le, jI_eq, if_pos, if_neg]
    · rw [U_X12_status]
      simp (disch := omega) only [iI_lit, jI_lit, iI_neg, jI_neg, iI_add, iI_sub, iI_mul, jI_add, jI_sub, jI_mul, rdI, rdL, iI_lt, iI_le, iI_eq, iI_nat, iI_b2_0, iI_b2_1, mm_bI_some, mm_bV_some, mm_bL_some, mm_bA_some, fd_wL, fd_wR, fl_wI, fl_wR, re_wI, re_wL, re_wC, ite_true, ite_false, not_true_eq_false, not_false_eq_true, lq_ge, lq_le, lq_gt, lq_lt, lq_eq, jI_lt, jI_le, jI_eq, if_pos, if_neg, iI_jI, R_isIn]
theorem K_octet (al : -2147483648 ≤ a) (au : a < 2147483648) : CallI 180 317 [.int (iI a)] := by
  refine CallI.same (fun d h i I => ?_)
  obtain ⟨t, st, pm, hm, fc, kd, cp, cm, cf, n, ev, past, M, W, H, S, P, N⟩ := I
  have p1 := P.1
  have p2 := P.2.1
  by_cases c0 : 0 ≤ a ∧ a < fd h 264 112
  · have e := P.2.2 a.toNat (by omega)
    refine ⟨iI (fd h 335 a.toNat), ?_, ?_⟩
    · rw [U_X11_octet, U_X4_byteAt]
      simp (disch := omega) only [iI_lit, jI_lit, iI_neg, jI_neg, iI_add, iI_sub, iI_mul, jI_add, jI_sub, jI_mul, rdI, rdL, iI_lt, iI_le, iI_eq, iI_nat, iI_b2_0, iI_b2_1, mm_bI_some, mm_bV_some, mm_bL_some, mm_bA_some, fd_wL, fd_wR, fl_wI, fl_wR, re_wI, re_wL, re_wC, ite_true, ite_false, not_true_eq_false, not_false_eq_true, lq_ge, lq_le, lq_gt, lq_lt, lq_eq, jI_lt, jI_le, jI_eq, if_pos, if_neg, p1, e]
    · rw [U_X12_octet]
      simp (disch := omega) only [iI_lit, jI_lit, iI_neg, jI_neg, iI_add, iI_sub, iI_mul, jI_add, jI_sub, jI_mul, rdI, rdL, iI_lt, iI_le, iI_eq, iI_nat, iI_b2_0, iI_b2_1, mm_bI_some, mm_bV_some, mm_bL_some, mm_bA_some, fd_wL, fd_wR, fl_wI, fl_wR, re_wI, re_wL, re_wC, ite_true, ite_false, not_true_eq_false, not_false_eq_true, lq_ge, lq_le, lq_gt, lq_lt, lq_eq, jI_lt, jI_le, jI_eq, if_pos, if_neg]
  · refine ⟨iI (-1), ?_, ?_⟩
    · rw [U_X11_octet, U_X4_byteAt]
      by_cases c1 : a < 0 <;> simp (disch := omega) only [iI_lit, jI_lit, iI_neg, jI_neg, iI_add, iI_sub, iI_mul, jI_add, jI_sub, jI_mul, rdI, rdL, iI_lt, iI_le, iI_eq, iI_nat, iI_b2_0, iI_b2_1, mm_bI_some, mm_bV_some, mm_bL_some, mm_bA_some, fd_wL, fd_wR, fl_wI, fl_wR, re_wI, re_wL, re_wC, ite_true, ite_false, not_true_eq_false, not_false_eq_true, lq_ge, lq_le, lq_gt, lq_lt, lq_eq, jI_lt, jI_le, jI_eq, if_pos, if_neg, p1]
    · rw [U_X12_octet]
      by_cases c1 : a < 0 <;> simp (disch := omega) only [iI_lit, jI_lit, iI_neg, jI_neg, iI_add, iI_sub, iI_mul, jI_add, jI_sub, jI_mul, rdI, rdL, iI_lt, iI_le, iI_eq, iI_nat, iI_b2_0, iI_b2_1, mm_bI_some, mm_bV_some, mm_bL_some, mm_bA_some, fd_wL, fd_wR, fl_wI, fl_wR, re_wI, re_wL, re_wC, ite_true, ite_false, not_true_eq_false, not_false_eq_true, lq_ge, lq_le, lq_gt, lq_lt, lq_eq, jI_lt, jI_le, jI_eq, if_pos, if_neg]
theorem K_house (al : -2147483648 ≤ a) (au : a < 2147483648) : CallI 154 247 [.int (iI a)] := by
  refine CallI.same (fun d h i I => ?_)
  obtain ⟨t, st, pm, hm, fc, kd, cp, cm, cf, n, ev, past, M, W, H, S, P, N⟩ := I
  obtain ⟨b1, b2', b3, b4, b5, b6, b7, b8, b9, b10, b11, b12, b13⟩ := W
  have h8 := b5.1
  have h9 := b5.2.1
  have e38 : fd h 264 38 = hm := b3.2.1
  have e40 : fd h 264 40 = pm := b3.1
  have e53 : fd h 264 53 = st := b2'.2.2.1
  have sl := b2'.2.2.2.1
  have s1 := b2'.1
  have ew : who (nw h) pm a = who n pm a := who_congr (fun j j1 j2 => b4 _ (by omega) (by omega))
  by_cases c0 : 0 ≤ a ∧ a < hm
  · refine ⟨iI (who n pm a), ?_, ?_⟩
    · rw [U_X11_house, S_lodgerAt isS_13 (by omega) (by omega), b8.2.1, if_pos (by omega), b8.2.2.2.2.2 a c0.1 c0.2]
      rfl
    · rw [U_X12_house, R_isHouse (by omega) (by omega) (by omega), mm_bI_some, R_whoIn (by omega) (by omega) (by omega) (by omega), e40, ew]
      simp (disch := omega) only [iI_lit, jI_lit, iI_neg, jI_neg, iI_add, iI_sub, iI_mul, jI_add, jI_sub, jI_mul, rdI, rdL, iI_lt, iI_le, iI_eq, iI_nat, iI_b2_0, iI_b2_1, mm_bI_some, mm_bV_some, mm_bL_some, mm_bA_some, fd_wL, fd_wR, fl_wI, fl_wR, re_wI, re_wL, re_wC, ite_true, ite_false, not_true_eq_false, not_false_eq_true, lq_ge, lq_le, lq_gt, lq_lt, lq_eq, jI_lt, jI_le, jI_eq, if_pos, if_neg, e53, e38]
  · refine ⟨iI (-1), ?_, ?_⟩
    · rw [U_X11_house, S_lodgerAt isS_13 (by omega) (by omega), b8.2.1, if_neg (by omega)]
      rfl
    · rw [U_X12_house, R_isHouse (by omega) (by omega) (by omega), mm_bI_some]
      simp (disch := omega) only [iI_lit, jI_lit, iI_neg, jI_neg, iI_add, iI_sub, iI_mul, jI_add, jI_sub, jI_mul, rdI, rdL, iI_lt, iI_le, iI_eq, iI_nat, iI_b2_0, iI_b2_1, mm_bI_some, mm_bV_some, mm_bL_some, mm_bA_some, fd_wL, fd_wR, fl_wI, fl_wR, re_wI, re_wL, re_wC, ite_true, ite_false, not_true_eq_false, not_false_eq_true, lq_ge, lq_le, lq_gt, lq_lt, lq_eq, jI_lt, jI_le, jI_eq, if_pos, if_neg, e38]
theorem K_thinks (al : -2147483648 ≤ a) (au : a < 2147483648) (bl : -2147483648 ≤ b) (bu : b < 2147483648) : CallI 156 249 [.int (iI a), .int (iI b)] := by
  refine CallI.same (fun d h i I => ?_)
  obtain ⟨t, st, pm, hm, fc, kd, cp, cm, cf, n, ev, past, M, W, H, S, P, N⟩ := I
  obtain ⟨b1, b2', b3, b4, b5, b6, b7, b8, b9, b10, b11, b12, b13⟩ := W
  have h8 := b5.1
  have e40 : fd h 264 40 = pm := b3.1
  have e10 : fd h 13 10 = pm := b8.1
  by_cases c0 : (0 ≤ a ∧ a < pm) ∧ (0 ≤ b ∧ b < pm) ∧ a ≠ b
  · have r := b4 (25 + 8 * a + b) (by omega) (by omega)
    refine ⟨iI (n (25 + 8 * a + b)), ?_, ?_⟩
    · rw [U_X11_thinks, S_arePair isS_13 (by omega) (by omega) (by omega) (by omega), mm_bI_some, C_think isS_13 b8 h8.2 (by omega) (by omega) (by omega) (by omega) (by omega)]
      simp (disch := omega) only [iI_lit, jI_lit, iI_neg, jI_neg, iI_add, iI_sub, iI_mul, jI_add, jI_sub, jI_mul, rdI, rdL, iI_lt, iI_le, iI_eq, iI_nat, iI_b2_0, iI_b2_1, mm_bI_some, mm_bV_some, mm_bL_some, mm_bA_some, fd_wL, fd_wR, fl_wI, fl_wR, re_wI, re_wL, re_wC, ite_true, ite_false, not_true_eq_false, not_false_eq_true, lq_ge, lq_le, lq_gt, lq_lt, lq_eq, jI_lt, jI_le, jI_eq, if_pos, if_neg, e10]
    · rw [U_X12_thinks, R_areTwo (by omega) (by omega) (by omega) (by omega) (by omega), mm_bI_some, R_thoughtOf (by omega) (by omega) (by omega) (by omega), r]
      simp (disch := omega) only [iI_lit, jI_lit, iI_neg, jI_neg, iI_add, iI_sub, iI_mul, jI_add, jI_sub, jI_mul, rdI, rdL, iI_lt, iI_le, iI_eq, iI_nat, iI_b2_0, iI_b2_1, mm_bI_some, mm_bV_some, mm_bL_some, mm_bA_some, fd_wL, fd_wR, fl_wI, fl_wR, re_wI, re_wL, re_wC, ite_true, ite_false, not_true_eq_false, not_false_eq_true, lq_ge, lq_le, lq_gt, lq_lt, lq_eq, jI_lt, jI_le, jI_eq, if_pos, if_neg, e40]
  · refine ⟨iI (-1), ?_, ?_⟩
    · rw [U_X11_thinks, S_arePair isS_13 (by omega) (by omega) (by omega) (by omega), mm_bI_some]
      simp (disch := omega) only [iI_lit, jI_lit, iI_neg, jI_neg, iI_add, iI_sub, iI_mul, jI_add, jI_sub, jI_mul, rdI, rdL, iI_lt, iI_le, iI_eq, iI_nat, iI_b2_0, iI_b2_1, mm_bI_some, mm_bV_some, mm_bL_some, mm_bA_some, fd_wL, fd_wR, fl_wI, fl_wR, re_wI, re_wL, re_wC, ite_true, ite_false, not_true_eq_false, not_false_eq_true, lq_ge, lq_le, lq_gt, lq_lt, lq_eq, jI_lt, jI_le, jI_eq, if_pos, if_neg, e10]
    · rw [U_X12_thinks, R_areTwo (by omega) (by omega) (by omega) (by omega) (by omega), mm_bI_some]
      simp (disch := omega) only [iI_lit, jI_lit, iI_neg, jI_neg, iI_add, iI_sub, iI_mul, jI_add, jI_sub, jI_mul, rdI, rdL, iI_lt, iI_le, iI_eq, iI_nat, iI_b2_0, iI_b2_1, mm_bI_some, mm_bV_some, mm_bL_some, mm_bA_some, fd_wL, fd_wR, fl_wI, fl_wR, re_wI, re_wL, re_wC, ite_true, ite_false, not_true_eq_false, not_false_eq_true, lq_ge, lq_le, lq_gt, lq_lt, lq_eq, jI_lt, jI_le, jI_eq, if_pos, if_neg, e40]
theorem K_person (al : -2147483648 ≤ a) (au : a < 2147483648) (bl : -2147483648 ≤ b) (bu : b < 2147483648) : CallI 155 248 [.int (iI a), .int (iI b)] := by
  refine CallI.same (fun d h i I => ?_)
  obtain ⟨t, st, pm, hm, fc, kd, cp, cm, cf, n, ev, past, M, W, H, S, P, N⟩ := I
  obtain ⟨b1, b2', b3, b4, b5, b6, b7, b8, b9, b10, b11, b12, b13⟩ := W
  have h8 := b5.1
  have h9 := b5.2.1
  have e40 : fd h 264 40 = pm := b3.1
  have e10 : fd h 13 10 = pm := b8.1
  rw [U_X11_person, U_X12_person, S_isPerson isS_13 (by omega) (by omega), iI_jI (by omega) (by omega), R_isPerson (by omega) (by omega) (by omega)]
  by_cases c0 : 0 ≤ a ∧ a < pm
  · have hh := b5.2.2.1 a c0.1 c0.2
    have r1 := b4 (1 + 3 * a) (by omega) (by omega)
    have r2 := b4 (2 + 3 * a) (by omega) (by omega)
    have r3 := b4 (3 + 3 * a) (by omega) (by omega)
    have rf := b3.2.2.1 a c0.1 c0.2
    have en : ∀ s, nb (nw h) pm a s = nb n pm a s := by
      intro s
      unfold nb
      rw [r1]
      exact who_congr (fun j j1 j2 => b4 _ (by omega) (by omega))
    have nR : ∀ s, (s = 0 ∨ s = 1) → mm_M mm_T0 (d + 39) 225 [.ref 264, .int (iI a), .int (iI s)] h = some (some (.int (iI (nb n pm a s))), h) := by
      intro s hs
      rw [R_neighbour (by omega) (by omega) (by omega) (by omega) (by omega) (by omega) (by rw [r1]; omega), e40, en]
    have nC : ∀ s, (s = 0 ∨ s = 1) → mm_M mm_T0 (d + 39) 111 [.ref 13, .int (iI a), .int (iI s)] h = some (some (.int (iI (nb n pm a s))), h) := fun s hs => C_nb isS_13 b8 b5 c0.1 c0.2 hs
    have nR0 := nR 0 (Or.inl rfl)
    have nR1 := nR 1 (Or.inr rfl)
    have nC0 := nC 0 (Or.inl rfl)
    have nC1 := nC 1 (Or.inr rfl)
    have g1 := C_home (d := d + 37) isS_13 b8 h8.2 c0.1 c0.2
    have g2 := C_look (d := d + 37) isS_13 b8 h8.2 c0.1 c0.2
    have g3 := C_face (d := d + 37) isS_13 b8 h8.2 c0.1 c0.2
    have g4 := C_kind (d := d + 37) isS_13 b8 h8.2 c0.1 c0.2
    have g5 := C_spare (d := d + 37) isS_13 b8 h8.2 c0.1 c0.2
    by_cases d0 : b = 0
    · exact ⟨iI (n (1 + 3 * a)), by simp (disch := omega) only [iI_lit, jI_lit, iI_neg, jI_neg, iI_add, iI_sub, iI_mul, jI_add, jI_sub, jI_mul, rdI, rdL, iI_lt, iI_le, iI_eq, iI_nat, iI_b2_0, iI_b2_1, mm_bI_some, mm_bV_some, mm_bL_some, mm_bA_some, fd_wL, fd_wR, fl_wI, fl_wR, re_wI, re_wL, re_wC, ite_true, ite_false, not_true_eq_false, not_false_eq_true, lq_ge, lq_le, lq_gt, lq_lt, lq_eq, jI_lt, jI_le, jI_eq, if_pos, if_neg, e10, g1], by simp (disch := omega) only [iI_lit, jI_lit, iI_neg, jI_neg, iI_add, iI_sub, iI_mul, jI_add, jI_sub, jI_mul, rdI, rdL, iI_lt, iI_le, iI_eq, iI_nat, iI_b2_0, iI_b2_1, mm_bI_some, mm_bV_some, mm_bL_some, mm_bA_some, fd_wL, fd_wR, fl_wI, fl_wR, re_wI, re_wL, re_wC, ite_true, ite_false, not_true_eq_false, not_false_eq_true, lq_ge, lq_le, lq_gt, lq_lt, lq_eq, jI_lt, jI_le, jI_eq, if_pos, if_neg, e40, R_houseOf, r1]⟩
    by_cases d1 : b = 1
    · exact ⟨iI (n (2 + 3 * a)), by simp (disch := omega) only [iI_lit, jI_lit, iI_neg, jI_neg, iI_add, iI_sub, iI_mul, jI_add, jI_sub, jI_mul, rdI, rdL, iI_lt, iI_le, iI_eq, iI_nat, iI_b2_0, iI_b2_1, mm_bI_some, mm_bV_some, mm_bL_some, mm_bA_some, fd_wL, fd_wR, fl_wI, fl_wR, re_wI, re_wL, re_wC, ite_true, ite_false, not_true_eq_false, not_false_eq_true, lq_ge, lq_le, lq_gt, lq_lt, lq_eq, jI_lt, jI_le, jI_eq, if_pos, if_neg, e10, g2], by simp (disch := omega) only [iI_lit, jI_lit, iI_neg, jI_neg, iI_add, iI_sub, iI_mul, jI_add, jI_sub, jI_mul, rdI, rdL, iI_lt, iI_le, iI_eq, iI_nat, iI_b2_0, iI_b2_1, mm_bI_some, mm_bV_some, mm_bL_some, mm_bA_some, fd_wL, fd_wR, fl_wI, fl_wR, re_wI, re_wL, re_wC, ite_true, ite_false, not_true_eq_false, not_false_eq_true, lq_ge, lq_le, lq_gt, lq_lt, lq_eq, jI_lt, jI_le, jI_eq, if_pos, if_neg, e40, R_lookOf, r2]⟩
    by_cases d2 : b = 2
    · exact ⟨iI (fc a), by simp (disch := omega) only [iI_lit, jI_lit, iI_neg, jI_neg, iI_add, iI_sub, iI_mul, jI_add, jI_sub, jI_mul, rdI, rdL, iI_lt, iI_le, iI_eq, iI_nat, iI_b2_0, iI_b2_1, mm_bI_some, mm_bV_some, mm_bL_some, mm_bA_some, fd_wL, fd_wR, fl_wI, fl_wR, re_wI, re_wL, re_wC, ite_true, ite_false, not_true_eq_false, not_false_eq_true, lq_ge, lq_le, lq_gt, lq_lt, lq_eq, jI_lt, jI_le, jI_eq, if_pos, if_neg, e10, g3], by simp (disch := omega) only [iI_lit, jI_lit, iI_neg, jI_neg, iI_add, iI_sub, iI_mul, jI_add, jI_sub, jI_mul, rdI, rdL, iI_lt, iI_le, iI_eq, iI_nat, iI_b2_0, iI_b2_1, mm_bI_some, mm_bV_some, mm_bL_some, mm_bA_some, fd_wL, fd_wR, fl_wI, fl_wR, re_wI, re_wL, re_wC, ite_true, ite_false, not_true_eq_false, not_false_eq_true, lq_ge, lq_le, lq_gt, lq_lt, lq_eq, jI_lt, jI_le, jI_eq, if_pos, if_neg, e40, R_faceOf, rf.1]⟩
    by_cases d3 : b = 3
    · exact ⟨iI (kd a), by simp (disch := omega) only [iI_lit, jI_lit, iI_neg, jI_neg, iI_add, iI_sub, iI_mul, jI_add, jI_sub, jI_mul, rdI, rdL, iI_lt, iI_le, iI_eq, iI_nat, iI_b2_0, iI_b2_1, mm_bI_some, mm_bV_some, mm_bL_some, mm_bA_some, fd_wL, fd_wR, fl_wI, fl_wR, re_wI, re_wL, re_wC, ite_true, ite_false, not_true_eq_false, not_false_eq_true, lq_ge, lq_le, lq_gt, lq_lt, lq_eq, jI_lt, jI_le, jI_eq, if_pos, if_neg, e10, g4], by simp (disch := omega) only [iI_lit, jI_lit, iI_neg, jI_neg, iI_add, iI_sub, iI_mul, jI_add, jI_sub, jI_mul, rdI, rdL, iI_lt, iI_le, iI_eq, iI_nat, iI_b2_0, iI_b2_1, mm_bI_some, mm_bV_some, mm_bL_some, mm_bA_some, fd_wL, fd_wR, fl_wI, fl_wR, re_wI, re_wL, re_wC, ite_true, ite_false, not_true_eq_false, not_false_eq_true, lq_ge, lq_le, lq_gt, lq_lt, lq_eq, jI_lt, jI_le, jI_eq, if_pos, if_neg, e40, R_kindOf, rf.2]⟩
    by_cases d4 : b = 4
    · refine ⟨iI (n (3 + 3 * a)), by simp (disch := omega) only [iI_lit, jI_lit, iI_neg, jI_neg, iI_add, iI_sub, iI_mul, jI_add, jI_sub, jI_mul, rdI, rdL, iI_lt, iI_le, iI_eq, iI_nat, iI_b2_0, iI_b2_1, mm_bI_some, mm_bV_some, mm_bL_some, mm_bA_some, fd_wL, fd_wR, fl_wI, fl_wR, re_wI, re_wL, re_wC, ite_true, ite_false, not_true_eq_false, not_false_eq_true, lq_ge, lq_le, lq_gt, lq_lt, lq_eq, jI_lt, jI_le, jI_eq, if_pos, if_neg, e10, g5], ?_⟩
      have z : n (3 + 3 * a) = 0 ∨ n (3 + 3 * a) = 1 := by omega
      rcases z with z | z
      · simp (disch := omega) only [iI_lit, jI_lit, iI_neg, jI_neg, iI_add, iI_sub, iI_mul, jI_add, jI_sub, jI_mul, rdI, rdL, iI_lt, iI_le, iI_eq, iI_nat, iI_b2_0, iI_b2_1, mm_bI_some, mm_bV_some, mm_bL_some, mm_bA_some, fd_wL, fd_wR, fl_wI, fl_wR, re_wI, re_wL, re_wC, ite_true, ite_false, not_true_eq_false, not_false_eq_true, lq_ge, lq_le, lq_gt, lq_lt, lq_eq, jI_lt, jI_le, jI_eq, if_pos, if_neg, e40, R_doesSpare, r3, z]
      · simp (disch := omega) only [iI_lit, jI_lit, iI_neg, jI_neg, iI_add, iI_sub, iI_mul, jI_add, jI_sub, jI_mul, rdI, rdL, iI_lt, iI_le, iI_eq, iI_nat, iI_b2_0, iI_b2_1, mm_bI_some, mm_bV_some, mm_bL_some, mm_bA_some, fd_wL, fd_wR, fl_wI, fl_wR, re_wI, re_wL, re_wC, ite_true, ite_false, not_true_eq_false, not_false_eq_true, lq_ge, lq_le, lq_gt, lq_lt, lq_eq, jI_lt, jI_le, jI_eq, if_pos, if_neg, e40, R_doesSpare, r3, z]
    by_cases d5 : b = 5
    · exact ⟨iI (nb n pm a 0), by simp (disch := omega) only [iI_lit, jI_lit, iI_neg, jI_neg, iI_add, iI_sub, iI_mul, jI_add, jI_sub, jI_mul, rdI, rdL, iI_lt, iI_le, iI_eq, iI_nat, iI_b2_0, iI_b2_1, mm_bI_some, mm_bV_some, mm_bL_some, mm_bA_some, fd_wL, fd_wR, fl_wI, fl_wR, re_wI, re_wL, re_wC, ite_true, ite_false, not_true_eq_false, not_false_eq_true, lq_ge, lq_le, lq_gt, lq_lt, lq_eq, jI_lt, jI_le, jI_eq, if_pos, if_neg, e10, nC0], by simp (disch := omega) only [iI_lit, jI_lit, iI_neg, jI_neg, iI_add, iI_sub, iI_mul, jI_add, jI_sub, jI_mul, rdI, rdL, iI_lt, iI_le, iI_eq, iI_nat, iI_b2_0, iI_b2_1, mm_bI_some, mm_bV_some, mm_bL_some, mm_bA_some, fd_wL, fd_wR, fl_wI, fl_wR, re_wI, re_wL, re_wC, ite_true, ite_false, not_true_eq_false, not_false_eq_true, lq_ge, lq_le, lq_gt, lq_lt, lq_eq, jI_lt, jI_le, jI_eq, if_pos, if_neg, e40, nR0]⟩
    by_cases d6 : b = 6
    · exact ⟨iI (nb n pm a 1), by simp (disch := omega) only [iI_lit, jI_lit, iI_neg, jI_neg, iI_add, iI_sub, iI_mul, jI_add, jI_sub, jI_mul, rdI, rdL, iI_lt, iI_le, iI_eq, iI_nat, iI_b2_0, iI_b2_1, mm_bI_some, mm_bV_some, mm_bL_some, mm_bA_some, fd_wL, fd_wR, fl_wI, fl_wR, re_wI, re_wL, re_wC, ite_true, ite_false, not_true_eq_false, not_false_eq_true, lq_ge, lq_le, lq_gt, lq_lt, lq_eq, jI_lt, jI_le, jI_eq, if_pos, if_neg, e10, nC1], by simp (disch := omega) only [iI_lit, jI_lit, iI_neg, jI_neg, iI_add, iI_sub, iI_mul, jI_add, jI_sub, jI_mul, rdI, rdL, iI_lt, iI_le, iI_eq, iI_nat, iI_b2_0, iI_b2_1, mm_bI_some, mm_bV_some, mm_bL_some, mm_bA_some, fd_wL, fd_wR, fl_wI, fl_wR, re_wI, re_wL, re_wC, ite_true, ite_false, not_true_eq_false, not_false_eq_true, lq_ge, lq_le, lq_gt, lq_lt, lq_eq, jI_lt, jI_le, jI_eq, if_pos, if_neg, e40, nR1]⟩
    · exact ⟨iI (-1), by simp (disch := omega) only [iI_lit, jI_lit, iI_neg, jI_neg, iI_add, iI_sub, iI_mul, jI_add, jI_sub, jI_mul, rdI, rdL, iI_lt, iI_le, iI_eq, iI_nat, iI_b2_0, iI_b2_1, mm_bI_some, mm_bV_some, mm_bL_some, mm_bA_some, fd_wL, fd_wR, fl_wI, fl_wR, re_wI, re_wL, re_wC, ite_true, ite_false, not_true_eq_false, not_false_eq_true, lq_ge, lq_le, lq_gt, lq_lt, lq_eq, jI_lt, jI_le, jI_eq, if_pos, if_neg, e10], by simp (disch := omega) only [iI_lit, jI_lit, iI_neg, jI_neg, iI_add, iI_sub, iI_mul, jI_add, jI_sub, jI_mul, rdI, rdL, iI_lt, iI_le, iI_eq, iI_nat, iI_b2_0, iI_b2_1, mm_bI_some, mm_bV_some, mm_bL_some, mm_bA_some, fd_wL, fd_wR, fl_wI, fl_wR, re_wI, re_wL, re_wC, ite_true, ite_false, not_true_eq_false, not_false_eq_true, lq_ge, lq_le, lq_gt, lq_lt, lq_eq, jI_lt, jI_le, jI_eq, if_pos, if_neg, e40]⟩
  · exact ⟨iI (-1), by simp (disch := omega) only [iI_lit, jI_lit, iI_neg, jI_neg, iI_add, iI_sub, iI_mul, jI_add, jI_sub, jI_mul, rdI, rdL, iI_lt, iI_le, iI_eq, iI_nat, iI_b2_0, iI_b2_1, mm_bI_some, mm_bV_some, mm_bL_some, mm_bA_some, fd_wL, fd_wR, fl_wI, fl_wR, re_wI, re_wL, re_wC, ite_true, ite_false, not_true_eq_false, not_false_eq_true, lq_ge, lq_le, lq_gt, lq_lt, lq_eq, jI_lt, jI_le, jI_eq, if_pos, if_neg, e10], by simp (disch := omega) only [iI_lit, jI_lit, iI_neg, jI_neg, iI_add, iI_sub, iI_mul, jI_add, jI_sub, jI_mul, rdI, rdL, iI_lt, iI_le, iI_eq, iI_nat, iI_b2_0, iI_b2_1, mm_bI_some, mm_bV_some, mm_bL_some, mm_bA_some, fd_wL, fd_wR, fl_wI, fl_wR, re_wI, re_wL, re_wC, ite_true, ite_false, not_true_eq_false, not_false_eq_true, lq_ge, lq_le, lq_gt, lq_lt, lq_eq, jI_lt, jI_le, jI_eq, if_pos, if_neg, e40]⟩
theorem K_kept (al : -2147483648 ≤ a) (au : a < 2147483648) (bl : -2147483648 ≤ b) (bu : b < 2147483648) : CallI 159 252 [.int (iI a), .int (iI b)] := by
  refine CallI.same (fun d h i I => ?_)
  obtain ⟨t, st, pm, hm, fc, kd, cp, cm, cf, n, ev, past, M, W, H, S, P, N⟩ := I
  obtain ⟨b1, b2', b3, b4, b5, b6, b7, b8, b9, ⟨k1, k2, k3, k4⟩, b11, b12, b13⟩ := W
  have e89 : fd h 300 89 = ((min ev.length 40 : Nat) : Int) := k2.1
  have e8 : fd h 13 8 = (ev.length : Int) := k1.1
  have ck : ∀ d, mm_M mm_T0 (d + 2) 120 [.ref 13] h = some (some (.int (iI ((min ev.length 40 : Nat) : Int))), h) := by
    intro d
    have e : min (ev.length : Int) 40 = ((min ev.length 40 : Nat) : Int) := by omega
    rw [U_X7_countKept isS_13]
    simp (disch := omega) only [iI_lit, jI_lit, iI_neg, jI_neg, iI_add, iI_sub, iI_mul, jI_add, jI_sub, jI_mul, rdI, rdL, iI_lt, iI_le, iI_eq, iI_nat, iI_b2_0, iI_b2_1, mm_bI_some, mm_bV_some, mm_bL_some, mm_bA_some, fd_wL, fd_wR, fl_wI, fl_wR, re_wI, re_wL, re_wC, ite_true, ite_false, not_true_eq_false, not_false_eq_true, lq_ge, lq_le, lq_gt, lq_lt, lq_eq, jI_lt, jI_le, jI_eq, if_pos, if_neg, e8, J_min, e]
  rw [U_X11_kept, U_X7_keptAt isS_13, U_X12_kept]
  by_cases c0 : 0 ≤ a ∧ a < ((min ev.length 40 : Nat) : Int)
  · have hx : ∃ e, ev[ev.length - min ev.length 40 + a.toNat]? = some e := by
      refine ⟨ev[ev.length - min ev.length 40 + a.toNat]'(by omega), ?_⟩
      rw [List.getElem?_eq_getElem]
    obtain ⟨e, he⟩ := hx
    have x1 := k1.2 a.toNat (by omega) e he
    have x2 := k2.2 a.toNat (by omega) e he
    have x3 := k3 e (List.mem_of_getElem? he)
    have t1 : (((ev.length : Int) - ((min ev.length 40 : Nat) : Int) + a) % 40).toNat = (ev.length - min ev.length 40 + a.toNat) % 40 := by omega
    by_cases d0 : b = 0
    · refine ⟨iI e.1, ?_, ?_⟩
      · have q2 : ((e.1 * 8 + e.2.1) * 8 + e.2.2).tdiv 8 = e.1 * 8 + e.2.1 := by
          rw [Int.tdiv_eq_ediv_of_nonneg (by omega)]
          omega
        have q3 : (e.1 * 8 + e.2.1).tdiv 8 = e.1 := by
          rw [Int.tdiv_eq_ediv_of_nonneg (by omega)]
          omega
        simp (disch := omega) only [iI_lit, jI_lit, iI_neg, jI_neg, iI_add, iI_sub, iI_mul, jI_add, jI_sub, jI_mul, rdI, rdL, iI_lt, iI_le, iI_eq, iI_nat, iI_b2_0, iI_b2_1, mm_bI_some, mm_bV_some, mm_bL_some, mm_bA_some, fd_wL, fd_wR, fl_wI, fl_wR, re_wI, re_wL, re_wC, ite_true, ite_false, not_true_eq_false, not_false_eq_true, lq_ge, lq_le, lq_gt, lq_lt, lq_eq, jI_lt, jI_le, jI_eq, if_pos, if_neg, ck, e8, J_floorMod, t1, x1, iI_div, q2, q3]
      · have t2 : (90 + 3 * a + b).toNat = 90 + 3 * a.toNat := by omega
        simp (disch := omega) only [iI_lit, jI_lit, iI_neg, jI_neg, iI_add, iI_sub, iI_mul, jI_add, jI_sub, jI_mul, rdI, rdL, iI_lt, iI_le, iI_eq, iI_nat, iI_b2_0, iI_b2_1, mm_bI_some, mm_bV_some, mm_bL_some, mm_bA_some, fd_wL, fd_wR, fl_wI, fl_wR, re_wI, re_wL, re_wC, ite_true, ite_false, not_true_eq_false, not_false_eq_true, lq_ge, lq_le, lq_gt, lq_lt, lq_eq, jI_lt, jI_le, jI_eq, if_pos, if_neg, e89, iI_jI, R_isIn, t2, x2.1]
    by_cases d1 : b = 1
    · refine ⟨iI e.2.1, ?_, ?_⟩
      · have q2 : ((e.1 * 8 + e.2.1) * 8 + e.2.2).tdiv 8 = e.1 * 8 + e.2.1 := by
          rw [Int.tdiv_eq_ediv_of_nonneg (by omega)]
          omega
        have q3 : (e.1 * 8 + e.2.1).tdiv 8 = e.1 := by
          rw [Int.tdiv_eq_ediv_of_nonneg (by omega)]
          omega
        have q4 : e.1 * 8 + e.2.1 - e.1 * 8 = e.2.1 := by omega
        simp (disch := omega) only [iI_lit, jI_lit, iI_neg, jI_neg, iI_add, iI_sub, iI_mul, jI_add, jI_sub, jI_mul, rdI, rdL, iI_lt, iI_le, iI_eq, iI_nat, iI_b2_0, iI_b2_1, mm_bI_some, mm_bV_some, mm_bL_some, mm_bA_some, fd_wL, fd_wR, fl_wI, fl_wR, re_wI, re_wL, re_wC, ite_true, ite_false, not_true_eq_false, not_false_eq_true, lq_ge, lq_le, lq_gt, lq_lt, lq_eq, jI_lt, jI_le, jI_eq, if_pos, if_neg, ck, e8, J_floorMod, t1, x1, iI_div, q2, q3, q4]
      · have t2 : (90 + 3 * a + b).toNat = 91 + 3 * a.toNat := by omega
        simp (disch := omega) only [iI_lit, jI_lit, iI_neg, jI_neg, iI_add, iI_sub, iI_mul, jI_add, jI_sub, jI_mul, rdI, rdL, iI_lt, iI_le, iI_eq, iI_nat, iI_b2_0, iI_b2_1, mm_bI_some, mm_bV_some, mm_bL_some, mm_bA_some, fd_wL, fd_wR, fl_wI, fl_wR, re_wI, re_wL, re_wC, ite_true, ite_false, not_true_eq_false, not_false_eq_true, lq_ge, lq_le, lq_gt, lq_lt, lq_eq, jI_lt, jI_le, jI_eq, if_pos, if_neg, e89, iI_jI, R_isIn, t2, x2.2.1]
    by_cases d2 : b = 2
    · refine ⟨iI e.2.2, ?_, ?_⟩
      · have q2 : ((e.1 * 8 + e.2.1) * 8 + e.2.2).tdiv 8 = e.1 * 8 + e.2.1 := by
          rw [Int.tdiv_eq_ediv_of_nonneg (by omega)]
          omega
        have q4 : (e.1 * 8 + e.2.1) * 8 + e.2.2 - (e.1 * 8 + e.2.1) * 8 = e.2.2 := by omega
        simp (disch := omega) only [iI_lit, jI_lit, iI_neg, jI_neg, iI_add, iI_sub, iI_mul, jI_add, jI_sub, jI_mul, rdI, rdL, iI_lt, iI_le, iI_eq, iI_nat, iI_b2_0, iI_b2_1, mm_bI_some, mm_bV_some, mm_bL_some, mm_bA_some, fd_wL, fd_wR, fl_wI, fl_wR, re_wI, re_wL, re_wC, ite_true, ite_false, not_true_eq_false, not_false_eq_true, lq_ge, lq_le, lq_gt, lq_lt, lq_eq, jI_lt, jI_le, jI_eq, if_pos, if_neg, ck, e8, J_floorMod, t1, x1, iI_div, q2, q4]
      · have t2 : (90 + 3 * a + b).toNat = 92 + 3 * a.toNat := by omega
        simp (disch := omega) only [iI_lit, jI_lit, iI_neg, jI_neg, iI_add, iI_sub, iI_mul, jI_add, jI_sub, jI_mul, rdI, rdL, iI_lt, iI_le, iI_eq, iI_nat, iI_b2_0, iI_b2_1, mm_bI_some, mm_bV_some, mm_bL_some, mm_bA_some, fd_wL, fd_wR, fl_wI, fl_wR, re_wI, re_wL, re_wC, ite_true, ite_false, not_true_eq_false, not_false_eq_true, lq_ge, lq_le, lq_gt, lq_lt, lq_eq, jI_lt, jI_le, jI_eq, if_pos, if_neg, e89, iI_jI, R_isIn, t2, x2.2.2]
    · refine ⟨iI (-1), ?_, ?_⟩
      · simp (disch := omega) only [iI_lit, jI_lit, iI_neg, jI_neg, iI_add, iI_sub, iI_mul, jI_add, jI_sub, jI_mul, rdI, rdL, iI_lt, iI_le, iI_eq, iI_nat, iI_b2_0, iI_b2_1, mm_bI_some, mm_bV_some, mm_bL_some, mm_bA_some, fd_wL, fd_wR, fl_wI, fl_wR, re_wI, re_wL, re_wC, ite_true, ite_false, not_true_eq_false, not_false_eq_true, lq_ge, lq_le, lq_gt, lq_lt, lq_eq, jI_lt, jI_le, jI_eq, if_pos, if_neg, ck, e8, J_floorMod, t1, x1]
      · simp (disch := omega) only [iI_lit, jI_lit, iI_neg, jI_neg, iI_add, iI_sub, iI_mul, jI_add, jI_sub, jI_mul, rdI, rdL, iI_lt, iI_le, iI_eq, iI_nat, iI_b2_0, iI_b2_1, mm_bI_some, mm_bV_some, mm_bL_some, mm_bA_some, fd_wL, fd_wR, fl_wI, fl_wR, re_wI, re_wL, re_wC, ite_true, ite_false, not_true_eq_false, not_false_eq_true, lq_ge, lq_le, lq_gt, lq_lt, lq_eq, jI_lt, jI_le, jI_eq, if_pos, if_neg, e89, iI_jI, R_isIn]
  · refine ⟨iI (-1), ?_, ?_⟩
    · by_cases c1 : a < 0
      · simp (disch := omega) only [iI_lit, jI_lit, iI_neg, jI_neg, iI_add, iI_sub, iI_mul, jI_add, jI_sub, jI_mul, rdI, rdL, iI_lt, iI_le, iI_eq, iI_nat, iI_b2_0, iI_b2_1, mm_bI_some, mm_bV_some, mm_bL_some, mm_bA_some, fd_wL, fd_wR, fl_wI, fl_wR, re_wI, re_wL, re_wC, ite_true, ite_false, not_true_eq_false, not_false_eq_true, lq_ge, lq_le, lq_gt, lq_lt, lq_eq, jI_lt, jI_le, jI_eq, if_pos, if_neg]
      · simp (disch := omega) only [iI_lit, jI_lit, iI_neg, jI_neg, iI_add, iI_sub, iI_mul, jI_add, jI_sub, jI_mul, rdI, rdL, iI_lt, iI_le, iI_eq, iI_nat, iI_b2_0, iI_b2_1, mm_bI_some, mm_bV_some, mm_bL_some, mm_bA_some, fd_wL, fd_wR, fl_wI, fl_wR, re_wI, re_wL, re_wC, ite_true, ite_false, not_true_eq_false, not_false_eq_true, lq_ge, lq_le, lq_gt, lq_lt, lq_eq, jI_lt, jI_le, jI_eq, if_pos, if_neg, ck]
    · simp (disch := omega) only [iI_lit, jI_lit, iI_neg, jI_neg, iI_add, iI_sub, iI_mul, jI_add, jI_sub, jI_mul, rdI, rdL, iI_lt, iI_le, iI_eq, iI_nat, iI_b2_0, iI_b2_1, mm_bI_some, mm_bV_some, mm_bL_some, mm_bA_some, fd_wL, fd_wR, fl_wI, fl_wR, re_wI, re_wL, re_wC, ite_true, ite_false, not_true_eq_false, not_false_eq_true, lq_ge, lq_le, lq_gt, lq_lt, lq_eq, jI_lt, jI_le, jI_eq, if_pos, if_neg, e89, iI_jI, R_isIn]
end CALLS
