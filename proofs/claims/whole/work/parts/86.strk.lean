section STRNO
variable {d : Nat} {h : mm_H} {a b c e st y : Int}
set_option maxHeartbeats 8000000 in
theorem C_stranger_no (al : -2147483648 ≤ a) (au : a < 2147483648) (bl : -2147483648 ≤ b) (bu : b < 2147483648) (cl : -2147483648 ≤ c) (cu : c < 2147483648) (el : -2147483648 ≤ e) (eu : e < 2147483648) (e12 : fd h 0 12 = st) (e11 : fd h 13 11 = y) (hy : 0 ≤ y ∧ y ≤ 999) (st1 : st = 0 ∨ st = 1) (c0 : ¬ (st = 1 ∧ ((1 ≤ c ∧ c ≤ 20) ∧ y + c ≤ 999) ∧ (0 ≤ e ∧ e ≤ 1) ∧ (0 ≤ a ∧ a ≤ 9) ∧ (0 ≤ b ∧ b ≤ 9))) : mm_M mm_T0 (d + 3) 164 [.ref 0, .int (iI a), .int (iI b), .int (iI c), .int (iI e)] h = some (some (.int (iI (-1))), h) := by
  rw [U_X11_stranger]
  by_cases z : st = 0
  · simp (disch := omega) only [iI_lit, jI_lit, iI_neg, jI_neg, iI_add, iI_sub, iI_mul, jI_add, jI_sub, jI_mul, rdI, rdL, iI_lt, iI_le, iI_eq, iI_nat, iI_b2_0, iI_b2_1, mm_bI_some, mm_bV_some, mm_bL_some, mm_bA_some, fd_wL, fd_wR, fl_wI, fl_wR, re_wI, re_wL, re_wC, ite_true, ite_false, not_true_eq_false, not_false_eq_true, lq_ge, lq_le, lq_gt, lq_lt, lq_eq, jI_lt, jI_le, jI_eq, if_pos, if_neg, e12]
  · by_cases z2 : (1 ≤ c ∧ c ≤ 20) ∧ y + c ≤ 999
    · by_cases z3 : e < 0
      · simp (disch := omega) only [iI_lit, jI_lit, iI_neg, jI_neg, iI_add, iI_sub, iI_mul, jI_add, jI_sub, jI_mul, rdI, rdL, iI_lt, iI_le, iI_eq, iI_nat, iI_b2_0, iI_b2_1, mm_bI_some, mm_bV_some, mm_bL_some, mm_bA_some, fd_wL, fd_wR, fl_wI, fl_wR, re_wI, re_wL, re_wC, ite_true, ite_false, not_true_eq_false, not_false_eq_true, lq_ge, lq_le, lq_gt, lq_lt, lq_eq, jI_lt, jI_le, jI_eq, if_pos, if_neg, e12, C_canPass, e11]
      · by_cases z4 : e ≤ 1
        · by_cases z5 : a < 0
          · simp (disch := omega) only [iI_lit, jI_lit, iI_neg, jI_neg, iI_add, iI_sub, iI_mul, jI_add, jI_sub, jI_mul, rdI, rdL, iI_lt, iI_le, iI_eq, iI_nat, iI_b2_0, iI_b2_1, mm_bI_some, mm_bV_some, mm_bL_some, mm_bA_some, fd_wL, fd_wR, fl_wI, fl_wR, re_wI, re_wL, re_wC, ite_true, ite_false, not_true_eq_false, not_false_eq_true, lq_ge, lq_le, lq_gt, lq_lt, lq_eq, jI_lt, jI_le, jI_eq, if_pos, if_neg, e12, C_canPass, e11]
          · by_cases z6 : 9 < a
            · simp (disch := omega) only [iI_lit, jI_lit, iI_neg, jI_neg, iI_add, iI_sub, iI_mul, jI_add, jI_sub, jI_mul, rdI, rdL, iI_lt, iI_le, iI_eq, iI_nat, iI_b2_0, iI_b2_1, mm_bI_some, mm_bV_some, mm_bL_some, mm_bA_some, fd_wL, fd_wR, fl_wI, fl_wR, re_wI, re_wL, re_wC, ite_true, ite_false, not_true_eq_false, not_false_eq_true, lq_ge, lq_le, lq_gt, lq_lt, lq_eq, jI_lt, jI_le, jI_eq, if_pos, if_neg, e12, C_canPass, e11]
            · by_cases z7 : b < 0 <;> simp (disch := omega) only [iI_lit, jI_lit, iI_neg, jI_neg, iI_add, iI_sub, iI_mul, jI_add, jI_sub, jI_mul, rdI, rdL, iI_lt, iI_le, iI_eq, iI_nat, iI_b2_0, iI_b2_1, mm_bI_some, mm_bV_some, mm_bL_some, mm_bA_some, fd_wL, fd_wR, fl_wI, fl_wR, re_wI, re_wL, re_wC, ite_true, ite_false, not_true_eq_false, not_false_eq_true, lq_ge, lq_le, lq_gt, lq_lt, lq_eq, jI_lt, jI_le, jI_eq, if_pos, if_neg, e12, C_canPass, e11]
        · simp (disch := omega) only [iI_lit, jI_lit, iI_neg, jI_neg, iI_add, iI_sub, iI_mul, jI_add, jI_sub, jI_mul, rdI, rdL, iI_lt, iI_le, iI_eq, iI_nat, iI_b2_0, iI_b2_1, mm_bI_some, mm_bV_some, mm_bL_some, mm_bA_some, fd_wL, fd_wR, fl_wI, fl_wR, re_wI, re_wL, re_wC, ite_true, ite_false, not_true_eq_false, not_false_eq_true, lq_ge, lq_le, lq_gt, lq_lt, lq_eq, jI_lt, jI_le, jI_eq, if_pos, if_neg, e12, C_canPass, e11]
    · simp (disch := omega) only [iI_lit, jI_lit, iI_neg, jI_neg, iI_add, iI_sub, iI_mul, jI_add, jI_sub, jI_mul, rdI, rdL, iI_lt, iI_le, iI_eq, iI_nat, iI_b2_0, iI_b2_1, mm_bI_some, mm_bV_some, mm_bL_some, mm_bA_some, fd_wL, fd_wR, fl_wI, fl_wR, re_wI, re_wL, re_wC, ite_true, ite_false, not_true_eq_false, not_false_eq_true, lq_ge, lq_le, lq_gt, lq_lt, lq_eq, jI_lt, jI_le, jI_eq, if_pos, if_neg, e12, C_canPass, e11]
set_option maxHeartbeats 8000000 in
theorem R_stranger_no (al : -2147483648 ≤ a) (au : a < 2147483648) (bl : -2147483648 ≤ b) (bu : b < 2147483648) (cl : -2147483648 ≤ c) (cu : c < 2147483648) (el : -2147483648 ≤ e) (eu : e < 2147483648) (e53 : fd h 264 53 = st) (e0 : fd h 300 0 = y) (hy : 0 ≤ y ∧ y ≤ 999) (st1 : st = 0 ∨ st = 1) (c0 : ¬ (st = 1 ∧ ((1 ≤ c ∧ c ≤ 20) ∧ y + c ≤ 999) ∧ (0 ≤ e ∧ e ≤ 1) ∧ (0 ≤ a ∧ a ≤ 9) ∧ (0 ≤ b ∧ b ≤ 9))) : mm_M mm_T0 (d + 3) 259 [.ref 264, .int (iI a), .int (iI b), .int (iI c), .int (iI e)] h = some (some (.int (iI (-1))), h) := by
  rw [U_X12_stranger, iI_jI al au, iI_jI bl bu, iI_jI el eu]
  by_cases z : st = 0
  · simp (disch := omega) only [iI_lit, jI_lit, iI_neg, jI_neg, iI_add, iI_sub, iI_mul, jI_add, jI_sub, jI_mul, rdI, rdL, iI_lt, iI_le, iI_eq, iI_nat, iI_b2_0, iI_b2_1, mm_bI_some, mm_bV_some, mm_bL_some, mm_bA_some, fd_wL, fd_wR, fl_wI, fl_wR, re_wI, re_wL, re_wC, ite_true, ite_false, not_true_eq_false, not_false_eq_true, lq_ge, lq_le, lq_gt, lq_lt, lq_eq, jI_lt, jI_le, jI_eq, if_pos, if_neg, e53]
  · by_cases z2 : 0 ≤ a ∧ a ≤ 9
    · by_cases z3 : 0 ≤ b ∧ b ≤ 9
      · by_cases z4 : (1 ≤ c ∧ c ≤ 20) ∧ y + c ≤ 999 <;> simp (disch := omega) only [iI_lit, jI_lit, iI_neg, jI_neg, iI_add, iI_sub, iI_mul, jI_add, jI_sub, jI_mul, rdI, rdL, iI_lt, iI_le, iI_eq, iI_nat, iI_b2_0, iI_b2_1, mm_bI_some, mm_bV_some, mm_bL_some, mm_bA_some, fd_wL, fd_wR, fl_wI, fl_wR, re_wI, re_wL, re_wC, ite_true, ite_false, not_true_eq_false, not_false_eq_true, lq_ge, lq_le, lq_gt, lq_lt, lq_eq, jI_lt, jI_le, jI_eq, if_pos, if_neg, e53, R_isAhead, e0, R_isIn]
      · simp (disch := omega) only [iI_lit, jI_lit, iI_neg, jI_neg, iI_add, iI_sub, iI_mul, jI_add, jI_sub, jI_mul, rdI, rdL, iI_lt, iI_le, iI_eq, iI_nat, iI_b2_0, iI_b2_1, mm_bI_some, mm_bV_some, mm_bL_some, mm_bA_some, fd_wL, fd_wR, fl_wI, fl_wR, re_wI, re_wL, re_wC, ite_true, ite_false, not_true_eq_false, not_false_eq_true, lq_ge, lq_le, lq_gt, lq_lt, lq_eq, jI_lt, jI_le, jI_eq, if_pos, if_neg, e53, R_isIn]
    · simp (disch := omega) only [iI_lit, jI_lit, iI_neg, jI_neg, iI_add, iI_sub, iI_mul, jI_add, jI_sub, jI_mul, rdI, rdL, iI_lt, iI_le, iI_eq, iI_nat, iI_b2_0, iI_b2_1, mm_bI_some, mm_bV_some, mm_bL_some, mm_bA_some, fd_wL, fd_wR, fl_wI, fl_wR, re_wI, re_wL, re_wC, ite_true, ite_false, not_true_eq_false, not_false_eq_true, lq_ge, lq_le, lq_gt, lq_lt, lq_eq, jI_lt, jI_le, jI_eq, if_pos, if_neg, e53, R_isIn]
end STRNO
section STR3
variable {a b c e : Int}
set_option maxHeartbeats 8000000 in
theorem K_stranger (al : -2147483648 ≤ a) (au : a < 2147483648) (bl : -2147483648 ≤ b) (bu : b < 2147483648) (cl : -2147483648 ≤ c) (cu : c < 2147483648) (el : -2147483648 ≤ e) (eu : e < 2147483648) : CallI 164 259 [.int (iI a), .int (iI b), .int (iI c), .int (iI e)] := by
  intro d h i I hi
  have I0 := I
  obtain ⟨t, st, pm, hm, fc, kd, cp, cm, cf, n, ev, past, M, W, H, S, P, N⟩ := I
  have W0 := W
  obtain ⟨w1, w2, w3, w4, w5, w6, w7, w8, w9, w10, w11, w12, w13⟩ := W
  have tt := isT_or w1.1
  have h8 := w5.1
  have h9 := w5.2.1
  have e53 : fd h 264 53 = st := w2.2.2.1
  have e12 : fd h 0 12 = st := w2.2.1
  have st1 := w2.1
  have e40 : fd h 264 40 = pm := w3.1
  have e10 : fd h 13 10 = pm := w8.1
  have e11 : fd h 13 11 = n 0 := w8.2.2.1
  have e0 : fd h 300 0 = n 0 := w4 0 (by omega) (by omega)
  by_cases c0 : st = 1 ∧ ((1 ≤ c ∧ c ≤ 20) ∧ n 0 + c ≤ 999) ∧ (0 ≤ e ∧ e ≤ 1) ∧ (0 ≤ a ∧ a ≤ 9) ∧ (0 ≤ b ∧ b ≤ 9)
  · have K0 : Kf (SC t) nL h (wI (wI h 204 6 (iI (-1))) 204 8 (iI (-1))) := (Kf.refl.wI (by unfold SC; omega)).wI (by unfold SC; omega)
    have f10 : fd (wI (wI h 204 6 (iI (-1))) 204 8 (iI (-1))) 13 10 = pm := (K0.1 _ _ (by unfold SC; omega)).trans e10
    have rt := w1.2.1
    by_cases p8 : pm < 8
    · obtain ⟨h1, q1, q2, q3, q4, q5⟩ := C_str_24 (d := d + 32) (N := c) (face := a) (kind := b) w1.1 w6 (by omega) (by omega) (w2.2.2.2.2 c0.1) w8 w10.1 (by omega) w5 p8 (by omega) c0.2.2.2.1 c0.2.2.2.2 hm.toNat 0 _ (-1, -1) (by omega) (by omega) K0 (Or.inl ⟨rfl, rfl⟩) (by rw [fd_wI_col (by omega), fd_wI_same (by omega) (by omega)]) (fd_wI_same (by omega) (by omega))
      have T1 : RT h1 pm hm fc kd cp cm cf := w3.kf2 q2 (by intro a j; unfold NR SC; omega)
      have R1 : RepR h1 n := w4.kf q2 (by intro j hj; unfold SC; omega)
      have f65 : fd h1 264 65 = fd h 264 65 := q2.1 _ _ (by unfold SC; omega)
      obtain ⟨r1, r2, r3, r4, r5, r6⟩ := TR.begin (d := d + 38) (E := ES pm) (h := h1) (by omega) T1 R1
      obtain ⟨u1, u2, u3, u4, u5, u6⟩ := R_str_83 (d := d + 32) (N := c) (w := e) (face := a) (kind := b) (by omega) w6 (by omega) (by omega) R1 (by omega) w5 p8 (by omega) c0.2.2.2.1 c0.2.2.2.2 hm.toNat 0 0 0 r1 (-1, -1) (by omega) (by omega) r3 (by omega) r4 r5 (Or.inl ⟨rfl, rfl⟩) (fun z => absurd rfl z) (by omega)
      generalize hz : strF cp cm hm pm fc kd n c a b hm.toNat 0 (-1, -1) = z at *
      have Kx : Kf (fun a k => Scr t a k ∨ ((a = 294 ∨ a = 295) ∧ (8 + pm) ≤ (k : Int))) LE3 h u1 := by
        refine Kf.trans (q2.mono (fun a k q => by unfold SC at q; unfold Scr; omega) (fun a k q => q.elim)) ⟨fun a k q => ?_, u3.2.1, u3.2.2⟩
        by_cases y : a = 264 ∧ k = 40
        · rw [y.1, y.2, u6, T1.1]
        · exact u3.1 a k (by unfold QTb ES; unfold Scr at q; omega)
      have II : Inv u1 (i + 6) := ⟨t, st, pm, hm, fc, kd, cp, cm, cf, n, ev, past, M.kf Kx (by intro a j; unfold NM Scr; omega) (by unfold LE3; omega), W0.kf Kx (by intro a j; unfold NW NC NR Scr; omega) u4 (by omega) (by omega) hi, H.kf Kx (by intro a j; unfold NH Scr; omega) (by omega), S.kf Kx (by intro a j; unfold NS Scr; omega), P.kf Kx (by intro a j; unfold NP Scr; omega), N.kf Kx (by intro a j; unfold Nnm Scr; omega) (by intro j hj; unfold LE3; omega)⟩
      refine ⟨iI (if z.1 = -1 then -1 else if e = 0 then z.1 else z.2), h1, u1, ?_, ?_, II⟩
      · unfold BdT at q3
        rw [U_X11_stranger]
        by_cases y1 : z.1 = -1
        · rw [b2_f (by omega)] at q1
          simp (disch := omega) only [iI_lit, jI_lit, iI_neg, jI_neg, iI_add, iI_sub, iI_mul, jI_add, jI_sub, jI_mul, rdI, rdL, iI_lt, iI_le, iI_eq, iI_nat, iI_b2_0, iI_b2_1, mm_bI_some, mm_bV_some, mm_bL_some, mm_bA_some, fd_wL, fd_wR, fl_wI, fl_wR, re_wI, re_wL, re_wC, ite_true, ite_false, not_true_eq_false, not_false_eq_true, lq_ge, lq_le, lq_gt, lq_lt, lq_eq, jI_lt, jI_le, jI_eq, if_pos, if_neg, e12, C_canPass, e11, rt, U_X0_findHome w1.1 isS_13, f10, q1]
        · rw [b2_t y1] at q1
          by_cases y2 : e = 0 <;> simp (disch := omega) only [iI_lit, jI_lit, iI_neg, jI_neg, iI_add, iI_sub, iI_mul, jI_add, jI_sub, jI_mul, rdI, rdL, iI_lt, iI_le, iI_eq, iI_nat, iI_b2_0, iI_b2_1, mm_bI_some, mm_bV_some, mm_bL_some, mm_bA_some, fd_wL, fd_wR, fl_wI, fl_wR, re_wI, re_wL, re_wC, ite_true, ite_false, not_true_eq_false, not_false_eq_true, lq_ge, lq_le, lq_gt, lq_lt, lq_eq, jI_lt, jI_le, jI_eq, if_pos, if_neg, e12, C_canPass, e11, rt, U_X0_findHome w1.1 isS_13, f10, q1, q4, q5]
      · have f53 : fd h1 264 53 = st := (q2.1 _ _ (by unfold SC; omega)).trans e53
        have f40 : fd h1 264 40 = pm := T1.1
        have f0 : fd h1 300 0 = n 0 := R1 0 (by omega) (by omega)
        have u2' := u2
        dsimp only at u2'
        rw [U_X12_stranger, iI_jI al au, iI_jI bl bu, iI_jI el eu, ← u2']
        simp (disch := omega) only [iI_lit, jI_lit, iI_neg, jI_neg, iI_add, iI_sub, iI_mul, jI_add, jI_sub, jI_mul, rdI, rdL, iI_lt, iI_le, iI_eq, iI_nat, iI_b2_0, iI_b2_1, mm_bI_some, mm_bV_some, mm_bL_some, mm_bA_some, fd_wL, fd_wR, fl_wI, fl_wR, re_wI, re_wL, re_wC, ite_true, ite_false, not_true_eq_false, not_false_eq_true, lq_ge, lq_le, lq_gt, lq_lt, lq_eq, jI_lt, jI_le, jI_eq, if_pos, if_neg, f53, R_isAhead, f0, R_isIn, f40, r2]
    · have KK : Kf (Scr t) LE3 h (wI (wI h 204 6 (iI (-1))) 204 8 (iI (-1))) := K0.mono (fun a k q => by unfold SC at q; unfold Scr; omega) (fun a k q => q.elim)
      have k264 : ∀ x, fd (wI (wI h 204 6 (iI (-1))) 204 8 (iI (-1))) 264 x = fd h 264 x := fun x => by rw [fd_wI_row (by omega), fd_wI_row (by omega)]
      have k38 := k264 38
      have k40 := k264 40
      have k0 : fd (wI (wI h 204 6 (iI (-1))) 204 8 (iI (-1))) 300 0 = n 0 := by rw [fd_wI_row (by omega), fd_wI_row (by omega)]; exact e0
      refine ⟨iI (-1), wI (wI h 204 6 (iI (-1))) 204 8 (iI (-1)), wI (wI h 204 6 (iI (-1))) 204 8 (iI (-1)), ?_, ?_, Inv.of M W0 H S P N KK (by rw [k264]; exact w9) (by rw [k264]; omega) hi⟩
      · rw [U_X11_stranger]
        simp (disch := omega) only [iI_lit, jI_lit, iI_neg, jI_neg, iI_add, iI_sub, iI_mul, jI_add, jI_sub, jI_mul, rdI, rdL, iI_lt, iI_le, iI_eq, iI_nat, iI_b2_0, iI_b2_1, mm_bI_some, mm_bV_some, mm_bL_some, mm_bA_some, fd_wL, fd_wR, fl_wI, fl_wR, re_wI, re_wL, re_wC, ite_true, ite_false, not_true_eq_false, not_false_eq_true, lq_ge, lq_le, lq_gt, lq_lt, lq_eq, jI_lt, jI_le, jI_eq, if_pos, if_neg, e12, C_canPass, e11, rt, U_X0_findHome w1.1 isS_13, f10]
      · rw [U_X12_stranger, iI_jI al au, iI_jI bl bu, iI_jI el eu]
        simp (disch := omega) only [iI_lit, jI_lit, iI_neg, jI_neg, iI_add, iI_sub, iI_mul, jI_add, jI_sub, jI_mul, rdI, rdL, iI_lt, iI_le, iI_eq, iI_nat, iI_b2_0, iI_b2_1, mm_bI_some, mm_bV_some, mm_bL_some, mm_bA_some, fd_wL, fd_wR, fl_wI, fl_wR, re_wI, re_wL, re_wC, ite_true, ite_false, not_true_eq_false, not_false_eq_true, lq_ge, lq_le, lq_gt, lq_lt, lq_eq, jI_lt, jI_le, jI_eq, if_pos, if_neg, k264, e53, R_isAhead, k0, R_isIn, e40]
  · exact ⟨iI (-1), h, h, C_stranger_no (d := d + 37) al au bl bu cl cu el eu e12 e11 w7 st1 c0, R_stranger_no (d := d + 37) al au bl bu cl cu el eu e53 e0 w7 st1 c0, I0.next hi⟩
end STR3
