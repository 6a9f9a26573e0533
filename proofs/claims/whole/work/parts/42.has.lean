section HAS
variable {a b : Int}
set_option maxHeartbeats 8000000 in
theorem Inv.scr2 {h h' : mm_H} {i : Int} {t : Nat} {st pm hm : Int} {fc kd n : Int → Int} {cp cm cf : List Int} {ev : Evs} {past : Past} (M : IvM h) (W : IvW h i t st pm hm fc kd cp cm cf n ev) (H : IvH h i pm hm fc kd past) (S : IvS h pm) (P : IvP h) (N : IvN h t pm) (k : Kf (fun a k => QW t a k ∨ QP a k) LE3 h h') (hi : i + 6 ≤ 3072) : Inv h' (i + 6) := by
  have tt := isT_or W.1.1
  have b9 := W.2.2.2.2.2.2.2.2.1
  have b11 := W.2.2.2.2.2.2.2.2.2.2.1
  have e64 : fd h' 264 64 = fd h 264 64 := k.1 264 64 (by unfold QW QP; omega)
  have e65 : fd h' 264 65 = fd h 264 65 := k.1 264 65 (by unfold QW QP; omega)
  exact Inv.of M W H S P N (k.monoQ (fun a k q => by unfold QW QP at q; unfold Scr; omega)) (e64.trans b9) (by omega) hi
set_option maxHeartbeats 8000000 in
theorem K_has (al : -2147483648 ≤ a) (au : a < 2147483648) : CallI 152 245 [.int (iI a)] := by
  by_cases c5 : a = 5
  · intro d h i I hi
    obtain ⟨t, st, pm, hm, fc, kd, cp, cm, cf, n, ev, past, M, W, H, S, P, N⟩ := I
    have W0 := W
    obtain ⟨w1, w2, w3, w4, w5, w6, w7, w8, w9, w10, w11, w12, w13⟩ := W
    have tt := isT_or w1.1
    have h9 := w5.2.1
    have hc : hm ≠ 0 → CT h t cp cm cf := fun z => w2.2.2.2.2 (by have := w2.1; have := w2.2.2.2.1; omega)
    obtain ⟨h1, p1, p2⟩ := C_feudBits (d := d + 34) w1.1 isS_13 hc w8 w5 w6 (by omega)
    have k1 : Kf (fun a k => QW t a k ∨ QP a k) LE3 h h1 := p2.mono (fun a k q => Or.inl q) (fun a k q => q.elim)
    have T1 : RT h1 pm hm fc kd cp cm cf := w3.kf2 p2 (by intro a j; unfold NR QW; omega)
    have R1 : RepR h1 n := w4.kf p2 (by intro j hj; unfold QW; omega)
    obtain ⟨h2, q1, q2⟩ := R_feudMany_4 (d := d + 33) w5 w6 (by omega) hm.toNat 0 0 h1 (by omega) (by omega) (by omega) T1 R1
    have sp := setN_pc (f := fbS cf pm fc kd n) (fun k => fbS_b) hm.toNat (by omega)
    have sl := setN_lt (f := fbS cf pm fc kd n) hm.toNat
    have lp := p29 (m := hm.toNat) (by omega)
    refine ⟨iI (sumF (fbS cf pm fc kd n) 0 hm.toNat), h1, h2, ?_, ?_, Inv.scr2 M W0 H S P N (k1.trans (q2.monoQ (fun a k q => Or.inr q))) hi⟩
    · have rt := w1.2.1
      have sh := sh_T w1.1
      have jb := J_bits (d := d + 38) (h := h1) (x := setN (fbS cf pm fc kd n) hm.toNat) (by omega)
      rw [sp] at jb
      rw [U_X11_has]
      simp (disch := omega) only [iI_lit, jI_lit, iI_neg, jI_neg, iI_add, iI_sub, iI_mul, jI_add, jI_sub, jI_mul, rdI, rdL, iI_lt, iI_le, iI_eq, iI_nat, iI_b2_0, iI_b2_1, mm_bI_some, mm_bV_some, mm_bL_some, mm_bA_some, fd_wL, fd_wR, fl_wI, fl_wR, re_wI, re_wL, re_wC, ite_true, ite_false, not_true_eq_false, not_false_eq_true, lq_ge, lq_le, lq_gt, lq_lt, lq_eq, jI_lt, jI_le, jI_eq, if_pos, if_neg, rt, sh, p1, jb]
    · rw [Int.zero_add] at q1
      rw [U_X12_has, U_X12_feudMany]
      simp (disch := omega) only [iI_lit, jI_lit, iI_neg, jI_neg, iI_add, iI_sub, iI_mul, jI_add, jI_sub, jI_mul, rdI, rdL, iI_lt, iI_le, iI_eq, iI_nat, iI_b2_0, iI_b2_1, mm_bI_some, mm_bV_some, mm_bL_some, mm_bA_some, fd_wL, fd_wR, fl_wI, fl_wR, re_wI, re_wL, re_wC, ite_true, ite_false, not_true_eq_false, not_false_eq_true, lq_ge, lq_le, lq_gt, lq_lt, lq_eq, jI_lt, jI_le, jI_eq, if_pos, if_neg, q1]
  · refine CallI.same (fun d h i I => ?_)
    obtain ⟨t, st, pm, hm, fc, kd, cp, cm, cf, n, ev, past, M, W, H, S, P, N⟩ := I
    obtain ⟨w1, w2, w3, w4, w5, w6, w7, w8, w9, w10, w11, w12, w13⟩ := W
    have h8 := w5.1
    have e40 : fd h 264 40 = pm := w3.1
    have e38 : fd h 264 38 = hm := w3.2.1
    have e9 : fd h 13 9 = hm := w8.2.1
    have e10 : fd h 13 10 = pm := w8.1
    have e11 : fd h 13 11 = n 0 := w8.2.2.1
    have e0 : fd h 300 0 = n 0 := w4 0 (by omega) (by omega)
    rw [U_X11_has, U_X12_has]
    by_cases d0 : a = 0
    · exact ⟨iI hm, by simp (disch := omega) only [iI_lit, jI_lit, iI_neg, jI_neg, iI_add, iI_sub, iI_mul, jI_add, jI_sub, jI_mul, rdI, rdL, iI_lt, iI_le, iI_eq, iI_nat, iI_b2_0, iI_b2_1, mm_bI_some, mm_bV_some, mm_bL_some, mm_bA_some, fd_wL, fd_wR, fl_wI, fl_wR, re_wI, re_wL, re_wC, ite_true, ite_false, not_true_eq_false, not_false_eq_true, lq_ge, lq_le, lq_gt, lq_lt, lq_eq, jI_lt, jI_le, jI_eq, if_pos, if_neg, e9], by simp (disch := omega) only [iI_lit, jI_lit, iI_neg, jI_neg, iI_add, iI_sub, iI_mul, jI_add, jI_sub, jI_mul, rdI, rdL, iI_lt, iI_le, iI_eq, iI_nat, iI_b2_0, iI_b2_1, mm_bI_some, mm_bV_some, mm_bL_some, mm_bA_some, fd_wL, fd_wR, fl_wI, fl_wR, re_wI, re_wL, re_wC, ite_true, ite_false, not_true_eq_false, not_false_eq_true, lq_ge, lq_le, lq_gt, lq_lt, lq_eq, jI_lt, jI_le, jI_eq, if_pos, if_neg, e38]⟩
    by_cases d1 : a = 1
    · exact ⟨iI pm, by simp (disch := omega) only [iI_lit, jI_lit, iI_neg, jI_neg, iI_add, iI_sub, iI_mul, jI_add, jI_sub, jI_mul, rdI, rdL, iI_lt, iI_le, iI_eq, iI_nat, iI_b2_0, iI_b2_1, mm_bI_some, mm_bV_some, mm_bL_some, mm_bA_some, fd_wL, fd_wR, fl_wI, fl_wR, re_wI, re_wL, re_wC, ite_true, ite_false, not_true_eq_false, not_false_eq_true, lq_ge, lq_le, lq_gt, lq_lt, lq_eq, jI_lt, jI_le, jI_eq, if_pos, if_neg, e10], by simp (disch := omega) only [iI_lit, jI_lit, iI_neg, jI_neg, iI_add, iI_sub, iI_mul, jI_add, jI_sub, jI_mul, rdI, rdL, iI_lt, iI_le, iI_eq, iI_nat, iI_b2_0, iI_b2_1, mm_bI_some, mm_bV_some, mm_bL_some, mm_bA_some, fd_wL, fd_wR, fl_wI, fl_wR, re_wI, re_wL, re_wC, ite_true, ite_false, not_true_eq_false, not_false_eq_true, lq_ge, lq_le, lq_gt, lq_lt, lq_eq, jI_lt, jI_le, jI_eq, if_pos, if_neg, e40]⟩
    by_cases d2 : a = 2
    · exact ⟨iI (n 0), by simp (disch := omega) only [iI_lit, jI_lit, iI_neg, jI_neg, iI_add, iI_sub, iI_mul, jI_add, jI_sub, jI_mul, rdI, rdL, iI_lt, iI_le, iI_eq, iI_nat, iI_b2_0, iI_b2_1, mm_bI_some, mm_bV_some, mm_bL_some, mm_bA_some, fd_wL, fd_wR, fl_wI, fl_wR, re_wI, re_wL, re_wC, ite_true, ite_false, not_true_eq_false, not_false_eq_true, lq_ge, lq_le, lq_gt, lq_lt, lq_eq, jI_lt, jI_le, jI_eq, if_pos, if_neg, e11], by simp (disch := omega) only [iI_lit, jI_lit, iI_neg, jI_neg, iI_add, iI_sub, iI_mul, jI_add, jI_sub, jI_mul, rdI, rdL, iI_lt, iI_le, iI_eq, iI_nat, iI_b2_0, iI_b2_1, mm_bI_some, mm_bV_some, mm_bL_some, mm_bA_some, fd_wL, fd_wR, fl_wI, fl_wR, re_wI, re_wL, re_wC, ite_true, ite_false, not_true_eq_false, not_false_eq_true, lq_ge, lq_le, lq_gt, lq_lt, lq_eq, jI_lt, jI_le, jI_eq, if_pos, if_neg, e0]⟩
    by_cases d3 : a = 3
    · refine ⟨iI (sumF (fun z => b2 (n (2 + 3 * z) = 0)) 0 pm.toNat), ?_, ?_⟩
      · have s := S_countCurtains (d := d + 36) (h := h) isS_13 (by omega)
        rw [e10, sumF_congr (g := fun z => b2 (n (2 + 3 * z) = 0)) (fun j j1 j2 => by
          have := (w8.2.2.2.1 j j1 (by omega)).2.2.2.1
          show b2 (fd h (13 + 4) j.toNat = 0) = b2 (n (2 + 3 * j) = 0)
          simp only [this])] at s
        simp (disch := omega) only [iI_lit, jI_lit, iI_neg, jI_neg, iI_add, iI_sub, iI_mul, jI_add, jI_sub, jI_mul, rdI, rdL, iI_lt, iI_le, iI_eq, iI_nat, iI_b2_0, iI_b2_1, mm_bI_some, mm_bV_some, mm_bL_some, mm_bA_some, fd_wL, fd_wR, fl_wI, fl_wR, re_wI, re_wL, re_wC, ite_true, ite_false, not_true_eq_false, not_false_eq_true, lq_ge, lq_le, lq_gt, lq_lt, lq_eq, jI_lt, jI_le, jI_eq, if_pos, if_neg, s]
      · have r := R_curtains_4 (d := d + 37) w4 e40 h8 (fun p p1 p2 => (w5.2.2.1 p p1 p2).2.1) pm.toNat 0 0 (by omega) (by omega)
        rw [Int.zero_add] at r
        simp (disch := omega) only [iI_lit, jI_lit, iI_neg, jI_neg, iI_add, iI_sub, iI_mul, jI_add, jI_sub, jI_mul, rdI, rdL, iI_lt, iI_le, iI_eq, iI_nat, iI_b2_0, iI_b2_1, mm_bI_some, mm_bV_some, mm_bL_some, mm_bA_some, fd_wL, fd_wR, fl_wI, fl_wR, re_wI, re_wL, re_wC, ite_true, ite_false, not_true_eq_false, not_false_eq_true, lq_ge, lq_le, lq_gt, lq_lt, lq_eq, jI_lt, jI_le, jI_eq, if_pos, if_neg, U_X12_curtainsNow, r]
    by_cases d4 : a = 4
    · refine ⟨iI (sumF (fun z => n (3 + 3 * z)) 0 pm.toNat), ?_, ?_⟩
      · have s := S_countSparing (d := d + 36) (h := h) isS_13 (by omega)
        rw [e10, sumF_congr (g := fun z => n (3 + 3 * z)) (fun j j1 j2 => (w8.2.2.2.1 j j1 (by omega)).2.2.2.2)] at s
        simp (disch := omega) only [iI_lit, jI_lit, iI_neg, jI_neg, iI_add, iI_sub, iI_mul, jI_add, jI_sub, jI_mul, rdI, rdL, iI_lt, iI_le, iI_eq, iI_nat, iI_b2_0, iI_b2_1, mm_bI_some, mm_bV_some, mm_bL_some, mm_bA_some, fd_wL, fd_wR, fl_wI, fl_wR, re_wI, re_wL, re_wC, ite_true, ite_false, not_true_eq_false, not_false_eq_true, lq_ge, lq_le, lq_gt, lq_lt, lq_eq, jI_lt, jI_le, jI_eq, if_pos, if_neg, s]
      · have r := R_spareMany_4 (d := d + 37) w4 e40 h8 (fun p p1 p2 => (w5.2.2.1 p p1 p2).2.2) pm.toNat 0 0 (by omega) (by omega)
        rw [Int.zero_add] at r
        simp (disch := omega) only [iI_lit, jI_lit, iI_neg, jI_neg, iI_add, iI_sub, iI_mul, jI_add, jI_sub, jI_mul, rdI, rdL, iI_lt, iI_le, iI_eq, iI_nat, iI_b2_0, iI_b2_1, mm_bI_some, mm_bV_some, mm_bL_some, mm_bA_some, fd_wL, fd_wR, fl_wI, fl_wR, re_wI, re_wL, re_wC, ite_true, ite_false, not_true_eq_false, not_false_eq_true, lq_ge, lq_le, lq_gt, lq_lt, lq_eq, jI_lt, jI_le, jI_eq, if_pos, if_neg, U_X12_spareMany, r]
    by_cases d6 : a = 6
    · refine ⟨iI (sumF (fun z => n (2 + 3 * z)) 0 pm.toNat), ?_, ?_⟩
      · have s := S_allLooks (d := d + 36) (h := h) isS_13 (by omega)
        rw [e10, sumF_congr (g := fun z => n (2 + 3 * z)) (fun j j1 j2 => (w8.2.2.2.1 j j1 (by omega)).2.2.2.1)] at s
        simp (disch := omega) only [iI_lit, jI_lit, iI_neg, jI_neg, iI_add, iI_sub, iI_mul, jI_add, jI_sub, jI_mul, rdI, rdL, iI_lt, iI_le, iI_eq, iI_nat, iI_b2_0, iI_b2_1, mm_bI_some, mm_bV_some, mm_bL_some, mm_bA_some, fd_wL, fd_wR, fl_wI, fl_wR, re_wI, re_wL, re_wC, ite_true, ite_false, not_true_eq_false, not_false_eq_true, lq_ge, lq_le, lq_gt, lq_lt, lq_eq, jI_lt, jI_le, jI_eq, if_pos, if_neg, s]
      · have r := R_lookAll (d := d + 37) w4 e40 h8
        simp (disch := omega) only [iI_lit, jI_lit, iI_neg, jI_neg, iI_add, iI_sub, iI_mul, jI_add, jI_sub, jI_mul, rdI, rdL, iI_lt, iI_le, iI_eq, iI_nat, iI_b2_0, iI_b2_1, mm_bI_some, mm_bV_some, mm_bL_some, mm_bA_some, fd_wL, fd_wR, fl_wI, fl_wR, re_wI, re_wL, re_wC, ite_true, ite_false, not_true_eq_false, not_false_eq_true, lq_ge, lq_le, lq_gt, lq_lt, lq_eq, jI_lt, jI_le, jI_eq, if_pos, if_neg, r]
    by_cases d7 : a = 7
    · obtain ⟨⟨k1, _⟩, ⟨k2, _⟩, k3, k4⟩ := w10
      have em : min (ev.length : Int) 40 = ((min ev.length 40 : Nat) : Int) := by omega
      refine ⟨iI ((min ev.length 40 : Nat) : Int), ?_, ?_⟩
      · simp (disch := omega) only [iI_lit, jI_lit, iI_neg, jI_neg, iI_add, iI_sub, iI_mul, jI_add, jI_sub, jI_mul, rdI, rdL, iI_lt, iI_le, iI_eq, iI_nat, iI_b2_0, iI_b2_1, mm_bI_some, mm_bV_some, mm_bL_some, mm_bA_some, fd_wL, fd_wR, fl_wI, fl_wR, re_wI, re_wL, re_wC, ite_true, ite_false, not_true_eq_false, not_false_eq_true, lq_ge, lq_le, lq_gt, lq_lt, lq_eq, jI_lt, jI_le, jI_eq, if_pos, if_neg, U_X7_countKept isS_13, k1, J_min, em]
      · have k2 : fd h 300 89 = ((min ev.length 40 : Nat) : Int) := k2
        simp (disch := omega) only [iI_lit, jI_lit, iI_neg, jI_neg, iI_add, iI_sub, iI_mul, jI_add, jI_sub, jI_mul, rdI, rdL, iI_lt, iI_le, iI_eq, iI_nat, iI_b2_0, iI_b2_1, mm_bI_some, mm_bV_some, mm_bL_some, mm_bA_some, fd_wL, fd_wR, fl_wI, fl_wR, re_wI, re_wL, re_wC, ite_true, ite_false, not_true_eq_false, not_false_eq_true, lq_ge, lq_le, lq_gt, lq_lt, lq_eq, jI_lt, jI_le, jI_eq, if_pos, if_neg, k2]
    by_cases d8 : a = 8
    · have z := S.1
      exact ⟨iI (fd h 264 67), by simp (disch := omega) only [iI_lit, jI_lit, iI_neg, jI_neg, iI_add, iI_sub, iI_mul, jI_add, jI_sub, jI_mul, rdI, rdL, iI_lt, iI_le, iI_eq, iI_nat, iI_b2_0, iI_b2_1, mm_bI_some, mm_bV_some, mm_bL_some, mm_bA_some, fd_wL, fd_wR, fl_wI, fl_wR, re_wI, re_wL, re_wC, ite_true, ite_false, not_true_eq_false, not_false_eq_true, lq_ge, lq_le, lq_gt, lq_lt, lq_eq, jI_lt, jI_le, jI_eq, if_pos, if_neg, U_X0_countSeen, z], by simp (disch := omega) only [iI_lit, jI_lit, iI_neg, jI_neg, iI_add, iI_sub, iI_mul, jI_add, jI_sub, jI_mul, rdI, rdL, iI_lt, iI_le, iI_eq, iI_nat, iI_b2_0, iI_b2_1, mm_bI_some, mm_bV_some, mm_bL_some, mm_bA_some, fd_wL, fd_wR, fl_wI, fl_wR, re_wI, re_wL, re_wC, ite_true, ite_false, not_true_eq_false, not_false_eq_true, lq_ge, lq_le, lq_gt, lq_lt, lq_eq, jI_lt, jI_le, jI_eq, if_pos, if_neg]⟩
    by_cases d9 : a = 9
    · have z1 := H.2.1
      have z2 := H.2.2.1
      exact ⟨iI (past.length : Int), by simp (disch := omega) only [iI_lit, jI_lit, iI_neg, jI_neg, iI_add, iI_sub, iI_mul, jI_add, jI_sub, jI_mul, rdI, rdL, iI_lt, iI_le, iI_eq, iI_nat, iI_b2_0, iI_b2_1, mm_bI_some, mm_bV_some, mm_bL_some, mm_bA_some, fd_wL, fd_wR, fl_wI, fl_wR, re_wI, re_wL, re_wC, ite_true, ite_false, not_true_eq_false, not_false_eq_true, lq_ge, lq_le, lq_gt, lq_lt, lq_eq, jI_lt, jI_le, jI_eq, if_pos, if_neg, U_X3_size, z1], by simp (disch := omega) only [iI_lit, jI_lit, iI_neg, jI_neg, iI_add, iI_sub, iI_mul, jI_add, jI_sub, jI_mul, rdI, rdL, iI_lt, iI_le, iI_eq, iI_nat, iI_b2_0, iI_b2_1, mm_bI_some, mm_bV_some, mm_bL_some, mm_bA_some, fd_wL, fd_wR, fl_wI, fl_wR, re_wI, re_wL, re_wC, ite_true, ite_false, not_true_eq_false, not_false_eq_true, lq_ge, lq_le, lq_gt, lq_lt, lq_eq, jI_lt, jI_le, jI_eq, if_pos, if_neg, z2]⟩
    · exact ⟨iI (-1), by simp (disch := omega) only [iI_lit, jI_lit, iI_neg, jI_neg, iI_add, iI_sub, iI_mul, jI_add, jI_sub, jI_mul, rdI, rdL, iI_lt, iI_le, iI_eq, iI_nat, iI_b2_0, iI_b2_1, mm_bI_some, mm_bV_some, mm_bL_some, mm_bA_some, fd_wL, fd_wR, fl_wI, fl_wR, re_wI, re_wL, re_wC, ite_true, ite_false, not_true_eq_false, not_false_eq_true, lq_ge, lq_le, lq_gt, lq_lt, lq_eq, jI_lt, jI_le, jI_eq, if_pos, if_neg], by simp (disch := omega) only [iI_lit, jI_lit, iI_neg, jI_neg, iI_add, iI_sub, iI_mul, jI_add, jI_sub, jI_mul, rdI, rdL, iI_lt, iI_le, iI_eq, iI_nat, iI_b2_0, iI_b2_1, mm_bI_some, mm_bV_some, mm_bL_some, mm_bA_some, fd_wL, fd_wR, fl_wI, fl_wR, re_wI, re_wL, re_wC, ite_true, ite_false, not_true_eq_false, not_false_eq_true, lq_ge, lq_le, lq_gt, lq_lt, lq_eq, jI_lt, jI_le, jI_eq, if_pos, if_neg]⟩
set_option maxHeartbeats 8000000 in
theorem K_paints (al : -2147483648 ≤ a) (au : a < 2147483648) (bl : -2147483648 ≤ b) (bu : b < 2147483648) : CallI 157 250 [.int (iI a), .int (iI b)] := by
  intro d h i I hi
  have I0 := I
  obtain ⟨t, st, pm, hm, fc, kd, cp, cm, cf, n, ev, past, M, W, H, S, P, N⟩ := I
  have W0 := W
  obtain ⟨w1, w2, w3, w4, w5, w6, w7, w8, w9, w10, w11, w12, w13⟩ := W
  have tt := isT_or w1.1
  have h8 := w5.1
  have h9 := w5.2.1
  have e40 : fd h 264 40 = pm := w3.1
  have e10 : fd h 13 10 = pm := w8.1
  by_cases c0 : (0 ≤ a ∧ a < pm) ∧ (b = 0 ∨ b = 1)
  · have st1 : st = 1 := by have := w2.1; have := w2.2.2.2.1; omega
    have mn := C_nb (d := d + 36) isS_13 w8 w5 c0.1.1 c0.1.2 c0.2
    have hh := w5.2.2.1 a c0.1.1 c0.1.2
    have r1 := w4 (1 + 3 * a) (by omega) (by omega)
    have bq := nb_b (s := a) (side := b) w5
    have nbR : ∀ g : mm_H, RepR g n → fd g 264 40 = pm → ∀ d, mm_M mm_T0 (d + 4) 225 [.ref 264, .int (iI a), .int (iI b)] g = some (some (.int (iI (nb n pm a b))), g) := by
      intro g rg eg d
      have q1 := rg (1 + 3 * a) (by omega) (by omega)
      rw [R_neighbour (by omega) (by omega) (by omega) (by omega) (by omega) (by omega) (by rw [q1]; omega), eg]
      have en : nb (nw g) pm a b = nb n pm a b := by
        unfold nb
        rw [q1]
        exact who_congr (fun j j1 j2 => rg _ (by omega) (by omega))
      rw [en]
    by_cases c1 : nb n pm a b = -1
    · refine ⟨iI (-1), h, h, ?_, ?_, I0.next hi⟩
      · rw [c1] at mn
        rw [U_X11_paints]
        simp (disch := omega) only [iI_lit, jI_lit, iI_neg, jI_neg, iI_add, iI_sub, iI_mul, jI_add, jI_sub, jI_mul, rdI, rdL, iI_lt, iI_le, iI_eq, iI_nat, iI_b2_0, iI_b2_1, mm_bI_some, mm_bV_some, mm_bL_some, mm_bA_some, fd_wL, fd_wR, fl_wI, fl_wR, re_wI, re_wL, re_wC, ite_true, ite_false, not_true_eq_false, not_false_eq_true, lq_ge, lq_le, lq_gt, lq_lt, lq_eq, jI_lt, jI_le, jI_eq, if_pos, if_neg, mn]
      · have r := nbR h w4 e40 (d + 35)
        rw [c1] at r
        rw [U_X12_paints, iI_jI al au, iI_jI bl bu]
        simp (disch := omega) only [iI_lit, jI_lit, iI_neg, jI_neg, iI_add, iI_sub, iI_mul, jI_add, jI_sub, jI_mul, rdI, rdL, iI_lt, iI_le, iI_eq, iI_nat, iI_b2_0, iI_b2_1, mm_bI_some, mm_bV_some, mm_bL_some, mm_bA_some, fd_wL, fd_wR, fl_wI, fl_wR, re_wI, re_wL, re_wC, ite_true, ite_false, not_true_eq_false, not_false_eq_true, lq_ge, lq_le, lq_gt, lq_lt, lq_eq, jI_lt, jI_le, jI_eq, if_pos, if_neg, R_isPerson, e40, R_isIn, r]
    · have bq : 0 ≤ nb n pm a b ∧ nb n pm a b < pm ∧ nb n pm a b ≠ a := by omega
      generalize hq : nb n pm a b = q at *
      obtain ⟨g1, a1, a2, a3⟩ := C_setP (d := d + 35) (side := b) w1.1 isS_13 w8 w5 w6 (by omega) c0.1.1 c0.1.2 bq.1 bq.2.1 bq.2.2 c0.2
      have hfp := w6 a c0.1.1 c0.1.2
      have hfq := w6 q bq.1 bq.2.1
      have gb := Gp_b (side := b) hfp.1 hfq.2 (w5.2.2.2.1 q a bq.1 bq.2.1 c0.1.1 c0.1.2 bq.2.2) (show 0 ≤ n 0 ∧ n 0 ≤ 2000 by omega) hh.2.1 c0.2
      have C1 : CT g1 t cp cm cf := (w2.2.2.2.2 st1).kf3 a3 (by intro a j; unfold NC QW; omega)
      obtain ⟨g2, b1, b2'⟩ := C_rule (d := d + 35) (s := 13) w1.1 isS_13 (by omega) (by omega) C1.1 (by rw [a3.1 13 10 (by unfold QW; omega)]; omega) gb a2
      have vb := evv_b (O := O0) gb (fun _ _ => by unfold O0; omega) C1.1.1
      have k2 : Kf (fun a k => QW t a k ∨ QP a k) LE3 h g2 := (a3.trans b2').mono (fun a k q => Or.inl q) (fun a k q => q.elim)
      have vb' : -1000000 ≤ evv (Gp fc kd n a q b) O0 cp ∧ evv (Gp fc kd n a q b) O0 cp ≤ 1000000 := by
        unfold vk at vb
        revert vb
        repeat' split
        all_goals omega
      have R2 : RepR g2 n := w4.kf k2 (by intro j hj; unfold QW QP; omega)
      have T2 : RT g2 pm hm fc kd cp cm cf := w3.kf2 k2 (by intro a j; unfold NR QW QP; omega)
      have f2 := T2.2.2.1
      obtain ⟨h3, r1', r2'⟩ := R_painted (d := d + 35) (side := b) R2 T2.2.2.2.1 c0.1.1 (by omega) bq.1 (by omega) (f2 a c0.1.1 c0.1.2).1 (f2 q bq.1 bq.2.1).2 hfp.1 hfq.2 (w5.2.2.2.1 q a bq.1 bq.2.1 c0.1.1 c0.1.2 bq.2.2) (by omega) hh.2.1 c0.2
      refine ⟨iI (paint cp fc kd n a q b), g2, h3, ?_, ?_, Inv.scr2 M W0 H S P N (k2.trans (r2'.monoQ (fun a k q => Or.inr q))) hi⟩
      · have rt := w1.2.1
        have sh := sh_T w1.1
        have cw := fun d => C_within (d := d) (h := g2) (v := evv (Gp fc kd n a q b) O0 cp) (m := 99) (by omega) (by omega) (by omega) (by omega)
        rw [U_X11_paints]
        simp (disch := omega) only [iI_lit, jI_lit, iI_neg, jI_neg, iI_add, iI_sub, iI_mul, jI_add, jI_sub, jI_mul, rdI, rdL, iI_lt, iI_le, iI_eq, iI_nat, iI_b2_0, iI_b2_1, mm_bI_some, mm_bV_some, mm_bL_some, mm_bA_some, fd_wL, fd_wR, fl_wI, fl_wR, re_wI, re_wL, re_wC, ite_true, ite_false, not_true_eq_false, not_false_eq_true, lq_ge, lq_le, lq_gt, lq_lt, lq_eq, jI_lt, jI_le, jI_eq, if_pos, if_neg, mn, rt, sh, U_X10_paintedLook w1.1 isS_13, a1, b1, cw]
        rfl
      · have r := nbR g2 R2 T2.1 (d + 35)
        have f40 := T2.1
        rw [U_X12_paints, iI_jI al au, iI_jI bl bu]
        simp (disch := omega) only [iI_lit, jI_lit, iI_neg, jI_neg, iI_add, iI_sub, iI_mul, jI_add, jI_sub, jI_mul, rdI, rdL, iI_lt, iI_le, iI_eq, iI_nat, iI_b2_0, iI_b2_1, mm_bI_some, mm_bV_some, mm_bL_some, mm_bA_some, fd_wL, fd_wR, fl_wI, fl_wR, re_wI, re_wL, re_wC, ite_true, ite_false, not_true_eq_false, not_false_eq_true, lq_ge, lq_le, lq_gt, lq_lt, lq_eq, jI_lt, jI_le, jI_eq, if_pos, if_neg, R_isPerson, f40, R_isIn, r, r1']
  · refine ⟨iI (-1), h, h, ?_, ?_, I0.next hi⟩
    · rw [U_X11_paints, U_X7_neighbourOf isS_13]
      by_cases z : 0 ≤ a ∧ a < pm
      · by_cases z2 : b < 0 <;> simp (disch := omega) only [iI_lit, jI_lit, iI_neg, jI_neg, iI_add, iI_sub, iI_mul, jI_add, jI_sub, jI_mul, rdI, rdL, iI_lt, iI_le, iI_eq, iI_nat, iI_b2_0, iI_b2_1, mm_bI_some, mm_bV_some, mm_bL_some, mm_bA_some, fd_wL, fd_wR, fl_wI, fl_wR, re_wI, re_wL, re_wC, ite_true, ite_false, not_true_eq_false, not_false_eq_true, lq_ge, lq_le, lq_gt, lq_lt, lq_eq, jI_lt, jI_le, jI_eq, if_pos, if_neg, S_isPerson isS_13, e10]
      · simp (disch := omega) only [iI_lit, jI_lit, iI_neg, jI_neg, iI_add, iI_sub, iI_mul, jI_add, jI_sub, jI_mul, rdI, rdL, iI_lt, iI_le, iI_eq, iI_nat, iI_b2_0, iI_b2_1, mm_bI_some, mm_bV_some, mm_bL_some, mm_bA_some, fd_wL, fd_wR, fl_wI, fl_wR, re_wI, re_wL, re_wC, ite_true, ite_false, not_true_eq_false, not_false_eq_true, lq_ge, lq_le, lq_gt, lq_lt, lq_eq, jI_lt, jI_le, jI_eq, if_pos, if_neg, S_isPerson isS_13, e10]
    · rw [U_X12_paints, iI_jI al au, iI_jI bl bu]
      by_cases z : 0 ≤ a ∧ a < pm <;> simp (disch := omega) only [iI_lit, jI_lit, iI_neg, jI_neg, iI_add, iI_sub, iI_mul, jI_add, jI_sub, jI_mul, rdI, rdL, iI_lt, iI_le, iI_eq, iI_nat, iI_b2_0, iI_b2_1, mm_bI_some, mm_bV_some, mm_bL_some, mm_bA_some, fd_wL, fd_wR, fl_wI, fl_wR, re_wI, re_wL, re_wC, ite_true, ite_false, not_true_eq_false, not_false_eq_true, lq_ge, lq_le, lq_gt, lq_lt, lq_eq, jI_lt, jI_le, jI_eq, if_pos, if_neg, R_isPerson, e40, R_isIn]
set_option maxHeartbeats 8000000 in
theorem K_feud (al : -2147483648 ≤ a) (au : a < 2147483648) : CallI 158 251 [.int (iI a)] := by
  intro d h i I hi
  have I0 := I
  obtain ⟨t, st, pm, hm, fc, kd, cp, cm, cf, n, ev, past, M, W, H, S, P, N⟩ := I
  have W0 := W
  obtain ⟨w1, w2, w3, w4, w5, w6, w7, w8, w9, w10, w11, w12, w13⟩ := W
  have tt := isT_or w1.1
  have h8 := w5.1
  have h9 := w5.2.1
  have e40 : fd h 264 40 = pm := w3.1
  have e38 : fd h 264 38 = hm := w3.2.1
  have e53 : fd h 264 53 = st := w2.2.2.1
  have st1 := w2.1
  have st0 := w2.2.2.2.1
  have b1 := who_b (n := n) (h := a) h8.1
  have b2' := who_b (n := n) (h := a + 1) h8.1
  have ca := fun d => C_who (d := d) isS_13 w8 w5 (a := a) al au
  by_cases c0 : 0 ≤ a ∧ a < hm - 1
  · have cb := fun d => C_who (d := d) isS_13 w8 w5 (a := a + 1) (by omega) (by omega)
    by_cases c1 : who n pm a = -1 ∨ who n pm (a + 1) = -1
    · obtain ⟨h2, q1, q2⟩ := R_feudAt (d := d + 34) w3 w4 w5 w6 (by omega) c0.1 (by omega)
      rw [if_pos c1] at q1
      refine ⟨iI (-1), h, h2, ?_, ?_, Inv.scr2 M W0 H S P N (q2.monoQ (fun a k q => Or.inr q)) hi⟩
      · rw [U_X11_feud]
        by_cases c2 : who n pm a = -1 <;> simp (disch := omega) only [iI_lit, jI_lit, iI_neg, jI_neg, iI_add, iI_sub, iI_mul, jI_add, jI_sub, jI_mul, rdI, rdL, iI_lt, iI_le, iI_eq, iI_nat, iI_b2_0, iI_b2_1, mm_bI_some, mm_bV_some, mm_bL_some, mm_bA_some, fd_wL, fd_wR, fl_wI, fl_wR, re_wI, re_wL, re_wC, ite_true, ite_false, not_true_eq_false, not_false_eq_true, lq_ge, lq_le, lq_gt, lq_lt, lq_eq, jI_lt, jI_le, jI_eq, if_pos, if_neg, ca, cb]
      · rw [U_X12_feud]
        simp (disch := omega) only [iI_lit, jI_lit, iI_neg, jI_neg, iI_add, iI_sub, iI_mul, jI_add, jI_sub, jI_mul, rdI, rdL, iI_lt, iI_le, iI_eq, iI_nat, iI_b2_0, iI_b2_1, mm_bI_some, mm_bV_some, mm_bL_some, mm_bA_some, fd_wL, fd_wR, fl_wI, fl_wR, re_wI, re_wL, re_wC, ite_true, ite_false, not_true_eq_false, not_false_eq_true, lq_ge, lq_le, lq_gt, lq_lt, lq_eq, jI_lt, jI_le, jI_eq, if_pos, if_neg, R_isHouse, e38, e53, q1]
    · have w := who_ne w5 (fun e => c1 (Or.inl e)) (fun e => c1 (Or.inr e))
      obtain ⟨h1, m1, m2⟩ := C_isFeud (d := d + 35) w1.1 isS_13 (w2.2.2.2.2 (by omega)) w8 w5 w6 (by omega) w.1.1 w.1.2 w.2.1.1 w.2.1.2 w.2.2
      have k1 : Kf (fun a k => QW t a k ∨ QP a k) LE3 h h1 := m2.mono (fun a k q => Or.inl q) (fun a k q => q.elim)
      have T1 : RT h1 pm hm fc kd cp cm cf := w3.kf2 m2 (by intro a j; unfold NR QW; omega)
      have R1 : RepR h1 n := w4.kf m2 (by intro j hj; unfold QW; omega)
      obtain ⟨h2, q1, q2⟩ := R_feudAt (d := d + 34) T1 R1 w5 w6 (by omega) c0.1 (by omega)
      rw [if_neg c1] at q1
      refine ⟨iI (fzS cf fc kd n (who n pm a) (who n pm (a + 1))), h1, h2, ?_, ?_, Inv.scr2 M W0 H S P N (k1.trans (q2.monoQ (fun a k q => Or.inr q))) hi⟩
      · have rt := w1.2.1
        have sh := sh_T w1.1
        have fb := fzS_b (cf := cf) (fc := fc) (kd := kd) (n := n) (a := who n pm a) (b := who n pm (a + 1))
        rw [U_X11_feud]
        by_cases z : fzS cf fc kd n (who n pm a) (who n pm (a + 1)) = 0
        · rw [z] at m1 ⊢
          simp (disch := omega) only [iI_lit, jI_lit, iI_neg, jI_neg, iI_add, iI_sub, iI_mul, jI_add, jI_sub, jI_mul, rdI, rdL, iI_lt, iI_le, iI_eq, iI_nat, iI_b2_0, iI_b2_1, mm_bI_some, mm_bV_some, mm_bL_some, mm_bA_some, fd_wL, fd_wR, fl_wI, fl_wR, re_wI, re_wL, re_wC, ite_true, ite_false, not_true_eq_false, not_false_eq_true, lq_ge, lq_le, lq_gt, lq_lt, lq_eq, jI_lt, jI_le, jI_eq, if_pos, if_neg, ca, cb, rt, sh, m1]
        · have z : fzS cf fc kd n (who n pm a) (who n pm (a + 1)) = 1 := by omega
          rw [z] at m1 ⊢
          simp (disch := omega) only [iI_lit, jI_lit, iI_neg, jI_neg, iI_add, iI_sub, iI_mul, jI_add, jI_sub, jI_mul, rdI, rdL, iI_lt, iI_le, iI_eq, iI_nat, iI_b2_0, iI_b2_1, mm_bI_some, mm_bV_some, mm_bL_some, mm_bA_some, fd_wL, fd_wR, fl_wI, fl_wR, re_wI, re_wL, re_wC, ite_true, ite_false, not_true_eq_false, not_false_eq_true, lq_ge, lq_le, lq_gt, lq_lt, lq_eq, jI_lt, jI_le, jI_eq, if_pos, if_neg, ca, cb, rt, sh, m1]
      · have f38 : fd h1 264 38 = hm := T1.2.1
        have f53 : fd h1 264 53 = st := (m2.1 _ _ (by unfold QW; omega)).trans e53
        rw [U_X12_feud]
        simp (disch := omega) only [iI_lit, jI_lit, iI_neg, jI_neg, iI_add, iI_sub, iI_mul, jI_add, jI_sub, jI_mul, rdI, rdL, iI_lt, iI_le, iI_eq, iI_nat, iI_b2_0, iI_b2_1, mm_bI_some, mm_bV_some, mm_bL_some, mm_bA_some, fd_wL, fd_wR, fl_wI, fl_wR, re_wI, re_wL, re_wC, ite_true, ite_false, not_true_eq_false, not_false_eq_true, lq_ge, lq_le, lq_gt, lq_lt, lq_eq, jI_lt, jI_le, jI_eq, if_pos, if_neg, R_isHouse, f38, f53, q1]
  · refine ⟨iI (-1), h, h, ?_, ?_, I0.next hi⟩
    · rw [U_X11_feud]
      by_cases c2 : who n pm a = -1
      · simp (disch := omega) only [iI_lit, jI_lit, iI_neg, jI_neg, iI_add, iI_sub, iI_mul, jI_add, jI_sub, jI_mul, rdI, rdL, iI_lt, iI_le, iI_eq, iI_nat, iI_b2_0, iI_b2_1, mm_bI_some, mm_bV_some, mm_bL_some, mm_bA_some, fd_wL, fd_wR, fl_wI, fl_wR, re_wI, re_wL, re_wC, ite_true, ite_false, not_true_eq_false, not_false_eq_true, lq_ge, lq_le, lq_gt, lq_lt, lq_eq, jI_lt, jI_le, jI_eq, if_pos, if_neg, ca]
      · have ha := w5.2.2.1 (who n pm a) (by omega) (by omega)
        have cb := fun d => C_who (d := d) isS_13 w8 w5 (a := a + 1) (by omega) (by omega)
        have z : who n pm (a + 1) = -1 := who_out w5 (by omega)
        rw [z] at cb
        simp (disch := omega) only [iI_lit, jI_lit, iI_neg, jI_neg, iI_add, iI_sub, iI_mul, jI_add, jI_sub, jI_mul, rdI, rdL, iI_lt, iI_le, iI_eq, iI_nat, iI_b2_0, iI_b2_1, mm_bI_some, mm_bV_some, mm_bL_some, mm_bA_some, fd_wL, fd_wR, fl_wI, fl_wR, re_wI, re_wL, re_wC, ite_true, ite_false, not_true_eq_false, not_false_eq_true, lq_ge, lq_le, lq_gt, lq_lt, lq_eq, jI_lt, jI_le, jI_eq, if_pos, if_neg, ca, cb]
    · rw [U_X12_feud]
      by_cases z : 0 ≤ a ∧ a < hm <;> simp (disch := omega) only [iI_lit, jI_lit, iI_neg, jI_neg, iI_add, iI_sub, iI_mul, jI_add, jI_sub, jI_mul, rdI, rdL, iI_lt, iI_le, iI_eq, iI_nat, iI_b2_0, iI_b2_1, mm_bI_some, mm_bV_some, mm_bL_some, mm_bA_some, fd_wL, fd_wR, fl_wI, fl_wR, re_wI, re_wL, re_wC, ite_true, ite_false, not_true_eq_false, not_false_eq_true, lq_ge, lq_le, lq_gt, lq_lt, lq_eq, jI_lt, jI_le, jI_eq, if_pos, if_neg, R_isHouse, e38, e53]
end HAS
