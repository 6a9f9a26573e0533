/-! scenes of the class: what is read off them -/
section SCENE
variable {d s : Nat} {h : mm_H} {p q x y : Int}
theorem S_isHouse (hs : mm_isS s) (h1 : -2147483648 ≤ p) (h2 : p < 2147483648) : mm_M mm_T0 (d + 1) 101 [.ref s, .int (iI p)] h = some (some (.int (iI (b2 (0 ≤ p ∧ p < fd h s 9 ∧ p < 9)))), h) := by
  have := fd_lo h s 9; have := fd_hi h s 9
  rw [U_X7_isHouse hs]
  simp (disch := omega) only [iI_lit, jI_lit, iI_neg, jI_neg, iI_add, iI_sub, iI_mul, jI_add, jI_sub, jI_mul, rdI, rdL, iI_lt, iI_le, iI_eq, iI_nat, iI_b2_0, iI_b2_1, mm_bI_some, mm_bV_some, mm_bL_some, mm_bA_some, fd_wL, fd_wR, fl_wI, fl_wR, re_wI, re_wL, re_wC, ite_true, ite_false, not_true_eq_false, not_false_eq_true, lq_ge, lq_le, lq_gt, lq_lt, lq_eq, jI_lt, jI_le, jI_eq]
  unfold b2
  repeat' split
  all_goals first | rfl | (exfalso; omega)
theorem S_isPerson (hs : mm_isS s) (h1 : -2147483648 ≤ p) (h2 : p < 2147483648) : mm_M mm_T0 (d + 1) 102 [.ref s, .int (iI p)] h = some (some (.int (iI (b2 (0 ≤ p ∧ p < fd h s 10 ∧ p < 8)))), h) := by
  have := fd_lo h s 10; have := fd_hi h s 10
  rw [U_X7_isPerson hs]
  simp (disch := omega) only [iI_lit, jI_lit, iI_neg, jI_neg, iI_add, iI_sub, iI_mul, jI_add, jI_sub, jI_mul, rdI, rdL, iI_lt, iI_le, iI_eq, iI_nat, iI_b2_0, iI_b2_1, mm_bI_some, mm_bV_some, mm_bL_some, mm_bA_some, fd_wL, fd_wR, fl_wI, fl_wR, re_wI, re_wL, re_wC, ite_true, ite_false, not_true_eq_false, not_false_eq_true, lq_ge, lq_le, lq_gt, lq_lt, lq_eq, jI_lt, jI_le, jI_eq]
  unfold b2
  repeat' split
  all_goals first | rfl | (exfalso; omega)
theorem S_arePair (hs : mm_isS s) (h1 : -2147483648 ≤ p) (h2 : p < 2147483648) (h3 : -2147483648 ≤ q) (h4 : q < 2147483648) : mm_M mm_T0 (d + 2) 103 [.ref s, .int (iI p), .int (iI q)] h = some (some (.int (iI (b2 ((0 ≤ p ∧ p < fd h s 10 ∧ p < 8) ∧ (0 ≤ q ∧ q < fd h s 10 ∧ q < 8) ∧ p ≠ q)))), h) := by
  rw [U_X7_arePair hs, S_isPerson hs h1 h2, mm_bI_some, S_isPerson hs h3 h4, mm_bI_some]
  simp (disch := omega) only [iI_lit, jI_lit, iI_neg, jI_neg, iI_add, iI_sub, iI_mul, jI_add, jI_sub, jI_mul, rdI, rdL, iI_lt, iI_le, iI_eq, iI_nat, iI_b2_0, iI_b2_1, mm_bI_some, mm_bV_some, mm_bL_some, mm_bA_some, fd_wL, fd_wR, fl_wI, fl_wR, re_wI, re_wL, re_wC, ite_true, ite_false, not_true_eq_false, not_false_eq_true, lq_ge, lq_le, lq_gt, lq_lt, lq_eq, jI_lt, jI_le, jI_eq]
  unfold b2
  repeat' split
  all_goals first | rfl | (exfalso; omega)
theorem S_lodgerAt (hs : mm_isS s) (h1 : -2147483648 ≤ p) (h2 : p < 2147483648) : mm_M mm_T0 (d + 2) 104 [.ref s, .int (iI p)] h = some (some (.int (iI (if 0 ≤ p ∧ p < fd h s 9 ∧ p < 9 then fd h (s + 7) p.toNat else -1))), h) := by
  rw [U_X7_lodgerAt hs, S_isHouse hs h1 h2, mm_bI_some]
  by_cases c : 0 ≤ p ∧ p < fd h s 9 ∧ p < 9 <;> simp (disch := omega) only [iI_lit, jI_lit, iI_neg, jI_neg, iI_add, iI_sub, iI_mul, jI_add, jI_sub, jI_mul, rdI, rdL, iI_lt, iI_le, iI_eq, iI_nat, iI_b2_0, iI_b2_1, mm_bI_some, mm_bV_some, mm_bL_some, mm_bA_some, fd_wL, fd_wR, fl_wI, fl_wR, re_wI, re_wL, re_wC, ite_true, ite_false, not_true_eq_false, not_false_eq_true, lq_ge, lq_le, lq_gt, lq_lt, lq_eq, jI_lt, jI_le, jI_eq, if_pos, if_neg]
theorem S_homeOf (hs : mm_isS s) (h1 : -2147483648 ≤ p) (h2 : p < 2147483648) : mm_M mm_T0 (d + 2) 105 [.ref s, .int (iI p)] h = some (some (.int (iI (if 0 ≤ p ∧ p < fd h s 10 ∧ p < 8 then fd h (s + 3) p.toNat else -1))), h) := by
  rw [U_X7_homeOf hs, S_isPerson hs h1 h2, mm_bI_some]
  by_cases c : 0 ≤ p ∧ p < fd h s 10 ∧ p < 8 <;> simp (disch := omega) only [iI_lit, jI_lit, iI_neg, jI_neg, iI_add, iI_sub, iI_mul, jI_add, jI_sub, jI_mul, rdI, rdL, iI_lt, iI_le, iI_eq, iI_nat, iI_b2_0, iI_b2_1, mm_bI_some, mm_bV_some, mm_bL_some, mm_bA_some, fd_wL, fd_wR, fl_wI, fl_wR, re_wI, re_wL, re_wC, ite_true, ite_false, not_true_eq_false, not_false_eq_true, lq_ge, lq_le, lq_gt, lq_lt, lq_eq, jI_lt, jI_le, jI_eq, if_pos, if_neg]
theorem S_lookOf (hs : mm_isS s) (h1 : -2147483648 ≤ p) (h2 : p < 2147483648) : mm_M mm_T0 (d + 2) 106 [.ref s, .int (iI p)] h = some (some (.int (iI (if 0 ≤ p ∧ p < fd h s 10 ∧ p < 8 then fd h (s + 4) p.toNat else 0))), h) := by
  rw [U_X7_lookOf hs, S_isPerson hs h1 h2, mm_bI_some]
  by_cases c : 0 ≤ p ∧ p < fd h s 10 ∧ p < 8 <;> simp (disch := omega) only [iI_lit, jI_lit, iI_neg, jI_neg, iI_add, iI_sub, iI_mul, jI_add, jI_sub, jI_mul, rdI, rdL, iI_lt, iI_le, iI_eq, iI_nat, iI_b2_0, iI_b2_1, mm_bI_some, mm_bV_some, mm_bL_some, mm_bA_some, fd_wL, fd_wR, fl_wI, fl_wR, re_wI, re_wL, re_wC, ite_true, ite_false, not_true_eq_false, not_false_eq_true, lq_ge, lq_le, lq_gt, lq_lt, lq_eq, jI_lt, jI_le, jI_eq, if_pos, if_neg]
theorem S_faceOf (hs : mm_isS s) (h1 : -2147483648 ≤ p) (h2 : p < 2147483648) : mm_M mm_T0 (d + 2) 107 [.ref s, .int (iI p)] h = some (some (.int (iI (if 0 ≤ p ∧ p < fd h s 10 ∧ p < 8 then fd h (s + 1) p.toNat else 0))), h) := by
  rw [U_X7_faceOf hs, S_isPerson hs h1 h2, mm_bI_some]
  by_cases c : 0 ≤ p ∧ p < fd h s 10 ∧ p < 8 <;> simp (disch := omega) only [iI_lit, jI_lit, iI_neg, jI_neg, iI_add, iI_sub, iI_mul, jI_add, jI_sub, jI_mul, rdI, rdL, iI_lt, iI_le, iI_eq, iI_nat, iI_b2_0, iI_b2_1, mm_bI_some, mm_bV_some, mm_bL_some, mm_bA_some, fd_wL, fd_wR, fl_wI, fl_wR, re_wI, re_wL, re_wC, ite_true, ite_false, not_true_eq_false, not_false_eq_true, lq_ge, lq_le, lq_gt, lq_lt, lq_eq, jI_lt, jI_le, jI_eq, if_pos, if_neg]
theorem S_kindOf (hs : mm_isS s) (h1 : -2147483648 ≤ p) (h2 : p < 2147483648) : mm_M mm_T0 (d + 2) 108 [.ref s, .int (iI p)] h = some (some (.int (iI (if 0 ≤ p ∧ p < fd h s 10 ∧ p < 8 then fd h (s + 2) p.toNat else 0))), h) := by
  rw [U_X7_kindOf hs, S_isPerson hs h1 h2, mm_bI_some]
  by_cases c : 0 ≤ p ∧ p < fd h s 10 ∧ p < 8 <;> simp (disch := omega) only [iI_lit, jI_lit, iI_neg, jI_neg, iI_add, iI_sub, iI_mul, jI_add, jI_sub, jI_mul, rdI, rdL, iI_lt, iI_le, iI_eq, iI_nat, iI_b2_0, iI_b2_1, mm_bI_some, mm_bV_some, mm_bL_some, mm_bA_some, fd_wL, fd_wR, fl_wI, fl_wR, re_wI, re_wL, re_wC, ite_true, ite_false, not_true_eq_false, not_false_eq_true, lq_ge, lq_le, lq_gt, lq_lt, lq_eq, jI_lt, jI_le, jI_eq, if_pos, if_neg]
theorem S_sparingOf (hs : mm_isS s) (h1 : -2147483648 ≤ p) (h2 : p < 2147483648) : mm_M mm_T0 (d + 2) 109 [.ref s, .int (iI p)] h = some (some (.int (iI (if 0 ≤ p ∧ p < fd h s 10 ∧ p < 8 then fd h (s + 5) p.toNat else 0))), h) := by
  rw [U_X7_sparingOf hs, S_isPerson hs h1 h2, mm_bI_some]
  by_cases c : 0 ≤ p ∧ p < fd h s 10 ∧ p < 8 <;> simp (disch := omega) only [iI_lit, jI_lit, iI_neg, jI_neg, iI_add, iI_sub, iI_mul, jI_add, jI_sub, jI_mul, rdI, rdL, iI_lt, iI_le, iI_eq, iI_nat, iI_b2_0, iI_b2_1, mm_bI_some, mm_bV_some, mm_bL_some, mm_bA_some, fd_wL, fd_wR, fl_wI, fl_wR, re_wI, re_wL, re_wC, ite_true, ite_false, not_true_eq_false, not_false_eq_true, lq_ge, lq_le, lq_gt, lq_lt, lq_eq, jI_lt, jI_le, jI_eq, if_pos, if_neg]
theorem S_setLook (hs : mm_isS s) (h1 : -2147483648 ≤ p) (h2 : p < 2147483648) : mm_M mm_T0 (d + 2) 112 [.ref s, .int (iI p), .int (iI x)] h = some (none, if 0 ≤ p ∧ p < fd h s 10 ∧ p < 8 then wI h (s + 4) p.toNat (iI x) else h) := by
  rw [U_X7_setLook hs, S_isPerson hs h1 h2, mm_bI_some]
  by_cases c : 0 ≤ p ∧ p < fd h s 10 ∧ p < 8 <;> simp (disch := omega) only [iI_lit, jI_lit, iI_neg, jI_neg, iI_add, iI_sub, iI_mul, jI_add, jI_sub, jI_mul, rdI, rdL, iI_lt, iI_le, iI_eq, iI_nat, iI_b2_0, iI_b2_1, mm_bI_some, mm_bV_some, mm_bL_some, mm_bA_some, fd_wL, fd_wR, fl_wI, fl_wR, re_wI, re_wL, re_wC, ite_true, ite_false, not_true_eq_false, not_false_eq_true, lq_ge, lq_le, lq_gt, lq_lt, lq_eq, jI_lt, jI_le, jI_eq, if_pos, if_neg]
theorem S_setFace (hs : mm_isS s) (h1 : -2147483648 ≤ p) (h2 : p < 2147483648) : mm_M mm_T0 (d + 2) 113 [.ref s, .int (iI p), .int (iI x)] h = some (none, if 0 ≤ p ∧ p < fd h s 10 ∧ p < 8 then wI h (s + 1) p.toNat (iI x) else h) := by
  rw [U_X7_setFace hs, S_isPerson hs h1 h2, mm_bI_some]
  by_cases c : 0 ≤ p ∧ p < fd h s 10 ∧ p < 8 <;> simp (disch := omega) only [iI_lit, jI_lit, iI_neg, jI_neg, iI_add, iI_sub, iI_mul, jI_add, jI_sub, jI_mul, rdI, rdL, iI_lt, iI_le, iI_eq, iI_nat, iI_b2_0, iI_b2_1, mm_bI_some, mm_bV_some, mm_bL_some, mm_bA_some, fd_wL, fd_wR, fl_wI, fl_wR, re_wI, re_wL, re_wC, ite_true, ite_false, not_true_eq_false, not_false_eq_true, lq_ge, lq_le, lq_gt, lq_lt, lq_eq, jI_lt, jI_le, jI_eq, if_pos, if_neg]
theorem S_setSparing (hs : mm_isS s) (h1 : -2147483648 ≤ p) (h2 : p < 2147483648) : mm_M mm_T0 (d + 2) 114 [.ref s, .int (iI p), .int (iI x)] h = some (none, if 0 ≤ p ∧ p < fd h s 10 ∧ p < 8 then wI h (s + 5) p.toNat (iI x) else h) := by
  rw [U_X7_setSparing hs, S_isPerson hs h1 h2, mm_bI_some]
  by_cases c : 0 ≤ p ∧ p < fd h s 10 ∧ p < 8 <;> simp (disch := omega) only [iI_lit, jI_lit, iI_neg, jI_neg, iI_add, iI_sub, iI_mul, jI_add, jI_sub, jI_mul, rdI, rdL, iI_lt, iI_le, iI_eq, iI_nat, iI_b2_0, iI_b2_1, mm_bI_some, mm_bV_some, mm_bL_some, mm_bA_some, fd_wL, fd_wR, fl_wI, fl_wR, re_wI, re_wL, re_wC, ite_true, ite_false, not_true_eq_false, not_false_eq_true, lq_ge, lq_le, lq_gt, lq_lt, lq_eq, jI_lt, jI_le, jI_eq, if_pos, if_neg]
theorem S_thoughtOf (hs : mm_isS s) (h8 : fd h s 10 ≤ 8) (h1 : -2147483648 ≤ p) (h2 : p < 2147483648) (h3 : -2147483648 ≤ q) (h4 : q < 2147483648) : mm_M mm_T0 (d + 1) 110 [.ref s, .int (iI p), .int (iI q)] h = some (some (.int (iI (if (0 ≤ p ∧ p < fd h s 10) ∧ (0 ≤ q ∧ q < fd h s 10) ∧ p ≠ q then fd h (s + 6) (p * 8 + q).toNat else 0))), h) := by
  have := fd_lo h s 10; have := fd_hi h s 10
  rw [U_X7_thoughtOf hs]
  by_cases c : (0 ≤ p ∧ p < fd h s 10) ∧ (0 ≤ q ∧ q < fd h s 10) ∧ p ≠ q
  · simp (disch := omega) only [iI_lit, jI_lit, iI_neg, jI_neg, iI_add, iI_sub, iI_mul, jI_add, jI_sub, jI_mul, rdI, rdL, iI_lt, iI_le, iI_eq, iI_nat, iI_b2_0, iI_b2_1, mm_bI_some, mm_bV_some, mm_bL_some, mm_bA_some, fd_wL, fd_wR, fl_wI, fl_wR, re_wI, re_wL, re_wC, ite_true, ite_false, not_true_eq_false, not_false_eq_true, lq_ge, lq_le, lq_gt, lq_lt, lq_eq, jI_lt, jI_le, jI_eq, if_pos, if_neg]
  · rw [if_neg c]
    simp (disch := omega) only [iI_lit, jI_lit, iI_neg, jI_neg, iI_add, iI_sub, iI_mul, jI_add, jI_sub, jI_mul, rdI, rdL, iI_lt, iI_le, iI_eq, iI_nat, iI_b2_0, iI_b2_1, mm_bI_some, mm_bV_some, mm_bL_some, mm_bA_some, fd_wL, fd_wR, fl_wI, fl_wR, re_wI, re_wL, re_wC, ite_true, ite_false, not_true_eq_false, not_false_eq_true, lq_ge, lq_le, lq_gt, lq_lt, lq_eq, jI_lt, jI_le, jI_eq]
    repeat' split
    all_goals first | rfl | (exfalso; omega)
theorem S_setThought (hs : mm_isS s) (h1 : -2147483648 ≤ p) (h2 : p < 2147483648) (h3 : -2147483648 ≤ q) (h4 : q < 2147483648) : mm_M mm_T0 (d + 3) 115 [.ref s, .int (iI p), .int (iI q), .int (iI x)] h = some (none, if (0 ≤ p ∧ p < fd h s 10 ∧ p < 8) ∧ (0 ≤ q ∧ q < fd h s 10 ∧ q < 8) ∧ p ≠ q then wI h (s + 6) (p * 8 + q).toNat (iI x) else h) := by
  rw [U_X7_setThought hs, S_arePair hs h1 h2 h3 h4, mm_bI_some]
  by_cases c : (0 ≤ p ∧ p < fd h s 10 ∧ p < 8) ∧ (0 ≤ q ∧ q < fd h s 10 ∧ q < 8) ∧ p ≠ q <;> simp (disch := omega) only [iI_lit, jI_lit, iI_neg, jI_neg, iI_add, iI_sub, iI_mul, jI_add, jI_sub, jI_mul, rdI, rdL, iI_lt, iI_le, iI_eq, iI_nat, iI_b2_0, iI_b2_1, mm_bI_some, mm_bV_some, mm_bL_some, mm_bA_some, fd_wL, fd_wR, fl_wI, fl_wR, re_wI, re_wL, re_wC, ite_true, ite_false, not_true_eq_false, not_false_eq_true, lq_ge, lq_le, lq_gt, lq_lt, lq_eq, jI_lt, jI_le, jI_eq, if_pos, if_neg]
theorem S_neighbourOf (hs : mm_isS s) (h1 : -2147483648 ≤ p) (h2 : p < 2147483648) (h3 : -2147483648 ≤ q) (h4 : q < 2147483648) (hh : 0 ≤ p → p < fd h s 10 → 0 ≤ fd h (s + 3) p.toNat ∧ fd h (s + 3) p.toNat < 100) : mm_M mm_T0 (d + 3) 111 [.ref s, .int (iI p), .int (iI q)] h = some (some (.int (iI (if (0 ≤ p ∧ p < fd h s 10 ∧ p < 8) ∧ 0 ≤ q ∧ q ≤ 1 then (if 0 ≤ fd h (s + 3) p.toNat + (if q = 0 then -1 else 1) ∧ fd h (s + 3) p.toNat + (if q = 0 then -1 else 1) < fd h s 9 ∧ fd h (s + 3) p.toNat + (if q = 0 then -1 else 1) < 9 then fd h (s + 7) (fd h (s + 3) p.toNat + (if q = 0 then -1 else 1)).toNat else -1) else -1))), h) := by
  rw [U_X7_neighbourOf hs, S_isPerson hs h1 h2, mm_bI_some]
  by_cases c : (0 ≤ p ∧ p < fd h s 10 ∧ p < 8) ∧ 0 ≤ q ∧ q ≤ 1
  · have hh2 := hh (by omega) (by omega)
    by_cases c2 : q = 0
    · simp (disch := omega) only [iI_lit, jI_lit, iI_neg, jI_neg, iI_add, iI_sub, iI_mul, jI_add, jI_sub, jI_mul, rdI, rdL, iI_lt, iI_le, iI_eq, iI_nat, iI_b2_0, iI_b2_1, mm_bI_some, mm_bV_some, mm_bL_some, mm_bA_some, fd_wL, fd_wR, fl_wI, fl_wR, re_wI, re_wL, re_wC, ite_true, ite_false, not_true_eq_false, not_false_eq_true, lq_ge, lq_le, lq_gt, lq_lt, lq_eq, jI_lt, jI_le, jI_eq, if_pos, if_neg, S_lodgerAt hs]
    · simp (disch := omega) only [iI_lit, jI_lit, iI_neg, jI_neg, iI_add, iI_sub, iI_mul, jI_add, jI_sub, jI_mul, rdI, rdL, iI_lt, iI_le, iI_eq, iI_nat, iI_b2_0, iI_b2_1, mm_bI_some, mm_bV_some, mm_bL_some, mm_bA_some, fd_wL, fd_wR, fl_wI, fl_wR, re_wI, re_wL, re_wC, ite_true, ite_false, not_true_eq_false, not_false_eq_true, lq_ge, lq_le, lq_gt, lq_lt, lq_eq, jI_lt, jI_le, jI_eq, if_pos, if_neg, S_lodgerAt hs]
  · rw [if_neg c]
    simp (disch := omega) only [iI_lit, jI_lit, iI_neg, jI_neg, iI_add, iI_sub, iI_mul, jI_add, jI_sub, jI_mul, rdI, rdL, iI_lt, iI_le, iI_eq, iI_nat, iI_b2_0, iI_b2_1, mm_bI_some, mm_bV_some, mm_bL_some, mm_bA_some, fd_wL, fd_wR, fl_wI, fl_wR, re_wI, re_wL, re_wC, ite_true, ite_false, not_true_eq_false, not_false_eq_true, lq_ge, lq_le, lq_gt, lq_lt, lq_eq, jI_lt, jI_le, jI_eq]
    repeat' split
    all_goals first | rfl | (exfalso; omega)
/-- the people's place and the houses' row at once -/
theorem S_place_h (hs : mm_isS s) (h1 : -2147483648 ≤ p) (h2 : p < 2147483648) (h3 : 0 ≤ q) (h4 : q < fd h s 9) (h5 : q < 9) : mm_M mm_T0 (d + 2) 116 [.ref s, .int (iI p), .int (iI q)] h = some (none, if 0 ≤ p ∧ p < fd h s 10 ∧ p < 8 then wI (wI h (s + 7) q.toNat (iI p)) (s + 3) p.toNat (iI q) else wI h (s + 7) q.toNat (iI p)) := by
  rw [U_X7_place hs, S_isHouse hs (by omega) (by omega), mm_bI_some]
  have e : fd (wI h (s + 7) q.toNat (iI p)) s 10 = fd h s 10 := fd_wI_row (by omega)
  by_cases c : 0 ≤ p ∧ p < fd h s 10 ∧ p < 8 <;> simp (disch := omega) only [iI_lit, jI_lit, iI_neg, jI_neg, iI_add, iI_sub, iI_mul, jI_add, jI_sub, jI_mul, rdI, rdL, iI_lt, iI_le, iI_eq, iI_nat, iI_b2_0, iI_b2_1, mm_bI_some, mm_bV_some, mm_bL_some, mm_bA_some, fd_wL, fd_wR, fl_wI, fl_wR, re_wI, re_wL, re_wC, ite_true, ite_false, not_true_eq_false, not_false_eq_true, lq_ge, lq_le, lq_gt, lq_lt, lq_eq, jI_lt, jI_le, jI_eq, if_pos, if_neg, S_isPerson hs h1 h2, e]
theorem S_allLooks_4 (hs : mm_isS s) (hP : 0 ≤ fd h s 10 ∧ fd h s 10 ≤ 8) : ∀ (k : Nat) (a p : Int), 0 ≤ p → p + k = fd h s 10 → mm_D (mm_M mm_T0 (d + 2)) cd_X7_allLooks 4 [.ref s, .int (iI a), .int (iI p)] [] h = some (some (.int (iI (a + sumF (fun z => fd h (s + 4) z.toNat) p k))), h)
  | 0, a, p, h1, h2 => by
    rw [U_X7_allLooks_4 hs]
    simp (disch := omega) only [iI_lit, jI_lit, iI_neg, jI_neg, iI_add, iI_sub, iI_mul, jI_add, jI_sub, jI_mul, rdI, rdL, iI_lt, iI_le, iI_eq, iI_nat, iI_b2_0, iI_b2_1, mm_bI_some, mm_bV_some, mm_bL_some, mm_bA_some, fd_wL, fd_wR, fl_wI, fl_wR, re_wI, re_wL, re_wC, ite_true, ite_false, not_true_eq_false, not_false_eq_true, lq_ge, lq_le, lq_gt, lq_lt, lq_eq, jI_lt, jI_le, jI_eq, if_pos, if_neg, sumF, Int.add_zero]
  | k + 1, a, p, h1, h2 => by
    rw [U_X7_allLooks_4 hs]
    simp (disch := omega) only [iI_lit, jI_lit, iI_neg, jI_neg, iI_add, iI_sub, iI_mul, jI_add, jI_sub, jI_mul, rdI, rdL, iI_lt, iI_le, iI_eq, iI_nat, iI_b2_0, iI_b2_1, mm_bI_some, mm_bV_some, mm_bL_some, mm_bA_some, fd_wL, fd_wR, fl_wI, fl_wR, re_wI, re_wL, re_wC, ite_true, ite_false, not_true_eq_false, not_false_eq_true, lq_ge, lq_le, lq_gt, lq_lt, lq_eq, jI_lt, jI_le, jI_eq, if_pos, if_neg, S_lookOf hs]
    rw [S_allLooks_4 hs hP k _ (p + 1) (by omega) (by omega), sumF, Int.add_assoc]
theorem S_countSparing_4 (hs : mm_isS s) (hP : 0 ≤ fd h s 10 ∧ fd h s 10 ≤ 8) : ∀ (k : Nat) (a p : Int), 0 ≤ p → p + k = fd h s 10 → mm_D (mm_M mm_T0 (d + 2)) cd_X7_countSparing 4 [.ref s, .int (iI a), .int (iI p)] [] h = some (some (.int (iI (a + sumF (fun z => fd h (s + 5) z.toNat) p k))), h)
  | 0, a, p, h1, h2 => by
    rw [U_X7_countSparing_4 hs]
    simp (disch := omega) only [iI_lit, jI_lit, iI_neg, jI_neg, iI_add, iI_sub, iI_mul, jI_add, jI_sub, jI_mul, rdI, rdL, iI_lt, iI_le, iI_eq, iI_nat, iI_b2_0, iI_b2_1, mm_bI_some, mm_bV_some, mm_bL_some, mm_bA_some, fd_wL, fd_wR, fl_wI, fl_wR, re_wI, re_wL, re_wC, ite_true, ite_false, not_true_eq_false, not_false_eq_true, lq_ge, lq_le, lq_gt, lq_lt, lq_eq, jI_lt, jI_le, jI_eq, if_pos, if_neg, sumF, Int.add_zero]
  | k + 1, a, p, h1, h2 => by
    rw [U_X7_countSparing_4 hs]
    simp (disch := omega) only [iI_lit, jI_lit, iI_neg, jI_neg, iI_add, iI_sub, iI_mul, jI_add, jI_sub, jI_mul, rdI, rdL, iI_lt, iI_le, iI_eq, iI_nat, iI_b2_0, iI_b2_1, mm_bI_some, mm_bV_some, mm_bL_some, mm_bA_some, fd_wL, fd_wR, fl_wI, fl_wR, re_wI, re_wL, re_wC, ite_true, ite_false, not_true_eq_false, not_false_eq_true, lq_ge, lq_le, lq_gt, lq_lt, lq_eq, jI_lt, jI_le, jI_eq, if_pos, if_neg, S_sparingOf hs]
    rw [S_countSparing_4 hs hP k _ (p + 1) (by omega) (by omega), sumF, Int.add_assoc]
theorem S_countCurtains_4 (hs : mm_isS s) (hP : 0 ≤ fd h s 10 ∧ fd h s 10 ≤ 8) : ∀ (k : Nat) (a p : Int), 0 ≤ p → p + k = fd h s 10 → mm_D (mm_M mm_T0 (d + 2)) cd_X7_countCurtains 4 [.ref s, .int (iI a), .int (iI p)] [] h = some (some (.int (iI (a + sumF (fun z => b2 (fd h (s + 4) z.toNat = 0)) p k))), h)
  | 0, a, p, h1, h2 => by
    rw [U_X7_countCurtains_4 hs]
    simp (disch := omega) only [iI_lit, jI_lit, iI_neg, jI_neg, iI_add, iI_sub, iI_mul, jI_add, jI_sub, jI_mul, rdI, rdL, iI_lt, iI_le, iI_eq, iI_nat, iI_b2_0, iI_b2_1, mm_bI_some, mm_bV_some, mm_bL_some, mm_bA_some, fd_wL, fd_wR, fl_wI, fl_wR, re_wI, re_wL, re_wC, ite_true, ite_false, not_true_eq_false, not_false_eq_true, lq_ge, lq_le, lq_gt, lq_lt, lq_eq, jI_lt, jI_le, jI_eq, if_pos, if_neg, sumF, Int.add_zero]
  | k + 1, a, p, h1, h2 => by
    have := fd_lo h (s + 4) p.toNat; have := fd_hi h (s + 4) p.toNat
    rw [U_X7_countCurtains_4 hs]
    by_cases c : fd h (s + 4) p.toNat = 0
    · simp (disch := omega) only [iI_lit, jI_lit, iI_neg, jI_neg, iI_add, iI_sub, iI_mul, jI_add, jI_sub, jI_mul, rdI, rdL, iI_lt, iI_le, iI_eq, iI_nat, iI_b2_0, iI_b2_1, mm_bI_some, mm_bV_some, mm_bL_some, mm_bA_some, fd_wL, fd_wR, fl_wI, fl_wR, re_wI, re_wL, re_wC, ite_true, ite_false, not_true_eq_false, not_false_eq_true, lq_ge, lq_le, lq_gt, lq_lt, lq_eq, jI_lt, jI_le, jI_eq, if_pos, if_neg, S_lookOf hs]
      rw [sumF, S_countCurtains_4 hs hP k _ (p + 1) (by omega) (by omega), b2_t c, Int.add_assoc]
    · simp (disch := omega) only [iI_lit, jI_lit, iI_neg, jI_neg, iI_add, iI_sub, iI_mul, jI_add, jI_sub, jI_mul, rdI, rdL, iI_lt, iI_le, iI_eq, iI_nat, iI_b2_0, iI_b2_1, mm_bI_some, mm_bV_some, mm_bL_some, mm_bA_some, fd_wL, fd_wR, fl_wI, fl_wR, re_wI, re_wL, re_wC, ite_true, ite_false, not_true_eq_false, not_false_eq_true, lq_ge, lq_le, lq_gt, lq_lt, lq_eq, jI_lt, jI_le, jI_eq, if_pos, if_neg, S_lookOf hs]
      rw [sumF, S_countCurtains_4 hs hP k _ (p + 1) (by omega) (by omega), b2_f c, Int.add_assoc]
theorem S_allLooks (hs : mm_isS s) (hP : 0 ≤ fd h s 10 ∧ fd h s 10 ≤ 8) : mm_M mm_T0 (d + 3) 124 [.ref s] h = some (some (.int (iI (sumF (fun z => fd h (s + 4) z.toNat) 0 (fd h s 10).toNat))), h) := by
  rw [U_X7_allLooks hs, iI_lit, S_allLooks_4 hs hP (fd h s 10).toNat 0 0 (by omega) (by omega), Int.zero_add]
theorem S_countSparing (hs : mm_isS s) (hP : 0 ≤ fd h s 10 ∧ fd h s 10 ≤ 8) : mm_M mm_T0 (d + 3) 123 [.ref s] h = some (some (.int (iI (sumF (fun z => fd h (s + 5) z.toNat) 0 (fd h s 10).toNat))), h) := by
  rw [U_X7_countSparing hs, iI_lit, S_countSparing_4 hs hP (fd h s 10).toNat 0 0 (by omega) (by omega), Int.zero_add]
theorem S_countCurtains (hs : mm_isS s) (hP : 0 ≤ fd h s 10 ∧ fd h s 10 ≤ 8) : mm_M mm_T0 (d + 3) 122 [.ref s] h = some (some (.int (iI (sumF (fun z => b2 (fd h (s + 4) z.toNat = 0)) 0 (fd h s 10).toNat))), h) := by
  rw [U_X7_countCurtains hs, iI_lit, S_countCurtains_4 hs hP (fd h s 10).toNat 0 0 (by omega) (by omega), Int.zero_add]
end SCENE
