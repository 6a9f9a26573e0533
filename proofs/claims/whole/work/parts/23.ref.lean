/-! the reference: what it reads off its row -/
def nw (h : mm_H) : Int → Int := fun z => fd h 300 z.toNat
def fcR (h : mm_H) : Int → Int := fun p => fd h 294 (8 + p).toNat
def kdR (h : mm_H) : Int → Int := fun p => fd h 295 (8 + p).toNat
section REF
variable {d : Nat} {h : mm_H} {p q x y : Int}
theorem R_isIn {a b c : Int} (a1 : -9223372036854775808 ≤ a) (a2 : a < 9223372036854775808) (b1 : -9223372036854775808 ≤ b) (b2' : b < 9223372036854775808) (c1 : -9223372036854775808 ≤ c) (c2 : c < 9223372036854775808) : mm_M mm_T0 (d + 1) 188 [.long (jI a), .long (jI b), .long (jI c)] h = some (some (.int (iI (b2 (b ≤ a ∧ a ≤ c)))), h) := by
  rw [U_X12_isIn]
  simp (disch := omega) only [iI_lit, jI_lit, iI_neg, jI_neg, iI_add, iI_sub, iI_mul, jI_add, jI_sub, jI_mul, rdI, rdL, iI_lt, iI_le, iI_eq, iI_nat, iI_b2_0, iI_b2_1, mm_bI_some, mm_bV_some, mm_bL_some, mm_bA_some, fd_wL, fd_wR, fl_wI, fl_wR, re_wI, re_wL, re_wC, ite_true, ite_false, not_true_eq_false, not_false_eq_true, lq_ge, lq_le, lq_gt, lq_lt, lq_eq, jI_lt, jI_le, jI_eq]
  unfold b2
  repeat' split
  all_goals first | rfl | (exfalso; omega)
theorem R_isPerson (h8 : -2147483647 ≤ fd h 264 40) (h1 : -9223372036854775808 ≤ p) (h2 : p < 9223372036854775808) : mm_M mm_T0 (d + 2) 214 [.ref 264, .long (jI p)] h = some (some (.int (iI (b2 (0 ≤ p ∧ p ≤ fd h 264 40 - 1)))), h) := by
  have := fd_lo h 264 40; have := fd_hi h 264 40
  rw [U_X12_isPerson]
  simp (disch := omega) only [iI_lit, jI_lit, iI_neg, jI_neg, iI_add, iI_sub, iI_mul, jI_add, jI_sub, jI_mul, rdI, rdL, iI_lt, iI_le, iI_eq, iI_nat, iI_b2_0, iI_b2_1, mm_bI_some, mm_bV_some, mm_bL_some, mm_bA_some, fd_wL, fd_wR, fl_wI, fl_wR, re_wI, re_wL, re_wC, ite_true, ite_false, not_true_eq_false, not_false_eq_true, lq_ge, lq_le, lq_gt, lq_lt, lq_eq, jI_lt, jI_le, jI_eq, iI_jI, R_isIn, b2_zr]
theorem R_isOther (h8 : -2147483647 ≤ fd h 264 40) (h3 : -2147483648 ≤ q) (h4 : q < 2147483648) (h1 : -9223372036854775808 ≤ p) (h2 : p < 9223372036854775808) : mm_M mm_T0 (d + 3) 215 [.ref 264, .int (iI q), .long (jI p)] h = some (some (.int (iI (b2 ((0 ≤ p ∧ p ≤ fd h 264 40 - 1) ∧ p ≠ q)))), h) := by
  rw [U_X12_isOther, R_isPerson h8 h1 h2, mm_bI_some]
  simp (disch := omega) only [iI_lit, jI_lit, iI_neg, jI_neg, iI_add, iI_sub, iI_mul, jI_add, jI_sub, jI_mul, rdI, rdL, iI_lt, iI_le, iI_eq, iI_nat, iI_b2_0, iI_b2_1, mm_bI_some, mm_bV_some, mm_bL_some, mm_bA_some, fd_wL, fd_wR, fl_wI, fl_wR, re_wI, re_wL, re_wC, ite_true, ite_false, not_true_eq_false, not_false_eq_true, lq_ge, lq_le, lq_gt, lq_lt, lq_eq, jI_lt, jI_le, jI_eq, iI_jI]
  unfold b2
  repeat' split
  all_goals first | rfl | (exfalso; omega)
theorem R_areTwo (h8 : -2147483647 ≤ fd h 264 40) (h1 : -2147483648 ≤ p) (h2 : p < 2147483648) (h3 : -2147483648 ≤ q) (h4 : q < 2147483648) : mm_M mm_T0 (d + 4) 216 [.ref 264, .int (iI p), .int (iI q)] h = some (some (.int (iI (b2 ((0 ≤ p ∧ p ≤ fd h 264 40 - 1) ∧ (0 ≤ q ∧ q ≤ fd h 264 40 - 1) ∧ q ≠ p)))), h) := by
  rw [U_X12_areTwo, iI_jI h1 h2, R_isPerson h8 (by omega) (by omega), mm_bI_some, iI_jI h3 h4, R_isOther h8 h1 h2 (by omega) (by omega), mm_bI_some]
  simp (disch := omega) only [iI_lit, jI_lit, iI_neg, jI_neg, iI_add, iI_sub, iI_mul, jI_add, jI_sub, jI_mul, rdI, rdL, iI_lt, iI_le, iI_eq, iI_nat, iI_b2_0, iI_b2_1, mm_bI_some, mm_bV_some, mm_bL_some, mm_bA_some, fd_wL, fd_wR, fl_wI, fl_wR, re_wI, re_wL, re_wC, ite_true, ite_false, not_true_eq_false, not_false_eq_true, lq_ge, lq_le, lq_gt, lq_lt, lq_eq, jI_lt, jI_le, jI_eq]
  unfold b2
  repeat' split
  all_goals first | rfl | (exfalso; omega)
theorem R_isHouse (h8 : -2147483647 ≤ fd h 264 38) (h1 : -2147483648 ≤ p) (h2 : p < 2147483648) : mm_M mm_T0 (d + 2) 217 [.ref 264, .int (iI p)] h = some (some (.int (iI (b2 (fd h 264 53 ≠ 0 ∧ 0 ≤ p ∧ p ≤ fd h 264 38 - 1)))), h) := by
  have := fd_lo h 264 38; have := fd_hi h 264 38; have := fd_lo h 264 53; have := fd_hi h 264 53
  rw [U_X12_isHouse]
  simp (disch := omega) only [iI_lit, jI_lit, iI_neg, jI_neg, iI_add, iI_sub, iI_mul, jI_add, jI_sub, jI_mul, rdI, rdL, iI_lt, iI_le, iI_eq, iI_nat, iI_b2_0, iI_b2_1, mm_bI_some, mm_bV_some, mm_bL_some, mm_bA_some, fd_wL, fd_wR, fl_wI, fl_wR, re_wI, re_wL, re_wC, ite_true, ite_false, not_true_eq_false, not_false_eq_true, lq_ge, lq_le, lq_gt, lq_lt, lq_eq, jI_lt, jI_le, jI_eq, iI_jI, R_isIn]
  unfold b2
  repeat' split
  all_goals first | rfl | (exfalso; omega)
theorem R_houseOf (h1 : 0 ≤ p) (h2 : p < 60) : mm_M mm_T0 (d + 1) 218 [.ref 264, .int (iI p)] h = some (some (.int (iI (nw h (1 + 3 * p)))), h) := by
  rw [U_X12_houseOf]
  simp (disch := omega) only [iI_lit, jI_lit, iI_neg, jI_neg, iI_add, iI_sub, iI_mul, jI_add, jI_sub, jI_mul, rdI, rdL, iI_lt, iI_le, iI_eq, iI_nat, iI_b2_0, iI_b2_1, mm_bI_some, mm_bV_some, mm_bL_some, mm_bA_some, fd_wL, fd_wR, fl_wI, fl_wR, re_wI, re_wL, re_wC, ite_true, ite_false, not_true_eq_false, not_false_eq_true, lq_ge, lq_le, lq_gt, lq_lt, lq_eq, jI_lt, jI_le, jI_eq, if_pos, if_neg]
  rfl
theorem R_lookOf (h1 : 0 ≤ p) (h2 : p < 60) : mm_M mm_T0 (d + 1) 219 [.ref 264, .int (iI p)] h = some (some (.int (iI (nw h (2 + 3 * p)))), h) := by
  rw [U_X12_lookOf]
  simp (disch := omega) only [iI_lit, jI_lit, iI_neg, jI_neg, iI_add, iI_sub, iI_mul, jI_add, jI_sub, jI_mul, rdI, rdL, iI_lt, iI_le, iI_eq, iI_nat, iI_b2_0, iI_b2_1, mm_bI_some, mm_bV_some, mm_bL_some, mm_bA_some, fd_wL, fd_wR, fl_wI, fl_wR, re_wI, re_wL, re_wC, ite_true, ite_false, not_true_eq_false, not_false_eq_true, lq_ge, lq_le, lq_gt, lq_lt, lq_eq, jI_lt, jI_le, jI_eq, if_pos, if_neg]
  rfl
theorem R_doesSpare (h1 : 0 ≤ p) (h2 : p < 60) : mm_M mm_T0 (d + 1) 220 [.ref 264, .int (iI p)] h = some (some (.int (iI (b2 (nw h (3 + 3 * p) = 1)))), h) := by
  have := fd_lo h 300 (3 + 3 * p).toNat; have := fd_hi h 300 (3 + 3 * p).toNat
  rw [U_X12_doesSpare]
  unfold nw b2
  by_cases c : fd h 300 (3 + 3 * p).toNat = 1 <;> simp (disch := omega) only [iI_lit, jI_lit, iI_neg, jI_neg, iI_add, iI_sub, iI_mul, jI_add, jI_sub, jI_mul, rdI, rdL, iI_lt, iI_le, iI_eq, iI_nat, iI_b2_0, iI_b2_1, mm_bI_some, mm_bV_some, mm_bL_some, mm_bA_some, fd_wL, fd_wR, fl_wI, fl_wR, re_wI, re_wL, re_wC, ite_true, ite_false, not_true_eq_false, not_false_eq_true, lq_ge, lq_le, lq_gt, lq_lt, lq_eq, jI_lt, jI_le, jI_eq, if_pos, if_neg]
theorem R_faceOf (h1 : 0 ≤ p) (h2 : p < 8) : mm_M mm_T0 (d + 1) 221 [.ref 264, .int (iI p)] h = some (some (.int (iI (fcR h p))), h) := by
  rw [U_X12_faceOf]
  simp (disch := omega) only [iI_lit, jI_lit, iI_neg, jI_neg, iI_add, iI_sub, iI_mul, jI_add, jI_sub, jI_mul, rdI, rdL, iI_lt, iI_le, iI_eq, iI_nat, iI_b2_0, iI_b2_1, mm_bI_some, mm_bV_some, mm_bL_some, mm_bA_some, fd_wL, fd_wR, fl_wI, fl_wR, re_wI, re_wL, re_wC, ite_true, ite_false, not_true_eq_false, not_false_eq_true, lq_ge, lq_le, lq_gt, lq_lt, lq_eq, jI_lt, jI_le, jI_eq, if_pos, if_neg]
  rfl
theorem R_kindOf (h1 : 0 ≤ p) (h2 : p < 8) : mm_M mm_T0 (d + 1) 222 [.ref 264, .int (iI p)] h = some (some (.int (iI (kdR h p))), h) := by
  rw [U_X12_kindOf]
  simp (disch := omega) only [iI_lit, jI_lit, iI_neg, jI_neg, iI_add, iI_sub, iI_mul, jI_add, jI_sub, jI_mul, rdI, rdL, iI_lt, iI_le, iI_eq, iI_nat, iI_b2_0, iI_b2_1, mm_bI_some, mm_bV_some, mm_bL_some, mm_bA_some, fd_wL, fd_wR, fl_wI, fl_wR, re_wI, re_wL, re_wC, ite_true, ite_false, not_true_eq_false, not_false_eq_true, lq_ge, lq_le, lq_gt, lq_lt, lq_eq, jI_lt, jI_le, jI_eq, if_pos, if_neg]
  rfl
theorem R_thoughtOf (h1 : 0 ≤ p) (h2 : p < 8) (h3 : 0 ≤ q) (h4 : q < 8) : mm_M mm_T0 (d + 1) 223 [.ref 264, .int (iI p), .int (iI q)] h = some (some (.int (iI (nw h (25 + 8 * p + q)))), h) := by
  rw [U_X12_thoughtOf]
  simp (disch := omega) only [iI_lit, jI_lit, iI_neg, jI_neg, iI_add, iI_sub, iI_mul, jI_add, jI_sub, jI_mul, rdI, rdL, iI_lt, iI_le, iI_eq, iI_nat, iI_b2_0, iI_b2_1, mm_bI_some, mm_bV_some, mm_bL_some, mm_bA_some, fd_wL, fd_wR, fl_wI, fl_wR, re_wI, re_wL, re_wC, ite_true, ite_false, not_true_eq_false, not_false_eq_true, lq_ge, lq_le, lq_gt, lq_lt, lq_eq, jI_lt, jI_le, jI_eq, if_pos, if_neg]
  rfl
theorem R_whoIn_2 (hp : fd h 264 40 ≤ 8) (h3 : -2147483648 ≤ x) (h4 : x < 2147483648) : ∀ (k : Nat) (p : Int), 0 ≤ p → p + k = fd h 264 40 → mm_D (mm_M mm_T0 (d + 1)) cd_X12_whoIn 2 [.ref 264, .int (iI x), .int (iI p)] [] h = some (some (.int (iI (whoF (nw h) x p k))), h)
  | 0, p, h1, h2 => by
    rw [U_X12_whoIn_2]
    simp (disch := omega) only [iI_lit, jI_lit, iI_neg, jI_neg, iI_add, iI_sub, iI_mul, jI_add, jI_sub, jI_mul, rdI, rdL, iI_lt, iI_le, iI_eq, iI_nat, iI_b2_0, iI_b2_1, mm_bI_some, mm_bV_some, mm_bL_some, mm_bA_some, fd_wL, fd_wR, fl_wI, fl_wR, re_wI, re_wL, re_wC, ite_true, ite_false, not_true_eq_false, not_false_eq_true, lq_ge, lq_le, lq_gt, lq_lt, lq_eq, jI_lt, jI_le, jI_eq, if_pos, if_neg, whoF]
  | k + 1, p, h1, h2 => by
    have g1 : -2147483648 ≤ nw h (1 + 3 * p) := fd_lo _ _ _
    have g2 : nw h (1 + 3 * p) < 2147483648 := fd_hi _ _ _
    rw [U_X12_whoIn_2]
    simp (disch := omega) only [iI_lit, jI_lit, iI_neg, jI_neg, iI_add, iI_sub, iI_mul, jI_add, jI_sub, jI_mul, rdI, rdL, iI_lt, iI_le, iI_eq, iI_nat, iI_b2_0, iI_b2_1, mm_bI_some, mm_bV_some, mm_bL_some, mm_bA_some, fd_wL, fd_wR, fl_wI, fl_wR, re_wI, re_wL, re_wC, ite_true, ite_false, not_true_eq_false, not_false_eq_true, lq_ge, lq_le, lq_gt, lq_lt, lq_eq, jI_lt, jI_le, jI_eq, R_houseOf]
    rw [if_neg (by omega), whoF]
    by_cases c : nw h (1 + 3 * p) = x
    · rw [if_neg (fun q => q c), if_pos c]
    · rw [if_pos c, if_neg c, R_whoIn_2 hp h3 h4 k (p + 1) (by omega) (by omega)]
theorem R_whoIn (hp0 : 0 ≤ fd h 264 40) (hp : fd h 264 40 ≤ 8) (h3 : -2147483648 ≤ x) (h4 : x < 2147483648) : mm_M mm_T0 (d + 2) 224 [.ref 264, .int (iI x)] h = some (some (.int (iI (who (nw h) (fd h 264 40) x))), h) := by
  rw [U_X12_whoIn, iI_lit, R_whoIn_2 hp h3 h4 (fd h 264 40).toNat 0 (by omega) (by omega)]
  rfl
theorem R_neighbour (hp0 : 0 ≤ fd h 264 40) (hp : fd h 264 40 ≤ 8) (h1 : 0 ≤ p) (h2 : p < 60) (h3 : -2147483648 ≤ x) (h4 : x < 2147483648) (hn : -100 ≤ nw h (1 + 3 * p) ∧ nw h (1 + 3 * p) ≤ 100) : mm_M mm_T0 (d + 3) 225 [.ref 264, .int (iI p), .int (iI x)] h = some (some (.int (iI (nb (nw h) (fd h 264 40) p x))), h) := by
  rw [U_X12_neighbour, R_houseOf h1 h2, mm_bI_some]
  unfold nb
  by_cases c : x = 0
  · simp (disch := omega) only [iI_lit, jI_lit, iI_neg, jI_neg, iI_add, iI_sub, iI_mul, jI_add, jI_sub, jI_mul, rdI, rdL, iI_lt, iI_le, iI_eq, iI_nat, iI_b2_0, iI_b2_1, mm_bI_some, mm_bV_some, mm_bL_some, mm_bA_some, fd_wL, fd_wR, fl_wI, fl_wR, re_wI, re_wL, re_wC, ite_true, ite_false, not_true_eq_false, not_false_eq_true, lq_ge, lq_le, lq_gt, lq_lt, lq_eq, jI_lt, jI_le, jI_eq, if_pos, if_neg, R_whoIn hp0 hp]
  · simp (disch := omega) only [iI_lit, jI_lit, iI_neg, jI_neg, iI_add, iI_sub, iI_mul, jI_add, jI_sub, jI_mul, rdI, rdL, iI_lt, iI_le, iI_eq, iI_nat, iI_b2_0, iI_b2_1, mm_bI_some, mm_bV_some, mm_bL_some, mm_bA_some, fd_wL, fd_wR, fl_wI, fl_wR, re_wI, re_wL, re_wC, ite_true, ite_false, not_true_eq_false, not_false_eq_true, lq_ge, lq_le, lq_gt, lq_lt, lq_eq, jI_lt, jI_le, jI_eq, if_pos, if_neg, R_whoIn hp0 hp]
theorem R_cut {v m : Int} (v1 : -9223372036854775808 ≤ v) (v2 : v < 9223372036854775808) (m1 : 0 ≤ m) (m2 : m < 2147483648) : mm_M mm_T0 (d + 1) 227 [.long (jI v), .int (iI m)] h = some (some (.int (iI (cutTo v m))), h) := by
  rw [U_X12_cut]
  simp (disch := omega) only [iI_lit, jI_lit, iI_neg, jI_neg, iI_add, iI_sub, iI_mul, jI_add, jI_sub, jI_mul, rdI, rdL, iI_lt, iI_le, iI_eq, iI_nat, iI_b2_0, iI_b2_1, mm_bI_some, mm_bV_some, mm_bL_some, mm_bA_some, fd_wL, fd_wR, fl_wI, fl_wR, re_wI, re_wL, re_wC, ite_true, ite_false, not_true_eq_false, not_false_eq_true, lq_ge, lq_le, lq_gt, lq_lt, lq_eq, jI_lt, jI_le, jI_eq, iI_jI]
  unfold cutTo
  by_cases c1 : v < 0
  · simp (disch := omega) only [iI_lit, jI_lit, iI_neg, jI_neg, iI_add, iI_sub, iI_mul, jI_add, jI_sub, jI_mul, rdI, rdL, iI_lt, iI_le, iI_eq, iI_nat, iI_b2_0, iI_b2_1, mm_bI_some, mm_bV_some, mm_bL_some, mm_bA_some, fd_wL, fd_wR, fl_wI, fl_wR, re_wI, re_wL, re_wC, ite_true, ite_false, not_true_eq_false, not_false_eq_true, lq_ge, lq_le, lq_gt, lq_lt, lq_eq, jI_lt, jI_le, jI_eq, if_pos, if_neg]
  · by_cases c2 : m < v
    · simp (disch := omega) only [iI_lit, jI_lit, iI_neg, jI_neg, iI_add, iI_sub, iI_mul, jI_add, jI_sub, jI_mul, rdI, rdL, iI_lt, iI_le, iI_eq, iI_nat, iI_b2_0, iI_b2_1, mm_bI_some, mm_bV_some, mm_bL_some, mm_bA_some, fd_wL, fd_wR, fl_wI, fl_wR, re_wI, re_wL, re_wC, ite_true, ite_false, not_true_eq_false, not_false_eq_true, lq_ge, lq_le, lq_gt, lq_lt, lq_eq, jI_lt, jI_le, jI_eq, if_pos, if_neg]
    · simp (disch := omega) only [iI_lit, jI_lit, iI_neg, jI_neg, iI_add, iI_sub, iI_mul, jI_add, jI_sub, jI_mul, rdI, rdL, iI_lt, iI_le, iI_eq, iI_nat, iI_b2_0, iI_b2_1, mm_bI_some, mm_bV_some, mm_bL_some, mm_bA_some, fd_wL, fd_wR, fl_wI, fl_wR, re_wI, re_wL, re_wC, ite_true, ite_false, not_true_eq_false, not_false_eq_true, lq_ge, lq_le, lq_gt, lq_lt, lq_eq, jI_lt, jI_le, jI_eq, if_pos, if_neg, jI_iI]
end REF
