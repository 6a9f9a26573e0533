/-! the class works its steps out -/
theorem xor_sign (x y : Int32) : (0 ≤ x ^^^ y) = ((0 ≤ x) = (0 ≤ y)) := by
  have m : ∀ z : Int32, (0 ≤ z) = (z.toBitVec.msb = false) := by
    intro z
    rw [Int32.le_iff_toInt_le, BitVec.msb_eq_toInt]
    show (((0 : Int32).toInt) ≤ z.toBitVec.toInt) = _
    rw [show (0 : Int32).toInt = 0 from rfl, decide_eq_false_iff_not, Int.not_lt]
  rw [m, m, m, Int32.toBitVec_xor, BitVec.msb_xor]
  cases x.toBitVec.msb <;> cases y.toBitVec.msb <;> simp
theorem xor_pos {a b : Int} (a1 : -2147483648 ≤ a) (a2 : a < 2147483648) (b1 : -2147483648 ≤ b) (b2' : b < 2147483648) : (iI 0 ≤ iI a ^^^ iI b) = ((0 ≤ a) = (0 ≤ b)) := by
  rw [show iI 0 = (0 : Int32) from rfl, xor_sign, iI_lit, iI_le (by omega) (by omega) a1 a2, iI_le (by omega) (by omega) b1 b2']
theorem mul_bd {a b : Int} (a1 : -1000000 ≤ a) (a2 : a ≤ 1000000) (b1 : -1000000 ≤ b) (b2' : b ≤ 1000000) : -1000000000000 ≤ a * b ∧ a * b ≤ 1000000000000 := by
  have x1 : (a * b).natAbs = a.natAbs * b.natAbs := Int.natAbs_mul a b
  have x2 : a.natAbs * b.natAbs ≤ 1000000 * 1000000 := Nat.mul_le_mul (by omega) (by omega)
  omega
section EVC
variable {d c s : Nat} {h : mm_H} {x a b w : Int} {st : List Int}
theorem J_floorDiv (a1 : -1000000 ≤ a) (a2 : a ≤ 1000000) (b1 : -1000000 ≤ b) (b2' : b ≤ 1000000) (b0 : b ≠ 0) : mm_M mm_T0 (d + 1) 7 [.int (iI a), .int (iI b)] h = some (some (.int (iI (a.fdiv b))), h) := by
  have hb := Int.natAbs_tdiv_le_natAbs a b
  have hm : a - a.tdiv b * b = a.tmod b := tdiv_tmod a b
  have hm2 : (a.tmod b).natAbs ≤ a.natAbs := by
    rw [Int.natAbs_tmod]
    exact Nat.mod_le _ _
  have hd := tmod_dvd a b
  rw [U_J9_floorDiv_7cf53]
  simp (disch := omega) only [iI_lit, iI_div, iI_mul, xor_pos, iI_eq, iI_sub]
  rw [Int.fdiv_eq_tdiv]
  by_cases dv : b ∣ a
  · have e0 : a.tmod b = 0 := hd.mpr dv
    rw [if_neg b0, if_pos dv]
    have e1 : a.tdiv b * b = a := by omega
    rw [if_pos e1, ite_self, Int.sub_zero]
  · have e0 : ¬ a.tmod b = 0 := fun q => dv (hd.mp q)
    rw [if_neg b0, if_neg dv]
    have e1 : ¬ a.tdiv b * b = a := by omega
    rw [if_neg e1]
    have sg1 : 0 ≤ b → b.sign = 1 := fun q => Int.sign_eq_one_of_pos (by omega)
    have sg2 : ¬ 0 ≤ b → b.sign = -1 := fun q => Int.sign_eq_neg_one_of_neg (by omega)
    by_cases pa : 0 ≤ a <;> by_cases pb : 0 ≤ b <;> simp [pa, pb, sg1, sg2]
theorem C_held (x1 : -9223372036854775808 ≤ x) (x2 : x < 9223372036854775808) : mm_M mm_T0 (d + 1) 45 [.long (jI x)] h = some (some (.int (iI (clp x))), h) := by
  rw [U_X1_held]
  simp (disch := omega) only [iI_lit, jI_lit, iI_neg, jI_neg, iI_add, iI_sub, iI_mul, jI_add, jI_sub, jI_mul, rdI, rdL, iI_lt, iI_le, iI_eq, iI_nat, iI_b2_0, iI_b2_1, mm_bI_some, mm_bV_some, mm_bL_some, mm_bA_some, fd_wL, fd_wR, fl_wI, fl_wR, re_wI, re_wL, re_wC, ite_true, ite_false, not_true_eq_false, not_false_eq_true, lq_ge, lq_le, lq_gt, lq_lt, lq_eq, jI_lt, jI_le, jI_eq]
  unfold clp
  by_cases q1 : x ≤ 1000000
  · by_cases q2 : -1000000 ≤ x
    · simp (disch := omega) only [iI_lit, jI_lit, iI_neg, jI_neg, iI_add, iI_sub, iI_mul, jI_add, jI_sub, jI_mul, rdI, rdL, iI_lt, iI_le, iI_eq, iI_nat, iI_b2_0, iI_b2_1, mm_bI_some, mm_bV_some, mm_bL_some, mm_bA_some, fd_wL, fd_wR, fl_wI, fl_wR, re_wI, re_wL, re_wC, ite_true, ite_false, not_true_eq_false, not_false_eq_true, lq_ge, lq_le, lq_gt, lq_lt, lq_eq, jI_lt, jI_le, jI_eq, if_pos, if_neg, jI_iI]
    · simp (disch := omega) only [iI_lit, jI_lit, iI_neg, jI_neg, iI_add, iI_sub, iI_mul, jI_add, jI_sub, jI_mul, rdI, rdL, iI_lt, iI_le, iI_eq, iI_nat, iI_b2_0, iI_b2_1, mm_bI_some, mm_bV_some, mm_bL_some, mm_bA_some, fd_wL, fd_wR, fl_wI, fl_wR, re_wI, re_wL, re_wC, ite_true, ite_false, not_true_eq_false, not_false_eq_true, lq_ge, lq_le, lq_gt, lq_lt, lq_eq, jI_lt, jI_le, jI_eq, if_pos, if_neg]
  · simp (disch := omega) only [iI_lit, jI_lit, iI_neg, jI_neg, iI_add, iI_sub, iI_mul, jI_add, jI_sub, jI_mul, rdI, rdL, iI_lt, iI_le, iI_eq, iI_nat, iI_b2_0, iI_b2_1, mm_bI_some, mm_bV_some, mm_bL_some, mm_bA_some, fd_wL, fd_wR, fl_wI, fl_wR, re_wI, re_wL, re_wC, ite_true, ite_false, not_true_eq_false, not_false_eq_true, lq_ge, lq_le, lq_gt, lq_lt, lq_eq, jI_lt, jI_le, jI_eq, if_pos, if_neg]
/-- a code as the class writes it -/
def wd (k : Int) : Int := if k = 0 then 3 else if k = 1 then 4 else if k = 2 then 5 else if k = 3 then 15 else if k = 4 then 11 else if k = 5 then 12 else if k = 6 then 13 else if k = 7 then 14 else if k = 8 then 16 else if k = 9 then 17 else 18
def tcj (c : Int) : Int := if c = 1 then 11000 else if c = 2 then 11001 else if c = 3 then 11002 else if c = 4 then 11003 else if c = 5 then 11007 else if c = 6 then 11008 else if c = 7 then 11004 else if c = 8 then 11005 else if c = 9 then 11006 else if c = 10 then 11009 else 11010
def tc (c : Int) : Int := if 1000 ≤ c then c - 1000 else if 60 ≤ c then 11012 + (c - 60) else if 40 ≤ c then 10000 + wd (c - 40) else if c = 13 then 1 else if c = 12 then 11011 else tcj c
theorem C_j1 {z : Int} (z0 : z = 11000) (a1 : -1000000 ≤ a) (a2 : a ≤ 1000000) (b1 : -1000000 ≤ b) (b2' : b ≤ 1000000) : mm_M mm_T0 (d + 2) 44 [.int (iI z), .int (iI a), .int (iI b)] h = some (some (.int (iI (clp (a + b)))), h) := by
  rw [U_X1_joined]
  simp (disch := omega) only [iI_lit, jI_lit, iI_neg, jI_neg, iI_add, iI_sub, iI_mul, jI_add, jI_sub, jI_mul, rdI, rdL, iI_lt, iI_le, iI_eq, iI_nat, iI_b2_0, iI_b2_1, mm_bI_some, mm_bV_some, mm_bL_some, mm_bA_some, fd_wL, fd_wR, fl_wI, fl_wR, re_wI, re_wL, re_wC, ite_true, ite_false, not_true_eq_false, not_false_eq_true, lq_ge, lq_le, lq_gt, lq_lt, lq_eq, jI_lt, jI_le, jI_eq, if_pos, if_neg, iI_jI, C_held]
theorem C_j2 {z : Int} (z0 : z = 11001) (a1 : -1000000 ≤ a) (a2 : a ≤ 1000000) (b1 : -1000000 ≤ b) (b2' : b ≤ 1000000) : mm_M mm_T0 (d + 2) 44 [.int (iI z), .int (iI a), .int (iI b)] h = some (some (.int (iI (clp (a - b)))), h) := by
  rw [U_X1_joined]
  simp (disch := omega) only [iI_lit, jI_lit, iI_neg, jI_neg, iI_add, iI_sub, iI_mul, jI_add, jI_sub, jI_mul, rdI, rdL, iI_lt, iI_le, iI_eq, iI_nat, iI_b2_0, iI_b2_1, mm_bI_some, mm_bV_some, mm_bL_some, mm_bA_some, fd_wL, fd_wR, fl_wI, fl_wR, re_wI, re_wL, re_wC, ite_true, ite_false, not_true_eq_false, not_false_eq_true, lq_ge, lq_le, lq_gt, lq_lt, lq_eq, jI_lt, jI_le, jI_eq, if_pos, if_neg, iI_jI, C_held]
theorem C_j3 {z : Int} (z0 : z = 11002) (a1 : -1000000 ≤ a) (a2 : a ≤ 1000000) (b1 : -1000000 ≤ b) (b2' : b ≤ 1000000) : mm_M mm_T0 (d + 2) 44 [.int (iI z), .int (iI a), .int (iI b)] h = some (some (.int (iI (clp (a * b)))), h) := by
  have hab := mul_bd a1 a2 b1 b2'
  rw [U_X1_joined]
  simp (disch := omega) only [iI_lit, jI_lit, iI_neg, jI_neg, iI_add, iI_sub, iI_mul, jI_add, jI_sub, jI_mul, rdI, rdL, iI_lt, iI_le, iI_eq, iI_nat, iI_b2_0, iI_b2_1, mm_bI_some, mm_bV_some, mm_bL_some, mm_bA_some, fd_wL, fd_wR, fl_wI, fl_wR, re_wI, re_wL, re_wC, ite_true, ite_false, not_true_eq_false, not_false_eq_true, lq_ge, lq_le, lq_gt, lq_lt, lq_eq, jI_lt, jI_le, jI_eq, if_pos, if_neg, iI_jI, C_held]
theorem C_j4 {z : Int} (z0 : z = 11003) (a1 : -1000000 ≤ a) (a2 : a ≤ 1000000) (b1 : -1000000 ≤ b) (b2' : b ≤ 1000000) : mm_M mm_T0 (d + 2) 44 [.int (iI z), .int (iI a), .int (iI b)] h = some (some (.int (iI ((if b = 0 then 0 else a.fdiv b)))), h) := by
  rw [U_X1_joined]
  by_cases b0 : b = 0
  · simp (disch := omega) only [iI_lit, jI_lit, iI_neg, jI_neg, iI_add, iI_sub, iI_mul, jI_add, jI_sub, jI_mul, rdI, rdL, iI_lt, iI_le, iI_eq, iI_nat, iI_b2_0, iI_b2_1, mm_bI_some, mm_bV_some, mm_bL_some, mm_bA_some, fd_wL, fd_wR, fl_wI, fl_wR, re_wI, re_wL, re_wC, ite_true, ite_false, not_true_eq_false, not_false_eq_true, lq_ge, lq_le, lq_gt, lq_lt, lq_eq, jI_lt, jI_le, jI_eq, if_pos, if_neg]
  · simp (disch := omega) only [iI_lit, jI_lit, iI_neg, jI_neg, iI_add, iI_sub, iI_mul, jI_add, jI_sub, jI_mul, rdI, rdL, iI_lt, iI_le, iI_eq, iI_nat, iI_b2_0, iI_b2_1, mm_bI_some, mm_bV_some, mm_bL_some, mm_bA_some, fd_wL, fd_wR, fl_wI, fl_wR, re_wI, re_wL, re_wC, ite_true, ite_false, not_true_eq_false, not_false_eq_true, lq_ge, lq_le, lq_gt, lq_lt, lq_eq, jI_lt, jI_le, jI_eq, if_pos, if_neg, J_floorDiv]
theorem C_j5 {z : Int} (z0 : z = 11007) (a1 : -1000000 ≤ a) (a2 : a ≤ 1000000) (b1 : -1000000 ≤ b) (b2' : b ≤ 1000000) : mm_M mm_T0 (d + 2) 44 [.int (iI z), .int (iI a), .int (iI b)] h = some (some (.int (iI (min a b))), h) := by
  rw [U_X1_joined]
  simp (disch := omega) only [iI_lit, jI_lit, iI_neg, jI_neg, iI_add, iI_sub, iI_mul, jI_add, jI_sub, jI_mul, rdI, rdL, iI_lt, iI_le, iI_eq, iI_nat, iI_b2_0, iI_b2_1, mm_bI_some, mm_bV_some, mm_bL_some, mm_bA_some, fd_wL, fd_wR, fl_wI, fl_wR, re_wI, re_wL, re_wC, ite_true, ite_false, not_true_eq_false, not_false_eq_true, lq_ge, lq_le, lq_gt, lq_lt, lq_eq, jI_lt, jI_le, jI_eq, if_pos, if_neg, J_min]
theorem C_j6 {z : Int} (z0 : z = 11008) (a1 : -1000000 ≤ a) (a2 : a ≤ 1000000) (b1 : -1000000 ≤ b) (b2' : b ≤ 1000000) : mm_M mm_T0 (d + 2) 44 [.int (iI z), .int (iI a), .int (iI b)] h = some (some (.int (iI (max a b))), h) := by
  rw [U_X1_joined]
  simp (disch := omega) only [iI_lit, jI_lit, iI_neg, jI_neg, iI_add, iI_sub, iI_mul, jI_add, jI_sub, jI_mul, rdI, rdL, iI_lt, iI_le, iI_eq, iI_nat, iI_b2_0, iI_b2_1, mm_bI_some, mm_bV_some, mm_bL_some, mm_bA_some, fd_wL, fd_wR, fl_wI, fl_wR, re_wI, re_wL, re_wC, ite_true, ite_false, not_true_eq_false, not_false_eq_true, lq_ge, lq_le, lq_gt, lq_lt, lq_eq, jI_lt, jI_le, jI_eq, if_pos, if_neg, J_max]
theorem C_j7 {z : Int} (z0 : z = 11004) (a1 : -1000000 ≤ a) (a2 : a ≤ 1000000) (b1 : -1000000 ≤ b) (b2' : b ≤ 1000000) : mm_M mm_T0 (d + 2) 44 [.int (iI z), .int (iI a), .int (iI b)] h = some (some (.int (iI (b2 (a < b)))), h) := by
  rw [U_X1_joined]
  by_cases q : b ≤ a
  · simp (disch := omega) only [iI_lit, jI_lit, iI_neg, jI_neg, iI_add, iI_sub, iI_mul, jI_add, jI_sub, jI_mul, rdI, rdL, iI_lt, iI_le, iI_eq, iI_nat, iI_b2_0, iI_b2_1, mm_bI_some, mm_bV_some, mm_bL_some, mm_bA_some, fd_wL, fd_wR, fl_wI, fl_wR, re_wI, re_wL, re_wC, ite_true, ite_false, not_true_eq_false, not_false_eq_true, lq_ge, lq_le, lq_gt, lq_lt, lq_eq, jI_lt, jI_le, jI_eq, if_pos, if_neg, b2]
  · simp (disch := omega) only [iI_lit, jI_lit, iI_neg, jI_neg, iI_add, iI_sub, iI_mul, jI_add, jI_sub, jI_mul, rdI, rdL, iI_lt, iI_le, iI_eq, iI_nat, iI_b2_0, iI_b2_1, mm_bI_some, mm_bV_some, mm_bL_some, mm_bA_some, fd_wL, fd_wR, fl_wI, fl_wR, re_wI, re_wL, re_wC, ite_true, ite_false, not_true_eq_false, not_false_eq_true, lq_ge, lq_le, lq_gt, lq_lt, lq_eq, jI_lt, jI_le, jI_eq, if_pos, if_neg, b2]
theorem C_j8 {z : Int} (z0 : z = 11005) (a1 : -1000000 ≤ a) (a2 : a ≤ 1000000) (b1 : -1000000 ≤ b) (b2' : b ≤ 1000000) : mm_M mm_T0 (d + 2) 44 [.int (iI z), .int (iI a), .int (iI b)] h = some (some (.int (iI (b2 (b < a)))), h) := by
  rw [U_X1_joined]
  by_cases q : a ≤ b
  · simp (disch := omega) only [iI_lit, jI_lit, iI_neg, jI_neg, iI_add, iI_sub, iI_mul, jI_add, jI_sub, jI_mul, rdI, rdL, iI_lt, iI_le, iI_eq, iI_nat, iI_b2_0, iI_b2_1, mm_bI_some, mm_bV_some, mm_bL_some, mm_bA_some, fd_wL, fd_wR, fl_wI, fl_wR, re_wI, re_wL, re_wC, ite_true, ite_false, not_true_eq_false, not_false_eq_true, lq_ge, lq_le, lq_gt, lq_lt, lq_eq, jI_lt, jI_le, jI_eq, if_pos, if_neg, b2]
  · simp (disch := omega) only [iI_lit, jI_lit, iI_neg, jI_neg, iI_add, iI_sub, iI_mul, jI_add, jI_sub, jI_mul, rdI, rdL, iI_lt, iI_le, iI_eq, iI_nat, iI_b2_0, iI_b2_1, mm_bI_some, mm_bV_some, mm_bL_some, mm_bA_some, fd_wL, fd_wR, fl_wI, fl_wR, re_wI, re_wL, re_wC, ite_true, ite_false, not_true_eq_false, not_false_eq_true, lq_ge, lq_le, lq_gt, lq_lt, lq_eq, jI_lt, jI_le, jI_eq, if_pos, if_neg, b2]
theorem C_j9 {z : Int} (z0 : z = 11006) (a1 : -1000000 ≤ a) (a2 : a ≤ 1000000) (b1 : -1000000 ≤ b) (b2' : b ≤ 1000000) : mm_M mm_T0 (d + 2) 44 [.int (iI z), .int (iI a), .int (iI b)] h = some (some (.int (iI (b2 (a = b)))), h) := by
  rw [U_X1_joined]
  by_cases q : a = b
  · simp (disch := omega) only [iI_lit, jI_lit, iI_neg, jI_neg, iI_add, iI_sub, iI_mul, jI_add, jI_sub, jI_mul, rdI, rdL, iI_lt, iI_le, iI_eq, iI_nat, iI_b2_0, iI_b2_1, mm_bI_some, mm_bV_some, mm_bL_some, mm_bA_some, fd_wL, fd_wR, fl_wI, fl_wR, re_wI, re_wL, re_wC, ite_true, ite_false, not_true_eq_false, not_false_eq_true, lq_ge, lq_le, lq_gt, lq_lt, lq_eq, jI_lt, jI_le, jI_eq, if_pos, if_neg, b2]
  · simp (disch := omega) only [iI_lit, jI_lit, iI_neg, jI_neg, iI_add, iI_sub, iI_mul, jI_add, jI_sub, jI_mul, rdI, rdL, iI_lt, iI_le, iI_eq, iI_nat, iI_b2_0, iI_b2_1, mm_bI_some, mm_bV_some, mm_bL_some, mm_bA_some, fd_wL, fd_wR, fl_wI, fl_wR, re_wI, re_wL, re_wC, ite_true, ite_false, not_true_eq_false, not_false_eq_true, lq_ge, lq_le, lq_gt, lq_lt, lq_eq, jI_lt, jI_le, jI_eq, if_pos, if_neg, b2]
theorem C_joined {k z : Int} (hz : z = tcj k) (h1 : 1 ≤ k) (h2 : k ≤ 9) (a1 : -1000000 ≤ a) (a2 : a ≤ 1000000) (b1 : -1000000 ≤ b) (b2' : b ≤ 1000000) : mm_M mm_T0 (d + 2) 44 [.int (iI z), .int (iI a), .int (iI b)] h = some (some (.int (iI (jn k a b))), h) := by
  have jd : k = 1 ∨ k = 2 ∨ k = 3 ∨ k = 4 ∨ k = 5 ∨ k = 6 ∨ k = 7 ∨ k = 8 ∨ k = 9 := by omega
  rcases jd with r | r | r | r | r | r | r | r | r
  · subst r
    rw [show jn 1 a b = clp (a + b) by simp [jn]]
    exact C_j1 (by rw [hz]; simp [tcj]) a1 a2 b1 b2'
  · subst r
    rw [show jn 2 a b = clp (a - b) by simp [jn]]
    exact C_j2 (by rw [hz]; simp [tcj]) a1 a2 b1 b2'
  · subst r
    rw [show jn 3 a b = clp (a * b) by simp [jn]]
    exact C_j3 (by rw [hz]; simp [tcj]) a1 a2 b1 b2'
  · subst r
    rw [show jn 4 a b = (if b = 0 then 0 else a.fdiv b) by simp [jn]]
    exact C_j4 (by rw [hz]; simp [tcj]) a1 a2 b1 b2'
  · subst r
    rw [show jn 5 a b = min a b by simp [jn]]
    exact C_j5 (by rw [hz]; simp [tcj]) a1 a2 b1 b2'
  · subst r
    rw [show jn 6 a b = max a b by simp [jn]]
    exact C_j6 (by rw [hz]; simp [tcj]) a1 a2 b1 b2'
  · subst r
    rw [show jn 7 a b = b2 (a < b) by simp [jn]]
    exact C_j7 (by rw [hz]; simp [tcj]) a1 a2 b1 b2'
  · subst r
    rw [show jn 8 a b = b2 (b < a) by simp [jn]]
    exact C_j8 (by rw [hz]; simp [tcj]) a1 a2 b1 b2'
  · subst r
    rw [show jn 9 a b = b2 (a = b) by simp [jn]]
    exact C_j9 (by rw [hz]; simp [tcj]) a1 a2 b1 b2'
theorem C_joinedT {k z : Int} (hz : z = tcj k) (h1 : k = 10 ∨ k = 11) (ha : vk true a) (hb : vk true b) : mm_M mm_T0 (d + 2) 44 [.int (iI z), .int (iI a), .int (iI b)] h = some (some (.int (iI (jn k a b))), h) := by
  rw [(jn_t h1 ha hb).2, U_X1_joined]
  have q1 := ha.2.2 rfl
  have q2 := hb.2.2 rfl
  rcases h1 with r | r
  · have z0 : z = 11009 := by rw [hz, r]; simp [tcj]
    simp (disch := omega) only [iI_lit, jI_lit, iI_neg, jI_neg, iI_add, iI_sub, iI_mul, jI_add, jI_sub, jI_mul, rdI, rdL, iI_lt, iI_le, iI_eq, iI_nat, iI_b2_0, iI_b2_1, mm_bI_some, mm_bV_some, mm_bL_some, mm_bA_some, fd_wL, fd_wR, fl_wI, fl_wR, re_wI, re_wL, re_wC, ite_true, ite_false, not_true_eq_false, not_false_eq_true, lq_ge, lq_le, lq_gt, lq_lt, lq_eq, jI_lt, jI_le, jI_eq, if_pos, if_neg, J_min]
  · have z0 : z = 11010 := by rw [hz, r]; simp [tcj]
    simp (disch := omega) only [iI_lit, jI_lit, iI_neg, jI_neg, iI_add, iI_sub, iI_mul, jI_add, jI_sub, jI_mul, rdI, rdL, iI_lt, iI_le, iI_eq, iI_nat, iI_b2_0, iI_b2_1, mm_bI_some, mm_bV_some, mm_bL_some, mm_bA_some, fd_wL, fd_wR, fl_wI, fl_wR, re_wI, re_wL, re_wC, ite_true, ite_false, not_true_eq_false, not_false_eq_true, lq_ge, lq_le, lq_gt, lq_lt, lq_eq, jI_lt, jI_le, jI_eq, if_pos, if_neg, J_max]
def PC (h : mm_H) (a : Nat) : List Int → Prop
  | [] => True
  | x :: r => fd h a r.length = x ∧ PC h a r
theorem PC.congr {h h' : mm_H} {a : Nat} : ∀ {st : List Int}, PC h a st → (∀ k, k < st.length → fd h' a k = fd h a k) → PC h' a st
  | [], _, _ => trivial
  | x :: r, p, e => ⟨(e r.length (by simp)).trans p.1, PC.congr p.2 (fun k hk => e k (by simp; omega))⟩
def EC (h : mm_H) (c : Nat) (st : List Int) : Prop := fd h c 6 = (st.length : Int) ∧ PC h (c + 5) st
def QC (c : Nat) : Nat → Nat → Prop := fun a k => (a = c ∧ k = 6) ∨ a = c + 5
theorem C_push (hc : mm_isC c) (e : EC h c st) (hn : st.length < 64) (x1 : -2147483648 ≤ x) (x2 : x < 2147483648) : ∃ h', mm_M mm_T0 (d + 1) 41 [.ref c, .int (iI x)] h = some (none, h') ∧ EC h' c (x :: st) ∧ Kf (QC c) nL h h' := by
  refine ⟨wI (wI h (c + 5) st.length (iI x)) c 6 (iI ((st.length : Int) + 1)), ?_, ⟨?_, ?_, ?_⟩, ?_⟩
  · rw [U_X1_push hc]
    have r : fd (wI h (c + 5) st.length (iI x)) c 6 = (st.length : Int) := (fd_wI_row (by omega)).trans e.1
    simp (disch := omega) only [iI_lit, jI_lit, iI_neg, jI_neg, iI_add, iI_sub, iI_mul, jI_add, jI_sub, jI_mul, rdI, rdL, iI_lt, iI_le, iI_eq, iI_nat, iI_b2_0, iI_b2_1, mm_bI_some, mm_bV_some, mm_bL_some, mm_bA_some, fd_wL, fd_wR, fl_wI, fl_wR, re_wI, re_wL, re_wC, ite_true, ite_false, not_true_eq_false, not_false_eq_true, lq_ge, lq_le, lq_gt, lq_lt, lq_eq, jI_lt, jI_le, jI_eq, if_pos, if_neg, e.1, Int.toNat_natCast, r]
  · rw [fd_wI_same (by omega) (by omega)]
    simp
  · rw [fd_wI_row (by omega), fd_wI_same x1 x2]
  · refine e.2.congr (fun k hk => ?_)
    rw [fd_wI_row (by omega), fd_wI_col (by omega)]
  · exact (Kf.refl.wI (Or.inr rfl)).wI (Or.inl ⟨rfl, rfl⟩)
theorem C_pop (hc : mm_isC c) (e : EC h c (x :: st)) (hn : st.length < 64) : ∃ h', mm_M mm_T0 (d + 1) 42 [.ref c] h = some (some (.int (iI x)), h') ∧ EC h' c st ∧ Kf (QC c) nL h h' := by
  have e1 : fd h c 6 = (st.length : Int) + 1 := by
    rw [e.1]
    simp
  refine ⟨wI h c 6 (iI ((st.length : Int) + 1 - 1)), ?_, ⟨?_, ?_⟩, ?_⟩
  · rw [U_X1_pop hc]
    have r : fd (wI h c 6 (iI ((st.length : Int) + 1 - 1))) c 6 = (st.length : Int) := by
      rw [fd_wI_same (by omega) (by omega)]
      omega
    have r2 : fd (wI h c 6 (iI ((st.length : Int) + 1 - 1))) (c + 5) st.length = x := (fd_wI_row (by omega)).trans e.2.1
    simp (disch := omega) only [iI_lit, jI_lit, iI_neg, jI_neg, iI_add, iI_sub, iI_mul, jI_add, jI_sub, jI_mul, rdI, rdL, iI_lt, iI_le, iI_eq, iI_nat, iI_b2_0, iI_b2_1, mm_bI_some, mm_bV_some, mm_bL_some, mm_bA_some, fd_wL, fd_wR, fl_wI, fl_wR, re_wI, re_wL, re_wC, ite_true, ite_false, not_true_eq_false, not_false_eq_true, lq_ge, lq_le, lq_gt, lq_lt, lq_eq, jI_lt, jI_le, jI_eq, if_pos, if_neg, e1, Int.toNat_natCast, r, r2]
  · rw [fd_wI_same (by omega) (by omega)]
    omega
  · exact e.2.2.congr (fun k hk => fd_wI_row (by omega))
  · exact Kf.refl.wI (Or.inl ⟨rfl, rfl⟩)
theorem C_valueOf (hc : mm_isC c) (w1 : 0 ≤ w) (w2 : w < 25) : mm_M mm_T0 (d + 1) 40 [.ref c, .int (iI w)] h = some (some (.int (iI (fd h (c + 4) w.toNat))), h) := by
  rw [U_X1_valueOf hc]
  simp (disch := omega) only [iI_lit, jI_lit, iI_neg, jI_neg, iI_add, iI_sub, iI_mul, jI_add, jI_sub, jI_mul, rdI, rdL, iI_lt, iI_le, iI_eq, iI_nat, iI_b2_0, iI_b2_1, mm_bI_some, mm_bV_some, mm_bL_some, mm_bA_some, fd_wL, fd_wR, fl_wI, fl_wR, re_wI, re_wL, re_wC, ite_true, ite_false, not_true_eq_false, not_false_eq_true, lq_ge, lq_le, lq_gt, lq_lt, lq_eq, jI_lt, jI_le, jI_eq, if_pos, if_neg]
theorem C_setValue (hc : mm_isC c) (w1 : 0 ≤ w) (w2 : w < 25) : mm_M mm_T0 (d + 1) 38 [.ref c, .int (iI w), .int (iI x)] h = some (none, wI h (c + 4) w.toNat (iI x)) := by
  rw [U_X1_setValue hc]
  simp (disch := omega) only [iI_lit, jI_lit, iI_neg, jI_neg, iI_add, iI_sub, iI_mul, jI_add, jI_sub, jI_mul, rdI, rdL, iI_lt, iI_le, iI_eq, iI_nat, iI_b2_0, iI_b2_1, mm_bI_some, mm_bV_some, mm_bL_some, mm_bA_some, fd_wL, fd_wR, fl_wI, fl_wR, re_wI, re_wL, re_wC, ite_true, ite_false, not_true_eq_false, not_false_eq_true, lq_ge, lq_le, lq_gt, lq_lt, lq_eq, jI_lt, jI_le, jI_eq, if_pos, if_neg]
theorem C_turnedN (hc : mm_isC c) (hs : mm_isS s) : mm_M mm_T0 (d + 1) 43 [.ref c, .int (iI 11011), .int (iI x), .ref s] h = some (some (.int (iI (1 - x))), h) := by
  rw [U_X1_turned hc hs]
  simp (disch := omega) only [iI_lit, jI_lit, iI_neg, jI_neg, iI_add, iI_sub, iI_mul, jI_add, jI_sub, jI_mul, rdI, rdL, iI_lt, iI_le, iI_eq, iI_nat, iI_b2_0, iI_b2_1, mm_bI_some, mm_bV_some, mm_bL_some, mm_bA_some, fd_wL, fd_wR, fl_wI, fl_wR, re_wI, re_wL, re_wC, ite_true, ite_false, not_true_eq_false, not_false_eq_true, lq_ge, lq_le, lq_gt, lq_lt, lq_eq, jI_lt, jI_le, jI_eq, if_pos, if_neg]
theorem C_turnedO (hc : mm_isC c) (hs : mm_isS s) (h8 : fd h s 10 ≤ 8) (hw : w = 0 ∨ w = 1) (x1 : -2147483648 ≤ x) (x2 : x < 2147483648) : mm_M mm_T0 (d + 2) 43 [.ref c, .int (iI (11012 + w)), .int (iI x), .ref s] h = some (some (.int (iI (if w = 0 then (if (0 ≤ fd h (c + 4) 16 ∧ fd h (c + 4) 16 < fd h s 10) ∧ (0 ≤ x ∧ x < fd h s 10) ∧ fd h (c + 4) 16 ≠ x then fd h (s + 6) (fd h (c + 4) 16 * 8 + x).toNat else 0) else (if (0 ≤ x ∧ x < fd h s 10) ∧ (0 ≤ fd h (c + 4) 16 ∧ fd h (c + 4) 16 < fd h s 10) ∧ x ≠ fd h (c + 4) 16 then fd h (s + 6) (x * 8 + fd h (c + 4) 16).toNat else 0)))), h) := by
  have := fd_lo h (c + 4) 16; have := fd_hi h (c + 4) 16
  rw [U_X1_turned hc hs]
  rcases hw with r | r <;> subst r
  · simp (disch := omega) only [iI_lit, jI_lit, iI_neg, jI_neg, iI_add, iI_sub, iI_mul, jI_add, jI_sub, jI_mul, rdI, rdL, iI_lt, iI_le, iI_eq, iI_nat, iI_b2_0, iI_b2_1, mm_bI_some, mm_bV_some, mm_bL_some, mm_bA_some, fd_wL, fd_wR, fl_wI, fl_wR, re_wI, re_wL, re_wC, ite_true, ite_false, not_true_eq_false, not_false_eq_true, lq_ge, lq_le, lq_gt, lq_lt, lq_eq, jI_lt, jI_le, jI_eq, if_pos, if_neg, S_thoughtOf hs h8]
  · simp (disch := omega) only [iI_lit, jI_lit, iI_neg, jI_neg, iI_add, iI_sub, iI_mul, jI_add, jI_sub, jI_mul, rdI, rdL, iI_lt, iI_le, iI_eq, iI_nat, iI_b2_0, iI_b2_1, mm_bI_some, mm_bV_some, mm_bL_some, mm_bA_some, fd_wL, fd_wR, fl_wI, fl_wR, re_wI, re_wL, re_wC, ite_true, ite_false, not_true_eq_false, not_false_eq_true, lq_ge, lq_le, lq_gt, lq_lt, lq_eq, jI_lt, jI_le, jI_eq, if_pos, if_neg, S_thoughtOf hs h8]
theorem C_isTold (hc : mm_isC c) (w1 : 0 ≤ w) (w2 : w < 4) : mm_M mm_T0 (d + 1) 34 [.ref c, .int (iI w)] h = some (some (.int (iI (b2 (fd h (c + 2) w.toNat ≠ -1)))), h) := by
  have := fd_lo h (c + 2) w.toNat; have := fd_hi h (c + 2) w.toNat
  rw [U_X1_isTold hc]
  unfold b2
  by_cases q : fd h (c + 2) w.toNat = -1 <;> simp (disch := omega) only [iI_lit, jI_lit, iI_neg, jI_neg, iI_add, iI_sub, iI_mul, jI_add, jI_sub, jI_mul, rdI, rdL, iI_lt, iI_le, iI_eq, iI_nat, iI_b2_0, iI_b2_1, mm_bI_some, mm_bV_some, mm_bL_some, mm_bA_some, fd_wL, fd_wR, fl_wI, fl_wR, re_wI, re_wL, re_wC, ite_true, ite_false, not_true_eq_false, not_false_eq_true, lq_ge, lq_le, lq_gt, lq_lt, lq_eq, jI_lt, jI_le, jI_eq, if_pos, if_neg]
end EVC
