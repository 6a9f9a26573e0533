/-! tells -/
theorem andand (A B : Int32) : (A &&& B) &&& iI 1 = (A &&& iI 1) &&& (B &&& iI 1) := by
  rw [Int32.and_assoc, Int32.and_assoc, Int32.and_comm B (iI 1), ← Int32.and_assoc (iI 1), Int32.and_self]
theorem and01 : ∀ u, u < 2 → ∀ v, v < 2 → iI (u : Nat) &&& iI (v : Nat) = iI ((u * v : Nat) : Int) := by decide +kernel
theorem bb_tab {x a b : Nat} (hx : x < 1024) (ha : a < 10) (hb : b < 10) : ((iI (x : Nat) >>> (iI (a : Nat) &&& iI 31)) &&& (iI (x : Nat) >>> (iI (b : Nat) &&& iI 31))) &&& iI 1 = iI ((x / 2 ^ a % 2 * (x / 2 ^ b % 2) : Nat) : Int) := by
  rw [andand, shr_tab hx ha, shr_tab hx hb, and01 _ (Nat.mod_lt _ (by omega)) _ (Nat.mod_lt _ (by omega))]
section TEL
variable {d t : Nat} {h : mm_H}
/-- how many from b on, of k, come out as a does -/
def cIn (F : Int → Int) (W : Int → Nat → Int) (y a : Nat) : Nat → Nat → Int → Int
  | 0, _, m => m
  | k + 1, b, m => cIn F W y a k (b + 1) (m + if F (a : Nat) = 1 ∧ F (b : Nat) = 1 ∧ W (a : Nat) y = W (b : Nat) y then 1 else 0)
def cOut (F : Int → Int) (W : Int → Nat → Int) (y : Nat) : Nat → Nat → Int → Int
  | 0, _, m => m
  | k + 1, a, m => cOut F W y k (a + 1) (max m (cIn F W y a 10 0 0))
theorem cIn_b {F : Int → Int} {W : Int → Nat → Int} {y a : Nat} : ∀ (k b : Nat) (m : Int), m ≤ cIn F W y a k b m ∧ cIn F W y a k b m ≤ m + k
  | 0, b, m => by rw [cIn]; omega
  | k + 1, b, m => by
    have ih := cIn_b (F := F) (W := W) (y := y) (a := a) k (b + 1) (m + if F (a : Nat) = 1 ∧ F (b : Nat) = 1 ∧ W (a : Nat) y = W (b : Nat) y then 1 else 0)
    rw [cIn]
    revert ih
    split <;> intro ih <;> omega
theorem cIn_0 {F : Int → Int} {W : Int → Nat → Int} {y a : Nat} (c : F (a : Nat) ≠ 1) : ∀ (k b : Nat) (m : Int), cIn F W y a k b m = m
  | 0, b, m => rfl
  | k + 1, b, m => by
    rw [cIn, if_neg (fun z => c z.1), Int.add_zero]
    exact cIn_0 c k (b + 1) m
theorem cOut_b {F : Int → Int} {W : Int → Nat → Int} {y : Nat} : ∀ (k a : Nat) (m : Int), (0 ≤ m ∧ m ≤ 10) → 0 ≤ cOut F W y k a m ∧ cOut F W y k a m ≤ 10
  | 0, a, m, hm => hm
  | k + 1, a, m, hm => by
    have := cIn_b (F := F) (W := W) (y := y) (a := a) 10 0 0
    rw [cOut]
    exact cOut_b k (a + 1) _ (by omega)
/-- looks that the class has laid -/
def LbT (g : mm_H) (W : Int → Nat → Int) (last : Int) (j : Nat) : Prop := ∀ v, v < j → ∀ y : Nat, 1 ≤ y → (y : Int) ≤ last → fd g 217 (31 * v + y) = W (v : Nat) y
set_option maxHeartbeats 8000000 in
theorem C_lookBy {W : Int → Nat → Int} {last : Int} {a y : Nat} (L : LbT h W last 10) (l : last ≤ 30) (ha : a < 10) (y1 : 1 ≤ y) (y2 : (y : Int) ≤ last) : mm_M mm_T0 (d + 1) 32 [.ref 204, .int (iI (a : Nat)), .int (iI (y : Nat))] h = some (some (.int (iI (W (a : Nat) y))), h) := by
  have e : (((a : Nat) : Int) * 31 + (y : Nat)).toNat = 31 * a + y := by omega
  have v := L a ha y y1 y2
  rw [U_X0_lookBy]
  simp (disch := omega) only [iI_lit, jI_lit, iI_neg, jI_neg, iI_add, iI_sub, iI_mul, jI_add, jI_sub, jI_mul, rdI, rdL, iI_lt, iI_le, iI_eq, iI_nat, iI_b2_0, iI_b2_1, mm_bI_some, mm_bV_some, mm_bL_some, mm_bA_some, fd_wL, fd_wR, fl_wI, fl_wR, re_wI, re_wL, re_wC, ite_true, ite_false, not_true_eq_false, not_false_eq_true, lq_ge, lq_le, lq_gt, lq_lt, lq_eq, jI_lt, jI_le, jI_eq, if_pos, if_neg, e, v]
set_option maxHeartbeats 8000000 in
theorem C_most_18 {F : Int → Int} {W : Int → Nat → Int} {last m : Int} {a y : Nat} (hF : ∀ k, 0 ≤ F k ∧ F k ≤ 1) (L : LbT h W last 10) (l : last ≤ 30) (ha : a < 10) (y1 : 1 ≤ y) (y2 : (y : Int) ≤ last) (m0 : 0 ≤ m ∧ m ≤ 100) : ∀ (k b : Nat) (x : Int), b + k = 10 → (0 ≤ x ∧ x ≤ b) → mm_D (mm_M mm_T0 (d + 1)) cd_X0_mostLeft 18 [.ref 204, .int (iI ((setN F 10 : Nat) : Int)), .int (iI (y : Nat)), .int (iI m), .int (iI (a : Nat)), .int (iI x), .int (iI (b : Nat)), .null] [] h = mm_D (mm_M mm_T0 (d + 1)) cd_X0_mostLeft 5 [.ref 204, .int (iI ((setN F 10 : Nat) : Int)), .int (iI (y : Nat)), .int (iI (max m (cIn F W y a k b x))), .int (iI ((a + 1 : Nat) : Int)), .null, .null, .null] [] h
  | 0, b, x, bk, hx => by
    have e1 : ((a : Nat) : Int) + 1 = ((a + 1 : Nat) : Int) := by omega
    rw [cIn]
    rw [U_X0_mostLeft_18]
    simp (disch := omega) only [iI_lit, jI_lit, iI_neg, jI_neg, iI_add, iI_sub, iI_mul, jI_add, jI_sub, jI_mul, rdI, rdL, iI_lt, iI_le, iI_eq, iI_nat, iI_b2_0, iI_b2_1, mm_bI_some, mm_bV_some, mm_bL_some, mm_bA_some, fd_wL, fd_wR, fl_wI, fl_wR, re_wI, re_wL, re_wC, ite_true, ite_false, not_true_eq_false, not_false_eq_true, lq_ge, lq_le, lq_gt, lq_lt, lq_eq, jI_lt, jI_le, jI_eq, if_pos, if_neg, J_max, e1]
  | k + 1, b, x, bk, hx => by
    have sl := setN_lt (f := F) 10
    have bt := bb_tab (x := setN F 10) (a := a) (b := b) (by omega) ha (by omega)
    have sa := setN_bit hF 10 (by omega) a ha
    have sb := setN_bit hF 10 (by omega) b (by omega)
    have fa := hF (a : Nat)
    have fb := hF (b : Nat)
    have e1 : ((b : Nat) : Int) + 1 = ((b + 1 : Nat) : Int) := by omega
    have pm' : ((setN F 10 / 2 ^ a % 2 * (setN F 10 / 2 ^ b % 2) : Nat) : Int) = F (a : Nat) * F (b : Nat) := by
      rw [Int.natCast_mul, sa, sb]
    rw [pm'] at bt
    have va := C_lookBy (d := d) (a := a) L l ha y1 y2
    have vb := C_lookBy (d := d) (a := b) L l (by omega) y1 y2
    have ba : -2147483648 ≤ W (a : Nat) y ∧ W (a : Nat) y < 2147483648 := by rw [← L a ha y y1 y2]; exact ⟨fd_lo _ _ _, fd_hi _ _ _⟩
    have bb : -2147483648 ≤ W (b : Nat) y ∧ W (b : Nat) y < 2147483648 := by rw [← L b (by omega) y y1 y2]; exact ⟨fd_lo _ _ _, fd_hi _ _ _⟩
    rw [cIn]
    by_cases c1 : F (a : Nat) = 1 ∧ F (b : Nat) = 1
    · rw [c1.1, c1.2, Int.mul_one] at bt
      by_cases c2 : W (a : Nat) y = W (b : Nat) y
      · rw [if_pos ⟨c1.1, c1.2, c2⟩, ← C_most_18 hF L l ha y1 y2 m0 k (b + 1) (x + 1) (by omega) (by omega)]
        rw [U_X0_mostLeft_18]
        simp (disch := omega) only [iI_lit, jI_lit, iI_neg, jI_neg, iI_add, iI_sub, iI_mul, jI_add, jI_sub, jI_mul, rdI, rdL, iI_lt, iI_le, iI_eq, iI_nat, iI_b2_0, iI_b2_1, mm_bI_some, mm_bV_some, mm_bL_some, mm_bA_some, fd_wL, fd_wR, fl_wI, fl_wR, re_wI, re_wL, re_wC, ite_true, ite_false, not_true_eq_false, not_false_eq_true, lq_ge, lq_le, lq_gt, lq_lt, lq_eq, jI_lt, jI_le, jI_eq, if_pos, if_neg, bt, va, vb, e1]
      · rw [if_neg (fun z => c2 z.2.2), Int.add_zero, ← C_most_18 hF L l ha y1 y2 m0 k (b + 1) x (by omega) (by omega)]
        rw [U_X0_mostLeft_18]
        simp (disch := omega) only [iI_lit, jI_lit, iI_neg, jI_neg, iI_add, iI_sub, iI_mul, jI_add, jI_sub, jI_mul, rdI, rdL, iI_lt, iI_le, iI_eq, iI_nat, iI_b2_0, iI_b2_1, mm_bI_some, mm_bV_some, mm_bL_some, mm_bA_some, fd_wL, fd_wR, fl_wI, fl_wR, re_wI, re_wL, re_wC, ite_true, ite_false, not_true_eq_false, not_false_eq_true, lq_ge, lq_le, lq_gt, lq_lt, lq_eq, jI_lt, jI_le, jI_eq, if_pos, if_neg, bt, va, vb, e1, Int.add_zero]
    · have z : F (a : Nat) * F (b : Nat) = 0 := by
        rcases Int.lt_or_le (F (a : Nat)) 1 with q | q
        · rw [show F (a : Nat) = 0 by omega, Int.zero_mul]
        · rw [show F (b : Nat) = 0 by omega, Int.mul_zero]
      rw [z] at bt
      rw [if_neg (fun z => c1 ⟨z.1, z.2.1⟩), Int.add_zero, ← C_most_18 hF L l ha y1 y2 m0 k (b + 1) x (by omega) (by omega)]
      rw [U_X0_mostLeft_18]
      simp (disch := omega) only [iI_lit, jI_lit, iI_neg, jI_neg, iI_add, iI_sub, iI_mul, jI_add, jI_sub, jI_mul, rdI, rdL, iI_lt, iI_le, iI_eq, iI_nat, iI_b2_0, iI_b2_1, mm_bI_some, mm_bV_some, mm_bL_some, mm_bA_some, fd_wL, fd_wR, fl_wI, fl_wR, re_wI, re_wL, re_wC, ite_true, ite_false, not_true_eq_false, not_false_eq_true, lq_ge, lq_le, lq_gt, lq_lt, lq_eq, jI_lt, jI_le, jI_eq, if_pos, if_neg, bt, e1, Int.add_zero]
set_option maxHeartbeats 8000000 in
theorem C_most_5 {F : Int → Int} {W : Int → Nat → Int} {last : Int} {y : Nat} (hF : ∀ k, 0 ≤ F k ∧ F k ≤ 1) (L : LbT h W last 10) (l : last ≤ 30) (y1 : 1 ≤ y) (y2 : (y : Int) ≤ last) : ∀ (k a : Nat) (m : Int), a + k = 10 → (0 ≤ m ∧ m ≤ 10) → mm_D (mm_M mm_T0 (d + 1)) cd_X0_mostLeft 5 [.ref 204, .int (iI ((setN F 10 : Nat) : Int)), .int (iI (y : Nat)), .int (iI m), .int (iI (a : Nat)), .null, .null, .null] [] h = some (some (.int (iI (cOut F W y k a m))), h)
  | 0, a, m, ak, hm => by
    rw [cOut]
    rw [U_X0_mostLeft_5]
    simp (disch := omega) only [iI_lit, jI_lit, iI_neg, jI_neg, iI_add, iI_sub, iI_mul, jI_add, jI_sub, jI_mul, rdI, rdL, iI_lt, iI_le, iI_eq, iI_nat, iI_b2_0, iI_b2_1, mm_bI_some, mm_bV_some, mm_bL_some, mm_bA_some, fd_wL, fd_wR, fl_wI, fl_wR, re_wI, re_wL, re_wC, ite_true, ite_false, not_true_eq_false, not_false_eq_true, lq_ge, lq_le, lq_gt, lq_lt, lq_eq, jI_lt, jI_le, jI_eq, if_pos, if_neg]
  | k + 1, a, m, ak, hm => by
    have b := cIn_b (F := F) (W := W) (y := y) (a := a) 10 0 0
    have e := C_most_18 (d := d) (m := m) hF L l (a := a) (by omega) y1 y2 (by omega) 10 0 0 (by omega) (by omega)
    rw [show ((0 : Nat) : Int) = 0 from rfl] at e
    rw [cOut, ← C_most_5 hF L l y1 y2 k (a + 1) (max m (cIn F W y a 10 0 0)) (by omega) (by omega), ← e, U_X0_mostLeft_5]
    simp (disch := omega) only [iI_lit, jI_lit, iI_neg, jI_neg, iI_add, iI_sub, iI_mul, jI_add, jI_sub, jI_mul, rdI, rdL, iI_lt, iI_le, iI_eq, iI_nat, iI_b2_0, iI_b2_1, mm_bI_some, mm_bV_some, mm_bL_some, mm_bA_some, fd_wL, fd_wR, fl_wI, fl_wR, re_wI, re_wL, re_wC, ite_true, ite_false, not_true_eq_false, not_false_eq_true, lq_ge, lq_le, lq_gt, lq_lt, lq_eq, jI_lt, jI_le, jI_eq, if_pos, if_neg]
set_option maxHeartbeats 8000000 in
theorem C_most {F : Int → Int} {W : Int → Nat → Int} {last : Int} {y : Nat} (hF : ∀ k, 0 ≤ F k ∧ F k ≤ 1) (L : LbT h W last 10) (l : last ≤ 30) (y1 : 1 ≤ y) (y2 : (y : Int) ≤ last) : mm_M mm_T0 (d + 2) 31 [.ref 204, .int (iI ((setN F 10 : Nat) : Int)), .int (iI (y : Nat))] h = some (some (.int (iI (cOut F W y 10 0 0))), h) := by
  rw [U_X0_mostLeft]
  exact C_most_5 hF L l y1 y2 10 0 0 (by omega) (by omega)
set_option maxHeartbeats 8000000 in
theorem R_most_28 {F : Int → Int} {W : Int → Nat → Int} {m : Int} {a y : Nat} (hF : ∀ k, 0 ≤ F k ∧ F k ≤ 1) (w : Wys h F W 10) (ha : a < 10) (fa : F (a : Nat) = 1) (y2 : y < 31) (m0 : 0 ≤ m ∧ m ≤ 100) : ∀ (k b : Nat) (x : Int), b + k = 10 → (0 ≤ x ∧ x ≤ b) → mm_D (mm_M mm_T0 d) cd_X12_mostAlike 28 [.ref 264, .int (iI (y : Nat)), .int (iI m), .int (iI (a : Nat)), .int (iI x), .int (iI (b : Nat))] [] h = mm_D (mm_M mm_T0 d) cd_X12_mostAlike 4 [.ref 264, .int (iI (y : Nat)), .int (iI (max m (cIn F W y a k b x))), .int (iI ((a + 1 : Nat) : Int)), .null, .null] [] h
  | 0, b, x, bk, hx => by
    have e1 : ((a : Nat) : Int) + 1 = ((a + 1 : Nat) : Int) := by omega
    rw [cIn]
    by_cases c : x ≤ m
    · rw [show max m x = m by omega]
      rw [U_X12_mostAlike_28]
      simp (disch := omega) only [iI_lit, jI_lit, iI_neg, jI_neg, iI_add, iI_sub, iI_mul, jI_add, jI_sub, jI_mul, rdI, rdL, iI_lt, iI_le, iI_eq, iI_nat, iI_b2_0, iI_b2_1, mm_bI_some, mm_bV_some, mm_bL_some, mm_bA_some, fd_wL, fd_wR, fl_wI, fl_wR, re_wI, re_wL, re_wC, ite_true, ite_false, not_true_eq_false, not_false_eq_true, lq_ge, lq_le, lq_gt, lq_lt, lq_eq, jI_lt, jI_le, jI_eq, if_pos, if_neg, e1]
    · rw [show max m x = x by omega]
      rw [U_X12_mostAlike_28]
      simp (disch := omega) only [iI_lit, jI_lit, iI_neg, jI_neg, iI_add, iI_sub, iI_mul, jI_add, jI_sub, jI_mul, rdI, rdL, iI_lt, iI_le, iI_eq, iI_nat, iI_b2_0, iI_b2_1, mm_bI_some, mm_bV_some, mm_bL_some, mm_bA_some, fd_wL, fd_wR, fl_wI, fl_wR, re_wI, re_wL, re_wC, ite_true, ite_false, not_true_eq_false, not_false_eq_true, lq_ge, lq_le, lq_gt, lq_lt, lq_eq, jI_lt, jI_le, jI_eq, if_pos, if_neg, e1]
  | k + 1, b, x, bk, hx => by
    have fb := hF (b : Nat)
    have e1 : ((b : Nat) : Int) + 1 = ((b + 1 : Nat) : Int) := by omega
    have en : ((b : Nat) : Int).toNat = b := by omega
    have v5 := w.1 b (by omega)
    have i1 : (31 * ((a : Nat) : Int) + (y : Nat)).toNat = 31 * a + y := by omega
    have i2 : (31 * ((b : Nat) : Int) + (y : Nat)).toNat = 31 * b + y := by omega
    have u1 := w.2.1 a ha y y2
    have u2 := w.2.1 b (by omega) y y2
    have ba : -2147483648 ≤ W (a : Nat) y ∧ W (a : Nat) y < 2147483648 := by rw [← u1]; exact ⟨fd_lo _ _ _, fd_hi _ _ _⟩
    have bb : -2147483648 ≤ W (b : Nat) y ∧ W (b : Nat) y < 2147483648 := by rw [← u2]; exact ⟨fd_lo _ _ _, fd_hi _ _ _⟩
    rw [cIn]
    by_cases c1 : F (b : Nat) = 1
    · by_cases c2 : W (a : Nat) y = W (b : Nat) y
      · rw [if_pos ⟨fa, c1, c2⟩, ← R_most_28 hF w ha fa y2 m0 k (b + 1) (x + 1) (by omega) (by omega)]
        rw [U_X12_mostAlike_28]
        simp (disch := omega) only [iI_lit, jI_lit, iI_neg, jI_neg, iI_add, iI_sub, iI_mul, jI_add, jI_sub, jI_mul, rdI, rdL, iI_lt, iI_le, iI_eq, iI_nat, iI_b2_0, iI_b2_1, mm_bI_some, mm_bV_some, mm_bL_some, mm_bA_some, fd_wL, fd_wR, fl_wI, fl_wR, re_wI, re_wL, re_wC, ite_true, ite_false, not_true_eq_false, not_false_eq_true, lq_ge, lq_le, lq_gt, lq_lt, lq_eq, jI_lt, jI_le, jI_eq, if_pos, if_neg, en, v5, c1, i1, i2, u1, u2, e1]
      · rw [if_neg (fun z => c2 z.2.2), Int.add_zero, ← R_most_28 hF w ha fa y2 m0 k (b + 1) x (by omega) (by omega)]
        rw [U_X12_mostAlike_28]
        simp (disch := omega) only [iI_lit, jI_lit, iI_neg, jI_neg, iI_add, iI_sub, iI_mul, jI_add, jI_sub, jI_mul, rdI, rdL, iI_lt, iI_le, iI_eq, iI_nat, iI_b2_0, iI_b2_1, mm_bI_some, mm_bV_some, mm_bL_some, mm_bA_some, fd_wL, fd_wR, fl_wI, fl_wR, re_wI, re_wL, re_wC, ite_true, ite_false, not_true_eq_false, not_false_eq_true, lq_ge, lq_le, lq_gt, lq_lt, lq_eq, jI_lt, jI_le, jI_eq, if_pos, if_neg, en, v5, c1, i1, i2, u1, u2, e1]
    · have z : F (b : Nat) = 0 := by omega
      rw [if_neg (fun z => c1 z.2.1), Int.add_zero, ← R_most_28 hF w ha fa y2 m0 k (b + 1) x (by omega) (by omega)]
      rw [U_X12_mostAlike_28]
      simp (disch := omega) only [iI_lit, jI_lit, iI_neg, jI_neg, iI_add, iI_sub, iI_mul, jI_add, jI_sub, jI_mul, rdI, rdL, iI_lt, iI_le, iI_eq, iI_nat, iI_b2_0, iI_b2_1, mm_bI_some, mm_bV_some, mm_bL_some, mm_bA_some, fd_wL, fd_wR, fl_wI, fl_wR, re_wI, re_wL, re_wC, ite_true, ite_false, not_true_eq_false, not_false_eq_true, lq_ge, lq_le, lq_gt, lq_lt, lq_eq, jI_lt, jI_le, jI_eq, if_pos, if_neg, en, v5, z, e1]
set_option maxHeartbeats 8000000 in
theorem R_most_4 {F : Int → Int} {W : Int → Nat → Int} {y : Nat} (hF : ∀ k, 0 ≤ F k ∧ F k ≤ 1) (w : Wys h F W 10) (y2 : y < 31) : ∀ (k a : Nat) (m : Int), a + k = 10 → (0 ≤ m ∧ m ≤ 10) → mm_D (mm_M mm_T0 d) cd_X12_mostAlike 4 [.ref 264, .int (iI (y : Nat)), .int (iI m), .int (iI (a : Nat)), .null, .null] [] h = some (some (.int (iI (cOut F W y k a m))), h)
  | 0, a, m, ak, hm => by
    rw [cOut]
    rw [U_X12_mostAlike_4]
    simp (disch := omega) only [iI_lit, jI_lit, iI_neg, jI_neg, iI_add, iI_sub, iI_mul, jI_add, jI_sub, jI_mul, rdI, rdL, iI_lt, iI_le, iI_eq, iI_nat, iI_b2_0, iI_b2_1, mm_bI_some, mm_bV_some, mm_bL_some, mm_bA_some, fd_wL, fd_wR, fl_wI, fl_wR, re_wI, re_wL, re_wC, ite_true, ite_false, not_true_eq_false, not_false_eq_true, lq_ge, lq_le, lq_gt, lq_lt, lq_eq, jI_lt, jI_le, jI_eq, if_pos, if_neg]
  | k + 1, a, m, ak, hm => by
    have b := cIn_b (F := F) (W := W) (y := y) (a := a) 10 0 0
    have fa := hF (a : Nat)
    have v5 := w.1 a (by omega)
    have en : ((a : Nat) : Int).toNat = a := by omega
    have e1 : ((a : Nat) : Int) + 1 = ((a + 1 : Nat) : Int) := by omega
    by_cases c : F (a : Nat) = 1
    · have e := R_most_28 (d := d) (m := m) hF w (a := a) (by omega) c y2 (by omega) 10 0 0 (by omega) (by omega)
      rw [show ((0 : Nat) : Int) = 0 from rfl] at e
      rw [cOut, ← R_most_4 hF w y2 k (a + 1) (max m (cIn F W y a 10 0 0)) (by omega) (by omega), ← e, U_X12_mostAlike_4]
      simp (disch := omega) only [iI_lit, jI_lit, iI_neg, jI_neg, iI_add, iI_sub, iI_mul, jI_add, jI_sub, jI_mul, rdI, rdL, iI_lt, iI_le, iI_eq, iI_nat, iI_b2_0, iI_b2_1, mm_bI_some, mm_bV_some, mm_bL_some, mm_bA_some, fd_wL, fd_wR, fl_wI, fl_wR, re_wI, re_wL, re_wC, ite_true, ite_false, not_true_eq_false, not_false_eq_true, lq_ge, lq_le, lq_gt, lq_lt, lq_eq, jI_lt, jI_le, jI_eq, if_pos, if_neg, en, v5, c]
    · have z : F (a : Nat) = 0 := by omega
      rw [cOut, cIn_0 c, show max m 0 = m by omega, ← R_most_4 hF w y2 k (a + 1) m (by omega) hm, U_X12_mostAlike_4]
      simp (disch := omega) only [iI_lit, jI_lit, iI_neg, jI_neg, iI_add, iI_sub, iI_mul, jI_add, jI_sub, jI_mul, rdI, rdL, iI_lt, iI_le, iI_eq, iI_nat, iI_b2_0, iI_b2_1, mm_bI_some, mm_bV_some, mm_bL_some, mm_bA_some, fd_wL, fd_wR, fl_wI, fl_wR, re_wI, re_wL, re_wC, ite_true, ite_false, not_true_eq_false, not_false_eq_true, lq_ge, lq_le, lq_gt, lq_lt, lq_eq, jI_lt, jI_le, jI_eq, if_pos, if_neg, en, v5, z, e1]
set_option maxHeartbeats 8000000 in
theorem R_most {F : Int → Int} {W : Int → Nat → Int} {y : Nat} (hF : ∀ k, 0 ≤ F k ∧ F k ≤ 1) (w : Wys h F W 10) (y2 : y < 31) : mm_M mm_T0 (d + 1) 273 [.ref 264, .int (iI (y : Nat))] h = some (some (.int (iI (cOut F W y 10 0 0))), h) := by
  rw [U_X12_mostAlike]
  exact R_most_4 hF w y2 10 0 0 (by omega) (by omega)
/-- the first year from y on, of k, that leaves fewest: year and how many -/
def tlF (F : Int → Int) (W : Int → Nat → Int) : Nat → Nat → Int × Int → Int × Int
  | 0, _, s => s
  | k + 1, y, s => tlF F W k (y + 1) (if cOut F W y 10 0 0 < s.2 then ((y : Nat), cOut F W y 10 0 0) else s)
def BdL (s : Int × Int) : Prop := (s.1 = -1 ∧ s.2 = 11) ∨ ((1 ≤ s.1 ∧ s.1 ≤ 30) ∧ (0 ≤ s.2 ∧ s.2 ≤ 10))
set_option maxHeartbeats 8000000 in
theorem C_tell_117 {F : Int → Int} {W : Int → Nat → Int} {last : Int} (ht : mm_isT t) (hF : ∀ k, 0 ≤ F k ∧ F k ≤ 1) (l : last ≤ 30) (nz : 0 < setN F 10) : ∀ (k y : Nat) (g : mm_H) (s : Int × Int), ((y + k : Nat) : Int) = last + 1 → 1 ≤ y → LbT g W last 10 → BdL s → fd g 204 9 = s.1 → fd g 204 10 = s.2 → ∃ g', mm_D (mm_M mm_T0 (d + 2)) cd_X0_findTelling 117 [.ref 204, .null, .null, .null, .null, .int (iI ((setN F 10 : Nat) : Int)), .int (iI last), .int (iI (y : Nat)), .null] [] g = some (some (.int (iI (b2 ((tlF F W k y s).1 ≠ -1)))), g') ∧ BdL (tlF F W k y s) ∧ fd g' 204 9 = (tlF F W k y s).1 ∧ fd g' 204 10 = (tlF F W k y s).2 ∧ Kf (fun a k => a = 204 ∧ (k = 9 ∨ k = 10)) nL g g'
  | 0, y, g, s, yk, y1, L, B, c9, c10 => by
    have sl := setN_lt (f := F) 10
    refine ⟨g, ?_, B, c9, c10, Kf.refl⟩
    have B' := B
    unfold BdL at B'
    rw [tlF]
    by_cases z : s.1 = -1
    · rw [b2_f (by omega)]
      rw [U_X0_findTelling_117 ht isS_13]
      simp (disch := omega) only [iI_lit, jI_lit, iI_neg, jI_neg, iI_add, iI_sub, iI_mul, jI_add, jI_sub, jI_mul, rdI, rdL, iI_lt, iI_le, iI_eq, iI_nat, iI_b2_0, iI_b2_1, mm_bI_some, mm_bV_some, mm_bL_some, mm_bA_some, fd_wL, fd_wR, fl_wI, fl_wR, re_wI, re_wL, re_wC, ite_true, ite_false, not_true_eq_false, not_false_eq_true, lq_ge, lq_le, lq_gt, lq_lt, lq_eq, jI_lt, jI_le, jI_eq, if_pos, if_neg, c9]
    · rw [b2_t z]
      rw [U_X0_findTelling_117 ht isS_13]
      simp (disch := omega) only [iI_lit, jI_lit, iI_neg, jI_neg, iI_add, iI_sub, iI_mul, jI_add, jI_sub, jI_mul, rdI, rdL, iI_lt, iI_le, iI_eq, iI_nat, iI_b2_0, iI_b2_1, mm_bI_some, mm_bV_some, mm_bL_some, mm_bA_some, fd_wL, fd_wR, fl_wI, fl_wR, re_wI, re_wL, re_wC, ite_true, ite_false, not_true_eq_false, not_false_eq_true, lq_ge, lq_le, lq_gt, lq_lt, lq_eq, jI_lt, jI_le, jI_eq, if_pos, if_neg, c9]
  | k + 1, y, g, s, yk, y1, L, B, c9, c10 => by
    have sl := setN_lt (f := F) 10
    have ml := C_most (d := d) (h := g) hF L l y1 (by omega)
    have ob := cOut_b (F := F) (W := W) (y := y) 10 0 0 (by omega)
    have e1 : ((y : Nat) : Int) + 1 = ((y + 1 : Nat) : Int) := by omega
    have B' := B
    unfold BdL at B'
    by_cases c : cOut F W y 10 0 0 < s.2
    · have kw : Kf (fun a k => a = 204 ∧ (k = 9 ∨ k = 10)) nL g (wI (wI g 204 9 (iI (y : Nat))) 204 10 (iI (cOut F W y 10 0 0))) := (Kf.refl.wI (by omega)).wI (by omega)
      obtain ⟨g', z1, z2, z3, z4, z5⟩ := C_tell_117 ht hF l nz k (y + 1) _ ((y : Nat), cOut F W y 10 0 0) (by omega) (by omega) (fun v hv x x1 x2 => (kw.1 _ _ (by omega)).trans (L v hv x x1 x2)) (by unfold BdL; dsimp only; omega) (by rw [fd_wI_col (by omega), fd_wI_same (by omega) (by omega)]) (fd_wI_same (by omega) (by omega))
      have ee : tlF F W (k + 1) y s = tlF F W k (y + 1) ((y : Nat), cOut F W y 10 0 0) := by rw [tlF, if_pos c]
      rw [ee]
      refine ⟨g', ?_, z2, z3, z4, kw.trans z5⟩
      rw [← z1, U_X0_findTelling_117 ht isS_13]
      simp (disch := omega) only [iI_lit, jI_lit, iI_neg, jI_neg, iI_add, iI_sub, iI_mul, jI_add, jI_sub, jI_mul, rdI, rdL, iI_lt, iI_le, iI_eq, iI_nat, iI_b2_0, iI_b2_1, mm_bI_some, mm_bV_some, mm_bL_some, mm_bA_some, fd_wL, fd_wR, fl_wI, fl_wR, re_wI, re_wL, re_wC, ite_true, ite_false, not_true_eq_false, not_false_eq_true, lq_ge, lq_le, lq_gt, lq_lt, lq_eq, jI_lt, jI_le, jI_eq, if_pos, if_neg, ml, c10, e1]
    · obtain ⟨g', z1, z2, z3, z4, z5⟩ := C_tell_117 ht hF l nz k (y + 1) g s (by omega) (by omega) L B c9 c10
      have ee : tlF F W (k + 1) y s = tlF F W k (y + 1) s := by rw [tlF, if_neg c]
      rw [ee]
      refine ⟨g', ?_, z2, z3, z4, z5⟩
      rw [← z1, U_X0_findTelling_117 ht isS_13]
      simp (disch := omega) only [iI_lit, jI_lit, iI_neg, jI_neg, iI_add, iI_sub, iI_mul, jI_add, jI_sub, jI_mul, rdI, rdL, iI_lt, iI_le, iI_eq, iI_nat, iI_b2_0, iI_b2_1, mm_bI_some, mm_bV_some, mm_bL_some, mm_bA_some, fd_wL, fd_wR, fl_wI, fl_wR, re_wI, re_wL, re_wC, ite_true, ite_false, not_true_eq_false, not_false_eq_true, lq_ge, lq_le, lq_gt, lq_lt, lq_eq, jI_lt, jI_le, jI_eq, if_pos, if_neg, ml, c10, e1]
variable {pm hm : Int} {fc kd n : Int → Int} {cp cm cf : List Int} {ev : Evs}
theorem yearsS_snoc : ∀ (k : Nat) (n : Int → Int), (yearsS cp cm hm pm fc kd (k + 1) n).1 = (yearS cp cm hm pm fc kd (yearsS cp cm hm pm fc kd k n).1).1
  | 0, n => rfl
  | k + 1, n => yearsS_snoc k (yearS cp cm hm pm fc kd n).1
set_option maxHeartbeats 8000000 in
theorem C_tell_59 {p q last : Int} {x v : Nat} {m : Int → Int} (ht : mm_isT t) (hF : FK pm fc kd) (x0 : 0 < x) (x1 : x < 1024) (hv : v < 10) (l0 : 0 ≤ last) (l : last ≤ 30) (q0 : 0 ≤ q) (q1 : q < pm) (hM : NI pm hm m) (ym : 0 ≤ m 0 ∧ m 0 + last ≤ 999) : ∀ (k y : Nat) (g : mm_H) (ev : Evs), ((y + k : Nat) : Int) = last + 1 → 1 ≤ y → CT g t cp cm cf → SR g 205 pm hm fc kd (yearsS cp cm hm pm fc kd (y - 1) m).1 → KeptC g 205 ev → ev.length + 18 * k < 9700000 → ∃ g', mm_D (mm_M mm_T0 (d + 5)) cd_X0_findTelling 59 [.ref 204, .ref t, .ref 13, .int (iI p), .int (iI q), .int (iI (x : Nat)), .int (iI last), .int (iI (v : Nat)), .int (iI (y : Nat))] [] g = mm_D (mm_M mm_T0 (d + 5)) cd_X0_findTelling 29 [.ref 204, .ref t, .ref 13, .int (iI p), .int (iI q), .int (iI (x : Nat)), .int (iI last), .int (iI ((v + 1 : Nat) : Int)), .null] [] g' ∧ (∀ z : Nat, fd g' 217 z = if 31 * v + y ≤ z ∧ (z : Int) ≤ 31 * v + last then (yearsS cp cm hm pm fc kd (z - 31 * v) m).1 (2 + 3 * q) else fd g 217 z) ∧ Kf (fun a k => QY t 205 a k ∨ a = 217) nL g g'
  | 0, y, g, ev, yk, y1, hC, hS, hk, hl => by
    have e1 : ((v : Nat) : Int) + 1 = ((v + 1 : Nat) : Int) := by omega
    refine ⟨g, ?_, fun z => by rw [if_neg (by omega)], Kf.refl⟩
    rw [U_X0_findTelling_59 ht isS_13]
    simp (disch := omega) only [iI_lit, jI_lit, iI_neg, jI_neg, iI_add, iI_sub, iI_mul, jI_add, jI_sub, jI_mul, rdI, rdL, iI_lt, iI_le, iI_eq, iI_nat, iI_b2_0, iI_b2_1, mm_bI_some, mm_bV_some, mm_bL_some, mm_bA_some, fd_wL, fd_wR, fl_wI, fl_wR, re_wI, re_wL, re_wC, ite_true, ite_false, not_true_eq_false, not_false_eq_true, lq_ge, lq_le, lq_gt, lq_lt, lq_eq, jI_lt, jI_le, jI_eq, if_pos, if_neg, e1]
  | k + 1, y, g, ev, yk, y1, hC, hS, hk, hl => by
    have tt := isT_or ht
    have ok := yearsS_ok (cp := cp) (cm := cm) (fc := fc) (kd := kd) (y - 1) m hM
    obtain ⟨g1, m1, m2, m3, m4, m5⟩ := C_tryYears (d := d) (N := 1) ht hF (by omega) (by omega) hC hS hk (by omega) ok.1 (by omega)
    have es : (yearsS cp cm hm pm fc kd (1 : Int).toNat (yearsS cp cm hm pm fc kd (y - 1) m).1).1 = (yearsS cp cm hm pm fc kd y m).1 := by
      rw [show (1 : Int).toNat = 1 from rfl, yearsS_1, ← yearsS_snoc, show y - 1 + 1 = y by omega]
    rw [es] at m2
    have oy := yearsS_ok (cp := cp) (cm := cm) (fc := fc) (kd := kd) y m hM
    have lb := (oy.1.2.2.1 q q0 q1).2.1
    have lk := C_look (d := d + 3) isS_205 m2 hM.1.2 q0 q1
    have o1 := yearS_ok (cp := cp) (cm := cm) (fc := fc) (kd := kd) ok.1
    have ix : (((v : Nat) : Int) * 31 + (y : Nat)).toNat = 31 * v + y := by omega
    have e1 : ((y : Nat) : Int) + 1 = ((y + 1 : Nat) : Int) := by omega
    have kw : Kf (fun a _ => a = 217) nL g1 (wI g1 217 (31 * v + y) (iI ((yearsS cp cm hm pm fc kd y m).1 (2 + 3 * q)))) := Kf.refl.wI rfl
    obtain ⟨g', z1, z2, z3⟩ := C_tell_59 (p := p) ht hF x0 x1 hv l0 l q0 q1 hM ym k (y + 1) (wI g1 217 (31 * v + y) (iI ((yearsS cp cm hm pm fc kd y m).1 (2 + 3 * q)))) _ (by omega) (by omega) (m4.kf3 kw (by intro a j; unfold NC; omega)) (by rw [show y + 1 - 1 = y by omega]; exact m2.kf kw (by intro a j a1 a2; omega)) (m3.kf kw (by intro a j a1 a2; omega)) (by rw [List.length_append, show (1 : Int).toNat = 1 from rfl, yearsS_1]; omega)
    refine ⟨g', ?_, fun z => ?_, Kf.trans (m5.monoQ (fun a k q => Or.inl q)) (Kf.trans (kw.monoQ (fun a k q => Or.inr q)) z3)⟩
    · rw [← z1, U_X0_findTelling_59 ht isS_13]
      simp (disch := omega) only [iI_lit, jI_lit, iI_neg, jI_neg, iI_add, iI_sub, iI_mul, jI_add, jI_sub, jI_mul, rdI, rdL, iI_lt, iI_le, iI_eq, iI_nat, iI_b2_0, iI_b2_1, mm_bI_some, mm_bV_some, mm_bL_some, mm_bA_some, fd_wL, fd_wR, fl_wI, fl_wR, re_wI, re_wL, re_wC, ite_true, ite_false, not_true_eq_false, not_false_eq_true, lq_ge, lq_le, lq_gt, lq_lt, lq_eq, jI_lt, jI_le, jI_eq, if_pos, if_neg, m1, lk, ix, e1]
    · rw [z2]
      by_cases c : 31 * v + (y + 1) ≤ z ∧ (z : Int) ≤ 31 * v + last
      · rw [if_pos c, if_pos (by omega)]
      · rw [if_neg c]
        by_cases c2 : z = 31 * v + y
        · rw [if_pos (by omega), c2, fd_wI_same (by omega) (by omega), show 31 * v + y - 31 * v = y by omega]
        · rw [if_neg (by omega), fd_wI_col c2, m5.1 _ _ (by unfold QY; omega)]
set_option maxHeartbeats 8000000 in
theorem C_tell_29 {p q last : Int} {x : Nat} (ht : mm_isT t) (hF : FK pm fc kd) (hC : CT h t cp cm cf) (hS : SR h 13 pm hm fc kd n) (hk : KeptC h 13 ev) (hl : ev.length < 9600000) (hN : NI pm hm n) (y : 0 ≤ n 0 ∧ n 0 + last ≤ 999) (x0 : 0 < x) (x1 : x < 1024) (l0 : 0 ≤ last) (l : last ≤ 30) (p0 : 0 ≤ p) (p1 : p < pm) (q0 : 0 ≤ q) (q1 : q < pm) (pq : p ≠ q) : ∀ (k j : Nat) (g : mm_H), j + k = 10 → Kf (SC t) nL h g → LbT g (wayT cp cm hm pm fc kd n p q) last j → ∃ g', mm_D (mm_M mm_T0 (d + 5)) cd_X0_findTelling 29 [.ref 204, .ref t, .ref 13, .int (iI p), .int (iI q), .int (iI (x : Nat)), .int (iI last), .int (iI (j : Nat)), .null] [] g = mm_D (mm_M mm_T0 (d + 5)) cd_X0_findTelling 117 [.ref 204, .null, .null, .null, .null, .int (iI (x : Nat)), .int (iI last), .int (iI 1), .null] [] g' ∧ Kf (SC t) nL h g' ∧ LbT g' (wayT cp cm hm pm fc kd n p q) last 10 ∧ Kf (fun a _ => a ≠ 204) nL g g'
  | 0, j, g, jk, K, L => by
    have e : j = 10 := by omega
    subst e
    refine ⟨g, ?_, K, L, Kf.refl⟩
    rw [U_X0_findTelling_29 ht isS_13]
    simp (disch := omega) only [iI_lit, jI_lit, iI_neg, jI_neg, iI_add, iI_sub, iI_mul, jI_add, jI_sub, jI_mul, rdI, rdL, iI_lt, iI_le, iI_eq, iI_nat, iI_b2_0, iI_b2_1, mm_bI_some, mm_bV_some, mm_bL_some, mm_bA_some, fd_wL, fd_wR, fl_wI, fl_wR, re_wI, re_wL, re_wC, ite_true, ite_false, not_true_eq_false, not_false_eq_true, lq_ge, lq_le, lq_gt, lq_lt, lq_eq, jI_lt, jI_le, jI_eq, if_pos, if_neg]
  | k + 1, j, g, jk, K, L => by
    have h8 := hN.1
    have tt := isT_or ht
    obtain ⟨g1, c1, c2, c3⟩ := C_copy (d := d + 4) (h := g) isS_205 isS_13 (by omega)
    have k1 : Kf (SC t) nL g g1 := c3.monoQ (fun a k q => by unfold QSc at q; unfold SC; omega)
    have m2 : SR g1 205 pm hm fc kd n := c2.SR h8.2 hN.2.1.2 (hS.kf K (by intro a j a1 a2; unfold SC; omega))
    have m3 : KeptC g1 205 ev := c2.Kept (hk.kf K (by intro a j a1 a2; unfold SC; omega))
    have f10 : fd g1 205 10 = pm := m2.1
    have st := S_setThought (d := d + 2) (h := g1) (p := p) (q := q) (x := (j : Nat)) isS_205 (by omega) (by omega) (by omega) (by omega)
    rw [if_pos (by omega)] at st
    have kw : Kf (SC t) nL g1 (wI g1 (205 + 6) (p * 8 + q).toNat (iI (j : Nat))) := Kf.refl.wI (by unfold SC; omega)
    have S2 := SR_thought (p := p) (q := q) (v := (j : Nat)) m2 p0 p1 q0 q1 h8.2 (by omega) (by omega)
    have n2 := NI_thought (p := p) (q := q) (v := (j : Nat)) hN (by omega) (by omega) p0 p1 q0 q1
    have K2 : Kf (SC t) nL h (wI g1 (205 + 6) (p * 8 + q).toNat (iI (j : Nat))) := K.trans (k1.trans kw)
    obtain ⟨g3, r1, r2, r3⟩ := C_tell_59 (d := d) (p := p) (q := q) (last := last) (x := x) (v := j) (m := up n (25 + 8 * p + q) (j : Nat)) ht hF x0 x1 (by omega) l0 l q0 q1 n2 (by rw [up_ne (by omega)]; exact y) last.toNat 1 (wI g1 (205 + 6) (p * 8 + q).toNat (iI (j : Nat))) ev (by omega) (by omega) (hC.kf3 K2 (by intro a j; unfold NC SC; omega)) S2 (m3.congr (fd_wI_row (by omega)) (fun j => fd_wI_row (by omega))) (by omega)
    have k217 : ∀ z, fd (wI g1 (205 + 6) (p * 8 + q).toNat (iI (j : Nat))) 217 z = fd g 217 z := fun z => (fd_wI_row (by omega)).trans (c3.1 _ _ (by unfold QSc; omega))
    have K3 : Kf (SC t) nL h g3 := K2.trans (r3.monoQ (fun a k q => by
      rcases q with q | q
      · exact QY_SC a k q
      · unfold SC; omega))
    obtain ⟨g', z1, z2, z3, z4⟩ := C_tell_29 ht hF hC hS hk hl hN y x0 x1 l0 l p0 p1 q0 q1 pq k (j + 1) g3 (by omega) K3 (fun v hv yy y1 y2 => by
      rw [r2]
      by_cases c : v = j
      · rw [c, if_pos (by omega), show 31 * j + yy - 31 * j = yy by omega]
        rfl
      · rw [if_neg (by omega), k217]
        exact L v (by omega) yy y1 y2)
    refine ⟨g', ?_, z2, z3, Kf.trans (Kf.trans (c3.monoQ (fun a k q => by unfold QSc at q; omega)) (Kf.trans (Kf.refl.wI (by omega)) (r3.monoQ (fun a k q => by unfold QY at q; omega)))) z4⟩
    rw [show ((1 : Nat) : Int) = 1 from rfl] at r1
    rw [← z1, U_X0_findTelling_29 ht isS_13]
    simp (disch := omega) only [iI_lit, jI_lit, iI_neg, jI_neg, iI_add, iI_sub, iI_mul, jI_add, jI_sub, jI_mul, rdI, rdL, iI_lt, iI_le, iI_eq, iI_nat, iI_b2_0, iI_b2_1, mm_bI_some, mm_bV_some, mm_bL_some, mm_bA_some, fd_wL, fd_wR, fl_wI, fl_wR, re_wI, re_wL, re_wC, ite_true, ite_false, not_true_eq_false, not_false_eq_true, lq_ge, lq_le, lq_gt, lq_lt, lq_eq, jI_lt, jI_le, jI_eq, if_pos, if_neg, c1, st, r1]
set_option maxHeartbeats 8000000 in
theorem R_tell_36 {F : Int → Int} {W : Int → Nat → Int} {last w : Int} (hF : ∀ k, 0 ≤ F k ∧ F k ≤ 1) (wy : Wys h F W 10) (nz : 0 < sumF F 0 10) (y0 : 0 ≤ fd h 300 0 ∧ fd h 300 0 ≤ 999) (el : last = min 30 (999 - fd h 300 0)) (w0 : w = 0 ∨ w = 1) : ∀ (k y : Nat) (s : Int × Int) (m : Int), ((y + k : Nat) : Int) = last + 1 → 1 ≤ y → BdL s → (s.1 ≠ -1 → m = s.2) → (0 ≤ m ∧ m ≤ 20) → mm_D (mm_M mm_T0 (d + 2)) cd_X12_tells 36 [.ref 264, .null, .null, .int (iI w), .int (iI s.1), .int (iI m), .int (iI (y : Nat)), .null] [] h = some (some (.int (iI (if (tlF F W k y s).1 = -1 then -1 else if w = 0 then (tlF F W k y s).1 else (tlF F W k y s).2))), h)
  | 0, y, s, m, yk, y1, B, em, hm => by
    have f71 := wy.2.2
    have sb := sumF_le (f := F) (m := 1) (k := 10) (p := 0) (fun j _ _ => hF j)
    unfold BdL at B
    rw [tlF]
    by_cases c : s.1 = -1
    · rw [U_X12_tells_36]
      simp (disch := omega) only [iI_lit, jI_lit, iI_neg, jI_neg, iI_add, iI_sub, iI_mul, jI_add, jI_sub, jI_mul, rdI, rdL, iI_lt, iI_le, iI_eq, iI_nat, iI_b2_0, iI_b2_1, mm_bI_some, mm_bV_some, mm_bL_some, mm_bA_some, fd_wL, fd_wR, fl_wI, fl_wR, re_wI, re_wL, re_wC, ite_true, ite_false, not_true_eq_false, not_false_eq_true, lq_ge, lq_le, lq_gt, lq_lt, lq_eq, jI_lt, jI_le, jI_eq, if_pos, if_neg, f71, R_isAhead]
    · have em := em c
      rw [U_X12_tells_36]
      rcases w0 with z | z <;> simp (disch := omega) only [iI_lit, jI_lit, iI_neg, jI_neg, iI_add, iI_sub, iI_mul, jI_add, jI_sub, jI_mul, rdI, rdL, iI_lt, iI_le, iI_eq, iI_nat, iI_b2_0, iI_b2_1, mm_bI_some, mm_bV_some, mm_bL_some, mm_bA_some, fd_wL, fd_wR, fl_wI, fl_wR, re_wI, re_wL, re_wC, ite_true, ite_false, not_true_eq_false, not_false_eq_true, lq_ge, lq_le, lq_gt, lq_lt, lq_eq, jI_lt, jI_le, jI_eq, if_pos, if_neg, f71, R_isAhead, em]
  | k + 1, y, s, m, yk, y1, B, em, hm => by
    have f71 := wy.2.2
    have sb := sumF_le (f := F) (m := 1) (k := 10) (p := 0) (fun j _ _ => hF j)
    have ml := R_most (d := d + 1) (y := y) hF wy (by omega)
    have ob := cOut_b (F := F) (W := W) (y := y) 10 0 0 (by omega)
    have e1 : ((y : Nat) : Int) + 1 = ((y + 1 : Nat) : Int) := by omega
    have B' := B
    unfold BdL at B'
    by_cases c : cOut F W y 10 0 0 < s.2
    · have ee : tlF F W (k + 1) y s = tlF F W k (y + 1) ((y : Nat), cOut F W y 10 0 0) := by rw [tlF, if_pos c]
      rw [ee, ← R_tell_36 hF wy nz y0 el w0 k (y + 1) ((y : Nat), cOut F W y 10 0 0) (cOut F W y 10 0 0) (by omega) (by omega) (by unfold BdL; dsimp only; omega) (fun _ => rfl) (by omega), U_X12_tells_36]
      by_cases c3 : s.1 = -1
      · simp (disch := omega) only [iI_lit, jI_lit, iI_neg, jI_neg, iI_add, iI_sub, iI_mul, jI_add, jI_sub, jI_mul, rdI, rdL, iI_lt, iI_le, iI_eq, iI_nat, iI_b2_0, iI_b2_1, mm_bI_some, mm_bV_some, mm_bL_some, mm_bA_some, fd_wL, fd_wR, fl_wI, fl_wR, re_wI, re_wL, re_wC, ite_true, ite_false, not_true_eq_false, not_false_eq_true, lq_ge, lq_le, lq_gt, lq_lt, lq_eq, jI_lt, jI_le, jI_eq, if_pos, if_neg, f71, R_isAhead, ml, e1]
      · have em := em c3
        simp (disch := omega) only [iI_lit, jI_lit, iI_neg, jI_neg, iI_add, iI_sub, iI_mul, jI_add, jI_sub, jI_mul, rdI, rdL, iI_lt, iI_le, iI_eq, iI_nat, iI_b2_0, iI_b2_1, mm_bI_some, mm_bV_some, mm_bL_some, mm_bA_some, fd_wL, fd_wR, fl_wI, fl_wR, re_wI, re_wL, re_wC, ite_true, ite_false, not_true_eq_false, not_false_eq_true, lq_ge, lq_le, lq_gt, lq_lt, lq_eq, jI_lt, jI_le, jI_eq, if_pos, if_neg, f71, R_isAhead, ml, e1]
    · have c3 : s.1 ≠ -1 := by omega
      have em' := em c3
      have ee : tlF F W (k + 1) y s = tlF F W k (y + 1) s := by rw [tlF, if_neg c]
      rw [ee, ← R_tell_36 hF wy nz y0 el w0 k (y + 1) s m (by omega) (by omega) B em hm, U_X12_tells_36]
      simp (disch := omega) only [iI_lit, jI_lit, iI_neg, jI_neg, iI_add, iI_sub, iI_mul, jI_add, jI_sub, jI_mul, rdI, rdL, iI_lt, iI_le, iI_eq, iI_nat, iI_b2_0, iI_b2_1, mm_bI_some, mm_bV_some, mm_bL_some, mm_bA_some, fd_wL, fd_wR, fl_wI, fl_wR, re_wI, re_wL, re_wC, ite_true, ite_false, not_true_eq_false, not_false_eq_true, lq_ge, lq_le, lq_gt, lq_lt, lq_eq, jI_lt, jI_le, jI_eq, if_pos, if_neg, f71, R_isAhead, ml, e1]
theorem set_sum {f : Int → Int} (hf : ∀ k, 0 ≤ f k ∧ f k ≤ 1) : ∀ m, (setN f m = 0 ∧ sumF f 0 m = 0) ∨ (0 < setN f m ∧ 0 < sumF f 0 m)
  | 0 => Or.inl ⟨rfl, rfl⟩
  | m + 1 => by
    have ih := set_sum hf m
    have b := hf (m : Nat)
    have tp := two_pos m
    rw [sumF_snoc, Int.zero_add]
    by_cases c : f (m : Nat) = 1
    · rw [setN_s1 c, c]
      right
      rcases ih with q | q <;> omega
    · rw [setN_s0 c, show f (m : Nat) = 0 by omega, Int.add_zero]
      exact ih
end TEL
section TELK
variable {a b c : Int}
set_option maxHeartbeats 8000000 in
theorem K_tells (al : -2147483648 ≤ a) (au : a < 2147483648) (bl : -2147483648 ≤ b) (bu : b < 2147483648) (cl : -2147483648 ≤ c) (cu : c < 2147483648) : CallI 170 274 [.int (iI a), .int (iI b), .int (iI c)] := by
  intro d h i I hi
  have I0 := I
  obtain ⟨t, st, pm, hm, fc, kd, cp, cm, cf, n, ev, past, M, W, H, S, P, N⟩ := I
  have W0 := W
  obtain ⟨w1, w2, w3, w4, w5, w6, w7, w8, w9, w10, w11, w12, w13⟩ := W
  have tt := isT_or w1.1
  have h8 := w5.1
  have e40 : fd h 264 40 = pm := w3.1
  have e10 : fd h 13 10 = pm := w8.1
  have e11 : fd h 13 11 = n 0 := w8.2.2.1
  by_cases c0 : ((0 ≤ a ∧ a < pm) ∧ (0 ≤ b ∧ b < pm) ∧ a ≠ b) ∧ (0 ≤ c ∧ c ≤ 1)
  · have st1 : st = 1 := by have := w2.1; have := w2.2.2.2.1; omega
    have rt := w1.2.1
    generalize hFe : fitT cp cm hm pm fc kd n (fun z => fd h 303 z) (fd h 264 67).toNat a b = F
    have hF01 : ∀ k, 0 ≤ F k ∧ F k ≤ 1 := by
      rw [← hFe]
      exact fun k => b2_le _
    generalize hVe : wayT cp cm hm pm fc kd n a b = V
    obtain ⟨h1, q1, q2⟩ := C_tho_6 (d := d + 32) (p := a) (q := b) w1.1 w6 (w2.2.2.2.2 st1) w8 w10.1 (by omega) w5 w7 S.toC S.toB c0.1.1.1 c0.1.1.2 c0.1.2.1.1 c0.1.2.1.2 c0.1.2.2 10 0 h (by omega) Kf.refl
    rw [hFe, show ((setN F 0 : Nat) : Int) = 0 from rfl, show ((0 : Nat) : Int) = 0 from rfl] at q1
    have sl := setN_lt (f := F) 10
    have ss := set_sum hF01 10
    have q1' : mm_M mm_T0 (d + 39) 25 [.ref 204, .ref t, .ref 13, .int (iI a), .int (iI b)] h = some (some (.int (iI ((setN F 10 : Nat) : Int))), h1) := by
      rw [U_X0_possibleThoughts w1.1 isS_13, show (0 : Int32) = iI 0 from rfl]
      exact q1
    have f11 : fd h1 13 11 = n 0 := (q2.1 _ _ (by unfold SC; omega)).trans e11
    -- the class goes on
    have cls : ∃ h2, mm_M mm_T0 (d + 39) 30 [.ref 204, .ref t, .ref 13, .int (iI a), .int (iI b), .int (iI ((setN F 10 : Nat) : Int))] h1 = some (some (.int (iI (b2 ((if setN F 10 = 0 then ((-1 : Int), (11 : Int)) else tlF F V (min 30 (999 - n 0)).toNat 1 (-1, 11)).1 ≠ -1)))), h2) ∧ Kf (SC t) nL h h2 ∧ (setN F 10 ≠ 0 → fd h2 204 9 = (tlF F V (min 30 (999 - n 0)).toNat 1 (-1, 11)).1 ∧ fd h2 204 10 = (tlF F V (min 30 (999 - n 0)).toNat 1 (-1, 11)).2 ∧ BdL (tlF F V (min 30 (999 - n 0)).toNat 1 (-1, 11))) := by
      have kw : Kf (SC t) nL h1 (wI (wI h1 204 9 (iI (-1))) 204 10 (iI 11)) := (Kf.refl.wI (by unfold SC; omega)).wI (by unfold SC; omega)
      have f9 : fd (wI (wI h1 204 9 (iI (-1))) 204 10 (iI 11)) 204 9 = -1 := by rw [fd_wI_col (by omega), fd_wI_same (by omega) (by omega)]
      have f10 : fd (wI (wI h1 204 9 (iI (-1))) 204 10 (iI 11)) 204 10 = 11 := fd_wI_same (by omega) (by omega)
      by_cases z : setN F 10 = 0
      · -- nothing fits: copies only
        have loop : ∀ (k j : Nat) (g : mm_H), j + k = 10 → Kf (SC t) nL h g → fd g 204 9 = -1 → ∃ g', mm_D (mm_M mm_T0 (d + 38)) cd_X0_findTelling 29 [.ref 204, .ref t, .ref 13, .int (iI a), .int (iI b), .int (iI 0), .int (iI (min 30 (999 - n 0))), .int (iI (j : Nat)), .null] [] g = some (some (.int (iI 0)), g') ∧ Kf (SC t) nL h g' := by
          intro k
          induction k with
          | zero =>
            intro j g jk K e9
            have e : j = 10 := by omega
            subst e
            refine ⟨g, ?_, K⟩
            rw [U_X0_findTelling_29 w1.1 isS_13]
            by_cases z1 : min 30 (999 - n 0) < 1
            · simp (disch := omega) only [iI_lit, jI_lit, iI_neg, jI_neg, iI_add, iI_sub, iI_mul, jI_add, jI_sub, jI_mul, rdI, rdL, iI_lt, iI_le, iI_eq, iI_nat, iI_b2_0, iI_b2_1, mm_bI_some, mm_bV_some, mm_bL_some, mm_bA_some, fd_wL, fd_wR, fl_wI, fl_wR, re_wI, re_wL, re_wC, ite_true, ite_false, not_true_eq_false, not_false_eq_true, lq_ge, lq_le, lq_gt, lq_lt, lq_eq, jI_lt, jI_le, jI_eq, if_pos, if_neg]
              rw [U_X0_findTelling_117 w1.1 isS_13]
              simp (disch := omega) only [iI_lit, jI_lit, iI_neg, jI_neg, iI_add, iI_sub, iI_mul, jI_add, jI_sub, jI_mul, rdI, rdL, iI_lt, iI_le, iI_eq, iI_nat, iI_b2_0, iI_b2_1, mm_bI_some, mm_bV_some, mm_bL_some, mm_bA_some, fd_wL, fd_wR, fl_wI, fl_wR, re_wI, re_wL, re_wC, ite_true, ite_false, not_true_eq_false, not_false_eq_true, lq_ge, lq_le, lq_gt, lq_lt, lq_eq, jI_lt, jI_le, jI_eq, if_pos, if_neg, e9]
            · simp (disch := omega) only [iI_lit, jI_lit, iI_neg, jI_neg, iI_add, iI_sub, iI_mul, jI_add, jI_sub, jI_mul, rdI, rdL, iI_lt, iI_le, iI_eq, iI_nat, iI_b2_0, iI_b2_1, mm_bI_some, mm_bV_some, mm_bL_some, mm_bA_some, fd_wL, fd_wR, fl_wI, fl_wR, re_wI, re_wL, re_wC, ite_true, ite_false, not_true_eq_false, not_false_eq_true, lq_ge, lq_le, lq_gt, lq_lt, lq_eq, jI_lt, jI_le, jI_eq, if_pos, if_neg]
              rw [U_X0_findTelling_117 w1.1 isS_13]
              simp (disch := omega) only [iI_lit, jI_lit, iI_neg, jI_neg, iI_add, iI_sub, iI_mul, jI_add, jI_sub, jI_mul, rdI, rdL, iI_lt, iI_le, iI_eq, iI_nat, iI_b2_0, iI_b2_1, mm_bI_some, mm_bV_some, mm_bL_some, mm_bA_some, fd_wL, fd_wR, fl_wI, fl_wR, re_wI, re_wL, re_wC, ite_true, ite_false, not_true_eq_false, not_false_eq_true, lq_ge, lq_le, lq_gt, lq_lt, lq_eq, jI_lt, jI_le, jI_eq, if_pos, if_neg, e9]
          | succ k ih =>
            intro j g jk K e9
            obtain ⟨g1, m1, m2, m3⟩ := C_copy (d := d + 37) (h := g) isS_205 isS_13 (by omega)
            have k1 : Kf (SC t) nL g g1 := m3.monoQ (fun a k q => by unfold QSc at q; unfold SC; omega)
            have f10 : fd g1 205 10 = pm := (m2.2.2.2.2 10 (by omega) (by omega)).trans ((K.1 _ _ (by unfold SC; omega)).trans e10)
            have st := S_setThought (d := d + 35) (h := g1) (p := a) (q := b) (x := (j : Nat)) isS_205 (by omega) (by omega) (by omega) (by omega)
            rw [if_pos (by omega)] at st
            have kw : Kf (SC t) nL g1 (wI g1 (205 + 6) (a * 8 + b).toNat (iI (j : Nat))) := Kf.refl.wI (by unfold SC; omega)
            obtain ⟨g', r1, r2⟩ := ih (j + 1) (wI g1 (205 + 6) (a * 8 + b).toNat (iI (j : Nat))) (by omega) (K.trans (k1.trans kw)) (by rw [fd_wI_row (by omega), m3.1 _ _ (by unfold QSc; omega)]; exact e9)
            have e1 : ((j : Nat) : Int) + 1 = ((j + 1 : Nat) : Int) := by omega
            refine ⟨g', ?_, r2⟩
            rw [← r1, U_X0_findTelling_29 w1.1 isS_13]
            by_cases z1 : min 30 (999 - n 0) < 1
            · simp (disch := omega) only [iI_lit, jI_lit, iI_neg, jI_neg, iI_add, iI_sub, iI_mul, jI_add, jI_sub, jI_mul, rdI, rdL, iI_lt, iI_le, iI_eq, iI_nat, iI_b2_0, iI_b2_1, mm_bI_some, mm_bV_some, mm_bL_some, mm_bA_some, fd_wL, fd_wR, fl_wI, fl_wR, re_wI, re_wL, re_wC, ite_true, ite_false, not_true_eq_false, not_false_eq_true, lq_ge, lq_le, lq_gt, lq_lt, lq_eq, jI_lt, jI_le, jI_eq, if_pos, if_neg, m1, st]
              rw [U_X0_findTelling_59 w1.1 isS_13]
              simp (disch := omega) only [iI_lit, jI_lit, iI_neg, jI_neg, iI_add, iI_sub, iI_mul, jI_add, jI_sub, jI_mul, rdI, rdL, iI_lt, iI_le, iI_eq, iI_nat, iI_b2_0, iI_b2_1, mm_bI_some, mm_bV_some, mm_bL_some, mm_bA_some, fd_wL, fd_wR, fl_wI, fl_wR, re_wI, re_wL, re_wC, ite_true, ite_false, not_true_eq_false, not_false_eq_true, lq_ge, lq_le, lq_gt, lq_lt, lq_eq, jI_lt, jI_le, jI_eq, if_pos, if_neg, e1]
            · simp (disch := omega) only [iI_lit, jI_lit, iI_neg, jI_neg, iI_add, iI_sub, iI_mul, jI_add, jI_sub, jI_mul, rdI, rdL, iI_lt, iI_le, iI_eq, iI_nat, iI_b2_0, iI_b2_1, mm_bI_some, mm_bV_some, mm_bL_some, mm_bA_some, fd_wL, fd_wR, fl_wI, fl_wR, re_wI, re_wL, re_wC, ite_true, ite_false, not_true_eq_false, not_false_eq_true, lq_ge, lq_le, lq_gt, lq_lt, lq_eq, jI_lt, jI_le, jI_eq, if_pos, if_neg, m1, st]
              rw [U_X0_findTelling_59 w1.1 isS_13]
              simp (disch := omega) only [iI_lit, jI_lit, iI_neg, jI_neg, iI_add, iI_sub, iI_mul, jI_add, jI_sub, jI_mul, rdI, rdL, iI_lt, iI_le, iI_eq, iI_nat, iI_b2_0, iI_b2_1, mm_bI_some, mm_bV_some, mm_bL_some, mm_bA_some, fd_wL, fd_wR, fl_wI, fl_wR, re_wI, re_wL, re_wC, ite_true, ite_false, not_true_eq_false, not_false_eq_true, lq_ge, lq_le, lq_gt, lq_lt, lq_eq, jI_lt, jI_le, jI_eq, if_pos, if_neg, e1]
        obtain ⟨h2, m1, m2⟩ := loop 10 0 _ (by omega) (q2.trans kw) f9
        refine ⟨h2, ?_, m2, fun z' => absurd z z'⟩
        rw [show ((0 : Nat) : Int) = 0 from rfl] at m1
        rw [if_pos z, b2_f (by simp), z, show ((0 : Nat) : Int) = 0 from rfl, U_X0_findTelling w1.1 isS_13]
        simp (disch := omega) only [iI_lit, jI_lit, iI_neg, jI_neg, iI_add, iI_sub, iI_mul, jI_add, jI_sub, jI_mul, rdI, rdL, iI_lt, iI_le, iI_eq, iI_nat, iI_b2_0, iI_b2_1, mm_bI_some, mm_bV_some, mm_bL_some, mm_bA_some, fd_wL, fd_wR, fl_wI, fl_wR, re_wI, re_wL, re_wC, ite_true, ite_false, not_true_eq_false, not_false_eq_true, lq_ge, lq_le, lq_gt, lq_lt, lq_eq, jI_lt, jI_le, jI_eq, if_pos, if_neg, f11, J_min, m1]
      · have S1 : SR h1 13 pm hm fc kd n := w8.kf q2 (by intro a j a1 a2; unfold SC; omega)
        have K1 : KeptC h1 13 ev := w10.1.kf q2 (by intro a j a1 a2; unfold SC; omega)
        have C1 : CT h1 t cp cm cf := (w2.2.2.2.2 st1).kf3 q2 (by intro a j; unfold NC SC; omega)
        obtain ⟨g, m1, m2, m3, m4⟩ := C_tell_29 (d := d + 33) (p := a) (q := b) (last := min 30 (999 - n 0)) (x := setN F 10) w1.1 w6 C1 S1 K1 (by omega) w5 (by omega) (by omega) (by omega) (by omega) (by omega) c0.1.1.1 c0.1.1.2 c0.1.2.1.1 c0.1.2.1.2 c0.1.2.2 10 0 _ (by omega) kw (fun v hv => by omega)
        rw [hVe] at m3
        obtain ⟨h2, r1, r2, r3, r4, r5⟩ := C_tell_117 (d := d + 36) (W := V) (last := min 30 (999 - n 0)) w1.1 hF01 (by omega) (by omega) (min 30 (999 - n 0)).toNat 1 g (-1, 11) (by omega) (by omega) m3 (Or.inl ⟨rfl, rfl⟩) ((m4.1 _ _ (by omega)).trans f9) ((m4.1 _ _ (by omega)).trans f10)
        refine ⟨h2, ?_, q2.trans (m2.trans (r5.monoQ (fun a k q => by unfold SC; omega))), fun _ => ⟨r3, r4, r2⟩⟩
        rw [show ((0 : Nat) : Int) = 0 from rfl] at m1
        rw [show ((1 : Nat) : Int) = 1 from rfl] at r1
        rw [if_neg z, ← r1, ← m1, U_X0_findTelling w1.1 isS_13]
        simp (disch := omega) only [iI_lit, jI_lit, iI_neg, jI_neg, iI_add, iI_sub, iI_mul, jI_add, jI_sub, jI_mul, rdI, rdL, iI_lt, iI_le, iI_eq, iI_nat, iI_b2_0, iI_b2_1, mm_bI_some, mm_bV_some, mm_bL_some, mm_bA_some, fd_wL, fd_wR, fl_wI, fl_wR, re_wI, re_wL, re_wC, ite_true, ite_false, not_true_eq_false, not_false_eq_true, lq_ge, lq_le, lq_gt, lq_lt, lq_eq, jI_lt, jI_le, jI_eq, if_pos, if_neg, f11, J_min]
    obtain ⟨h2, v1, v2, v3⟩ := cls
    have T1 : RT h2 pm hm fc kd cp cm cf := w3.kf2 v2 (by intro a j; unfold NR SC; omega)
    have R1 : RepR h2 n := w4.kf v2 (by intro j hj; unfold SC; omega)
    have f65 : fd h2 264 65 = fd h 264 65 := v2.1 _ _ (by unfold SC; omega)
    obtain ⟨r1, r2, r3, r4, r5, r6⟩ := TR.begin (d := d + 37) (E := EF 0) (h := h2) (by omega) T1 R1
    have kw : Kf (fun a k => a = 264 ∧ k = 71) nL r1 (wI r1 264 71 (iI 0)) := Kf.refl.wI ⟨rfl, rfl⟩
    have sR := ((S.toR.kf v2 (by intro j; unfold SC; omega) (by unfold SC; omega)).kf r6 (by intro j; omega) (by omega)).kf kw (by intro j; omega) (by omega)
    obtain ⟨g, u1, u2, u3, u4, u5⟩ := R_tho_11 (d := d + 31) (w := 0) (p := a) (q := b) w6 S.toB R1 (by omega) w5 w7 c0.1.1.1 c0.1.1.2 c0.1.2.1.1 c0.1.2.1.2 10 0 0 (wI r1 264 71 (iI 0)) (by omega) (by omega) sR (r3.ext kw (by intro a k q; unfold EF; omega)) (r4.kf2 kw (by intro a j; unfold NR; omega)) (r5.kf kw (by intro j hj; omega)) ⟨fun v hv => by omega, fun v hv => by omega, by rw [fd_wI_same (by omega) (by omega)]; rfl⟩
    rw [hFe, hVe] at u5
    have g0 : fd g 300 0 = n 0 := (u2.1 _ _ (by unfold QTb EF; omega)).trans (R1 0 (by omega) (by omega))
    refine ⟨iI (if (if setN F 10 = 0 then ((-1 : Int), (11 : Int)) else tlF F V (min 30 (999 - n 0)).toNat 1 (-1, 11)).1 = -1 then -1 else if c = 0 then (if setN F 10 = 0 then ((-1 : Int), (11 : Int)) else tlF F V (min 30 (999 - n 0)).toNat 1 (-1, 11)).1 else (if setN F 10 = 0 then ((-1 : Int), (11 : Int)) else tlF F V (min 30 (999 - n 0)).toNat 1 (-1, 11)).2), h2, g, ?_, ?_, Inv.of M W0 H S P N (Kf.trans (v2.mono (fun a k q => by unfold SC at q; unfold Scr; omega) (fun a k q => q.elim)) ⟨fun x k q => u2.1 x k (by unfold QTb EF; unfold Scr at q; omega), u2.2.1, u2.2.2⟩) u3 (by omega) hi⟩
    · have rt1 : h1.2.2 0 10 = t := by rw [q2.2.2]; exact rt
      rw [U_X11_tells]
      by_cases z : setN F 10 = 0
      · rw [if_pos z, b2_f (by simp)] at v1
        rw [if_pos z]
        simp (disch := omega) only [iI_lit, jI_lit, iI_neg, jI_neg, iI_add, iI_sub, iI_mul, jI_add, jI_sub, jI_mul, rdI, rdL, iI_lt, iI_le, iI_eq, iI_nat, iI_b2_0, iI_b2_1, mm_bI_some, mm_bV_some, mm_bL_some, mm_bA_some, fd_wL, fd_wR, fl_wI, fl_wR, re_wI, re_wL, re_wC, ite_true, ite_false, not_true_eq_false, not_false_eq_true, lq_ge, lq_le, lq_gt, lq_lt, lq_eq, jI_lt, jI_le, jI_eq, if_pos, if_neg, S_arePair isS_13, e10, rt, q1', rt1, v1]
      · obtain ⟨x9, x10, xB⟩ := v3 z
        rw [if_neg z] at v1 ⊢
        generalize tlF F V (min 30 (999 - n 0)).toNat 1 (-1, 11) = s at *
        unfold BdL at xB
        by_cases zz : s.1 = -1
        · rw [b2_f (by omega)] at v1
          simp (disch := omega) only [iI_lit, jI_lit, iI_neg, jI_neg, iI_add, iI_sub, iI_mul, jI_add, jI_sub, jI_mul, rdI, rdL, iI_lt, iI_le, iI_eq, iI_nat, iI_b2_0, iI_b2_1, mm_bI_some, mm_bV_some, mm_bL_some, mm_bA_some, fd_wL, fd_wR, fl_wI, fl_wR, re_wI, re_wL, re_wC, ite_true, ite_false, not_true_eq_false, not_false_eq_true, lq_ge, lq_le, lq_gt, lq_lt, lq_eq, jI_lt, jI_le, jI_eq, if_pos, if_neg, S_arePair isS_13, e10, rt, q1', rt1, v1]
        · rw [b2_t zz] at v1
          by_cases zc : c = 0 <;> simp (disch := omega) only [iI_lit, jI_lit, iI_neg, jI_neg, iI_add, iI_sub, iI_mul, jI_add, jI_sub, jI_mul, rdI, rdL, iI_lt, iI_le, iI_eq, iI_nat, iI_b2_0, iI_b2_1, mm_bI_some, mm_bV_some, mm_bL_some, mm_bA_some, fd_wL, fd_wR, fl_wI, fl_wR, re_wI, re_wL, re_wC, ite_true, ite_false, not_true_eq_false, not_false_eq_true, lq_ge, lq_le, lq_gt, lq_lt, lq_eq, jI_lt, jI_le, jI_eq, if_pos, if_neg, S_arePair isS_13, e10, rt, q1', rt1, v1, x9, x10]
    · have f40 : fd h2 264 40 = pm := T1.1
      rw [show ((0 : Nat) : Int) = 0 from rfl] at u1
      rw [U_X12_tells, iI_jI cl cu]
      by_cases z : setN F 10 = 0
      · have f71 : fd g 264 71 = 0 := by rw [u5.2.2]; omega
        rw [if_pos z]
        simp (disch := omega) only [iI_lit, jI_lit, iI_neg, jI_neg, iI_add, iI_sub, iI_mul, jI_add, jI_sub, jI_mul, rdI, rdL, iI_lt, iI_le, iI_eq, iI_nat, iI_b2_0, iI_b2_1, mm_bI_some, mm_bV_some, mm_bL_some, mm_bA_some, fd_wL, fd_wR, fl_wI, fl_wR, re_wI, re_wL, re_wC, ite_true, ite_false, not_true_eq_false, not_false_eq_true, lq_ge, lq_le, lq_gt, lq_lt, lq_eq, jI_lt, jI_le, jI_eq, if_pos, if_neg, R_areTwo, f40, R_isIn, U_X12_laysThoughts, r2, u1]
        rw [U_X12_tells_36]
        simp (disch := omega) only [iI_lit, jI_lit, iI_neg, jI_neg, iI_add, iI_sub, iI_mul, jI_add, jI_sub, jI_mul, rdI, rdL, iI_lt, iI_le, iI_eq, iI_nat, iI_b2_0, iI_b2_1, mm_bI_some, mm_bV_some, mm_bL_some, mm_bA_some, fd_wL, fd_wR, fl_wI, fl_wR, re_wI, re_wL, re_wC, ite_true, ite_false, not_true_eq_false, not_false_eq_true, lq_ge, lq_le, lq_gt, lq_lt, lq_eq, jI_lt, jI_le, jI_eq, if_pos, if_neg, f71]
      · have R36 := R_tell_36 (d := d + 37) (h := g) (F := F) (W := V) (last := min 30 (999 - n 0)) (w := c) hF01 u5 (by omega) (by omega) (by rw [g0]) (by omega) (min 30 (999 - n 0)).toNat 1 (-1, 11) 0 (by omega) (by omega) (Or.inl ⟨rfl, rfl⟩) (fun z => absurd rfl z) (by omega)
        dsimp only at R36
        rw [show ((1 : Nat) : Int) = 1 from rfl] at R36
        rw [if_neg z]
        simp (disch := omega) only [iI_lit, jI_lit, iI_neg, jI_neg, iI_add, iI_sub, iI_mul, jI_add, jI_sub, jI_mul, rdI, rdL, iI_lt, iI_le, iI_eq, iI_nat, iI_b2_0, iI_b2_1, mm_bI_some, mm_bV_some, mm_bL_some, mm_bA_some, fd_wL, fd_wR, fl_wI, fl_wR, re_wI, re_wL, re_wC, ite_true, ite_false, not_true_eq_false, not_false_eq_true, lq_ge, lq_le, lq_gt, lq_lt, lq_eq, jI_lt, jI_le, jI_eq, if_pos, if_neg, R_areTwo, f40, R_isIn, U_X12_laysThoughts, r2, u1, R36]
  · refine ⟨iI (-1), h, h, ?_, ?_, I0.next hi⟩
    · rw [U_X11_tells]
      by_cases z : (0 ≤ a ∧ a < pm) ∧ (0 ≤ b ∧ b < pm) ∧ a ≠ b
      · by_cases z2 : c < 0 <;> simp (disch := omega) only [iI_lit, jI_lit, iI_neg, jI_neg, iI_add, iI_sub, iI_mul, jI_add, jI_sub, jI_mul, rdI, rdL, iI_lt, iI_le, iI_eq, iI_nat, iI_b2_0, iI_b2_1, mm_bI_some, mm_bV_some, mm_bL_some, mm_bA_some, fd_wL, fd_wR, fl_wI, fl_wR, re_wI, re_wL, re_wC, ite_true, ite_false, not_true_eq_false, not_false_eq_true, lq_ge, lq_le, lq_gt, lq_lt, lq_eq, jI_lt, jI_le, jI_eq, if_pos, if_neg, S_arePair isS_13, e10]
      · simp (disch := omega) only [iI_lit, jI_lit, iI_neg, jI_neg, iI_add, iI_sub, iI_mul, jI_add, jI_sub, jI_mul, rdI, rdL, iI_lt, iI_le, iI_eq, iI_nat, iI_b2_0, iI_b2_1, mm_bI_some, mm_bV_some, mm_bL_some, mm_bA_some, fd_wL, fd_wR, fl_wI, fl_wR, re_wI, re_wL, re_wC, ite_true, ite_false, not_true_eq_false, not_false_eq_true, lq_ge, lq_le, lq_gt, lq_lt, lq_eq, jI_lt, jI_le, jI_eq, if_pos, if_neg, S_arePair isS_13, e10]
    · rw [U_X12_tells, iI_jI cl cu]
      by_cases z : (0 ≤ a ∧ a < pm) ∧ (0 ≤ b ∧ b < pm) ∧ a ≠ b <;> simp (disch := omega) only [iI_lit, jI_lit, iI_neg, jI_neg, iI_add, iI_sub, iI_mul, jI_add, jI_sub, jI_mul, rdI, rdL, iI_lt, iI_le, iI_eq, iI_nat, iI_b2_0, iI_b2_1, mm_bI_some, mm_bV_some, mm_bL_some, mm_bA_some, fd_wL, fd_wR, fl_wI, fl_wR, re_wI, re_wL, re_wC, ite_true, ite_false, not_true_eq_false, not_false_eq_true, lq_ge, lq_le, lq_gt, lq_lt, lq_eq, jI_lt, jI_le, jI_eq, if_pos, if_neg, R_areTwo, e40, R_isIn]
end TELK
