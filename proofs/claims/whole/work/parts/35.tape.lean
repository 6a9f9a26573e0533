/-! the tape: feed, end; seed; letters -/
section TAPE
variable {d : Nat} {h h' : mm_H} {a b c : Int}
theorem C_refuse {k : Int} (k0 : 0 ≤ k) (k6 : k < 6) : mm_M mm_T0 (d + 1) 183 [.ref 0, .int (iI k)] h = some (some (.int (iI (-1))), wI h 229 k.toNat (iI (fd h 229 k.toNat + 1))) := by
  rw [U_X11_refuse]
  simp (disch := omega) only [iI_lit, jI_lit, iI_neg, jI_neg, iI_add, iI_sub, iI_mul, jI_add, jI_sub, jI_mul, rdI, rdL, iI_lt, iI_le, iI_eq, iI_nat, iI_b2_0, iI_b2_1, mm_bI_some, mm_bV_some, mm_bL_some, mm_bA_some, fd_wL, fd_wR, fl_wI, fl_wR, re_wI, re_wL, re_wC, ite_true, ite_false, not_true_eq_false, not_false_eq_true, lq_ge, lq_le, lq_gt, lq_lt, lq_eq, jI_lt, jI_le, jI_eq, if_pos, if_neg]
theorem C_ref0 : mm_M mm_T0 (d + 1) 183 [.ref 0, .int (iI 0)] h = some (some (.int (iI (-1))), wI h 229 0 (iI (fd h 229 0 + 1))) := C_refuse (k := 0) (by omega) (by omega)
theorem C_ref1 : mm_M mm_T0 (d + 1) 183 [.ref 0, .int (iI 1)] h = some (some (.int (iI (-1))), wI h 229 1 (iI (fd h 229 1 + 1))) := C_refuse (k := 1) (by omega) (by omega)
theorem C_ref2 : mm_M mm_T0 (d + 1) 183 [.ref 0, .int (iI 2)] h = some (some (.int (iI (-1))), wI h 229 2 (iI (fd h 229 2 + 1))) := C_refuse (k := 2) (by omega) (by omega)
theorem C_ref3 : mm_M mm_T0 (d + 1) 183 [.ref 0, .int (iI 3)] h = some (some (.int (iI (-1))), wI h 229 3 (iI (fd h 229 3 + 1))) := C_refuse (k := 3) (by omega) (by omega)
theorem C_ref4 : mm_M mm_T0 (d + 1) 183 [.ref 0, .int (iI 4)] h = some (some (.int (iI (-1))), wI h 229 4 (iI (fd h 229 4 + 1))) := C_refuse (k := 4) (by omega) (by omega)
theorem C_ref5 : mm_M mm_T0 (d + 1) 183 [.ref 0, .int (iI 5)] h = some (some (.int (iI (-1))), wI h 229 5 (iI (fd h 229 5 + 1))) := C_refuse (k := 5) (by omega) (by omega)
theorem IvM.ref {k : Nat} (I : IvM h) (hk : k < 6) : IvM (wI (wI h 229 k (iI (fd h 229 k + 1))) 266 k (iI (fd h 266 k + 1))) := by
  obtain ⟨a1, a2, a3, a4, a5, a6, a7⟩ := I
  have z : ∀ a j, a ≠ 229 → a ≠ 266 → fd (wI (wI h 229 k (iI (fd h 229 k + 1))) 266 k (iI (fd h 266 k + 1))) a j = fd h a j := fun a j x y => by rw [fd_wI_row y, fd_wI_row x]
  refine ⟨?_, ?_, ?_, ⟨?_, ?_⟩, ?_, ?_, a7⟩
  · rw [z _ _ (by omega) (by omega), z _ _ (by omega) (by omega)]; exact a1
  · rw [z _ _ (by omega) (by omega)]; exact a2
  · rw [z _ _ (by omega) (by omega)]
    intro j hj
    rw [z _ _ (by omega) (by omega), z _ _ (by omega) (by omega)]
    exact a3 j hj
  · rw [z _ _ (by omega) (by omega), z _ _ (by omega) (by omega)]; exact a4.1
  · rw [z _ _ (by omega) (by omega), z _ _ (by omega) (by omega)]; exact a4.2
  · intro j hj
    by_cases e : j = k
    · subst e
      rw [fd_wI_row (by omega), fd_wI, if_pos ⟨rfl, rfl⟩, fd_wI, if_pos ⟨rfl, rfl⟩, a5 j hj]
    · rw [fd_wI_col e, fd_wI_col e, fd_wI_col e, fd_wI_col e]
      exact a5 j hj
  · rw [z _ _ (by omega) (by omega)]; exact a6
theorem Inv.ref {k : Nat} {i : Int} (I : Inv h i) (hk : k < 6) (hi : i + 6 ≤ 3072) : Inv (wI (wI h 229 k (iI (fd h 229 k + 1))) 266 k (iI (fd h 266 k + 1))) (i + 6) := by
  obtain ⟨t, st, pm, hm, fc, kd, cp, cm, cf, n, ev, past, M, W, H, S, P, N⟩ := I
  have tt := isT_or W.1.1
  exact Inv.mac (M.ref hk) W H S P N ((Kf.refl.wI (by unfold Mac NW NC NR NH NS NP Nnm; omega)).wI (by unfold Mac NW NC NR NH NS NP Nnm; omega)) hi
/-- the tape has n bytes -/
theorem C_shorten {L n : Int} (e : fd h 1 1 = L) (l0 : 0 ≤ L) (n0 : 0 ≤ n) (n1 : n ≤ L) (l1 : L ≤ 1600) : mm_M mm_T0 (d + 2) 128 [.ref 1, .int (iI n)] h = some (none, wI h 1 1 (iI n)) := by
  rw [U_X8_shorten]
  have e1 : min L n = n := by omega
  have e2 : max 0 n = n := by omega
  simp (disch := omega) only [iI_lit, jI_lit, iI_neg, jI_neg, iI_add, iI_sub, iI_mul, jI_add, jI_sub, jI_mul, rdI, rdL, iI_lt, iI_le, iI_eq, iI_nat, iI_b2_0, iI_b2_1, mm_bI_some, mm_bV_some, mm_bL_some, mm_bA_some, fd_wL, fd_wR, fl_wI, fl_wR, re_wI, re_wL, re_wC, ite_true, ite_false, not_true_eq_false, not_false_eq_true, lq_ge, lq_le, lq_gt, lq_lt, lq_eq, jI_lt, jI_le, jI_eq, if_pos, if_neg, e, J_min, J_max, e1, e2]
theorem IvM.cut {n : Int} (I : IvM h) (n0 : 0 ≤ n) (n1 : n ≤ fd h 264 1) : IvM (wI (wI h 1 1 (iI n)) 264 1 (iI n)) := by
  obtain ⟨a1, a2, a3, a4, a5, a6, a7⟩ := I
  have e1 : fd (wI (wI h 1 1 (iI n)) 264 1 (iI n)) 264 1 = n := fd_wI_same (by omega) (by omega)
  have z : ∀ a j, (a ≠ 1 ∧ a ≠ 264) ∨ j ≠ 1 → fd (wI (wI h 1 1 (iI n)) 264 1 (iI n)) a j = fd h a j := by
    intro a j x
    rcases x with x | x
    · rw [fd_wI_row x.2, fd_wI_row x.1]
    · rw [fd_wI_col x, fd_wI_col x]
  refine ⟨?_, ?_, ?_, ⟨?_, ?_⟩, ?_, ?_, a7⟩
  · rw [e1, fd_wI_row (by omega), fd_wI_same (by omega) (by omega)]
  · rw [e1]; omega
  · rw [e1]
    intro j hj
    rw [z _ _ (by omega), z _ _ (by omega)]
    exact a3 j (by omega)
  · rw [z _ _ (by omega), z _ _ (by omega)]; exact a4.1
  · rw [z _ _ (by omega), z _ _ (by omega)]; exact a4.2
  · intro j hj
    rw [z _ _ (by omega), z _ _ (by omega)]
    exact a5 j hj
  · rw [z _ _ (by omega)]; exact a6
theorem K_end (al : -2147483648 ≤ a) (au : a < 2147483648) : CallI 149 190 [.int (iI a)] := by
  intro d h i I hi
  have I0 := I
  obtain ⟨t, st, pm, hm, fc, kd, cp, cm, cf, n, ev, past, M, W, H, S, P, N⟩ := I
  have tt := isT_or W.1.1
  have e1 := M.1
  have m2 := M.2.1
  by_cases c0 : 0 ≤ a ∧ a ≤ fd h 264 1
  · refine ⟨iI 1, wI h 1 1 (iI a), wI (wI h 1 1 (iI a)) 264 1 (iI a), ?_, ?_, Inv.mac (M.cut c0.1 c0.2) W H S P N ((Kf.refl.wI (by unfold Mac NW NC NR NH NS NP Nnm; omega)).wI (by unfold Mac NW NC NR NH NS NP Nnm; omega)) hi⟩
    · rw [U_X11_end, U_X8_size, mm_bI_some, C_shorten e1 m2.1 c0.1 c0.2 m2.2]
      simp (disch := omega) only [iI_lit, jI_lit, iI_neg, jI_neg, iI_add, iI_sub, iI_mul, jI_add, jI_sub, jI_mul, rdI, rdL, iI_lt, iI_le, iI_eq, iI_nat, iI_b2_0, iI_b2_1, mm_bI_some, mm_bV_some, mm_bL_some, mm_bA_some, fd_wL, fd_wR, fl_wI, fl_wR, re_wI, re_wL, re_wC, ite_true, ite_false, not_true_eq_false, not_false_eq_true, lq_ge, lq_le, lq_gt, lq_lt, lq_eq, jI_lt, jI_le, jI_eq, if_pos, if_neg, e1]
    · rw [U_X12_end]
      simp (disch := omega) only [iI_lit, jI_lit, iI_neg, jI_neg, iI_add, iI_sub, iI_mul, jI_add, jI_sub, jI_mul, rdI, rdL, iI_lt, iI_le, iI_eq, iI_nat, iI_b2_0, iI_b2_1, mm_bI_some, mm_bV_some, mm_bL_some, mm_bA_some, fd_wL, fd_wR, fl_wI, fl_wR, re_wI, re_wL, re_wC, ite_true, ite_false, not_true_eq_false, not_false_eq_true, lq_ge, lq_le, lq_gt, lq_lt, lq_eq, jI_lt, jI_le, jI_eq, if_pos, if_neg, fd_wI_row]
  · refine ⟨iI 0, wI h 229 0 (iI (fd h 229 0 + 1)), _, ?_, ?_, I0.ref (k := 0) (by omega) hi⟩
    · rw [U_X11_end, U_X8_size, mm_bI_some]
      by_cases c1 : a < 0 <;> simp (disch := omega) only [iI_lit, jI_lit, iI_neg, jI_neg, iI_add, iI_sub, iI_mul, jI_add, jI_sub, jI_mul, rdI, rdL, iI_lt, iI_le, iI_eq, iI_nat, iI_b2_0, iI_b2_1, mm_bI_some, mm_bV_some, mm_bL_some, mm_bA_some, fd_wL, fd_wR, fl_wI, fl_wR, re_wI, re_wL, re_wC, ite_true, ite_false, not_true_eq_false, not_false_eq_true, lq_ge, lq_le, lq_gt, lq_lt, lq_eq, jI_lt, jI_le, jI_eq, if_pos, if_neg, e1, C_ref0]
    · rw [U_X12_end]
      by_cases c1 : a < 0 <;> simp (disch := omega) only [iI_lit, jI_lit, iI_neg, jI_neg, iI_add, iI_sub, iI_mul, jI_add, jI_sub, jI_mul, rdI, rdL, iI_lt, iI_le, iI_eq, iI_nat, iI_b2_0, iI_b2_1, mm_bI_some, mm_bV_some, mm_bL_some, mm_bA_some, fd_wL, fd_wR, fl_wI, fl_wR, re_wI, re_wL, re_wC, ite_true, ite_false, not_true_eq_false, not_false_eq_true, lq_ge, lq_le, lq_gt, lq_lt, lq_eq, jI_lt, jI_le, jI_eq, if_pos, if_neg, fd_wI_row]
theorem K_seed (al : -2147483648 ≤ a) (au : a < 2147483648) : CallI 177 282 [.int (iI a)] := by
  intro d h i I hi
  have I0 := I
  obtain ⟨t, st, pm, hm, fc, kd, cp, cm, cf, n, ev, past, M, W, H, S, P, N⟩ := I
  have tt := isT_or W.1.1
  by_cases c0 : 0 ≤ a
  · have M' : IvM (wL (wI h 0 13 (iI a)) 264 75 (jI a)) := by
      obtain ⟨a1, a2, a3, a4, a5, a6, a7⟩ := M
      have e : fl (wL (wI h 0 13 (iI a)) 264 75 (jI a)) 264 75 = a := by
        rw [fl_wL, if_pos ⟨rfl, rfl⟩, jI_to (by omega) (by omega)]
      have z : ∀ b j, b ≠ 0 → fd (wL (wI h 0 13 (iI a)) 264 75 (jI a)) b j = fd h b j := fun b j x => by rw [fd_wL, fd_wI_row x]
      refine ⟨?_, ?_, ?_, ⟨?_, ?_⟩, ?_, ?_, ?_⟩
      · rw [z _ _ (by omega), z _ _ (by omega)]; exact a1
      · rw [z _ _ (by omega)]; exact a2
      · rw [z _ _ (by omega)]
        intro j hj
        rw [z _ _ (by omega), z _ _ (by omega)]
        exact a3 j hj
      · rw [z _ _ (by omega), z _ _ (by omega)]; exact a4.1
      · rw [z _ _ (by omega), z _ _ (by omega)]; exact a4.2
      · intro j hj
        rw [z _ _ (by omega), z _ _ (by omega)]
        exact a5 j hj
      · rw [e, fd_wL, fd_wI_same al au]
      · rw [e]; omega
    refine ⟨iI 1, wI h 0 13 (iI a), wL (wI h 0 13 (iI a)) 264 75 (jI a), ?_, ?_, Inv.mac M' W H S P N ((Kf.refl.wI (by unfold Mac NW NC NR NH NS NP Nnm; omega)).wL (by unfold LMc; omega)) hi⟩
    · rw [U_X11_seed]
      simp (disch := omega) only [iI_lit, jI_lit, iI_neg, jI_neg, iI_add, iI_sub, iI_mul, jI_add, jI_sub, jI_mul, rdI, rdL, iI_lt, iI_le, iI_eq, iI_nat, iI_b2_0, iI_b2_1, mm_bI_some, mm_bV_some, mm_bL_some, mm_bA_some, fd_wL, fd_wR, fl_wI, fl_wR, re_wI, re_wL, re_wC, ite_true, ite_false, not_true_eq_false, not_false_eq_true, lq_ge, lq_le, lq_gt, lq_lt, lq_eq, jI_lt, jI_le, jI_eq, if_pos, if_neg]
    · rw [U_X12_seed]
      simp (disch := omega) only [iI_lit, jI_lit, iI_neg, jI_neg, iI_add, iI_sub, iI_mul, jI_add, jI_sub, jI_mul, rdI, rdL, iI_lt, iI_le, iI_eq, iI_nat, iI_b2_0, iI_b2_1, mm_bI_some, mm_bV_some, mm_bL_some, mm_bA_some, fd_wL, fd_wR, fl_wI, fl_wR, re_wI, re_wL, re_wC, ite_true, ite_false, not_true_eq_false, not_false_eq_true, lq_ge, lq_le, lq_gt, lq_lt, lq_eq, jI_lt, jI_le, jI_eq, if_pos, if_neg, iI_jI]
  · refine ⟨iI 0, wI h 229 5 (iI (fd h 229 5 + 1)), _, ?_, ?_, I0.ref (k := 5) (by omega) hi⟩
    · rw [U_X11_seed]
      simp (disch := omega) only [iI_lit, jI_lit, iI_neg, jI_neg, iI_add, iI_sub, iI_mul, jI_add, jI_sub, jI_mul, rdI, rdL, iI_lt, iI_le, iI_eq, iI_nat, iI_b2_0, iI_b2_1, mm_bI_some, mm_bV_some, mm_bL_some, mm_bA_some, fd_wL, fd_wR, fl_wI, fl_wR, re_wI, re_wL, re_wC, ite_true, ite_false, not_true_eq_false, not_false_eq_true, lq_ge, lq_le, lq_gt, lq_lt, lq_eq, jI_lt, jI_le, jI_eq, if_pos, if_neg, C_ref5]
    · rw [U_X12_seed]
      simp (disch := omega) only [iI_lit, jI_lit, iI_neg, jI_neg, iI_add, iI_sub, iI_mul, jI_add, jI_sub, jI_mul, rdI, rdL, iI_lt, iI_le, iI_eq, iI_nat, iI_b2_0, iI_b2_1, mm_bI_some, mm_bV_some, mm_bL_some, mm_bA_some, fd_wL, fd_wR, fl_wI, fl_wR, re_wI, re_wL, re_wC, ite_true, ite_false, not_true_eq_false, not_false_eq_true, lq_ge, lq_le, lq_gt, lq_lt, lq_eq, jI_lt, jI_le, jI_eq, if_pos, if_neg, fd_wI_row]
/-! feed -/
def By (x : Int32) (j : Nat) : Int := ((x >>> ((8 * (3 - iI j)) &&& 31)) &&& 255).toInt
theorem and255 (x : Int32) : 0 ≤ (x &&& 255).toInt ∧ (x &&& 255).toInt ≤ 255 := by
  have e : (x &&& 255).toInt = (x.toBitVec &&& 255#32).toInt := rfl
  have n : (x.toBitVec &&& 255#32).toNat ≤ 255 := by
    rw [BitVec.toNat_and]
    exact Nat.and_le_right
  rw [e, BitVec.toInt_eq_toNat_of_lt (by omega)]
  omega
def addB (x : Int32) (g : mm_H) (L s : Int) : mm_H := wI (wI g 2 L.toNat ((x >>> (iI s &&& 31)) &&& 255)) 1 1 (iI (L + 1))
theorem C_addNumber {L : Int} {x : Int32} (e : fd h 1 1 = L) (l0 : 0 ≤ L) (l1 : L + 4 ≤ 1600) : ∃ h', mm_M mm_T0 (d + 1) 127 [.ref 1, .int x] h = some (none, h') ∧ fd h' 1 1 = L + 4 ∧ (∀ j, j < 4 → fd h' 2 (L.toNat + j) = By x j) ∧ (∀ k, k < L.toNat → fd h' 2 k = fd h 2 k) ∧ Kf (fun a k => (a = 1 ∧ k = 1) ∨ a = 2) nL h h' := by
  have step : ∀ (g : mm_H) (L : Int) (s : Int), fd g 1 1 = L → 0 ≤ L → L < 1600 → 0 ≤ s → s ≤ 24 → mm_D (mm_M mm_T0 d) cd_X8_addNumber 3 [.ref 1, .int x, .int (iI s)] [] g = mm_D (mm_M mm_T0 d) cd_X8_addNumber 3 [.ref 1, .int x, .int (iI (s - 8))] [] (addB x g L s) := by
    intro g L s e l0 l1 s0 s1
    rw [U_X8_addNumber_3]
    unfold addB
    have e2 : s + -8 = s - 8 := by omega
    simp (disch := omega) only [iI_lit, jI_lit, iI_neg, jI_neg, iI_add, iI_sub, iI_mul, jI_add, jI_sub, jI_mul, rdI, rdL, iI_lt, iI_le, iI_eq, iI_nat, iI_b2_0, iI_b2_1, mm_bI_some, mm_bV_some, mm_bL_some, mm_bA_some, fd_wL, fd_wR, fl_wI, fl_wR, re_wI, re_wL, re_wC, ite_true, ite_false, not_true_eq_false, not_false_eq_true, lq_ge, lq_le, lq_gt, lq_lt, lq_eq, jI_lt, jI_le, jI_eq, if_pos, if_neg, e, fd_wI_row, e2]
  have w1 : ∀ (g : mm_H) (L s : Int), 0 ≤ L → L < 1600 → fd (addB x g L s) 1 1 = L + 1 := fun g L v _ _ => fd_wI_same (by omega) (by omega)
  refine ⟨addB x (addB x (addB x (addB x h L 24) (L + 1) (24 - 8)) (L + 1 + 1) (24 - 8 - 8)) (L + 1 + 1 + 1) (24 - 8 - 8 - 8), ?_, ?_, ?_, ?_, ?_⟩
  · rw [U_X8_addNumber, show (24 : Int32) = iI 24 from rfl, step h L 24 e (by omega) (by omega) (by omega) (by omega), step _ (L + 1) _ (w1 _ _ _ (by omega) (by omega)) (by omega) (by omega) (by omega) (by omega), step _ (L + 1 + 1) _ (w1 _ _ _ (by omega) (by omega)) (by omega) (by omega) (by omega) (by omega), step _ (L + 1 + 1 + 1) _ (w1 _ _ _ (by omega) (by omega)) (by omega) (by omega) (by omega) (by omega), U_X8_addNumber_3, if_pos (by decide)]
  · rw [w1 _ _ _ (by omega) (by omega)]
    omega
  · intro j hj
    have t1 : (L + 1).toNat = L.toNat + 1 := by omega
    have t2 : (L + 1 + 1).toNat = L.toNat + 2 := by omega
    have t3 : (L + 1 + 1 + 1).toNat = L.toNat + 3 := by omega
    unfold addB
    rw [t1, t2, t3]
    simp only [fd_wI]
    have hj' : j = 0 ∨ j = 1 ∨ j = 2 ∨ j = 3 := by omega
    rcases hj' with q | q | q | q <;> subst q <;> simp (disch := omega) only [Nat.add_zero, if_pos, if_neg, ite_true, and_self, true_and] <;> rfl
  · intro k hk
    unfold addB
    simp only [fd_wI]
    simp (disch := omega) only [if_neg]
  · exact (((((((Kf.refl.wI (Or.inr rfl)).wI (Or.inl ⟨rfl, rfl⟩)).wI (Or.inr rfl)).wI (Or.inl ⟨rfl, rfl⟩)).wI (Or.inr rfl)).wI (Or.inl ⟨rfl, rfl⟩)).wI (Or.inr rfl)).wI (Or.inl ⟨rfl, rfl⟩)
def Wd (x1 x2 x3 x4 x5 : Int32) (k : Nat) : Int32 := if 4 ≤ k then (if 8 ≤ k then (if 12 ≤ k then (if 16 ≤ k then x5 else x4) else x3) else x2) else x1
theorem feed_sh : ∀ k, k < 20 → (8 * (3 - (iI (k : Nat) - iI (k : Nat) / 4 * 4))) &&& 31 = (8 * (3 - iI ((k % 4 : Nat) : Int))) &&& 31 := by decide
theorem R_feed_28 {x1 x2 x3 x4 x5 : Int32} : ∀ (m k : Nat) (g : mm_H) (L : Int), m + k = 20 → fd g 264 1 = L → 0 ≤ L → L + m ≤ 1600 → ∃ h', mm_D (mm_M mm_T0 d) cd_X12_feed 28 [.ref 264, .int x1, .int x2, .int x3, .int x4, .int x5, .int (iI (k : Nat)), .null] [] g = some (some (.int (iI (L + m))), h') ∧ fd h' 264 1 = L + m ∧ (∀ j, j < m → fd h' 265 (L.toNat + j) = By (Wd x1 x2 x3 x4 x5 (k + j)) ((k + j) % 4)) ∧ (∀ j, j < L.toNat → fd h' 265 j = fd g 265 j) ∧ Kf (fun a k => (a = 264 ∧ k = 1) ∨ a = 265) nL g h'
  | 0, k, g, L, hk, e, l0, l1 => by
    refine ⟨g, ?_, by omega, fun j hj => by omega, fun j hj => rfl, Kf.refl⟩
    rw [U_X12_feed_28]
    simp (disch := omega) only [iI_lit, jI_lit, iI_neg, jI_neg, iI_add, iI_sub, iI_mul, jI_add, jI_sub, jI_mul, rdI, rdL, iI_lt, iI_le, iI_eq, iI_nat, iI_b2_0, iI_b2_1, mm_bI_some, mm_bV_some, mm_bL_some, mm_bA_some, fd_wL, fd_wR, fl_wI, fl_wR, re_wI, re_wL, re_wC, ite_true, ite_false, not_true_eq_false, not_false_eq_true, lq_ge, lq_le, lq_gt, lq_lt, lq_eq, jI_lt, jI_le, jI_eq, if_pos, if_neg, e]
    rw [show L + (0 : Nat) = L by omega]
  | m + 1, k, g, L, hk, e, l0, l1 => by
    have hs : ∀ (w : Int32), ((w >>> ((8 * (3 - (iI (k : Nat) - iI (k : Nat) / 4 * 4))) &&& 31)) &&& 255).toInt = By w (k % 4) := by
      intro w
      rw [feed_sh k (by omega)]
      rfl
    have st : mm_D (mm_M mm_T0 d) cd_X12_feed 28 [.ref 264, .int x1, .int x2, .int x3, .int x4, .int x5, .int (iI (k : Nat)), .null] [] g = mm_D (mm_M mm_T0 d) cd_X12_feed 28 [.ref 264, .int x1, .int x2, .int x3, .int x4, .int x5, .int (iI ((k + 1 : Nat) : Int)), .null] [] (wI (wI g 265 L.toNat (iI (By (Wd x1 x2 x3 x4 x5 k) (k % 4)))) 264 1 (iI (L + 1))) := by
      rw [← hs, iI_of, U_X12_feed_28]
      have ek : ((k : Nat) : Int) + 1 = ((k + 1 : Nat) : Int) := by omega
      have nk : (20 : Int32) = iI 20 := rfl
      simp (disch := omega) only [rdI, e, iI_nat, show (20 : Int32) = iI 20 from rfl, show (16 : Int32) = iI 16 from rfl, show (12 : Int32) = iI 12 from rfl, show (1600 : Int32) = iI 1600 from rfl, show (0 : Int32) = iI 0 from rfl, show (1 : Int32) = iI 1 from rfl, iI_le, iI_lt, iI_add, if_neg, ek, fd_wI_row]
      have n4 : ((4 : Int32) ≤ iI (k : Nat)) = (4 ≤ k) := by
        rw [show (4 : Int32) = iI 4 from rfl, iI_le (by omega) (by omega) (by omega) (by omega)]
        exact propext (by omega)
      have n8 : ((8 : Int32) ≤ iI (k : Nat)) = (8 ≤ k) := by
        rw [show (8 : Int32) = iI 8 from rfl, iI_le (by omega) (by omega) (by omega) (by omega)]
        exact propext (by omega)
      have n12 : ((12 : Int) ≤ (k : Nat)) = (12 ≤ k) := propext (by omega)
      have n16 : ((16 : Int) ≤ (k : Nat)) = (16 ≤ k) := propext (by omega)
      simp only [n4, n8, n12, n16]
      unfold Wd
      by_cases c1 : 4 ≤ k
      · by_cases c2 : 8 ≤ k
        · by_cases c3 : 12 ≤ k
          · by_cases c4 : 16 ≤ k
            · simp only [c1, c2, c3, c4, if_true]
            · simp only [c1, c2, c3, c4, if_true, if_false]
          · simp only [c1, c2, c3, if_true, if_false]
        · simp only [c1, c2, if_true, if_false]
      · simp only [c1, if_false]
    obtain ⟨h', r1, r2, r3, r4, r5⟩ := R_feed_28 m (k + 1) (wI (wI g 265 L.toNat (iI (By (Wd x1 x2 x3 x4 x5 k) (k % 4)))) 264 1 (iI (L + 1))) (L + 1) (by omega) (fd_wI_same (by omega) (by omega)) (by omega) (by omega)
    have bb : By (Wd x1 x2 x3 x4 x5 k) (k % 4) = (iI (By (Wd x1 x2 x3 x4 x5 k) (k % 4))).toInt := by
      unfold By
      rw [iI_of]
    refine ⟨h', ?_, by omega, fun j hj => ?_, fun j hj => ?_, Kf.trans ((Kf.refl.wI (Or.inr rfl)).wI (Or.inl ⟨rfl, rfl⟩)) r5⟩
    · rw [st, r1, show L + 1 + (m : Int) = L + ((m + 1 : Nat) : Int) by omega]
    · cases j with
      | zero =>
        rw [r4 _ (by omega), fd_wI_row (by omega), fd_wI, if_pos ⟨rfl, by omega⟩, ← bb]
        rfl
      | succ j =>
        have := r3 j (by omega)
        rw [show (L + 1).toNat + j = L.toNat + (j + 1) by omega, show k + 1 + j = k + (j + 1) by omega] at this
        exact this
    · rw [r4 _ (by omega), fd_wI_row (by omega), fd_wI_col (by omega)]
theorem K_feed {x1 x2 x3 x4 x5 : Int32} : CallI 148 189 [.int x1, .int x2, .int x3, .int x4, .int x5] := by
  intro d h i I hi
  have I0 := I
  obtain ⟨t, st, pm, hm, fc, kd, cp, cm, cf, n, ev, past, M, W, H, S, P, N⟩ := I
  have tt := isT_or W.1.1
  have e1 := M.1
  have m2 := M.2.1
  by_cases c0 : fd h 264 1 + 20 ≤ 1600
  · obtain ⟨h1, p1, p2, p3, p4, p5⟩ := C_addNumber (d := d + 38) (x := x1) e1 m2.1 (by omega)
    obtain ⟨h2, q1, q2, q3, q4, q5⟩ := C_addNumber (d := d + 38) (x := x2) p2 (by omega) (by omega)
    obtain ⟨h3, r1, r2, r3, r4, r5⟩ := C_addNumber (d := d + 38) (x := x3) q2 (by omega) (by omega)
    obtain ⟨h4, s1, s2, s3, s4, s5⟩ := C_addNumber (d := d + 38) (x := x4) r2 (by omega) (by omega)
    obtain ⟨h5, t1, t2, t3, t4, t5⟩ := C_addNumber (d := d + 38) (x := x5) s2 (by omega) (by omega)
    have K1 := p5.trans (q5.trans (r5.trans (s5.trans t5)))
    have e264 : fd h5 264 1 = fd h 264 1 := K1.1 264 1 (by omega)
    obtain ⟨h6, u1, u2, u3, u4, u5⟩ := R_feed_28 (d := d + 39) (x1 := x1) (x2 := x2) (x3 := x3) (x4 := x4) (x5 := x5) 20 0 h5 (fd h 264 1) rfl e264 m2.1 (by omega)
    have KK : Kf (Mac t pm) LMc h h6 := Kf.trans (K1.mono (fun a k x => by unfold Mac NW NC NR NH NS NP Nnm; omega) (fun a k x => x.elim)) (u5.mono (fun a k x => by unfold Mac NW NC NR NH NS NP Nnm; omega) (fun a k x => x.elim))
    have y1 : ∀ j, fd h6 2 j = fd h5 2 j := fun j => u5.1 2 j (by omega)
    have M' : IvM h6 := by
      obtain ⟨a1, a2, a3, a4, a5, a6, a7⟩ := M
      have z : ∀ b j, ¬ (b = 1 ∧ j = 1) → ¬ b = 2 → ¬ (b = 264 ∧ j = 1) → ¬ b = 265 → fd h6 b j = fd h b j := by
        intro b j x1 x2 x3 x4
        rw [u5.1 b j (by omega), K1.1 b j (by omega)]
      have zl : fl h6 264 75 = fl h 264 75 := by rw [u5.2.1 _ _ (fun x => x), K1.2.1 _ _ (fun x => x)]
      refine ⟨?_, ?_, ?_, ⟨?_, ?_⟩, ?_, ?_, ?_⟩
      · rw [u5.1 1 1 (by omega), u2, t2]; omega
      · rw [u2]; omega
      · rw [u2]
        intro j hj
        by_cases c1 : j < (fd h 264 1).toNat
        · have := a3 j (by omega)
          rw [y1, t4 _ (by omega), s4 _ (by omega), r4 _ (by omega), q4 _ (by omega), p4 _ (by omega), u4 _ (by omega), K1.1 265 j (by omega)]
          exact this
        · have hx := u3 (j - (fd h 264 1).toNat) (by omega)
          rw [show (fd h 264 1).toNat + (j - (fd h 264 1).toNat) = j by omega, Nat.zero_add] at hx
          have hb : ∀ (x : Int32) (m : Nat), 0 ≤ By x m ∧ By x m ≤ 255 := fun x m => and255 _
          rw [hx]
          refine ⟨?_, hb _ _⟩
          rw [y1]
          generalize hq : j - (fd h 264 1).toNat = m
          unfold Wd
          by_cases d1 : m < 4
          · rw [if_neg (by omega), t4 _ (by omega), s4 _ (by omega), r4 _ (by omega), q4 _ (by omega), show j = (fd h 264 1).toNat + m by omega, p3 m d1, Nat.mod_eq_of_lt d1]
          by_cases d2 : m < 8
          · rw [if_pos (by omega), if_neg (by omega), t4 _ (by omega), s4 _ (by omega), r4 _ (by omega), show j = (fd h 264 1 + 4).toNat + (m - 4) by omega, q3 _ (by omega), show m % 4 = m - 4 by omega]
          by_cases d3 : m < 12
          · rw [if_pos (by omega), if_pos (by omega), if_neg (by omega), t4 _ (by omega), s4 _ (by omega), show j = (fd h 264 1 + 4 + 4).toNat + (m - 8) by omega, r3 _ (by omega), show m % 4 = m - 8 by omega]
          by_cases d4 : m < 16
          · rw [if_pos (by omega), if_pos (by omega), if_pos (by omega), if_neg (by omega), t4 _ (by omega), show j = (fd h 264 1 + 4 + 4 + 4).toNat + (m - 12) by omega, s3 _ (by omega), show m % 4 = m - 12 by omega]
          · rw [if_pos (by omega), if_pos (by omega), if_pos (by omega), if_pos (by omega), show j = (fd h 264 1 + 4 + 4 + 4 + 4).toNat + (m - 16) by omega, t3 _ (by omega), show m % 4 = m - 16 by omega]
      · rw [z _ _ (by omega) (by omega) (by omega) (by omega), z _ _ (by omega) (by omega) (by omega) (by omega)]; exact a4.1
      · rw [z _ _ (by omega) (by omega) (by omega) (by omega), z _ _ (by omega) (by omega) (by omega) (by omega)]; exact a4.2
      · intro j hj
        rw [z _ _ (by omega) (by omega) (by omega) (by omega), z _ _ (by omega) (by omega) (by omega) (by omega)]
        exact a5 j hj
      · rw [zl, z _ _ (by omega) (by omega) (by omega) (by omega)]; exact a6
      · rw [zl]; exact a7
    refine ⟨iI (fd h 264 1 + 20), h5, h6, ?_, ?_, Inv.mac M' W H S P N KK hi⟩
    · rw [U_X11_feed, U_X8_size, mm_bI_some, rdI, e1]
      rw [if_pos (by rw [show (20 : Int32) = iI 20 from rfl, show (1600 : Int32) = iI 1600 from rfl, iI_add, iI_le (by omega) (by omega) (by omega) (by omega)]; omega), p1, mm_bV_some, q1, mm_bV_some, r1, mm_bV_some, s1, mm_bV_some, t1, mm_bV_some, U_X8_size, mm_bI_some, rdI, t2, show fd h 264 1 + 4 + 4 + 4 + 4 + 4 = fd h 264 1 + 20 by omega]
    · rw [U_X12_feed, rdI, e264, if_pos (by rw [show (20 : Int32) = iI 20 from rfl, show (1600 : Int32) = iI 1600 from rfl, iI_add, iI_le (by omega) (by omega) (by omega) (by omega)]; omega)]
      exact u1
  · refine ⟨iI (-1), wI h 229 0 (iI (fd h 229 0 + 1)), _, ?_, ?_, I0.ref (k := 0) (by omega) hi⟩
    · rw [U_X11_feed, U_X8_size, mm_bI_some, rdI, e1, if_neg (by rw [show (20 : Int32) = iI 20 from rfl, show (1600 : Int32) = iI 1600 from rfl, iI_add, iI_le (by omega) (by omega) (by omega) (by omega)]; omega)]
      simp (disch := omega) only [iI_lit, jI_lit, iI_neg, jI_neg, iI_add, iI_sub, iI_mul, jI_add, jI_sub, jI_mul, rdI, rdL, iI_lt, iI_le, iI_eq, iI_nat, iI_b2_0, iI_b2_1, mm_bI_some, mm_bV_some, mm_bL_some, mm_bA_some, fd_wL, fd_wR, fl_wI, fl_wR, re_wI, re_wL, re_wC, ite_true, ite_false, not_true_eq_false, not_false_eq_true, lq_ge, lq_le, lq_gt, lq_lt, lq_eq, jI_lt, jI_le, jI_eq, if_pos, if_neg, C_ref0]
    · rw [U_X12_feed, rdI, fd_wI_row (by omega), if_neg (by rw [show (20 : Int32) = iI 20 from rfl, show (1600 : Int32) = iI 1600 from rfl, iI_add, iI_le (by omega) (by omega) (by omega) (by omega)]; omega)]
      simp (disch := omega) only [iI_lit, jI_lit, iI_neg, jI_neg, iI_add, iI_sub, iI_mul, jI_add, jI_sub, jI_mul, rdI, rdL, iI_lt, iI_le, iI_eq, iI_nat, iI_b2_0, iI_b2_1, mm_bI_some, mm_bV_some, mm_bL_some, mm_bA_some, fd_wL, fd_wR, fl_wI, fl_wR, re_wI, re_wL, re_wC, ite_true, ite_false, not_true_eq_false, not_false_eq_true, lq_ge, lq_le, lq_gt, lq_lt, lq_eq, jI_lt, jI_le, jI_eq, if_pos, if_neg, fd_wI_row]
end TAPE
