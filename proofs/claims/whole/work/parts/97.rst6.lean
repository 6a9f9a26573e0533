section RSE
variable {d : Nat}
theorem fl_cp {h : mm_H} {a k : Nat} {v : Int64} : fl (wL h a k v) a k = v.toInt := by
  rw [fl_wL, if_pos ⟨rfl, rfl⟩]
set_option maxHeartbeats 8000000 in
theorem R_s90 : ∀ (k j : Nat) (g : mm_H), j + k = 3 → ∃ g', mm_D (mm_M mm_T0 d) cd_X12_stands 90 [.ref 264, .int (iI (j : Nat))] [] g = mm_D (mm_M mm_T0 d) cd_X12_stands 131 [.ref 264, .int (iI 0)] [] g' ∧ (∀ z, j ≤ z → z < 3 → fd g' 297 (3 + z) = fd g 297 z ∧ fd g' 298 (3 + z) = fd g 298 z) ∧ Kf (fun a x => (a = 297 ∨ a = 298) ∧ 3 + j ≤ x) nL g g'
  | 0, j, g, hj => by
    have l : (iI 3 ≤ iI ((j : Nat) : Int)) = True := iG_t (by omega) (by omega) (by omega) (by omega) (by omega)
    refine ⟨g, ?_, fun z h1 h2 => by omega, Kf.refl⟩
    rw [U_X12_stands_90]
    (try simp only [iI_lit, iI_neg]) <;> simp (maxSteps := 1000000) (disch := decide) only [iI_lit, iI_neg, iI_add, mm_bI_some, mm_bV_some, mm_bL_some, ↓reduceIte, i10, i00, i11, eq_self, not_true_eq_false, not_false_eq_true, ite_true, ite_false, if_true, if_false, and_true, true_and, and_false, false_and, and_self, or_self, or_false, false_or, or_true, true_or, iI_eq, iI_lt, iI_le, Int.reduceEq, Int.reduceLT, Int.reduceLE, l]
  | k + 1, j, g, hj => by
    have l : (iI 3 ≤ iI ((j : Nat) : Int)) = False := iG_f (by omega) (by omega) (by omega) (by omega) (by omega)
    have l0 : (iI ((j : Nat) : Int) < iI 0) = False := iL_f (by omega) (by omega) (by omega) (by omega) (by omega)
    have cl : (iI ((j : Nat) : Int)).toNatClampNeg = j := by rw [iI_nat (by omega) (by omega)]; omega
    have l9 : (6 ≤ j) = False := eq_false (by omega)
    have e8 : (3 : Int) + ((j : Nat) : Int) = ((3 + j : Nat) : Int) := by omega
    have l1 : (iI ((3 + j : Nat) : Int) < iI 0) = False := iL_f (by omega) (by omega) (by omega) (by omega) (by omega)
    have cl1 : (iI ((3 + j : Nat) : Int)).toNatClampNeg = 3 + j := by rw [iI_nat (by omega) (by omega)]; omega
    have l2 : (6 ≤ 3 + j) = False := eq_false (by omega)
    have e1 : ((j : Nat) : Int) + 1 = ((j + 1 : Nat) : Int) := by omega
    obtain ⟨g', a1, a2, a3⟩ := R_s90 k (j + 1) (wI (wI g 297 (3 + j) (g.1 297 j)) 298 (3 + j) ((wI g 297 (3 + j) (g.1 297 j)).1 298 j)) (by omega)
    refine ⟨g', ?_, fun z h1 h2 => ?_, Kf.trans ((Kf.refl.wI ⟨Or.inl rfl, Nat.le_refl _⟩).wI ⟨Or.inr rfl, Nat.le_refl _⟩) (a3.mono (fun a x q => ⟨q.1, by have := q.2; omega⟩) (fun a x q => q))⟩
    · rw [← a1, U_X12_stands_90]
      (try simp only [iI_lit, iI_neg]) <;> simp (maxSteps := 1000000) (disch := decide) only [iI_lit, iI_neg, iI_add, mm_bI_some, mm_bV_some, mm_bL_some, ↓reduceIte, i10, i00, i11, eq_self, not_true_eq_false, not_false_eq_true, ite_true, ite_false, if_true, if_false, and_true, true_and, and_false, false_and, and_self, or_self, or_false, false_or, or_true, true_or, iI_eq, iI_lt, iI_le, Int.reduceEq, Int.reduceLT, Int.reduceLE, l, l0, cl, l9, e8, l1, cl1, l2, e1]
    · by_cases c : z = j
      · rw [c, a3.1 _ _ (by omega), a3.1 _ _ (by omega)]
        refine ⟨?_, ?_⟩
        · rw [fd_wI_row (by omega), fd_cp]; rfl
        · rw [fd_cp]
          show fd (wI g 297 (3 + j) (g.1 297 j)) 298 j = _
          exact fd_wI_row (by omega)
      · obtain ⟨q1, q2⟩ := a2 z (by omega) h2
        rw [q1, q2, fd_wI_row (by omega), fd_wI_col (by omega), fd_wI_col (by omega), fd_wI_row (by omega)]
        exact ⟨rfl, rfl⟩
set_option maxHeartbeats 8000000 in
theorem R_s31 : ∀ (k j : Nat) (g : mm_H), j + k = 8 → ∃ g', mm_D (mm_M mm_T0 d) cd_X12_stands 31 [.ref 264, .int (iI (j : Nat))] [] g = mm_D (mm_M mm_T0 d) cd_X12_stands 90 [.ref 264, .int (iI 0)] [] g' ∧ (∀ z, j ≤ z → z < 8 → fl g' 292 (8 + z) = fl g 292 z ∧ fd g' 294 (8 + z) = fd g 294 z ∧ fd g' 295 (8 + z) = fd g 295 z) ∧ Kf (fun a x => (a = 294 ∨ a = 295) ∧ 8 + j ≤ x) (fun a x => a = 292 ∧ 8 + j ≤ x) g g'
  | 0, j, g, hj => by
    have l : (iI 8 ≤ iI ((j : Nat) : Int)) = True := iG_t (by omega) (by omega) (by omega) (by omega) (by omega)
    refine ⟨g, ?_, fun z h1 h2 => by omega, Kf.refl⟩
    rw [U_X12_stands_31]
    (try simp only [iI_lit, iI_neg]) <;> simp (maxSteps := 1000000) (disch := decide) only [iI_lit, iI_neg, iI_add, mm_bI_some, mm_bV_some, mm_bL_some, ↓reduceIte, i10, i00, i11, eq_self, not_true_eq_false, not_false_eq_true, ite_true, ite_false, if_true, if_false, and_true, true_and, and_false, false_and, and_self, or_self, or_false, false_or, or_true, true_or, iI_eq, iI_lt, iI_le, Int.reduceEq, Int.reduceLT, Int.reduceLE, l]
  | k + 1, j, g, hj => by
    have l : (iI 8 ≤ iI ((j : Nat) : Int)) = False := iG_f (by omega) (by omega) (by omega) (by omega) (by omega)
    have l0 : (iI ((j : Nat) : Int) < iI 0) = False := iL_f (by omega) (by omega) (by omega) (by omega) (by omega)
    have cl : (iI ((j : Nat) : Int)).toNatClampNeg = j := by rw [iI_nat (by omega) (by omega)]; omega
    have l9 : (16 ≤ j) = False := eq_false (by omega)
    have e8 : (8 : Int) + ((j : Nat) : Int) = ((8 + j : Nat) : Int) := by omega
    have l1 : (iI ((8 + j : Nat) : Int) < iI 0) = False := iL_f (by omega) (by omega) (by omega) (by omega) (by omega)
    have cl1 : (iI ((8 + j : Nat) : Int)).toNatClampNeg = 8 + j := by rw [iI_nat (by omega) (by omega)]; omega
    have l2 : (16 ≤ 8 + j) = False := eq_false (by omega)
    have e1 : ((j : Nat) : Int) + 1 = ((j + 1 : Nat) : Int) := by omega
    obtain ⟨g', a1, a2, a3⟩ := R_s31 k (j + 1) (wI (wI (wL g 292 (8 + j) (g.2.1 292 j)) 294 (8 + j) ((wL g 292 (8 + j) (g.2.1 292 j)).1 294 j)) 295 (8 + j) ((wI (wL g 292 (8 + j) (g.2.1 292 j)) 294 (8 + j) ((wL g 292 (8 + j) (g.2.1 292 j)).1 294 j)).1 295 j)) (by omega)
    refine ⟨g', ?_, fun z h1 h2 => ?_, Kf.trans (((Kf.refl.wL ⟨rfl, Nat.le_refl _⟩).wI ⟨Or.inl rfl, Nat.le_refl _⟩).wI ⟨Or.inr rfl, Nat.le_refl _⟩) (a3.mono (fun a x q => ⟨q.1, by have := q.2; omega⟩) (fun a x q => ⟨q.1, by have := q.2; omega⟩))⟩
    · rw [← a1, U_X12_stands_31]
      (try simp only [iI_lit, iI_neg]) <;> simp (maxSteps := 1000000) (disch := decide) only [iI_lit, iI_neg, iI_add, mm_bI_some, mm_bV_some, mm_bL_some, ↓reduceIte, i10, i00, i11, eq_self, not_true_eq_false, not_false_eq_true, ite_true, ite_false, if_true, if_false, and_true, true_and, and_false, false_and, and_self, or_self, or_false, false_or, or_true, true_or, iI_eq, iI_lt, iI_le, Int.reduceEq, Int.reduceLT, Int.reduceLE, l, l0, cl, l9, e8, l1, cl1, l2, e1]
    · by_cases c : z = j
      · rw [c, a3.2.1 _ _ (by omega), a3.1 _ _ (by omega), a3.1 _ _ (by omega)]
        refine ⟨?_, ?_, ?_⟩
        · rw [fl_wI, fl_wI, fl_cp]; rfl
        · rw [fd_wI_row (by omega), fd_cp]; rfl
        · rw [fd_cp]
          show fd (wI (wL g 292 (8 + j) (g.2.1 292 j)) 294 (8 + j) ((wL g 292 (8 + j) (g.2.1 292 j)).1 294 j)) 295 j = _
          rw [fd_wI_row (by omega), fd_wL]
      · obtain ⟨q1, q2, q3⟩ := a2 z (by omega) h2
        rw [q1, q2, q3, fl_wI, fl_wI, fl_wL, if_neg (by omega), fd_wI_row (by omega), fd_wI_col (by omega), fd_wL, fd_wI_col (by omega), fd_wI_row (by omega), fd_wL]
        exact ⟨rfl, rfl, rfl⟩
set_option maxHeartbeats 8000000 in
theorem R_s236 : ∀ (k j : Nat) (g : mm_H), j + k = 64 → ∃ g', mm_D (mm_M mm_T0 d) cd_X12_stands 236 [.ref 264, .int (iI (j : Nat))] [] g = some (none, wI (wI g' 264 73 (iI 0)) 264 67 (iI 0)) ∧ (∀ z, j ≤ z → z < 64 → fd g' 300 (25 + z) = fd g 296 z) ∧ Kf (fun a x => a = 300 ∧ 25 + j ≤ x ∧ x < 89) nL g g'
  | 0, j, g, hj => by
    have l : (iI 64 ≤ iI ((j : Nat) : Int)) = True := iG_t (by omega) (by omega) (by omega) (by omega) (by omega)
    refine ⟨g, ?_, fun z h1 h2 => by omega, Kf.refl⟩
    rw [U_X12_stands_236]
    (try simp only [iI_lit, iI_neg]) <;> simp (maxSteps := 1000000) (disch := decide) only [iI_lit, iI_neg, iI_add, mm_bI_some, mm_bV_some, mm_bL_some, ↓reduceIte, i10, i00, i11, eq_self, not_true_eq_false, not_false_eq_true, ite_true, ite_false, if_true, if_false, and_true, true_and, and_false, false_and, and_self, or_self, or_false, false_or, or_true, true_or, iI_eq, iI_lt, iI_le, Int.reduceEq, Int.reduceLT, Int.reduceLE, l]
  | k + 1, j, g, hj => by
    have l : (iI 64 ≤ iI ((j : Nat) : Int)) = False := iG_f (by omega) (by omega) (by omega) (by omega) (by omega)
    have l0 : (iI ((j : Nat) : Int) < iI 0) = False := iL_f (by omega) (by omega) (by omega) (by omega) (by omega)
    have cl : (iI ((j : Nat) : Int)).toNatClampNeg = j := by rw [iI_nat (by omega) (by omega)]; omega
    have l9 : (64 ≤ j) = False := eq_false (by omega)
    have e8 : (25 : Int) + ((j : Nat) : Int) = ((25 + j : Nat) : Int) := by omega
    have l1 : (iI ((25 + j : Nat) : Int) < iI 0) = False := iL_f (by omega) (by omega) (by omega) (by omega) (by omega)
    have cl1 : (iI ((25 + j : Nat) : Int)).toNatClampNeg = 25 + j := by rw [iI_nat (by omega) (by omega)]; omega
    have l2 : (210 ≤ 25 + j) = False := eq_false (by omega)
    have e1 : ((j : Nat) : Int) + 1 = ((j + 1 : Nat) : Int) := by omega
    obtain ⟨g', a1, a2, a3⟩ := R_s236 k (j + 1) (wI g 300 (25 + j) (g.1 296 j)) (by omega)
    refine ⟨g', ?_, fun z h1 h2 => ?_, Kf.trans (Kf.refl.wI ⟨rfl, Nat.le_refl _, by omega⟩) (a3.mono (fun a x q => ⟨q.1, by have := q.2.1; omega, q.2.2⟩) (fun a x q => q))⟩
    · rw [← a1, U_X12_stands_236]
      (try simp only [iI_lit, iI_neg]) <;> simp (maxSteps := 1000000) (disch := decide) only [iI_lit, iI_neg, iI_add, mm_bI_some, mm_bV_some, mm_bL_some, ↓reduceIte, i10, i00, i11, eq_self, not_true_eq_false, not_false_eq_true, ite_true, ite_false, if_true, if_false, and_true, true_and, and_false, false_and, and_self, or_self, or_false, false_or, or_true, true_or, iI_eq, iI_lt, iI_le, Int.reduceEq, Int.reduceLT, Int.reduceLE, l, l0, cl, l9, e8, l1, cl1, l2, e1]
    · by_cases c : z = j
      · rw [c, a3.1 _ _ (by omega), fd_cp]
        rfl
      · rw [a2 z (by omega) h2, fd_wI_row (by omega)]
end RSE
