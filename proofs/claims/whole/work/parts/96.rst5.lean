/-! what is told stands: the reference's copies -/
section RSD
variable {d : Nat}
theorem fd_cp {h : mm_H} {a k : Nat} {v : Int32} : fd (wI h a k v) a k = v.toInt := by
  rw [fd_wI, if_pos ⟨rfl, rfl⟩]
set_option maxHeartbeats 8000000 in
theorem R_s163 : ∀ (k j : Nat) (g : mm_H), j + k = 210 → ∃ g', mm_D (mm_M mm_T0 d) cd_X12_stands 163 [.ref 264, .int (iI (j : Nat))] [] g = mm_D (mm_M mm_T0 d) cd_X12_stands 185 [.ref 264, .int (iI 0)] [] g' ∧ (∀ z, j ≤ z → z < 210 → fd g' 300 z = 0) ∧ Kf (fun a x => a = 300 ∧ j ≤ x) nL g g'
  | 0, j, g, hj => by
    have l : (iI 210 ≤ iI ((j : Nat) : Int)) = True := iG_t (by omega) (by omega) (by omega) (by omega) (by omega)
    refine ⟨g, ?_, fun z h1 h2 => by omega, Kf.refl⟩
    rw [U_X12_stands_163]
    (try simp only [iI_lit, iI_neg]) <;> simp (maxSteps := 1000000) (disch := decide) only [iI_lit, iI_neg, iI_add, mm_bI_some, mm_bV_some, mm_bL_some, ↓reduceIte, i10, i00, i11, eq_self, not_true_eq_false, not_false_eq_true, ite_true, ite_false, if_true, if_false, and_true, true_and, and_false, false_and, and_self, or_self, or_false, false_or, or_true, true_or, iI_eq, iI_lt, iI_le, Int.reduceEq, Int.reduceLT, Int.reduceLE, l]
  | k + 1, j, g, hj => by
    have l : (iI 210 ≤ iI ((j : Nat) : Int)) = False := iG_f (by omega) (by omega) (by omega) (by omega) (by omega)
    have l0 : (iI ((j : Nat) : Int) < iI 0) = False := iL_f (by omega) (by omega) (by omega) (by omega) (by omega)
    have nn : ((j : Nat) : Int).toNat = j := by omega
    have cl : (iI ((j : Nat) : Int)).toNatClampNeg = j := by rw [iI_nat (by omega) (by omega)]; exact nn
    have l9 : (210 ≤ j) = False := eq_false (by omega)
    have e1 : ((j : Nat) : Int) + 1 = ((j + 1 : Nat) : Int) := by omega
    obtain ⟨g', a1, a2, a3⟩ := R_s163 k (j + 1) (wI g 300 j (iI 0)) (by omega)
    refine ⟨g', ?_, fun z h1 h2 => ?_, Kf.trans (Kf.refl.wI ⟨rfl, Nat.le_refl _⟩) (a3.mono (fun a x q => ⟨q.1, by have := q.2; omega⟩) (fun a x q => q))⟩
    · rw [← a1, U_X12_stands_163]
      (try simp only [iI_lit, iI_neg]) <;> simp (maxSteps := 1000000) (disch := decide) only [iI_lit, iI_neg, iI_add, mm_bI_some, mm_bV_some, mm_bL_some, ↓reduceIte, i10, i00, i11, eq_self, not_true_eq_false, not_false_eq_true, ite_true, ite_false, if_true, if_false, and_true, true_and, and_false, false_and, and_self, or_self, or_false, false_or, or_true, true_or, iI_eq, iI_lt, iI_le, Int.reduceEq, Int.reduceLT, Int.reduceLE, l, l0, cl, l9, e1]
    · by_cases c : z = j
      · rw [c, a3.1 _ _ (by omega)]
        exact fd_wI_same (by omega) (by omega)
      · exact a2 z (by omega) h2
set_option maxHeartbeats 8000000 in
theorem R_s131 {L : Nat} (hL : L ≤ 1600) : ∀ (k j : Nat) (g : mm_H), j + k = L → fd g 264 51 = (L : Nat) → ∃ g', mm_D (mm_M mm_T0 d) cd_X12_stands 131 [.ref 264, .int (iI (j : Nat))] [] g = mm_D (mm_M mm_T0 d) cd_X12_stands 163 [.ref 264, .int (iI 0)] [] g' ∧ (∀ z, j ≤ z → z < L → fd g' 299 (1600 + z) = fd g 299 z) ∧ Kf (fun a x => a = 299 ∧ 1600 + j ≤ x) nL g g'
  | 0, j, g, hj, e51 => by
    have l : (iI ((L : Nat) : Int) ≤ iI ((j : Nat) : Int)) = True := iG_t (by omega) (by omega) (by omega) (by omega) (by omega)
    refine ⟨g, ?_, fun z h1 h2 => by omega, Kf.refl⟩
    rw [U_X12_stands_131]
    (try simp only [iI_lit, iI_neg]) <;> simp (maxSteps := 1000000) (disch := decide) only [iI_lit, iI_neg, iI_add, mm_bI_some, mm_bV_some, mm_bL_some, ↓reduceIte, i10, i00, i11, eq_self, not_true_eq_false, not_false_eq_true, ite_true, ite_false, if_true, if_false, and_true, true_and, and_false, false_and, and_self, or_self, or_false, false_or, or_true, true_or, iI_eq, iI_lt, iI_le, Int.reduceEq, Int.reduceLT, Int.reduceLE, rdE e51, l]
  | k + 1, j, g, hj, e51 => by
    have l : (iI ((L : Nat) : Int) ≤ iI ((j : Nat) : Int)) = False := iG_f (by omega) (by omega) (by omega) (by omega) (by omega)
    have l0 : (iI ((j : Nat) : Int) < iI 0) = False := iL_f (by omega) (by omega) (by omega) (by omega) (by omega)
    have cl : (iI ((j : Nat) : Int)).toNatClampNeg = j := by rw [iI_nat (by omega) (by omega)]; omega
    have l9 : (3200 ≤ j) = False := eq_false (by omega)
    have e8 : (1600 : Int) + ((j : Nat) : Int) = ((1600 + j : Nat) : Int) := by omega
    have l1 : (iI ((1600 + j : Nat) : Int) < iI 0) = False := iL_f (by omega) (by omega) (by omega) (by omega) (by omega)
    have cl1 : (iI ((1600 + j : Nat) : Int)).toNatClampNeg = 1600 + j := by rw [iI_nat (by omega) (by omega)]; omega
    have l2 : (3200 ≤ 1600 + j) = False := eq_false (by omega)
    have e1 : ((j : Nat) : Int) + 1 = ((j + 1 : Nat) : Int) := by omega
    obtain ⟨g', a1, a2, a3⟩ := R_s131 hL k (j + 1) (wI g 299 (1600 + j) (g.1 299 j)) (by omega) ((fd_wI_row (by omega)).trans e51)
    refine ⟨g', ?_, fun z h1 h2 => ?_, Kf.trans (Kf.refl.wI ⟨rfl, Nat.le_refl _⟩) (a3.mono (fun a x q => ⟨q.1, by have := q.2; omega⟩) (fun a x q => q))⟩
    · rw [← a1, U_X12_stands_131]
      (try simp only [iI_lit, iI_neg]) <;> simp (maxSteps := 1000000) (disch := decide) only [iI_lit, iI_neg, iI_add, mm_bI_some, mm_bV_some, mm_bL_some, ↓reduceIte, i10, i00, i11, eq_self, not_true_eq_false, not_false_eq_true, ite_true, ite_false, if_true, if_false, and_true, true_and, and_false, false_and, and_self, or_self, or_false, false_or, or_true, true_or, iI_eq, iI_lt, iI_le, Int.reduceEq, Int.reduceLT, Int.reduceLE, rdE e51, l, l0, cl, l9, e8, l1, cl1, l2, e1]
    · by_cases c : z = j
      · rw [c, a3.1 _ _ (by omega), fd_cp]
        rfl
      · rw [a2 z (by omega) h2, fd_wI_col (by omega)]
end RSD
