/-! the reference's terrace from its beginning -/
def QRz : Nat → Nat → Prop := fun a k => QRs a k ∨ (a = 264 ∧ (1 ≤ k ∧ k ≤ 6))
def RTA (d : Nat) (g : mm_H) (X : mm_X) (r : Sum (Int × Int) (Nat × Nat × Tst)) : Prop := match r with
  | .inl f => ∃ g', X = kT d g' ∧ Bad g' f.1 f.2 ∧ fd g' 264 1 = 0 ∧ Kf QRz LRt g g'
  | .inr y => ∃ g', X = kT d g' ∧ (fd g' 264 5 = 0 ∧ fd g' 264 6 = -1) ∧ RTs g' (y.1 : Nat) y.2.2 ∧ fd g' 264 52 = (y.2.1 : Nat) ∧ fd g' 264 1 = 0 ∧ Kf QRz LRt g g'
section RTB
variable {d : Nat} {g : mm_H} {b : Nat → Int} {E : Nat}
set_option maxHeartbeats 8000000 in
theorem R_45 : ∀ (k j : Nat) (g : mm_H), j + k = 64 → ∃ g', mm_D (mm_M mm_T0 d) cd_X12_terrace 45 [.ref 264, .int (iI (j : Nat))] [] g = mm_D (mm_M mm_T0 d) cd_X12_terrace 66 [.ref 264, .int (iI 0)] [] g' ∧ (∀ z, j ≤ z → z < 64 → fd g' 296 z = 5) ∧ Kf (fun a x => a = 296 ∧ j ≤ x) nL g g'
  | 0, j, g, hj => by
    have l : (iI 64 ≤ iI ((j : Nat) : Int)) = True := iG_t (by omega) (by omega) (by omega) (by omega) (by omega)
    refine ⟨g, ?_, fun z h1 h2 => by omega, Kf.refl⟩
    rw [U_X12_terrace_45]
    (try simp only [iI_lit, iI_neg]) <;> simp (maxSteps := 1000000) (disch := decide) only [iI_lit, iI_neg, iI_add, mm_bI_some, mm_bV_some, mm_bL_some, ↓reduceIte, i10, i00, i11, eq_self, not_true_eq_false, not_false_eq_true, ite_true, ite_false, if_true, if_false, and_true, true_and, and_false, false_and, and_self, or_self, or_false, false_or, or_true, true_or, iI_eq, iI_lt, iI_le, Int.reduceEq, Int.reduceLT, Int.reduceLE, l]
  | k + 1, j, g, hj => by
    have l : (iI 64 ≤ iI ((j : Nat) : Int)) = False := iG_f (by omega) (by omega) (by omega) (by omega) (by omega)
    have l0 : (iI ((j : Nat) : Int) < iI 0) = False := iL_f (by omega) (by omega) (by omega) (by omega) (by omega)
    have nn : ((j : Nat) : Int).toNat = j := by omega
    have cl : (iI ((j : Nat) : Int)).toNatClampNeg = j := by rw [iI_nat (by omega) (by omega)]; exact nn
    have l9 : (64 ≤ j) = False := eq_false (by omega)
    have e1 : ((j : Nat) : Int) + 1 = ((j + 1 : Nat) : Int) := by omega
    obtain ⟨g', a1, a2, a3⟩ := R_45 k (j + 1) (wI g 296 j (iI 5)) (by omega)
    refine ⟨g', ?_, fun z h1 h2 => ?_, Kf.trans (Kf.refl.wI ⟨rfl, Nat.le_refl _⟩) (a3.mono (fun a x q => ⟨q.1, by have := q.2; omega⟩) (fun a x q => q))⟩
    · rw [← a1, U_X12_terrace_45]
      (try simp only [iI_lit, iI_neg]) <;> simp (maxSteps := 1000000) (disch := decide) only [iI_lit, iI_neg, iI_add, mm_bI_some, mm_bV_some, mm_bL_some, ↓reduceIte, i10, i00, i11, eq_self, not_true_eq_false, not_false_eq_true, ite_true, ite_false, if_true, if_false, and_true, true_and, and_false, false_and, and_self, or_self, or_false, false_or, or_true, true_or, iI_eq, iI_lt, iI_le, Int.reduceEq, Int.reduceLT, Int.reduceLE, l, l0, cl, l9, e1]
    · by_cases c : z = j
      · rw [c, a3.1 _ _ (by omega)]
        exact fd_wI_same (by omega) (by omega)
      · exact a2 z (by omega) h2
set_option maxHeartbeats 8000000 in
theorem R_66 : ∀ (k j : Nat) (g : mm_H), j + k = 3 → ∃ g', mm_D (mm_M mm_T0 d) cd_X12_terrace 66 [.ref 264, .int (iI (j : Nat))] [] g = mm_bV (mm_M mm_T0 d 206 [.ref 264] (wI g' 264 46 (iI 0))) (fun h1 => mm_D (mm_M mm_T0 d) cd_X12_terrace 98 [.ref 264, .null] [] (wI h1 264 52 (iI 1))) ∧ (∀ z, j ≤ z → z < 3 → fd g' 297 z = -1) ∧ Kf (fun a x => a = 297 ∧ j ≤ x ∧ x < 3) nL g g'
  | 0, j, g, hj => by
    have l : (iI 3 ≤ iI ((j : Nat) : Int)) = True := iG_t (by omega) (by omega) (by omega) (by omega) (by omega)
    refine ⟨g, ?_, fun z h1 h2 => by omega, Kf.refl⟩
    rw [U_X12_terrace_66]
    (try simp only [iI_lit, iI_neg]) <;> simp (maxSteps := 1000000) (disch := decide) only [iI_lit, iI_neg, iI_add, mm_bI_some, mm_bV_some, mm_bL_some, ↓reduceIte, i10, i00, i11, eq_self, not_true_eq_false, not_false_eq_true, ite_true, ite_false, if_true, if_false, and_true, true_and, and_false, false_and, and_self, or_self, or_false, false_or, or_true, true_or, iI_eq, iI_lt, iI_le, Int.reduceEq, Int.reduceLT, Int.reduceLE, l]
  | k + 1, j, g, hj => by
    have l : (iI 3 ≤ iI ((j : Nat) : Int)) = False := iG_f (by omega) (by omega) (by omega) (by omega) (by omega)
    have l0 : (iI ((j : Nat) : Int) < iI 0) = False := iL_f (by omega) (by omega) (by omega) (by omega) (by omega)
    have nn : ((j : Nat) : Int).toNat = j := by omega
    have cl : (iI ((j : Nat) : Int)).toNatClampNeg = j := by rw [iI_nat (by omega) (by omega)]; exact nn
    have l9 : (6 ≤ j) = False := eq_false (by omega)
    have e1 : ((j : Nat) : Int) + 1 = ((j + 1 : Nat) : Int) := by omega
    obtain ⟨g', a1, a2, a3⟩ := R_66 k (j + 1) (wI g 297 j (iI (-1))) (by omega)
    refine ⟨g', ?_, fun z h1 h2 => ?_, Kf.trans (Kf.refl.wI ⟨rfl, Nat.le_refl _, by omega⟩) (a3.mono (fun a x q => ⟨q.1, by have := q.2.1; omega, q.2.2⟩) (fun a x q => q))⟩
    · rw [← a1, U_X12_terrace_66]
      (try simp only [iI_lit, iI_neg]) <;> simp (maxSteps := 1000000) (disch := decide) only [iI_lit, iI_neg, iI_add, mm_bI_some, mm_bV_some, mm_bL_some, ↓reduceIte, i10, i00, i11, eq_self, not_true_eq_false, not_false_eq_true, ite_true, ite_false, if_true, if_false, and_true, true_and, and_false, false_and, and_self, or_self, or_false, false_or, or_true, true_or, iI_eq, iI_lt, iI_le, Int.reduceEq, Int.reduceLT, Int.reduceLE, l, l0, cl, l9, e1]
    · by_cases c : z = j
      · rw [c, a3.1 _ _ (by omega)]
        exact fd_wI_same (by omega) (by omega)
      · exact a2 z (by omega) h2
end RTB
