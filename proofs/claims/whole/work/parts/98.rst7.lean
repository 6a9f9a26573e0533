section RSF
variable {d : Nat}
set_option maxHeartbeats 8000000 in
theorem R_s185 {m : Nat} {f h : Nat → Int} (m8 : m ≤ 8) (fb : ∀ z, z < m → 0 ≤ f z ∧ f z ≤ 9) : ∀ (k j : Nat) (g : mm_H), j + k = m → fd g 264 40 = (m : Nat) → (∀ z, z < m → fd g 293 z = h z ∧ fd g 294 z = f z) → ∃ g', mm_D (mm_M mm_T0 d) cd_X12_stands 185 [.ref 264, .int (iI (j : Nat))] [] g = mm_D (mm_M mm_T0 d) cd_X12_stands 236 [.ref 264, .int (iI 0)] [] g' ∧ (∀ z, j ≤ z → z < m → fd g' 300 (1 + 3 * z) = h z ∧ fd g' 300 (2 + 3 * z) = 10 * f z) ∧ Kf (fun a x => a = 300 ∧ 1 + 3 * j ≤ x ∧ x < 1 + 3 * m ∧ x % 3 ≠ 0) nL g g'
  | 0, j, g, hj, e40, hz => by
    have l : (iI ((m : Nat) : Int) ≤ iI ((j : Nat) : Int)) = True := iG_t (by omega) (by omega) (by omega) (by omega) (by omega)
    refine ⟨g, ?_, fun z h1 h2 => by omega, Kf.refl⟩
    rw [U_X12_stands_185]
    (try simp only [iI_lit, iI_neg]) <;> simp (maxSteps := 1000000) (disch := decide) only [iI_lit, iI_neg, iI_add, mm_bI_some, mm_bV_some, mm_bL_some, ↓reduceIte, i10, i00, i11, eq_self, not_true_eq_false, not_false_eq_true, ite_true, ite_false, if_true, if_false, and_true, true_and, and_false, false_and, and_self, or_self, or_false, false_or, or_true, true_or, iI_eq, iI_lt, iI_le, Int.reduceEq, Int.reduceLT, Int.reduceLE, rdE e40, l]
  | k + 1, j, g, hj, e40, hz => by
    obtain ⟨z1, z2⟩ := hz j (by omega)
    have fj := fb j (by omega)
    have l : (iI ((m : Nat) : Int) ≤ iI ((j : Nat) : Int)) = False := iG_f (by omega) (by omega) (by omega) (by omega) (by omega)
    have l0 : (iI ((j : Nat) : Int) < iI 0) = False := iL_f (by omega) (by omega) (by omega) (by omega) (by omega)
    have cl : (iI ((j : Nat) : Int)).toNatClampNeg = j := by rw [iI_nat (by omega) (by omega)]; omega
    have l9 : (8 ≤ j) = False := eq_false (by omega)
    have l16 : (16 ≤ j) = False := eq_false (by omega)
    have e8 : (1 : Int) + 3 * ((j : Nat) : Int) = ((1 + 3 * j : Nat) : Int) := by omega
    have l1 : (iI ((1 + 3 * j : Nat) : Int) < iI 0) = False := iL_f (by omega) (by omega) (by omega) (by omega) (by omega)
    have cl1 : (iI ((1 + 3 * j : Nat) : Int)).toNatClampNeg = 1 + 3 * j := by rw [iI_nat (by omega) (by omega)]; omega
    have l2 : (210 ≤ 1 + 3 * j) = False := eq_false (by omega)
    have e9 : (2 : Int) + 3 * ((j : Nat) : Int) = ((2 + 3 * j : Nat) : Int) := by omega
    have l3 : (iI ((2 + 3 * j : Nat) : Int) < iI 0) = False := iL_f (by omega) (by omega) (by omega) (by omega) (by omega)
    have cl3 : (iI ((2 + 3 * j : Nat) : Int)).toNatClampNeg = 2 + 3 * j := by rw [iI_nat (by omega) (by omega)]; omega
    have l4 : (210 ≤ 2 + 3 * j) = False := eq_false (by omega)
    have e1 : ((j : Nat) : Int) + 1 = ((j + 1 : Nat) : Int) := by omega
    have zw : fd (wI g 300 (1 + 3 * j) (g.1 293 j)) 294 j = f j := (fd_wI_row (by omega)).trans z2
    have kk : Kf (fun a x => a = 300 ∧ (x = 1 + 3 * j ∨ x = 2 + 3 * j)) nL g (wI (wI g 300 (1 + 3 * j) (g.1 293 j)) 300 (2 + 3 * j) (iI (10 * f j))) := (Kf.refl.wI ⟨rfl, Or.inl rfl⟩).wI ⟨rfl, Or.inr rfl⟩
    obtain ⟨g', a1, a2, a3⟩ := R_s185 m8 fb k (j + 1) (wI (wI g 300 (1 + 3 * j) (g.1 293 j)) 300 (2 + 3 * j) (iI (10 * f j))) (by omega) ((kk.1 _ _ (by omega)).trans e40) (fun z hz' => by rw [kk.1 _ _ (by omega), kk.1 _ _ (by omega)]; exact hz z hz')
    refine ⟨g', ?_, fun z h1 h2 => ?_, Kf.trans (kk.mono (fun a x q => ⟨q.1, by have := q.2; omega, by have := q.2; omega, by have := q.2; omega⟩) (fun a x q => q)) (a3.mono (fun a x q => ⟨q.1, by have := q.2.1; omega, q.2.2⟩) (fun a x q => q))⟩
    · rw [← a1, U_X12_stands_185]
      (try simp only [iI_lit, iI_neg]) <;> simp (maxSteps := 1000000) (disch := decide) only [iI_lit, iI_neg, iI_add, mm_bI_some, mm_bV_some, mm_bL_some, ↓reduceIte, i10, i00, i11, eq_self, not_true_eq_false, not_false_eq_true, ite_true, ite_false, if_true, if_false, and_true, true_and, and_false, false_and, and_self, or_self, or_false, false_or, or_true, true_or, iI_eq, iI_lt, iI_le, Int.reduceEq, Int.reduceLT, Int.reduceLE, rdE e40, l, l0, cl, l9, l16, iI_mul, e8, l1, cl1, l2, e9, l3, cl3, l4, rdE zw, e1]
    · by_cases c : z = j
      · rw [c, a3.1 _ _ (by omega), a3.1 _ _ (by omega)]
        refine ⟨?_, ?_⟩
        · rw [fd_wI_col (by omega), fd_cp]
          exact z1
        · exact fd_wI_same (by omega) (by omega)
      · exact a2 z (by omega) h2
end RSF
