/-! the class's terrace: what is told is cleared, the reader begins -/
section CTR
variable {d : Nat} {g : mm_H} {b : Nat → Int} {E p : Nat} {gl : Bool} {u : Nat}
set_option maxHeartbeats 8000000 in
theorem C_clr7_22 {s : Nat} (hs : mm_isS s) : ∀ (k j : Nat) (g : mm_H), j + k = 9 → ∃ g', mm_D (mm_M mm_T0 d) cd_X7_clear 22 [.ref s, .int (iI (j : Nat))] [] g = some (none, g') ∧ (∀ z, j ≤ z → z < 9 → fd g' (s + 7) z = -1) ∧ Kf (fun a x => a = s + 7 ∧ j ≤ x) nL g g'
  | 0, j, g, hj => by
    have l : (iI 9 ≤ iI ((j : Nat) : Int)) = True := iG_t (by omega) (by omega) (by omega) (by omega) (by omega)
    refine ⟨g, ?_, fun z h1 h2 => by omega, Kf.refl⟩
    rw [U_X7_clear_22 hs]
    (try simp only [iI_lit, iI_neg]) <;> simp (maxSteps := 1000000) (disch := decide) only [iI_lit, iI_neg, iI_add, mm_bI_some, mm_bV_some, mm_bL_some, ↓reduceIte, i10, i00, i11, eq_self, not_true_eq_false, not_false_eq_true, ite_true, ite_false, if_true, if_false, and_true, true_and, and_false, false_and, and_self, or_self, or_false, false_or, or_true, true_or, iI_eq, iI_lt, iI_le, Int.reduceEq, Int.reduceLT, Int.reduceLE, l]
  | k + 1, j, g, hj => by
    have l : (iI 9 ≤ iI ((j : Nat) : Int)) = False := iG_f (by omega) (by omega) (by omega) (by omega) (by omega)
    have l0 : (iI ((j : Nat) : Int) < iI 0) = False := iL_f (by omega) (by omega) (by omega) (by omega) (by omega)
    have nn : ((j : Nat) : Int).toNat = j := by omega
    have cl : (iI ((j : Nat) : Int)).toNatClampNeg = j := by rw [iI_nat (by omega) (by omega)]; exact nn
    have l9 : (9 ≤ j) = False := eq_false (by omega)
    have e1 : ((j : Nat) : Int) + 1 = ((j + 1 : Nat) : Int) := by omega
    obtain ⟨g', a1, a2, a3⟩ := C_clr7_22 hs k (j + 1) (wI g (s + 7) j (iI (-1))) (by omega)
    refine ⟨g', ?_, fun z h1 h2 => ?_, Kf.trans (Kf.refl.wI ⟨rfl, Nat.le_refl _⟩) (a3.mono (fun a x q => ⟨q.1, by have := q.2; omega⟩) (fun a x q => q))⟩
    · rw [← a1, U_X7_clear_22 hs]
      (try simp only [iI_lit, iI_neg]) <;> simp (maxSteps := 1000000) (disch := decide) only [iI_lit, iI_neg, iI_add, mm_bI_some, mm_bV_some, mm_bL_some, ↓reduceIte, i10, i00, i11, eq_self, not_true_eq_false, not_false_eq_true, ite_true, ite_false, if_true, if_false, and_true, true_and, and_false, false_and, and_self, or_self, or_false, false_or, or_true, true_or, iI_eq, iI_lt, iI_le, Int.reduceEq, Int.reduceLT, Int.reduceLE, l, l0, cl, l9, e1]
    · by_cases c : z = j
      · rw [c, a3.1 _ _ (by omega)]
        exact fd_wI_same (by omega) (by omega)
      · exact a2 z (by omega) h2
set_option maxHeartbeats 8000000 in
theorem C_clr7 {s : Nat} (hs : mm_isS s) : ∃ g', mm_M mm_T0 (d + 1) 99 [.ref s] g = some (none, g') ∧ (fd g' s 8 = 0 ∧ fd g' s 9 = 0 ∧ fd g' s 10 = 0 ∧ fd g' s 11 = 0) ∧ (∀ z, z < 9 → fd g' (s + 7) z = -1) ∧ Kf (fun a x => (a = s ∧ 8 ≤ x) ∨ a = s + 7) nL g g' := by
  obtain ⟨g', a1, a2, a3⟩ := C_clr7_22 (d := d) hs 9 0 (wI (wI (wI (wI g s 8 (iI 0)) s 9 (iI 0)) s 10 (iI 0)) s 11 (iI 0)) (by omega)
  rw [show ((0 : Nat) : Int) = 0 from rfl] at a1
  have z : ∀ x, fd g' s x = fd (wI (wI (wI (wI g s 8 (iI 0)) s 9 (iI 0)) s 10 (iI 0)) s 11 (iI 0)) s x := fun x => a3.1 _ _ (by omega)
  refine ⟨g', ?_, ⟨?_, ?_, ?_, ?_⟩, fun x hx => a2 x (by omega) hx, Kf.trans ((((Kf.refl.wI (by omega)).wI (by omega)).wI (by omega)).wI (by omega)) (a3.mono (fun a x q => Or.inr q.1) (fun a x q => q))⟩
  · rw [U_X7_clear hs, ← a1]
    simp only [iI_lit]
  · rw [z, fd_wI_col (by omega), fd_wI_col (by omega), fd_wI_col (by omega), fd_wI_same (by omega) (by omega)]
  · rw [z, fd_wI_col (by omega), fd_wI_col (by omega), fd_wI_same (by omega) (by omega)]
  · rw [z, fd_wI_col (by omega), fd_wI_same (by omega) (by omega)]
  · rw [z, fd_wI_same (by omega) (by omega)]
set_option maxHeartbeats 8000000 in
theorem C_clr1_7 {c : Nat} (hc : mm_isC c) : ∀ (k j : Nat) (g : mm_H), j + k = 4 → ∃ g', mm_D (mm_M mm_T0 d) cd_X1_clear 7 [.ref c, .int (iI (j : Nat))] [] g = some (none, g') ∧ (∀ z, j ≤ z → z < 4 → fd g' (c + 2) z = -1) ∧ Kf (fun a x => (a = c + 2 ∨ a = c + 3) ∧ j ≤ x) nL g g'
  | 0, j, g, hj => by
    have l : (iI 4 ≤ iI ((j : Nat) : Int)) = True := iG_t (by omega) (by omega) (by omega) (by omega) (by omega)
    refine ⟨g, ?_, fun z h1 h2 => by omega, Kf.refl⟩
    rw [U_X1_clear_7 hc]
    (try simp only [iI_lit, iI_neg]) <;> simp (maxSteps := 1000000) (disch := decide) only [iI_lit, iI_neg, iI_add, mm_bI_some, mm_bV_some, mm_bL_some, ↓reduceIte, i10, i00, i11, eq_self, not_true_eq_false, not_false_eq_true, ite_true, ite_false, if_true, if_false, and_true, true_and, and_false, false_and, and_self, or_self, or_false, false_or, or_true, true_or, iI_eq, iI_lt, iI_le, Int.reduceEq, Int.reduceLT, Int.reduceLE, l]
  | k + 1, j, g, hj => by
    have l : (iI 4 ≤ iI ((j : Nat) : Int)) = False := iG_f (by omega) (by omega) (by omega) (by omega) (by omega)
    have l0 : (iI ((j : Nat) : Int) < iI 0) = False := iL_f (by omega) (by omega) (by omega) (by omega) (by omega)
    have nn : ((j : Nat) : Int).toNat = j := by omega
    have cl : (iI ((j : Nat) : Int)).toNatClampNeg = j := by rw [iI_nat (by omega) (by omega)]; exact nn
    have l9 : (4 ≤ j) = False := eq_false (by omega)
    have e1 : ((j : Nat) : Int) + 1 = ((j + 1 : Nat) : Int) := by omega
    obtain ⟨g', a1, a2, a3⟩ := C_clr1_7 hc k (j + 1) (wI (wI g (c + 2) j (iI (-1))) (c + 3) j (iI (-1))) (by omega)
    refine ⟨g', ?_, fun z h1 h2 => ?_, Kf.trans ((Kf.refl.wI ⟨Or.inl rfl, Nat.le_refl _⟩).wI ⟨Or.inr rfl, Nat.le_refl _⟩) (a3.mono (fun a x q => ⟨q.1, by have := q.2; omega⟩) (fun a x q => q))⟩
    · rw [← a1, U_X1_clear_7 hc]
      (try simp only [iI_lit, iI_neg]) <;> simp (maxSteps := 1000000) (disch := decide) only [iI_lit, iI_neg, iI_add, mm_bI_some, mm_bV_some, mm_bL_some, ↓reduceIte, i10, i00, i11, eq_self, not_true_eq_false, not_false_eq_true, ite_true, ite_false, if_true, if_false, and_true, true_and, and_false, false_and, and_self, or_self, or_false, false_or, or_true, true_or, iI_eq, iI_lt, iI_le, Int.reduceEq, Int.reduceLT, Int.reduceLE, l, l0, cl, l9, e1]
    · by_cases c9 : z = j
      · rw [c9, a3.1 _ _ (by omega), fd_wI_row (by omega)]
        exact fd_wI_same (by omega) (by omega)
      · exact a2 z (by omega) h2
set_option maxHeartbeats 8000000 in
theorem C_clr1 {c : Nat} (hc : mm_isC c) : ∃ g', mm_M mm_T0 (d + 1) 33 [.ref c] g = some (none, g') ∧ fd g' c 5 = 0 ∧ (∀ z, z < 4 → fd g' (c + 2) z = -1) ∧ Kf (fun a x => (a = c ∧ x = 5) ∨ a = c + 2 ∨ a = c + 3) nL g g' := by
  obtain ⟨g', a1, a2, a3⟩ := C_clr1_7 (d := d) hc 4 0 (wI g c 5 (iI 0)) (by omega)
  rw [show ((0 : Nat) : Int) = 0 from rfl] at a1
  refine ⟨g', ?_, ?_, fun x hx => a2 x (by omega) hx, Kf.trans (Kf.refl.wI (by omega)) (a3.mono (fun a x q => Or.inr q.1) (fun a x q => q))⟩
  · rw [U_X1_clear hc, ← a1]
    simp only [iI_lit]
  · rw [a3.1 _ _ (by omega)]
    exact fd_wI_same (by omega) (by omega)
set_option maxHeartbeats 8000000 in
theorem C_clear (hu : mm_isT u) : ∃ g', mm_M mm_T0 (d + 2) 136 [.ref u] g = some (none, g') ∧ CTs g' u 0 st0 ∧ Kf (fun a _ => u ≤ a ∧ a ≤ u + 16) nL g g' := by
  obtain ⟨g1, a1, a2, a3, k1⟩ := C_clr7 (d := d) (g := g) (isT_S hu)
  obtain ⟨g2, b1, b2', b3, k2⟩ := C_clr1 (d := d) (g := g1) (isT_C hu)
  have k3 : Kf (fun a x => a = u ∧ (x = 3 ∨ x = 4)) nL g2 (wI (wI g2 u 3 (iI 0)) u 4 (iI 0)) := (Kf.refl.wI (by omega)).wI (by omega)
  have z : ∀ a x, a ≠ u → fd (wI (wI g2 u 3 (iI 0)) u 4 (iI 0)) a x = fd g2 a x := fun a x h => k3.1 _ _ (by omega)
  have z1 : ∀ a x, a ≠ u → a ≠ u + 10 → a ≠ u + 12 → a ≠ u + 13 → fd (wI (wI g2 u 3 (iI 0)) u 4 (iI 0)) a x = fd g1 a x := fun a x h h1 h2 h3 => (z a x h).trans (k2.1 _ _ (by omega))
  refine ⟨wI (wI g2 u 3 (iI 0)) u 4 (iI 0), ?_, ⟨⟨?_, ?_, ?_, ?_⟩, fun i x hx => ?_, fun i j h1 _ _ => ?_, fun v hv => ?_, ?_, ⟨?_, fun i v h => ?_⟩, fun w hw => ⟨fun _ => ?_, fun y hy => ?_⟩⟩, (k1.mono (fun a x q => by omega) (fun a x q => q)).trans ((k2.mono (fun a x q => by omega) (fun a x q => q)).trans (k3.mono (fun a x q => by omega) (fun a x q => q)))⟩
  · rw [U_X10_clear hu]
    (try simp only [iI_lit, iI_neg]) <;> simp (maxSteps := 1000000) (disch := decide) only [iI_lit, iI_neg, iI_add, mm_bI_some, mm_bV_some, mm_bL_some, ↓reduceIte, i10, i00, i11, eq_self, not_true_eq_false, not_false_eq_true, ite_true, ite_false, if_true, if_false, and_true, true_and, and_false, false_and, and_self, or_self, or_false, false_or, or_true, true_or, iI_eq, iI_lt, iI_le, Int.reduceEq, Int.reduceLT, Int.reduceLE, ↓bV_eq a1, ↓bV_eq b1]
  · rw [z1 _ _ (by omega) (by omega) (by omega) (by omega)]; exact a2.2.1
  · rw [z1 _ _ (by omega) (by omega) (by omega) (by omega)]; exact a2.2.2.1
  · rw [z1 _ _ (by omega) (by omega) (by omega) (by omega)]; exact a2.2.2.2
  · rw [z1 _ _ (by omega) (by omega) (by omega) (by omega)]; exact a2.1
  · exact absurd hx (by simp [st0])
  · exact absurd h1 (by simp [st0])
  · rw [z1 _ _ (by omega) (by omega) (by omega) (by omega)]
    exact a3 v hv
  · rw [fd_wI_col (by omega)]
    exact fd_wI_same (by omega) (by omega)
  · rw [z _ _ (by omega)]; exact b2'
  · exact absurd h (by simp [st0, rAll])
  · rw [z _ _ (by omega)]
    exact b3 w (by omega)
  · exact absurd hy (by simp [st0, rOf])
set_option maxHeartbeats 8000000 in
theorem C_begin (T : TpC g b E) (hE : E ≤ 1600) : ∃ g', mm_M mm_T0 (d + 6) 74 [.ref 3] g = some (none, g') ∧ CS g' b E 0 false ∧ Kf (fun a _ => a = 3) nL g g' := by
  have k0 : Kf (fun a _ => a = 3) nL g (wI (wI (wI (wI g 3 5 (iI 0)) 3 6 (iI (-1))) 3 1 (iI 0)) 3 3 (iI 0)) := (((Kf.refl.wI (by omega)).wI (by omega)).wI (by omega)).wI (by omega)
  obtain ⟨g', a1, a2, a3⟩ := C_advance (d := d) (K := 0) (p := 0) (T.kf k0 (by omega) (by intro j; omega)) hE (Nat.zero_le _) (by omega) (by omega) (by rw [fd_wI_col (by omega)]; exact fd_wI_same (by omega) (by omega)) (fd_wI_same (by omega) (by omega))
  refine ⟨g', ?_, CS.of a2 a3 ?_ ?_, k0.trans (a3.mono (fun a x q => q.1) (fun a x q => q))⟩
  · rw [U_X6_begin]
    (try simp only [iI_lit, iI_neg]) <;> simp (maxSteps := 1000000) (disch := decide) only [iI_lit, iI_neg, iI_add, mm_bI_some, mm_bV_some, mm_bL_some, ↓reduceIte, i10, i00, i11, eq_self, not_true_eq_false, not_false_eq_true, ite_true, ite_false, if_true, if_false, and_true, true_and, and_false, false_and, and_self, or_self, or_false, false_or, or_true, true_or, iI_eq, iI_lt, iI_le, Int.reduceEq, Int.reduceLT, Int.reduceLE, ↓bV_eq a1]
  · rw [fd_wI_col (by omega), fd_wI_col (by omega), fd_wI_col (by omega)]
    exact fd_wI_same (by omega) (by omega)
  · rw [fd_wI_col (by omega), fd_wI_col (by omega)]
    exact fd_wI_same (by omega) (by omega)
end CTR
