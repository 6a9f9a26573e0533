section CRG
variable {d : Nat} {g : mm_H} {b : Nat → Int} {E p : Nat} {gl : Bool} {cc L : Nat} {w : Int} {C : List Int}
set_option maxHeartbeats 8000000 in
theorem C_cl1 {n : Nat} (hE : E ≤ 1600) (h0 : Cl0 b E cc L w n) (h2 : Cl2 b E cc L w n) : Cl1 b E cc L w (n + 1) := by
  intro o p gl D g C wt c hp ho hn hD X hL
  obtain ⟨D, rfl⟩ : ∃ D', D = D' + 9 := ⟨D - 9, by omega⟩
  have ih := h0 o p gl (D + 8) g C 0 [] hp ho (by omega) (by omega) X hL
  have ok := (Ok_all (b := b) (w := w) hE n).1 o p gl 0 [] hp (by omega)
  rw [rd_1]
  unfold fSum
  revert ih ok
  cases rd b E w n 0 o p gl 0 [] with
  | inl f =>
    intro ih ok
    obtain ⟨g1, a1, a2, a3, a4, a5⟩ := ih
    refine ⟨g1, ?_, a2, a3, a4, a5⟩
    rw [U_X2_readSum]
    simp (disch := omega) only [iI_lit, jI_lit, iI_neg, jI_neg, iI_add, iI_sub, iI_mul, jI_add, jI_sub, jI_mul, rdI, rdL, iI_lt, iI_le, iI_eq, iI_nat, iI_b2_0, iI_b2_1, mm_bI_some, mm_bV_some, mm_bL_some, mm_bA_some, fd_wL, fd_wR, fl_wI, fl_wR, re_wI, re_wL, re_wC, ite_true, ite_false, not_true_eq_false, not_false_eq_true, lq_ge, lq_le, lq_gt, lq_lt, lq_eq, jI_lt, jI_le, jI_eq, if_pos, if_neg, a1]
  | inr y =>
    intro ih ok
    obtain ⟨g1, a1, X1, k1⟩ := ih
    have o1 : p + 1 ≤ y.1 := ok.1
    have o2 : y.1 ≤ E := ok.2.1
    have o3 : y.2.2.length + p ≤ 0 + y.1 := ok.2.2
    have r := h2 o y.1 y.2.1 (D + 8) g1 C 0 y.2.2 0 o2 ho (by omega) (by omega) (Or.inl rfl) X1 (by rw [List.length_append, show (wtL 0).length = 0 from rfl]; omega) (by omega)
    rw [show wtC 0 = -1 from rfl, show ((0 : Nat) : Int) = 0 from rfl] at r
    have st : mm_M mm_T0 (D + 9) 52 [.ref 11, .int (iI (o : Nat))] g = mm_D (mm_M mm_T0 (D + 8)) cd_X2_readSum 14 [.ref 11, .int (iI (o : Nat)), .int (iI (-1)), .int (iI 0), .null, .null] [] g1 := by
      rw [U_X2_readSum]
      simp (disch := omega) only [iI_lit, jI_lit, iI_neg, jI_neg, iI_add, iI_sub, iI_mul, jI_add, jI_sub, jI_mul, rdI, rdL, iI_lt, iI_le, iI_eq, iI_nat, iI_b2_0, iI_b2_1, mm_bI_some, mm_bV_some, mm_bL_some, mm_bA_some, fd_wL, fd_wR, fl_wI, fl_wR, re_wI, re_wL, re_wC, ite_true, ite_false, not_true_eq_false, not_false_eq_true, lq_ge, lq_le, lq_gt, lq_lt, lq_eq, jI_lt, jI_le, jI_eq, if_pos, if_neg, a1]
    rw [st]
    exact CRes_kf k1 r
/-- the deed that a sign tells -/
def dd (x : Int) : Int := if x = 43 then 11000 else if x = 45 then 11001 else if x = 42 then 11002 else if x = 47 then 11003 else -1
set_option maxHeartbeats 8000000 in
theorem C_deed (X : CX g b E p gl cc L w C) : mm_M mm_T0 (d + 2) 53 [.ref 11] g = some (some (.int (iI (dd (tB b E p)))), g) := by
  have s1 := C_isSign (d := d) (x := 43) X.1 (by omega) (by omega) (by omega)
  have s2 := C_isSign (d := d) (x := 45) X.1 (by omega) (by omega) (by omega)
  have s3 := C_isSign (d := d) (x := 42) X.1 (by omega) (by omega) (by omega)
  have s4 := C_isSign (d := d) (x := 47) X.1 (by omega) (by omega) (by omega)
  unfold dd
  rw [U_X2_deedHere]
  by_cases c1 : tB b E p = 43
  · rw [b2_t c1] at s1
    rw [if_pos c1]
    simp (disch := omega) only [iI_lit, jI_lit, iI_neg, jI_neg, iI_add, iI_sub, iI_mul, jI_add, jI_sub, jI_mul, rdI, rdL, iI_lt, iI_le, iI_eq, iI_nat, iI_b2_0, iI_b2_1, mm_bI_some, mm_bV_some, mm_bL_some, mm_bA_some, fd_wL, fd_wR, fl_wI, fl_wR, re_wI, re_wL, re_wC, ite_true, ite_false, not_true_eq_false, not_false_eq_true, lq_ge, lq_le, lq_gt, lq_lt, lq_eq, jI_lt, jI_le, jI_eq, if_pos, if_neg, s1]
  · rw [b2_f c1] at s1
    rw [if_neg c1]
    by_cases c2 : tB b E p = 45
    · rw [b2_t c2] at s2
      rw [if_pos c2]
      simp (disch := omega) only [iI_lit, jI_lit, iI_neg, jI_neg, iI_add, iI_sub, iI_mul, jI_add, jI_sub, jI_mul, rdI, rdL, iI_lt, iI_le, iI_eq, iI_nat, iI_b2_0, iI_b2_1, mm_bI_some, mm_bV_some, mm_bL_some, mm_bA_some, fd_wL, fd_wR, fl_wI, fl_wR, re_wI, re_wL, re_wC, ite_true, ite_false, not_true_eq_false, not_false_eq_true, lq_ge, lq_le, lq_gt, lq_lt, lq_eq, jI_lt, jI_le, jI_eq, if_pos, if_neg, s1, s2]
    · rw [b2_f c2] at s2
      rw [if_neg c2]
      by_cases c3 : tB b E p = 42
      · rw [b2_t c3] at s3
        rw [if_pos c3]
        simp (disch := omega) only [iI_lit, jI_lit, iI_neg, jI_neg, iI_add, iI_sub, iI_mul, jI_add, jI_sub, jI_mul, rdI, rdL, iI_lt, iI_le, iI_eq, iI_nat, iI_b2_0, iI_b2_1, mm_bI_some, mm_bV_some, mm_bL_some, mm_bA_some, fd_wL, fd_wR, fl_wI, fl_wR, re_wI, re_wL, re_wC, ite_true, ite_false, not_true_eq_false, not_false_eq_true, lq_ge, lq_le, lq_gt, lq_lt, lq_eq, jI_lt, jI_le, jI_eq, if_pos, if_neg, s1, s2, s3]
      · rw [b2_f c3] at s3
        rw [if_neg c3]
        by_cases c4 : tB b E p = 47
        · rw [b2_t c4] at s4
          rw [if_pos c4]
          simp (disch := omega) only [iI_lit, jI_lit, iI_neg, jI_neg, iI_add, iI_sub, iI_mul, jI_add, jI_sub, jI_mul, rdI, rdL, iI_lt, iI_le, iI_eq, iI_nat, iI_b2_0, iI_b2_1, mm_bI_some, mm_bV_some, mm_bL_some, mm_bA_some, fd_wL, fd_wR, fl_wI, fl_wR, re_wI, re_wL, re_wC, ite_true, ite_false, not_true_eq_false, not_false_eq_true, lq_ge, lq_le, lq_gt, lq_lt, lq_eq, jI_lt, jI_le, jI_eq, if_pos, if_neg, s1, s2, s3, s4]
        · rw [b2_f c4] at s4
          rw [if_neg c4]
          simp (disch := omega) only [iI_lit, jI_lit, iI_neg, jI_neg, iI_add, iI_sub, iI_mul, jI_add, jI_sub, jI_mul, rdI, rdL, iI_lt, iI_le, iI_eq, iI_nat, iI_b2_0, iI_b2_1, mm_bI_some, mm_bV_some, mm_bL_some, mm_bA_some, fd_wL, fd_wR, fl_wI, fl_wR, re_wI, re_wL, re_wC, ite_true, ite_false, not_true_eq_false, not_false_eq_true, lq_ge, lq_le, lq_gt, lq_lt, lq_eq, jI_lt, jI_le, jI_eq, if_pos, if_neg, s1, s2, s3, s4]
set_option maxHeartbeats 8000000 in
theorem C_cl2 {n : Nat} (hE : E ≤ 1600) (h0 : Cl0 b E cc L w n) (h2 : Cl2 b E cc L w n) : Cl2 b E cc L w (n + 1) := by
  intro o p gl D g C wt c k hp ho hn hD hw X hL hk
  obtain ⟨D, rfl⟩ : ∃ D', D = D' + 8 := ⟨D - 8, by omega⟩
  have hc := X.2.1.2.2
  have sh := X.sh
  have rf := X.2.1.2.1
  have dh := C_deed (d := D + 6) X
  have ge := tS_ge (b := b) (E := E) (p := p)
  have e1 : ((k : Nat) : Int) + 1 = ((k + 1 : Nat) : Int) := by omega
  rw [rd_2]
  unfold fRest
  by_cases c1 : opP (tB b E p) ≠ 0
  · rw [if_pos c1]
    obtain ⟨lt, tt⟩ := opP_in c1
    have dv : dd (tB b E p) = tc (opP (tB b E p)) ∧ (dd (tB b E p) = 11002 ∨ dd (tB b E p) = 11003) ∧ 0 ≤ opP (tB b E p) ∧ opP (tB b E p) ≤ 4 := by
      rcases tt with z | z <;> rw [z] <;> decide
    obtain ⟨g1, a1, S1, k1⟩ : ∃ g', mm_M mm_T0 (D + 8) 75 [.ref 3] g = some (none, g') ∧ CS g' b E (tS b E p + 1) false ∧ Kf QTc nL g g' := by
      rcases tt with z | z
      · exact C_advS (d := D + 3) X.1 z (by omega) (by omega) (by omega)
      · exact C_advS (d := D + 3) X.1 z (by omega) (by omega) (by omega)
    have X1 := X.tok S1 k1
    have ih := h0 o (tS b E p + 1) false (D + 8) g1 (C ++ c) 0 [] (by omega) ho (by omega) (by omega) X1 (by omega)
    have ok := (Ok_all (b := b) (w := w) hE n).1 o (tS b E p + 1) false 0 [] (by omega) (by omega)
    generalize opP (tB b E p) = op at *
    generalize dd (tB b E p) = dv' at *
    revert ih ok
    cases rd b E w n 0 o (tS b E p + 1) false 0 [] with
    | inl f =>
      intro ih ok
      obtain ⟨g2, b1, b2', b3, b4, b5⟩ := ih
      refine ⟨g2, ?_, b2', b3, b4, (kTF k1).trans b5⟩
      rw [U_X2_readSum_14]
      rcases dv.2.1 with z | z <;> simp (disch := omega) only [iI_lit, jI_lit, iI_neg, jI_neg, iI_add, iI_sub, iI_mul, jI_add, jI_sub, jI_mul, rdI, rdL, iI_lt, iI_le, iI_eq, iI_nat, iI_b2_0, iI_b2_1, mm_bI_some, mm_bV_some, mm_bL_some, mm_bA_some, fd_wL, fd_wR, fl_wI, fl_wR, re_wI, re_wL, re_wC, ite_true, ite_false, not_true_eq_false, not_false_eq_true, lq_ge, lq_le, lq_gt, lq_lt, lq_eq, jI_lt, jI_le, jI_eq, if_pos, if_neg, dh, z, a1, b1]
    | inr y =>
      intro ih ok
      obtain ⟨g2, b1, X2, k2⟩ := ih
      have o1 : tS b E p + 1 + 1 ≤ y.1 := ok.1
      have o2 : y.1 ≤ E := ok.2.1
      have o3 : y.2.2.length + (tS b E p + 1) ≤ 0 + y.1 := ok.2.2
      have rf2 := X2.2.1.2.1
      obtain ⟨g3, i1, i2, i3⟩ := C_addc (d := D + 7) (v := op) hc X2.2.2 (by rw [List.length_append]; omega) (by omega) (by omega)
      rw [← dv.1] at i1
      have X3 := X2.cod i2 i3
      rw [List.append_assoc, List.append_assoc, ← List.append_assoc c] at X3
      have r := h2 o y.1 y.2.1 (D + 8) g3 C wt (c ++ y.2.2 ++ [op]) (k + 1) o2 ho (by omega) (by omega) hw X3 (by rw [List.length_append, List.length_append, List.length_append, List.length_singleton]; rw [List.length_append] at hL; omega) (by omega)
      have st : mm_D (mm_M mm_T0 (D + 8)) cd_X2_readSum 14 [.ref 11, .int (iI (o : Nat)), .int (iI (wtC wt)), .int (iI (k : Nat)), .null, .null] [] g = mm_D (mm_M mm_T0 (D + 8)) cd_X2_readSum 14 [.ref 11, .int (iI (o : Nat)), .int (iI (wtC wt)), .int (iI ((k + 1 : Nat) : Int)), .null, .null] [] g3 := by
        rw [U_X2_readSum_14]
        rcases dv.2.1 with z | z
        · rw [z] at i1
          simp (disch := omega) only [iI_lit, jI_lit, iI_neg, jI_neg, iI_add, iI_sub, iI_mul, jI_add, jI_sub, jI_mul, rdI, rdL, iI_lt, iI_le, iI_eq, iI_nat, iI_b2_0, iI_b2_1, mm_bI_some, mm_bV_some, mm_bL_some, mm_bA_some, fd_wL, fd_wR, fl_wI, fl_wR, re_wI, re_wL, re_wC, ite_true, ite_false, not_true_eq_false, not_false_eq_true, lq_ge, lq_le, lq_gt, lq_lt, lq_eq, jI_lt, jI_le, jI_eq, if_pos, if_neg, dh, z, a1, b1, rf2, sh, i1, e1]
        · rw [z] at i1
          simp (disch := omega) only [iI_lit, jI_lit, iI_neg, jI_neg, iI_add, iI_sub, iI_mul, jI_add, jI_sub, jI_mul, rdI, rdL, iI_lt, iI_le, iI_eq, iI_nat, iI_b2_0, iI_b2_1, mm_bI_some, mm_bV_some, mm_bL_some, mm_bA_some, fd_wL, fd_wR, fl_wI, fl_wR, re_wI, re_wL, re_wC, ite_true, ite_false, not_true_eq_false, not_false_eq_true, lq_ge, lq_le, lq_gt, lq_lt, lq_eq, jI_lt, jI_le, jI_eq, if_pos, if_neg, dh, z, a1, b1, rf2, sh, i1, e1]
      rw [st]
      exact CRes_kf ((kTF k1).trans (k2.trans (kAF i3))) r
  · rw [if_neg c1]
    by_cases c2 : opS (tB b E p) ≠ 0
    · rw [if_pos c2]
      obtain ⟨lt, tt⟩ := opS_in c2
      have dv : dd (tB b E p) = tc (opS (tB b E p)) ∧ (dd (tB b E p) = 11000 ∨ dd (tB b E p) = 11001) ∧ (opS (tB b E p) = 1 ∨ opS (tB b E p) = 2) := by
        rcases tt with z | z <;> rw [z] <;> decide
      generalize hop : opS (tB b E p) = op at *
      generalize hdd : dd (tB b E p) = dv' at *
      -- what waits is written
      obtain ⟨g0, X0, hst, k0⟩ : ∃ g0, CX g0 b E p gl cc L w (C ++ (c ++ wtL wt)) ∧ mm_D (mm_M mm_T0 (D + 8)) cd_X2_readSum 14 [.ref 11, .int (iI (o : Nat)), .int (iI (wtC wt)), .int (iI (k : Nat)), .null, .null] [] g = mm_bV (mm_M mm_T0 (D + 8) 75 [.ref 3] g0) (fun h => mm_bI (mm_M mm_T0 (D + 8) 54 [.ref 11, .int (iI (o : Nat))] h) (fun v h => if ¬ v = 0 then mm_D (mm_M mm_T0 (D + 8)) cd_X2_readSum 14 [.ref 11, .int (iI (o : Nat)), .int (iI dv'), .int (iI ((k + 1 : Nat) : Int)), .null, .null] [] h else some (some (.int 0), h))) ∧ Kf (QF cc) nL g g0 := by
        by_cases z : wt = 0
        · refine ⟨g, ?_, ?_, Kf.refl⟩
          · rw [z, show wtL 0 = [] from rfl, List.append_nil]
            exact X
          · rw [U_X2_readSum_14, z, show wtC 0 = -1 from rfl]
            rcases dv.2.1 with y | y <;> simp (disch := omega) only [iI_lit, jI_lit, iI_neg, jI_neg, iI_add, iI_sub, iI_mul, jI_add, jI_sub, jI_mul, rdI, rdL, iI_lt, iI_le, iI_eq, iI_nat, iI_b2_0, iI_b2_1, mm_bI_some, mm_bV_some, mm_bL_some, mm_bA_some, fd_wL, fd_wR, fl_wI, fl_wR, re_wI, re_wL, re_wC, ite_true, ite_false, not_true_eq_false, not_false_eq_true, lq_ge, lq_le, lq_gt, lq_lt, lq_eq, jI_lt, jI_le, jI_eq, if_pos, if_neg, dh, y, e1]
        · have wl : wtL wt = [wt] := if_neg z
          have wc : wtC wt = tc wt := if_neg z
          have tb := tc_b (v := wt) (by omega) (by omega)
          rw [wl] at hL
          obtain ⟨g3, i1, i2, i3⟩ := C_addc (d := D + 7) (v := wt) hc X.2.2 (by rw [List.length_singleton] at hL; omega) (by omega) (by omega)
          refine ⟨g3, ?_, ?_, kAF i3⟩
          · rw [wl, ← List.append_assoc]
            exact X.cod i2 i3
          · rw [U_X2_readSum_14, wc]
            rcases dv.2.1 with y | y <;> simp (disch := omega) only [iI_lit, jI_lit, iI_neg, jI_neg, iI_add, iI_sub, iI_mul, jI_add, jI_sub, jI_mul, rdI, rdL, iI_lt, iI_le, iI_eq, iI_nat, iI_b2_0, iI_b2_1, mm_bI_some, mm_bV_some, mm_bL_some, mm_bA_some, fd_wL, fd_wR, fl_wI, fl_wR, re_wI, re_wL, re_wC, ite_true, ite_false, not_true_eq_false, not_false_eq_true, lq_ge, lq_le, lq_gt, lq_lt, lq_eq, jI_lt, jI_le, jI_eq, if_pos, if_neg, dh, y, rf, sh, i1, e1]
      obtain ⟨g1, a1, S1, k1⟩ : ∃ g', mm_M mm_T0 (D + 8) 75 [.ref 3] g0 = some (none, g') ∧ CS g' b E (tS b E p + 1) false ∧ Kf QTc nL g0 g' := by
        rcases tt with z | z
        · exact C_advS (d := D + 3) X0.1 z (by omega) (by omega) (by omega)
        · exact C_advS (d := D + 3) X0.1 z (by omega) (by omega) (by omega)
      have X1 := X0.tok S1 k1
      have hL0 : L + (C ++ (c ++ wtL wt)).length ≤ p := by
        rw [← List.append_assoc, List.length_append]
        omega
      have ih := h0 o (tS b E p + 1) false (D + 8) g1 (C ++ (c ++ wtL wt)) 0 [] (by omega) ho (by omega) (by omega) X1 (by omega)
      have ok := (Ok_all (b := b) (w := w) hE n).1 o (tS b E p + 1) false 0 [] (by omega) (by omega)
      rw [hst]
      revert ih ok
      cases rd b E w n 0 o (tS b E p + 1) false 0 [] with
      | inl f =>
        intro ih ok
        obtain ⟨g2, b1, b2', b3, b4, b5⟩ := ih
        refine ⟨g2, ?_, b2', b3, b4, k0.trans ((kTF k1).trans b5)⟩
        simp (disch := omega) only [iI_lit, jI_lit, iI_neg, jI_neg, iI_add, iI_sub, iI_mul, jI_add, jI_sub, jI_mul, rdI, rdL, iI_lt, iI_le, iI_eq, iI_nat, iI_b2_0, iI_b2_1, mm_bI_some, mm_bV_some, mm_bL_some, mm_bA_some, fd_wL, fd_wR, fl_wI, fl_wR, re_wI, re_wL, re_wC, ite_true, ite_false, not_true_eq_false, not_false_eq_true, lq_ge, lq_le, lq_gt, lq_lt, lq_eq, jI_lt, jI_le, jI_eq, if_pos, if_neg, a1, b1]
      | inr y =>
        intro ih ok
        obtain ⟨g2, b1, X2, k2⟩ := ih
        have o1 : tS b E p + 1 + 1 ≤ y.1 := ok.1
        have o2 : y.1 ≤ E := ok.2.1
        have o3 : y.2.2.length + (tS b E p + 1) ≤ 0 + y.1 := ok.2.2
        rw [List.append_assoc] at X2
        have wl1 := wtL_len op
        have r := h2 o y.1 y.2.1 (D + 8) g2 C op (c ++ wtL wt ++ y.2.2) (k + 1) o2 ho (by omega) (by omega) (Or.inr dv.2.2) X2 (by rw [← List.append_assoc, List.length_append]; omega) (by omega)
        have wc : wtC op = dv' := by
          unfold wtC
          rw [if_neg (by omega), dv.1]
        rw [wc] at r
        have st : mm_bV (mm_M mm_T0 (D + 8) 75 [.ref 3] g0) (fun h => mm_bI (mm_M mm_T0 (D + 8) 54 [.ref 11, .int (iI (o : Nat))] h) (fun v h => if ¬ v = 0 then mm_D (mm_M mm_T0 (D + 8)) cd_X2_readSum 14 [.ref 11, .int (iI (o : Nat)), .int (iI dv'), .int (iI ((k + 1 : Nat) : Int)), .null, .null] [] h else some (some (.int 0), h))) = mm_D (mm_M mm_T0 (D + 8)) cd_X2_readSum 14 [.ref 11, .int (iI (o : Nat)), .int (iI dv'), .int (iI ((k + 1 : Nat) : Int)), .null, .null] [] g2 := by
          simp (disch := omega) only [iI_lit, jI_lit, iI_neg, jI_neg, iI_add, iI_sub, iI_mul, jI_add, jI_sub, jI_mul, rdI, rdL, iI_lt, iI_le, iI_eq, iI_nat, iI_b2_0, iI_b2_1, mm_bI_some, mm_bV_some, mm_bL_some, mm_bA_some, fd_wL, fd_wR, fl_wI, fl_wR, re_wI, re_wL, re_wC, ite_true, ite_false, not_true_eq_false, not_false_eq_true, lq_ge, lq_le, lq_gt, lq_lt, lq_eq, jI_lt, jI_le, jI_eq, if_pos, if_neg, a1, b1]
        rw [st]
        exact CRes_kf (k0.trans ((kTF k1).trans k2)) r
    · rw [if_neg c2]
      have dv : dd (tB b E p) = -1 := by
        unfold opP at c1
        unfold opS at c2
        unfold dd
        by_cases y1 : tB b E p = 43
        · rw [if_pos y1] at c2; exact absurd (by decide) c2
        · by_cases y2 : tB b E p = 45
          · rw [if_neg y1, if_pos y2] at c2; exact absurd (by decide) c2
          · by_cases y3 : tB b E p = 42
            · rw [if_pos y3] at c1; exact absurd (by decide) c1
            · by_cases y4 : tB b E p = 47
              · rw [if_neg y3, if_pos y4] at c1; exact absurd (by decide) c1
              · rw [if_neg y1, if_neg y2, if_neg y3, if_neg y4]
      rw [dv] at dh
      by_cases z : wt = 0
      · refine ⟨g, ?_, ?_, Kf.refl⟩
        · rw [U_X2_readSum_14, z, show wtC 0 = -1 from rfl]
          by_cases y : 1600 ≤ k <;> simp (disch := omega) only [iI_lit, jI_lit, iI_neg, jI_neg, iI_add, iI_sub, iI_mul, jI_add, jI_sub, jI_mul, rdI, rdL, iI_lt, iI_le, iI_eq, iI_nat, iI_b2_0, iI_b2_1, mm_bI_some, mm_bV_some, mm_bL_some, mm_bA_some, fd_wL, fd_wR, fl_wI, fl_wR, re_wI, re_wL, re_wC, ite_true, ite_false, not_true_eq_false, not_false_eq_true, lq_ge, lq_le, lq_gt, lq_lt, lq_eq, jI_lt, jI_le, jI_eq, if_pos, if_neg, dh]
        · show CX g b E p gl cc L w (C ++ (c ++ wtL wt))
          rw [z, show wtL 0 = [] from rfl, List.append_nil]
          exact X
      · have wl : wtL wt = [wt] := if_neg z
        have wc : wtC wt = tc wt := if_neg z
        have tb := tc_b (v := wt) (by omega) (by omega)
        rw [wl] at hL
        obtain ⟨g3, i1, i2, i3⟩ := C_addc (d := D + 7) (v := wt) hc X.2.2 (by rw [List.length_singleton] at hL; omega) (by omega) (by omega)
        refine ⟨g3, ?_, ?_, kAF i3⟩
        · rw [U_X2_readSum_14, wc]
          by_cases y : 1600 ≤ k <;> simp (disch := omega) only [iI_lit, jI_lit, iI_neg, jI_neg, iI_add, iI_sub, iI_mul, jI_add, jI_sub, jI_mul, rdI, rdL, iI_lt, iI_le, iI_eq, iI_nat, iI_b2_0, iI_b2_1, mm_bI_some, mm_bV_some, mm_bL_some, mm_bA_some, fd_wL, fd_wR, fl_wI, fl_wR, re_wI, re_wL, re_wC, ite_true, ite_false, not_true_eq_false, not_false_eq_true, lq_ge, lq_le, lq_gt, lq_lt, lq_eq, jI_lt, jI_le, jI_eq, if_pos, if_neg, dh, rf, sh, i1]
        · show CX g3 b E p gl cc L w (C ++ (c ++ wtL wt))
          rw [wl, ← List.append_assoc]
          exact X.cod i2 i3
end CRG
