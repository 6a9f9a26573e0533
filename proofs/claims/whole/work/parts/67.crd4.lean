section CRH
variable {d : Nat} {g : mm_H} {b : Nat → Int} {E p : Nat} {gl : Bool} {cc L : Nat} {w : Int} {C : List Int}
set_option maxHeartbeats 8000000 in
theorem C_cl3 {n : Nat} (hE : E ≤ 1600) (h4 : Cl4 b E cc L w n) (h5 : Cl5 b E cc L w n) : Cl3 b E cc L w (n + 1) := by
  intro o p gl D g C wt c hp ho hn hD X hL
  obtain ⟨D, rfl⟩ : ∃ D', D = D' + 11 := ⟨D - 11, by omega⟩
  have ih := h4 o p gl (D + 10) g C 0 [] hp ho (by omega) (by omega) X hL
  have ok := (Ok_all (b := b) (w := w) hE n).2.2.2.2.1 o p gl 0 [] hp (by omega)
  rw [rd_3]
  unfold fTest
  revert ih ok
  cases rd b E w n 4 o p gl 0 [] with
  | inl f =>
    intro ih ok
    obtain ⟨g1, a1, a2, a3, a4, a5⟩ := ih
    refine ⟨g1, ?_, a2, a3, a4, a5⟩
    rw [U_X2_readTest]
    simp (disch := omega) only [iI_lit, jI_lit, iI_neg, jI_neg, iI_add, iI_sub, iI_mul, jI_add, jI_sub, jI_mul, rdI, rdL, iI_lt, iI_le, iI_eq, iI_nat, iI_b2_0, iI_b2_1, mm_bI_some, mm_bV_some, mm_bL_some, mm_bA_some, fd_wL, fd_wR, fl_wI, fl_wR, re_wI, re_wL, re_wC, ite_true, ite_false, not_true_eq_false, not_false_eq_true, lq_ge, lq_le, lq_gt, lq_lt, lq_eq, jI_lt, jI_le, jI_eq, if_pos, if_neg, a1]
  | inr y =>
    intro ih ok
    obtain ⟨g1, a1, X1, k1⟩ := ih
    have o1 : p + 1 ≤ y.1 := ok.1
    have o2 : y.1 ≤ E := ok.2.1
    have o3 : y.2.2.length + p ≤ 0 + y.1 := ok.2.2
    have r := h5 o y.1 y.2.1 (D + 10) g1 C 0 y.2.2 0 o2 ho (by omega) (by omega) (Or.inl rfl) X1 (by rw [List.length_append, show (wtL 0).length = 0 from rfl]; omega) (by omega)
    rw [b2_f (show ¬ ((0 : Int) ≠ 0) by omega), show ((0 : Nat) : Int) = 0 from rfl] at r
    have st : mm_M mm_T0 (D + 11) 47 [.ref 11, .int (iI (o : Nat))] g = mm_D (mm_M mm_T0 (D + 10)) cd_X2_readTest 14 [.ref 11, .int (iI (o : Nat)), .int (iI 0), .int (iI 0), .null] [] g1 := by
      rw [U_X2_readTest]
      simp (disch := omega) only [iI_lit, jI_lit, iI_neg, jI_neg, iI_add, iI_sub, iI_mul, jI_add, jI_sub, jI_mul, rdI, rdL, iI_lt, iI_le, iI_eq, iI_nat, iI_b2_0, iI_b2_1, mm_bI_some, mm_bV_some, mm_bL_some, mm_bA_some, fd_wL, fd_wR, fl_wI, fl_wR, re_wI, re_wL, re_wC, ite_true, ite_false, not_true_eq_false, not_false_eq_true, lq_ge, lq_le, lq_gt, lq_lt, lq_eq, jI_lt, jI_le, jI_eq, if_pos, if_neg, a1]
    rw [st]
    exact CRes_kf k1 r
/-- the comparison that a sign tells -/
def cmpD (x : Int) : Int := if x = 60 then 11004 else if x = 62 then 11005 else if x = 61 then 11006 else -1
set_option maxHeartbeats 8000000 in
theorem C_cmp (X : CX g b E p gl cc L w C) : mm_M mm_T0 (d + 2) 51 [.ref 11] g = some (some (.int (iI (cmpD (tB b E p)))), g) := by
  have s1 := C_isSign (d := d) (x := 60) X.1 (by omega) (by omega) (by omega)
  have s2 := C_isSign (d := d) (x := 62) X.1 (by omega) (by omega) (by omega)
  have s3 := C_isSign (d := d) (x := 61) X.1 (by omega) (by omega) (by omega)
  unfold cmpD
  rw [U_X2_comparisonHere]
  by_cases c1 : tB b E p = 60
  · rw [b2_t c1] at s1
    rw [if_pos c1]
    simp (disch := omega) only [iI_lit, jI_lit, iI_neg, jI_neg, iI_add, iI_sub, iI_mul, jI_add, jI_sub, jI_mul, rdI, rdL, iI_lt, iI_le, iI_eq, iI_nat, iI_b2_0, iI_b2_1, mm_bI_some, mm_bV_some, mm_bL_some, mm_bA_some, fd_wL, fd_wR, fl_wI, fl_wR, re_wI, re_wL, re_wC, ite_true, ite_false, not_true_eq_false, not_false_eq_true, lq_ge, lq_le, lq_gt, lq_lt, lq_eq, jI_lt, jI_le, jI_eq, if_pos, if_neg, s1]
  · rw [b2_f c1] at s1
    rw [if_neg c1]
    by_cases c2 : tB b E p = 62
    · rw [b2_t c2] at s2
      rw [if_pos c2]
      simp (disch := omega) only [iI_lit, jI_lit, iI_neg, jI_neg, iI_add, iI_sub, iI_mul, jI_add, jI_sub, jI_mul, rdI, rdL, iI_lt, iI_le, iI_eq, iI_nat, iI_b2_0, iI_b2_1, mm_bI_some, mm_bV_some, mm_bL_some, mm_bA_some, fd_wL, fd_wR, fl_wI, fl_wR, re_wI, re_wL, re_wC, ite_true, ite_false, not_true_eq_false, not_false_eq_true, lq_ge, lq_le, lq_gt, lq_lt, lq_eq, jI_lt, jI_le, jI_eq, if_pos, if_neg, s1, s2]
    · rw [b2_f c2] at s2
      rw [if_neg c2]
      by_cases c3 : tB b E p = 61
      · rw [b2_t c3] at s3
        rw [if_pos c3]
        simp (disch := omega) only [iI_lit, jI_lit, iI_neg, jI_neg, iI_add, iI_sub, iI_mul, jI_add, jI_sub, jI_mul, rdI, rdL, iI_lt, iI_le, iI_eq, iI_nat, iI_b2_0, iI_b2_1, mm_bI_some, mm_bV_some, mm_bL_some, mm_bA_some, fd_wL, fd_wR, fl_wI, fl_wR, re_wI, re_wL, re_wC, ite_true, ite_false, not_true_eq_false, not_false_eq_true, lq_ge, lq_le, lq_gt, lq_lt, lq_eq, jI_lt, jI_le, jI_eq, if_pos, if_neg, s1, s2, s3]
      · rw [b2_f c3] at s3
        rw [if_neg c3]
        simp (disch := omega) only [iI_lit, jI_lit, iI_neg, jI_neg, iI_add, iI_sub, iI_mul, jI_add, jI_sub, jI_mul, rdI, rdL, iI_lt, iI_le, iI_eq, iI_nat, iI_b2_0, iI_b2_1, mm_bI_some, mm_bV_some, mm_bL_some, mm_bA_some, fd_wL, fd_wR, fl_wI, fl_wR, re_wI, re_wL, re_wC, ite_true, ite_false, not_true_eq_false, not_false_eq_true, lq_ge, lq_le, lq_gt, lq_lt, lq_eq, jI_lt, jI_le, jI_eq, if_pos, if_neg, s1, s2, s3]
set_option maxHeartbeats 8000000 in
theorem C_not {n o : Nat} (h4 : Cl4 b E cc L w n) (hE : E ≤ 1600) (X : CX g b E p gl cc L w C) (hp : p ≤ E) (hL : L + C.length ≤ p) (ho : o ≤ 6) (hn : 4 * (E - p) + 3 ≤ n + 1) (hD : 3 * (6 - o) ≤ d) (cw : wno b E p gl ≠ -2) : CRes b E cc L w g (mm_M mm_T0 (d + 9) 49 [.ref 11, .int (iI (o : Nat))] g) C (if o < 6 then fThen (rd b E w n 4 (o + 1) (tL b E (tS b E p)) true 0 []) (fun q g2 c => .inr (q, g2, c ++ [12])) else .inl (4, (tS b E p : Int))) := by
  have ge := tS_ge (b := b) (E := E) (p := p)
  have l := tL_in (wno_w cw).1
  by_cases o6 : o < 6
  · rw [if_pos o6]
    have mo := (C_mayOpen (d := d + 5) X.1 ho).1 o6
    obtain ⟨g1, a1, S1, k1⟩ := C_advW (d := d + 3) X.1 cw
    have X1 := X.tok S1 k1
    have e1 : ((o : Nat) : Int) + 1 = ((o + 1 : Nat) : Int) := by omega
    have ih := h4 (o + 1) (tL b E (tS b E p)) true (d + 8) g1 C 0 [] (by omega) (by omega) (by omega) (by omega) X1 (by omega)
    have ok := (Ok_all (b := b) (w := w) hE n).2.2.2.2.1 (o + 1) (tL b E (tS b E p)) true 0 [] (by omega) (by omega)
    revert ih ok
    cases rd b E w n 4 (o + 1) (tL b E (tS b E p)) true 0 [] with
    | inl f =>
      intro ih ok
      obtain ⟨g2, b1, b2', b3, b4, b5⟩ := ih
      have hc := X.2.1.2.2
      have rf : g2.2.2 11 1 = cc := by rw [b5.2.2]; exact X1.2.1.2.1
      have sh := X.sh
      obtain ⟨g3, i1, i2, i3, i4, i5⟩ := C_addF (d := d + 7) (x := iI 11011) hc b4 b2' b3 b5
      refine ⟨g3, ?_, i2, i3, i4, (kTF k1).trans i5⟩
      rw [U_X2_readNot]
      simp (disch := omega) only [iI_lit, jI_lit, iI_neg, jI_neg, iI_add, iI_sub, iI_mul, jI_add, jI_sub, jI_mul, rdI, rdL, iI_lt, iI_le, iI_eq, iI_nat, iI_b2_0, iI_b2_1, mm_bI_some, mm_bV_some, mm_bL_some, mm_bA_some, fd_wL, fd_wR, fl_wI, fl_wR, re_wI, re_wL, re_wC, ite_true, ite_false, not_true_eq_false, not_false_eq_true, lq_ge, lq_le, lq_gt, lq_lt, lq_eq, jI_lt, jI_le, jI_eq, if_pos, if_neg, mo, a1, e1, b1, rf, sh, i1, zr_0]
    | inr y =>
      intro ih ok
      obtain ⟨g2, b1, X2, k2⟩ := ih
      have o1 : tL b E (tS b E p) + 1 ≤ y.1 := ok.1
      have o2 : y.1 ≤ E := ok.2.1
      have o3 : y.2.2.length + tL b E (tS b E p) ≤ 0 + y.1 := ok.2.2
      have rf := X2.2.1.2.1
      have sh := X2.sh
      obtain ⟨g3, i1, i2, i3⟩ := C_addc (d := d + 7) (v := 12) X2.2.1.2.2 X2.2.2 (by rw [List.length_append]; omega) (by omega) (by omega)
      rw [show tc 12 = 11011 from rfl] at i1
      have X3 := X2.cod i2 i3
      rw [List.append_assoc] at X3
      refine ⟨g3, ?_, X3, (kTF k1).trans (k2.trans (kAF i3))⟩
      rw [U_X2_readNot]
      simp (disch := omega) only [iI_lit, jI_lit, iI_neg, jI_neg, iI_add, iI_sub, iI_mul, jI_add, jI_sub, jI_mul, rdI, rdL, iI_lt, iI_le, iI_eq, iI_nat, iI_b2_0, iI_b2_1, mm_bI_some, mm_bV_some, mm_bL_some, mm_bA_some, fd_wL, fd_wR, fl_wI, fl_wR, re_wI, re_wL, re_wC, ite_true, ite_false, not_true_eq_false, not_false_eq_true, lq_ge, lq_le, lq_gt, lq_lt, lq_eq, jI_lt, jI_le, jI_eq, if_pos, if_neg, mo, a1, e1, b1, rf, sh, i1, zr_1]
  · rw [if_neg o6]
    have mo := (C_mayOpen (d := d + 5) X.1 ho).2 o6
    have bd := X.badT (k := 4) hp (by omega) (by omega)
    refine ⟨_, ?_, bd.1, bd.2.1, bd.2.2.1, bd.2.2.2⟩
    rw [U_X2_readNot]
    simp (disch := omega) only [iI_lit, jI_lit, iI_neg, jI_neg, iI_add, iI_sub, iI_mul, jI_add, jI_sub, jI_mul, rdI, rdL, iI_lt, iI_le, iI_eq, iI_nat, iI_b2_0, iI_b2_1, mm_bI_some, mm_bV_some, mm_bL_some, mm_bA_some, fd_wL, fd_wR, fl_wI, fl_wR, re_wI, re_wL, re_wC, ite_true, ite_false, not_true_eq_false, not_false_eq_true, lq_ge, lq_le, lq_gt, lq_lt, lq_eq, jI_lt, jI_le, jI_eq, if_pos, if_neg, mo]
set_option maxHeartbeats 8000000 in
theorem C_innerT {n o : Nat} (h3 : Cl3 b E cc L w n) (hE : E ≤ 1600) (X : CX g b E p gl cc L w C) (hp : p ≤ E) (hL : L + C.length ≤ p) (ho : o ≤ 6) (hn : 4 * (E - p) + 3 ≤ n + 1) (hD : 3 * (6 - o) ≤ d) (c2 : tB b E p = 91) : CRes b E cc L w g (mm_M mm_T0 (d + 9) 50 [.ref 11, .int (iI (o : Nat))] g) C (if o < 6 then fThen (rd b E w n 3 (o + 1) (tS b E p + 1) false 0 []) (fun q _ c => fSign b E 93 q (.inr (tS b E q + 1, false, c))) else .inl (4, (tS b E p : Int))) := by
  have ge := tS_ge (b := b) (E := E) (p := p)
  have lt := tB_in c2 (by decide)
  by_cases o6 : o < 6
  · rw [if_pos o6]
    have mo := (C_mayOpen (d := d + 5) X.1 ho).1 o6
    obtain ⟨g1, a1, S1, k1⟩ := C_advS (d := d + 3) (x := 91) X.1 c2 (by omega) (by omega) (by omega)
    have X1 := X.tok S1 k1
    have e1 : ((o : Nat) : Int) + 1 = ((o + 1 : Nat) : Int) := by omega
    have ih := h3 (o + 1) (tS b E p + 1) false (d + 8) g1 C 0 [] (by omega) (by omega) (by omega) (by omega) X1 (by omega)
    have ok := (Ok_all (b := b) (w := w) hE n).2.2.2.1 (o + 1) (tS b E p + 1) false 0 [] (by omega) (by omega)
    revert ih ok
    cases rd b E w n 3 (o + 1) (tS b E p + 1) false 0 [] with
    | inl f =>
      intro ih ok
      obtain ⟨g2, b1, b2', b3, b4, b5⟩ := ih
      refine ⟨g2, ?_, b2', b3, b4, (kTF k1).trans b5⟩
      rw [U_X2_readInnerTest]
      simp (disch := omega) only [iI_lit, jI_lit, iI_neg, jI_neg, iI_add, iI_sub, iI_mul, jI_add, jI_sub, jI_mul, rdI, rdL, iI_lt, iI_le, iI_eq, iI_nat, iI_b2_0, iI_b2_1, mm_bI_some, mm_bV_some, mm_bL_some, mm_bA_some, fd_wL, fd_wR, fl_wI, fl_wR, re_wI, re_wL, re_wC, ite_true, ite_false, not_true_eq_false, not_false_eq_true, lq_ge, lq_le, lq_gt, lq_lt, lq_eq, jI_lt, jI_le, jI_eq, if_pos, if_neg, mo, a1, e1, b1]
    | inr y =>
      intro ih ok
      obtain ⟨g2, b1, X2, k2⟩ := ih
      have o1 : tS b E p + 1 + 1 ≤ y.1 := ok.1
      have o2 : y.1 ≤ E := ok.2.1
      have o3 : y.2.2.length + (tS b E p + 1) ≤ 0 + y.1 := ok.2.2
      have ts := C_takeSign (d := d + 2) (x := 93) X2.1 (by omega) (by omega) (by omega)
      show CRes b E cc L w g _ C (if tB b E y.1 = 93 then _ else _)
      by_cases c3 : tB b E y.1 = 93
      · rw [if_pos c3]
        obtain ⟨g3, m1, m2, m3⟩ := ts.1 c3
        refine ⟨g3, ?_, X2.tok m2 m3, (kTF k1).trans (k2.trans (kTF m3))⟩
        rw [U_X2_readInnerTest]
        simp (disch := omega) only [iI_lit, jI_lit, iI_neg, jI_neg, iI_add, iI_sub, iI_mul, jI_add, jI_sub, jI_mul, rdI, rdL, iI_lt, iI_le, iI_eq, iI_nat, iI_b2_0, iI_b2_1, mm_bI_some, mm_bV_some, mm_bL_some, mm_bA_some, fd_wL, fd_wR, fl_wI, fl_wR, re_wI, re_wL, re_wC, ite_true, ite_false, not_true_eq_false, not_false_eq_true, lq_ge, lq_le, lq_gt, lq_lt, lq_eq, jI_lt, jI_le, jI_eq, if_pos, if_neg, mo, a1, e1, b1, m1]
      · rw [if_neg c3]
        have m1 := ts.2 c3
        have bd := X2.badT (k := 1) o2 (by omega) (by omega)
        refine ⟨_, ?_, bd.1, bd.2.1, bd.2.2.1, (kTF k1).trans (k2.trans bd.2.2.2)⟩
        rw [U_X2_readInnerTest]
        simp (disch := omega) only [iI_lit, jI_lit, iI_neg, jI_neg, iI_add, iI_sub, iI_mul, jI_add, jI_sub, jI_mul, rdI, rdL, iI_lt, iI_le, iI_eq, iI_nat, iI_b2_0, iI_b2_1, mm_bI_some, mm_bV_some, mm_bL_some, mm_bA_some, fd_wL, fd_wR, fl_wI, fl_wR, re_wI, re_wL, re_wC, ite_true, ite_false, not_true_eq_false, not_false_eq_true, lq_ge, lq_le, lq_gt, lq_lt, lq_eq, jI_lt, jI_le, jI_eq, if_pos, if_neg, mo, a1, e1, b1, m1]
  · rw [if_neg o6]
    have mo := (C_mayOpen (d := d + 5) X.1 ho).2 o6
    have bd := X.badT (k := 4) hp (by omega) (by omega)
    refine ⟨_, ?_, bd.1, bd.2.1, bd.2.2.1, bd.2.2.2⟩
    rw [U_X2_readInnerTest]
    simp (disch := omega) only [iI_lit, jI_lit, iI_neg, jI_neg, iI_add, iI_sub, iI_mul, jI_add, jI_sub, jI_mul, rdI, rdL, iI_lt, iI_le, iI_eq, iI_nat, iI_b2_0, iI_b2_1, mm_bI_some, mm_bV_some, mm_bL_some, mm_bA_some, fd_wL, fd_wR, fl_wI, fl_wR, re_wI, re_wL, re_wC, ite_true, ite_false, not_true_eq_false, not_false_eq_true, lq_ge, lq_le, lq_gt, lq_lt, lq_eq, jI_lt, jI_le, jI_eq, if_pos, if_neg, mo]
set_option maxHeartbeats 8000000 in
theorem C_cl4 {n : Nat} (hE : E ≤ 1600) (h1 : Cl1 b E cc L w n) (h3 : Cl3 b E cc L w n) (h4 : Cl4 b E cc L w n) : Cl4 b E cc L w (n + 1) := by
  intro o p gl D g C wt c hp ho hn hD X hL
  obtain ⟨D, rfl⟩ : ∃ D', D = D' + 10 := ⟨D - 10, by omega⟩
  have hc := X.2.1.2.2
  have sh := X.sh
  have rf := X.2.1.2.1
  have kN := C_isWord (d := D + 8) (k := 21) X.1 (by omega) (by omega)
  have kB := C_isSign (d := D + 8) (x := 91) X.1 (by omega) (by omega) (by omega)
  have kA := C_isWord (d := D + 8) (k := 22) X.1 (by omega) (by omega)
  have ge := tS_ge (b := b) (E := E) (p := p)
  rw [rd_4]
  unfold fFact
  by_cases c1 : wno b E p gl = 21
  · rw [if_pos c1]
    rw [b2_t c1] at kN
    have pr := C_not (d := D) h4 hE X hp hL ho hn (by omega) (by omega)
    have st : mm_M mm_T0 (D + 10) 48 [.ref 11, .int (iI (o : Nat))] g = mm_bI (mm_M mm_T0 (D + 9) 49 [.ref 11, .int (iI (o : Nat))] g) (fun v h => mm_zr v h) := by
      rw [U_X2_readFact]
      simp (disch := omega) only [iI_lit, jI_lit, iI_neg, jI_neg, iI_add, iI_sub, iI_mul, jI_add, jI_sub, jI_mul, rdI, rdL, iI_lt, iI_le, iI_eq, iI_nat, iI_b2_0, iI_b2_1, mm_bI_some, mm_bV_some, mm_bL_some, mm_bA_some, fd_wL, fd_wR, fl_wI, fl_wR, re_wI, re_wL, re_wC, ite_true, ite_false, not_true_eq_false, not_false_eq_true, lq_ge, lq_le, lq_gt, lq_lt, lq_eq, jI_lt, jI_le, jI_eq, if_pos, if_neg, kN]
    rw [st, CRes_zr pr]
    exact pr
  · rw [if_neg c1]
    rw [b2_f c1] at kN
    by_cases c2 : tB b E p = 91
    · rw [if_pos c2]
      rw [b2_t c2] at kB
      have pr := C_innerT (d := D) h3 hE X hp hL ho hn (by omega) c2
      have st : mm_M mm_T0 (D + 10) 48 [.ref 11, .int (iI (o : Nat))] g = mm_bI (mm_M mm_T0 (D + 9) 50 [.ref 11, .int (iI (o : Nat))] g) (fun v h => mm_zr v h) := by
        rw [U_X2_readFact]
        simp (disch := omega) only [iI_lit, jI_lit, iI_neg, jI_neg, iI_add, iI_sub, iI_mul, jI_add, jI_sub, jI_mul, rdI, rdL, iI_lt, iI_le, iI_eq, iI_nat, iI_b2_0, iI_b2_1, mm_bI_some, mm_bV_some, mm_bL_some, mm_bA_some, fd_wL, fd_wR, fl_wI, fl_wR, re_wI, re_wL, re_wC, ite_true, ite_false, not_true_eq_false, not_false_eq_true, lq_ge, lq_le, lq_gt, lq_lt, lq_eq, jI_lt, jI_le, jI_eq, if_pos, if_neg, kN, kB]
      rw [st, CRes_zr pr]
      exact pr
    · rw [if_neg c2]
      rw [b2_f c2] at kB
      by_cases c3 : wno b E p gl = 22
      · rw [if_pos c3]
        rw [b2_t c3] at kA
        obtain ⟨g1, i1, i2, i3⟩ := C_addc (d := D + 8) (v := 13) hc X.2.2 (by omega) (by omega) (by omega)
        rw [show tc 13 = 1 from rfl] at i1
        have X1 := X.cod i2 i3
        obtain ⟨g2, m1, m2, m3⟩ := C_advW (d := D + 4) X1.1 (by omega)
        refine ⟨g2, ?_, X1.tok m2 m3, (kAF i3).trans (kTF m3)⟩
        rw [U_X2_readFact]
        simp (disch := omega) only [iI_lit, jI_lit, iI_neg, jI_neg, iI_add, iI_sub, iI_mul, jI_add, jI_sub, jI_mul, rdI, rdL, iI_lt, iI_le, iI_eq, iI_nat, iI_b2_0, iI_b2_1, mm_bI_some, mm_bV_some, mm_bL_some, mm_bA_some, fd_wL, fd_wR, fl_wI, fl_wR, re_wI, re_wL, re_wC, ite_true, ite_false, not_true_eq_false, not_false_eq_true, lq_ge, lq_le, lq_gt, lq_lt, lq_eq, jI_lt, jI_le, jI_eq, if_pos, if_neg, kN, kB, kA, rf, sh, i1, m1]
      · rw [if_neg c3]
        rw [b2_f c3] at kA
        have ih := h1 o p gl (D + 9) g C 0 [] hp ho (by omega) (by omega) X hL
        have ok := (Ok_all (b := b) (w := w) hE n).2.1 o p gl 0 [] hp (by omega)
        revert ih ok
        cases rd b E w n 1 o p gl 0 [] with
        | inl f =>
          intro ih ok
          obtain ⟨g1, b1, b2', b3, b4, b5⟩ := ih
          refine ⟨g1, ?_, b2', b3, b4, b5⟩
          rw [U_X2_readFact]
          simp (disch := omega) only [iI_lit, jI_lit, iI_neg, jI_neg, iI_add, iI_sub, iI_mul, jI_add, jI_sub, jI_mul, rdI, rdL, iI_lt, iI_le, iI_eq, iI_nat, iI_b2_0, iI_b2_1, mm_bI_some, mm_bV_some, mm_bL_some, mm_bA_some, fd_wL, fd_wR, fl_wI, fl_wR, re_wI, re_wL, re_wC, ite_true, ite_false, not_true_eq_false, not_false_eq_true, lq_ge, lq_le, lq_gt, lq_lt, lq_eq, jI_lt, jI_le, jI_eq, if_pos, if_neg, kN, kB, kA, b1]
        | inr y =>
          intro ih ok
          obtain ⟨g1, b1, X1, k1⟩ := ih
          have o1 : p + 1 ≤ y.1 := ok.1
          have o2 : y.1 ≤ E := ok.2.1
          have o3 : y.2.2.length + p ≤ 0 + y.1 := ok.2.2
          have ge2 := tS_ge (b := b) (E := E) (p := y.1)
          have cm := C_cmp (d := D + 7) X1
          show CRes b E cc L w g _ C (if opC (tB b E y.1) ≠ 0 then _ else _)
          by_cases c4 : opC (tB b E y.1) ≠ 0
          · rw [if_pos c4]
            obtain ⟨lt, tt⟩ := opC_in c4
            have dv : cmpD (tB b E y.1) = tc (opC (tB b E y.1)) ∧ (11004 ≤ cmpD (tB b E y.1) ∧ cmpD (tB b E y.1) ≤ 11006) ∧ 0 ≤ opC (tB b E y.1) ∧ opC (tB b E y.1) ≤ 9 := by
              rcases tt with z | z | z <;> rw [z] <;> decide
            obtain ⟨g2, a2, S2, k2⟩ : ∃ g', mm_M mm_T0 (D + 9) 75 [.ref 3] g1 = some (none, g') ∧ CS g' b E (tS b E y.1 + 1) false ∧ Kf QTc nL g1 g' := by
              rcases tt with z | z | z
              · exact C_advS (d := D + 4) X1.1 z (by omega) (by omega) (by omega)
              · exact C_advS (d := D + 4) X1.1 z (by omega) (by omega) (by omega)
              · exact C_advS (d := D + 4) X1.1 z (by omega) (by omega) (by omega)
            have X2 := X1.tok S2 k2
            have l2 : L + (C ++ y.2.2).length ≤ tS b E y.1 + 1 := by
              rw [List.length_append]
              omega
            have ih2 := h1 o (tS b E y.1 + 1) false (D + 9) g2 (C ++ y.2.2) 0 [] (by omega) ho (by omega) (by omega) X2 l2
            have ok2 := (Ok_all (b := b) (w := w) hE n).2.1 o (tS b E y.1 + 1) false 0 [] (by omega) (by omega)
            generalize opC (tB b E y.1) = op at *
            generalize cmpD (tB b E y.1) = dv' at *
            revert ih2 ok2
            cases rd b E w n 1 o (tS b E y.1 + 1) false 0 [] with
            | inl f =>
              intro ih2 ok2
              obtain ⟨g3, f1, f2, f3, f4, f5⟩ := ih2
              have rf3 : g3.2.2 11 1 = cc := by rw [f5.2.2]; exact X2.2.1.2.1
              obtain ⟨g4, i1, i2, i3, i4, i5⟩ := C_addF (d := D + 8) (x := iI dv') hc f4 f2 f3 f5
              refine ⟨g4, ?_, i2, i3, i4, k1.trans ((kTF k2).trans i5)⟩
              rw [U_X2_readFact]
              simp (disch := omega) only [iI_lit, jI_lit, iI_neg, jI_neg, iI_add, iI_sub, iI_mul, jI_add, jI_sub, jI_mul, rdI, rdL, iI_lt, iI_le, iI_eq, iI_nat, iI_b2_0, iI_b2_1, mm_bI_some, mm_bV_some, mm_bL_some, mm_bA_some, fd_wL, fd_wR, fl_wI, fl_wR, re_wI, re_wL, re_wC, ite_true, ite_false, not_true_eq_false, not_false_eq_true, lq_ge, lq_le, lq_gt, lq_lt, lq_eq, jI_lt, jI_le, jI_eq, if_pos, if_neg, kN, kB, kA, b1, cm, a2, f1, rf3, sh, i1, zr_0]
            | inr z =>
              intro ih2 ok2
              obtain ⟨g3, f1, X3, k3⟩ := ih2
              have q1 : tS b E y.1 + 1 + 1 ≤ z.1 := ok2.1
              have q2 : z.1 ≤ E := ok2.2.1
              have q3 : z.2.2.length + (tS b E y.1 + 1) ≤ 0 + z.1 := ok2.2.2
              have rf3 := X3.2.1.2.1
              obtain ⟨g4, i1, i2, i3⟩ := C_addc (d := D + 8) (v := op) hc X3.2.2 (by rw [List.length_append]; omega) (by omega) (by omega)
              rw [← dv.1] at i1
              have X4 := X3.cod i2 i3
              rw [List.append_assoc, List.append_assoc] at X4
              refine ⟨g4, ?_, by show CX g4 b E z.1 z.2.1 cc L w (C ++ (y.2.2 ++ z.2.2 ++ [op])); rw [List.append_assoc]; exact X4, k1.trans ((kTF k2).trans (k3.trans (kAF i3)))⟩
              rw [U_X2_readFact]
              simp (disch := omega) only [iI_lit, jI_lit, iI_neg, jI_neg, iI_add, iI_sub, iI_mul, jI_add, jI_sub, jI_mul, rdI, rdL, iI_lt, iI_le, iI_eq, iI_nat, iI_b2_0, iI_b2_1, mm_bI_some, mm_bV_some, mm_bL_some, mm_bA_some, fd_wL, fd_wR, fl_wI, fl_wR, re_wI, re_wL, re_wC, ite_true, ite_false, not_true_eq_false, not_false_eq_true, lq_ge, lq_le, lq_gt, lq_lt, lq_eq, jI_lt, jI_le, jI_eq, if_pos, if_neg, kN, kB, kA, b1, cm, a2, f1, rf3, sh, i1, zr_1]
          · rw [if_neg c4]
            have dv : cmpD (tB b E y.1) = -1 := by
              unfold opC at c4
              unfold cmpD
              by_cases y1 : tB b E y.1 = 60
              · rw [if_pos y1] at c4; exact absurd (by decide) c4
              · by_cases y2 : tB b E y.1 = 62
                · rw [if_neg y1, if_pos y2] at c4; exact absurd (by decide) c4
                · by_cases y3 : tB b E y.1 = 61
                  · rw [if_neg y1, if_neg y2, if_pos y3] at c4; exact absurd (by decide) c4
                  · rw [if_neg y1, if_neg y2, if_neg y3]
            rw [dv] at cm
            have u := C_unexp (d := D + 7) X1.1
            have bd := X1.badT (k := 1) o2 (by omega) (by omega)
            refine ⟨_, ?_, bd.1, bd.2.1, bd.2.2.1, k1.trans bd.2.2.2⟩
            rw [U_X2_readFact]
            simp (disch := omega) only [iI_lit, jI_lit, iI_neg, jI_neg, iI_add, iI_sub, iI_mul, jI_add, jI_sub, jI_mul, rdI, rdL, iI_lt, iI_le, iI_eq, iI_nat, iI_b2_0, iI_b2_1, mm_bI_some, mm_bV_some, mm_bL_some, mm_bA_some, fd_wL, fd_wR, fl_wI, fl_wR, re_wI, re_wL, re_wC, ite_true, ite_false, not_true_eq_false, not_false_eq_true, lq_ge, lq_le, lq_gt, lq_lt, lq_eq, jI_lt, jI_le, jI_eq, if_pos, if_neg, kN, kB, kA, b1, cm, u, zr_0]
set_option maxHeartbeats 8000000 in
theorem C_cl5 {n : Nat} (hE : E ≤ 1600) (h4 : Cl4 b E cc L w n) (h5 : Cl5 b E cc L w n) : Cl5 b E cc L w (n + 1) := by
  intro o p gl D g C wt c k hp ho hn hD hw X hL hk
  obtain ⟨D, rfl⟩ : ∃ D', D = D' + 10 := ⟨D - 10, by omega⟩
  have hc := X.2.1.2.2
  have sh := X.sh
  have rf := X.2.1.2.1
  have kA := C_isWord (d := D + 9) (k := 20) X.1 (by omega) (by omega)
  have kO := C_isWord (d := D + 9) (k := 19) X.1 (by omega) (by omega)
  have ge := tS_ge (b := b) (E := E) (p := p)
  have e1 : ((k : Nat) : Int) + 1 = ((k + 1 : Nat) : Int) := by omega
  rw [rd_5]
  unfold fTRest
  by_cases c1 : wno b E p gl = 20
  · rw [if_pos c1]
    rw [b2_t c1] at kA
    have l := tL_in (wno_w (b := b) (E := E) (p := p) (gl := gl) (by omega)).1
    have lk : (iI 1600 ≤ iI ((k : Nat) : Int)) = False := iG_f (by omega) (by omega) (by omega) (by omega) (by omega)
    obtain ⟨g1, a1, S1, k1⟩ := C_advW (d := D + 5) X.1 (by omega)
    have X1 := X.tok S1 k1
    have ih := h4 o (tL b E (tS b E p)) true (D + 10) g1 (C ++ c) 0 [] (by omega) ho (by omega) (by omega) X1 (by omega)
    have ok := (Ok_all (b := b) (w := w) hE n).2.2.2.2.1 o (tL b E (tS b E p)) true 0 [] (by omega) (by omega)
    revert ih ok
    cases rd b E w n 4 o (tL b E (tS b E p)) true 0 [] with
    | inl f =>
      intro ih ok
      obtain ⟨g2, b1, b2', b3, b4, b5⟩ := ih
      refine ⟨g2, ?_, b2', b3, b4, (kTF k1).trans b5⟩
      rw [U_X2_readTest_14]
      (try simp only [iI_lit, iI_neg]) <;> simp (maxSteps := 1000000) (disch := decide) only [iI_lit, iI_neg, iI_add, mm_bI_some, mm_bV_some, mm_bL_some, ↓reduceIte, i10, i00, i11, eq_self, not_true_eq_false, not_false_eq_true, ite_true, ite_false, if_true, if_false, and_true, true_and, and_false, false_and, and_self, or_self, or_false, false_or, or_true, true_or, iI_eq, iI_lt, iI_le, Int.reduceEq, Int.reduceLT, Int.reduceLE, lk, ↓bI_eq kA, ↓bV_eq a1, ↓bI_eq b1]
    | inr y =>
      intro ih ok
      obtain ⟨g2, b1, X2, k2⟩ := ih
      have o1 : tL b E (tS b E p) + 1 ≤ y.1 := ok.1
      have o2 : y.1 ≤ E := ok.2.1
      have o3 : y.2.2.length + tL b E (tS b E p) ≤ 0 + y.1 := ok.2.2
      have rf2 := X2.2.1.2.1
      obtain ⟨g3, i1, i2, i3⟩ := C_addc (d := D + 9) (v := 10) hc X2.2.2 (by rw [List.length_append]; omega) (by omega) (by omega)
      rw [show tc 10 = 11009 from rfl] at i1
      have X3 := X2.cod i2 i3
      rw [List.append_assoc, List.append_assoc, ← List.append_assoc c] at X3
      have r := h5 o y.1 y.2.1 (D + 10) g3 C wt (c ++ y.2.2 ++ [10]) (k + 1) o2 ho (by omega) (by omega) hw X3 (by rw [List.length_append, List.length_append, List.length_append, List.length_singleton]; rw [List.length_append] at hL; omega) (by omega)
      have st : mm_D (mm_M mm_T0 (D + 10)) cd_X2_readTest 14 [.ref 11, .int (iI (o : Nat)), .int (iI (b2 (wt ≠ 0))), .int (iI (k : Nat)), .null] [] g = mm_D (mm_M mm_T0 (D + 10)) cd_X2_readTest 14 [.ref 11, .int (iI (o : Nat)), .int (iI (b2 (wt ≠ 0))), .int (iI ((k + 1 : Nat) : Int)), .null] [] g3 := by
        rw [U_X2_readTest_14]
        (try simp only [iI_lit, iI_neg]) <;> simp (maxSteps := 1000000) (disch := decide) only [iI_lit, iI_neg, iI_add, mm_bI_some, mm_bV_some, mm_bL_some, ↓reduceIte, i10, i00, i11, eq_self, not_true_eq_false, not_false_eq_true, ite_true, ite_false, if_true, if_false, and_true, true_and, and_false, false_and, and_self, or_self, or_false, false_or, or_true, true_or, iI_eq, iI_lt, iI_le, Int.reduceEq, Int.reduceLT, Int.reduceLE, lk, ↓bI_eq kA, ↓bV_eq a1, ↓bI_eq b1, rf2, sh, i1, e1]
      rw [st]
      exact CRes_kf ((kTF k1).trans (k2.trans (kAF i3))) r
  · rw [if_neg c1]
    rw [b2_f c1] at kA
    by_cases c2 : wno b E p gl = 19
    · rw [if_pos c2]
      rw [b2_t c2] at kO
      have l := tL_in (wno_w (b := b) (E := E) (p := p) (gl := gl) (by omega)).1
      have lk : (iI 1600 ≤ iI ((k : Nat) : Int)) = False := iG_f (by omega) (by omega) (by omega) (by omega) (by omega)
      obtain ⟨g0, X0, hst, k0⟩ : ∃ g0, CX g0 b E p gl cc L w (C ++ (c ++ wtL wt)) ∧ mm_D (mm_M mm_T0 (D + 10)) cd_X2_readTest 14 [.ref 11, .int (iI (o : Nat)), .int (iI (b2 (wt ≠ 0))), .int (iI (k : Nat)), .null] [] g = mm_bV (mm_M mm_T0 (D + 10) 75 [.ref 3] g0) (fun h => mm_bI (mm_M mm_T0 (D + 10) 48 [.ref 11, .int (iI (o : Nat))] h) (fun v h => if ¬ v = 0 then mm_D (mm_M mm_T0 (D + 10)) cd_X2_readTest 14 [.ref 11, .int (iI (o : Nat)), .int (iI 1), .int (iI ((k + 1 : Nat) : Int)), .null] [] h else some (some (.int 0), h))) ∧ Kf (QF cc) nL g g0 := by
        by_cases z : wt = 0
        · refine ⟨g, ?_, ?_, Kf.refl⟩
          · rw [z, show wtL 0 = [] from rfl, List.append_nil]
            exact X
          · rw [U_X2_readTest_14, b2_f (fun y => y z)]
            (try simp only [iI_lit, iI_neg]) <;> simp (maxSteps := 1000000) (disch := decide) only [iI_lit, iI_neg, iI_add, mm_bI_some, mm_bV_some, mm_bL_some, ↓reduceIte, i10, i00, i11, eq_self, not_true_eq_false, not_false_eq_true, ite_true, ite_false, if_true, if_false, and_true, true_and, and_false, false_and, and_self, or_self, or_false, false_or, or_true, true_or, iI_eq, iI_lt, iI_le, Int.reduceEq, Int.reduceLT, Int.reduceLE, lk, ↓bI_eq kA, ↓bI_eq kO, e1]
        · have z' : wt = 11 := by omega
          have wl : wtL wt = [wt] := if_neg z
          rw [wl] at hL
          obtain ⟨g3, i1, i2, i3⟩ := C_addc (d := D + 9) (v := wt) hc X.2.2 (by rw [List.length_singleton] at hL; omega) (by omega) (by omega)
          have kA3 := C_isWord (d := D + 9) (k := 20) (X.cod i2 i3).1 (by omega) (by omega)
          rw [b2_f c1] at kA3
          rw [show tc wt = 11010 by rw [z']; rfl] at i1
          refine ⟨g3, ?_, ?_, kAF i3⟩
          · rw [wl, ← List.append_assoc]
            exact X.cod i2 i3
          · rw [U_X2_readTest_14, b2_t z]
            (try simp only [iI_lit, iI_neg]) <;> simp (maxSteps := 1000000) (disch := decide) only [iI_lit, iI_neg, iI_add, mm_bI_some, mm_bV_some, mm_bL_some, ↓reduceIte, i10, i00, i11, eq_self, not_true_eq_false, not_false_eq_true, ite_true, ite_false, if_true, if_false, and_true, true_and, and_false, false_and, and_self, or_self, or_false, false_or, or_true, true_or, iI_eq, iI_lt, iI_le, Int.reduceEq, Int.reduceLT, Int.reduceLE, lk, ↓bI_eq kA, ↓bI_eq kO, rf, sh, i1, e1]
      obtain ⟨g1, a1, S1, k1⟩ := C_advW (d := D + 5) X0.1 (by omega)
      have X1 := X0.tok S1 k1
      have hL0 : L + (C ++ (c ++ wtL wt)).length ≤ p := by
        rw [← List.append_assoc, List.length_append]
        omega
      have ih := h4 o (tL b E (tS b E p)) true (D + 10) g1 (C ++ (c ++ wtL wt)) 0 [] (by omega) ho (by omega) (by omega) X1 (by omega)
      have ok := (Ok_all (b := b) (w := w) hE n).2.2.2.2.1 o (tL b E (tS b E p)) true 0 [] (by omega) (by omega)
      rw [hst]
      revert ih ok
      cases rd b E w n 4 o (tL b E (tS b E p)) true 0 [] with
      | inl f =>
        intro ih ok
        obtain ⟨g2, b1, b2', b3, b4, b5⟩ := ih
        refine ⟨g2, ?_, b2', b3, b4, k0.trans ((kTF k1).trans b5)⟩
        (try simp only [iI_lit, iI_neg]) <;> simp (maxSteps := 1000000) (disch := decide) only [iI_lit, iI_neg, iI_add, mm_bI_some, mm_bV_some, mm_bL_some, ↓reduceIte, i10, i00, i11, eq_self, not_true_eq_false, not_false_eq_true, ite_true, ite_false, if_true, if_false, and_true, true_and, and_false, false_and, and_self, or_self, or_false, false_or, or_true, true_or, iI_eq, iI_lt, iI_le, Int.reduceEq, Int.reduceLT, Int.reduceLE, ↓bV_eq a1, ↓bI_eq b1]
      | inr y =>
        intro ih ok
        obtain ⟨g2, b1, X2, k2⟩ := ih
        have o1 : tL b E (tS b E p) + 1 ≤ y.1 := ok.1
        have o2 : y.1 ≤ E := ok.2.1
        have o3 : y.2.2.length + tL b E (tS b E p) ≤ 0 + y.1 := ok.2.2
        rw [List.append_assoc] at X2
        have wl1 := wtL_len 11
        have r := h5 o y.1 y.2.1 (D + 10) g2 C 11 (c ++ wtL wt ++ y.2.2) (k + 1) o2 ho (by omega) (by omega) (Or.inr rfl) X2 (by rw [← List.append_assoc, List.length_append]; omega) (by omega)
        rw [b2_t (show (11 : Int) ≠ 0 by omega)] at r
        have st : mm_bV (mm_M mm_T0 (D + 10) 75 [.ref 3] g0) (fun h => mm_bI (mm_M mm_T0 (D + 10) 48 [.ref 11, .int (iI (o : Nat))] h) (fun v h => if ¬ v = 0 then mm_D (mm_M mm_T0 (D + 10)) cd_X2_readTest 14 [.ref 11, .int (iI (o : Nat)), .int (iI 1), .int (iI ((k + 1 : Nat) : Int)), .null] [] h else some (some (.int 0), h))) = mm_D (mm_M mm_T0 (D + 10)) cd_X2_readTest 14 [.ref 11, .int (iI (o : Nat)), .int (iI 1), .int (iI ((k + 1 : Nat) : Int)), .null] [] g2 := by
          (try simp only [iI_lit, iI_neg]) <;> simp (maxSteps := 1000000) (disch := decide) only [iI_lit, iI_neg, iI_add, mm_bI_some, mm_bV_some, mm_bL_some, ↓reduceIte, i10, i00, i11, eq_self, not_true_eq_false, not_false_eq_true, ite_true, ite_false, if_true, if_false, and_true, true_and, and_false, false_and, and_self, or_self, or_false, false_or, or_true, true_or, iI_eq, iI_lt, iI_le, Int.reduceEq, Int.reduceLT, Int.reduceLE, ↓bV_eq a1, ↓bI_eq b1]
        rw [st]
        exact CRes_kf (k0.trans ((kTF k1).trans k2)) r
    · rw [if_neg c2]
      rw [b2_f c2] at kO
      by_cases z : wt = 0
      · refine ⟨g, ?_, ?_, Kf.refl⟩
        · rw [U_X2_readTest_14, b2_f (fun y => y z)]
          by_cases y : 1600 ≤ k
          · have lk : (iI 1600 ≤ iI ((k : Nat) : Int)) = True := iG_t (by omega) (by omega) (by omega) (by omega) (by omega)
            (try simp only [iI_lit, iI_neg]) <;> simp (maxSteps := 1000000) (disch := decide) only [iI_lit, iI_neg, iI_add, mm_bI_some, mm_bV_some, mm_bL_some, ↓reduceIte, i10, i00, i11, eq_self, not_true_eq_false, not_false_eq_true, ite_true, ite_false, if_true, if_false, and_true, true_and, and_false, false_and, and_self, or_self, or_false, false_or, or_true, true_or, iI_eq, iI_lt, iI_le, Int.reduceEq, Int.reduceLT, Int.reduceLE, lk]
          · have lk : (iI 1600 ≤ iI ((k : Nat) : Int)) = False := iG_f (by omega) (by omega) (by omega) (by omega) (by omega)
            (try simp only [iI_lit, iI_neg]) <;> simp (maxSteps := 1000000) (disch := decide) only [iI_lit, iI_neg, iI_add, mm_bI_some, mm_bV_some, mm_bL_some, ↓reduceIte, i10, i00, i11, eq_self, not_true_eq_false, not_false_eq_true, ite_true, ite_false, if_true, if_false, and_true, true_and, and_false, false_and, and_self, or_self, or_false, false_or, or_true, true_or, iI_eq, iI_lt, iI_le, Int.reduceEq, Int.reduceLT, Int.reduceLE, lk, ↓bI_eq kA, ↓bI_eq kO]
        · show CX g b E p gl cc L w (C ++ (c ++ wtL wt))
          rw [z, show wtL 0 = [] from rfl, List.append_nil]
          exact X
      · have z' : wt = 11 := by omega
        have wl : wtL wt = [wt] := if_neg z
        rw [wl] at hL
        obtain ⟨g3, i1, i2, i3⟩ := C_addc (d := D + 9) (v := wt) hc X.2.2 (by rw [List.length_singleton] at hL; omega) (by omega) (by omega)
        rw [show tc wt = 11010 by rw [z']; rfl] at i1
        refine ⟨g3, ?_, ?_, kAF i3⟩
        · rw [U_X2_readTest_14, b2_t z]
          by_cases y : 1600 ≤ k
          · have lk : (iI 1600 ≤ iI ((k : Nat) : Int)) = True := iG_t (by omega) (by omega) (by omega) (by omega) (by omega)
            (try simp only [iI_lit, iI_neg]) <;> simp (maxSteps := 1000000) (disch := decide) only [iI_lit, iI_neg, iI_add, mm_bI_some, mm_bV_some, mm_bL_some, ↓reduceIte, i10, i00, i11, eq_self, not_true_eq_false, not_false_eq_true, ite_true, ite_false, if_true, if_false, and_true, true_and, and_false, false_and, and_self, or_self, or_false, false_or, or_true, true_or, iI_eq, iI_lt, iI_le, Int.reduceEq, Int.reduceLT, Int.reduceLE, lk, rf, sh, i1]
          · have lk : (iI 1600 ≤ iI ((k : Nat) : Int)) = False := iG_f (by omega) (by omega) (by omega) (by omega) (by omega)
            (try simp only [iI_lit, iI_neg]) <;> simp (maxSteps := 1000000) (disch := decide) only [iI_lit, iI_neg, iI_add, mm_bI_some, mm_bV_some, mm_bL_some, ↓reduceIte, i10, i00, i11, eq_self, not_true_eq_false, not_false_eq_true, ite_true, ite_false, if_true, if_false, and_true, true_and, and_false, false_and, and_self, or_self, or_false, false_or, or_true, true_or, iI_eq, iI_lt, iI_le, Int.reduceEq, Int.reduceLT, Int.reduceLE, lk, ↓bI_eq kA, ↓bI_eq kO, rf, sh, i1]
        · show CX g3 b E p gl cc L w (C ++ (c ++ wtL wt))
          rw [wl, ← List.append_assoc]
          exact X.cod i2 i3
theorem Cl_all (hE : E ≤ 1600) (w0 : 0 ≤ w) (w3 : w ≤ 3) : ∀ n, Cl0 b E cc L w n ∧ Cl1 b E cc L w n ∧ Cl2 b E cc L w n ∧ Cl3 b E cc L w n ∧ Cl4 b E cc L w n ∧ Cl5 b E cc L w n
  | 0 => ⟨fun _ _ _ _ _ _ _ _ _ _ h => by omega, fun _ _ _ _ _ _ _ _ _ _ h => by omega, fun _ _ _ _ _ _ _ _ _ _ _ h => by omega, fun _ _ _ _ _ _ _ _ _ _ h => by omega, fun _ _ _ _ _ _ _ _ _ _ h => by omega, fun _ _ _ _ _ _ _ _ _ _ _ h => by omega⟩
  | n + 1 => by
    obtain ⟨h0, h1, h2, h3, h4, h5⟩ := Cl_all hE w0 w3 n
    exact ⟨C_cl0 hE w0 w3 h0 h1, C_cl1 hE h0 h2, C_cl2 hE h0 h2, C_cl3 hE h4 h5, C_cl4 hE h1 h3 h4, C_cl5 hE h4 h5⟩
end CRH
