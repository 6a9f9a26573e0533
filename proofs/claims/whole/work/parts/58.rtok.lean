/-! the reference takes words, signs, numbers -/
section RTAKE
variable {d : Nat} {g : mm_H} {b : Nat → Int} {E p : Nat} {gl : Bool}
theorem hasW_len {w : List Int} (h : hasW b E w p gl = true) : isLt (tB b E p) = true ∧ tG b E p gl = false ∧ tL b E (tS b E p) = tS b E p + w.length ∧ tS b E p < E := by
  unfold hasW at h
  rw [Bool.and_eq_true, Bool.and_eq_true, Bool.and_eq_true] at h
  have h1 := h.1.1.1
  have h2 := h.1.1.2
  have h3 := of_decide_eq_true h.1.2
  refine ⟨h1, by simpa using h2, h3, ?_⟩
  unfold tB at h1
  by_cases c : tS b E p < E
  · exact c
  · rw [if_neg c] at h1
    exact absurd (isLt_iff.mp h1) (by omega)
set_option maxHeartbeats 8000000 in
theorem R_takes {a : Nat} (ha : isW a) (R : RS g b E p gl) : (hasW b E (wordL a) p gl = true → ∃ g', mm_M mm_T0 (d + 3) 196 [.ref 264, .ref a] g = some (some (.int (iI 1)), g') ∧ RS g' b E (tL b E (tS b E p)) true ∧ Kf QTk nL g g') ∧ (hasW b E (wordL a) p gl ≠ true → ∃ g', mm_M mm_T0 (d + 3) 196 [.ref 264, .ref a] g = some (some (.int (iI 0)), g') ∧ RS g' b E p gl ∧ fd g' 264 2 = (tS b E p : Int) ∧ Kf QTk nL g g') := by
  obtain ⟨g1, m1, R1, m2, m3, _⟩ := R_isHere (d := d) ha R
  have ln := len_word ha
  have hE := R.1.2.1
  have on : Int32.ofNat (wordL a).length = iI ((wordL a).length : Nat) := (Int32.ofInt_eq_ofNat (n := (wordL a).length)).symm
  refine ⟨fun h => ?_, fun h => ?_⟩
  · have hw := hasW_len h
    have tl := run_le (P := isLt) (b := b) (E := E) (p := tS b E p) (by omega)
    have tle : tL b E (tS b E p) ≤ E := tl
    rw [b2_t h] at m1
    have e1 : (tS b E p : Int) + ((wordL a).length : Nat) = ((tL b E (tS b E p) : Nat) : Int) := by rw [hw.2.2.1]; omega
    have kw : Kf QTk nL g1 (wI (wI g1 264 2 (iI ((tL b E (tS b E p) : Nat) : Int))) 264 4 (iI ((tL b E (tS b E p) : Nat) : Int))) := (Kf.refl.wI (by unfold QTk; omega)).wI (by unfold QTk; omega)
    have f2 : fd (wI (wI g1 264 2 (iI ((tL b E (tS b E p) : Nat) : Int))) 264 4 (iI ((tL b E (tS b E p) : Nat) : Int))) 264 2 = ((tL b E (tS b E p) : Nat) : Int) := by rw [fd_wI_col (by omega), fd_wI_same (by omega) (by omega)]
    have f4 : fd (wI (wI g1 264 2 (iI ((tL b E (tS b E p) : Nat) : Int))) 264 4 (iI ((tL b E (tS b E p) : Nat) : Int))) 264 4 = ((tL b E (tS b E p) : Nat) : Int) := fd_wI_same (by omega) (by omega)
    have ge := tS_ge (b := b) (E := E) (p := tL b E (tS b E p))
    refine ⟨_, ?_, ⟨R1.1.tk kw, tle, ?_, ⟨by omega, by omega⟩, ?_, ?_⟩, m3.trans kw⟩
    · have f2' : fd (wI g1 264 2 (iI ((tL b E (tS b E p) : Nat) : Int))) 264 2 = ((tL b E (tS b E p) : Nat) : Int) := fd_wI_same (by omega) (by omega)
      rw [U_X12_takes (sh_word ha), on]
      simp (disch := omega) only [iI_lit, jI_lit, iI_neg, jI_neg, iI_add, iI_sub, iI_mul, jI_add, jI_sub, jI_mul, rdI, rdL, iI_lt, iI_le, iI_eq, iI_nat, iI_b2_0, iI_b2_1, mm_bI_some, mm_bV_some, mm_bL_some, mm_bA_some, fd_wL, fd_wR, fl_wI, fl_wR, re_wI, re_wL, re_wC, ite_true, ite_false, not_true_eq_false, not_false_eq_true, lq_ge, lq_le, lq_gt, lq_lt, lq_eq, jI_lt, jI_le, jI_eq, if_pos, if_neg, m1, m2, e1, f2']
    · rw [fd_wI_col (by omega), fd_wI_col (by omega)]; exact R1.2.2.1
    · rw [if_pos rfl]; exact f4
    · rw [fd_wI_col (by omega), fd_wI_col (by omega)]; exact R1.2.2.2.2.2
  · rw [b2_f h] at m1
    refine ⟨g1, ?_, R1, m2, m3⟩
    rw [U_X12_takes (sh_word ha)]
    simp (disch := omega) only [iI_lit, jI_lit, iI_neg, jI_neg, iI_add, iI_sub, iI_mul, jI_add, jI_sub, jI_mul, rdI, rdL, iI_lt, iI_le, iI_eq, iI_nat, iI_b2_0, iI_b2_1, mm_bI_some, mm_bV_some, mm_bL_some, mm_bA_some, fd_wL, fd_wR, fl_wI, fl_wR, re_wI, re_wL, re_wC, ite_true, ite_false, not_true_eq_false, not_false_eq_true, lq_ge, lq_le, lq_gt, lq_lt, lq_eq, jI_lt, jI_le, jI_eq, if_pos, if_neg, m1]
set_option maxHeartbeats 8000000 in
theorem R_asks {a : Nat} (ha : isW a) (R : RS g b E p gl) : (hasW b E (wordL a) p gl = true → ∃ g', mm_M mm_T0 (d + 4) 197 [.ref 264, .ref a] g = some (none, g') ∧ RS g' b E (tL b E (tS b E p)) true ∧ Kf QTk nL g g') ∧ (hasW b E (wordL a) p gl ≠ true → ∃ g', mm_M mm_T0 (d + 4) 197 [.ref 264, .ref a] g = some (none, g') ∧ Bad g' 1 (tS b E p) ∧ Kf QTk nL g g') := by
  have h5 := R.2.2.1
  have hE := R.1.2.1
  have le := tS_le (b := b) (E := E) R.2.1
  have t := R_takes (d := d) ha R
  refine ⟨fun h => ?_, fun h => ?_⟩
  · obtain ⟨g1, m1, R1, m3⟩ := t.1 h
    refine ⟨g1, ?_, R1, m3⟩
    rw [U_X12_asks (sh_word ha)]
    simp (disch := omega) only [iI_lit, jI_lit, iI_neg, jI_neg, iI_add, iI_sub, iI_mul, jI_add, jI_sub, jI_mul, rdI, rdL, iI_lt, iI_le, iI_eq, iI_nat, iI_b2_0, iI_b2_1, mm_bI_some, mm_bV_some, mm_bL_some, mm_bA_some, fd_wL, fd_wR, fl_wI, fl_wR, re_wI, re_wL, re_wC, ite_true, ite_false, not_true_eq_false, not_false_eq_true, lq_ge, lq_le, lq_gt, lq_lt, lq_eq, jI_lt, jI_le, jI_eq, if_pos, if_neg, h5, m1]
  · obtain ⟨g1, m1, R1, m2, m3⟩ := t.2 h
    obtain ⟨g2, f1, f2, f3⟩ := R_fail (d := d + 2) (k := 1) (pl := (tS b E p : Int)) R1.2.2.1 (by omega) (by omega) (by omega) (by omega)
    refine ⟨g2, ?_, f2, m3.trans f3⟩
    rw [U_X12_asks (sh_word ha)]
    simp (disch := omega) only [iI_lit, jI_lit, iI_neg, jI_neg, iI_add, iI_sub, iI_mul, jI_add, jI_sub, jI_mul, rdI, rdL, iI_lt, iI_le, iI_eq, iI_nat, iI_b2_0, iI_b2_1, mm_bI_some, mm_bV_some, mm_bL_some, mm_bA_some, fd_wL, fd_wR, fl_wI, fl_wR, re_wI, re_wL, re_wC, ite_true, ite_false, not_true_eq_false, not_false_eq_true, lq_ge, lq_le, lq_gt, lq_lt, lq_eq, jI_lt, jI_le, jI_eq, if_pos, if_neg, h5, m1, m2, f1]
set_option maxHeartbeats 8000000 in
theorem R_takesSign {c : Int} (R : RS g b E p gl) (c0 : 0 ≤ c) (c1 : c ≤ 255) : (tB b E p = c → ∃ g', mm_M mm_T0 (d + 2) 198 [.ref 264, .int (iI c)] g = some (some (.int (iI 1)), g') ∧ RS g' b E (tS b E p + 1) false ∧ fd g' 264 2 = (tS b E p : Int) + 1 ∧ Kf QTk nL g g') ∧ (tB b E p ≠ c → ∃ g', mm_M mm_T0 (d + 2) 198 [.ref 264, .int (iI c)] g = some (some (.int (iI 0)), g') ∧ RS g' b E p gl ∧ fd g' 264 2 = (tS b E p : Int) ∧ Kf QTk nL g g') := by
  have h5 := R.2.2.1
  have hE := R.1.2.1
  obtain ⟨g1, m1, R1, m2, m3⟩ := R_look (d := d) R
  have tb := tB_b (p := p) R1.1
  have le := tS_le (b := b) (E := E) R.2.1
  have ge := tS_ge (b := b) (E := E) (p := p)
  refine ⟨fun h => ?_, fun h => ?_⟩
  · have lt : tS b E p < E := by
      unfold tB at h
      by_cases c : tS b E p < E
      · exact c
      · rw [if_neg c] at h; omega
    have kw : Kf QTk nL g1 (wI g1 264 2 (iI ((tS b E p : Int) + 1))) := Kf.refl.wI (by unfold QTk; omega)
    have f2 : fd (wI g1 264 2 (iI ((tS b E p : Int) + 1))) 264 2 = (tS b E p : Int) + 1 := fd_wI_same (by omega) (by omega)
    have ge2 := tS_ge (b := b) (E := E) (p := tS b E p + 1)
    have hg := R1.2.2.2.2.1
    refine ⟨_, ?_, ⟨R1.1.tk kw, by omega, ?_, ⟨by omega, by omega⟩, ?_, (fd_wI_col (by omega)).trans R1.2.2.2.2.2⟩, f2, m3.trans kw⟩
    · rw [U_X12_takesSign]
      simp (disch := omega) only [iI_lit, jI_lit, iI_neg, jI_neg, iI_add, iI_sub, iI_mul, jI_add, jI_sub, jI_mul, rdI, rdL, iI_lt, iI_le, iI_eq, iI_nat, iI_b2_0, iI_b2_1, mm_bI_some, mm_bV_some, mm_bL_some, mm_bA_some, fd_wL, fd_wR, fl_wI, fl_wR, re_wI, re_wL, re_wC, ite_true, ite_false, not_true_eq_false, not_false_eq_true, lq_ge, lq_le, lq_gt, lq_lt, lq_eq, jI_lt, jI_le, jI_eq, if_pos, if_neg, h5, m1, m2]
    · rw [fd_wI_col (by omega)]; exact R1.2.2.1
    · rw [if_neg (by simp), fd_wI_col (by omega)]
      cases gl with
      | true => rw [if_pos rfl] at hg; omega
      | false => rw [if_neg (by simp)] at hg; omega
  · refine ⟨g1, ?_, R1, m2, m3⟩
    rw [U_X12_takesSign]
    simp (disch := omega) only [iI_lit, jI_lit, iI_neg, jI_neg, iI_add, iI_sub, iI_mul, jI_add, jI_sub, jI_mul, rdI, rdL, iI_lt, iI_le, iI_eq, iI_nat, iI_b2_0, iI_b2_1, mm_bI_some, mm_bV_some, mm_bL_some, mm_bA_some, fd_wL, fd_wR, fl_wI, fl_wR, re_wI, re_wL, re_wC, ite_true, ite_false, not_true_eq_false, not_false_eq_true, lq_ge, lq_le, lq_gt, lq_lt, lq_eq, jI_lt, jI_le, jI_eq, if_pos, if_neg, h5, m1]
set_option maxHeartbeats 8000000 in
theorem R_asksSign {c : Int} (R : RS g b E p gl) (c0 : 0 ≤ c) (c1 : c ≤ 255) : (tB b E p = c → ∃ g', mm_M mm_T0 (d + 3) 199 [.ref 264, .int (iI c)] g = some (none, g') ∧ RS g' b E (tS b E p + 1) false ∧ Kf QTk nL g g') ∧ (tB b E p ≠ c → ∃ g', mm_M mm_T0 (d + 3) 199 [.ref 264, .int (iI c)] g = some (none, g') ∧ Bad g' 1 (tS b E p) ∧ Kf QTk nL g g') := by
  have h5 := R.2.2.1
  have hE := R.1.2.1
  have le := tS_le (b := b) (E := E) R.2.1
  have t := R_takesSign (d := d) (c := c) R c0 c1
  refine ⟨fun h => ?_, fun h => ?_⟩
  · obtain ⟨g1, m1, R1, _, m3⟩ := t.1 h
    refine ⟨g1, ?_, R1, m3⟩
    rw [U_X12_asksSign]
    simp (disch := omega) only [iI_lit, jI_lit, iI_neg, jI_neg, iI_add, iI_sub, iI_mul, jI_add, jI_sub, jI_mul, rdI, rdL, iI_lt, iI_le, iI_eq, iI_nat, iI_b2_0, iI_b2_1, mm_bI_some, mm_bV_some, mm_bL_some, mm_bA_some, fd_wL, fd_wR, fl_wI, fl_wR, re_wI, re_wL, re_wC, ite_true, ite_false, not_true_eq_false, not_false_eq_true, lq_ge, lq_le, lq_gt, lq_lt, lq_eq, jI_lt, jI_le, jI_eq, if_pos, if_neg, h5, m1]
  · obtain ⟨g1, m1, R1, m2, m3⟩ := t.2 h
    obtain ⟨g2, f1, f2, f3⟩ := R_fail (d := d + 1) (k := 1) (pl := (tS b E p : Int)) R1.2.2.1 (by omega) (by omega) (by omega) (by omega)
    refine ⟨g2, ?_, f2, m3.trans f3⟩
    rw [U_X12_asksSign]
    simp (disch := omega) only [iI_lit, jI_lit, iI_neg, jI_neg, iI_add, iI_sub, iI_mul, jI_add, jI_sub, jI_mul, rdI, rdL, iI_lt, iI_le, iI_eq, iI_nat, iI_b2_0, iI_b2_1, mm_bI_some, mm_bV_some, mm_bL_some, mm_bA_some, fd_wL, fd_wR, fl_wI, fl_wR, re_wI, re_wL, re_wC, ite_true, ite_false, not_true_eq_false, not_false_eq_true, lq_ge, lq_le, lq_gt, lq_lt, lq_eq, jI_lt, jI_le, jI_eq, if_pos, if_neg, h5, m1, m2, f1]
/-! numbers -/
/-- a number's value stays below 10 to the digits read -/
theorem numF_lt : ∀ (k p : Nat) (v m : Int), (∀ j, p ≤ j → j < p + k → 48 ≤ b j ∧ b j ≤ 57) → 0 ≤ v → v < m → 0 ≤ numF b k p v ∧ numF b k p v < m * 10 ^ k
  | 0, p, v, m, h, hv, hm => ⟨hv, by simpa [numF] using hm⟩
  | k + 1, p, v, m, h, hv, hm => by
    have := h p (by omega) (by omega)
    have ih := numF_lt k (p + 1) (10 * v + b p - 48) (m * 10) (fun j h1 h2 => h j (by omega) (by omega)) (by omega) (by omega)
    rw [numF]
    refine ⟨ih.1, ?_⟩
    have e : m * 10 * 10 ^ k = m * 10 ^ (k + 1) := by rw [Int.pow_succ, Int.mul_comm (10 ^ k) 10, Int.mul_assoc]
    rw [← e]
    exact ih.2
set_option maxHeartbeats 8000000 in
theorem R_num_49 {s lo hi : Nat} (hlo : lo ≤ 10000) (hhi : hi ≤ 10000) : ∀ (k q : Nat) (v : Int) (g : mm_H), k = E - q → s ≤ q → q ≤ s + 4 → q ≤ E → Txt g b E → fd g 264 5 = 0 → fd g 264 2 = (q : Int) → 0 ≤ v → v < 10 ^ (q - s) → (tD b E q ≤ s + 4 → ∃ g', mm_D (mm_M mm_T0 (d + 1)) cd_X12_number 49 [.ref 264, .int (iI (lo : Nat)), .int (iI (hi : Nat)), .int (iI (s : Nat)), .int (iI v)] [] g = some (some (.int (iI (numF b (tD b E q - q) q v))), g') ∧ fd g' 264 2 = (tD b E q : Int) ∧ fd g' 264 4 = (tD b E q : Int) ∧ fd g' 264 10 = (s : Int) ∧ (if (lo : Int) ≤ numF b (tD b E q - q) q v ∧ numF b (tD b E q - q) q v ≤ (hi : Int) then (fd g' 264 5 = 0 ∧ fd g' 264 6 = fd g 264 6) else Bad g' 2 s) ∧ Kf QTk nL g g') ∧ (s + 4 < tD b E q → ∃ g', mm_D (mm_M mm_T0 (d + 1)) cd_X12_number 49 [.ref 264, .int (iI (lo : Nat)), .int (iI (hi : Nat)), .int (iI (s : Nat)), .int (iI v)] [] g = some (some (.int (iI 0)), g') ∧ Bad g' 1 ((s + 4 : Nat) : Int) ∧ Kf QTk nL g g') := by
  intro k
  induction k with
  | zero =>
    intro q v g hk h1 h2 h3 T h5 e2 hv hv2
    have e3 := T.1
    have hE := T.2.1
    have st : tD b E q = q := run_stop (by omega)
    have p4 : (10 : Int) ^ (q - s) ≤ 10000 := by
      have : ∀ m, m ≤ 4 → (10 : Int) ^ m ≤ 10000 := by decide
      exact this _ (by omega)
    rw [st]
    refine ⟨fun _ => ?_, fun h => by omega⟩
    rw [Nat.sub_self, numF]
    have kw : Kf QTk nL g (wI (wI g 264 4 (iI (q : Int))) 264 10 (iI (s : Int))) := (Kf.refl.wI (by unfold QTk; omega)).wI (by unfold QTk; omega)
    have f5 : fd (wI (wI g 264 4 (iI (q : Int))) 264 10 (iI (s : Int))) 264 5 = 0 := by rw [fd_wI_col (by omega), fd_wI_col (by omega)]; exact h5
    have f2 : fd (wI (wI g 264 4 (iI (q : Int))) 264 10 (iI (s : Int))) 264 2 = (q : Int) := by rw [fd_wI_col (by omega), fd_wI_col (by omega)]; exact e2
    have f4 : fd (wI (wI g 264 4 (iI (q : Int))) 264 10 (iI (s : Int))) 264 4 = (q : Int) := by rw [fd_wI_col (by omega), fd_wI_same (by omega) (by omega)]
    have f10 : fd (wI (wI g 264 4 (iI (q : Int))) 264 10 (iI (s : Int))) 264 10 = (s : Int) := fd_wI_same (by omega) (by omega)
    by_cases c : (lo : Int) ≤ v ∧ v ≤ (hi : Int)
    · refine ⟨_, ?_, f2, f4, f10, by rw [if_pos c]; exact ⟨f5, (fd_wI_col (by omega)).trans (fd_wI_col (by omega))⟩, kw⟩
      rw [U_X12_number_49, iI_jI (by omega) (by omega), iI_jI (by omega) (by omega), iI_jI (by omega) (by omega)]
      simp (disch := omega) only [iI_lit, jI_lit, iI_neg, jI_neg, iI_add, iI_sub, iI_mul, jI_add, jI_sub, jI_mul, rdI, rdL, iI_lt, iI_le, iI_eq, iI_nat, iI_b2_0, iI_b2_1, mm_bI_some, mm_bV_some, mm_bL_some, mm_bA_some, fd_wL, fd_wR, fl_wI, fl_wR, re_wI, re_wL, re_wC, ite_true, ite_false, not_true_eq_false, not_false_eq_true, lq_ge, lq_le, lq_gt, lq_lt, lq_eq, jI_lt, jI_le, jI_eq, if_pos, if_neg, e2, e3, R_isIn]
    · have fl := U_X12_fail (d := d) (x1 := iI 2) (x2 := iI (s : Int)) (h := wI (wI g 264 4 (iI (q : Int))) 264 10 (iI (s : Int)))
      have m1 : mm_M mm_T0 (d + 1) 191 [.ref 264, .int (iI 2), .int (iI (s : Int))] (wI (wI g 264 4 (iI (q : Int))) 264 10 (iI (s : Int))) = some (none, wI (wI (wI (wI g 264 4 (iI (q : Int))) 264 10 (iI (s : Int))) 264 5 (iI 2)) 264 6 (iI (s : Int))) := by
        rw [fl]
        simp (disch := omega) only [iI_lit, jI_lit, iI_neg, jI_neg, iI_add, iI_sub, iI_mul, jI_add, jI_sub, jI_mul, rdI, rdL, iI_lt, iI_le, iI_eq, iI_nat, iI_b2_0, iI_b2_1, mm_bI_some, mm_bV_some, mm_bL_some, mm_bA_some, fd_wL, fd_wR, fl_wI, fl_wR, re_wI, re_wL, re_wC, ite_true, ite_false, not_true_eq_false, not_false_eq_true, lq_ge, lq_le, lq_gt, lq_lt, lq_eq, jI_lt, jI_le, jI_eq, if_pos, if_neg, f5]
      refine ⟨wI (wI (wI (wI g 264 4 (iI (q : Int))) 264 10 (iI (s : Int))) 264 5 (iI 2)) 264 6 (iI (s : Int)), ?_, ?_, ?_, ?_, ?_, (kw.wI (by unfold QTk; omega)).wI (by unfold QTk; omega)⟩
      · rw [U_X12_number_49, iI_jI (by omega) (by omega), iI_jI (by omega) (by omega), iI_jI (by omega) (by omega)]
        simp (disch := omega) only [iI_lit, jI_lit, iI_neg, jI_neg, iI_add, iI_sub, iI_mul, jI_add, jI_sub, jI_mul, rdI, rdL, iI_lt, iI_le, iI_eq, iI_nat, iI_b2_0, iI_b2_1, mm_bI_some, mm_bV_some, mm_bL_some, mm_bA_some, fd_wL, fd_wR, fl_wI, fl_wR, re_wI, re_wL, re_wC, ite_true, ite_false, not_true_eq_false, not_false_eq_true, lq_ge, lq_le, lq_gt, lq_lt, lq_eq, jI_lt, jI_le, jI_eq, if_pos, if_neg, e2, e3, R_isIn, m1]
      · rw [fd_wI_col (by omega), fd_wI_col (by omega)]; exact f2
      · rw [fd_wI_col (by omega), fd_wI_col (by omega)]; exact f4
      · rw [fd_wI_col (by omega), fd_wI_col (by omega)]; exact f10
      · rw [if_neg c]
        exact ⟨by rw [fd_wI_col (by omega), fd_wI_same (by omega) (by omega)], fd_wI_same (by omega) (by omega)⟩
  | succ k ih =>
    intro q v g hk h1 h2 h3 T h5 e2 hv hv2
    have e3 := T.1
    have hE := T.2.1
    have vv := T.2.2.1 q (by omega)
    have v1 := vv.1
    have nq : ((q : Nat) : Int).toNat = q := by omega
    have id := fun g => R_isDigit (d := d) (g := g) (x := b q) (by omega) (by omega)
    have p4 : (10 : Int) ^ (q - s) ≤ 10000 := by
      have : ∀ m, m ≤ 4 → (10 : Int) ^ m ≤ 10000 := by decide
      exact this _ (by omega)
    by_cases c : isDg (b q) = true
    · have cd := isDg_iff.mp c
      have st : tD b E q = tD b E (q + 1) := run_step ⟨by omega, c⟩
      have ge := run_ge (P := isDg) (b := b) (E := E) (p := q + 1)
      have ge' : q + 1 ≤ tD b E (q + 1) := ge
      rw [b2_t c] at id
      by_cases c4 : q = s + 4
      · refine ⟨fun h => by omega, fun _ => ?_⟩
        obtain ⟨g', m1, m2, m3⟩ := R_fail (d := d) (g := g) (k := 1) (pl := (q : Int)) h5 (by omega) (by omega) (by omega) (by omega)
        refine ⟨g', ?_, by rw [← c4]; exact m2, m3⟩
        rw [U_X12_number_49]
        simp (disch := omega) only [iI_lit, jI_lit, iI_neg, jI_neg, iI_add, iI_sub, iI_mul, jI_add, jI_sub, jI_mul, rdI, rdL, iI_lt, iI_le, iI_eq, iI_nat, iI_b2_0, iI_b2_1, mm_bI_some, mm_bV_some, mm_bL_some, mm_bA_some, fd_wL, fd_wR, fl_wI, fl_wR, re_wI, re_wL, re_wC, ite_true, ite_false, not_true_eq_false, not_false_eq_true, lq_ge, lq_le, lq_gt, lq_lt, lq_eq, jI_lt, jI_le, jI_eq, if_pos, if_neg, e2, e3, nq, v1, id, m1]
      · have kw : Kf QTk nL g (wI g 264 2 (iI ((q : Int) + 1))) := Kf.refl.wI (by unfold QTk; omega)
        have stp : mm_D (mm_M mm_T0 (d + 1)) cd_X12_number 49 [.ref 264, .int (iI (lo : Nat)), .int (iI (hi : Nat)), .int (iI (s : Nat)), .int (iI v)] [] g = mm_D (mm_M mm_T0 (d + 1)) cd_X12_number 49 [.ref 264, .int (iI (lo : Nat)), .int (iI (hi : Nat)), .int (iI (s : Nat)), .int (iI (10 * v + b q - 48))] [] (wI g 264 2 (iI ((q : Int) + 1))) := by
          rw [U_X12_number_49]
          simp (disch := omega) only [iI_lit, jI_lit, iI_neg, jI_neg, iI_add, iI_sub, iI_mul, jI_add, jI_sub, jI_mul, rdI, rdL, iI_lt, iI_le, iI_eq, iI_nat, iI_b2_0, iI_b2_1, mm_bI_some, mm_bV_some, mm_bL_some, mm_bA_some, fd_wL, fd_wR, fl_wI, fl_wR, re_wI, re_wL, re_wC, ite_true, ite_false, not_true_eq_false, not_false_eq_true, lq_ge, lq_le, lq_gt, lq_lt, lq_eq, jI_lt, jI_le, jI_eq, if_pos, if_neg, e2, e3, nq, v1, id]
        have pw : (10 : Int) ^ (q + 1 - s) = 10 ^ (q - s) * 10 := by rw [show q + 1 - s = (q - s) + 1 by omega, Int.pow_succ]
        have nx := ih (q + 1) (10 * v + b q - 48) (wI g 264 2 (iI ((q : Int) + 1))) (by omega) (by omega) (by omega) (by omega) (T.tk kw) (by rw [fd_wI_col (by omega)]; exact h5) (by rw [fd_wI_same (by omega) (by omega)]; omega) (by omega) (by rw [pw]; omega)
        have e66 : fd (wI g 264 2 (iI ((q : Int) + 1))) 264 6 = fd g 264 6 := fd_wI_col (by omega)
        rw [e66] at nx
        rw [st, stp]
        have en : numF b (tD b E (q + 1) - q) q v = numF b (tD b E (q + 1) - (q + 1)) (q + 1) (10 * v + b q - 48) := by
          rw [show tD b E (q + 1) - q = (tD b E (q + 1) - (q + 1)) + 1 by omega, numF]
        rw [en]
        refine ⟨fun h => ?_, fun h => ?_⟩
        · obtain ⟨g', z1, z2, z3, z4, z5, z6⟩ := nx.1 h
          exact ⟨g', z1, z2, z3, z4, z5, kw.trans z6⟩
        · obtain ⟨g', z1, z2, z3⟩ := nx.2 h
          exact ⟨g', z1, z2, kw.trans z3⟩
    · have st : tD b E q = q := run_stop (fun z => c z.2)
      rw [b2_f c] at id
      rw [st]
      refine ⟨fun _ => ?_, fun h => by omega⟩
      rw [Nat.sub_self, numF]
      have kw : Kf QTk nL g (wI (wI g 264 4 (iI (q : Int))) 264 10 (iI (s : Int))) := (Kf.refl.wI (by unfold QTk; omega)).wI (by unfold QTk; omega)
      have f5 : fd (wI (wI g 264 4 (iI (q : Int))) 264 10 (iI (s : Int))) 264 5 = 0 := by rw [fd_wI_col (by omega), fd_wI_col (by omega)]; exact h5
      have f2 : fd (wI (wI g 264 4 (iI (q : Int))) 264 10 (iI (s : Int))) 264 2 = (q : Int) := by rw [fd_wI_col (by omega), fd_wI_col (by omega)]; exact e2
      have f4 : fd (wI (wI g 264 4 (iI (q : Int))) 264 10 (iI (s : Int))) 264 4 = (q : Int) := by rw [fd_wI_col (by omega), fd_wI_same (by omega) (by omega)]
      have f10 : fd (wI (wI g 264 4 (iI (q : Int))) 264 10 (iI (s : Int))) 264 10 = (s : Int) := fd_wI_same (by omega) (by omega)
      by_cases c5 : (lo : Int) ≤ v ∧ v ≤ (hi : Int)
      · refine ⟨_, ?_, f2, f4, f10, by rw [if_pos c5]; exact ⟨f5, (fd_wI_col (by omega)).trans (fd_wI_col (by omega))⟩, kw⟩
        rw [U_X12_number_49, iI_jI (by omega) (by omega), iI_jI (by omega) (by omega), iI_jI (by omega) (by omega)]
        simp (disch := omega) only [iI_lit, jI_lit, iI_neg, jI_neg, iI_add, iI_sub, iI_mul, jI_add, jI_sub, jI_mul, rdI, rdL, iI_lt, iI_le, iI_eq, iI_nat, iI_b2_0, iI_b2_1, mm_bI_some, mm_bV_some, mm_bL_some, mm_bA_some, fd_wL, fd_wR, fl_wI, fl_wR, re_wI, re_wL, re_wC, ite_true, ite_false, not_true_eq_false, not_false_eq_true, lq_ge, lq_le, lq_gt, lq_lt, lq_eq, jI_lt, jI_le, jI_eq, if_pos, if_neg, e2, e3, nq, v1, id, R_isIn]
      · have fl := U_X12_fail (d := d) (x1 := iI 2) (x2 := iI (s : Int)) (h := wI (wI g 264 4 (iI (q : Int))) 264 10 (iI (s : Int)))
        have m1 : mm_M mm_T0 (d + 1) 191 [.ref 264, .int (iI 2), .int (iI (s : Int))] (wI (wI g 264 4 (iI (q : Int))) 264 10 (iI (s : Int))) = some (none, wI (wI (wI (wI g 264 4 (iI (q : Int))) 264 10 (iI (s : Int))) 264 5 (iI 2)) 264 6 (iI (s : Int))) := by
          rw [fl]
          simp (disch := omega) only [iI_lit, jI_lit, iI_neg, jI_neg, iI_add, iI_sub, iI_mul, jI_add, jI_sub, jI_mul, rdI, rdL, iI_lt, iI_le, iI_eq, iI_nat, iI_b2_0, iI_b2_1, mm_bI_some, mm_bV_some, mm_bL_some, mm_bA_some, fd_wL, fd_wR, fl_wI, fl_wR, re_wI, re_wL, re_wC, ite_true, ite_false, not_true_eq_false, not_false_eq_true, lq_ge, lq_le, lq_gt, lq_lt, lq_eq, jI_lt, jI_le, jI_eq, if_pos, if_neg, f5]
        refine ⟨wI (wI (wI (wI g 264 4 (iI (q : Int))) 264 10 (iI (s : Int))) 264 5 (iI 2)) 264 6 (iI (s : Int)), ?_, ?_, ?_, ?_, ?_, (kw.wI (by unfold QTk; omega)).wI (by unfold QTk; omega)⟩
        · rw [U_X12_number_49, iI_jI (by omega) (by omega), iI_jI (by omega) (by omega), iI_jI (by omega) (by omega)]
          simp (disch := omega) only [iI_lit, jI_lit, iI_neg, jI_neg, iI_add, iI_sub, iI_mul, jI_add, jI_sub, jI_mul, rdI, rdL, iI_lt, iI_le, iI_eq, iI_nat, iI_b2_0, iI_b2_1, mm_bI_some, mm_bV_some, mm_bL_some, mm_bA_some, fd_wL, fd_wR, fl_wI, fl_wR, re_wI, re_wL, re_wC, ite_true, ite_false, not_true_eq_false, not_false_eq_true, lq_ge, lq_le, lq_gt, lq_lt, lq_eq, jI_lt, jI_le, jI_eq, if_pos, if_neg, e2, e3, nq, v1, id, R_isIn, m1]
        · rw [fd_wI_col (by omega), fd_wI_col (by omega)]; exact f2
        · rw [fd_wI_col (by omega), fd_wI_col (by omega)]; exact f4
        · rw [fd_wI_col (by omega), fd_wI_col (by omega)]; exact f10
        · rw [if_neg c5]
          exact ⟨by rw [fd_wI_col (by omega), fd_wI_same (by omega) (by omega)], fd_wI_same (by omega) (by omega)⟩
/-- a number asked for: fault, its place, the value -/
def numT (b : Nat → Int) (E lo hi p : Nat) (gl : Bool) : Int × Int × Int :=
  if isDg (tB b E p) = true ∧ tG b E p gl = false then
    (if tD b E (tS b E p) ≤ tS b E p + 4 then
      (if (lo : Int) ≤ numF b (tD b E (tS b E p) - tS b E p) (tS b E p) 0 ∧ numF b (tD b E (tS b E p) - tS b E p) (tS b E p) 0 ≤ (hi : Int) then (0, 0, numF b (tD b E (tS b E p) - tS b E p) (tS b E p) 0) else (2, (tS b E p : Int), numF b (tD b E (tS b E p) - tS b E p) (tS b E p) 0))
    else (1, (tS b E p : Int) + 4, 0))
  else (1, (tS b E p : Int), 0)
set_option maxHeartbeats 8000000 in
theorem R_number {lo hi : Nat} (R : RS g b E p gl) (hlo : lo ≤ 10000) (hhi : hi ≤ 10000) : ∃ g', mm_M mm_T0 (d + 2) 200 [.ref 264, .int (iI (lo : Nat)), .int (iI (hi : Nat))] g = some (some (.int (iI (numT b E lo hi p gl).2.2)), g') ∧ Kf QTk nL g g' ∧ ((numT b E lo hi p gl).1 = 0 → RS g' b E (tD b E (tS b E p)) true ∧ fd g' 264 10 = (tS b E p : Int)) ∧ ((numT b E lo hi p gl).1 ≠ 0 → Bad g' (numT b E lo hi p gl).1 (numT b E lo hi p gl).2.1) := by
  have h5 := R.2.2.1
  have hE := R.1.2.1
  obtain ⟨g1, m1, R1, m2, m3⟩ := R_look (d := d) R
  have tb := tB_b (p := p) R1.1
  have idg := R_isDigit (d := d) (g := g1) tb.1 tb.2
  have at' := R1.at m2
  have le := tS_le (b := b) (E := E) R.2.1
  have f5 := R1.2.2.1
  have bad : ∃ g', mm_M mm_T0 (d + 1) 191 [.ref 264, .int (iI 1), .int (iI (tS b E p : Int))] g1 = some (none, g') ∧ Bad g' 1 (tS b E p) ∧ Kf QTk nL g1 g' := R_fail (d := d) (k := 1) (pl := (tS b E p : Int)) f5 (by omega) (by omega) (by omega) (by omega)
  unfold numT
  by_cases c1 : isDg (tB b E p) = true
  · rw [b2_t c1] at idg
    by_cases c2 : tG b E p gl = true
    · obtain ⟨g2, b1, b2', b3⟩ := bad
      have e := at'.mpr c2
      rw [if_neg (by rw [c2]; simp)]
      refine ⟨g2, ?_, m3.trans b3, fun z => absurd z (by simp), fun _ => b2'⟩
      rw [U_X12_number]
      rw [m2] at e
      have e' : fd g1 264 4 = (tS b E p : Int) := e.symm
      simp (disch := omega) only [iI_lit, jI_lit, iI_neg, jI_neg, iI_add, iI_sub, iI_mul, jI_add, jI_sub, jI_mul, rdI, rdL, iI_lt, iI_le, iI_eq, iI_nat, iI_b2_0, iI_b2_1, mm_bI_some, mm_bV_some, mm_bL_some, mm_bA_some, fd_wL, fd_wR, fl_wI, fl_wR, re_wI, re_wL, re_wC, ite_true, ite_false, not_true_eq_false, not_false_eq_true, lq_ge, lq_le, lq_gt, lq_lt, lq_eq, jI_lt, jI_le, jI_eq, if_pos, if_neg, h5, m1, idg, m2, e', b1]
    · have c2' : tG b E p gl = false := by
        cases hh : tG b E p gl
        · rfl
        · exact absurd hh c2
      have ne : ¬ fd g1 264 2 = fd g1 264 4 := fun z => c2 (at'.mp z)
      rw [m2] at ne
      have := fd_lo g1 264 4; have := fd_hi g1 264 4
      rw [if_pos ⟨c1, c2'⟩]
      have n49 := R_num_49 (d := d) (b := b) (E := E) (s := tS b E p) hlo hhi (E - tS b E p) (tS b E p) 0 g1 rfl (Nat.le_refl _) (by omega) le R1.1 f5 m2 (by omega) (by rw [Nat.sub_self]; decide)
      have stp : mm_M mm_T0 (d + 2) 200 [.ref 264, .int (iI (lo : Nat)), .int (iI (hi : Nat))] g = mm_D (mm_M mm_T0 (d + 1)) cd_X12_number 49 [.ref 264, .int (iI (lo : Nat)), .int (iI (hi : Nat)), .int (iI (tS b E p : Nat)), .int (iI 0)] [] g1 := by
        rw [U_X12_number]
        simp (disch := omega) only [iI_lit, jI_lit, iI_neg, jI_neg, iI_add, iI_sub, iI_mul, jI_add, jI_sub, jI_mul, rdI, rdL, iI_lt, iI_le, iI_eq, iI_nat, iI_b2_0, iI_b2_1, mm_bI_some, mm_bV_some, mm_bL_some, mm_bA_some, fd_wL, fd_wR, fl_wI, fl_wR, re_wI, re_wL, re_wC, ite_true, ite_false, not_true_eq_false, not_false_eq_true, lq_ge, lq_le, lq_gt, lq_lt, lq_eq, jI_lt, jI_le, jI_eq, if_pos, if_neg, h5, m1, idg, m2]
      rw [stp]
      by_cases c3 : tD b E (tS b E p) ≤ tS b E p + 4
      · rw [if_pos c3]
        obtain ⟨g', z1, z2, z3, z4, z5, z6⟩ := n49.1 c3
        have tle : tD b E (tS b E p) ≤ E := run_le le
        have ge := tS_ge (b := b) (E := E) (p := tD b E (tS b E p))
        by_cases c4 : (lo : Int) ≤ numF b (tD b E (tS b E p) - tS b E p) (tS b E p) 0 ∧ numF b (tD b E (tS b E p) - tS b E p) (tS b E p) 0 ≤ (hi : Int)
        · rw [if_pos c4] at z5 ⊢
          refine ⟨g', z1, m3.trans z6, fun _ => ⟨⟨R1.1.tk z6, tle, z5.1, by omega, by rw [if_pos rfl]; exact z3, z5.2.trans R1.2.2.2.2.2⟩, z4⟩, fun z => absurd rfl z⟩
        · rw [if_neg c4] at z5 ⊢
          exact ⟨g', z1, m3.trans z6, fun z => absurd z (by simp), fun _ => z5⟩
      · rw [if_neg c3]
        obtain ⟨g', z1, z2, z3⟩ := n49.2 (by omega)
        refine ⟨g', z1, m3.trans z3, fun z => absurd z (by simp), fun _ => ?_⟩
        rw [show ((tS b E p + 4 : Nat) : Int) = (tS b E p : Int) + 4 by omega] at z2
        exact z2
  · obtain ⟨g2, b1, b2', b3⟩ := bad
    rw [b2_f c1] at idg
    rw [if_neg (fun z => c1 z.1)]
    refine ⟨g2, ?_, m3.trans b3, fun z => absurd z (by simp), fun _ => b2'⟩
    rw [U_X12_number]
    simp (disch := omega) only [iI_lit, jI_lit, iI_neg, jI_neg, iI_add, iI_sub, iI_mul, jI_add, jI_sub, jI_mul, rdI, rdL, iI_lt, iI_le, iI_eq, iI_nat, iI_b2_0, iI_b2_1, mm_bI_some, mm_bV_some, mm_bL_some, mm_bA_some, fd_wL, fd_wR, fl_wI, fl_wR, re_wI, re_wL, re_wC, ite_true, ite_false, not_true_eq_false, not_false_eq_true, lq_ge, lq_le, lq_gt, lq_lt, lq_eq, jI_lt, jI_le, jI_eq, if_pos, if_neg, h5, m1, idg, m2, b1]
/-! once a fault is told nothing moves -/
theorem B_isHere {a : Nat} (ha : isW a) (h5 : fd g 264 5 ≠ 0) : mm_M mm_T0 (d + 1) 195 [.ref 264, .ref a] g = some (some (.int (iI 0)), g) := by
  have := fd_lo g 264 5; have := fd_hi g 264 5
  rw [U_X12_isHere (sh_word ha)]
  simp (disch := omega) only [iI_lit, jI_lit, iI_neg, jI_neg, iI_add, iI_sub, iI_mul, jI_add, jI_sub, jI_mul, rdI, rdL, iI_lt, iI_le, iI_eq, iI_nat, iI_b2_0, iI_b2_1, mm_bI_some, mm_bV_some, mm_bL_some, mm_bA_some, fd_wL, fd_wR, fl_wI, fl_wR, re_wI, re_wL, re_wC, ite_true, ite_false, not_true_eq_false, not_false_eq_true, lq_ge, lq_le, lq_gt, lq_lt, lq_eq, jI_lt, jI_le, jI_eq, if_pos, if_neg]
theorem B_takes {a : Nat} (ha : isW a) (h5 : fd g 264 5 ≠ 0) : mm_M mm_T0 (d + 2) 196 [.ref 264, .ref a] g = some (some (.int (iI 0)), g) := by
  rw [U_X12_takes (sh_word ha), B_isHere ha h5]
  simp (disch := omega) only [iI_lit, jI_lit, iI_neg, jI_neg, iI_add, iI_sub, iI_mul, jI_add, jI_sub, jI_mul, rdI, rdL, iI_lt, iI_le, iI_eq, iI_nat, iI_b2_0, iI_b2_1, mm_bI_some, mm_bV_some, mm_bL_some, mm_bA_some, fd_wL, fd_wR, fl_wI, fl_wR, re_wI, re_wL, re_wC, ite_true, ite_false, not_true_eq_false, not_false_eq_true, lq_ge, lq_le, lq_gt, lq_lt, lq_eq, jI_lt, jI_le, jI_eq, if_pos, if_neg]
theorem B_asks {a : Nat} (ha : isW a) (h5 : fd g 264 5 ≠ 0) : mm_M mm_T0 (d + 1) 197 [.ref 264, .ref a] g = some (none, g) := by
  have := fd_lo g 264 5; have := fd_hi g 264 5
  rw [U_X12_asks (sh_word ha)]
  simp (disch := omega) only [iI_lit, jI_lit, iI_neg, jI_neg, iI_add, iI_sub, iI_mul, jI_add, jI_sub, jI_mul, rdI, rdL, iI_lt, iI_le, iI_eq, iI_nat, iI_b2_0, iI_b2_1, mm_bI_some, mm_bV_some, mm_bL_some, mm_bA_some, fd_wL, fd_wR, fl_wI, fl_wR, re_wI, re_wL, re_wC, ite_true, ite_false, not_true_eq_false, not_false_eq_true, lq_ge, lq_le, lq_gt, lq_lt, lq_eq, jI_lt, jI_le, jI_eq, if_pos, if_neg]
theorem B_takesSign {x : Int32} (h5 : fd g 264 5 ≠ 0) : mm_M mm_T0 (d + 1) 198 [.ref 264, .int x] g = some (some (.int (iI 0)), g) := by
  have := fd_lo g 264 5; have := fd_hi g 264 5
  rw [U_X12_takesSign]
  simp (disch := omega) only [iI_lit, jI_lit, iI_neg, jI_neg, iI_add, iI_sub, iI_mul, jI_add, jI_sub, jI_mul, rdI, rdL, iI_lt, iI_le, iI_eq, iI_nat, iI_b2_0, iI_b2_1, mm_bI_some, mm_bV_some, mm_bL_some, mm_bA_some, fd_wL, fd_wR, fl_wI, fl_wR, re_wI, re_wL, re_wC, ite_true, ite_false, not_true_eq_false, not_false_eq_true, lq_ge, lq_le, lq_gt, lq_lt, lq_eq, jI_lt, jI_le, jI_eq, if_pos, if_neg]
theorem B_asksSign {x : Int32} (h5 : fd g 264 5 ≠ 0) : mm_M mm_T0 (d + 1) 199 [.ref 264, .int x] g = some (none, g) := by
  have := fd_lo g 264 5; have := fd_hi g 264 5
  rw [U_X12_asksSign]
  simp (disch := omega) only [iI_lit, jI_lit, iI_neg, jI_neg, iI_add, iI_sub, iI_mul, jI_add, jI_sub, jI_mul, rdI, rdL, iI_lt, iI_le, iI_eq, iI_nat, iI_b2_0, iI_b2_1, mm_bI_some, mm_bV_some, mm_bL_some, mm_bA_some, fd_wL, fd_wR, fl_wI, fl_wR, re_wI, re_wL, re_wC, ite_true, ite_false, not_true_eq_false, not_false_eq_true, lq_ge, lq_le, lq_gt, lq_lt, lq_eq, jI_lt, jI_le, jI_eq, if_pos, if_neg]
theorem B_number {x y : Int32} (h5 : fd g 264 5 ≠ 0) : mm_M mm_T0 (d + 1) 200 [.ref 264, .int x, .int y] g = some (some (.int (iI 0)), g) := by
  have := fd_lo g 264 5; have := fd_hi g 264 5
  rw [U_X12_number]
  simp (disch := omega) only [iI_lit, jI_lit, iI_neg, jI_neg, iI_add, iI_sub, iI_mul, jI_add, jI_sub, jI_mul, rdI, rdL, iI_lt, iI_le, iI_eq, iI_nat, iI_b2_0, iI_b2_1, mm_bI_some, mm_bV_some, mm_bL_some, mm_bA_some, fd_wL, fd_wR, fl_wI, fl_wR, re_wI, re_wL, re_wC, ite_true, ite_false, not_true_eq_false, not_false_eq_true, lq_ge, lq_le, lq_gt, lq_lt, lq_eq, jI_lt, jI_le, jI_eq, if_pos, if_neg]
theorem B_name (h5 : fd g 264 5 ≠ 0) : mm_M mm_T0 (d + 1) 202 [.ref 264] g = some (some (.long (jI 0)), g) := by
  have := fd_lo g 264 5; have := fd_hi g 264 5
  rw [U_X12_name]
  simp (disch := omega) only [iI_lit, jI_lit, iI_neg, jI_neg, iI_add, iI_sub, iI_mul, jI_add, jI_sub, jI_mul, rdI, rdL, iI_lt, iI_le, iI_eq, iI_nat, iI_b2_0, iI_b2_1, mm_bI_some, mm_bV_some, mm_bL_some, mm_bA_some, fd_wL, fd_wR, fl_wI, fl_wR, re_wI, re_wL, re_wC, ite_true, ite_false, not_true_eq_false, not_false_eq_true, lq_ge, lq_le, lq_gt, lq_lt, lq_eq, jI_lt, jI_le, jI_eq, if_pos, if_neg]
end RTAKE
