/-! the call ask -/
def QN : Nat → Nat → Prop := fun a k => a = 264 ∧ (k = 108 ∨ k = 110)
def LN : Nat → Nat → Prop := fun a k => a = 334 ∨ (a = 264 ∧ k = 109)
def QAll : Nat → Nat → Prop := fun a k => QAk a k ∨ QAz a k ∨ (a = 1 ∧ k = 1) ∨ (a = 264 ∧ (k = 7 ∨ k = 8 ∨ k = 108 ∨ k = 110))
def CallL (c r : Nat) (as : List Value) : Prop := ∀ (d : Nat) (h : mm_H) (i : Int), Inv h i → i + 6 ≤ 3072 → ∃ v h1 h2, mm_M mm_T0 (d + 40) c (.ref 0 :: as) h = some (some (.long v), h1) ∧ mm_M mm_T0 (d + 40) r (.ref 264 :: as) h1 = some (some (.long v), h2) ∧ Inv h2 (i + 6)
section ANS
variable {d : Nat} {h : mm_H} {pm hm : Int} {fc kd n : Int → Int} {c : List Int} {kind : Int}
theorem tk_w {y : Int} (y1 : -9223372036854775808 ≤ y) (y2 : y < 9223372036854775808) : fl (wI (wL h 264 109 (jI y)) 264 110 (iI 0)) 264 109 = y ∧ fd (wI (wL h 264 109 (jI y)) 264 110 (iI 0)) 264 110 = 0 ∧ Kf QN LN h (wI (wL h 264 109 (jI y)) 264 110 (iI 0)) := by
  refine ⟨?_, fd_wI_same (by omega) (by omega), Kf.wI (Kf.wL Kf.refl (by unfold LN; omega)) (by unfold QN; omega)⟩
  rw [fl_wI, fl_wL, if_pos ⟨rfl, rfl⟩, jI_to y1 y2]
theorem tk_0 : fl (wI h 264 110 (iI 0)) 264 109 = fl h 264 109 ∧ fd (wI h 264 110 (iI 0)) 264 110 = 0 ∧ Kf QN LN h (wI h 264 110 (iI 0)) := ⟨rfl, fd_wI_same (by omega) (by omega), Kf.refl.wI (by unfold QN; omega)⟩
set_option maxHeartbeats 8000000 in
theorem R_takesQ {a i v : Int} (e9 : fl h 264 109 = a) (e10 : fd h 264 110 = if i = 0 then 1 else 0) (k0 : 0 ≤ kind) (k5 : kind ≤ 5) (i0 : 0 ≤ i) (i8 : i < 8) (a1 : -100000000 ≤ a) (a2 : a ≤ 100000000) (v1 : -1000000 ≤ v) (v2 : v ≤ 1000000) (vt : kind ≤ 2 → v = 0 ∨ v = 1) : ∃ h', mm_M mm_T0 (d + 1) 312 [.ref 264, .int (iI kind), .long (jI v), .int (iI i)] h = some (none, h') ∧ fl h' 264 109 = qJ kind a i v ∧ fd h' 264 110 = 0 ∧ Kf QN LN h h' := by
  have kk : kind = 0 ∨ kind = 1 ∨ kind = 2 ∨ kind = 3 ∨ kind = 4 ∨ kind = 5 := by omega
  have T0 := tk_0 (h := h)
  rw [e9] at T0
  rcases kk with z | z | z | z | z | z <;> subst z
  · clear vt
    by_cases c2 : v = 1
    · by_cases c1 : a = -1
      · rw [qJ0t c1 c2]
        refine ⟨wI (wL h 264 109 (jI (i))) 264 110 (iI 0), ?_, tk_w (by omega) (by omega)⟩
        rw [U_X12_qTakes]
        simp (disch := omega) only [iI_lit, jI_lit, iI_neg, jI_neg, iI_add, iI_sub, iI_mul, jI_add, jI_sub, jI_mul, rdI, rdL, iI_lt, iI_le, iI_eq, iI_nat, iI_b2_0, iI_b2_1, mm_bI_some, mm_bV_some, mm_bL_some, mm_bA_some, fd_wL, fd_wR, fl_wI, fl_wR, re_wI, re_wL, re_wC, ite_true, ite_false, not_true_eq_false, not_false_eq_true, lq_ge, lq_le, lq_gt, lq_lt, lq_eq, jI_lt, jI_le, jI_eq, if_pos, if_neg, e9, iI_jI, U_X12_qTakes_15, U_X12_qTakes_38, U_X12_qTakes_48, U_X12_qTakes_55, U_X12_qTakes_75, U_X12_qTakes_90, U_X12_qTakes_133]
      · rw [qJ0f (fun q => c1 q.1)]
        refine ⟨wI h 264 110 (iI 0), ?_, T0⟩
        rw [U_X12_qTakes]
        simp (disch := omega) only [iI_lit, jI_lit, iI_neg, jI_neg, iI_add, iI_sub, iI_mul, jI_add, jI_sub, jI_mul, rdI, rdL, iI_lt, iI_le, iI_eq, iI_nat, iI_b2_0, iI_b2_1, mm_bI_some, mm_bV_some, mm_bL_some, mm_bA_some, fd_wL, fd_wR, fl_wI, fl_wR, re_wI, re_wL, re_wC, ite_true, ite_false, not_true_eq_false, not_false_eq_true, lq_ge, lq_le, lq_gt, lq_lt, lq_eq, jI_lt, jI_le, jI_eq, if_pos, if_neg, e9, iI_jI, U_X12_qTakes_15, U_X12_qTakes_38, U_X12_qTakes_48, U_X12_qTakes_55, U_X12_qTakes_75, U_X12_qTakes_90, U_X12_qTakes_133]
    · rw [qJ0f (fun q => c2 q.2)]
      refine ⟨wI h 264 110 (iI 0), ?_, T0⟩
      rw [U_X12_qTakes]
      simp (disch := omega) only [iI_lit, jI_lit, iI_neg, jI_neg, iI_add, iI_sub, iI_mul, jI_add, jI_sub, jI_mul, rdI, rdL, iI_lt, iI_le, iI_eq, iI_nat, iI_b2_0, iI_b2_1, mm_bI_some, mm_bV_some, mm_bL_some, mm_bA_some, fd_wL, fd_wR, fl_wI, fl_wR, re_wI, re_wL, re_wC, ite_true, ite_false, not_true_eq_false, not_false_eq_true, lq_ge, lq_le, lq_gt, lq_lt, lq_eq, jI_lt, jI_le, jI_eq, if_pos, if_neg, e9, iI_jI, U_X12_qTakes_15, U_X12_qTakes_38, U_X12_qTakes_48, U_X12_qTakes_55, U_X12_qTakes_75, U_X12_qTakes_90, U_X12_qTakes_133]
  · clear vt
    by_cases c2 : v = 1
    · rw [qJ1t c2]
      refine ⟨wI (wL h 264 109 (jI (i))) 264 110 (iI 0), ?_, tk_w (by omega) (by omega)⟩
      rw [U_X12_qTakes]
      simp (disch := omega) only [iI_lit, jI_lit, iI_neg, jI_neg, iI_add, iI_sub, iI_mul, jI_add, jI_sub, jI_mul, rdI, rdL, iI_lt, iI_le, iI_eq, iI_nat, iI_b2_0, iI_b2_1, mm_bI_some, mm_bV_some, mm_bL_some, mm_bA_some, fd_wL, fd_wR, fl_wI, fl_wR, re_wI, re_wL, re_wC, ite_true, ite_false, not_true_eq_false, not_false_eq_true, lq_ge, lq_le, lq_gt, lq_lt, lq_eq, jI_lt, jI_le, jI_eq, if_pos, if_neg, e9, iI_jI, U_X12_qTakes_15, U_X12_qTakes_38, U_X12_qTakes_48, U_X12_qTakes_55, U_X12_qTakes_75, U_X12_qTakes_90, U_X12_qTakes_133]
    · rw [qJ1f c2]
      refine ⟨wI h 264 110 (iI 0), ?_, T0⟩
      rw [U_X12_qTakes]
      simp (disch := omega) only [iI_lit, jI_lit, iI_neg, jI_neg, iI_add, iI_sub, iI_mul, jI_add, jI_sub, jI_mul, rdI, rdL, iI_lt, iI_le, iI_eq, iI_nat, iI_b2_0, iI_b2_1, mm_bI_some, mm_bV_some, mm_bL_some, mm_bA_some, fd_wL, fd_wR, fl_wI, fl_wR, re_wI, re_wL, re_wC, ite_true, ite_false, not_true_eq_false, not_false_eq_true, lq_ge, lq_le, lq_gt, lq_lt, lq_eq, jI_lt, jI_le, jI_eq, if_pos, if_neg, e9, iI_jI, U_X12_qTakes_15, U_X12_qTakes_38, U_X12_qTakes_48, U_X12_qTakes_55, U_X12_qTakes_75, U_X12_qTakes_90, U_X12_qTakes_133]
  · rw [qJ2]
    rcases vt (by decide) with z | z
    · clear vt
      rw [z, Int.add_zero]
      refine ⟨wI h 264 110 (iI 0), ?_, T0⟩
      rw [U_X12_qTakes]
      simp (disch := omega) only [iI_lit, jI_lit, iI_neg, jI_neg, iI_add, iI_sub, iI_mul, jI_add, jI_sub, jI_mul, rdI, rdL, iI_lt, iI_le, iI_eq, iI_nat, iI_b2_0, iI_b2_1, mm_bI_some, mm_bV_some, mm_bL_some, mm_bA_some, fd_wL, fd_wR, fl_wI, fl_wR, re_wI, re_wL, re_wC, ite_true, ite_false, not_true_eq_false, not_false_eq_true, lq_ge, lq_le, lq_gt, lq_lt, lq_eq, jI_lt, jI_le, jI_eq, if_pos, if_neg, e9, iI_jI, U_X12_qTakes_15, U_X12_qTakes_38, U_X12_qTakes_48, U_X12_qTakes_55, U_X12_qTakes_75, U_X12_qTakes_90, U_X12_qTakes_133]
    · clear vt
      rw [z]
      refine ⟨wI (wL h 264 109 (jI (a + 1))) 264 110 (iI 0), ?_, tk_w (by omega) (by omega)⟩
      rw [U_X12_qTakes]
      simp (disch := omega) only [iI_lit, jI_lit, iI_neg, jI_neg, iI_add, iI_sub, iI_mul, jI_add, jI_sub, jI_mul, rdI, rdL, iI_lt, iI_le, iI_eq, iI_nat, iI_b2_0, iI_b2_1, mm_bI_some, mm_bV_some, mm_bL_some, mm_bA_some, fd_wL, fd_wR, fl_wI, fl_wR, re_wI, re_wL, re_wC, ite_true, ite_false, not_true_eq_false, not_false_eq_true, lq_ge, lq_le, lq_gt, lq_lt, lq_eq, jI_lt, jI_le, jI_eq, if_pos, if_neg, e9, iI_jI, U_X12_qTakes_15, U_X12_qTakes_38, U_X12_qTakes_48, U_X12_qTakes_55, U_X12_qTakes_75, U_X12_qTakes_90, U_X12_qTakes_133]
  · clear vt
    rw [qJ3]
    refine ⟨wI (wL h 264 109 (jI (a + v))) 264 110 (iI 0), ?_, tk_w (by omega) (by omega)⟩
    rw [U_X12_qTakes]
    simp (disch := omega) only [iI_lit, jI_lit, iI_neg, jI_neg, iI_add, iI_sub, iI_mul, jI_add, jI_sub, jI_mul, rdI, rdL, iI_lt, iI_le, iI_eq, iI_nat, iI_b2_0, iI_b2_1, mm_bI_some, mm_bV_some, mm_bL_some, mm_bA_some, fd_wL, fd_wR, fl_wI, fl_wR, re_wI, re_wL, re_wC, ite_true, ite_false, not_true_eq_false, not_false_eq_true, lq_ge, lq_le, lq_gt, lq_lt, lq_eq, jI_lt, jI_le, jI_eq, if_pos, if_neg, e9, iI_jI, U_X12_qTakes_15, U_X12_qTakes_38, U_X12_qTakes_48, U_X12_qTakes_55, U_X12_qTakes_75, U_X12_qTakes_90, U_X12_qTakes_133]
  · clear vt
    by_cases c0 : i = 0
    · rw [if_pos c0] at e10
      rw [qJ4z c0]
      refine ⟨wI (wL h 264 109 (jI (v))) 264 110 (iI 0), ?_, tk_w (by omega) (by omega)⟩
      rw [U_X12_qTakes]
      simp (disch := omega) only [iI_lit, jI_lit, iI_neg, jI_neg, iI_add, iI_sub, iI_mul, jI_add, jI_sub, jI_mul, rdI, rdL, iI_lt, iI_le, iI_eq, iI_nat, iI_b2_0, iI_b2_1, mm_bI_some, mm_bV_some, mm_bL_some, mm_bA_some, fd_wL, fd_wR, fl_wI, fl_wR, re_wI, re_wL, re_wC, ite_true, ite_false, not_true_eq_false, not_false_eq_true, lq_ge, lq_le, lq_gt, lq_lt, lq_eq, jI_lt, jI_le, jI_eq, if_pos, if_neg, e9, e10, iI_jI, U_X12_qTakes_15, U_X12_qTakes_38, U_X12_qTakes_55, U_X12_qTakes_75, U_X12_qTakes_90, U_X12_qTakes_128, U_X12_qTakes_133]
    · rw [if_neg c0] at e10
      rw [qJ4 c0]
      by_cases c1 : v ≤ a
      · rw [show max a v = a by omega]
        refine ⟨wI h 264 110 (iI 0), ?_, T0⟩
        rw [U_X12_qTakes]
        simp (disch := omega) only [iI_lit, jI_lit, iI_neg, jI_neg, iI_add, iI_sub, iI_mul, jI_add, jI_sub, jI_mul, rdI, rdL, iI_lt, iI_le, iI_eq, iI_nat, iI_b2_0, iI_b2_1, mm_bI_some, mm_bV_some, mm_bL_some, mm_bA_some, fd_wL, fd_wR, fl_wI, fl_wR, re_wI, re_wL, re_wC, ite_true, ite_false, not_true_eq_false, not_false_eq_true, lq_ge, lq_le, lq_gt, lq_lt, lq_eq, jI_lt, jI_le, jI_eq, if_pos, if_neg, e9, e10, iI_jI, U_X12_qTakes_15, U_X12_qTakes_38, U_X12_qTakes_55, U_X12_qTakes_75, U_X12_qTakes_90, U_X12_qTakes_128, U_X12_qTakes_133]
      · rw [show max a v = v by omega]
        refine ⟨wI (wL h 264 109 (jI (v))) 264 110 (iI 0), ?_, tk_w (by omega) (by omega)⟩
        rw [U_X12_qTakes]
        simp (disch := omega) only [iI_lit, jI_lit, iI_neg, jI_neg, iI_add, iI_sub, iI_mul, jI_add, jI_sub, jI_mul, rdI, rdL, iI_lt, iI_le, iI_eq, iI_nat, iI_b2_0, iI_b2_1, mm_bI_some, mm_bV_some, mm_bL_some, mm_bA_some, fd_wL, fd_wR, fl_wI, fl_wR, re_wI, re_wL, re_wC, ite_true, ite_false, not_true_eq_false, not_false_eq_true, lq_ge, lq_le, lq_gt, lq_lt, lq_eq, jI_lt, jI_le, jI_eq, if_pos, if_neg, e9, e10, iI_jI, U_X12_qTakes_15, U_X12_qTakes_38, U_X12_qTakes_55, U_X12_qTakes_75, U_X12_qTakes_90, U_X12_qTakes_128, U_X12_qTakes_133]
  · clear vt
    by_cases c0 : i = 0
    · rw [if_pos c0] at e10
      rw [qJ5z c0]
      refine ⟨wI (wL h 264 109 (jI (v))) 264 110 (iI 0), ?_, tk_w (by omega) (by omega)⟩
      rw [U_X12_qTakes]
      simp (disch := omega) only [iI_lit, jI_lit, iI_neg, jI_neg, iI_add, iI_sub, iI_mul, jI_add, jI_sub, jI_mul, rdI, rdL, iI_lt, iI_le, iI_eq, iI_nat, iI_b2_0, iI_b2_1, mm_bI_some, mm_bV_some, mm_bL_some, mm_bA_some, fd_wL, fd_wR, fl_wI, fl_wR, re_wI, re_wL, re_wC, ite_true, ite_false, not_true_eq_false, not_false_eq_true, lq_ge, lq_le, lq_gt, lq_lt, lq_eq, jI_lt, jI_le, jI_eq, if_pos, if_neg, e9, e10, iI_jI, U_X12_qTakes_15, U_X12_qTakes_38, U_X12_qTakes_55, U_X12_qTakes_75, U_X12_qTakes_90, U_X12_qTakes_128, U_X12_qTakes_133]
    · rw [if_neg c0] at e10
      rw [qJ5 c0]
      by_cases c1 : a ≤ v
      · rw [show min a v = a by omega]
        refine ⟨wI h 264 110 (iI 0), ?_, T0⟩
        rw [U_X12_qTakes]
        simp (disch := omega) only [iI_lit, jI_lit, iI_neg, jI_neg, iI_add, iI_sub, iI_mul, jI_add, jI_sub, jI_mul, rdI, rdL, iI_lt, iI_le, iI_eq, iI_nat, iI_b2_0, iI_b2_1, mm_bI_some, mm_bV_some, mm_bL_some, mm_bA_some, fd_wL, fd_wR, fl_wI, fl_wR, re_wI, re_wL, re_wC, ite_true, ite_false, not_true_eq_false, not_false_eq_true, lq_ge, lq_le, lq_gt, lq_lt, lq_eq, jI_lt, jI_le, jI_eq, if_pos, if_neg, e9, e10, iI_jI, U_X12_qTakes_15, U_X12_qTakes_38, U_X12_qTakes_55, U_X12_qTakes_75, U_X12_qTakes_90, U_X12_qTakes_128, U_X12_qTakes_133]
      · rw [show min a v = v by omega]
        refine ⟨wI (wL h 264 109 (jI (v))) 264 110 (iI 0), ?_, tk_w (by omega) (by omega)⟩
        rw [U_X12_qTakes]
        simp (disch := omega) only [iI_lit, jI_lit, iI_neg, jI_neg, iI_add, iI_sub, iI_mul, jI_add, jI_sub, jI_mul, rdI, rdL, iI_lt, iI_le, iI_eq, iI_nat, iI_b2_0, iI_b2_1, mm_bI_some, mm_bV_some, mm_bL_some, mm_bA_some, fd_wL, fd_wR, fl_wI, fl_wR, re_wI, re_wL, re_wC, ite_true, ite_false, not_true_eq_false, not_false_eq_true, lq_ge, lq_le, lq_gt, lq_lt, lq_eq, jI_lt, jI_le, jI_eq, if_pos, if_neg, e9, e10, iI_jI, U_X12_qTakes_15, U_X12_qTakes_38, U_X12_qTakes_55, U_X12_qTakes_75, U_X12_qTakes_90, U_X12_qTakes_128, U_X12_qTakes_133]
set_option maxHeartbeats 8000000 in
theorem R_ask_188 (NN : NI pm hm n) (FF : FK pm fc kd) (y0 : 0 ≤ n 0 ∧ n 0 ≤ 999) (k0 : 0 ≤ kind) (k5 : kind ≤ 5) (hl : c.length ≤ 1600) (hT : tyL (alw 3) c [] = some [decide (kind ≤ 2)]) : ∀ (k : Nat) (i a : Int) (h : mm_H), 0 ≤ i → i + k = pm → (fd h 264 54 = 3 ∧ fd h 264 40 = pm ∧ fd h 264 102 = (c.length : Nat) ∧ CdQ h 0 c ∧ RepR h n ∧ RepF h pm fc kd) → fl h 264 109 = a → fd h 264 110 = (if i = 0 then 1 else 0) → -1 - 1000000 * i ≤ a → a ≤ 8 + 1000000 * i → ∃ h', mm_D (mm_M mm_T0 (d + 5)) cd_X12_ask 188 [.ref 264, .int (iI kind), .int (iI i)] [] h = some (some (.long (jI (qF kind (fun j => evv (Gq fc kd n j) (Oq n pm j) c) k i a))), h') ∧ Kf QN LN h h'
  | 0, i, a, h, i0, ik, F, e9, e10, a1, a2 => by
    have h8 := NN.1
    have e40 := F.2.1
    refine ⟨h, ?_, Kf.refl⟩
    rw [U_X12_ask_188, qF]
    simp (disch := omega) only [iI_lit, jI_lit, iI_neg, jI_neg, iI_add, iI_sub, iI_mul, jI_add, jI_sub, jI_mul, rdI, rdL, iI_lt, iI_le, iI_eq, iI_nat, iI_b2_0, iI_b2_1, mm_bI_some, mm_bV_some, mm_bL_some, mm_bA_some, fd_wL, fd_wR, fl_wI, fl_wR, re_wI, re_wL, re_wC, ite_true, ite_false, not_true_eq_false, not_false_eq_true, lq_ge, lq_le, lq_gt, lq_lt, lq_eq, jI_lt, jI_le, jI_eq, if_pos, if_neg, e40, e9]
  | k + 1, i, a, h, i0, ik, F, e9, e10, a1, a2 => by
    have h8 := NN.1
    have i1 : i < pm := by omega
    obtain ⟨f54, f40, f102, fQ, fR, fF⟩ := F
    obtain ⟨g1, m1, k1⟩ := R_worth (d := d) (i := i) f54 f40 f102 fQ hl hT fR fF NN FF y0 i0 i1
    have vb := evv_b (Gq_b NN FF y0 i0 i1) (Oq_b NN i0 i1) hT
    have v1 := vb.1
    have v2 := vb.2.1
    have vt : kind ≤ 2 → evv (Gq fc kd n i) (Oq n pm i) c = 0 ∨ evv (Gq fc kd n i) (Oq n pm i) c = 1 := fun q => vb.2.2 (decide_eq_true q)
    rw [qF]
    generalize evv (Gq fc kd n i) (Oq n pm i) c = v at *
    clear vb
    have jb := qJ_b (kind := kind) i0 (by omega) a1 a2 v1 v2
    have e9' : fl g1 264 109 = a := (k1.2.1 _ _ (by unfold LE3; omega)).trans e9
    have e10' : fd g1 264 110 = if i = 0 then 1 else 0 := (k1.1 _ _ (by unfold QE; omega)).trans e10
    obtain ⟨g2, n1, n2, n3, k2⟩ := R_takesQ (d := d + 4) e9' e10' k0 k5 i0 (by omega) (by omega) (by omega) v1 v2 vt
    have K2 : Kf QN LN h g2 := (k1.mono (fun a j q => by unfold QE at q; unfold QN; omega) (fun a j q => by unfold LE3 at q; unfold LN; omega)).trans k2
    have F2 : fd g2 264 54 = 3 ∧ fd g2 264 40 = pm ∧ fd g2 264 102 = (c.length : Nat) ∧ CdQ g2 0 c ∧ RepR g2 n ∧ RepF g2 pm fc kd := ⟨(K2.1 _ _ (by unfold QN; omega)).trans f54, (K2.1 _ _ (by unfold QN; omega)).trans f40, (K2.1 _ _ (by unfold QN; omega)).trans f102, fQ.congr (fun j => K2.1 _ _ (by unfold QN; omega)), fun z z1 z2 => (K2.1 300 _ (by unfold QN; omega)).trans (fR z z1 z2), fun p p1 p2 => ⟨(K2.1 294 _ (by unfold QN; omega)).trans (fF p p1 p2).1, (K2.1 295 _ (by unfold QN; omega)).trans (fF p p1 p2).2⟩⟩
    obtain ⟨g3, o1, K3⟩ := R_ask_188 NN FF y0 k0 k5 hl hT k (i + 1) (qJ kind a i v) g2 (by omega) (by omega) F2 n2 (by rw [n3, if_neg (by omega)]) jb.1 jb.2
    refine ⟨g3, ?_, K2.trans K3⟩
    clear vt F2 fR fF fQ
    rw [← o1, U_X12_ask_188]
    simp (disch := omega) only [iI_lit, jI_lit, iI_neg, jI_neg, iI_add, iI_sub, iI_mul, jI_add, jI_sub, jI_mul, rdI, rdL, iI_lt, iI_le, iI_eq, iI_nat, iI_b2_0, iI_b2_1, mm_bI_some, mm_bV_some, mm_bL_some, mm_bA_some, fd_wL, fd_wR, fl_wI, fl_wR, re_wI, re_wL, re_wC, ite_true, ite_false, not_true_eq_false, not_false_eq_true, lq_ge, lq_le, lq_gt, lq_lt, lq_eq, jI_lt, jI_le, jI_eq, if_pos, if_neg, f40, m1, n1]
theorem kA_bad {v : Int32} {k pl : Int} {g : mm_H} (B : Bad g k pl) (hk : k ≠ 0) : kA d v g = some (some (.long (-1000000000000000)), wI (wI g 264 7 (iI k)) 264 8 (iI pl)) := by
  have r5 := rdE B.1
  have r6 : (wI g 264 7 (iI k)).1 264 6 = iI pl := rdE ((fd_wI_col (by omega)).trans B.2)
  have x5 : fd (wI (wI g 264 7 (iI k)) 264 8 (iI pl)) 264 5 ≠ 0 := by
    rw [fd_wI_col (by omega), fd_wI_col (by omega), B.1]
    exact hk
  unfold kA
  rw [r5, r6, if_neg (bad_1 x5)]
theorem kA_ok {g : mm_H} (k0 : 0 ≤ kind) (k5 : kind ≤ 5) (c5 : fd g 264 5 = 0) (c6 : fd g 264 6 = -1) : kA d (iI kind) g = mm_D (mm_M mm_T0 d) cd_X12_ask 188 [.ref 264, .int (iI kind), .int (iI 0)] [] (wI (wI (wL (wI (wI g 264 7 (iI 0)) 264 8 (iI (-1))) 264 109 (jI (if kind < 2 then -1 else 0))) 264 110 (iI 1)) 264 54 (iI 3)) := by
  have r5 := rdE c5
  have r6 : (wI g 264 7 (iI 0)).1 264 6 = iI (-1) := rdE ((fd_wI_col (by omega)).trans c6)
  have x5 : fd (wI (wI g 264 7 (iI 0)) 264 8 (iI (-1))) 264 5 = 0 := by
    rw [fd_wI_col (by omega), fd_wI_col (by omega)]
    exact c5
  unfold kA
  rw [r5, r6, if_pos (bad_0 x5)]
  by_cases ck : kind < 2
  · have t : ¬ (2 : Int32) ≤ iI kind := by
      rw [show (2 : Int32) = iI 2 from rfl, iI_le (by omega) (by omega) (by omega) (by omega)]
      omega
    rw [if_neg t, if_pos ck]
    simp only [iI_lit, jI_lit, jI_neg]
  · have t : (2 : Int32) ≤ iI kind := by
      rw [show (2 : Int32) = iI 2 from rfl, iI_le (by omega) (by omega) (by omega) (by omega)]
      omega
    rw [if_pos t, if_neg ck]
    simp only [iI_lit, jI_lit]
set_option maxHeartbeats 8000000 in
theorem Inv.ask {h2 : mm_H} {i : Int} {t : Nat} {s0 : Int} {cp cm cf : List Int} {ev : Evs} {past : Past} (M : IvM h) (W : IvW h i t s0 pm hm fc kd cp cm cf n ev) (H : IvH h i pm hm fc kd past) (S : IvS h pm) (P : IvP h) (N : IvN h t pm) (k : ∀ a k, ¬ QAll a k → fd h2 a k = fd h a k) (l : ∀ a k, a ≠ 334 → ¬ (a = 264 ∧ k = 109) → fl h2 a k = fl h a k) (e1 : fd h2 1 1 = 0) (e2 : fd h2 264 1 = 0) (e3 : fd h2 3 5 = fd h2 264 7) (e4 : fd h2 3 6 = fd h2 264 8) (r : ∀ j, h2.2.2 0 j = h.2.2 0 j) (hi : i + 6 ≤ 3072) : Inv h2 (i + 6) := by
  have tt := isT_or W.1.1
  refine Inv.txt ?_ W H S P N (fun a j q => k a j ?_) (fun a j q => ?_) (r 10) (r 11) hi
  · obtain ⟨m1, m2, m3, m4, m5, m6, m7⟩ := M
    refine ⟨by omega, by omega, fun j hj => by omega, ⟨e3, e4⟩, fun j hj => ?_, ?_, ?_⟩
    · rw [k 229 j (by unfold QAll QAk QAz QQ; omega), k 266 j (by unfold QAll QAk QAz QQ; omega)]
      exact m5 j hj
    · rw [k 0 13 (by unfold QAll QAk QAz QQ; omega), l 264 75 (by omega) (by omega)]
      exact m6
    · rw [l 264 75 (by omega) (by omega)]
      exact m7
  · have q' := Classical.not_not.mp q
    clear q
    unfold NW NC NR NH NS NP Nnm at q'
    unfold QAll QAk QAz QQ
    omega
  · unfold LMc at q
    exact l a j (by omega) (by omega)
end ANS
