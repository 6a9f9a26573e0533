/-! letter -/
/-- a name's number, its letters from the last on -/
def rv : List Int → Int
  | [] => 0
  | x :: r => 27 * rv r + x
theorem rv_rev : ∀ (w : List Int), w.foldl (fun a x => 27 * a + x) 0 = rv w.reverse := by
  intro w
  have key : ∀ (r : List Int), r.reverse.foldl (fun a x => 27 * a + x) 0 = rv r := by
    intro r
    induction r with
    | nil => rfl
    | cons x r ih =>
      rw [List.reverse_cons, List.foldl_append, ih]
      rfl
  have := key w.reverse
  rw [List.reverse_reverse] at this
  exact this
theorem rv_b : ∀ (r : List Int), (∀ x ∈ r, 1 ≤ x ∧ x ≤ 26) → 0 ≤ rv r ∧ rv r < 27 ^ r.length ∧ (r ≠ [] → 0 < rv r)
  | [], _ => ⟨by decide, by decide, fun h => absurd rfl h⟩
  | x :: r, h => by
    have ih := rv_b r (fun y hy => h y (List.mem_cons_of_mem _ hy))
    have hx := h x (List.mem_cons_self)
    rw [rv, List.length_cons, Int.pow_succ]
    refine ⟨by omega, by omega, fun _ => by omega⟩
theorem p27 {k : Nat} (h : k ≤ 6) : (27 : Int) ^ k ≤ 387420489 := by
  have : ∀ k, k ≤ 6 → (27 : Int) ^ k ≤ 387420489 := by decide
  exact this k h
section LETTER
variable {d : Nat} {h : mm_H} {k : Int}
set_option maxHeartbeats 8000000 in
theorem R_let_39 {v : Int64} (k0 : 0 ≤ k) (k1 : k < 6) : ∀ (r : List Int) (c : Int), (∀ x ∈ r, 1 ≤ x ∧ x ≤ 26) → r.length ≤ 6 → (0 ≤ c ∧ c + r.length ≤ 6) → mm_D (mm_M mm_T0 d) cd_X12_letter 39 [.null, .null, .int (iI k), .long v, .null, .int (iI c), .long (jI (rv r)), .null] [] h = if k < c + r.length then mm_D (mm_M mm_T0 d) cd_X12_letter 74 [.null, .null, .int (iI k), .long v, .null, .null, .int (iI (c + r.length - 1)), .null] [] h else some (some (.int (iI 0)), h)
  | [], c, hx, hl, hc => by
    rw [List.length_nil] at hc
    rw [rv, List.length_nil]
    by_cases z : k < c
    · rw [if_pos (show k < c + ((0 : Nat) : Int) by omega), show c + ((0 : Nat) : Int) - 1 = c - 1 by omega, U_X12_letter_39]
      simp (disch := omega) only [iI_lit, jI_lit, iI_neg, jI_neg, iI_add, iI_sub, iI_mul, jI_add, jI_sub, jI_mul, rdI, rdL, iI_lt, iI_le, iI_eq, iI_nat, iI_b2_0, iI_b2_1, mm_bI_some, mm_bV_some, mm_bL_some, mm_bA_some, fd_wL, fd_wR, fl_wI, fl_wR, re_wI, re_wL, re_wC, ite_true, ite_false, not_true_eq_false, not_false_eq_true, lq_ge, lq_le, lq_gt, lq_lt, lq_eq, jI_lt, jI_le, jI_eq, if_pos, if_neg]
    · rw [if_neg (show ¬ k < c + ((0 : Nat) : Int) by omega), U_X12_letter_39]
      simp (disch := omega) only [iI_lit, jI_lit, iI_neg, jI_neg, iI_add, iI_sub, iI_mul, jI_add, jI_sub, jI_mul, rdI, rdL, iI_lt, iI_le, iI_eq, iI_nat, iI_b2_0, iI_b2_1, mm_bI_some, mm_bV_some, mm_bL_some, mm_bA_some, fd_wL, fd_wR, fl_wI, fl_wR, re_wI, re_wL, re_wC, ite_true, ite_false, not_true_eq_false, not_false_eq_true, lq_ge, lq_le, lq_gt, lq_lt, lq_eq, jI_lt, jI_le, jI_eq, if_pos, if_neg]
  | x :: r, c, hx, hl, hc => by
    have hr : ∀ y ∈ r, 1 ≤ y ∧ y ≤ 26 := fun y hy => hx y (List.mem_cons_of_mem _ hy)
    have b := rv_b (x :: r) hx
    have b2' := rv_b r hr
    have p6 := p27 (k := (x :: r).length) hl
    have xx := hx x (List.mem_cons_self)
    have pos := b.2.2 (by simp)
    rw [List.length_cons] at hl hc
    have dv : (rv (x :: r)).tdiv 27 = rv r := by
      rw [Int.tdiv_eq_ediv_of_nonneg b.1, rv]
      omega
    have ih := R_let_39 (v := v) k0 k1 r (c + 1) hr (by omega) (by omega)
    rw [show c + 1 + (r.length : Int) = c + ((x :: r).length : Int) by rw [List.length_cons]; omega] at ih
    rw [U_X12_letter_39, ← ih]
    simp (disch := omega) only [iI_lit, jI_lit, iI_neg, jI_neg, iI_add, iI_sub, iI_mul, jI_add, jI_sub, jI_mul, rdI, rdL, iI_lt, iI_le, iI_eq, iI_nat, iI_b2_0, iI_b2_1, mm_bI_some, mm_bV_some, mm_bL_some, mm_bA_some, fd_wL, fd_wR, fl_wI, fl_wR, re_wI, re_wL, re_wC, ite_true, ite_false, not_true_eq_false, not_false_eq_true, lq_ge, lq_le, lq_gt, lq_lt, lq_eq, jI_lt, jI_le, jI_eq, if_pos, if_neg, jI_div, dv]
set_option maxHeartbeats 8000000 in
theorem R_let_74 (k0 : 0 ≤ k) : ∀ (r : List Int), (∀ x ∈ r, 1 ≤ x ∧ x ≤ 26) → r.length ≤ 6 → k < r.length → mm_D (mm_M mm_T0 d) cd_X12_letter 74 [.null, .null, .int (iI k), .long (jI (rv r)), .null, .null, .int (iI ((r.length : Int) - 1)), .null] [] h = some (some (.int (iI (r.reverse.getD k.toNat 0))), h)
  | [], hx, hl, hk => by
    rw [List.length_nil] at hk
    omega
  | x :: r, hx, hl, hk => by
    have hr : ∀ y ∈ r, 1 ≤ y ∧ y ≤ 26 := fun y hy => hx y (List.mem_cons_of_mem _ hy)
    have b := rv_b (x :: r) hx
    have b2' := rv_b r hr
    have p6 := p27 (k := (x :: r).length) hl
    have xx := hx x (List.mem_cons_self)
    have dv : (rv (x :: r)).tdiv 27 = rv r := by
      rw [Int.tdiv_eq_ediv_of_nonneg b.1, rv]
      omega
    have md : rv (x :: r) - rv r * 27 = x := by
      rw [rv]
      omega
    have el : ((x :: r).length : Int) - 1 = r.length := by rw [List.length_cons]; omega
    rw [List.length_cons] at hl hk
    rw [U_X12_letter_74, el, List.reverse_cons]
    by_cases c : k = r.length
    · have e1 : (r.reverse ++ [x]).getD k.toNat 0 = x := by
        rw [List.getD_eq_getElem?_getD, List.getElem?_append_right (by rw [List.length_reverse]; omega), List.length_reverse, show k.toNat - r.length = 0 by omega]
        rfl
      rw [e1]
      simp (disch := omega) only [iI_lit, jI_lit, iI_neg, jI_neg, iI_add, iI_sub, iI_mul, jI_add, jI_sub, jI_mul, rdI, rdL, iI_lt, iI_le, iI_eq, iI_nat, iI_b2_0, iI_b2_1, mm_bI_some, mm_bV_some, mm_bL_some, mm_bA_some, fd_wL, fd_wR, fl_wI, fl_wR, re_wI, re_wL, re_wC, ite_true, ite_false, not_true_eq_false, not_false_eq_true, lq_ge, lq_le, lq_gt, lq_lt, lq_eq, jI_lt, jI_le, jI_eq, if_pos, if_neg, jI_div, dv, md, jI_iI]
    · have e1 : (r.reverse ++ [x]).getD k.toNat 0 = r.reverse.getD k.toNat 0 := by
        rw [List.getD_eq_getElem?_getD, List.getElem?_append_left (by rw [List.length_reverse]; omega), ← List.getD_eq_getElem?_getD]
      have ea : ((r.length : Int)) + -1 = (r.length : Int) - 1 := by omega
      rw [e1, ← R_let_74 k0 r hr (by omega) (by omega)]
      simp (disch := omega) only [iI_lit, jI_lit, iI_neg, jI_neg, iI_add, iI_sub, iI_mul, jI_add, jI_sub, jI_mul, rdI, rdL, iI_lt, iI_le, iI_eq, iI_nat, iI_b2_0, iI_b2_1, mm_bI_some, mm_bV_some, mm_bL_some, mm_bA_some, fd_wL, fd_wR, fl_wI, fl_wR, re_wI, re_wL, re_wC, ite_true, ite_false, not_true_eq_false, not_false_eq_true, lq_ge, lq_le, lq_gt, lq_lt, lq_eq, jI_lt, jI_le, jI_eq, if_pos, if_neg, jI_div, dv, ea]
end LETTER
section LETTERK
variable {a b : Int}
set_option maxHeartbeats 8000000 in
theorem K_letter (al : -2147483648 ≤ a) (au : a < 2147483648) (bl : -2147483648 ≤ b) (bu : b < 2147483648) : CallI 153 246 [.int (iI a), .int (iI b)] := by
  refine CallI.same (fun d h i I => ?_)
  obtain ⟨t, st, pm, hm, fc, kd, cp, cm, cf, n, ev, past, M, W, H, S, P, N⟩ := I
  obtain ⟨w1, w2, w3, w4, w5, w6, w7, w8, w9, w10, w11, w12, w13⟩ := W
  have tt := isT_or w1.1
  have sh := sh_T w1.1
  have rt := w1.2.1
  have h8 := w5.1
  have e40 : fd h 264 40 = pm := w3.1
  have e10 : fd h 13 10 = pm := w8.1
  have n10 : fd h (t + 1) 10 = pm := N.1
  have hs1 : mm_isS (t + 1) := by
    rcases tt with q | q <;> rw [q] <;> (show _ ∈ mm_scs; decide)
  rw [U_X11_letter, U_X12_letter, iI_jI al au, iI_jI bl bu]
  by_cases c0 : 0 ≤ a ∧ a < pm
  · by_cases c1 : 0 ≤ b ∧ b ≤ 5
    · obtain ⟨w, x1, x2, x3, x4, x5⟩ := N.2.1 a.toNat (by omega)
      have v1 : fd h (t + 16) (6 * a.toNat + b.toNat) = w.getD b.toNat 0 := x5 b.toNat (by omega)
      have ix : (a * 6 + b).toNat = 6 * a.toNat + b.toNat := by omega
      have il : (8 + a).toNat = 8 + a.toNat := by omega
      have xr : ∀ x ∈ w.reverse, 1 ≤ x ∧ x ≤ 26 := fun x hx => x3 x (List.mem_reverse.mp hx)
      have fl1 : fl h 292 (8 + a.toNat) = rv w.reverse := by rw [x4, rv_rev]
      have lr : w.reverse.length = w.length := List.length_reverse
      have r39 := R_let_39 (d := d + 39) (h := h) (k := b) (v := jI (rv w.reverse)) c1.1 (by omega) w.reverse 0 xr (by omega) (by omega)
      refine ⟨iI (w.getD b.toNat 0), ?_, ?_⟩
      · simp (disch := omega) only [iI_lit, jI_lit, iI_neg, jI_neg, iI_add, iI_sub, iI_mul, jI_add, jI_sub, jI_mul, rdI, rdL, iI_lt, iI_le, iI_eq, iI_nat, iI_b2_0, iI_b2_1, mm_bI_some, mm_bV_some, mm_bL_some, mm_bA_some, fd_wL, fd_wR, fl_wI, fl_wR, re_wI, re_wL, re_wC, ite_true, ite_false, not_true_eq_false, not_false_eq_true, lq_ge, lq_le, lq_gt, lq_lt, lq_eq, jI_lt, jI_le, jI_eq, if_pos, if_neg, S_isPerson isS_13, e10, rt, sh, U_X10_letterOf w1.1, S_isPerson hs1, n10, ix, v1]
      · by_cases c2 : b < w.length
        · have r74 := R_let_74 (d := d + 39) (h := h) (k := b) c1.1 w.reverse xr (by omega) (by omega)
          rw [List.reverse_reverse] at r74
          rw [if_pos (by omega), show (0 : Int) + (w.reverse.length : Int) - 1 = (w.reverse.length : Int) - 1 by omega, r74] at r39
          simp (disch := omega) only [iI_lit, jI_lit, iI_neg, jI_neg, iI_add, iI_sub, iI_mul, jI_add, jI_sub, jI_mul, rdI, rdL, iI_lt, iI_le, iI_eq, iI_nat, iI_b2_0, iI_b2_1, mm_bI_some, mm_bV_some, mm_bL_some, mm_bA_some, fd_wL, fd_wR, fl_wI, fl_wR, re_wI, re_wL, re_wC, ite_true, ite_false, not_true_eq_false, not_false_eq_true, lq_ge, lq_le, lq_gt, lq_lt, lq_eq, jI_lt, jI_le, jI_eq, if_pos, if_neg, R_isPerson, e40, R_isIn, il, fl1, r39]
        · have z : w.getD b.toNat 0 = 0 := by
            rw [List.getD_eq_getElem?_getD, List.getElem?_eq_none (by omega)]
            rfl
          rw [if_neg (by omega)] at r39
          rw [z]
          simp (disch := omega) only [iI_lit, jI_lit, iI_neg, jI_neg, iI_add, iI_sub, iI_mul, jI_add, jI_sub, jI_mul, rdI, rdL, iI_lt, iI_le, iI_eq, iI_nat, iI_b2_0, iI_b2_1, mm_bI_some, mm_bV_some, mm_bL_some, mm_bA_some, fd_wL, fd_wR, fl_wI, fl_wR, re_wI, re_wL, re_wC, ite_true, ite_false, not_true_eq_false, not_false_eq_true, lq_ge, lq_le, lq_gt, lq_lt, lq_eq, jI_lt, jI_le, jI_eq, if_pos, if_neg, R_isPerson, e40, R_isIn, il, fl1, r39]
    · refine ⟨iI (-1), ?_, ?_⟩
      · by_cases c2 : b < 0 <;> simp (disch := omega) only [iI_lit, jI_lit, iI_neg, jI_neg, iI_add, iI_sub, iI_mul, jI_add, jI_sub, jI_mul, rdI, rdL, iI_lt, iI_le, iI_eq, iI_nat, iI_b2_0, iI_b2_1, mm_bI_some, mm_bV_some, mm_bL_some, mm_bA_some, fd_wL, fd_wR, fl_wI, fl_wR, re_wI, re_wL, re_wC, ite_true, ite_false, not_true_eq_false, not_false_eq_true, lq_ge, lq_le, lq_gt, lq_lt, lq_eq, jI_lt, jI_le, jI_eq, if_pos, if_neg, S_isPerson isS_13, e10, rt, sh, U_X10_letterOf w1.1, S_isPerson hs1, n10]
      · simp (disch := omega) only [iI_lit, jI_lit, iI_neg, jI_neg, iI_add, iI_sub, iI_mul, jI_add, jI_sub, jI_mul, rdI, rdL, iI_lt, iI_le, iI_eq, iI_nat, iI_b2_0, iI_b2_1, mm_bI_some, mm_bV_some, mm_bL_some, mm_bA_some, fd_wL, fd_wR, fl_wI, fl_wR, re_wI, re_wL, re_wC, ite_true, ite_false, not_true_eq_false, not_false_eq_true, lq_ge, lq_le, lq_gt, lq_lt, lq_eq, jI_lt, jI_le, jI_eq, if_pos, if_neg, R_isPerson, e40, R_isIn]
  · refine ⟨iI (-1), ?_, ?_⟩
    · simp (disch := omega) only [iI_lit, jI_lit, iI_neg, jI_neg, iI_add, iI_sub, iI_mul, jI_add, jI_sub, jI_mul, rdI, rdL, iI_lt, iI_le, iI_eq, iI_nat, iI_b2_0, iI_b2_1, mm_bI_some, mm_bV_some, mm_bL_some, mm_bA_some, fd_wL, fd_wR, fl_wI, fl_wR, re_wI, re_wL, re_wC, ite_true, ite_false, not_true_eq_false, not_false_eq_true, lq_ge, lq_le, lq_gt, lq_lt, lq_eq, jI_lt, jI_le, jI_eq, if_pos, if_neg, S_isPerson isS_13, e10]
    · simp (disch := omega) only [iI_lit, jI_lit, iI_neg, jI_neg, iI_add, iI_sub, iI_mul, jI_add, jI_sub, jI_mul, rdI, rdL, iI_lt, iI_le, iI_eq, iI_nat, iI_b2_0, iI_b2_1, mm_bI_some, mm_bV_some, mm_bL_some, mm_bA_some, fd_wL, fd_wR, fl_wI, fl_wR, re_wI, re_wL, re_wC, ite_true, ite_false, not_true_eq_false, not_false_eq_true, lq_ge, lq_le, lq_gt, lq_lt, lq_eq, jI_lt, jI_le, jI_eq, if_pos, if_neg, R_isPerson, e40]
end LETTERK
