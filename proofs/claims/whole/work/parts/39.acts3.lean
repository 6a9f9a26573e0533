section ACTD
variable {a b : Int}
theorem RepR.kf {Q L : Nat → Nat → Prop} {h h' : mm_H} {n : Int → Int} (r : RepR h n) (k : Kf Q L h h') (q : ∀ j, j < 89 → ¬ Q 300 j) : RepR h' n := by
  intro z z1 z2
  show fd h' 300 z.toNat = _
  rw [k.1 300 _ (q _ (by omega))]
  exact r z z1 z2
set_option maxHeartbeats 8000000 in
theorem K_right (al : -2147483648 ≤ a) (au : a < 2147483648) : CallI 172 279 [.int (iI a)] := by
  intro d h i I hi
  have I0 := I
  obtain ⟨t, st, pm, hm, fc, kd, cp, cm, cf, n, ev, past, M, W, H, S, P, N⟩ := I
  have W0 := W
  obtain ⟨w1, w2, w3, w4, w5, w6, w7, w8, w9, w10, w11, w12, w13⟩ := W
  have tt := isT_or w1.1
  have h8 := w5.1
  have e40 : fd h 264 40 = pm := w3.1
  have e10 : fd h 13 10 = pm := w8.1
  by_cases c1 : 0 ≤ a ∧ a < pm
  · have hf := w6 a c1.1 c1.2
    have hf2 := w3.2.2.1 a c1.1 c1.2
    have hn := w5.2.2.1 a c1.1 c1.2
    have r2 := w4 (2 + 3 * a) (by omega) (by omega)
    have g2 := fun d => C_look (d := d) isS_13 w8 h8.2 c1.1 c1.2
    have g3 := fun d => C_face (d := d) isS_13 w8 h8.2 c1.1 c1.2
    by_cases c0 : n (2 + 3 * a) = 10 * fc a
    · refine ⟨iI 0, wI h 229 2 (iI (fd h 229 2 + 1)), _, ?_, ?_, I0.ref (k := 2) (by omega) hi⟩
      · rw [U_X11_right]
        simp (disch := omega) only [iI_lit, jI_lit, iI_neg, jI_neg, iI_add, iI_sub, iI_mul, jI_add, jI_sub, jI_mul, rdI, rdL, iI_lt, iI_le, iI_eq, iI_nat, iI_b2_0, iI_b2_1, mm_bI_some, mm_bV_some, mm_bL_some, mm_bA_some, fd_wL, fd_wR, fl_wI, fl_wR, re_wI, re_wL, re_wC, ite_true, ite_false, not_true_eq_false, not_false_eq_true, lq_ge, lq_le, lq_gt, lq_lt, lq_eq, jI_lt, jI_le, jI_eq, if_pos, if_neg, g3, S_isPerson isS_13, e10, g2, C_ref2]
      · have k264 : ∀ x, fd (wI h 229 2 (iI (fd h 229 2 + 1))) 264 x = fd h 264 x := fun x => fd_wI_row (by omega)
        have k38 := k264 38
        have k40 := k264 40
        have r2' : nw (wI h 229 2 (iI (fd h 229 2 + 1))) (2 + 3 * a) = n (2 + 3 * a) := (fd_wI_row (by omega)).trans r2
        have f2' : fcR (wI h 229 2 (iI (fd h 229 2 + 1))) a = fc a := (fd_wI_row (by omega)).trans hf2.1
        rw [U_X12_right, iI_jI al au]
        simp (disch := omega) only [iI_lit, jI_lit, iI_neg, jI_neg, iI_add, iI_sub, iI_mul, jI_add, jI_sub, jI_mul, rdI, rdL, iI_lt, iI_le, iI_eq, iI_nat, iI_b2_0, iI_b2_1, mm_bI_some, mm_bV_some, mm_bL_some, mm_bA_some, fd_wL, fd_wR, fl_wI, fl_wR, re_wI, re_wL, re_wC, ite_true, ite_false, not_true_eq_false, not_false_eq_true, lq_ge, lq_le, lq_gt, lq_lt, lq_eq, jI_lt, jI_le, jI_eq, if_pos, if_neg, R_isPerson, k264, e40, R_lookOf, R_faceOf, r2', f2', U_X12_isRefused, fd_wI_row]
        rfl
    · obtain ⟨h1, p1, p2, p3⟩ := H_push (d := d + 37) H w8 w10.1 w4 w10.2.1 w5 w7 w10.2.2.1 w10.2.2.2
      have S1 : SR h1 13 pm hm fc kd n := w8.kf p2 (by intro a j a1 a2; unfold QHc; omega)
      have q3' : Kf (QY t 13) nL h1 (wI h1 (13 + 4) a.toNat (iI (10 * fc a))) := Kf.refl.wI (by unfold QY; omega)
      obtain ⟨h2, r1, r2', r3⟩ := p3 _ _ _ q3' (by intro a j; unfold QY; omega)
      have kg : ∀ x, x = 300 ∨ x = 264 ∨ x = 294 → ∀ j, fd (wI h1 (13 + 4) a.toNat (iI (10 * fc a))) x j = fd h x j := fun x hx j => (fd_wI_row (by omega)).trans (p2.1 x j (by unfold QHc; omega))
      have kh : ∀ x j, x = 300 ∨ x = 294 ∨ (x = 264 ∧ j ≠ 73 ∧ j ≠ 74) → fd h2 x j = fd h x j := fun x j hx => (r2'.1 x j (by unfold QHr; omega)).trans (kg x (by omega) j)
      have rep : RepR h2 n := by
        intro z z1 z2
        show fd h2 300 z.toNat = _
        rw [kh _ _ (by omega)]
        exact w4 z z1 z2
      have f294 : fcR h2 a = fc a := (kh 294 _ (by omega)).trans hf2.1
      have s3 : Kf (fun x k => x = 300 ∧ k < 89) nL h2 (wI h2 300 (2 + 3 * a).toNat (iI (10 * fc a))) := Kf.refl.wI (by omega)
      have y3 : ∀ x, 89 ≤ x → fd (wI h2 300 (2 + 3 * a).toNat (iI (10 * fc a))) 300 x = fd h 300 x := fun x hx => (s3.1 300 x (by omega)).trans (kh 300 x (by omega))
      have y4 : ∀ x, x ≠ 73 → x ≠ 74 → fd (wI h2 300 (2 + 3 * a).toNat (iI (10 * fc a))) 264 x = fd h 264 x := fun x a1 a2 => (s3.1 264 x (by omega)).trans (kh 264 x (by omega))
      have K1 : KeptC h1 13 ev := w10.1.kf p2 (by intro a j a1 a2; unfold QHc; omega)
      refine ⟨iI 1, wI h1 (13 + 4) a.toNat (iI (10 * fc a)), _, ?_, ?_, Inv.act0 (n' := up n (2 + 3 * a) (10 * fc a)) M W0 S P N hi p2 q3' r2' r3 (s3.mono (fun a k q => Or.inl q.1) (fun a k q => q.elim)) (SR_look S1 c1.1 c1.2 h8.2 (by omega) (by omega)) (K1.congr (fd_wI_row (by omega)) (fun j => fd_wI_row (by omega))) (rep.w (by omega) (by omega) (by omega)) (w10.2.1.congr y3) (NI_look w5 (by omega) (by omega) c1.1 c1.2) (by rw [up_ne (by omega)]; exact w7) w10.2.2.1 (by omega) (by rw [y4 _ (by omega) (by omega)]; exact w9) (by rw [y4 _ (by omega) (by omega)]; omega)⟩
      · have f10 : fd h1 13 10 = pm := S1.1
        have mc : fc a * 10 = 10 * fc a := by omega
        have sl := fun d => S_setLook (d := d) (h := h1) (x := 10 * fc a) isS_13 al au
        rw [U_X11_right]
        simp (disch := omega) only [iI_lit, jI_lit, iI_neg, jI_neg, iI_add, iI_sub, iI_mul, jI_add, jI_sub, jI_mul, rdI, rdL, iI_lt, iI_le, iI_eq, iI_nat, iI_b2_0, iI_b2_1, mm_bI_some, mm_bV_some, mm_bL_some, mm_bA_some, fd_wL, fd_wR, fl_wI, fl_wR, re_wI, re_wL, re_wC, ite_true, ite_false, not_true_eq_false, not_false_eq_true, lq_ge, lq_le, lq_gt, lq_lt, lq_eq, jI_lt, jI_le, jI_eq, if_pos, if_neg, g3, S_isPerson isS_13, e10, g2, mc, p1, sl, f10]
      · have k264 := kg 264 (by omega)
        have k38 := k264 38
        have k40 := k264 40
        have rr2 : nw (wI h1 (13 + 4) a.toNat (iI (10 * fc a))) (2 + 3 * a) = n (2 + 3 * a) := (kg 300 (by omega) _).trans r2
        have ff2 : fcR (wI h1 (13 + 4) a.toNat (iI (10 * fc a))) a = fc a := (kg 294 (by omega) _).trans hf2.1
        rw [U_X12_right, iI_jI al au]
        simp (disch := omega) only [iI_lit, jI_lit, iI_neg, jI_neg, iI_add, iI_sub, iI_mul, jI_add, jI_sub, jI_mul, rdI, rdL, iI_lt, iI_le, iI_eq, iI_nat, iI_b2_0, iI_b2_1, mm_bI_some, mm_bV_some, mm_bL_some, mm_bA_some, fd_wL, fd_wR, fl_wI, fl_wR, re_wI, re_wL, re_wC, ite_true, ite_false, not_true_eq_false, not_false_eq_true, lq_ge, lq_le, lq_gt, lq_lt, lq_eq, jI_lt, jI_le, jI_eq, if_pos, if_neg, R_isPerson, k264, e40, R_lookOf, R_faceOf, rr2, ff2, r1, f294]
  · refine ⟨iI 0, wI h 229 2 (iI (fd h 229 2 + 1)), _, ?_, ?_, I0.ref (k := 2) (by omega) hi⟩
    · have g3 := fun d => S_faceOf (d := d) (h := h) isS_13 al au
      rw [U_X11_right]
      simp (disch := omega) only [iI_lit, jI_lit, iI_neg, jI_neg, iI_add, iI_sub, iI_mul, jI_add, jI_sub, jI_mul, rdI, rdL, iI_lt, iI_le, iI_eq, iI_nat, iI_b2_0, iI_b2_1, mm_bI_some, mm_bV_some, mm_bL_some, mm_bA_some, fd_wL, fd_wR, fl_wI, fl_wR, re_wI, re_wL, re_wC, ite_true, ite_false, not_true_eq_false, not_false_eq_true, lq_ge, lq_le, lq_gt, lq_lt, lq_eq, jI_lt, jI_le, jI_eq, if_pos, if_neg, g3, S_isPerson isS_13, e10, C_ref2]
    · have k264 : ∀ x, fd (wI h 229 2 (iI (fd h 229 2 + 1))) 264 x = fd h 264 x := fun x => fd_wI_row (by omega)
      have k38 := k264 38
      have k40 := k264 40
      rw [U_X12_right, iI_jI al au]
      simp (disch := omega) only [iI_lit, jI_lit, iI_neg, jI_neg, iI_add, iI_sub, iI_mul, jI_add, jI_sub, jI_mul, rdI, rdL, iI_lt, iI_le, iI_eq, iI_nat, iI_b2_0, iI_b2_1, mm_bI_some, mm_bV_some, mm_bL_some, mm_bA_some, fd_wL, fd_wR, fl_wI, fl_wR, re_wI, re_wL, re_wC, ite_true, ite_false, not_true_eq_false, not_false_eq_true, lq_ge, lq_le, lq_gt, lq_lt, lq_eq, jI_lt, jI_le, jI_eq, if_pos, if_neg, R_isPerson, k264, e40, U_X12_isRefused, fd_wI_row]
      rfl
set_option maxHeartbeats 8000000 in
theorem K_spare (al : -2147483648 ≤ a) (au : a < 2147483648) (bl : -2147483648 ≤ b) (bu : b < 2147483648) : CallI 173 280 [.int (iI a), .int (iI b)] := by
  intro d h i I hi
  have I0 := I
  obtain ⟨t, st, pm, hm, fc, kd, cp, cm, cf, n, ev, past, M, W, H, S, P, N⟩ := I
  have W0 := W
  obtain ⟨w1, w2, w3, w4, w5, w6, w7, w8, w9, w10, w11, w12, w13⟩ := W
  have tt := isT_or w1.1
  have h8 := w5.1
  have e40 : fd h 264 40 = pm := w3.1
  have e10 : fd h 13 10 = pm := w8.1
  by_cases c1 : (0 ≤ a ∧ a < pm) ∧ (0 ≤ b ∧ b ≤ 1)
  · have hn := w5.2.2.1 a c1.1.1 c1.1.2
    have r2 : fd h 300 (3 + 3 * a).toNat = n (3 + 3 * a) := w4 (3 + 3 * a) (by omega) (by omega)
    have g2 := fun d => C_spare (d := d) isS_13 w8 h8.2 c1.1.1 c1.1.2
    by_cases c0 : n (3 + 3 * a) = b
    · refine ⟨iI 0, wI h 229 2 (iI (fd h 229 2 + 1)), _, ?_, ?_, I0.ref (k := 2) (by omega) hi⟩
      · rw [U_X11_spare]
        simp (disch := omega) only [iI_lit, jI_lit, iI_neg, jI_neg, iI_add, iI_sub, iI_mul, jI_add, jI_sub, jI_mul, rdI, rdL, iI_lt, iI_le, iI_eq, iI_nat, iI_b2_0, iI_b2_1, mm_bI_some, mm_bV_some, mm_bL_some, mm_bA_some, fd_wL, fd_wR, fl_wI, fl_wR, re_wI, re_wL, re_wC, ite_true, ite_false, not_true_eq_false, not_false_eq_true, lq_ge, lq_le, lq_gt, lq_lt, lq_eq, jI_lt, jI_le, jI_eq, if_pos, if_neg, S_isPerson isS_13, e10, g2, C_ref2]
      · have k264 : ∀ x, fd (wI h 229 2 (iI (fd h 229 2 + 1))) 264 x = fd h 264 x := fun x => fd_wI_row (by omega)
        have k38 := k264 38
        have k40 := k264 40
        have r2' : fd (wI h 229 2 (iI (fd h 229 2 + 1))) 300 (3 + 3 * a).toNat = n (3 + 3 * a) := (fd_wI_row (by omega)).trans r2
        rw [U_X12_spare, iI_jI al au, iI_jI bl bu]
        simp (disch := omega) only [iI_lit, jI_lit, iI_neg, jI_neg, iI_add, iI_sub, iI_mul, jI_add, jI_sub, jI_mul, rdI, rdL, iI_lt, iI_le, iI_eq, iI_nat, iI_b2_0, iI_b2_1, mm_bI_some, mm_bV_some, mm_bL_some, mm_bA_some, fd_wL, fd_wR, fl_wI, fl_wR, re_wI, re_wL, re_wC, ite_true, ite_false, not_true_eq_false, not_false_eq_true, lq_ge, lq_le, lq_gt, lq_lt, lq_eq, jI_lt, jI_le, jI_eq, if_pos, if_neg, R_isPerson, k264, e40, R_isIn, r2', U_X12_isRefused, fd_wI_row]
        rfl
    · obtain ⟨h1, p1, p2, p3⟩ := H_push (d := d + 37) H w8 w10.1 w4 w10.2.1 w5 w7 w10.2.2.1 w10.2.2.2
      have S1 : SR h1 13 pm hm fc kd n := w8.kf p2 (by intro a j a1 a2; unfold QHc; omega)
      have q3' : Kf (QY t 13) nL h1 (wI h1 (13 + 5) a.toNat (iI b)) := Kf.refl.wI (by unfold QY; omega)
      obtain ⟨h2, r1, r2', r3⟩ := p3 _ _ _ q3' (by intro a j; unfold QY; omega)
      have kg : ∀ x, x = 300 ∨ x = 264 → ∀ j, fd (wI h1 (13 + 5) a.toNat (iI b)) x j = fd h x j := fun x hx j => (fd_wI_row (by omega)).trans (p2.1 x j (by unfold QHc; omega))
      have kh : ∀ x j, x = 300 ∨ (x = 264 ∧ j ≠ 73 ∧ j ≠ 74) → fd h2 x j = fd h x j := fun x j hx => (r2'.1 x j (by unfold QHr; omega)).trans (kg x (by omega) j)
      have rep : RepR h2 n := by
        intro z z1 z2
        show fd h2 300 z.toNat = _
        rw [kh _ _ (by omega)]
        exact w4 z z1 z2
      have s3 : Kf (fun x k => x = 300 ∧ k < 89) nL h2 (wI h2 300 (3 + 3 * a).toNat (iI b)) := Kf.refl.wI (by omega)
      have y3 : ∀ x, 89 ≤ x → fd (wI h2 300 (3 + 3 * a).toNat (iI b)) 300 x = fd h 300 x := fun x hx => (s3.1 300 x (by omega)).trans (kh 300 x (by omega))
      have y4 : ∀ x, x ≠ 73 → x ≠ 74 → fd (wI h2 300 (3 + 3 * a).toNat (iI b)) 264 x = fd h 264 x := fun x a1 a2 => (s3.1 264 x (by omega)).trans (kh 264 x (by omega))
      have K1 : KeptC h1 13 ev := w10.1.kf p2 (by intro a j a1 a2; unfold QHc; omega)
      refine ⟨iI 1, wI h1 (13 + 5) a.toNat (iI b), _, ?_, ?_, Inv.act0 (n' := up n (3 + 3 * a) b) M W0 S P N hi p2 q3' r2' r3 (s3.mono (fun a k q => Or.inl q.1) (fun a k q => q.elim)) (SR_spare S1 c1.1.1 c1.1.2 h8.2 (by omega) (by omega)) (K1.congr (fd_wI_row (by omega)) (fun j => fd_wI_row (by omega))) (rep.w (by omega) (by omega) (by omega)) (w10.2.1.congr y3) (NI_spare w5 (by omega) (by omega) c1.1.1 c1.1.2) (by rw [up_ne (by omega)]; exact w7) w10.2.2.1 (by omega) (by rw [y4 _ (by omega) (by omega)]; exact w9) (by rw [y4 _ (by omega) (by omega)]; omega)⟩
      · have f10 : fd h1 13 10 = pm := S1.1
        have sl := fun d => S_setSparing (d := d) (h := h1) (x := b) isS_13 al au
        rw [U_X11_spare]
        simp (disch := omega) only [iI_lit, jI_lit, iI_neg, jI_neg, iI_add, iI_sub, iI_mul, jI_add, jI_sub, jI_mul, rdI, rdL, iI_lt, iI_le, iI_eq, iI_nat, iI_b2_0, iI_b2_1, mm_bI_some, mm_bV_some, mm_bL_some, mm_bA_some, fd_wL, fd_wR, fl_wI, fl_wR, re_wI, re_wL, re_wC, ite_true, ite_false, not_true_eq_false, not_false_eq_true, lq_ge, lq_le, lq_gt, lq_lt, lq_eq, jI_lt, jI_le, jI_eq, if_pos, if_neg, S_isPerson isS_13, e10, g2, p1, sl, f10]
      · have k264 := kg 264 (by omega)
        have k38 := k264 38
        have k40 := k264 40
        have rr2 : fd (wI h1 (13 + 5) a.toNat (iI b)) 300 (3 + 3 * a).toNat = n (3 + 3 * a) := (kg 300 (by omega) _).trans r2
        rw [U_X12_spare, iI_jI al au, iI_jI bl bu]
        simp (disch := omega) only [iI_lit, jI_lit, iI_neg, jI_neg, iI_add, iI_sub, iI_mul, jI_add, jI_sub, jI_mul, rdI, rdL, iI_lt, iI_le, iI_eq, iI_nat, iI_b2_0, iI_b2_1, mm_bI_some, mm_bV_some, mm_bL_some, mm_bA_some, fd_wL, fd_wR, fl_wI, fl_wR, re_wI, re_wL, re_wC, ite_true, ite_false, not_true_eq_false, not_false_eq_true, lq_ge, lq_le, lq_gt, lq_lt, lq_eq, jI_lt, jI_le, jI_eq, if_pos, if_neg, R_isPerson, k264, e40, R_isIn, rr2, r1]
  · refine ⟨iI 0, wI h 229 2 (iI (fd h 229 2 + 1)), _, ?_, ?_, I0.ref (k := 2) (by omega) hi⟩
    · rw [U_X11_spare]
      by_cases z1 : 0 ≤ a ∧ a < pm
      · by_cases z2 : b < 0 <;> simp (disch := omega) only [iI_lit, jI_lit, iI_neg, jI_neg, iI_add, iI_sub, iI_mul, jI_add, jI_sub, jI_mul, rdI, rdL, iI_lt, iI_le, iI_eq, iI_nat, iI_b2_0, iI_b2_1, mm_bI_some, mm_bV_some, mm_bL_some, mm_bA_some, fd_wL, fd_wR, fl_wI, fl_wR, re_wI, re_wL, re_wC, ite_true, ite_false, not_true_eq_false, not_false_eq_true, lq_ge, lq_le, lq_gt, lq_lt, lq_eq, jI_lt, jI_le, jI_eq, if_pos, if_neg, S_isPerson isS_13, e10, C_ref2]
      · simp (disch := omega) only [iI_lit, jI_lit, iI_neg, jI_neg, iI_add, iI_sub, iI_mul, jI_add, jI_sub, jI_mul, rdI, rdL, iI_lt, iI_le, iI_eq, iI_nat, iI_b2_0, iI_b2_1, mm_bI_some, mm_bV_some, mm_bL_some, mm_bA_some, fd_wL, fd_wR, fl_wI, fl_wR, re_wI, re_wL, re_wC, ite_true, ite_false, not_true_eq_false, not_false_eq_true, lq_ge, lq_le, lq_gt, lq_lt, lq_eq, jI_lt, jI_le, jI_eq, if_pos, if_neg, S_isPerson isS_13, e10, C_ref2]
    · have k264 : ∀ x, fd (wI h 229 2 (iI (fd h 229 2 + 1))) 264 x = fd h 264 x := fun x => fd_wI_row (by omega)
      have k38 := k264 38
      have k40 := k264 40
      rw [U_X12_spare, iI_jI al au, iI_jI bl bu]
      by_cases z1 : 0 ≤ a ∧ a < pm
      · simp (disch := omega) only [iI_lit, jI_lit, iI_neg, jI_neg, iI_add, iI_sub, iI_mul, jI_add, jI_sub, jI_mul, rdI, rdL, iI_lt, iI_le, iI_eq, iI_nat, iI_b2_0, iI_b2_1, mm_bI_some, mm_bV_some, mm_bL_some, mm_bA_some, fd_wL, fd_wR, fl_wI, fl_wR, re_wI, re_wL, re_wC, ite_true, ite_false, not_true_eq_false, not_false_eq_true, lq_ge, lq_le, lq_gt, lq_lt, lq_eq, jI_lt, jI_le, jI_eq, if_pos, if_neg, R_isPerson, k264, e40, R_isIn, U_X12_isRefused, fd_wI_row]
        rfl
      · simp (disch := omega) only [iI_lit, jI_lit, iI_neg, jI_neg, iI_add, iI_sub, iI_mul, jI_add, jI_sub, jI_mul, rdI, rdL, iI_lt, iI_le, iI_eq, iI_nat, iI_b2_0, iI_b2_1, mm_bI_some, mm_bV_some, mm_bL_some, mm_bA_some, fd_wL, fd_wR, fl_wI, fl_wR, re_wI, re_wL, re_wC, ite_true, ite_false, not_true_eq_false, not_false_eq_true, lq_ge, lq_le, lq_gt, lq_lt, lq_eq, jI_lt, jI_le, jI_eq, if_pos, if_neg, R_isPerson, k264, e40, U_X12_isRefused, fd_wI_row]
        rfl
set_option maxHeartbeats 8000000 in
theorem R_ref3 {d : Nat} {h : mm_H} : mm_M mm_T0 (d + 1) 265 [.ref 264, .int (iI 3)] h = some (some (.int (iI (-1))), wI h 266 3 (iI (fd h 266 3 + 1))) := by
  rw [U_X12_refuses]
  simp (disch := omega) only [iI_lit, jI_lit, iI_neg, jI_neg, iI_add, iI_sub, iI_mul, jI_add, jI_sub, jI_mul, rdI, rdL, iI_lt, iI_le, iI_eq, iI_nat, iI_b2_0, iI_b2_1, mm_bI_some, mm_bV_some, mm_bL_some, mm_bA_some, fd_wL, fd_wR, fl_wI, fl_wR, re_wI, re_wL, re_wC, ite_true, ite_false, not_true_eq_false, not_false_eq_true, lq_ge, lq_le, lq_gt, lq_lt, lq_eq, jI_lt, jI_le, jI_eq, if_pos, if_neg]
  rfl
set_option maxHeartbeats 8000000 in
theorem R_ref1 {d : Nat} {h : mm_H} : mm_M mm_T0 (d + 1) 265 [.ref 264, .int (iI 1)] h = some (some (.int (iI (-1))), wI h 266 1 (iI (fd h 266 1 + 1))) := by
  rw [U_X12_refuses]
  simp (disch := omega) only [iI_lit, jI_lit, iI_neg, jI_neg, iI_add, iI_sub, iI_mul, jI_add, jI_sub, jI_mul, rdI, rdL, iI_lt, iI_le, iI_eq, iI_nat, iI_b2_0, iI_b2_1, mm_bI_some, mm_bV_some, mm_bL_some, mm_bA_some, fd_wL, fd_wR, fl_wI, fl_wR, re_wI, re_wL, re_wC, ite_true, ite_false, not_true_eq_false, not_false_eq_true, lq_ge, lq_le, lq_gt, lq_lt, lq_eq, jI_lt, jI_le, jI_eq, if_pos, if_neg]
  rfl
set_option maxHeartbeats 8000000 in
theorem K_years (al : -2147483648 ≤ a) (au : a < 2147483648) : CallI 174 281 [.int (iI a)] := by
  intro d h i I hi
  have I0 := I
  obtain ⟨t, st, pm, hm, fc, kd, cp, cm, cf, n, ev, past, M, W, H, S, P, N⟩ := I
  have W0 := W
  obtain ⟨w1, w2, w3, w4, w5, w6, w7, w8, w9, w10, w11, w12, w13⟩ := W
  have tt := isT_or w1.1
  have h8 := w5.1
  have e53 : fd h 264 53 = st := w2.2.2.1
  have e12 : fd h 0 12 = st := w2.2.1
  have st1 := w2.1
  have e11 : fd h 13 11 = n 0 := w8.2.2.1
  have e0 : fd h 300 0 = n 0 := w4 0 (by omega) (by omega)
  by_cases c1 : st = 1 ∧ (1 ≤ a ∧ a ≤ 100) ∧ n 0 + a ≤ 999
  · obtain ⟨h1, p1, p2, p3⟩ := H_push (d := d + 37) H w8 w10.1 w4 w10.2.1 w5 w7 w10.2.2.1 w10.2.2.2
    have S1 : SR h1 13 pm hm fc kd n := w8.kf p2 (by intro a j a1 a2; unfold QHc; omega)
    have K1 : KeptC h1 13 ev := w10.1.kf p2 (by intro a j a1 a2; unfold QHc; omega)
    have C1 : CT h1 t cp cm cf := (w2.2.2.2.2 c1.1).kf3 p2 (by intro a j; unfold NC QHc; omega)
    obtain ⟨g, q1, q2, q3, q4⟩ := C_pass (d := d + 34) (N := a) w1.1 isS_13 w6 (by omega) (by omega) C1 S1 w5 (by omega) K1 (by omega)
    obtain ⟨h2, r1, r2', r3⟩ := p3 _ _ _ q4 (by intro a j; unfold QY; omega)
    have kg : ∀ x j, 264 ≤ x → fd g x j = fd h x j := fun x j hx => (q4.1 x j (by unfold QY; omega)).trans (p2.1 x j (by unfold QHc; omega))
    have kh : ∀ x j, 264 ≤ x → ¬ QHr x j → fd h2 x j = fd h x j := fun x j hx y => (r2'.1 x j y).trans (kg x j hx)
    have k12 : Kf (fun a k => QHc a k ∨ QY t 13 a k ∨ QHr a k) nL h h2 := Kf.trans (p2.monoQ (fun a k q => Or.inl q)) (Kf.trans (q4.monoQ (fun a k q => Or.inr (Or.inl q))) (r2'.monoQ (fun a k q => Or.inr (Or.inr q))))
    have kw : Kf (fun a k => (QHc a k ∨ QY t 13 a k ∨ QHr a k) ∨ (a = 264 ∧ k = 65)) nL h (wI h2 264 65 (iI 0)) := Kf.wI (k12.monoQ (fun a k q => Or.inl q)) (Or.inr ⟨rfl, rfl⟩)
    have T2 : RT (wI h2 264 65 (iI 0)) pm hm fc kd cp cm cf := w3.kf2 kw (by intro a j; unfold NR QHc QY QHr; omega)
    have R2 : RepR (wI h2 264 65 (iI 0)) n := w4.kf kw (by intro j hj; unfold QHc QY QHr; omega)
    have z64 : fd (wI h2 264 65 (iI 0)) 264 64 = 0 := (kw.1 264 64 (by unfold QHc QY QHr; omega)).trans w9
    have z65 : fd (wI h2 264 65 (iI 0)) 264 65 = 0 := fd_wI_same (by omega) (by omega)
    have KR2 : KeptR (wI h2 264 65 (iI 0)) ev := w10.2.1.congr (fun k hk => kw.1 300 k (by unfold QHc QY QHr; omega))
    obtain ⟨h3, s1, s2⟩ := R_yearsGo (d := d + 32) (N := a) w6 (by omega) (by omega) T2 R2 w5 (by omega) (by omega) (fun _ => KR2)
    have s64 := s2.e64
    obtain ⟨s3, s4, s5, s6, s7⟩ := s2
    have ok := yearsS_ok (cp := cp) (cm := cm) (fc := fc) (kd := kd) a.toNat n w5
    have eo := yearsS_ev (cp := cp) (cm := cm) (fc := fc) (kd := kd) a.toNat n w5 (by omega)
    have l1 : ((ev ++ (yearsS cp cm hm pm fc kd a.toNat n).2).length : Int) = ev.length + (yearsS cp cm hm pm fc kd a.toNat n).2.length := by rw [List.length_append]; omega
    have k4 : Kf (fun a k => a = 300 ∨ (a = 264 ∧ (k = 108 ∨ k = 54 ∨ (57 ≤ k ∧ k ≤ 65)))) LE3 h2 h3 := Kf.trans (Kf.refl.wI (by omega)) (s4.monoQ (fun a k q => by unfold QS at q; omega))
    refine ⟨iI (yearsS cp cm hm pm fc kd a.toNat n).2.length, g, h3, ?_, ?_, Inv.act0 M W0 S P N hi p2 q4 r2' r3 k4 q2 q3 s3 (s6 z64) ok.1 (by omega) (w10.2.2.1.app eo) (by omega) (by rw [s64]; exact z64) (by omega)⟩
    · have g8 : fd g 13 8 = ((ev ++ (yearsS cp cm hm pm fc kd a.toNat n).2).length : Int) := q3.1
      have f8 : fd h1 13 8 = (ev.length : Int) := K1.1
      have df : ((ev ++ (yearsS cp cm hm pm fc kd a.toNat n).2).length : Int) - ev.length = (yearsS cp cm hm pm fc kd a.toNat n).2.length := by omega
      have rt : h1.2.2 0 10 = t := by rw [p2.2.2]; exact w1.2.1
      have sh := sh_T w1.1
      rw [U_X11_years]
      simp (disch := omega) only [iI_lit, jI_lit, iI_neg, jI_neg, iI_add, iI_sub, iI_mul, jI_add, jI_sub, jI_mul, rdI, rdL, iI_lt, iI_le, iI_eq, iI_nat, iI_b2_0, iI_b2_1, mm_bI_some, mm_bV_some, mm_bL_some, mm_bA_some, fd_wL, fd_wR, fl_wI, fl_wR, re_wI, re_wL, re_wC, ite_true, ite_false, not_true_eq_false, not_false_eq_true, lq_ge, lq_le, lq_gt, lq_lt, lq_eq, jI_lt, jI_le, jI_eq, if_pos, if_neg, e12, C_canPass, e11, p1, rt, sh, q1, g8, f8, df]
    · have f53 : fd g 264 53 = st := (kg _ _ (by omega)).trans e53
      have f0 : fd g 300 0 = n 0 := (kg _ _ (by omega)).trans e0
      have f65 : fd h3 264 65 = ((yearsS cp cm hm pm fc kd a.toNat n).2.length : Int) := by omega
      rw [U_X12_years]
      simp (disch := omega) only [iI_lit, jI_lit, iI_neg, jI_neg, iI_add, iI_sub, iI_mul, jI_add, jI_sub, jI_mul, rdI, rdL, iI_lt, iI_le, iI_eq, iI_nat, iI_b2_0, iI_b2_1, mm_bI_some, mm_bV_some, mm_bL_some, mm_bA_some, fd_wL, fd_wR, fl_wI, fl_wR, re_wI, re_wL, re_wC, ite_true, ite_false, not_true_eq_false, not_false_eq_true, lq_ge, lq_le, lq_gt, lq_lt, lq_eq, jI_lt, jI_le, jI_eq, if_pos, if_neg, f53, R_isAhead, f0, r1, s1, f65]
  · refine ⟨iI (-1), wI h 229 3 (iI (fd h 229 3 + 1)), _, ?_, ?_, I0.ref (k := 3) (by omega) hi⟩
    · rw [U_X11_years]
      by_cases z : st = 0 <;> simp (disch := omega) only [iI_lit, jI_lit, iI_neg, jI_neg, iI_add, iI_sub, iI_mul, jI_add, jI_sub, jI_mul, rdI, rdL, iI_lt, iI_le, iI_eq, iI_nat, iI_b2_0, iI_b2_1, mm_bI_some, mm_bV_some, mm_bL_some, mm_bA_some, fd_wL, fd_wR, fl_wI, fl_wR, re_wI, re_wL, re_wC, ite_true, ite_false, not_true_eq_false, not_false_eq_true, lq_ge, lq_le, lq_gt, lq_lt, lq_eq, jI_lt, jI_le, jI_eq, if_pos, if_neg, e12, C_canPass, e11, C_ref3]
    · have k264 : ∀ x, fd (wI h 229 3 (iI (fd h 229 3 + 1))) 264 x = fd h 264 x := fun x => fd_wI_row (by omega)
      have k38 := k264 38
      have k40 := k264 40
      have k0 : fd (wI h 229 3 (iI (fd h 229 3 + 1))) 300 0 = n 0 := (fd_wI_row (by omega)).trans e0
      rw [U_X12_years]
      by_cases z : st = 0 <;> simp (disch := omega) only [iI_lit, jI_lit, iI_neg, jI_neg, iI_add, iI_sub, iI_mul, jI_add, jI_sub, jI_mul, rdI, rdL, iI_lt, iI_le, iI_eq, iI_nat, iI_b2_0, iI_b2_1, mm_bI_some, mm_bV_some, mm_bL_some, mm_bA_some, fd_wL, fd_wR, fl_wI, fl_wR, re_wI, re_wL, re_wC, ite_true, ite_false, not_true_eq_false, not_false_eq_true, lq_ge, lq_le, lq_gt, lq_lt, lq_eq, jI_lt, jI_le, jI_eq, if_pos, if_neg, k264, e53, R_isAhead, k0, R_ref3, fd_wI_row]
end ACTD
