/-! the calls that act -/
section EVS
variable {cp cm : List Int} {pm hm : Int} {fc kd n : Int → Int}
theorem EvOK.app {a b : Evs} (x : EvOK a) (y : EvOK b) : EvOK (a ++ b) := by
  intro e he
  rcases List.mem_append.mp he with q | q
  · exact x e q
  · exact y e q
theorem EvOK.nil : EvOK [] := fun e he => by simp at he
theorem curtS_ev {s side : Int} (hN : NI pm hm n) (y : 0 ≤ n 0 ∧ n 0 ≤ 2000) (s1 : 0 ≤ s) (s2 : s < pm) : EvOK (curtS cp pm fc kd n s side) := by
  have h8 := hN.1
  unfold curtS
  by_cases c : nb n pm s side = -1 ∨ n (3 + 3 * nb n pm s side) = 1
  · rw [if_pos c]; exact EvOK.nil
  · rw [if_neg c]
    have b : nb n pm s side = -1 ∨ (0 ≤ nb n pm s side ∧ nb n pm s side < pm) := by
      unfold nb
      rcases who_b (n := n) (pm := pm) (h := n (1 + 3 * s) + (if side = 0 then -1 else 1)) h8.1 with e | e
      · exact Or.inl e
      · exact Or.inr ⟨e.1, e.2.1⟩
    split
    · intro e he
      rw [List.mem_singleton] at he
      subst he
      refine ⟨y, ⟨s1, by show s < 8; omega⟩, ?_⟩
      show 0 ≤ nb n pm s side ∧ nb n pm s side < 8
      omega
    · exact EvOK.nil
theorem houseS_ev : ∀ (k : Nat) (i : Int) (n : Int → Int), NI pm hm n → (0 ≤ n 0 ∧ n 0 ≤ 2000) → EvOK (houseS cp cm pm fc kd k i n).2
  | 0, i, n, hN, y => EvOK.nil
  | k + 1, i, n, hN, y => by
    unfold houseS
    by_cases c : who n pm i = -1
    · rw [if_pos c]
      exact houseS_ev k (i + 1) n hN y
    · rw [if_neg c]
      have b := who_b (n := n) (pm := pm) (h := i) hN.1.1
      have n1 := NI_stroke (cp := cp) (cm := cm) (fc := fc) (kd := kd) (s := who n pm i) (side := 0) hN (by omega) (by omega)
      have n2 := NI_stroke (cp := cp) (cm := cm) (fc := fc) (kd := kd) (s := who n pm i) (side := 1) n1.1 (by omega) (by omega)
      exact ((curtS_ev hN y (by omega) (by omega)).app (curtS_ev n1.1 (by rw [n1.2]; exact y) (by omega) (by omega))).app (houseS_ev k (i + 1) _ n2.1 (by rw [n2.2, n1.2]; exact y))
theorem yearS_ev (hN : NI pm hm n) (y : 0 ≤ n 0 ∧ n 0 ≤ 2000) : EvOK (yearS cp cm hm pm fc kd n).2 := houseS_ev hm.toNat 0 n hN y
theorem yearsS_ev : ∀ (k : Nat) (n : Int → Int), NI pm hm n → (0 ≤ n 0 ∧ n 0 + k ≤ 2000) → EvOK (yearsS cp cm hm pm fc kd k n).2
  | 0, n, hN, y => EvOK.nil
  | k + 1, n, hN, y => by
    have a := yearS_ok (cp := cp) (cm := cm) (fc := fc) (kd := kd) hN
    unfold yearsS
    exact (yearS_ev hN (by omega)).app (yearsS_ev k _ a.1 (by rw [a.2.1]; omega))
end EVS
section ACTC
variable {a b : Int}
theorem sh_T {t : Nat} (ht : mm_isT t) : mm_sh t = (0, 10) := by
  rcases isT_or ht with e | e <;> subst e <;> decide
set_option maxHeartbeats 6000000 in
theorem K_change (al : -2147483648 ≤ a) (au : a < 2147483648) (bl : -2147483648 ≤ b) (bu : b < 2147483648) : CallI 171 278 [.int (iI a), .int (iI b)] := by
  intro d h i I hi
  have I0 := I
  obtain ⟨t, st, pm, hm, fc, kd, cp, cm, cf, n, ev, past, M, W, H, S, P, N⟩ := I
  have W0 := W
  obtain ⟨w1, w2, w3, w4, w5, w6, w7, w8, w9, w10, w11, w12, w13⟩ := W
  have h8 := w5.1
  have h9 := w5.2.1
  have e40 : fd h 264 40 = pm := w3.1
  have e38 : fd h 264 38 = hm := w3.2.1
  have e53 : fd h 264 53 = st := w2.2.2.1
  have st0 := w2.2.2.2.1
  have st1 := w2.1
  have e9 : fd h 13 9 = hm := w8.2.1
  have ca := fun d => C_who (d := d) isS_13 w8 w5 (a := a) al au
  have cb := fun d => C_who (d := d) isS_13 w8 w5 (a := b) bl bu
  have ra := fun d => R_who (d := d) w4 e40 h8 (a := a) al au
  have rb := fun d => R_who (d := d) w4 e40 h8 (a := b) bl bu
  have wa := who_b (n := n) (h := a) h8.1
  have wb := who_b (n := n) (h := b) h8.1
  by_cases c0 : (0 ≤ a ∧ a < hm) ∧ (0 ≤ b ∧ b < hm) ∧ a ≠ b ∧ (who n pm a ≠ -1 ∨ who n pm b ≠ -1)
  · obtain ⟨h1, p1, p2, p3⟩ := H_push (d := d + 37) H w8 w10.1 w4 w10.2.1 w5 w7 w10.2.2.1 w10.2.2.2
    have S1 : SR h1 13 pm hm fc kd n := w8.kf p2 (by intro a j a1 a2; unfold QHc; omega)
    obtain ⟨g, q1, q2, q3⟩ := C_swap (d := d + 36) isS_13 S1 w5 c0.2.2.1 c0.1.1 c0.1.2 c0.2.1.1 c0.2.1.2
    have q3' : Kf (QY t 13) nL h1 g := q3.monoQ (fun a k q => by unfold QY; omega)
    have tt := isT_or w1.1
    obtain ⟨h2, r1, r2, r3⟩ := p3 _ _ g q3' (by intro a j; unfold QY; omega)
    have kg : ∀ x, fd g 300 x = fd h 300 x := fun x => (q3.1 300 x (by omega)).trans (p2.1 300 x (by unfold QHc; omega))
    have k264 : ∀ x, fd g 264 x = fd h 264 x := fun x => (q3.1 264 x (by omega)).trans (p2.1 264 x (by unfold QHc; omega))
    have k38 := k264 38
    have k40 := k264 40
    have rep : ∀ g' : mm_H, (∀ x, fd g' 300 x = fd g 300 x) → RepR g' n := by
      intro g' e z z1 z2
      show fd g' 300 z.toNat = _
      rw [e, kg]
      exact w4 z z1 z2
    obtain ⟨h3, s1, s2, s3⟩ := R_changes (d := d + 36) (h := h2) (a := a) (b := b) (rep h2 (fun x => r2.1 300 x (by unfold QHr; omega))) (show fd h2 264 40 = pm by rw [r2.1 264 40 (by unfold QHr; omega), k264]; exact e40) w5 c0.1.1 c0.1.2 c0.2.1.1 c0.2.1.2
    have y3 : ∀ x, 89 ≤ x → fd h3 300 x = fd h 300 x := fun x hx => ((s3.1 300 x (by omega)).trans (r2.1 300 x (by unfold QHr; omega))).trans (kg x)
    have y4 : ∀ x, x ≠ 73 → x ≠ 74 → fd h3 264 x = fd h 264 x := fun x a1 a2 => ((s3.1 264 x (by omega)).trans (r2.1 264 x (by unfold QHr; omega))).trans (k264 x)
    have g8 : fd g 13 8 = fd h 13 8 := (q3.1 _ _ (by omega)).trans (p2.1 _ _ (by unfold QHc; omega))
    have g21 : ∀ j, fd g (13 + 8) j = fd h (13 + 8) j := fun j => (q3.1 _ _ (by omega)).trans (p2.1 _ _ (by unfold QHc; omega))
    refine ⟨iI 1, g, h3, ?_, ?_, Inv.act0 M W0 S P N hi p2 q3' r2 r3 (s3.mono (fun a k q => Or.inl q.1) (fun a k q => q.elim)) q2 (w10.1.congr g8 g21) s2 (w10.2.1.congr y3) (chg_NI w5 c0.2.2.1 c0.1.1 c0.1.2 c0.2.1.1 c0.2.1.2) (by rw [chg_ne h8.1 (by intros; omega)]; exact w7) w10.2.2.1 (by omega) (by rw [y4 _ (by omega) (by omega)]; exact w9) (by rw [y4 _ (by omega) (by omega)]; omega)⟩
    · rw [U_X11_change]
      by_cases z : who n pm a = -1 <;> simp (disch := omega) only [iI_lit, jI_lit, iI_neg, jI_neg, iI_add, iI_sub, iI_mul, jI_add, jI_sub, jI_mul, rdI, rdL, iI_lt, iI_le, iI_eq, iI_nat, iI_b2_0, iI_b2_1, mm_bI_some, mm_bV_some, mm_bL_some, mm_bA_some, fd_wL, fd_wR, fl_wI, fl_wR, re_wI, re_wL, re_wC, ite_true, ite_false, not_true_eq_false, not_false_eq_true, lq_ge, lq_le, lq_gt, lq_lt, lq_eq, jI_lt, jI_le, jI_eq, if_pos, if_neg, ca, cb, S_isHouse isS_13, e9, p1, q1]
    · have ra' := fun d => R_who (d := d) (h := g) (rep g (fun x => rfl)) ((k264 40).trans e40) h8 (a := a) al au
      have rb' := fun d => R_who (d := d) (h := g) (rep g (fun x => rfl)) ((k264 40).trans e40) h8 (a := b) bl bu
      have f38 := k264 38
      have f53 := k264 53
      rw [U_X12_change]
      by_cases z : who n pm a = -1 <;> simp (disch := omega) only [iI_lit, jI_lit, iI_neg, jI_neg, iI_add, iI_sub, iI_mul, jI_add, jI_sub, jI_mul, rdI, rdL, iI_lt, iI_le, iI_eq, iI_nat, iI_b2_0, iI_b2_1, mm_bI_some, mm_bV_some, mm_bL_some, mm_bA_some, fd_wL, fd_wR, fl_wI, fl_wR, re_wI, re_wL, re_wC, ite_true, ite_false, not_true_eq_false, not_false_eq_true, lq_ge, lq_le, lq_gt, lq_lt, lq_eq, jI_lt, jI_le, jI_eq, if_pos, if_neg, R_isHouse, f38, f53, e38, e53, ra', rb', r1, s1]
  · refine ⟨iI 0, wI h 229 2 (iI (fd h 229 2 + 1)), _, ?_, ?_, I0.ref (k := 2) (by omega) hi⟩
    · rw [U_X11_change]
      have ha : who n pm a = -1 ∨ (0 ≤ a ∧ a < hm) := by
        by_cases z : a < 0 ∨ hm ≤ a
        · exact Or.inl (who_out w5 z)
        · omega
      have hb : who n pm b = -1 ∨ (0 ≤ b ∧ b < hm) := by
        by_cases z : b < 0 ∨ hm ≤ b
        · exact Or.inl (who_out w5 z)
        · omega
      by_cases z1 : who n pm a = -1
      · by_cases z2 : who n pm b = -1
        · by_cases z3 : a = b
          · simp (disch := omega) only [iI_lit, jI_lit, iI_neg, jI_neg, iI_add, iI_sub, iI_mul, jI_add, jI_sub, jI_mul, rdI, rdL, iI_lt, iI_le, iI_eq, iI_nat, iI_b2_0, iI_b2_1, mm_bI_some, mm_bV_some, mm_bL_some, mm_bA_some, fd_wL, fd_wR, fl_wI, fl_wR, re_wI, re_wL, re_wC, ite_true, ite_false, not_true_eq_false, not_false_eq_true, lq_ge, lq_le, lq_gt, lq_lt, lq_eq, jI_lt, jI_le, jI_eq, if_pos, if_neg, ca, cb, S_isHouse isS_13, e9, C_ref2]
          · by_cases z4 : 0 ≤ a ∧ a < hm
            · by_cases z5 : 0 ≤ b ∧ b < hm <;> simp (disch := omega) only [iI_lit, jI_lit, iI_neg, jI_neg, iI_add, iI_sub, iI_mul, jI_add, jI_sub, jI_mul, rdI, rdL, iI_lt, iI_le, iI_eq, iI_nat, iI_b2_0, iI_b2_1, mm_bI_some, mm_bV_some, mm_bL_some, mm_bA_some, fd_wL, fd_wR, fl_wI, fl_wR, re_wI, re_wL, re_wC, ite_true, ite_false, not_true_eq_false, not_false_eq_true, lq_ge, lq_le, lq_gt, lq_lt, lq_eq, jI_lt, jI_le, jI_eq, if_pos, if_neg, ca, cb, S_isHouse isS_13, e9, C_ref2]
            · simp (disch := omega) only [iI_lit, jI_lit, iI_neg, jI_neg, iI_add, iI_sub, iI_mul, jI_add, jI_sub, jI_mul, rdI, rdL, iI_lt, iI_le, iI_eq, iI_nat, iI_b2_0, iI_b2_1, mm_bI_some, mm_bV_some, mm_bL_some, mm_bA_some, fd_wL, fd_wR, fl_wI, fl_wR, re_wI, re_wL, re_wC, ite_true, ite_false, not_true_eq_false, not_false_eq_true, lq_ge, lq_le, lq_gt, lq_lt, lq_eq, jI_lt, jI_le, jI_eq, if_pos, if_neg, ca, cb, S_isHouse isS_13, e9, C_ref2]
        · have z3 : a ≠ b := fun e => z2 (by rw [← e]; exact z1)
          simp (disch := omega) only [iI_lit, jI_lit, iI_neg, jI_neg, iI_add, iI_sub, iI_mul, jI_add, jI_sub, jI_mul, rdI, rdL, iI_lt, iI_le, iI_eq, iI_nat, iI_b2_0, iI_b2_1, mm_bI_some, mm_bV_some, mm_bL_some, mm_bA_some, fd_wL, fd_wR, fl_wI, fl_wR, re_wI, re_wL, re_wC, ite_true, ite_false, not_true_eq_false, not_false_eq_true, lq_ge, lq_le, lq_gt, lq_lt, lq_eq, jI_lt, jI_le, jI_eq, if_pos, if_neg, ca, cb, S_isHouse isS_13, e9, C_ref2]
      · by_cases z3 : a = b
        · simp (disch := omega) only [iI_lit, jI_lit, iI_neg, jI_neg, iI_add, iI_sub, iI_mul, jI_add, jI_sub, jI_mul, rdI, rdL, iI_lt, iI_le, iI_eq, iI_nat, iI_b2_0, iI_b2_1, mm_bI_some, mm_bV_some, mm_bL_some, mm_bA_some, fd_wL, fd_wR, fl_wI, fl_wR, re_wI, re_wL, re_wC, ite_true, ite_false, not_true_eq_false, not_false_eq_true, lq_ge, lq_le, lq_gt, lq_lt, lq_eq, jI_lt, jI_le, jI_eq, if_pos, if_neg, ca, cb, S_isHouse isS_13, e9, C_ref2]
        · simp (disch := omega) only [iI_lit, jI_lit, iI_neg, jI_neg, iI_add, iI_sub, iI_mul, jI_add, jI_sub, jI_mul, rdI, rdL, iI_lt, iI_le, iI_eq, iI_nat, iI_b2_0, iI_b2_1, mm_bI_some, mm_bV_some, mm_bL_some, mm_bA_some, fd_wL, fd_wR, fl_wI, fl_wR, re_wI, re_wL, re_wC, ite_true, ite_false, not_true_eq_false, not_false_eq_true, lq_ge, lq_le, lq_gt, lq_lt, lq_eq, jI_lt, jI_le, jI_eq, if_pos, if_neg, ca, cb, S_isHouse isS_13, e9, C_ref2]
    · have k264 : ∀ x, fd (wI h 229 2 (iI (fd h 229 2 + 1))) 264 x = fd h 264 x := fun x => fd_wI_row (by omega)
      have k38 := k264 38
      have k40 := k264 40
      have rep : RepR (wI h 229 2 (iI (fd h 229 2 + 1))) n := by
        intro z z1 z2
        show fd _ 300 z.toNat = _
        rw [fd_wI_row (by omega)]
        exact w4 z z1 z2
      have ra' := fun d => R_who (d := d) rep ((k264 40).trans e40) h8 (a := a) al au
      have rb' := fun d => R_who (d := d) rep ((k264 40).trans e40) h8 (a := b) bl bu
      rw [U_X12_change]
      by_cases z4 : 0 ≤ a ∧ a < hm
      · by_cases z5 : 0 ≤ b ∧ b < hm
        · by_cases z3 : a = b
          · simp (disch := omega) only [iI_lit, jI_lit, iI_neg, jI_neg, iI_add, iI_sub, iI_mul, jI_add, jI_sub, jI_mul, rdI, rdL, iI_lt, iI_le, iI_eq, iI_nat, iI_b2_0, iI_b2_1, mm_bI_some, mm_bV_some, mm_bL_some, mm_bA_some, fd_wL, fd_wR, fl_wI, fl_wR, re_wI, re_wL, re_wC, ite_true, ite_false, not_true_eq_false, not_false_eq_true, lq_ge, lq_le, lq_gt, lq_lt, lq_eq, jI_lt, jI_le, jI_eq, if_pos, if_neg, R_isHouse, k264, e38, e53, U_X12_isRefused, fd_wI_row]
            rfl
          · simp (disch := omega) only [iI_lit, jI_lit, iI_neg, jI_neg, iI_add, iI_sub, iI_mul, jI_add, jI_sub, jI_mul, rdI, rdL, iI_lt, iI_le, iI_eq, iI_nat, iI_b2_0, iI_b2_1, mm_bI_some, mm_bV_some, mm_bL_some, mm_bA_some, fd_wL, fd_wR, fl_wI, fl_wR, re_wI, re_wL, re_wC, ite_true, ite_false, not_true_eq_false, not_false_eq_true, lq_ge, lq_le, lq_gt, lq_lt, lq_eq, jI_lt, jI_le, jI_eq, if_pos, if_neg, R_isHouse, k264, e38, e53, ra', rb', U_X12_isRefused, fd_wI_row]
            rfl
        · simp (disch := omega) only [iI_lit, jI_lit, iI_neg, jI_neg, iI_add, iI_sub, iI_mul, jI_add, jI_sub, jI_mul, rdI, rdL, iI_lt, iI_le, iI_eq, iI_nat, iI_b2_0, iI_b2_1, mm_bI_some, mm_bV_some, mm_bL_some, mm_bA_some, fd_wL, fd_wR, fl_wI, fl_wR, re_wI, re_wL, re_wC, ite_true, ite_false, not_true_eq_false, not_false_eq_true, lq_ge, lq_le, lq_gt, lq_lt, lq_eq, jI_lt, jI_le, jI_eq, if_pos, if_neg, R_isHouse, k264, e38, e53, U_X12_isRefused, fd_wI_row]
          rfl
      · simp (disch := omega) only [iI_lit, jI_lit, iI_neg, jI_neg, iI_add, iI_sub, iI_mul, jI_add, jI_sub, jI_mul, rdI, rdL, iI_lt, iI_le, iI_eq, iI_nat, iI_b2_0, iI_b2_1, mm_bI_some, mm_bV_some, mm_bL_some, mm_bA_some, fd_wL, fd_wR, fl_wI, fl_wR, re_wI, re_wL, re_wC, ite_true, ite_false, not_true_eq_false, not_false_eq_true, lq_ge, lq_le, lq_gt, lq_lt, lq_eq, jI_lt, jI_le, jI_eq, if_pos, if_neg, R_isHouse, k264, e38, e53, U_X12_isRefused, fd_wI_row]
        rfl
end ACTC
