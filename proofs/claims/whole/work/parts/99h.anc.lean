/-! a question, answered: the class -/
def qJ (kind a i v : Int) : Int := if kind = 0 then (if a = -1 ∧ v = 1 then i else a) else if kind = 1 then (if v = 1 then i else a) else if kind ≤ 3 then a + v else if kind = 4 then (if i = 0 then v else max a v) else (if i = 0 then v else min a v)
def qF (kind : Int) (f : Int → Int) : Nat → Int → Int → Int
  | 0, _, a => a
  | k + 1, i, a => qF kind f k (i + 1) (qJ kind a i (f i))
theorem qJ0t {a i v : Int} (c1 : a = -1) (c2 : v = 1) : qJ 0 a i v = i := by
  unfold qJ
  rw [if_pos rfl, if_pos ⟨c1, c2⟩]
theorem qJ0f {a i v : Int} (c : ¬ (a = -1 ∧ v = 1)) : qJ 0 a i v = a := by
  unfold qJ
  rw [if_pos rfl, if_neg c]
theorem qJ1t {a i v : Int} (c : v = 1) : qJ 1 a i v = i := by
  unfold qJ
  rw [if_neg (by decide), if_pos rfl, if_pos c]
theorem qJ1f {a i v : Int} (c : ¬ v = 1) : qJ 1 a i v = a := by
  unfold qJ
  rw [if_neg (by decide), if_pos rfl, if_neg c]
theorem qJ2 {a i v : Int} : qJ 2 a i v = a + v := by
  unfold qJ
  rw [if_neg (by decide), if_neg (by decide), if_pos (by decide)]
theorem qJ3 {a i v : Int} : qJ 3 a i v = a + v := by
  unfold qJ
  rw [if_neg (by decide), if_neg (by decide), if_pos (by decide)]
theorem qJ4z {a i v : Int} (c : i = 0) : qJ 4 a i v = v := by
  unfold qJ
  rw [if_neg (by decide), if_neg (by decide), if_neg (by decide), if_pos rfl, if_pos c]
theorem qJ4 {a i v : Int} (c : ¬ i = 0) : qJ 4 a i v = max a v := by
  unfold qJ
  rw [if_neg (by decide), if_neg (by decide), if_neg (by decide), if_pos rfl, if_neg c]
theorem qJ5z {a i v : Int} (c : i = 0) : qJ 5 a i v = v := by
  unfold qJ
  rw [if_neg (by decide), if_neg (by decide), if_neg (by decide), if_neg (by decide), if_pos c]
theorem qJ5 {a i v : Int} (c : ¬ i = 0) : qJ 5 a i v = min a v := by
  unfold qJ
  rw [if_neg (by decide), if_neg (by decide), if_neg (by decide), if_neg (by decide), if_neg c]
theorem qJ_b {kind a i v : Int} (i0 : 0 ≤ i) (i8 : i < 8) (a1 : -1 - 1000000 * i ≤ a) (a2 : a ≤ 8 + 1000000 * i) (v1 : -1000000 ≤ v) (v2 : v ≤ 1000000) : -1 - 1000000 * (i + 1) ≤ qJ kind a i v ∧ qJ kind a i v ≤ 8 + 1000000 * (i + 1) := by
  unfold qJ
  repeat' split
  all_goals omega
theorem alw3 {k : Int} (h : alw 3 k = true) : k = 0 ∨ k = 1 ∨ k = 3 ∨ k = 4 ∨ k = 8 ∨ k = 9 ∨ k = 10 ∨ k = 11 ∨ k = 12 := by
  unfold alw at h
  rw [if_neg (by decide), if_neg (by decide), if_neg (by decide)] at h
  have := of_decide_eq_true h
  omega
def QAn : Nat → Nat → Prop := fun a k => a = 9 ∨ a = 10 ∨ (a = 5 ∧ k = 6)
def AnC (h : mm_H) (kind : Int) (c : List Int) : Prop := fd h 4 1 = kind + 25 ∧ fd h 7 3 = 0 ∧ fd h 8 3 = (c.length : Nat) ∧ fd h 5 5 = (c.length : Nat) ∧ CdC h 5 0 c
theorem Gq_b {pm hm i : Int} {fc kd n : Int → Int} (NN : NI pm hm n) (FF : FK pm fc kd) (y0 : 0 ≤ n 0 ∧ n 0 ≤ 999) (i0 : 0 ≤ i) (i1 : i < pm) : ∀ k, alw 3 k = true → -1000000 ≤ Gq fc kd n i k ∧ Gq fc kd n i k ≤ 1000000 := by
  intro k hk
  have a := NN.2.2.1 i i0 i1
  have f := FF i i0 i1
  have n1 := NN.1
  have n2 := NN.2.1
  unfold Gq
  repeat' split
  all_goals omega
theorem Oq_b {pm hm i : Int} {n : Int → Int} (NN : NI pm hm n) (i0 : 0 ≤ i) (i1 : i < pm) : ∀ k x, -1000000 ≤ Oq n pm i k x ∧ Oq n pm i k x ≤ 1000000 := by
  intro k x
  unfold Oq
  split
  · rename_i c
    have a := NN.2.2.2.1 i x i0 i1 c.1.1 c.1.2 (fun z => c.2 z.symm)
    have b := NN.2.2.2.1 x i c.1.1 c.1.2 i0 i1 c.2
    split
    · omega
    · omega
  · omega
section ANC
variable {d : Nat} {h : mm_H} {pm hm : Int} {fc kd n : Int → Int} {c : List Int} {kind : Int}
theorem AnC.kf {h' : mm_H} (A : AnC h kind c) (k : Kf QAn nL h h') : AnC h' kind c := ⟨(k.1 _ _ (by unfold QAn; omega)).trans A.1, (k.1 _ _ (by unfold QAn; omega)).trans A.2.1, (k.1 _ _ (by unfold QAn; omega)).trans A.2.2.1, (k.1 _ _ (by unfold QAn; omega)).trans A.2.2.2.1, A.2.2.2.2.congr (fun j => k.1 _ _ (by unfold QAn; omega))⟩
theorem J_maxL {a b : Int} (a1 : -9223372036854775808 ≤ a) (a2 : a < 9223372036854775808) (b1 : -9223372036854775808 ≤ b) (b2' : b < 9223372036854775808) : mm_M mm_T0 (d + 1) 10 [.long (jI a), .long (jI b)] h = some (some (.long (jI (max a b))), h) := by
  rw [U_J9_max_f86c9]
  by_cases c : a < b
  · rw [show max a b = b by omega]
    simp (disch := omega) only [iI_lit, jI_lit, iI_neg, jI_neg, iI_add, iI_sub, iI_mul, jI_add, jI_sub, jI_mul, rdI, rdL, iI_lt, iI_le, iI_eq, iI_nat, iI_b2_0, iI_b2_1, mm_bI_some, mm_bV_some, mm_bL_some, mm_bA_some, fd_wL, fd_wR, fl_wI, fl_wR, re_wI, re_wL, re_wC, ite_true, ite_false, not_true_eq_false, not_false_eq_true, lq_ge, lq_le, lq_gt, lq_lt, lq_eq, jI_lt, jI_le, jI_eq, if_pos, if_neg]
  · rw [show max a b = a by omega]
    simp (disch := omega) only [iI_lit, jI_lit, iI_neg, jI_neg, iI_add, iI_sub, iI_mul, jI_add, jI_sub, jI_mul, rdI, rdL, iI_lt, iI_le, iI_eq, iI_nat, iI_b2_0, iI_b2_1, mm_bI_some, mm_bV_some, mm_bL_some, mm_bA_some, fd_wL, fd_wR, fl_wI, fl_wR, re_wI, re_wL, re_wC, ite_true, ite_false, not_true_eq_false, not_false_eq_true, lq_ge, lq_le, lq_gt, lq_lt, lq_eq, jI_lt, jI_le, jI_eq, if_pos, if_neg]
theorem J_minL {a b : Int} (a1 : -9223372036854775808 ≤ a) (a2 : a < 9223372036854775808) (b1 : -9223372036854775808 ≤ b) (b2' : b < 9223372036854775808) : mm_M mm_T0 (d + 1) 12 [.long (jI a), .long (jI b)] h = some (some (.long (jI (min a b))), h) := by
  rw [U_J9_min_f86c9]
  by_cases c : b < a
  · rw [show min a b = b by omega]
    simp (disch := omega) only [iI_lit, jI_lit, iI_neg, jI_neg, iI_add, iI_sub, iI_mul, jI_add, jI_sub, jI_mul, rdI, rdL, iI_lt, iI_le, iI_eq, iI_nat, iI_b2_0, iI_b2_1, mm_bI_some, mm_bV_some, mm_bL_some, mm_bA_some, fd_wL, fd_wR, fl_wI, fl_wR, re_wI, re_wL, re_wC, ite_true, ite_false, not_true_eq_false, not_false_eq_true, lq_ge, lq_le, lq_gt, lq_lt, lq_eq, jI_lt, jI_le, jI_eq, if_pos, if_neg]
  · rw [show min a b = a by omega]
    simp (disch := omega) only [iI_lit, jI_lit, iI_neg, jI_neg, iI_add, iI_sub, iI_mul, jI_add, jI_sub, jI_mul, rdI, rdL, iI_lt, iI_le, iI_eq, iI_nat, iI_b2_0, iI_b2_1, mm_bI_some, mm_bV_some, mm_bL_some, mm_bA_some, fd_wL, fd_wR, fl_wI, fl_wR, re_wI, re_wL, re_wC, ite_true, ite_false, not_true_eq_false, not_false_eq_true, lq_ge, lq_le, lq_gt, lq_lt, lq_eq, jI_lt, jI_le, jI_eq, if_pos, if_neg]
set_option maxHeartbeats 8000000 in
theorem C_join {a i v : Int} (e : fd h 4 1 = kind + 25) (k0 : 0 ≤ kind) (k5 : kind ≤ 5) (hi : ¬ (i = 0 ∧ 4 ≤ kind)) (i0 : 0 ≤ i) (i8 : i < 8) (a1 : -100000000 ≤ a) (a2 : a ≤ 100000000) (v1 : -1000000 ≤ v) (v2 : v ≤ 1000000) : mm_M mm_T0 (d + 2) 72 [.ref 4, .long (jI a), .int (iI i), .int (iI v)] h = some (some (.long (jI (qJ kind a i v))), h) := by
  have kk : kind = 0 ∨ kind = 1 ∨ kind = 2 ∨ kind = 3 ∨ kind = 4 ∨ kind = 5 := by omega
  rcases kk with z | z | z | z | z | z <;> subst z
  · have e' : fd h 4 1 = 25 := by omega
    by_cases c1 : a = -1
    · by_cases c2 : v = 1
      · rw [qJ0t c1 c2, U_X5_joined]
        simp (disch := omega) only [iI_lit, jI_lit, iI_neg, jI_neg, iI_add, iI_sub, iI_mul, jI_add, jI_sub, jI_mul, rdI, rdL, iI_lt, iI_le, iI_eq, iI_nat, iI_b2_0, iI_b2_1, mm_bI_some, mm_bV_some, mm_bL_some, mm_bA_some, fd_wL, fd_wR, fl_wI, fl_wR, re_wI, re_wL, re_wC, ite_true, ite_false, not_true_eq_false, not_false_eq_true, lq_ge, lq_le, lq_gt, lq_lt, lq_eq, jI_lt, jI_le, jI_eq, if_pos, if_neg, e', iI_jI]
      · rw [qJ0f (fun q => c2 q.2), U_X5_joined]
        simp (disch := omega) only [iI_lit, jI_lit, iI_neg, jI_neg, iI_add, iI_sub, iI_mul, jI_add, jI_sub, jI_mul, rdI, rdL, iI_lt, iI_le, iI_eq, iI_nat, iI_b2_0, iI_b2_1, mm_bI_some, mm_bV_some, mm_bL_some, mm_bA_some, fd_wL, fd_wR, fl_wI, fl_wR, re_wI, re_wL, re_wC, ite_true, ite_false, not_true_eq_false, not_false_eq_true, lq_ge, lq_le, lq_gt, lq_lt, lq_eq, jI_lt, jI_le, jI_eq, if_pos, if_neg, e', iI_jI]
    · rw [qJ0f (fun q => c1 q.1), U_X5_joined]
      simp (disch := omega) only [iI_lit, jI_lit, iI_neg, jI_neg, iI_add, iI_sub, iI_mul, jI_add, jI_sub, jI_mul, rdI, rdL, iI_lt, iI_le, iI_eq, iI_nat, iI_b2_0, iI_b2_1, mm_bI_some, mm_bV_some, mm_bL_some, mm_bA_some, fd_wL, fd_wR, fl_wI, fl_wR, re_wI, re_wL, re_wC, ite_true, ite_false, not_true_eq_false, not_false_eq_true, lq_ge, lq_le, lq_gt, lq_lt, lq_eq, jI_lt, jI_le, jI_eq, if_pos, if_neg, e', iI_jI]
  · have e' : fd h 4 1 = 26 := by omega
    by_cases c2 : v = 1
    · rw [qJ1t c2, U_X5_joined]
      simp (disch := omega) only [iI_lit, jI_lit, iI_neg, jI_neg, iI_add, iI_sub, iI_mul, jI_add, jI_sub, jI_mul, rdI, rdL, iI_lt, iI_le, iI_eq, iI_nat, iI_b2_0, iI_b2_1, mm_bI_some, mm_bV_some, mm_bL_some, mm_bA_some, fd_wL, fd_wR, fl_wI, fl_wR, re_wI, re_wL, re_wC, ite_true, ite_false, not_true_eq_false, not_false_eq_true, lq_ge, lq_le, lq_gt, lq_lt, lq_eq, jI_lt, jI_le, jI_eq, if_pos, if_neg, e', iI_jI]
    · rw [qJ1f c2, U_X5_joined]
      simp (disch := omega) only [iI_lit, jI_lit, iI_neg, jI_neg, iI_add, iI_sub, iI_mul, jI_add, jI_sub, jI_mul, rdI, rdL, iI_lt, iI_le, iI_eq, iI_nat, iI_b2_0, iI_b2_1, mm_bI_some, mm_bV_some, mm_bL_some, mm_bA_some, fd_wL, fd_wR, fl_wI, fl_wR, re_wI, re_wL, re_wC, ite_true, ite_false, not_true_eq_false, not_false_eq_true, lq_ge, lq_le, lq_gt, lq_lt, lq_eq, jI_lt, jI_le, jI_eq, if_pos, if_neg, e', iI_jI]
  · have e' : fd h 4 1 = 27 := by omega
    rw [qJ2, U_X5_joined]
    simp (disch := omega) only [iI_lit, jI_lit, iI_neg, jI_neg, iI_add, iI_sub, iI_mul, jI_add, jI_sub, jI_mul, rdI, rdL, iI_lt, iI_le, iI_eq, iI_nat, iI_b2_0, iI_b2_1, mm_bI_some, mm_bV_some, mm_bL_some, mm_bA_some, fd_wL, fd_wR, fl_wI, fl_wR, re_wI, re_wL, re_wC, ite_true, ite_false, not_true_eq_false, not_false_eq_true, lq_ge, lq_le, lq_gt, lq_lt, lq_eq, jI_lt, jI_le, jI_eq, if_pos, if_neg, e', iI_jI]
  · have e' : fd h 4 1 = 28 := by omega
    rw [qJ3, U_X5_joined]
    simp (disch := omega) only [iI_lit, jI_lit, iI_neg, jI_neg, iI_add, iI_sub, iI_mul, jI_add, jI_sub, jI_mul, rdI, rdL, iI_lt, iI_le, iI_eq, iI_nat, iI_b2_0, iI_b2_1, mm_bI_some, mm_bV_some, mm_bL_some, mm_bA_some, fd_wL, fd_wR, fl_wI, fl_wR, re_wI, re_wL, re_wC, ite_true, ite_false, not_true_eq_false, not_false_eq_true, lq_ge, lq_le, lq_gt, lq_lt, lq_eq, jI_lt, jI_le, jI_eq, if_pos, if_neg, e', iI_jI]
  · have e' : fd h 4 1 = 29 := by omega
    rw [qJ4 (show ¬ i = 0 by omega), U_X5_joined]
    simp (disch := omega) only [iI_lit, jI_lit, iI_neg, jI_neg, iI_add, iI_sub, iI_mul, jI_add, jI_sub, jI_mul, rdI, rdL, iI_lt, iI_le, iI_eq, iI_nat, iI_b2_0, iI_b2_1, mm_bI_some, mm_bV_some, mm_bL_some, mm_bA_some, fd_wL, fd_wR, fl_wI, fl_wR, re_wI, re_wL, re_wC, ite_true, ite_false, not_true_eq_false, not_false_eq_true, lq_ge, lq_le, lq_gt, lq_lt, lq_eq, jI_lt, jI_le, jI_eq, if_pos, if_neg, e', iI_jI, J_maxL]
  · have e' : fd h 4 1 = 30 := by omega
    rw [qJ5 (show ¬ i = 0 by omega), U_X5_joined]
    simp (disch := omega) only [iI_lit, jI_lit, iI_neg, jI_neg, iI_add, iI_sub, iI_mul, jI_add, jI_sub, jI_mul, rdI, rdL, iI_lt, iI_le, iI_eq, iI_nat, iI_b2_0, iI_b2_1, mm_bI_some, mm_bV_some, mm_bL_some, mm_bA_some, fd_wL, fd_wR, fl_wI, fl_wR, re_wI, re_wL, re_wC, ite_true, ite_false, not_true_eq_false, not_false_eq_true, lq_ge, lq_le, lq_gt, lq_lt, lq_eq, jI_lt, jI_le, jI_eq, if_pos, if_neg, e', iI_jI, J_minL]
set_option maxHeartbeats 8000000 in
theorem C_setForQ (S : SR h 13 pm hm fc kd n) (NN : NI pm hm n) (FF : FK pm fc kd) (y0 : 0 ≤ n 0 ∧ n 0 ≤ 999) {i : Int} (i0 : 0 ≤ i) (i1 : i < pm) : ∃ h', mm_M mm_T0 (d + 3) 73 [.ref 4, .ref 13, .int (iI i)] h = some (none, h') ∧ (fd h' 9 16 = i ∧ fd h' 9 17 = n (1 + 3 * i) ∧ fd h' 9 11 = n (2 + 3 * i) ∧ fd h' 9 3 = fc i ∧ fd h' 9 4 = kd i ∧ fd h' 9 18 = n (3 + 3 * i) ∧ fd h' 9 15 = n 0) ∧ Kf (fun a _ => a = 9) nL h h' := by
  have h8 := NN.1.2
  have h9 := NN.2.1
  have na := NN.2.2.1 i i0 i1
  have fa := FF i i0 i1
  have sr : ∀ h', Kf (fun a _ => a = 9) nL h h' → SR h' 13 pm hm fc kd n := fun h' k => S.congr (fun a j a1 a2 => k.1 a j (by omega))
  have s16 : ∀ x y, mm_M mm_T0 (d + 2) 38 [.ref 5, .int (iI 16), .int (iI y)] x = some (none, wI x 9 16 (iI y)) := fun x y => C_setValue (d := d + 1) (c := 5) (w := 16) isC_q (by omega) (by omega)
  have s17 : ∀ x y, mm_M mm_T0 (d + 2) 38 [.ref 5, .int (iI 17), .int (iI y)] x = some (none, wI x 9 17 (iI y)) := fun x y => C_setValue (d := d + 1) (c := 5) (w := 17) isC_q (by omega) (by omega)
  have s11 : ∀ x y, mm_M mm_T0 (d + 2) 38 [.ref 5, .int (iI 11), .int (iI y)] x = some (none, wI x 9 11 (iI y)) := fun x y => C_setValue (d := d + 1) (c := 5) (w := 11) isC_q (by omega) (by omega)
  have s3 : ∀ x y, mm_M mm_T0 (d + 2) 38 [.ref 5, .int (iI 3), .int (iI y)] x = some (none, wI x 9 3 (iI y)) := fun x y => C_setValue (d := d + 1) (c := 5) (w := 3) isC_q (by omega) (by omega)
  have s4 : ∀ x y, mm_M mm_T0 (d + 2) 38 [.ref 5, .int (iI 4), .int (iI y)] x = some (none, wI x 9 4 (iI y)) := fun x y => C_setValue (d := d + 1) (c := 5) (w := 4) isC_q (by omega) (by omega)
  have s18 : ∀ x y, mm_M mm_T0 (d + 2) 38 [.ref 5, .int (iI 18), .int (iI y)] x = some (none, wI x 9 18 (iI y)) := fun x y => C_setValue (d := d + 1) (c := 5) (w := 18) isC_q (by omega) (by omega)
  have s15 : ∀ x y, mm_M mm_T0 (d + 2) 38 [.ref 5, .int (iI 15), .int (iI y)] x = some (none, wI x 9 15 (iI y)) := fun x y => C_setValue (d := d + 1) (c := 5) (w := 15) isC_q (by omega) (by omega)
  have q0 := s16 h (i)
  obtain ⟨x0, e0⟩ : ∃ x, wI h 9 16 (iI (i)) = x := ⟨_, rfl⟩
  rw [e0] at q0
  have k0 : Kf (fun a _ => a = 9) nL h x0 := by
    rw [← e0]
    exact Kf.refl.wI rfl
  have g1 := C_home (d := d) isS_13 (sr x0 k0) h8 i0 i1
  have q1 := s17 x0 (n (1 + 3 * i))
  obtain ⟨x1, e1⟩ : ∃ x, wI x0 9 17 (iI (n (1 + 3 * i))) = x := ⟨_, rfl⟩
  rw [e1] at q1
  have k1 : Kf (fun a _ => a = 9) nL h x1 := by
    rw [← e1]
    exact k0.wI rfl
  have g2 := C_look (d := d) isS_13 (sr x1 k1) h8 i0 i1
  have q2 := s11 x1 (n (2 + 3 * i))
  obtain ⟨x2, e2⟩ : ∃ x, wI x1 9 11 (iI (n (2 + 3 * i))) = x := ⟨_, rfl⟩
  rw [e2] at q2
  have k2 : Kf (fun a _ => a = 9) nL h x2 := by
    rw [← e2]
    exact k1.wI rfl
  have g3 := C_face (d := d) isS_13 (sr x2 k2) h8 i0 i1
  have q3 := s3 x2 (fc i)
  obtain ⟨x3, e3⟩ : ∃ x, wI x2 9 3 (iI (fc i)) = x := ⟨_, rfl⟩
  rw [e3] at q3
  have k3 : Kf (fun a _ => a = 9) nL h x3 := by
    rw [← e3]
    exact k2.wI rfl
  have g4 := C_kind (d := d) isS_13 (sr x3 k3) h8 i0 i1
  have q4 := s4 x3 (kd i)
  obtain ⟨x4, e4⟩ : ∃ x, wI x3 9 4 (iI (kd i)) = x := ⟨_, rfl⟩
  rw [e4] at q4
  have k4 : Kf (fun a _ => a = 9) nL h x4 := by
    rw [← e4]
    exact k3.wI rfl
  have g5 := C_spare (d := d) isS_13 (sr x4 k4) h8 i0 i1
  have q5 := s18 x4 (n (3 + 3 * i))
  obtain ⟨x5, e5⟩ : ∃ x, wI x4 9 18 (iI (n (3 + 3 * i))) = x := ⟨_, rfl⟩
  rw [e5] at q5
  have k5 : Kf (fun a _ => a = 9) nL h x5 := by
    rw [← e5]
    exact k4.wI rfl
  have r15 : x5.1 13 11 = iI (n 0) := rdE (sr x5 k5).2.2.1
  have q6 := s15 x5 (n 0)
  obtain ⟨x6, e6⟩ : ∃ x, wI x5 9 15 (iI (n 0)) = x := ⟨_, rfl⟩
  rw [e6] at q6
  have k6 : Kf (fun a _ => a = 9) nL h x6 := by
    rw [← e6]
    exact k5.wI rfl
  rw [← r15] at q6
  refine ⟨x6, ?_, ⟨?_, ?_, ?_, ?_, ?_, ?_, ?_⟩, k6⟩
  · rw [U_X5_setFor isS_13]
    (try simp only [iI_lit, iI_neg]) <;> simp (maxSteps := 1000000) (disch := decide) only [iI_lit, iI_neg, iI_add, mm_bI_some, mm_bV_some, mm_bL_some, ↓reduceIte, i10, i00, i11, eq_self, not_true_eq_false, not_false_eq_true, ite_true, ite_false, if_true, if_false, and_true, true_and, and_false, false_and, and_self, or_self, or_false, false_or, or_true, true_or, iI_eq, iI_lt, iI_le, Int.reduceEq, Int.reduceLT, Int.reduceLE, ↓bV_eq q0, ↓bI_eq g1, ↓bV_eq q1, ↓bI_eq g2, ↓bV_eq q2, ↓bI_eq g3, ↓bV_eq q3, ↓bI_eq g4, ↓bV_eq q4, ↓bI_eq g5, ↓bV_eq q5, ↓bV_eq q6]
  · rw [← e6, fd_wI_col (by omega), ← e5, fd_wI_col (by omega), ← e4, fd_wI_col (by omega), ← e3, fd_wI_col (by omega), ← e2, fd_wI_col (by omega), ← e1, fd_wI_col (by omega), ← e0]
    exact fd_wI_same (by omega) (by omega)
  · rw [← e6, fd_wI_col (by omega), ← e5, fd_wI_col (by omega), ← e4, fd_wI_col (by omega), ← e3, fd_wI_col (by omega), ← e2, fd_wI_col (by omega), ← e1]
    exact fd_wI_same (by omega) (by omega)
  · rw [← e6, fd_wI_col (by omega), ← e5, fd_wI_col (by omega), ← e4, fd_wI_col (by omega), ← e3, fd_wI_col (by omega), ← e2]
    exact fd_wI_same (by omega) (by omega)
  · rw [← e6, fd_wI_col (by omega), ← e5, fd_wI_col (by omega), ← e4, fd_wI_col (by omega), ← e3]
    exact fd_wI_same (by omega) (by omega)
  · rw [← e6, fd_wI_col (by omega), ← e5, fd_wI_col (by omega), ← e4]
    exact fd_wI_same (by omega) (by omega)
  · rw [← e6, fd_wI_col (by omega), ← e5]
    exact fd_wI_same (by omega) (by omega)
  · rw [← e6]
    exact fd_wI_same (by omega) (by omega)
set_option maxHeartbeats 8000000 in
theorem C_worth {b : Bool} (S : SR h 13 pm hm fc kd n) (NN : NI pm hm n) (FF : FK pm fc kd) (y0 : 0 ≤ n 0 ∧ n 0 ≤ 999) (A : AnC h kind c) (hl : c.length ≤ 1600) (hT : tyL (alw 3) c [] = some [b]) {i : Int} (i0 : 0 ≤ i) (i1 : i < pm) : ∃ h1 h2, mm_M mm_T0 (d + 3) 73 [.ref 4, .ref 13, .int (iI i)] h = some (none, h1) ∧ mm_M mm_T0 (d + 3) 39 [.ref 5, .int (iI 3), .ref 13] h1 = some (some (.int (iI (evv (Gq fc kd n i) (Oq n pm i) c))), h2) ∧ Kf QAn nL h h2 := by
  have h8 := NN.1
  obtain ⟨h1, m1, ⟨f16, f17, f11, f3, f4, f18, f15⟩, k1⟩ := C_setForQ (d := d) S NN FF y0 i0 i1
  have S1 : SR h1 13 pm hm fc kd n := S.congr (fun a j a1 a2 => k1.1 a j (by omega))
  have K1 : Kf QAn nL h h1 := k1.monoQ (fun a j q => Or.inl q)
  have A1 := A.kf K1
  have e10 : fd h1 13 10 = pm := S1.1
  have hg : ∀ j, alw 3 j = true → 0 ≤ j → j ≤ 10 → fd h1 (5 + 4) (wd j).toNat = Gq fc kd n i j := by
    intro j a1 a2 a3
    have hj := alw3 a1
    have hj2 : j = 0 ∨ j = 1 ∨ j = 3 ∨ j = 4 ∨ j = 8 ∨ j = 9 ∨ j = 10 := by omega
    rcases hj2 with z | z | z | z | z | z | z <;> subst z
    · exact f3
    · exact f4
    · exact f15
    · exact f11
    · exact f16
    · exact f17
    · exact f18
  have ho : ∀ v x, (v = 0 ∨ v = 1) → alw 3 (11 + v) = true → -1000000 ≤ x → x ≤ 1000000 → OC h1 5 13 v x = Oq n pm i v x := by
    intro v x hv a1 x1 x2
    have f16' : fd h1 (5 + 4) 16 = i := f16
    unfold OC Oq
    rw [f16', e10]
    rcases hv with z | z <;> subst z
    · rw [if_pos rfl]
      by_cases q : (0 ≤ x ∧ x < pm) ∧ x ≠ i
      · rw [if_pos ⟨⟨i0, i1⟩, q.1, fun z => q.2 z.symm⟩, if_pos q, if_pos rfl]
        exact S1.2.2.2.2.1 i x i0 i1 q.1.1 q.1.2 (fun z => q.2 z.symm)
      · rw [if_neg (fun y => q ⟨y.2.1, fun z => y.2.2 z.symm⟩), if_neg q]
    · rw [if_neg (by decide)]
      by_cases q : (0 ≤ x ∧ x < pm) ∧ x ≠ i
      · rw [if_pos ⟨q.1, ⟨i0, i1⟩, q.2⟩, if_pos q, if_neg (by decide)]
        exact S1.2.2.2.2.1 x i q.1.1 q.1.2 i0 i1 q.2
      · rw [if_neg (fun y => q ⟨y.1, y.2.2⟩), if_neg q]
  obtain ⟨h2, m2, k2⟩ := C_work (d := d) (c0 := 5) (s := 13) isC_q isS_13 (w := 3) (f := 0) (by omega) (by omega) (al := alw 3) (G := Gq fc kd n i) (O := Oq n pm i) (Oq_b NN i0 i1) (Gq_b NN FF y0 i0 i1) (b := b) (c := c) (h := h1) A1.2.1 (by omega) (by rw [Int.zero_add]; exact A1.2.2.1) (by rw [Int.zero_add, A1.2.2.2.1]; exact Int.le_refl _) (by rw [A1.2.2.2.1]; omega) A1.2.2.2.2 hT (by rw [e10]; omega) hg ho
  exact ⟨h1, h2, m1, m2, K1.trans (k2.monoQ (fun a j q => by unfold QC at q; unfold QAn; omega))⟩
set_option maxHeartbeats 8000000 in
theorem C_ans_39 {b : Bool} (NN : NI pm hm n) (FF : FK pm fc kd) (y0 : 0 ≤ n 0 ∧ n 0 ≤ 999) (k0 : 0 ≤ kind) (k5 : kind ≤ 5) (hl : c.length ≤ 1600) (hT : tyL (alw 3) c [] = some [b]) : ∀ (k : Nat) (i a : Int) (h : mm_H), 0 ≤ i → i + k = pm → SR h 13 pm hm fc kd n → AnC h kind c → -1 - 1000000 * i ≤ a → a ≤ 8 + 1000000 * i → ∃ h', mm_D (mm_M mm_T0 (d + 3)) cd_X5_answer 39 [.ref 4, .ref 13, .null, .long (jI a), .null, .int (iI i), .null] [] h = some (some (.long (jI (qF kind (fun j => evv (Gq fc kd n j) (Oq n pm j) c) k i a))), h') ∧ Kf QAn nL h h'
  | 0, i, a, h, i0, ik, S, A, a1, a2 => by
    have h8 := NN.1
    have e10 : fd h 13 10 = pm := S.1
    refine ⟨h, ?_, Kf.refl⟩
    rw [U_X5_answer_39 isS_13, qF]
    simp (disch := omega) only [iI_lit, jI_lit, iI_neg, jI_neg, iI_add, iI_sub, iI_mul, jI_add, jI_sub, jI_mul, rdI, rdL, iI_lt, iI_le, iI_eq, iI_nat, iI_b2_0, iI_b2_1, mm_bI_some, mm_bV_some, mm_bL_some, mm_bA_some, fd_wL, fd_wR, fl_wI, fl_wR, re_wI, re_wL, re_wC, ite_true, ite_false, not_true_eq_false, not_false_eq_true, lq_ge, lq_le, lq_gt, lq_lt, lq_eq, jI_lt, jI_le, jI_eq, if_pos, if_neg, e10]
  | k + 1, i, a, h, i0, ik, S, A, a1, a2 => by
    have h8 := NN.1
    have i1 : i < pm := by omega
    have e10 : fd h 13 10 = pm := S.1
    obtain ⟨g1, g2, m1, m2, K2⟩ := C_worth (d := d) S NN FF y0 A hl hT i0 i1
    have A2 := A.kf K2
    have e41 := A2.1
    have S2 : SR g2 13 pm hm fc kd n := S.congr (fun a j a1 a2 => K2.1 a j (by unfold QAn; omega))
    have vb := evv_b (Gq_b NN FF y0 i0 i1) (Oq_b NN i0 i1) hT
    have v1 := vb.1
    have v2 := vb.2.1
    rw [qF]
    generalize evv (Gq fc kd n i) (Oq n pm i) c = v at *
    have jb := qJ_b (kind := kind) i0 (by omega) a1 a2 v1 v2
    obtain ⟨g3, n1, K3⟩ := C_ans_39 NN FF y0 k0 k5 hl hT k (i + 1) (qJ kind a i v) g2 (by omega) (by omega) S2 A2 jb.1 jb.2
    refine ⟨g3, ?_, K2.trans K3⟩
    rw [← n1, U_X5_answer_39 isS_13]
    by_cases ci : i = 0 ∧ 4 ≤ kind
    · have ej : qJ kind a i v = v := by
        unfold qJ
        rw [if_neg (by omega), if_neg (by omega), if_neg (by omega)]
        split <;> rw [if_pos ci.1]
      rw [ej]
      have ci1 := ci.1
      by_cases c4 : kind = 4
      · have e' : fd g2 4 1 = 29 := by omega
        simp (disch := omega) only [iI_lit, jI_lit, iI_neg, jI_neg, iI_add, iI_sub, iI_mul, jI_add, jI_sub, jI_mul, rdI, rdL, iI_lt, iI_le, iI_eq, iI_nat, iI_b2_0, iI_b2_1, mm_bI_some, mm_bV_some, mm_bL_some, mm_bA_some, fd_wL, fd_wR, fl_wI, fl_wR, re_wI, re_wL, re_wC, ite_true, ite_false, not_true_eq_false, not_false_eq_true, lq_ge, lq_le, lq_gt, lq_lt, lq_eq, jI_lt, jI_le, jI_eq, if_pos, if_neg, e10, m1, m2, e', iI_jI]
      · have e' : fd g2 4 1 = 30 := by omega
        simp (disch := omega) only [iI_lit, jI_lit, iI_neg, jI_neg, iI_add, iI_sub, iI_mul, jI_add, jI_sub, jI_mul, rdI, rdL, iI_lt, iI_le, iI_eq, iI_nat, iI_b2_0, iI_b2_1, mm_bI_some, mm_bV_some, mm_bL_some, mm_bA_some, fd_wL, fd_wR, fl_wI, fl_wR, re_wI, re_wL, re_wC, ite_true, ite_false, not_true_eq_false, not_false_eq_true, lq_ge, lq_le, lq_gt, lq_lt, lq_eq, jI_lt, jI_le, jI_eq, if_pos, if_neg, e10, m1, m2, e', iI_jI]
    · have cj := C_join (d := d + 1) (h := g2) (a := a) (i := i) (v := v) e41 k0 k5 ci i0 (by omega) (by omega) (by omega) v1 v2
      by_cases c0 : i = 0
      · have e' : fd g2 4 1 ≠ 29 ∧ fd g2 4 1 ≠ 30 := by omega
        have e1' := e'.1
        have e2' := e'.2
        have := fd_lo g2 4 1; have := fd_hi g2 4 1
        simp (disch := omega) only [iI_lit, jI_lit, iI_neg, jI_neg, iI_add, iI_sub, iI_mul, jI_add, jI_sub, jI_mul, rdI, rdL, iI_lt, iI_le, iI_eq, iI_nat, iI_b2_0, iI_b2_1, mm_bI_some, mm_bV_some, mm_bL_some, mm_bA_some, fd_wL, fd_wR, fl_wI, fl_wR, re_wI, re_wL, re_wC, ite_true, ite_false, not_true_eq_false, not_false_eq_true, lq_ge, lq_le, lq_gt, lq_lt, lq_eq, jI_lt, jI_le, jI_eq, if_pos, if_neg, e10, m1, m2, cj]
      · simp (disch := omega) only [iI_lit, jI_lit, iI_neg, jI_neg, iI_add, iI_sub, iI_mul, jI_add, jI_sub, jI_mul, rdI, rdL, iI_lt, iI_le, iI_eq, iI_nat, iI_b2_0, iI_b2_1, mm_bI_some, mm_bV_some, mm_bL_some, mm_bA_some, fd_wL, fd_wR, fl_wI, fl_wR, re_wI, re_wL, re_wC, ite_true, ite_false, not_true_eq_false, not_false_eq_true, lq_ge, lq_le, lq_gt, lq_lt, lq_eq, jI_lt, jI_le, jI_eq, if_pos, if_neg, e10, m1, m2, cj]
set_option maxHeartbeats 8000000 in
theorem C_answer {b : Bool} (NN : NI pm hm n) (FF : FK pm fc kd) (y0 : 0 ≤ n 0 ∧ n 0 ≤ 999) (k0 : 0 ≤ kind) (k5 : kind ≤ 5) (hl : c.length ≤ 1600) (hT : tyL (alw 3) c [] = some [b]) (S : SR h 13 pm hm fc kd n) (A : AnC h kind c) : ∃ h', mm_M mm_T0 (d + 4) 71 [.ref 4, .ref 13] h = some (some (.long (jI (qF kind (fun j => evv (Gq fc kd n j) (Oq n pm j) c) pm.toNat 0 (if kind < 2 then -1 else 0)))), h') ∧ Kf QAn nL h h' := by
  have h8 := NN.1
  have e41 := A.1
  by_cases ck : kind < 2
  · rw [if_pos ck]
    obtain ⟨h', m1, m2⟩ := C_ans_39 (d := d) NN FF y0 k0 k5 hl hT pm.toNat 0 (-1) h (by omega) (by omega) S A (by omega) (by omega)
    refine ⟨h', ?_, m2⟩
    rw [← m1, U_X5_answer isS_13]
    by_cases c0 : kind = 0
    · have e' : fd h 4 1 = 25 := by omega
      simp (disch := omega) only [iI_lit, jI_lit, iI_neg, jI_neg, iI_add, iI_sub, iI_mul, jI_add, jI_sub, jI_mul, rdI, rdL, iI_lt, iI_le, iI_eq, iI_nat, iI_b2_0, iI_b2_1, mm_bI_some, mm_bV_some, mm_bL_some, mm_bA_some, fd_wL, fd_wR, fl_wI, fl_wR, re_wI, re_wL, re_wC, ite_true, ite_false, not_true_eq_false, not_false_eq_true, lq_ge, lq_le, lq_gt, lq_lt, lq_eq, jI_lt, jI_le, jI_eq, if_pos, if_neg, e']
    · have e' : fd h 4 1 = 26 := by omega
      simp (disch := omega) only [iI_lit, jI_lit, iI_neg, jI_neg, iI_add, iI_sub, iI_mul, jI_add, jI_sub, jI_mul, rdI, rdL, iI_lt, iI_le, iI_eq, iI_nat, iI_b2_0, iI_b2_1, mm_bI_some, mm_bV_some, mm_bL_some, mm_bA_some, fd_wL, fd_wR, fl_wI, fl_wR, re_wI, re_wL, re_wC, ite_true, ite_false, not_true_eq_false, not_false_eq_true, lq_ge, lq_le, lq_gt, lq_lt, lq_eq, jI_lt, jI_le, jI_eq, if_pos, if_neg, e']
  · rw [if_neg ck]
    obtain ⟨h', m1, m2⟩ := C_ans_39 (d := d) NN FF y0 k0 k5 hl hT pm.toNat 0 0 h (by omega) (by omega) S A (by omega) (by omega)
    refine ⟨h', ?_, m2⟩
    rw [← m1, U_X5_answer isS_13]
    have := fd_lo h 4 1; have := fd_hi h 4 1
    have e1 : fd h 4 1 ≠ 25 := by omega
    have e2 : fd h 4 1 ≠ 26 := by omega
    simp (disch := omega) only [iI_lit, jI_lit, iI_neg, jI_neg, iI_add, iI_sub, iI_mul, jI_add, jI_sub, jI_mul, rdI, rdL, iI_lt, iI_le, iI_eq, iI_nat, iI_b2_0, iI_b2_1, mm_bI_some, mm_bV_some, mm_bL_some, mm_bA_some, fd_wL, fd_wR, fl_wI, fl_wR, re_wI, re_wL, re_wC, ite_true, ite_false, not_true_eq_false, not_false_eq_true, lq_ge, lq_le, lq_gt, lq_lt, lq_eq, jI_lt, jI_le, jI_eq, if_pos, if_neg]
end ANC
