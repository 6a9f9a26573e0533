/-! the reference's pile of what waits, and its codes -/
def QQ : Nat → Nat → Prop := fun a k => (a = 264 ∧ (k = 2 ∨ k = 4 ∨ k = 5 ∨ k = 6 ∨ k = 10 ∨ k = 36 ∨ k = 102 ∨ k = 104 ∨ k = 105 ∨ k = 106)) ∨ a = 332 ∨ a = 333
def Qwk : Nat → Nat → Prop := fun a k => (a = 264 ∧ (k = 102 ∨ k = 104 ∨ k = 105)) ∨ a = 332 ∨ a = 333
/-- T waits above the base, U below it (the top first); C is coded; o stand open -/
def Qst (g : mm_H) (T U C : List Int) (o : Nat) : Prop := (fd g 264 104 = ((T ++ U).length : Nat) ∧ PC g 333 (T ++ U)) ∧ (fd g 264 102 = (C.length : Nat) ∧ ∀ i v, C[i]? = some v → fd g 332 i = v) ∧ fd g 264 105 = (o : Nat) ∧ fd g 264 106 = (U.length : Nat)
/-- the first bracket from the top on -/
def brk : List Int → Int
  | [] => -1
  | x :: r => if 20 ≤ x ∧ x ≤ 24 then x else brk r
section RQ
variable {d : Nat} {g : mm_H} {T U C : List Int} {o : Nat} {x : Int}
theorem Qst.kf {g' : mm_H} {Q L : Nat → Nat → Prop} (S : Qst g T U C o) (k : Kf Q L g g') (q : ∀ a j, (a = 264 ∧ (j = 102 ∨ j = 104 ∨ j = 105 ∨ j = 106)) ∨ a = 332 ∨ a = 333 → ¬ Q a j) : Qst g' T U C o := ⟨⟨(k.1 _ _ (q _ _ (by omega))).trans S.1.1, S.1.2.congr (fun j _ => k.1 _ _ (q _ _ (by omega)))⟩, ⟨(k.1 _ _ (q _ _ (by omega))).trans S.2.1.1, fun i v h => (k.1 _ _ (q _ _ (by omega))).trans (S.2.1.2 i v h)⟩, (k.1 _ _ (q _ _ (by omega))).trans S.2.2.1, (k.1 _ _ (q _ _ (by omega))).trans S.2.2.2⟩
theorem Qst.tk {g' : mm_H} (S : Qst g T U C o) (k : Kf QTk nL g g') : Qst g' T U C o := S.kf k (by intro a j; unfold QTk; omega)
theorem kTQ {g' : mm_H} (k : Kf QTk nL g g') : Kf QQ nL g g' := k.monoQ (fun a j q => by unfold QTk at q; unfold QQ; omega)
theorem kWQ {g' : mm_H} (k : Kf Qwk nL g g') : Kf QQ nL g g' := k.monoQ (fun a j q => by unfold Qwk at q; unfold QQ; omega)
theorem RS.kw {g' : mm_H} {b : Nat → Int} {E p : Nat} {gl : Bool} (R : RS g b E p gl) (k : Kf Qwk nL g g') : RS g' b E p gl := by
  have z : ∀ j, (j = 2 ∨ j = 3 ∨ j = 4 ∨ j = 5 ∨ j = 6) → fd g' 264 j = fd g 264 j := fun j hj => k.1 264 j (by unfold Qwk; omega)
  obtain ⟨T, hp, h5, ha, hg, h6⟩ := R
  refine ⟨T.kf k (by intro a j; unfold Qwk; omega), hp, (z 5 (by omega)).trans h5, ?_, ?_, (z 6 (by omega)).trans h6⟩
  · rw [z 2 (by omega)]
    exact ha
  · rw [z 4 (by omega)]
    exact hg
set_option maxHeartbeats 8000000 in
theorem R_code (S : Qst g T U C o) (hn : C.length < 1700) (x1 : -2147483648 ≤ x) (x2 : x < 2147483648) : ∃ g', mm_M mm_T0 (d + 1) 285 [.ref 264, .int (iI x)] g = some (none, g') ∧ Qst g' T U (C ++ [x]) o ∧ Kf Qwk nL g g' := by
  have e := S.2.1.1
  have nn : ((C.length : Nat) : Int).toNat = C.length := by omega
  have f : fd (wI g 332 C.length (iI x)) 264 102 = (C.length : Nat) := by rw [fd_wI_row (by omega)]; exact e
  have K : Kf Qwk nL g (wI (wI g 332 C.length (iI x)) 264 102 (iI (((C.length : Nat) : Int) + 1))) := (Kf.refl.wI (by unfold Qwk; omega)).wI (by unfold Qwk; omega)
  have z : ∀ j, j ≠ 102 → fd (wI (wI g 332 C.length (iI x)) 264 102 (iI (((C.length : Nat) : Int) + 1))) 264 j = fd g 264 j := fun j hj => by rw [fd_wI_col hj, fd_wI_row (by omega)]
  refine ⟨_, ?_, ⟨⟨(z 104 (by omega)).trans S.1.1, S.1.2.congr (fun j _ => by rw [fd_wI_row (by omega), fd_wI_row (by omega)])⟩, ⟨?_, ?_⟩, (z 105 (by omega)).trans S.2.2.1, (z 106 (by omega)).trans S.2.2.2⟩, K⟩
  · rw [U_X12_qCode]
    simp (disch := omega) only [iI_lit, jI_lit, iI_neg, jI_neg, iI_add, iI_sub, iI_mul, jI_add, jI_sub, jI_mul, rdI, rdL, iI_lt, iI_le, iI_eq, iI_nat, iI_b2_0, iI_b2_1, mm_bI_some, mm_bV_some, mm_bL_some, mm_bA_some, fd_wL, fd_wR, fl_wI, fl_wR, re_wI, re_wL, re_wC, ite_true, ite_false, not_true_eq_false, not_false_eq_true, lq_ge, lq_le, lq_gt, lq_lt, lq_eq, jI_lt, jI_le, jI_eq, if_pos, if_neg, e, nn, f]
  · rw [fd_wI_same (by omega) (by omega), List.length_append, List.length_singleton]
    omega
  · intro i u hi
    rw [fd_wI_row (by omega)]
    by_cases ci : i < C.length
    · rw [List.getElem?_append_left ci] at hi
      rw [fd_wI_col (by omega)]
      exact S.2.1.2 i u hi
    · have hh := (List.getElem?_eq_some_iff.mp hi).1
      rw [List.length_append, List.length_singleton] at hh
      have ei : i = C.length := by omega
      rw [ei, List.getElem?_append_right (Nat.le_refl _), Nat.sub_self] at hi
      have ev : x = u := by simpa using hi
      rw [ei, fd_wI_same x1 x2, ev]
/-- the top is taken off -/
theorem Qst.pop (S : Qst g (x :: T) U C o) (hn : (T ++ U).length < 1700) : Qst (wI g 264 104 (iI ((T ++ U).length : Nat))) T U C o ∧ fd (wI g 264 104 (iI ((T ++ U).length : Nat))) 333 (T ++ U).length = x ∧ fd g 264 104 = ((T ++ U).length : Nat) + 1 ∧ fd g 333 (T ++ U).length = x := by
  have p := S.1.2
  have p' : fd g 333 (T ++ U).length = x ∧ PC g 333 (T ++ U) := p
  have z : ∀ j, j ≠ 104 → fd (wI g 264 104 (iI ((T ++ U).length : Nat))) 264 j = fd g 264 j := fun j hj => fd_wI_col hj
  have z2 : ∀ a j, a ≠ 264 → fd (wI g 264 104 (iI ((T ++ U).length : Nat))) a j = fd g a j := fun a j ha => fd_wI_row ha
  refine ⟨⟨⟨fd_wI_same (by omega) (by omega), p'.2.congr (fun j _ => z2 _ _ (by omega))⟩, ⟨(z 102 (by omega)).trans S.2.1.1, fun i v h => (z2 _ _ (by omega)).trans (S.2.1.2 i v h)⟩, (z 105 (by omega)).trans S.2.2.1, (z 106 (by omega)).trans S.2.2.2⟩, ?_, ?_, p'.1⟩
  · rw [z2 _ _ (by omega)]
    exact p'.1
  · rw [S.1.1, List.cons_append, List.length_cons]
    omega
set_option maxHeartbeats 8000000 in
theorem R_drop (S : Qst g (x :: T) U C o) (hn : (T ++ U).length < 1600) (hc : C.length < 1700) : ∃ g', mm_M mm_T0 (d + 2) 288 [.ref 264] g = some (none, g') ∧ Qst g' T U (C ++ [x]) o ∧ Kf Qwk nL g g' := by
  obtain ⟨S1, f1, f2, f3⟩ := S.pop (by omega)
  have xb : -2147483648 ≤ x ∧ x < 2147483648 := by rw [← f3]; exact ⟨fd_lo _ _ _, fd_hi _ _ _⟩
  have e : ((T ++ U).length : Nat) + (1 : Int) - 1 = ((T ++ U).length : Nat) := by omega
  have f4 := S1.1.1
  have nn : (((T ++ U).length : Nat) : Int).toNat = (T ++ U).length := by omega
  obtain ⟨g', m1, m2, m3⟩ := R_code (d := d) S1 hc xb.1 xb.2
  refine ⟨g', ?_, m2, Kf.trans (Kf.refl.wI (by unfold Qwk; omega)) m3⟩
  rw [U_X12_qDrops]
  simp (disch := omega) only [iI_lit, jI_lit, iI_neg, jI_neg, iI_add, iI_sub, iI_mul, jI_add, jI_sub, jI_mul, rdI, rdL, iI_lt, iI_le, iI_eq, iI_nat, iI_b2_0, iI_b2_1, mm_bI_some, mm_bV_some, mm_bL_some, mm_bA_some, fd_wL, fd_wR, fl_wI, fl_wR, re_wI, re_wL, re_wC, ite_true, ite_false, not_true_eq_false, not_false_eq_true, lq_ge, lq_le, lq_gt, lq_lt, lq_eq, jI_lt, jI_le, jI_eq, if_pos, if_neg, f2, e, f4, nn, f1, m1]
set_option maxHeartbeats 8000000 in
theorem R_push (S : Qst g T U C o) (hn : (T ++ U).length < 1600) (x1 : -2147483648 ≤ x) (x2 : x < 2147483648) : Qst (wI (wI g 333 (T ++ U).length (iI x)) 264 104 (iI (((T ++ U).length : Nat) + 1))) (x :: T) U C o ∧ fd (wI g 333 (T ++ U).length (iI x)) 264 104 = ((T ++ U).length : Nat) ∧ Kf Qwk nL g (wI (wI g 333 (T ++ U).length (iI x)) 264 104 (iI (((T ++ U).length : Nat) + 1))) := by
  have z : ∀ j, j ≠ 104 → fd (wI (wI g 333 (T ++ U).length (iI x)) 264 104 (iI (((T ++ U).length : Nat) + 1))) 264 j = fd g 264 j := fun j hj => by rw [fd_wI_col hj, fd_wI_row (by omega)]
  refine ⟨⟨⟨?_, ?_, ?_⟩, ⟨(z 102 (by omega)).trans S.2.1.1, fun i v h => by rw [fd_wI_row (by omega), fd_wI_row (by omega)]; exact S.2.1.2 i v h⟩, (z 105 (by omega)).trans S.2.2.1, (z 106 (by omega)).trans S.2.2.2⟩, ?_, (Kf.refl.wI (by unfold Qwk; omega)).wI (by unfold Qwk; omega)⟩
  · rw [fd_wI_same (by omega) (by omega), List.cons_append, List.length_cons]
    omega
  · rw [fd_wI_row (by omega)]
    exact fd_wI_same x1 x2
  · refine S.1.2.congr (fun j hj => ?_)
    rw [fd_wI_row (by omega), fd_wI_col (by omega)]
  · rw [fd_wI_row (by omega)]
    exact S.1.1
set_option maxHeartbeats 8000000 in
theorem R_isOn (S : Qst g T U C o) (hn : (T ++ U).length < 1700) (x1 : -2147483648 ≤ x) (x2 : x < 2147483648) : mm_M mm_T0 (d + 1) 287 [.ref 264, .int (iI x)] g = some (some (.int (iI (b2 ((T ++ U).head? = some x)))), g) := by
  have e := S.1.1
  have p := S.1.2
  rw [U_X12_qIsOn]
  cases h : T ++ U with
  | nil =>
    rw [h] at e
    have e0 : fd g 264 104 = 0 := e
    rw [b2_f (by simp)]
    simp (disch := omega) only [iI_lit, jI_lit, iI_neg, jI_neg, iI_add, iI_sub, iI_mul, jI_add, jI_sub, jI_mul, rdI, rdL, iI_lt, iI_le, iI_eq, iI_nat, iI_b2_0, iI_b2_1, mm_bI_some, mm_bV_some, mm_bL_some, mm_bA_some, fd_wL, fd_wR, fl_wI, fl_wR, re_wI, re_wL, re_wC, ite_true, ite_false, not_true_eq_false, not_false_eq_true, lq_ge, lq_le, lq_gt, lq_lt, lq_eq, jI_lt, jI_le, jI_eq, if_pos, if_neg, e0]
  | cons y r =>
    rw [h] at e p hn
    rw [List.length_cons] at e hn
    have py : fd g 333 r.length = y := p.1
    have yb : -2147483648 ≤ y ∧ y < 2147483648 := by rw [← py]; exact ⟨fd_lo _ _ _, fd_hi _ _ _⟩
    have nn : (((r.length + 1 : Nat) : Int) - 1).toNat = r.length := by omega
    by_cases c : y = x
    · rw [b2_t (by rw [c]; rfl)]
      simp (disch := omega) only [iI_lit, jI_lit, iI_neg, jI_neg, iI_add, iI_sub, iI_mul, jI_add, jI_sub, jI_mul, rdI, rdL, iI_lt, iI_le, iI_eq, iI_nat, iI_b2_0, iI_b2_1, mm_bI_some, mm_bV_some, mm_bL_some, mm_bA_some, fd_wL, fd_wR, fl_wI, fl_wR, re_wI, re_wL, re_wC, ite_true, ite_false, not_true_eq_false, not_false_eq_true, lq_ge, lq_le, lq_gt, lq_lt, lq_eq, jI_lt, jI_le, jI_eq, if_pos, if_neg, e, nn, py]
    · rw [b2_f (by intro z; exact c (by simpa using z))]
      simp (disch := omega) only [iI_lit, jI_lit, iI_neg, jI_neg, iI_add, iI_sub, iI_mul, jI_add, jI_sub, jI_mul, rdI, rdL, iI_lt, iI_le, iI_eq, iI_nat, iI_b2_0, iI_b2_1, mm_bI_some, mm_bV_some, mm_bL_some, mm_bA_some, fd_wL, fd_wR, fl_wI, fl_wR, re_wI, re_wL, re_wC, ite_true, ite_false, not_true_eq_false, not_false_eq_true, lq_ge, lq_le, lq_gt, lq_lt, lq_eq, jI_lt, jI_le, jI_eq, if_pos, if_neg, e, nn, py]
set_option maxHeartbeats 8000000 in
theorem R_isBracket (x1 : -2147483648 ≤ x) (x2 : x < 2147483648) : mm_M mm_T0 (d + 1) 289 [.int (iI x)] g = some (some (.int (iI (b2 (20 ≤ x ∧ x ≤ 24)))), g) := by
  rw [U_X12_qIsBracket]
  by_cases c : 20 ≤ x ∧ x ≤ 24
  · rw [b2_t c]
    simp (disch := omega) only [iI_lit, jI_lit, iI_neg, jI_neg, iI_add, iI_sub, iI_mul, jI_add, jI_sub, jI_mul, rdI, rdL, iI_lt, iI_le, iI_eq, iI_nat, iI_b2_0, iI_b2_1, mm_bI_some, mm_bV_some, mm_bL_some, mm_bA_some, fd_wL, fd_wR, fl_wI, fl_wR, re_wI, re_wL, re_wC, ite_true, ite_false, not_true_eq_false, not_false_eq_true, lq_ge, lq_le, lq_gt, lq_lt, lq_eq, jI_lt, jI_le, jI_eq, if_pos, if_neg]
  · rw [b2_f c]
    by_cases c2 : x < 20 <;> simp (disch := omega) only [iI_lit, jI_lit, iI_neg, jI_neg, iI_add, iI_sub, iI_mul, jI_add, jI_sub, jI_mul, rdI, rdL, iI_lt, iI_le, iI_eq, iI_nat, iI_b2_0, iI_b2_1, mm_bI_some, mm_bV_some, mm_bL_some, mm_bA_some, fd_wL, fd_wR, fl_wI, fl_wR, re_wI, re_wL, re_wC, ite_true, ite_false, not_true_eq_false, not_false_eq_true, lq_ge, lq_le, lq_gt, lq_lt, lq_eq, jI_lt, jI_le, jI_eq, if_pos, if_neg]
set_option maxHeartbeats 8000000 in
theorem R_brk_7 (e6 : fd g 264 106 = (U.length : Nat)) : ∀ (T : List Int), PC g 333 (T ++ U) → (T ++ U).length < 1700 → mm_D (mm_M mm_T0 (d + 1)) cd_X12_qBracket 7 [.ref 264, .int (iI (((T ++ U).length : Nat) - 1))] [] g = some (some (.int (iI (brk T))), g)
  | [], p, hn => by
    rw [brk, U_X12_qBracket_7]
    rw [List.nil_append] at hn ⊢
    simp (disch := omega) only [iI_lit, jI_lit, iI_neg, jI_neg, iI_add, iI_sub, iI_mul, jI_add, jI_sub, jI_mul, rdI, rdL, iI_lt, iI_le, iI_eq, iI_nat, iI_b2_0, iI_b2_1, mm_bI_some, mm_bV_some, mm_bL_some, mm_bA_some, fd_wL, fd_wR, fl_wI, fl_wR, re_wI, re_wL, re_wC, ite_true, ite_false, not_true_eq_false, not_false_eq_true, lq_ge, lq_le, lq_gt, lq_lt, lq_eq, jI_lt, jI_le, jI_eq, if_pos, if_neg, e6]
  | y :: r, p, hn => by
    have py : fd g 333 (r ++ U).length = y := p.1
    have yb : -2147483648 ≤ y ∧ y < 2147483648 := by rw [← py]; exact ⟨fd_lo _ _ _, fd_hi _ _ _⟩
    have ib := R_isBracket (d := d) (g := g) yb.1 yb.2
    rw [List.cons_append, List.length_cons] at hn ⊢
    have ul : U.length ≤ (r ++ U).length := by rw [List.length_append]; omega
    have e1 : (((r ++ U).length + 1 : Nat) : Int) - 1 = ((r ++ U).length : Nat) := by omega
    have nn : (((r ++ U).length : Nat) : Int).toNat = (r ++ U).length := by omega
    have e2 : (((r ++ U).length : Nat) : Int) + -1 = ((r ++ U).length : Nat) - 1 := by omega
    rw [brk, e1]
    by_cases c : 20 ≤ y ∧ y ≤ 24
    · rw [if_pos c]
      rw [b2_t c] at ib
      rw [U_X12_qBracket_7]
      simp (disch := omega) only [iI_lit, jI_lit, iI_neg, jI_neg, iI_add, iI_sub, iI_mul, jI_add, jI_sub, jI_mul, rdI, rdL, iI_lt, iI_le, iI_eq, iI_nat, iI_b2_0, iI_b2_1, mm_bI_some, mm_bV_some, mm_bL_some, mm_bA_some, fd_wL, fd_wR, fl_wI, fl_wR, re_wI, re_wL, re_wC, ite_true, ite_false, not_true_eq_false, not_false_eq_true, lq_ge, lq_le, lq_gt, lq_lt, lq_eq, jI_lt, jI_le, jI_eq, if_pos, if_neg, e6, nn, py, ib]
    · rw [if_neg c]
      rw [b2_f c] at ib
      rw [← R_brk_7 e6 r p.2 (by omega), U_X12_qBracket_7]
      simp (disch := omega) only [iI_lit, jI_lit, iI_neg, jI_neg, iI_add, iI_sub, iI_mul, jI_add, jI_sub, jI_mul, rdI, rdL, iI_lt, iI_le, iI_eq, iI_nat, iI_b2_0, iI_b2_1, mm_bI_some, mm_bV_some, mm_bL_some, mm_bA_some, fd_wL, fd_wR, fl_wI, fl_wR, re_wI, re_wL, re_wC, ite_true, ite_false, not_true_eq_false, not_false_eq_true, lq_ge, lq_le, lq_gt, lq_lt, lq_eq, jI_lt, jI_le, jI_eq, if_pos, if_neg, e6, nn, py, ib, e2]
set_option maxHeartbeats 8000000 in
theorem R_bracket (S : Qst g T U C o) (hn : (T ++ U).length < 1700) : mm_M mm_T0 (d + 2) 290 [.ref 264] g = some (some (.int (iI (brk T))), g) := by
  have e := S.1.1
  rw [U_X12_qBracket, ← R_brk_7 (d := d) S.2.2.2 T S.1.2 hn]
  simp (disch := omega) only [iI_lit, jI_lit, iI_neg, jI_neg, iI_add, iI_sub, iI_mul, jI_add, jI_sub, jI_mul, rdI, rdL, iI_lt, iI_le, iI_eq, iI_nat, iI_b2_0, iI_b2_1, mm_bI_some, mm_bV_some, mm_bL_some, mm_bA_some, fd_wL, fd_wR, fl_wI, fl_wR, re_wI, re_wL, re_wC, ite_true, ite_false, not_true_eq_false, not_false_eq_true, lq_ge, lq_le, lq_gt, lq_lt, lq_eq, jI_lt, jI_le, jI_eq, if_pos, if_neg, e]
set_option maxHeartbeats 8000000 in
theorem R_toBr {y : Int} (hy : 20 ≤ y ∧ y ≤ 24) : ∀ (P : List Int) (g : mm_H) (C : List Int), (∀ z ∈ P, ¬ (20 ≤ z ∧ z ≤ 24)) → Qst g (P ++ y :: T) U C o → (P ++ y :: T ++ U).length < 1600 → C.length + P.length < 1700 → ∃ g', mm_D (mm_M mm_T0 (d + 2)) cd_X12_qDropsToBracket 0 [.ref 264] [] g = some (none, g') ∧ Qst g' (y :: T) U (C ++ P) o ∧ Kf Qwk nL g g'
  | [], g, C, hP, S, hn, hc => by
    have e := S.1.1
    have e6 := S.2.2.2
    have p := S.1.2
    rw [List.nil_append, List.cons_append, List.length_cons] at e hn
    rw [List.nil_append] at p
    have py : fd g 333 (T ++ U).length = y := p.1
    have ib := R_isBracket (d := d + 1) (g := g) (x := y) (by omega) (by omega)
    rw [b2_t hy] at ib
    have ul : U.length ≤ (T ++ U).length := by rw [List.length_append]; omega
    have nn : ((((T ++ U).length + 1 : Nat) : Int) - 1).toNat = (T ++ U).length := by omega
    refine ⟨g, ?_, by rw [List.append_nil]; exact S, Kf.refl⟩
    rw [U_X12_qDropsToBracket_0]
    simp (disch := omega) only [iI_lit, jI_lit, iI_neg, jI_neg, iI_add, iI_sub, iI_mul, jI_add, jI_sub, jI_mul, rdI, rdL, iI_lt, iI_le, iI_eq, iI_nat, iI_b2_0, iI_b2_1, mm_bI_some, mm_bV_some, mm_bL_some, mm_bA_some, fd_wL, fd_wR, fl_wI, fl_wR, re_wI, re_wL, re_wC, ite_true, ite_false, not_true_eq_false, not_false_eq_true, lq_ge, lq_le, lq_gt, lq_lt, lq_eq, jI_lt, jI_le, jI_eq, if_pos, if_neg, e, e6, nn, py, ib]
  | z :: P, g, C, hP, S, hn, hc => by
    have e := S.1.1
    have e6 := S.2.2.2
    have p := S.1.2
    have zb := hP z List.mem_cons_self
    rw [List.cons_append, List.cons_append, List.length_cons] at e hn
    have py : fd g 333 (P ++ y :: T ++ U).length = z := p.1
    have zz : -2147483648 ≤ z ∧ z < 2147483648 := by rw [← py]; exact ⟨fd_lo _ _ _, fd_hi _ _ _⟩
    have ib := R_isBracket (d := d + 1) (g := g) (x := z) zz.1 zz.2
    rw [b2_f zb] at ib
    have ul : U.length ≤ (P ++ y :: T ++ U).length := by rw [List.length_append]; omega
    have nn : ((((P ++ y :: T ++ U).length + 1 : Nat) : Int) - 1).toNat = (P ++ y :: T ++ U).length := by omega
    rw [List.length_cons] at hc
    obtain ⟨g1, m1, S1, k1⟩ := R_drop (d := d) (x := z) (T := P ++ y :: T) S (by omega) (by omega)
    obtain ⟨g2, n1, S2, k2⟩ := R_toBr hy P g1 (C ++ [z]) (fun q hq => hP q (List.mem_cons_of_mem _ hq)) S1 (by omega) (by rw [List.length_append, List.length_singleton]; omega)
    refine ⟨g2, ?_, by rw [List.append_assoc] at S2; exact S2, k1.trans k2⟩
    rw [← n1, U_X12_qDropsToBracket_0]
    simp (disch := omega) only [iI_lit, jI_lit, iI_neg, jI_neg, iI_add, iI_sub, iI_mul, jI_add, jI_sub, jI_mul, rdI, rdL, iI_lt, iI_le, iI_eq, iI_nat, iI_b2_0, iI_b2_1, mm_bI_some, mm_bV_some, mm_bL_some, mm_bA_some, fd_wL, fd_wR, fl_wI, fl_wR, re_wI, re_wL, re_wC, ite_true, ite_false, not_true_eq_false, not_false_eq_true, lq_ge, lq_le, lq_gt, lq_lt, lq_eq, jI_lt, jI_le, jI_eq, if_pos, if_neg, e, e6, nn, py, ib, m1]
set_option maxHeartbeats 8000000 in
theorem R_dropsTo {y : Int} {P : List Int} (hy : 20 ≤ y ∧ y ≤ 24) (hP : ∀ z ∈ P, ¬ (20 ≤ z ∧ z ≤ 24)) (S : Qst g (P ++ y :: T) U C o) (hn : (P ++ y :: T ++ U).length < 1600) (hc : C.length + P.length < 1700) : ∃ g', mm_M mm_T0 (d + 3) 291 [.ref 264] g = some (none, g') ∧ Qst g' (y :: T) U (C ++ P) o ∧ Kf Qwk nL g g' := by
  obtain ⟨g', m1, m2, m3⟩ := R_toBr (d := d) hy P g C hP S hn hc
  refine ⟨g', ?_, m2, m3⟩
  rw [← m1, U_X12_qDropsToBracket, U_X12_qDropsToBracket_0]
set_option maxHeartbeats 8000000 in
theorem R_opens {b : Nat → Int} {E p : Nat} {gl : Bool} {pl : Int} (R : RS g b E p gl) (S : Qst g T U C o) (hn : (T ++ U).length < 1600) (ho : o ≤ 6) (x1 : -2147483648 ≤ x) (x2 : x < 2147483648) (p1 : -2147483648 ≤ pl) (p2 : pl < 2147483648) : (o < 6 → ∃ g', mm_M mm_T0 (d + 2) 286 [.ref 264, .int (iI x), .int (iI pl)] g = some (none, g') ∧ Qst g' (x :: T) U C (o + 1) ∧ Kf Qwk nL g g') ∧ (¬ o < 6 → ∃ g', mm_M mm_T0 (d + 2) 286 [.ref 264, .int (iI x), .int (iI pl)] g = some (none, g') ∧ Bad g' 4 pl ∧ Kf QTk nL g g') := by
  have h5 := R.2.2.1
  have e5 := S.2.2.1
  have e := S.1.1
  refine ⟨fun h => ?_, fun h => ?_⟩
  · have S0 : Qst (wI g 264 105 (iI ((o : Nat) + 1))) T U C (o + 1) := by
      have z : ∀ j, j ≠ 105 → fd (wI g 264 105 (iI ((o : Nat) + 1))) 264 j = fd g 264 j := fun j hj => fd_wI_col hj
      have z2 : ∀ a j, a ≠ 264 → fd (wI g 264 105 (iI ((o : Nat) + 1))) a j = fd g a j := fun a j ha => fd_wI_row ha
      refine ⟨⟨(z 104 (by omega)).trans S.1.1, S.1.2.congr (fun j _ => z2 _ _ (by omega))⟩, ⟨(z 102 (by omega)).trans S.2.1.1, fun i v h => (z2 _ _ (by omega)).trans (S.2.1.2 i v h)⟩, ?_, (z 106 (by omega)).trans S.2.2.2⟩
      rw [fd_wI_same (by omega) (by omega)]
      omega
    obtain ⟨S1, f1, k1⟩ := R_push (x := x) S0 hn x1 x2
    have f0 := S0.1.1
    have nn : (((T ++ U).length : Nat) : Int).toNat = (T ++ U).length := by omega
    refine ⟨_, ?_, S1, Kf.trans (Kf.refl.wI (by unfold Qwk; omega)) k1⟩
    rw [U_X12_qOpens]
    simp (disch := omega) only [iI_lit, jI_lit, iI_neg, jI_neg, iI_add, iI_sub, iI_mul, jI_add, jI_sub, jI_mul, rdI, rdL, iI_lt, iI_le, iI_eq, iI_nat, iI_b2_0, iI_b2_1, mm_bI_some, mm_bV_some, mm_bL_some, mm_bA_some, fd_wL, fd_wR, fl_wI, fl_wR, re_wI, re_wL, re_wC, ite_true, ite_false, not_true_eq_false, not_false_eq_true, lq_ge, lq_le, lq_gt, lq_lt, lq_eq, jI_lt, jI_le, jI_eq, if_pos, if_neg, h5, e5, f0, nn, f1]
  · have o6 : o = 6 := by omega
    obtain ⟨g', m1, m2, m3⟩ := R_fail (d := d) (g := g) (k := 4) (pl := pl) h5 (by omega) (by omega) p1 p2
    refine ⟨g', ?_, m2, m3⟩
    rw [U_X12_qOpens]
    simp (disch := omega) only [iI_lit, jI_lit, iI_neg, jI_neg, iI_add, iI_sub, iI_mul, jI_add, jI_sub, jI_mul, rdI, rdL, iI_lt, iI_le, iI_eq, iI_nat, iI_b2_0, iI_b2_1, mm_bI_some, mm_bV_some, mm_bL_some, mm_bA_some, fd_wL, fd_wR, fl_wI, fl_wR, re_wI, re_wL, re_wC, ite_true, ite_false, not_true_eq_false, not_false_eq_true, lq_ge, lq_le, lq_gt, lq_lt, lq_eq, jI_lt, jI_le, jI_eq, if_pos, if_neg, h5, e5, m1]
/-! the end of a part: what waits for it -/
set_option maxHeartbeats 8000000 in
theorem R_ends_on (S : Qst g (x :: T) U C (o + 1)) (h5 : fd g 264 5 = 0) (hx : 60 ≤ x) (hn : (T ++ U).length < 1600) (hc : C.length < 1700) : ∃ g', mm_D (mm_M mm_T0 (d + 2)) cd_X12_qEndsPart 0 [.ref 264] [] g = mm_D (mm_M mm_T0 (d + 2)) cd_X12_qEndsPart 0 [.ref 264] [] g' ∧ Qst g' T U (C ++ [x]) o ∧ Kf Qwk nL g g' := by
  have e := S.1.1
  have e6 := S.2.2.2
  have e5 := S.2.2.1
  have p := S.1.2
  rw [List.cons_append, List.length_cons] at e
  have py : fd g 333 (T ++ U).length = x := p.1
  have xb : -2147483648 ≤ x ∧ x < 2147483648 := by rw [← py]; exact ⟨fd_lo _ _ _, fd_hi _ _ _⟩
  have ul : U.length ≤ (T ++ U).length := by rw [List.length_append]; omega
  have nn : ((((T ++ U).length + 1 : Nat) : Int) - 1).toNat = (T ++ U).length := by omega
  have o1 : ((o + 1 : Nat) : Int) - 1 = (o : Nat) := by omega
  have S0 : Qst (wI g 264 105 (iI (o : Nat))) (x :: T) U C o := by
    have z : ∀ j, j ≠ 105 → fd (wI g 264 105 (iI (o : Nat))) 264 j = fd g 264 j := fun j hj => fd_wI_col hj
    have z2 : ∀ a j, a ≠ 264 → fd (wI g 264 105 (iI (o : Nat))) a j = fd g a j := fun a j ha => fd_wI_row ha
    have ob := fd_hi g 264 105
    exact ⟨⟨(z 104 (by omega)).trans S.1.1, S.1.2.congr (fun j _ => z2 _ _ (by omega))⟩, ⟨(z 102 (by omega)).trans S.2.1.1, fun i v h => (z2 _ _ (by omega)).trans (S.2.1.2 i v h)⟩, fd_wI_same (by omega) (by omega), (z 106 (by omega)).trans S.2.2.2⟩
  obtain ⟨g', m1, m2, m3⟩ := R_drop (d := d) S0 hn hc
  refine ⟨g', ?_, m2, Kf.trans (Kf.refl.wI (by unfold Qwk; omega)) m3⟩
  rw [U_X12_qEndsPart_0]
  simp (disch := omega) only [iI_lit, jI_lit, iI_neg, jI_neg, iI_add, iI_sub, iI_mul, jI_add, jI_sub, jI_mul, rdI, rdL, iI_lt, iI_le, iI_eq, iI_nat, iI_b2_0, iI_b2_1, mm_bI_some, mm_bV_some, mm_bL_some, mm_bA_some, fd_wL, fd_wR, fl_wI, fl_wR, re_wI, re_wL, re_wC, ite_true, ite_false, not_true_eq_false, not_false_eq_true, lq_ge, lq_le, lq_gt, lq_lt, lq_eq, jI_lt, jI_le, jI_eq, if_pos, if_neg, h5, e, e6, nn, py, e5, o1, m1]
set_option maxHeartbeats 8000000 in
theorem R_ends_off (S : Qst g T U C o) (hx : ∀ x r, T = x :: r → x < 60) (hn : (T ++ U).length ≤ 1600) : mm_D (mm_M mm_T0 (d + 2)) cd_X12_qEndsPart 0 [.ref 264] [] g = some (none, g) := by
  have e := S.1.1
  have e6 := S.2.2.2
  have p := S.1.2
  have := fd_lo g 264 5; have := fd_hi g 264 5
  rw [U_X12_qEndsPart_0]
  by_cases h5 : fd g 264 5 = 0
  · cases hT : T with
    | nil =>
      rw [hT, List.nil_append] at e hn
      simp (disch := omega) only [iI_lit, jI_lit, iI_neg, jI_neg, iI_add, iI_sub, iI_mul, jI_add, jI_sub, jI_mul, rdI, rdL, iI_lt, iI_le, iI_eq, iI_nat, iI_b2_0, iI_b2_1, mm_bI_some, mm_bV_some, mm_bL_some, mm_bA_some, fd_wL, fd_wR, fl_wI, fl_wR, re_wI, re_wL, re_wC, ite_true, ite_false, not_true_eq_false, not_false_eq_true, lq_ge, lq_le, lq_gt, lq_lt, lq_eq, jI_lt, jI_le, jI_eq, if_pos, if_neg, h5, e, e6]
    | cons x r =>
      have x60 := hx x r hT
      rw [hT, List.cons_append] at p
      rw [hT, List.cons_append, List.length_cons] at e hn
      have py : fd g 333 (r ++ U).length = x := p.1
      have xb : -2147483648 ≤ x ∧ x < 2147483648 := by rw [← py]; exact ⟨fd_lo _ _ _, fd_hi _ _ _⟩
      have ul : U.length ≤ (r ++ U).length := by rw [List.length_append]; omega
      have nn : ((((r ++ U).length + 1 : Nat) : Int) - 1).toNat = (r ++ U).length := by omega
      simp (disch := omega) only [iI_lit, jI_lit, iI_neg, jI_neg, iI_add, iI_sub, iI_mul, jI_add, jI_sub, jI_mul, rdI, rdL, iI_lt, iI_le, iI_eq, iI_nat, iI_b2_0, iI_b2_1, mm_bI_some, mm_bV_some, mm_bL_some, mm_bA_some, fd_wL, fd_wR, fl_wI, fl_wR, re_wI, re_wL, re_wC, ite_true, ite_false, not_true_eq_false, not_false_eq_true, lq_ge, lq_le, lq_gt, lq_lt, lq_eq, jI_lt, jI_le, jI_eq, if_pos, if_neg, h5, e, e6, nn, py]
  · simp (disch := omega) only [iI_lit, jI_lit, iI_neg, jI_neg, iI_add, iI_sub, iI_mul, jI_add, jI_sub, jI_mul, rdI, rdL, iI_lt, iI_le, iI_eq, iI_nat, iI_b2_0, iI_b2_1, mm_bI_some, mm_bV_some, mm_bL_some, mm_bA_some, fd_wL, fd_wR, fl_wI, fl_wR, re_wI, re_wL, re_wC, ite_true, ite_false, not_true_eq_false, not_false_eq_true, lq_ge, lq_le, lq_gt, lq_lt, lq_eq, jI_lt, jI_le, jI_eq, if_pos, if_neg]
/-- how many of those that wait wait for a part -/
def nOf : List Int → Nat
  | [] => 0
  | x :: r => if 60 ≤ x then nOf r + 1 else nOf r
set_option maxHeartbeats 8000000 in
/-- it always ends, and brings no fault -/
theorem R_ends_all : ∀ (T : List Int) (g : mm_H) (C : List Int) (o : Nat), Qst g T U C o → fd g 264 5 = 0 → nOf T ≤ o → (T ++ U).length ≤ 1600 → C.length + T.length < 1700 → ∃ g', mm_D (mm_M mm_T0 (d + 2)) cd_X12_qEndsPart 0 [.ref 264] [] g = some (none, g') ∧ fd g' 264 5 = 0
  | [], g, C, o, S, h5, ho, hn, hc => ⟨g, R_ends_off S (fun x r h => by cases h) hn, h5⟩
  | x :: r, g, C, o, S, h5, ho, hn, hc => by
    by_cases c : 60 ≤ x
    · rw [nOf, if_pos c] at ho
      obtain ⟨o, rfl⟩ : ∃ o', o = o' + 1 := ⟨o - 1, by omega⟩
      rw [List.cons_append, List.length_cons] at hn
      rw [List.length_cons] at hc
      obtain ⟨g1, m1, m2, m3⟩ := R_ends_on (d := d) S h5 c (by omega) (by omega)
      obtain ⟨g2, n1, n2⟩ := R_ends_all r g1 (C ++ [x]) o m2 ((m3.1 264 5 (by unfold Qwk; omega)).trans h5) (by omega) (by omega) (by rw [List.length_append, List.length_singleton]; omega)
      exact ⟨g2, m1.trans n1, n2⟩
    · exact ⟨g, R_ends_off S (fun y s h => by cases h; omega) hn, h5⟩
set_option maxHeartbeats 8000000 in
theorem R_ends : mm_M mm_T0 (d + 3) 295 [.ref 264] g = mm_D (mm_M mm_T0 (d + 2)) cd_X12_qEndsPart 0 [.ref 264] [] g := by
  rw [U_X12_qEndsPart, U_X12_qEndsPart_0]
end RQ
/-! the words of rules, in the reference -/
section RQW
variable {d : Nat} {g : mm_H} {b : Nat → Int} {E p : Nat} {gl : Bool} {w : Int}
set_option maxHeartbeats 8000000 in
theorem R_here {a : Nat} {k : Int} (ha : isW a) (k0 : 0 ≤ k) (hk : allW[k.toNat]? = some (wordL a)) (R : RS g b E p gl) : ∃ g', mm_M mm_T0 (d + 2) 195 [.ref 264, .ref a] g = some (some (.int (iI (b2 (wno b E p gl = k)))), g') ∧ RS g' b E p gl ∧ fd g' 264 2 = (tS b E p : Int) ∧ Kf QTk nL g g' ∧ mm_M mm_T0 (d + 1) 194 [.ref 264] g = some (some (.int (iI (tB b E p))), g') := by
  obtain ⟨g', m1, m2, m3, m4, m5⟩ := R_isHere (d := d) ha R
  refine ⟨g', ?_, m2, m3, m4, m5⟩
  have e : b2 (hasW b E (wordL a) p gl = true) = b2 (wno b E p gl = k) := by
    by_cases z : wno b E p gl = k
    · rw [b2_t z, b2_t ((hasW_no k0 hk).mpr z)]
    · rw [b2_f z, b2_f (fun y => z ((hasW_no k0 hk).mp y))]
  rw [← e]
  exact m1
set_option maxHeartbeats 8000000 in
/-- at a token's start the heap stays as it is -/
theorem R_hereA {a : Nat} {k : Int} (ha : isW a) (k0 : 0 ≤ k) (hk : allW[k.toNat]? = some (wordL a)) (R : RS g b E p gl) (e2 : fd g 264 2 = (tS b E p : Int)) : mm_M mm_T0 (d + 2) 195 [.ref 264, .ref a] g = some (some (.int (iI (b2 (wno b E p gl = k)))), g) := by
  obtain ⟨g', m1, m2, m3, m4, m5⟩ := R_here (d := d) ha k0 hk R
  rw [R_look_at (d := d) R e2] at m5
  have e : g = g' := (Prod.mk.inj (Option.some.inj m5)).2
  rw [← e] at m1
  exact m1
set_option maxHeartbeats 8000000 in
theorem R_wordA (R : RS g b E p gl) (e2 : fd g 264 2 = (tS b E p : Int)) (e54 : fd g 264 54 = w) (w0 : 0 ≤ w) (w3 : w ≤ 3) : mm_M mm_T0 (d + 3) 292 [.ref 264] g = some (some (.int (iI (valN w (wno b E p gl)))), g) := by
  have q0 := R_hereA (d := d) (a := 319) (k := 3) (by unfold isW; omega) (by omega) rfl R e2
  have q1 := R_hereA (d := d) (a := 320) (k := 4) (by unfold isW; omega) (by omega) rfl R e2
  have q2 := R_hereA (d := d) (a := 321) (k := 5) (by unfold isW; omega) (by omega) rfl R e2
  have q3 := R_hereA (d := d) (a := 322) (k := 15) (by unfold isW; omega) (by omega) rfl R e2
  have q4 := R_hereA (d := d) (a := 323) (k := 11) (by unfold isW; omega) (by omega) rfl R e2
  have q5 := R_hereA (d := d) (a := 324) (k := 12) (by unfold isW; omega) (by omega) rfl R e2
  have q6 := R_hereA (d := d) (a := 325) (k := 13) (by unfold isW; omega) (by omega) rfl R e2
  have q7 := R_hereA (d := d) (a := 326) (k := 14) (by unfold isW; omega) (by omega) rfl R e2
  have q8 := R_hereA (d := d) (a := 327) (k := 16) (by unfold isW; omega) (by omega) rfl R e2
  have q9 := R_hereA (d := d) (a := 328) (k := 17) (by unfold isW; omega) (by omega) rfl R e2
  have q10 := R_hereA (d := d) (a := 329) (k := 18) (by unfold isW; omega) (by omega) rfl R e2
  have q11 := R_hereA (d := d) (a := 330) (k := 5) (by unfold isW; omega) (by omega) rfl R e2
  have q12 := R_hereA (d := d) (a := 331) (k := 14) (by unfold isW; omega) (by omega) rfl R e2
  generalize wno b E p gl = v at *
  rw [U_X12_qWordHere]
  have r54 := rdE e54
  by_cases c : v = 3 ∨ v = 4 ∨ v = 5 ∨ v = 11 ∨ v = 12 ∨ v = 13 ∨ v = 14 ∨ v = 15 ∨ v = 16 ∨ v = 17 ∨ v = 18
  · by_cases w4 : w < 3
    · have l3 : (iI 3 ≤ iI w) = False := iG_f (by omega) (by omega) (by omega) (by omega) (by omega)
      rcases c with y | y | y | y | y | y | y | y | y | y | y <;> subst y <;> simp only [b2, Int.reduceEq, if_true, if_false] at q0 q1 q2 q3 q4 q5 q6 q7 q8 q9 q10 q11 q12 <;> simp only [valN, Int.reduceEq, if_true, if_false, eq_true w4] <;> simp only [iI_lit, iI_neg, iI_add, mm_bI_some, mm_bV_some, mm_bL_some, mm_bA_some, ↓reduceIte, i10, i00, i11, eq_self, not_true_eq_false, not_false_eq_true, ite_true, ite_false, if_true, if_false, and_true, true_and, and_false, false_and, and_self, or_self, or_false, false_or, or_true, true_or, q0, q1, q2, q3, q4, q5, q6, q7, q8, q9, q10, q11, q12, r54, l3]
    · have l3 : (iI 3 ≤ iI w) = True := iG_t (by omega) (by omega) (by omega) (by omega) (by omega)
      rcases c with y | y | y | y | y | y | y | y | y | y | y <;> subst y <;> simp only [b2, Int.reduceEq, if_true, if_false] at q0 q1 q2 q3 q4 q5 q6 q7 q8 q9 q10 q11 q12 <;> simp only [valN, Int.reduceEq, if_true, if_false, eq_false w4] <;> simp only [iI_lit, iI_neg, iI_add, mm_bI_some, mm_bV_some, mm_bL_some, mm_bA_some, ↓reduceIte, i10, i00, i11, eq_self, not_true_eq_false, not_false_eq_true, ite_true, ite_false, if_true, if_false, and_true, true_and, and_false, false_and, and_self, or_self, or_false, false_or, or_true, true_or, q0, q1, q2, q3, q4, q5, q6, q7, q8, q9, q10, q11, q12, r54, l3]
  · have vn : valN w v = -1 := by
      unfold valN
      rw [if_neg (by omega), if_neg (by omega), if_neg (by omega), if_neg (by omega), if_neg (by omega), if_neg (by omega), if_neg (by omega), if_neg (by omega), if_neg (by omega), if_neg (by omega), if_neg (by omega)]
    rw [vn]
    rw [b2_f (by omega)] at q0 q1 q2 q3 q4 q5 q6 q7 q8 q9 q10 q11 q12
    by_cases w4 : w < 3
    · have l3 : (iI 3 ≤ iI w) = False := iG_f (by omega) (by omega) (by omega) (by omega) (by omega)
      simp only [iI_lit, iI_neg, iI_add, mm_bI_some, mm_bV_some, mm_bL_some, mm_bA_some, ↓reduceIte, i10, i00, i11, eq_self, not_true_eq_false, not_false_eq_true, ite_true, ite_false, if_true, if_false, and_true, true_and, and_false, false_and, and_self, or_self, or_false, false_or, or_true, true_or, q0, q1, q2, q3, q4, q5, q6, q7, q8, q9, q10, q11, q12, r54, l3]
    · have l3 : (iI 3 ≤ iI w) = True := iG_t (by omega) (by omega) (by omega) (by omega) (by omega)
      simp only [iI_lit, iI_neg, iI_add, mm_bI_some, mm_bV_some, mm_bL_some, mm_bA_some, ↓reduceIte, i10, i00, i11, eq_self, not_true_eq_false, not_false_eq_true, ite_true, ite_false, if_true, if_false, and_true, true_and, and_false, false_and, and_self, or_self, or_false, false_or, or_true, true_or, q0, q1, q2, q3, q4, q5, q6, q7, q8, q9, q10, q11, q12, r54, l3]
set_option maxHeartbeats 8000000 in
theorem R_allowed {k : Int} (e54 : fd g 264 54 = w) (w0 : 0 ≤ w) (w3 : w ≤ 3) (k0 : -1 ≤ k) (k1 : k ≤ 12) : mm_M mm_T0 (d + 1) 203 [.ref 264, .int (iI k)] g = some (some (.int (iI (b2 (okW w k = true)))), g) := by
  rw [U_X12_isAllowed]
  have cw : w = 0 ∨ w = 1 ∨ w = 2 ∨ w = 3 := by omega
  have ck : k = -1 ∨ k = 0 ∨ k = 1 ∨ k = 2 ∨ k = 3 ∨ k = 4 ∨ k = 5 ∨ k = 6 ∨ k = 7 ∨ k = 8 ∨ k = 9 ∨ k = 10 ∨ k = 11 ∨ k = 12 := by omega
  clear w0 w3 k0 k1
  rcases cw with z | z | z | z <;> rw [z] at e54 ⊢ <;> rcases ck with y | y | y | y | y | y | y | y | y | y | y | y | y | y <;> subst y <;> first | (rw [b2_t (by decide)]; simp (disch := omega) only [iI_lit, jI_lit, iI_neg, jI_neg, iI_add, iI_sub, iI_mul, jI_add, jI_sub, jI_mul, rdI, rdL, iI_lt, iI_le, iI_eq, iI_nat, iI_b2_0, iI_b2_1, mm_bI_some, mm_bV_some, mm_bL_some, mm_bA_some, fd_wL, fd_wR, fl_wI, fl_wR, re_wI, re_wL, re_wC, ite_true, ite_false, not_true_eq_false, not_false_eq_true, lq_ge, lq_le, lq_gt, lq_lt, lq_eq, jI_lt, jI_le, jI_eq, if_pos, if_neg, e54]; done) | (rw [b2_f (by decide)]; simp (disch := omega) only [iI_lit, jI_lit, iI_neg, jI_neg, iI_add, iI_sub, iI_mul, jI_add, jI_sub, jI_mul, rdI, rdL, iI_lt, iI_le, iI_eq, iI_nat, iI_b2_0, iI_b2_1, mm_bI_some, mm_bV_some, mm_bL_some, mm_bA_some, fd_wL, fd_wR, fl_wI, fl_wR, re_wI, re_wL, re_wC, ite_true, ite_false, not_true_eq_false, not_false_eq_true, lq_ge, lq_le, lq_gt, lq_lt, lq_eq, jI_lt, jI_le, jI_eq, if_pos, if_neg, e54]; done)
/-- which word of those from.. to is allowed here -/
def wOf (w v lo hi : Int) : Int := if lo ≤ valN w v ∧ valN w v < hi ∧ okW w (valN w v) = true then valN w v else -1
set_option maxHeartbeats 8000000 in
theorem R_wordOf {lo hi : Int} (R : RS g b E p gl) (e2 : fd g 264 2 = (tS b E p : Int)) (e54 : fd g 264 54 = w) (w0 : 0 ≤ w) (w3 : w ≤ 3) (l0 : 0 ≤ lo) (h1 : hi ≤ 100) (l1 : lo ≤ 100) (h0 : 0 ≤ hi) : mm_M mm_T0 (d + 4) 293 [.ref 264, .int (iI lo), .int (iI hi)] g = some (some (.int (iI (wOf w (wno b E p gl) lo hi))), g) := by
  have vb := valN_b w (wno b E p gl)
  have q := R_wordA (d := d) R e2 e54 w0 w3
  have a := R_allowed (d := d + 2) (g := g) (k := valN w (wno b E p gl)) e54 w0 w3 vb.1 vb.2
  unfold wOf
  generalize valN w (wno b E p gl) = v at *
  rw [U_X12_qWordOf]
  by_cases c1 : v < lo
  · rw [if_neg (by omega)]
    simp (disch := omega) only [iI_lit, jI_lit, iI_neg, jI_neg, iI_add, iI_sub, iI_mul, jI_add, jI_sub, jI_mul, rdI, rdL, iI_lt, iI_le, iI_eq, iI_nat, iI_b2_0, iI_b2_1, mm_bI_some, mm_bV_some, mm_bL_some, mm_bA_some, fd_wL, fd_wR, fl_wI, fl_wR, re_wI, re_wL, re_wC, ite_true, ite_false, not_true_eq_false, not_false_eq_true, lq_ge, lq_le, lq_gt, lq_lt, lq_eq, jI_lt, jI_le, jI_eq, if_pos, if_neg, q]
  · by_cases c2 : v < hi
    · by_cases c3 : okW w v = true
      · rw [if_pos ⟨by omega, c2, c3⟩]
        rw [b2_t c3] at a
        simp (disch := omega) only [iI_lit, jI_lit, iI_neg, jI_neg, iI_add, iI_sub, iI_mul, jI_add, jI_sub, jI_mul, rdI, rdL, iI_lt, iI_le, iI_eq, iI_nat, iI_b2_0, iI_b2_1, mm_bI_some, mm_bV_some, mm_bL_some, mm_bA_some, fd_wL, fd_wR, fl_wI, fl_wR, re_wI, re_wL, re_wC, ite_true, ite_false, not_true_eq_false, not_false_eq_true, lq_ge, lq_le, lq_gt, lq_lt, lq_eq, jI_lt, jI_le, jI_eq, if_pos, if_neg, q, a]
      · rw [if_neg (fun z => c3 z.2.2)]
        rw [b2_f c3] at a
        simp (disch := omega) only [iI_lit, jI_lit, iI_neg, jI_neg, iI_add, iI_sub, iI_mul, jI_add, jI_sub, jI_mul, rdI, rdL, iI_lt, iI_le, iI_eq, iI_nat, iI_b2_0, iI_b2_1, mm_bI_some, mm_bV_some, mm_bL_some, mm_bA_some, fd_wL, fd_wR, fl_wI, fl_wR, re_wI, re_wL, re_wC, ite_true, ite_false, not_true_eq_false, not_false_eq_true, lq_ge, lq_le, lq_gt, lq_lt, lq_eq, jI_lt, jI_le, jI_eq, if_pos, if_neg, q, a]
    · rw [if_neg (by omega)]
      simp (disch := omega) only [iI_lit, jI_lit, iI_neg, jI_neg, iI_add, iI_sub, iI_mul, jI_add, jI_sub, jI_mul, rdI, rdL, iI_lt, iI_le, iI_eq, iI_nat, iI_b2_0, iI_b2_1, mm_bI_some, mm_bV_some, mm_bL_some, mm_bA_some, fd_wL, fd_wR, fl_wI, fl_wR, re_wI, re_wL, re_wC, ite_true, ite_false, not_true_eq_false, not_false_eq_true, lq_ge, lq_le, lq_gt, lq_lt, lq_eq, jI_lt, jI_le, jI_eq, if_pos, if_neg, q]
set_option maxHeartbeats 8000000 in
/-- a word that stands here is taken -/
theorem R_asksA {a : Nat} {k : Int} (ha : isW a) (k0 : 0 ≤ k) (hk : allW[k.toNat]? = some (wordL a)) (R : RS g b E p gl) (hw : wno b E p gl = k) : ∃ g', mm_M mm_T0 (d + 4) 197 [.ref 264, .ref a] g = some (none, g') ∧ RS g' b E (tL b E (tS b E p)) true ∧ Kf QTk nL g g' := (R_asks (d := d) ha R).1 ((hasW_no k0 hk).mpr hw)
set_option maxHeartbeats 8000000 in
theorem R_takesA {a : Nat} {k : Int} (ha : isW a) (k0 : 0 ≤ k) (hk : allW[k.toNat]? = some (wordL a)) (R : RS g b E p gl) : (wno b E p gl = k → ∃ g', mm_M mm_T0 (d + 3) 196 [.ref 264, .ref a] g = some (some (.int (iI 1)), g') ∧ RS g' b E (tL b E (tS b E p)) true ∧ Kf QTk nL g g') ∧ (wno b E p gl ≠ k → ∃ g', mm_M mm_T0 (d + 3) 196 [.ref 264, .ref a] g = some (some (.int (iI 0)), g') ∧ RS g' b E p gl ∧ fd g' 264 2 = (tS b E p : Int) ∧ Kf QTk nL g g') := ⟨fun h => (R_takes (d := d) ha R).1 ((hasW_no k0 hk).mpr h), fun h => (R_takes (d := d) ha R).2 (fun z => h ((hasW_no k0 hk).mp z))⟩
set_option maxHeartbeats 8000000 in
theorem R_asksWord {k : Int} (R : RS g b E p gl) (hk : valN w (wno b E p gl) = k) (k0 : 0 ≤ k) : ∃ g', mm_M mm_T0 (d + 5) 294 [.ref 264, .int (iI k)] g = some (none, g') ∧ RS g' b E (tL b E (tS b E p)) true ∧ Kf QTk nL g g' := by
  have vb := valN_b w (wno b E p gl)
  have c : (k = 0 ∧ wno b E p gl = 3) ∨ (k = 1 ∧ wno b E p gl = 4) ∨ (k = 2 ∧ wno b E p gl = 5) ∨ (k = 3 ∧ wno b E p gl = 15) ∨ (k = 4 ∧ wno b E p gl = 11) ∨ (k = 5 ∧ wno b E p gl = 12) ∨ (k = 6 ∧ wno b E p gl = 13) ∨ (k = 7 ∧ wno b E p gl = 14) ∨ (k = 8 ∧ wno b E p gl = 16) ∨ (k = 9 ∧ wno b E p gl = 17) ∨ (k = 10 ∧ wno b E p gl = 18) ∨ (k = 11 ∧ wno b E p gl = 5) ∨ (k = 12 ∧ wno b E p gl = 14) := by
    unfold valN at hk
    repeat' split at hk
    all_goals omega
  rcases c with ⟨y, z⟩ | ⟨y, z⟩ | ⟨y, z⟩ | ⟨y, z⟩ | ⟨y, z⟩ | ⟨y, z⟩ | ⟨y, z⟩ | ⟨y, z⟩ | ⟨y, z⟩ | ⟨y, z⟩ | ⟨y, z⟩ | ⟨y, z⟩ | ⟨y, z⟩
  · obtain ⟨g', m1, m2, m3⟩ := R_asksA (d := d) (a := 319) (k := 3) (by unfold isW; omega) (by omega) rfl R z
    exact ⟨g', by rw [U_X12_qAsksWord, y]; simp (disch := omega) only [iI_lit, jI_lit, iI_neg, jI_neg, iI_add, iI_sub, iI_mul, jI_add, jI_sub, jI_mul, rdI, rdL, iI_lt, iI_le, iI_eq, iI_nat, iI_b2_0, iI_b2_1, mm_bI_some, mm_bV_some, mm_bL_some, mm_bA_some, fd_wL, fd_wR, fl_wI, fl_wR, re_wI, re_wL, re_wC, ite_true, ite_false, not_true_eq_false, not_false_eq_true, lq_ge, lq_le, lq_gt, lq_lt, lq_eq, jI_lt, jI_le, jI_eq, if_pos, if_neg, m1], m2, m3⟩
  · obtain ⟨g', m1, m2, m3⟩ := R_asksA (d := d) (a := 320) (k := 4) (by unfold isW; omega) (by omega) rfl R z
    exact ⟨g', by rw [U_X12_qAsksWord, y]; simp (disch := omega) only [iI_lit, jI_lit, iI_neg, jI_neg, iI_add, iI_sub, iI_mul, jI_add, jI_sub, jI_mul, rdI, rdL, iI_lt, iI_le, iI_eq, iI_nat, iI_b2_0, iI_b2_1, mm_bI_some, mm_bV_some, mm_bL_some, mm_bA_some, fd_wL, fd_wR, fl_wI, fl_wR, re_wI, re_wL, re_wC, ite_true, ite_false, not_true_eq_false, not_false_eq_true, lq_ge, lq_le, lq_gt, lq_lt, lq_eq, jI_lt, jI_le, jI_eq, if_pos, if_neg, m1], m2, m3⟩
  · obtain ⟨g', m1, m2, m3⟩ := R_asksA (d := d) (a := 321) (k := 5) (by unfold isW; omega) (by omega) rfl R z
    exact ⟨g', by rw [U_X12_qAsksWord, y]; simp (disch := omega) only [iI_lit, jI_lit, iI_neg, jI_neg, iI_add, iI_sub, iI_mul, jI_add, jI_sub, jI_mul, rdI, rdL, iI_lt, iI_le, iI_eq, iI_nat, iI_b2_0, iI_b2_1, mm_bI_some, mm_bV_some, mm_bL_some, mm_bA_some, fd_wL, fd_wR, fl_wI, fl_wR, re_wI, re_wL, re_wC, ite_true, ite_false, not_true_eq_false, not_false_eq_true, lq_ge, lq_le, lq_gt, lq_lt, lq_eq, jI_lt, jI_le, jI_eq, if_pos, if_neg, m1], m2, m3⟩
  · obtain ⟨g', m1, m2, m3⟩ := R_asksA (d := d) (a := 322) (k := 15) (by unfold isW; omega) (by omega) rfl R z
    exact ⟨g', by rw [U_X12_qAsksWord, y]; simp (disch := omega) only [iI_lit, jI_lit, iI_neg, jI_neg, iI_add, iI_sub, iI_mul, jI_add, jI_sub, jI_mul, rdI, rdL, iI_lt, iI_le, iI_eq, iI_nat, iI_b2_0, iI_b2_1, mm_bI_some, mm_bV_some, mm_bL_some, mm_bA_some, fd_wL, fd_wR, fl_wI, fl_wR, re_wI, re_wL, re_wC, ite_true, ite_false, not_true_eq_false, not_false_eq_true, lq_ge, lq_le, lq_gt, lq_lt, lq_eq, jI_lt, jI_le, jI_eq, if_pos, if_neg, m1], m2, m3⟩
  · obtain ⟨g', m1, m2, m3⟩ := R_asksA (d := d) (a := 323) (k := 11) (by unfold isW; omega) (by omega) rfl R z
    exact ⟨g', by rw [U_X12_qAsksWord, y]; simp (disch := omega) only [iI_lit, jI_lit, iI_neg, jI_neg, iI_add, iI_sub, iI_mul, jI_add, jI_sub, jI_mul, rdI, rdL, iI_lt, iI_le, iI_eq, iI_nat, iI_b2_0, iI_b2_1, mm_bI_some, mm_bV_some, mm_bL_some, mm_bA_some, fd_wL, fd_wR, fl_wI, fl_wR, re_wI, re_wL, re_wC, ite_true, ite_false, not_true_eq_false, not_false_eq_true, lq_ge, lq_le, lq_gt, lq_lt, lq_eq, jI_lt, jI_le, jI_eq, if_pos, if_neg, m1], m2, m3⟩
  · obtain ⟨g', m1, m2, m3⟩ := R_asksA (d := d) (a := 324) (k := 12) (by unfold isW; omega) (by omega) rfl R z
    exact ⟨g', by rw [U_X12_qAsksWord, y]; simp (disch := omega) only [iI_lit, jI_lit, iI_neg, jI_neg, iI_add, iI_sub, iI_mul, jI_add, jI_sub, jI_mul, rdI, rdL, iI_lt, iI_le, iI_eq, iI_nat, iI_b2_0, iI_b2_1, mm_bI_some, mm_bV_some, mm_bL_some, mm_bA_some, fd_wL, fd_wR, fl_wI, fl_wR, re_wI, re_wL, re_wC, ite_true, ite_false, not_true_eq_false, not_false_eq_true, lq_ge, lq_le, lq_gt, lq_lt, lq_eq, jI_lt, jI_le, jI_eq, if_pos, if_neg, m1], m2, m3⟩
  · obtain ⟨g', m1, m2, m3⟩ := R_asksA (d := d) (a := 325) (k := 13) (by unfold isW; omega) (by omega) rfl R z
    exact ⟨g', by rw [U_X12_qAsksWord, y]; simp (disch := omega) only [iI_lit, jI_lit, iI_neg, jI_neg, iI_add, iI_sub, iI_mul, jI_add, jI_sub, jI_mul, rdI, rdL, iI_lt, iI_le, iI_eq, iI_nat, iI_b2_0, iI_b2_1, mm_bI_some, mm_bV_some, mm_bL_some, mm_bA_some, fd_wL, fd_wR, fl_wI, fl_wR, re_wI, re_wL, re_wC, ite_true, ite_false, not_true_eq_false, not_false_eq_true, lq_ge, lq_le, lq_gt, lq_lt, lq_eq, jI_lt, jI_le, jI_eq, if_pos, if_neg, m1], m2, m3⟩
  · obtain ⟨g', m1, m2, m3⟩ := R_asksA (d := d) (a := 326) (k := 14) (by unfold isW; omega) (by omega) rfl R z
    exact ⟨g', by rw [U_X12_qAsksWord, y]; simp (disch := omega) only [iI_lit, jI_lit, iI_neg, jI_neg, iI_add, iI_sub, iI_mul, jI_add, jI_sub, jI_mul, rdI, rdL, iI_lt, iI_le, iI_eq, iI_nat, iI_b2_0, iI_b2_1, mm_bI_some, mm_bV_some, mm_bL_some, mm_bA_some, fd_wL, fd_wR, fl_wI, fl_wR, re_wI, re_wL, re_wC, ite_true, ite_false, not_true_eq_false, not_false_eq_true, lq_ge, lq_le, lq_gt, lq_lt, lq_eq, jI_lt, jI_le, jI_eq, if_pos, if_neg, m1], m2, m3⟩
  · obtain ⟨g', m1, m2, m3⟩ := R_asksA (d := d) (a := 327) (k := 16) (by unfold isW; omega) (by omega) rfl R z
    exact ⟨g', by rw [U_X12_qAsksWord, y]; simp (disch := omega) only [iI_lit, jI_lit, iI_neg, jI_neg, iI_add, iI_sub, iI_mul, jI_add, jI_sub, jI_mul, rdI, rdL, iI_lt, iI_le, iI_eq, iI_nat, iI_b2_0, iI_b2_1, mm_bI_some, mm_bV_some, mm_bL_some, mm_bA_some, fd_wL, fd_wR, fl_wI, fl_wR, re_wI, re_wL, re_wC, ite_true, ite_false, not_true_eq_false, not_false_eq_true, lq_ge, lq_le, lq_gt, lq_lt, lq_eq, jI_lt, jI_le, jI_eq, if_pos, if_neg, m1], m2, m3⟩
  · obtain ⟨g', m1, m2, m3⟩ := R_asksA (d := d) (a := 328) (k := 17) (by unfold isW; omega) (by omega) rfl R z
    exact ⟨g', by rw [U_X12_qAsksWord, y]; simp (disch := omega) only [iI_lit, jI_lit, iI_neg, jI_neg, iI_add, iI_sub, iI_mul, jI_add, jI_sub, jI_mul, rdI, rdL, iI_lt, iI_le, iI_eq, iI_nat, iI_b2_0, iI_b2_1, mm_bI_some, mm_bV_some, mm_bL_some, mm_bA_some, fd_wL, fd_wR, fl_wI, fl_wR, re_wI, re_wL, re_wC, ite_true, ite_false, not_true_eq_false, not_false_eq_true, lq_ge, lq_le, lq_gt, lq_lt, lq_eq, jI_lt, jI_le, jI_eq, if_pos, if_neg, m1], m2, m3⟩
  · obtain ⟨g', m1, m2, m3⟩ := R_asksA (d := d) (a := 329) (k := 18) (by unfold isW; omega) (by omega) rfl R z
    exact ⟨g', by rw [U_X12_qAsksWord, y]; simp (disch := omega) only [iI_lit, jI_lit, iI_neg, jI_neg, iI_add, iI_sub, iI_mul, jI_add, jI_sub, jI_mul, rdI, rdL, iI_lt, iI_le, iI_eq, iI_nat, iI_b2_0, iI_b2_1, mm_bI_some, mm_bV_some, mm_bL_some, mm_bA_some, fd_wL, fd_wR, fl_wI, fl_wR, re_wI, re_wL, re_wC, ite_true, ite_false, not_true_eq_false, not_false_eq_true, lq_ge, lq_le, lq_gt, lq_lt, lq_eq, jI_lt, jI_le, jI_eq, if_pos, if_neg, m1], m2, m3⟩
  · obtain ⟨g', m1, m2, m3⟩ := R_asksA (d := d) (a := 330) (k := 5) (by unfold isW; omega) (by omega) rfl R z
    exact ⟨g', by rw [U_X12_qAsksWord, y]; simp (disch := omega) only [iI_lit, jI_lit, iI_neg, jI_neg, iI_add, iI_sub, iI_mul, jI_add, jI_sub, jI_mul, rdI, rdL, iI_lt, iI_le, iI_eq, iI_nat, iI_b2_0, iI_b2_1, mm_bI_some, mm_bV_some, mm_bL_some, mm_bA_some, fd_wL, fd_wR, fl_wI, fl_wR, re_wI, re_wL, re_wC, ite_true, ite_false, not_true_eq_false, not_false_eq_true, lq_ge, lq_le, lq_gt, lq_lt, lq_eq, jI_lt, jI_le, jI_eq, if_pos, if_neg, m1], m2, m3⟩
  · obtain ⟨g', m1, m2, m3⟩ := R_asksA (d := d) (a := 331) (k := 14) (by unfold isW; omega) (by omega) rfl R z
    exact ⟨g', by rw [U_X12_qAsksWord, y]; simp (disch := omega) only [iI_lit, jI_lit, iI_neg, jI_neg, iI_add, iI_sub, iI_mul, jI_add, jI_sub, jI_mul, rdI, rdL, iI_lt, iI_le, iI_eq, iI_nat, iI_b2_0, iI_b2_1, mm_bI_some, mm_bV_some, mm_bL_some, mm_bA_some, fd_wL, fd_wR, fl_wI, fl_wR, re_wI, re_wL, re_wC, ite_true, ite_false, not_true_eq_false, not_false_eq_true, lq_ge, lq_le, lq_gt, lq_lt, lq_eq, jI_lt, jI_le, jI_eq, if_pos, if_neg, m1], m2, m3⟩
end RQW
