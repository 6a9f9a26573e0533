/-! see -/
section SEE
variable {d : Nat} {h : mm_H} {L : Int}
/-- the tape is used up, all else of the machine stays -/
theorem IvM.zero {h h' : mm_H} {Q Lq : Nat → Nat → Prop} (I : IvM h) (k : Kf Q Lq h h') (q : ∀ a j, NM a j → ¬ (a = 1 ∧ j = 1) → ¬ (a = 264 ∧ j = 1) → ¬ Q a j) (l : ¬ Lq 264 75) (e1 : fd h' 1 1 = 0) (e2 : fd h' 264 1 = 0) : IvM h' := by
  obtain ⟨a1, a2, a3, a4, a5, a6, a7⟩ := I
  have z : ∀ a j, NM a j → ¬ (a = 1 ∧ j = 1) → ¬ (a = 264 ∧ j = 1) → fd h' a j = fd h a j := fun a j x y w => k.1 a j (q a j x y w)
  have el : fl h' 264 75 = fl h 264 75 := k.2.1 264 75 l
  refine ⟨by omega, by omega, fun j hj => by omega, ⟨?_, ?_⟩, ?_, ?_, ?_⟩
  · rw [z 3 5 (by unfold NM; omega) (by omega) (by omega), z 264 7 (by unfold NM; omega) (by omega) (by omega)]; exact a4.1
  · rw [z 3 6 (by unfold NM; omega) (by omega) (by omega), z 264 8 (by unfold NM; omega) (by omega) (by omega)]; exact a4.2
  · intro j hj
    rw [z 229 j (by unfold NM; omega) (by omega) (by omega), z 266 j (by unfold NM; omega) (by omega) (by omega)]
    exact a5 j hj
  · rw [el, z 0 13 (by unfold NM; omega) (by omega) (by omega)]; exact a6
  · rw [el]; exact a7
set_option maxHeartbeats 8000000 in
theorem C_byteAt {k : Int} (e : fd h 1 1 = L) (l0 : 0 ≤ L) (l1 : L ≤ 1600) (k1 : -2147483648 ≤ k) (k2 : k < 2147483648) : mm_M mm_T0 (d + 1) 126 [.ref 1, .int (iI k)] h = some (some (.int (iI (if 0 ≤ k ∧ k < L then fd h 2 k.toNat else -1))), h) := by
  rw [U_X8_byteAt]
  by_cases c : 0 ≤ k ∧ k < L
  · rw [if_pos c]
    simp (disch := omega) only [iI_lit, jI_lit, iI_neg, jI_neg, iI_add, iI_sub, iI_mul, jI_add, jI_sub, jI_mul, rdI, rdL, iI_lt, iI_le, iI_eq, iI_nat, iI_b2_0, iI_b2_1, mm_bI_some, mm_bV_some, mm_bL_some, mm_bA_some, fd_wL, fd_wR, fl_wI, fl_wR, re_wI, re_wL, re_wC, ite_true, ite_false, not_true_eq_false, not_false_eq_true, lq_ge, lq_le, lq_gt, lq_lt, lq_eq, jI_lt, jI_le, jI_eq, if_pos, if_neg, e]
  · rw [if_neg c]
    by_cases c2 : k < 0 <;> simp (disch := omega) only [iI_lit, jI_lit, iI_neg, jI_neg, iI_add, iI_sub, iI_mul, jI_add, jI_sub, jI_mul, rdI, rdL, iI_lt, iI_le, iI_eq, iI_nat, iI_b2_0, iI_b2_1, mm_bI_some, mm_bV_some, mm_bL_some, mm_bA_some, fd_wL, fd_wR, fl_wI, fl_wR, re_wI, re_wL, re_wC, ite_true, ite_false, not_true_eq_false, not_false_eq_true, lq_ge, lq_le, lq_gt, lq_lt, lq_eq, jI_lt, jI_le, jI_eq, if_pos, if_neg, e]
/-- the rows on the tape from place j on, k of them, can be seen -/
def seeOk (b : Nat → Int) (pm : Int) : Nat → Nat → Bool
  | 0, _ => true
  | k + 1, j => if b j ≤ 30 ∧ (0 ≤ b (j + 1) ∧ b (j + 1) < pm) ∧ b (j + 2) ≤ 99 then seeOk b pm k (j + 3) else false
theorem seeOk_at {b : Nat → Int} {pm : Int} : ∀ (k j : Nat), seeOk b pm k j = true → ∀ r, r < k → b (j + 3 * r) ≤ 30 ∧ (0 ≤ b (j + 3 * r + 1) ∧ b (j + 3 * r + 1) < pm) ∧ b (j + 3 * r + 2) ≤ 99
  | 0, j, _, r, hr => by omega
  | k + 1, j, e, r, hr => by
    rw [seeOk] at e
    by_cases c : b j ≤ 30 ∧ (0 ≤ b (j + 1) ∧ b (j + 1) < pm) ∧ b (j + 2) ≤ 99
    · rw [if_pos c] at e
      cases r with
      | zero => exact c
      | succ r =>
        have := seeOk_at k (j + 3) e r (by omega)
        rw [show j + 3 + 3 * r = j + 3 * (r + 1) by omega] at this
        exact this
    · rw [if_neg c] at e
      exact absurd e (by simp)
set_option maxHeartbeats 8000000 in
theorem C_seen_29 {pm : Int} (e : fd h 1 1 = L) (l1 : L ≤ 48) (hb : ∀ j : Nat, (j : Int) < L → 0 ≤ fd h 2 j ∧ fd h 2 j ≤ 255) (e10 : fd h 13 10 = pm) (h8 : 0 ≤ pm ∧ pm ≤ 8) : ∀ (k j : Nat), ((j + 3 * k : Nat) : Int) = L → mm_D (mm_M mm_T0 (d + 1)) cd_X0_readSeen 29 [.ref 204, .ref 1, .ref 13, .int (iI L), .int (iI (j : Nat)), .null] [] h = if seeOk (fun z => fd h 2 z) pm k j = true then mm_D (mm_M mm_T0 (d + 1)) cd_X0_readSeen 97 [.ref 204, .ref 1, .null, .int (iI L), .int (iI 0), .null] [] h else some (some (.int (iI 0)), h)
  | 0, j, jk => by
    rw [seeOk, if_pos rfl, U_X0_readSeen_29 isS_13]
    simp (disch := omega) only [iI_lit, jI_lit, iI_neg, jI_neg, iI_add, iI_sub, iI_mul, jI_add, jI_sub, jI_mul, rdI, rdL, iI_lt, iI_le, iI_eq, iI_nat, iI_b2_0, iI_b2_1, mm_bI_some, mm_bV_some, mm_bL_some, mm_bA_some, fd_wL, fd_wR, fl_wI, fl_wR, re_wI, re_wL, re_wC, ite_true, ite_false, not_true_eq_false, not_false_eq_true, lq_ge, lq_le, lq_gt, lq_lt, lq_eq, jI_lt, jI_le, jI_eq, if_pos, if_neg]
  | k + 1, j, jk => by
    have b0 := hb j (by omega)
    have b1 := hb (j + 1) (by omega)
    have b2' := hb (j + 2) (by omega)
    have t0 := C_byteAt (d := d) (h := h) (k := (j : Nat)) e (by omega) (by omega) (by omega) (by omega)
    have t1 := C_byteAt (d := d) (h := h) (k := (j : Nat) + 1) e (by omega) (by omega) (by omega) (by omega)
    have t2 := C_byteAt (d := d) (h := h) (k := (j : Nat) + 2) e (by omega) (by omega) (by omega) (by omega)
    rw [if_pos (by omega)] at t0 t1 t2
    rw [show (((j : Nat) : Int)).toNat = j by omega] at t0
    rw [show (((j : Nat) : Int) + 1).toNat = j + 1 by omega] at t1
    rw [show (((j : Nat) : Int) + 2).toNat = j + 2 by omega] at t2
    have e3 : ((j : Nat) : Int) + 3 = ((j + 3 : Nat) : Int) := by omega
    rw [seeOk]
    by_cases c0 : fd h 2 j ≤ 30
    · by_cases c1 : fd h 2 (j + 1) < pm
      · by_cases c2 : fd h 2 (j + 2) ≤ 99
        · rw [if_pos (show _ ∧ _ from ⟨c0, ⟨b1.1, c1⟩, c2⟩), ← C_seen_29 e l1 hb e10 h8 k (j + 3) (by omega)]
          rw [U_X0_readSeen_29 isS_13]
          simp (disch := omega) only [iI_lit, jI_lit, iI_neg, jI_neg, iI_add, iI_sub, iI_mul, jI_add, jI_sub, jI_mul, rdI, rdL, iI_lt, iI_le, iI_eq, iI_nat, iI_b2_0, iI_b2_1, mm_bI_some, mm_bV_some, mm_bL_some, mm_bA_some, fd_wL, fd_wR, fl_wI, fl_wR, re_wI, re_wL, re_wC, ite_true, ite_false, not_true_eq_false, not_false_eq_true, lq_ge, lq_le, lq_gt, lq_lt, lq_eq, jI_lt, jI_le, jI_eq, if_pos, if_neg, t0, t1, t2, S_isPerson isS_13, e10, e3]
        · rw [if_neg (show ¬ (_ ∧ _ ∧ _) from fun z => c2 z.2.2), if_neg (by simp)]
          rw [U_X0_readSeen_29 isS_13]
          simp (disch := omega) only [iI_lit, jI_lit, iI_neg, jI_neg, iI_add, iI_sub, iI_mul, jI_add, jI_sub, jI_mul, rdI, rdL, iI_lt, iI_le, iI_eq, iI_nat, iI_b2_0, iI_b2_1, mm_bI_some, mm_bV_some, mm_bL_some, mm_bA_some, fd_wL, fd_wR, fl_wI, fl_wR, re_wI, re_wL, re_wC, ite_true, ite_false, not_true_eq_false, not_false_eq_true, lq_ge, lq_le, lq_gt, lq_lt, lq_eq, jI_lt, jI_le, jI_eq, if_pos, if_neg, t0, t1, t2, S_isPerson isS_13, e10]
      · rw [if_neg (show ¬ (_ ∧ _ ∧ _) from fun z => c1 z.2.1.2), if_neg (by simp)]
        rw [U_X0_readSeen_29 isS_13]
        simp (disch := omega) only [iI_lit, jI_lit, iI_neg, jI_neg, iI_add, iI_sub, iI_mul, jI_add, jI_sub, jI_mul, rdI, rdL, iI_lt, iI_le, iI_eq, iI_nat, iI_b2_0, iI_b2_1, mm_bI_some, mm_bV_some, mm_bL_some, mm_bA_some, fd_wL, fd_wR, fl_wI, fl_wR, re_wI, re_wL, re_wC, ite_true, ite_false, not_true_eq_false, not_false_eq_true, lq_ge, lq_le, lq_gt, lq_lt, lq_eq, jI_lt, jI_le, jI_eq, if_pos, if_neg, t0, t1, S_isPerson isS_13, e10]
    · rw [if_neg (show ¬ (_ ∧ _ ∧ _) from fun z => c0 z.1), if_neg (by simp)]
      rw [U_X0_readSeen_29 isS_13]
      simp (disch := omega) only [iI_lit, jI_lit, iI_neg, jI_neg, iI_add, iI_sub, iI_mul, jI_add, jI_sub, jI_mul, rdI, rdL, iI_lt, iI_le, iI_eq, iI_nat, iI_b2_0, iI_b2_1, mm_bI_some, mm_bV_some, mm_bL_some, mm_bA_some, fd_wL, fd_wR, fl_wI, fl_wR, re_wI, re_wL, re_wC, ite_true, ite_false, not_true_eq_false, not_false_eq_true, lq_ge, lq_le, lq_gt, lq_lt, lq_eq, jI_lt, jI_le, jI_eq, if_pos, if_neg, t0]
set_option maxHeartbeats 8000000 in
theorem C_seen_97 (l1 : L ≤ 48) : ∀ (k j : Nat) (g : mm_H), ((j + k : Nat) : Int) = L → fd g 1 1 = L → ∃ g', mm_D (mm_M mm_T0 (d + 1)) cd_X0_readSeen 97 [.ref 204, .ref 1, .null, .int (iI L), .int (iI (j : Nat)), .null] [] g = some (some (.int (iI 1)), wI g' 204 2 (iI (L / 3))) ∧ (∀ z, fd g' 214 z = if j ≤ z ∧ (z : Int) < L then fd g 2 z else fd g 214 z) ∧ Kf (fun a _ => a = 214) nL g g'
  | 0, j, g, jk, e => by
    have ed : L.tdiv 3 = L / 3 := Int.tdiv_eq_ediv_of_nonneg (by omega)
    refine ⟨g, ?_, fun z => by rw [if_neg (by omega)], Kf.refl⟩
    rw [U_X0_readSeen_97 isS_13]
    simp (disch := omega) only [iI_lit, jI_lit, iI_neg, jI_neg, iI_add, iI_sub, iI_mul, jI_add, jI_sub, jI_mul, rdI, rdL, iI_lt, iI_le, iI_eq, iI_nat, iI_b2_0, iI_b2_1, mm_bI_some, mm_bV_some, mm_bL_some, mm_bA_some, fd_wL, fd_wR, fl_wI, fl_wR, re_wI, re_wL, re_wC, ite_true, ite_false, not_true_eq_false, not_false_eq_true, lq_ge, lq_le, lq_gt, lq_lt, lq_eq, jI_lt, jI_le, jI_eq, if_pos, if_neg, iI_div, ed]
  | k + 1, j, g, jk, e => by
    have t0 := C_byteAt (d := d) (h := g) (k := (j : Nat)) e (by omega) (by omega) (by omega) (by omega)
    rw [if_pos (by omega), show (((j : Nat) : Int)).toNat = j by omega] at t0
    have e1 : ((j : Nat) : Int) + 1 = ((j + 1 : Nat) : Int) := by omega
    have en : (((j : Nat) : Int)).toNat = j := by omega
    obtain ⟨g', m1, m2, m3⟩ := C_seen_97 l1 k (j + 1) (wI g 214 j (iI (fd g 2 j))) (by omega) ((fd_wI_row (by omega)).trans e)
    refine ⟨g', ?_, fun z => ?_, Kf.trans (Kf.refl.wI rfl) m3⟩
    · rw [U_X0_readSeen_97 isS_13, ← m1]
      simp (disch := omega) only [iI_lit, jI_lit, iI_neg, jI_neg, iI_add, iI_sub, iI_mul, jI_add, jI_sub, jI_mul, rdI, rdL, iI_lt, iI_le, iI_eq, iI_nat, iI_b2_0, iI_b2_1, mm_bI_some, mm_bV_some, mm_bL_some, mm_bA_some, fd_wL, fd_wR, fl_wI, fl_wR, re_wI, re_wL, re_wC, ite_true, ite_false, not_true_eq_false, not_false_eq_true, lq_ge, lq_le, lq_gt, lq_lt, lq_eq, jI_lt, jI_le, jI_eq, if_pos, if_neg, t0, e1, en]
    · rw [m2]
      by_cases c : j + 1 ≤ z ∧ (z : Int) < L
      · rw [if_pos c, if_pos (by omega), fd_wI_row (by omega)]
      · rw [if_neg c]
        by_cases c2 : z = j
        · rw [if_pos (by omega), c2, fd_wI_same (fd_lo _ _ _) (fd_hi _ _ _)]
        · rw [if_neg (by omega), fd_wI_col c2]
set_option maxHeartbeats 8000000 in
theorem R_see_36n {j : Int} : mm_D (mm_M mm_T0 (d + 1)) cd_X12_see 36 [.ref 264, .int (iI L), .int (iI 0), .int (iI j)] [] h = some (some (.int (iI (-1))), wI h 266 1 (iI (fd h 266 1 + 1))) := by
  rw [U_X12_see_36]
  split <;> simp (disch := omega) only [iI_lit, jI_lit, iI_neg, jI_neg, iI_add, iI_sub, iI_mul, jI_add, jI_sub, jI_mul, rdI, rdL, iI_lt, iI_le, iI_eq, iI_nat, iI_b2_0, iI_b2_1, mm_bI_some, mm_bV_some, mm_bL_some, mm_bA_some, fd_wL, fd_wR, fl_wI, fl_wR, re_wI, re_wL, re_wC, ite_true, ite_false, not_true_eq_false, not_false_eq_true, lq_ge, lq_le, lq_gt, lq_lt, lq_eq, jI_lt, jI_le, jI_eq, if_pos, if_neg, R_ref1]
set_option maxHeartbeats 8000000 in
theorem R_see_36 {pm : Int} (l1 : L ≤ 48) (hb : ∀ j : Nat, (j : Int) < L → 0 ≤ fd h 265 j ∧ fd h 265 j ≤ 255) (e40 : fd h 264 40 = pm) (h8 : 0 ≤ pm ∧ pm ≤ 8) : ∀ (k j : Nat), ((j + 3 * k : Nat) : Int) = L → mm_D (mm_M mm_T0 (d + 2)) cd_X12_see 36 [.ref 264, .int (iI L), .int (iI 1), .int (iI (j : Nat))] [] h = if seeOk (fun z => fd h 265 z) pm k j = true then mm_D (mm_M mm_T0 (d + 2)) cd_X12_see 109 [.ref 264, .int (iI L), .null, .int (iI 0)] [] h else some (some (.int (iI (-1))), wI h 266 1 (iI (fd h 266 1 + 1)))
  | 0, j, jk => by
    rw [seeOk, if_pos rfl, U_X12_see_36]
    simp (disch := omega) only [iI_lit, jI_lit, iI_neg, jI_neg, iI_add, iI_sub, iI_mul, jI_add, jI_sub, jI_mul, rdI, rdL, iI_lt, iI_le, iI_eq, iI_nat, iI_b2_0, iI_b2_1, mm_bI_some, mm_bV_some, mm_bL_some, mm_bA_some, fd_wL, fd_wR, fl_wI, fl_wR, re_wI, re_wL, re_wC, ite_true, ite_false, not_true_eq_false, not_false_eq_true, lq_ge, lq_le, lq_gt, lq_lt, lq_eq, jI_lt, jI_le, jI_eq, if_pos, if_neg]
  | k + 1, j, jk => by
    have b0 := hb j (by omega)
    have b1 := hb (j + 1) (by omega)
    have b2' := hb (j + 2) (by omega)
    have n0 : (((j : Nat) : Int)).toNat = j := by omega
    have n1 : (((j : Nat) : Int) + 1).toNat = j + 1 := by omega
    have n2 : (((j : Nat) : Int) + 2).toNat = j + 2 := by omega
    have e3 : ((j : Nat) : Int) + 3 = ((j + 3 : Nat) : Int) := by omega
    have no := R_see_36n (d := d + 1) (h := h) (L := L) (j := ((j + 3 : Nat) : Int))
    rw [seeOk]
    by_cases c0 : fd h 265 j ≤ 30
    · by_cases c1 : fd h 265 (j + 1) < pm
      · by_cases c2 : fd h 265 (j + 2) ≤ 99
        · rw [if_pos (show _ ∧ _ from ⟨c0, ⟨b1.1, c1⟩, c2⟩), ← R_see_36 l1 hb e40 h8 k (j + 3) (by omega)]
          rw [U_X12_see_36]
          simp (disch := omega) only [iI_lit, jI_lit, iI_neg, jI_neg, iI_add, iI_sub, iI_mul, jI_add, jI_sub, jI_mul, rdI, rdL, iI_lt, iI_le, iI_eq, iI_nat, iI_b2_0, iI_b2_1, mm_bI_some, mm_bV_some, mm_bL_some, mm_bA_some, fd_wL, fd_wR, fl_wI, fl_wR, re_wI, re_wL, re_wC, ite_true, ite_false, not_true_eq_false, not_false_eq_true, lq_ge, lq_le, lq_gt, lq_lt, lq_eq, jI_lt, jI_le, jI_eq, if_pos, if_neg, n0, n1, n2, iI_jI, R_isPerson, e40, e3]
        · rw [if_neg (show ¬ (_ ∧ _ ∧ _) from fun z => c2 z.2.2), if_neg (by simp)]
          rw [U_X12_see_36]
          simp (disch := omega) only [iI_lit, jI_lit, iI_neg, jI_neg, iI_add, iI_sub, iI_mul, jI_add, jI_sub, jI_mul, rdI, rdL, iI_lt, iI_le, iI_eq, iI_nat, iI_b2_0, iI_b2_1, mm_bI_some, mm_bV_some, mm_bL_some, mm_bA_some, fd_wL, fd_wR, fl_wI, fl_wR, re_wI, re_wL, re_wC, ite_true, ite_false, not_true_eq_false, not_false_eq_true, lq_ge, lq_le, lq_gt, lq_lt, lq_eq, jI_lt, jI_le, jI_eq, if_pos, if_neg, n0, n1, n2, iI_jI, R_isPerson, e40, e3, no]
      · rw [if_neg (show ¬ (_ ∧ _ ∧ _) from fun z => c1 z.2.1.2), if_neg (by simp)]
        rw [U_X12_see_36]
        simp (disch := omega) only [iI_lit, jI_lit, iI_neg, jI_neg, iI_add, iI_sub, iI_mul, jI_add, jI_sub, jI_mul, rdI, rdL, iI_lt, iI_le, iI_eq, iI_nat, iI_b2_0, iI_b2_1, mm_bI_some, mm_bV_some, mm_bL_some, mm_bA_some, fd_wL, fd_wR, fl_wI, fl_wR, re_wI, re_wL, re_wC, ite_true, ite_false, not_true_eq_false, not_false_eq_true, lq_ge, lq_le, lq_gt, lq_lt, lq_eq, jI_lt, jI_le, jI_eq, if_pos, if_neg, n0, n1, iI_jI, R_isPerson, e40, e3, no]
    · rw [if_neg (show ¬ (_ ∧ _ ∧ _) from fun z => c0 z.1), if_neg (by simp)]
      rw [U_X12_see_36]
      simp (disch := omega) only [iI_lit, jI_lit, iI_neg, jI_neg, iI_add, iI_sub, iI_mul, jI_add, jI_sub, jI_mul, rdI, rdL, iI_lt, iI_le, iI_eq, iI_nat, iI_b2_0, iI_b2_1, mm_bI_some, mm_bV_some, mm_bL_some, mm_bA_some, fd_wL, fd_wR, fl_wI, fl_wR, re_wI, re_wL, re_wC, ite_true, ite_false, not_true_eq_false, not_false_eq_true, lq_ge, lq_le, lq_gt, lq_lt, lq_eq, jI_lt, jI_le, jI_eq, if_pos, if_neg, n0, e3, no]
set_option maxHeartbeats 8000000 in
theorem R_see_109 (l1 : L ≤ 48) : ∀ (k j : Nat) (g : mm_H), ((j + k : Nat) : Int) = L → ∃ g', mm_D (mm_M mm_T0 d) cd_X12_see 109 [.ref 264, .int (iI L), .null, .int (iI (j : Nat))] [] g = some (some (.int (iI (L / 3))), wI g' 264 67 (iI (L / 3))) ∧ (∀ z, fd g' 303 z = if j ≤ z ∧ (z : Int) < L then fd g 265 z else fd g 303 z) ∧ Kf (fun a _ => a = 303) nL g g'
  | 0, j, g, jk => by
    have ed : L.tdiv 3 = L / 3 := Int.tdiv_eq_ediv_of_nonneg (by omega)
    refine ⟨g, ?_, fun z => by rw [if_neg (by omega)], Kf.refl⟩
    rw [U_X12_see_109]
    simp (disch := omega) only [iI_lit, jI_lit, iI_neg, jI_neg, iI_add, iI_sub, iI_mul, jI_add, jI_sub, jI_mul, rdI, rdL, iI_lt, iI_le, iI_eq, iI_nat, iI_b2_0, iI_b2_1, mm_bI_some, mm_bV_some, mm_bL_some, mm_bA_some, fd_wL, fd_wR, fl_wI, fl_wR, re_wI, re_wL, re_wC, ite_true, ite_false, not_true_eq_false, not_false_eq_true, lq_ge, lq_le, lq_gt, lq_lt, lq_eq, jI_lt, jI_le, jI_eq, if_pos, if_neg, iI_div, ed, fd_wI_same]
  | k + 1, j, g, jk => by
    have e1 : ((j : Nat) : Int) + 1 = ((j + 1 : Nat) : Int) := by omega
    have en : (((j : Nat) : Int)).toNat = j := by omega
    obtain ⟨g', m1, m2, m3⟩ := R_see_109 l1 k (j + 1) (wI g 303 j (iI (fd g 265 j))) (by omega)
    refine ⟨g', ?_, fun z => ?_, Kf.trans (Kf.refl.wI rfl) m3⟩
    · rw [U_X12_see_109, ← m1]
      simp (disch := omega) only [iI_lit, jI_lit, iI_neg, jI_neg, iI_add, iI_sub, iI_mul, jI_add, jI_sub, jI_mul, rdI, rdL, iI_lt, iI_le, iI_eq, iI_nat, iI_b2_0, iI_b2_1, mm_bI_some, mm_bV_some, mm_bL_some, mm_bA_some, fd_wL, fd_wR, fl_wI, fl_wR, re_wI, re_wL, re_wC, ite_true, ite_false, not_true_eq_false, not_false_eq_true, lq_ge, lq_le, lq_gt, lq_lt, lq_eq, jI_lt, jI_le, jI_eq, if_pos, if_neg, e1, en]
    · rw [m2]
      by_cases c : j + 1 ≤ z ∧ (z : Int) < L
      · rw [if_pos c, if_pos (by omega), fd_wI_row (by omega)]
      · rw [if_neg c]
        by_cases c2 : z = j
        · rw [if_pos (by omega), c2, fd_wI_same (fd_lo _ _ _) (fd_hi _ _ _)]
        · rw [if_neg (by omega), fd_wI_col c2]
theorem seeOk_congr {f g : Nat → Int} {pm : Int} : ∀ (k j : Nat), (∀ z, z < j + 3 * k → f z = g z) → seeOk f pm k j = seeOk g pm k j
  | 0, _, _ => rfl
  | k + 1, j, h => by
    rw [seeOk, seeOk, h j (by omega), h (j + 1) (by omega), h (j + 2) (by omega), seeOk_congr k (j + 3) (fun z hz => h z (by omega))]
end SEE
theorem IvM.bad {h : mm_H} {k : Nat} (I : IvM h) (hk : k < 6) : IvM (wI (wI (wI (wI h 1 1 (iI 0)) 229 k (iI (fd h 229 k + 1))) 264 1 (iI 0)) 266 k (iI (fd h 266 k + 1))) := by
  have m2 := I.2.1
  have M1 := (I.ref hk).cut (n := 0) (by omega) (by rw [fd_wI_row (by omega), fd_wI_row (by omega)]; omega)
  refine M1.kf (Q := fun _ _ => False) (L := nL) ⟨fun a j _ => ?_, fun a j _ => by simp only [fl_wI], by simp only [re_wI]⟩ (fun _ _ _ q => q) (fun q => q)
  simp only [fd_wI]
  by_cases x1 : a = 266 ∧ j = k
  · simp [x1]
  · by_cases x2 : a = 264 ∧ j = 1
    · simp [x2]
    · by_cases x3 : a = 229 ∧ j = k
      · simp [x3]
      · simp only [if_neg x1, if_neg x2, if_neg x3]
set_option maxHeartbeats 8000000 in
theorem K_see : CallI 167 266 [] := by
  intro d h i I hi
  obtain ⟨t, st, pm, hm, fc, kd, cp, cm, cf, n, ev, past, M, W, H, S, P, N⟩ := I
  have W0 := W
  obtain ⟨w1, w2, w3, w4, w5, w6, w7, w8, w9, w10, w11, w12, w13⟩ := W
  have tt := isT_or w1.1
  have h8 := w5.1
  have m1 := M.1
  have m2 := M.2.1
  have m3 := M.2.2.1
  have e40 : fd h 264 40 = pm := w3.1
  have e10 : fd h 13 10 = pm := w8.1
  generalize hL : fd h 264 1 = L at *
  have tm : L - L.tdiv 3 * 3 = L % 3 := by
    rw [Int.tdiv_eq_ediv_of_nonneg (by omega)]
    omega
  have td : L.tdiv 3 = L / 3 := Int.tdiv_eq_ediv_of_nonneg (by omega)
  -- a refusal
  have bad : (∀ d, mm_M mm_T0 (d + 3) 24 [.ref 204, .ref 1, .ref 13] h = some (some (.int (iI 0)), h)) → (∀ g, Kf (fun a k => a = 229 ∨ (a = 1 ∧ k = 1)) nL h g → ∀ d, mm_M mm_T0 (d + 3) 266 [.ref 264] g = some (some (.int (iI (-1))), wI (wI g 264 1 (iI 0)) 266 1 (iI (fd g 266 1 + 1)))) → ∃ v h1 h2, mm_M mm_T0 (d + 40) 167 [.ref 0] h = some (some (.int v), h1) ∧ mm_M mm_T0 (d + 40) 266 [.ref 264] h1 = some (some (.int v), h2) ∧ Inv h2 (i + 6) := by
    intro b1 b2'
    have sh := C_shorten (d := d + 37) m1 m2.1 (n := 0) (by omega) m2.1 m2.2
    have kg : Kf (fun a k => a = 229 ∨ (a = 1 ∧ k = 1)) nL h (wI (wI h 1 1 (iI 0)) 229 1 (iI (fd h 229 1 + 1))) := (Kf.refl.wI (by omega)).wI (by omega)
    have r := b2' _ kg (d + 37)
    have f266 : fd (wI (wI h 1 1 (iI 0)) 229 1 (iI (fd h 229 1 + 1))) 266 1 = fd h 266 1 := kg.1 _ _ (by omega)
    rw [f266] at r
    refine ⟨iI (-1), _, _, ?_, r, ?_⟩
    · have f229 : fd (wI h 1 1 (iI 0)) 229 1 = fd h 229 1 := fd_wI_row (by omega)
      rw [U_X11_see]
      simp (disch := omega) only [iI_lit, jI_lit, iI_neg, jI_neg, iI_add, iI_sub, iI_mul, jI_add, jI_sub, jI_mul, rdI, rdL, iI_lt, iI_le, iI_eq, iI_nat, iI_b2_0, iI_b2_1, mm_bI_some, mm_bV_some, mm_bL_some, mm_bA_some, fd_wL, fd_wR, fl_wI, fl_wR, re_wI, re_wL, re_wC, ite_true, ite_false, not_true_eq_false, not_false_eq_true, lq_ge, lq_le, lq_gt, lq_lt, lq_eq, jI_lt, jI_le, jI_eq, if_pos, if_neg, b1, sh, C_ref1, f229]
    · have kk : Kf (fun a k => a = 229 ∨ a = 266 ∨ ((a = 1 ∨ a = 264) ∧ k = 1)) nL h (wI (wI (wI (wI h 1 1 (iI 0)) 229 1 (iI (fd h 229 1 + 1))) 264 1 (iI 0)) 266 1 (iI (fd h 266 1 + 1))) := (((Kf.refl.wI (by omega)).wI (by omega)).wI (by omega)).wI (by omega)
      have ee := M.bad (k := 1) (by omega)
      exact Inv.mac ee W0 H S P N (kk.mono (fun a k q => by unfold Mac NW NC NR NH NS NP Nnm; omega) (fun a k q => q.elim)) hi
  by_cases c0 : 0 < L ∧ L ≤ 48 ∧ L % 3 = 0
  · have kL : ((0 + 3 * (L / 3).toNat : Nat) : Int) = L := by omega
    have sc := seeOk_congr (f := fun z => fd h 2 z) (g := fun z => fd h 265 z) (pm := pm) (L / 3).toNat 0 (fun z hz => (m3 z (by omega)).1)
    have c29 := fun d => C_seen_29 (d := d) m1 c0.2.1 (fun j hj => by have := m3 j hj; omega) e10 h8 (L / 3).toNat 0 kL
    have r36 : ∀ g, Kf (fun a k => a = 229 ∨ (a = 1 ∧ k = 1) ∨ a = 214 ∨ (a = 204 ∧ k = 2)) nL h g → ∀ d, mm_M mm_T0 (d + 3) 266 [.ref 264] g = if seeOk (fun z => fd h 265 z) pm (L / 3).toNat 0 = true then mm_D (mm_M mm_T0 (d + 2)) cd_X12_see 109 [.ref 264, .int (iI L), .null, .int (iI 0)] [] (wI g 264 1 (iI 0)) else some (some (.int (iI (-1))), wI (wI g 264 1 (iI 0)) 266 1 (iI (fd g 266 1 + 1))) := by
      intro g kg d
      have kw : ∀ x j, (x = 265 ∨ x = 264 ∨ x = 266) → ¬ (x = 264 ∧ j = 1) → fd (wI g 264 1 (iI 0)) x j = fd h x j := by
        intro x j hx hj
        by_cases c : x = 264
        · rw [fd_wI_col (by omega)]; exact kg.1 _ _ (by omega)
        · rw [fd_wI_row c]; exact kg.1 _ _ (by omega)
      have r := R_see_36 (d := d) (h := wI g 264 1 (iI 0)) (L := L) (pm := pm) c0.2.1 (fun j hj => by rw [kw _ _ (by omega) (by omega)]; have := m3 j hj; omega) (by rw [kw _ _ (by omega) (by omega)]; exact e40) h8 (L / 3).toNat 0 kL
      have eq : seeOk (fun z => fd (wI g 264 1 (iI 0)) 265 z) pm (L / 3).toNat 0 = seeOk (fun z => fd h 265 z) pm (L / 3).toNat 0 := seeOk_congr _ _ (fun z hz => kw _ _ (by omega) (by omega))
      rw [eq, show ((0 : Nat) : Int) = 0 from rfl, fd_wI_row (by omega)] at r
      have e1 : fd g 264 1 = L := (kg.1 _ _ (by omega)).trans hL
      rw [U_X12_see, ← r]
      simp (disch := omega) only [iI_lit, jI_lit, iI_neg, jI_neg, iI_add, iI_sub, iI_mul, jI_add, jI_sub, jI_mul, rdI, rdL, iI_lt, iI_le, iI_eq, iI_nat, iI_b2_0, iI_b2_1, mm_bI_some, mm_bV_some, mm_bL_some, mm_bA_some, fd_wL, fd_wR, fl_wI, fl_wR, re_wI, re_wL, re_wC, ite_true, ite_false, not_true_eq_false, not_false_eq_true, lq_ge, lq_le, lq_gt, lq_lt, lq_eq, jI_lt, jI_le, jI_eq, if_pos, if_neg, e1, iI_div, td, tm]
    by_cases ok : seeOk (fun z => fd h 265 z) pm (L / 3).toNat 0 = true
    · obtain ⟨g, p1, p2, p3⟩ := C_seen_97 (d := d + 37) c0.2.1 L.toNat 0 h (by omega) m1
      have sh := C_shorten (d := d + 37) (h := wI g 204 2 (iI (L / 3))) (L := L) (n := 0) (by rw [fd_wI_row (by omega), p3.1 _ _ (by omega)]; exact m1) m2.1 (by omega) m2.1 m2.2
      have k1 : Kf (fun a k => a = 214 ∨ (a = 204 ∧ k = 2) ∨ (a = 1 ∧ k = 1)) nL h (wI (wI g 204 2 (iI (L / 3))) 1 1 (iI 0)) := Kf.wI (Kf.wI (p3.monoQ (fun a k q => by omega)) (by omega)) (by omega)
      have r := r36 _ (k1.monoQ (fun a k q => by omega)) (d + 37)
      rw [if_pos ok] at r
      obtain ⟨g2, q1, q2, q3⟩ := R_see_109 (d := d + 39) c0.2.1 L.toNat 0 (wI (wI (wI g 204 2 (iI (L / 3))) 1 1 (iI 0)) 264 1 (iI 0)) (by omega)
      rw [show ((0 : Nat) : Int) = 0 from rfl] at q1 p1
      have k2 : Kf (fun a k => a = 214 ∨ (a = 204 ∧ k = 2) ∨ (a = 1 ∧ k = 1) ∨ (a = 264 ∧ (k = 1 ∨ k = 67)) ∨ a = 303) nL h (wI g2 264 67 (iI (L / 3))) := Kf.wI (Kf.trans (Kf.wI (k1.monoQ (fun a k q => by omega)) (by omega)) (q3.monoQ (fun a k q => by omega))) (by omega)
      have sa := seeOk_at (L / 3).toNat 0 ok
      refine ⟨iI (L / 3), _, _, ?_, r.trans q1, ⟨t, st, pm, hm, fc, kd, cp, cm, cf, n, ev, past, M.zero k2 (by intro a j; unfold NM; omega) (fun q => q) ?_ ?_, W0.kf k2 (by intro a j; unfold NW NC NR; omega) ?_ ?_ (by omega) hi, H.kf k2 (by intro a j; unfold NH; omega) (by omega), ⟨?_, ?_, ?_, ?_⟩, P.kf k2 (by intro a j; unfold NP; omega), N.kf k2 (by intro a j; unfold Nnm; omega) (fun j hj q => q)⟩⟩
      · have c29' := c29 (d + 37)
        rw [sc, if_pos ok, show ((0 : Nat) : Int) = 0 from rfl] at c29'
        have f2 : fd (wI (wI g 204 2 (iI (L / 3))) 1 1 (iI 0)) 204 2 = L / 3 := by rw [fd_wI_row (by omega), fd_wI_same (by omega) (by omega)]
        rw [U_X11_see, U_X0_readSeen isS_13, U_X8_size]
        simp (disch := omega) only [iI_lit, jI_lit, iI_neg, jI_neg, iI_add, iI_sub, iI_mul, jI_add, jI_sub, jI_mul, rdI, rdL, iI_lt, iI_le, iI_eq, iI_nat, iI_b2_0, iI_b2_1, mm_bI_some, mm_bV_some, mm_bL_some, mm_bA_some, fd_wL, fd_wR, fl_wI, fl_wR, re_wI, re_wL, re_wC, ite_true, ite_false, not_true_eq_false, not_false_eq_true, lq_ge, lq_le, lq_gt, lq_lt, lq_eq, jI_lt, jI_le, jI_eq, if_pos, if_neg, m1, iI_div, td, tm, c29', p1, sh, U_X0_countSeen, f2]
      · rw [fd_wI_row (by omega), q3.1 _ _ (by omega), fd_wI_row (by omega), fd_wI_same (by omega) (by omega)]
      · rw [fd_wI_col (by omega), q3.1 _ _ (by omega), fd_wI_same (by omega) (by omega)]
      · rw [k2.1 _ _ (by omega)]; exact w9
      · rw [k2.1 _ _ (by omega)]; omega
      · rw [fd_wI_same (by omega) (by omega), fd_wI_row (by omega), q3.1 _ _ (by omega), fd_wI_row (by omega), fd_wI_row (by omega), fd_wI_same (by omega) (by omega)]
      · rw [fd_wI_same (by omega) (by omega)]; omega
      · rw [fd_wI_same (by omega) (by omega)]
        intro k hk
        rw [fd_wI_row (by omega), fd_wI_row (by omega), q3.1 _ _ (by omega), fd_wI_row (by omega), fd_wI_row (by omega), fd_wI_row (by omega), p2, if_pos (by omega), q2, if_pos (by omega), fd_wI_row (by omega), fd_wI_row (by omega), fd_wI_row (by omega), p3.1 _ _ (by omega)]
        exact (m3 k (by omega)).1
      · rw [fd_wI_same (by omega) (by omega)]
        intro x hx
        have := sa x (by omega)
        rw [Nat.zero_add] at this
        have bb := fun z (hz : z < 3 * (L / 3).toNat) => m3 z (by omega)
        have v : ∀ z : Nat, (z : Int) < L → fd (wI g2 264 67 (iI (L / 3))) 303 z = fd h 265 z := by
          intro z hz
          rw [fd_wI_row (by omega), q2, if_pos (by omega), fd_wI_row (by omega), fd_wI_row (by omega), fd_wI_row (by omega), p3.1 _ _ (by omega)]
        rw [v _ (by omega), v _ (by omega), v _ (by omega)]
        have y0 := (m3 (3 * x) (by omega)).2
        have y2 := (m3 (3 * x + 2) (by omega)).2
        exact ⟨⟨y0.1, this.1⟩, this.2.1, ⟨y2.1, this.2.2⟩⟩
    · refine bad (fun d => ?_) (fun g kg d => ?_)
      · have c29' := c29 (d + 1)
        rw [sc, if_neg ok, show ((0 : Nat) : Int) = 0 from rfl] at c29'
        rw [U_X0_readSeen isS_13, U_X8_size]
        simp (disch := omega) only [iI_lit, jI_lit, iI_neg, jI_neg, iI_add, iI_sub, iI_mul, jI_add, jI_sub, jI_mul, rdI, rdL, iI_lt, iI_le, iI_eq, iI_nat, iI_b2_0, iI_b2_1, mm_bI_some, mm_bV_some, mm_bL_some, mm_bA_some, fd_wL, fd_wR, fl_wI, fl_wR, re_wI, re_wL, re_wC, ite_true, ite_false, not_true_eq_false, not_false_eq_true, lq_ge, lq_le, lq_gt, lq_lt, lq_eq, jI_lt, jI_le, jI_eq, if_pos, if_neg, m1, iI_div, td, tm, c29']
      · have r := r36 g (kg.monoQ (fun a k q => by omega)) d
        rw [if_neg ok] at r
        exact r
  · refine bad (fun d => ?_) (fun g kg d => ?_)
    · rw [U_X0_readSeen isS_13, U_X8_size]
      by_cases c1 : L = 0
      · simp (disch := omega) only [iI_lit, jI_lit, iI_neg, jI_neg, iI_add, iI_sub, iI_mul, jI_add, jI_sub, jI_mul, rdI, rdL, iI_lt, iI_le, iI_eq, iI_nat, iI_b2_0, iI_b2_1, mm_bI_some, mm_bV_some, mm_bL_some, mm_bA_some, fd_wL, fd_wR, fl_wI, fl_wR, re_wI, re_wL, re_wC, ite_true, ite_false, not_true_eq_false, not_false_eq_true, lq_ge, lq_le, lq_gt, lq_lt, lq_eq, jI_lt, jI_le, jI_eq, if_pos, if_neg, m1]
      · by_cases c2 : 48 < L
        · simp (disch := omega) only [iI_lit, jI_lit, iI_neg, jI_neg, iI_add, iI_sub, iI_mul, jI_add, jI_sub, jI_mul, rdI, rdL, iI_lt, iI_le, iI_eq, iI_nat, iI_b2_0, iI_b2_1, mm_bI_some, mm_bV_some, mm_bL_some, mm_bA_some, fd_wL, fd_wR, fl_wI, fl_wR, re_wI, re_wL, re_wC, ite_true, ite_false, not_true_eq_false, not_false_eq_true, lq_ge, lq_le, lq_gt, lq_lt, lq_eq, jI_lt, jI_le, jI_eq, if_pos, if_neg, m1]
        · simp (disch := omega) only [iI_lit, jI_lit, iI_neg, jI_neg, iI_add, iI_sub, iI_mul, jI_add, jI_sub, jI_mul, rdI, rdL, iI_lt, iI_le, iI_eq, iI_nat, iI_b2_0, iI_b2_1, mm_bI_some, mm_bV_some, mm_bL_some, mm_bA_some, fd_wL, fd_wR, fl_wI, fl_wR, re_wI, re_wL, re_wC, ite_true, ite_false, not_true_eq_false, not_false_eq_true, lq_ge, lq_le, lq_gt, lq_lt, lq_eq, jI_lt, jI_le, jI_eq, if_pos, if_neg, m1, iI_div, td, tm]
    · have e1 : fd g 264 1 = L := (kg.1 _ _ (by omega)).trans hL
      have no := R_see_36n (d := d + 1) (h := wI g 264 1 (iI 0)) (L := L) (j := 0)
      rw [fd_wI_row (by omega)] at no
      rw [U_X12_see, ← no]
      by_cases c1 : L ≤ 0
      · simp (disch := omega) only [iI_lit, jI_lit, iI_neg, jI_neg, iI_add, iI_sub, iI_mul, jI_add, jI_sub, jI_mul, rdI, rdL, iI_lt, iI_le, iI_eq, iI_nat, iI_b2_0, iI_b2_1, mm_bI_some, mm_bV_some, mm_bL_some, mm_bA_some, fd_wL, fd_wR, fl_wI, fl_wR, re_wI, re_wL, re_wC, ite_true, ite_false, not_true_eq_false, not_false_eq_true, lq_ge, lq_le, lq_gt, lq_lt, lq_eq, jI_lt, jI_le, jI_eq, if_pos, if_neg, e1]
      · by_cases c2 : L % 3 = 0
        · simp (disch := omega) only [iI_lit, jI_lit, iI_neg, jI_neg, iI_add, iI_sub, iI_mul, jI_add, jI_sub, jI_mul, rdI, rdL, iI_lt, iI_le, iI_eq, iI_nat, iI_b2_0, iI_b2_1, mm_bI_some, mm_bV_some, mm_bL_some, mm_bA_some, fd_wL, fd_wR, fl_wI, fl_wR, re_wI, re_wL, re_wC, ite_true, ite_false, not_true_eq_false, not_false_eq_true, lq_ge, lq_le, lq_gt, lq_lt, lq_eq, jI_lt, jI_le, jI_eq, if_pos, if_neg, e1, iI_div, td, tm]
        · simp (disch := omega) only [iI_lit, jI_lit, iI_neg, jI_neg, iI_add, iI_sub, iI_mul, jI_add, jI_sub, jI_mul, rdI, rdL, iI_lt, iI_le, iI_eq, iI_nat, iI_b2_0, iI_b2_1, mm_bI_some, mm_bV_some, mm_bL_some, mm_bA_some, fd_wL, fd_wR, fl_wI, fl_wR, re_wI, re_wL, re_wC, ite_true, ite_false, not_true_eq_false, not_false_eq_true, lq_ge, lq_le, lq_gt, lq_lt, lq_eq, jI_lt, jI_le, jI_eq, if_pos, if_neg, e1, iI_div, td, tm]
