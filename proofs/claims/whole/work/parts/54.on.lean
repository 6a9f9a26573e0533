/-! on: an image read -/
section ONS
/-- where person p's bytes begin -/
def posP (m p : Nat) : Nat := 2 + p * (m + 2)
theorem posP_s (m p : Nat) : posP m (p + 1) = posP m p + (m + 2) := by
  unfold posP
  rw [Nat.succ_mul]
  omega
theorem posP_b {m p : Nat} (hm : m ≤ 8) (hp : p < m) : posP m p + (m + 2) ≤ 82 := by
  have : ∀ m, m ≤ 8 → ∀ p, p < m → 2 + p * (m + 2) + (m + 2) ≤ 82 := by decide
  exact this m hm p hp
theorem posP_e {m p : Nat} (hp : p < m) : posP m p + (m + 2) ≤ 2 + m * (m + 2) := by
  rw [← posP_s]
  unfold posP
  have : (p + 1) * (m + 2) ≤ m * (m + 2) := Nat.mul_le_mul_right _ hp
  omega
def OkP (b : Nat → Int) (hm : Int) (m p : Nat) : Prop := (0 ≤ b (posP m p) ∧ b (posP m p) < hm) ∧ (∀ q, q < p → b (posP m q) ≠ b (posP m p)) ∧ b (posP m p + 1) ≤ 99 ∧ b (posP m p + 2) ≤ 1 ∧ ∀ i, 3 ≤ i → i < m + 2 → b (posP m p + i) ≤ 9
/-- the row with p's thoughts from q on, k of them, told from f on -/
def onT (b : Nat → Int) (p : Int) : Nat → Int → Nat → (Int → Int) → (Int → Int)
  | 0, _, _, n => n
  | k + 1, q, f, n => if q = p then onT b p k (q + 1) f n else onT b p k (q + 1) (f + 1) (up n (25 + 8 * p + q) (b f))
def onP (b : Nat → Int) (p : Int) (f : Nat) (n : Int → Int) : Int → Int := up (up (up n (1 + 3 * p) (b f)) (2 + 3 * p) (b (f + 1))) (3 + 3 * p) (b (f + 2))
def onA (b : Nat → Int) (m : Nat) : Nat → Nat → (Int → Int) → (Int → Int)
  | 0, _, n => n
  | k + 1, p, n => onA b m k (p + 1) (onT b (p : Nat) m 0 (posP m p + 3) (onP b (p : Nat) (posP m p) n))
/-- only thoughts of p of others change -/
theorem onT_ne {b : Nat → Int} {p z : Int} : ∀ (k : Nat) (q : Int) (f : Nat) (n : Int → Int), (z < 25 + 8 * p + q ∨ 25 + 8 * p + q + k ≤ z) → onT b p k q f n z = n z
  | 0, q, f, n, h => rfl
  | k + 1, q, f, n, h => by
    rw [onT]
    split
    · exact onT_ne k (q + 1) f n (by omega)
    · rw [onT_ne k (q + 1) (f + 1) _ (by omega), up_ne (by omega)]
theorem onT_b {b : Nat → Int} {p : Int} : ∀ (k : Nat) (q : Int) (f : Nat) (n : Int → Int), (∀ i, f ≤ i → i < f + k → 0 ≤ b i) → (∀ i, f ≤ i → (i < f + k - 1 ∨ (¬ (q ≤ p ∧ p < q + k) ∧ i < f + k)) → b i ≤ 9) → ∀ x, q ≤ x → x < q + k → x ≠ p → 0 ≤ onT b p k q f n (25 + 8 * p + x) ∧ onT b p k q f n (25 + 8 * p + x) ≤ 9
  | 0, q, f, n, h1, h2, x, x1, x2, xp => by omega
  | k + 1, q, f, n, h1, h2, x, x1, x2, xp => by
    rw [onT]
    by_cases c : q = p
    · rw [if_pos c]
      exact onT_b k (q + 1) f n (fun i i1 i2 => h1 i i1 (by omega)) (fun i i1 i2 => h2 i i1 (by omega)) x (by omega) (by omega) xp
    · rw [if_neg c]
      by_cases cx : x = q
      · rw [cx, onT_ne k (q + 1) (f + 1) _ (by omega), up_same]
        exact ⟨h1 f (by omega) (by omega), h2 f (by omega) (by omega)⟩
      · exact onT_b k (q + 1) (f + 1) _ (fun i i1 i2 => h1 i (by omega) (by omega)) (fun i i1 i2 => h2 i (by omega) (by omega)) x (by omega) (by omega) xp
end ONS
section ONR
variable {d : Nat} {h : mm_H} {b : Nat → Int} {m : Nat} {pm hm : Int} {n : Int → Int}
/-- the tape's bytes, in the reference -/
def TpR (g : mm_H) (b : Nat → Int) (L : Nat) : Prop := ∀ j, j < L → fd g 265 j = b j ∧ 0 ≤ b j ∧ b j ≤ 255
def TpC (g : mm_H) (b : Nat → Int) (L : Nat) : Prop := fd g 1 1 = (L : Int) ∧ ∀ j, j < L → fd g 2 j = b j ∧ 0 ≤ b j ∧ b j ≤ 255
set_option maxHeartbeats 8000000 in
theorem R_told_56 {W f : Nat} (T : TpR h b (f + W)) (hf : f + W ≤ 1000) : ∀ (k i : Nat), i + k = W → mm_D (mm_M mm_T0 d) cd_X12_isPersonTold 56 [.ref 264, .null, .int (iI (W : Nat)), .int (iI (f : Nat)), .int (iI (i : Nat))] [] h = mm_D (mm_M mm_T0 d) cd_X12_isPersonTold 87 [.ref 264, .null, .int (iI (W : Nat)), .int (iI (f : Nat)), .int (iI 2)] [] h ∧ (∀ j, i ≤ j → j < W → b (f + j) ≤ 9) ∨ mm_D (mm_M mm_T0 d) cd_X12_isPersonTold 56 [.ref 264, .null, .int (iI (W : Nat)), .int (iI (f : Nat)), .int (iI (i : Nat))] [] h = some (some (.int (iI 0)), h) ∧ ¬ (∀ j, i ≤ j → j < W → b (f + j) ≤ 9)
  | 0, i, ik => by
    left
    refine ⟨?_, fun j h1 h2 => by omega⟩
    rw [U_X12_isPersonTold_56]
    simp (disch := omega) only [iI_lit, jI_lit, iI_neg, jI_neg, iI_add, iI_sub, iI_mul, jI_add, jI_sub, jI_mul, rdI, rdL, iI_lt, iI_le, iI_eq, iI_nat, iI_b2_0, iI_b2_1, mm_bI_some, mm_bV_some, mm_bL_some, mm_bA_some, fd_wL, fd_wR, fl_wI, fl_wR, re_wI, re_wL, re_wC, ite_true, ite_false, not_true_eq_false, not_false_eq_true, lq_ge, lq_le, lq_gt, lq_lt, lq_eq, jI_lt, jI_le, jI_eq, if_pos, if_neg]
  | k + 1, i, ik => by
    have t := T (f + i) (by omega)
    have t1 := t.1
    have ix : (((f : Nat) : Int) + (i : Nat)).toNat = f + i := by omega
    have e1 : ((i : Nat) : Int) + 1 = ((i + 1 : Nat) : Int) := by omega
    by_cases c : b (f + i) ≤ 9
    · have st : mm_D (mm_M mm_T0 d) cd_X12_isPersonTold 56 [.ref 264, .null, .int (iI (W : Nat)), .int (iI (f : Nat)), .int (iI (i : Nat))] [] h = mm_D (mm_M mm_T0 d) cd_X12_isPersonTold 56 [.ref 264, .null, .int (iI (W : Nat)), .int (iI (f : Nat)), .int (iI ((i + 1 : Nat) : Int))] [] h := by
        rw [U_X12_isPersonTold_56]
        simp (disch := omega) only [iI_lit, jI_lit, iI_neg, jI_neg, iI_add, iI_sub, iI_mul, jI_add, jI_sub, jI_mul, rdI, rdL, iI_lt, iI_le, iI_eq, iI_nat, iI_b2_0, iI_b2_1, mm_bI_some, mm_bV_some, mm_bL_some, mm_bA_some, fd_wL, fd_wR, fl_wI, fl_wR, re_wI, re_wL, re_wC, ite_true, ite_false, not_true_eq_false, not_false_eq_true, lq_ge, lq_le, lq_gt, lq_lt, lq_eq, jI_lt, jI_le, jI_eq, if_pos, if_neg, ix, t1, e1]
      rw [st]
      rcases R_told_56 T hf k (i + 1) (by omega) with q | q
      · left
        refine ⟨q.1, fun j h1 h2 => ?_⟩
        by_cases cj : j = i
        · rw [cj]; exact c
        · exact q.2 j (by omega) h2
      · right
        exact ⟨q.1, fun z => q.2 (fun j h1 h2 => z j (by omega) h2)⟩
    · right
      refine ⟨?_, fun z => c (z i (by omega) (by omega))⟩
      rw [U_X12_isPersonTold_56]
      simp (disch := omega) only [iI_lit, jI_lit, iI_neg, jI_neg, iI_add, iI_sub, iI_mul, jI_add, jI_sub, jI_mul, rdI, rdL, iI_lt, iI_le, iI_eq, iI_nat, iI_b2_0, iI_b2_1, mm_bI_some, mm_bV_some, mm_bL_some, mm_bA_some, fd_wL, fd_wR, fl_wI, fl_wR, re_wI, re_wL, re_wC, ite_true, ite_false, not_true_eq_false, not_false_eq_true, lq_ge, lq_le, lq_gt, lq_lt, lq_eq, jI_lt, jI_le, jI_eq, if_pos, if_neg, ix, t1]
set_option maxHeartbeats 8000000 in
theorem R_told_87 {p : Nat} (T : TpR h b (posP m p + 1)) (hm8 : m ≤ 8) (hp : p < m) : ∀ (k q : Nat), q + k = p → mm_D (mm_M mm_T0 d) cd_X12_isPersonTold 87 [.ref 264, .null, .int (iI ((m + 2 : Nat) : Int)), .int (iI (posP m p : Nat)), .int (iI (posP m q : Nat))] [] h = some (some (.int (iI 1)), h) ∧ (∀ j, q ≤ j → j < p → b (posP m j) ≠ b (posP m p)) ∨ mm_D (mm_M mm_T0 d) cd_X12_isPersonTold 87 [.ref 264, .null, .int (iI ((m + 2 : Nat) : Int)), .int (iI (posP m p : Nat)), .int (iI (posP m q : Nat))] [] h = some (some (.int (iI 0)), h) ∧ ¬ (∀ j, q ≤ j → j < p → b (posP m j) ≠ b (posP m p))
  | 0, q, qk => by
    have e : q = p := by omega
    subst e
    have pb := posP_b hm8 hp
    left
    refine ⟨?_, fun j h1 h2 => by omega⟩
    rw [U_X12_isPersonTold_87]
    simp (disch := omega) only [iI_lit, jI_lit, iI_neg, jI_neg, iI_add, iI_sub, iI_mul, jI_add, jI_sub, jI_mul, rdI, rdL, iI_lt, iI_le, iI_eq, iI_nat, iI_b2_0, iI_b2_1, mm_bI_some, mm_bV_some, mm_bL_some, mm_bA_some, fd_wL, fd_wR, fl_wI, fl_wR, re_wI, re_wL, re_wC, ite_true, ite_false, not_true_eq_false, not_false_eq_true, lq_ge, lq_le, lq_gt, lq_lt, lq_eq, jI_lt, jI_le, jI_eq, if_pos, if_neg]
  | k + 1, q, qk => by
    have pb := posP_b hm8 hp
    have lt : posP m q < posP m p := by
      unfold posP
      have : q * (m + 2) < p * (m + 2) := Nat.mul_lt_mul_of_pos_right (by omega) (by omega)
      omega
    have t := T (posP m q) (by omega)
    have t1 := t.1
    have u := T (posP m p) (by omega)
    have u1 := u.1
    have iq : ((posP m q : Nat) : Int).toNat = posP m q := by omega
    have ip : ((posP m p : Nat) : Int).toNat = posP m p := by omega
    have e1 : ((posP m q : Nat) : Int) + ((m + 2 : Nat) : Int) = ((posP m (q + 1) : Nat) : Int) := by
      rw [posP_s]
      omega
    by_cases c : b (posP m q) = b (posP m p)
    · right
      refine ⟨?_, fun z => z q (by omega) (by omega) c⟩
      rw [U_X12_isPersonTold_87]
      simp (disch := omega) only [iI_lit, jI_lit, iI_neg, jI_neg, iI_add, iI_sub, iI_mul, jI_add, jI_sub, jI_mul, rdI, rdL, iI_lt, iI_le, iI_eq, iI_nat, iI_b2_0, iI_b2_1, mm_bI_some, mm_bV_some, mm_bL_some, mm_bA_some, fd_wL, fd_wR, fl_wI, fl_wR, re_wI, re_wL, re_wC, ite_true, ite_false, not_true_eq_false, not_false_eq_true, lq_ge, lq_le, lq_gt, lq_lt, lq_eq, jI_lt, jI_le, jI_eq, if_pos, if_neg, iq, ip, t1, u1]
    · have st : mm_D (mm_M mm_T0 d) cd_X12_isPersonTold 87 [.ref 264, .null, .int (iI ((m + 2 : Nat) : Int)), .int (iI (posP m p : Nat)), .int (iI (posP m q : Nat))] [] h = mm_D (mm_M mm_T0 d) cd_X12_isPersonTold 87 [.ref 264, .null, .int (iI ((m + 2 : Nat) : Int)), .int (iI (posP m p : Nat)), .int (iI (posP m (q + 1) : Nat))] [] h := by
        rw [U_X12_isPersonTold_87]
        simp (disch := omega) only [iI_lit, jI_lit, iI_neg, jI_neg, iI_add, iI_sub, iI_mul, jI_add, jI_sub, jI_mul, rdI, rdL, iI_lt, iI_le, iI_eq, iI_nat, iI_b2_0, iI_b2_1, mm_bI_some, mm_bV_some, mm_bL_some, mm_bA_some, fd_wL, fd_wR, fl_wI, fl_wR, re_wI, re_wL, re_wC, ite_true, ite_false, not_true_eq_false, not_false_eq_true, lq_ge, lq_le, lq_gt, lq_lt, lq_eq, jI_lt, jI_le, jI_eq, if_pos, if_neg, iq, ip, t1, u1, e1]
      rw [st]
      rcases R_told_87 T hm8 hp k (q + 1) (by omega) with z | z
      · left
        refine ⟨z.1, fun j h1 h2 => ?_⟩
        by_cases cj : j = q
        · rw [cj]; exact c
        · exact z.2 j (by omega) h2
      · right
        exact ⟨z.1, fun y => z.2 (fun j h1 h2 => y j (by omega) h2)⟩
set_option maxHeartbeats 8000000 in
theorem R_told {p : Nat} (T : TpR h b (2 + m * (m + 2))) (hm8 : m ≤ 8) (hp : p < m) (e40 : fd h 264 40 = (m : Int)) (e53 : fd h 264 53 = 1) (e38 : fd h 264 38 = hm) (h9 : 0 ≤ hm ∧ hm ≤ 9) : mm_M mm_T0 (d + 3) 318 [.ref 264, .int (iI (p : Nat))] h = some (some (.int (iI 1)), h) ∧ OkP b hm m p ∨ mm_M mm_T0 (d + 3) 318 [.ref 264, .int (iI (p : Nat))] h = some (some (.int (iI 0)), h) ∧ ¬ OkP b hm m p := by
  have pb := posP_b hm8 hp
  have pe := posP_e hp
  have ep : 2 + (2 + (m : Int)) * (p : Int) = ((posP m p : Nat) : Int) := by
    unfold posP
    rw [Int.natCast_add, Int.natCast_mul, Int.natCast_add, Int.mul_comm, Int.add_comm (2 : Int) (m : Int)]
    rfl
  have ew : 2 + (m : Int) = ((m + 2 : Nat) : Int) := by omega
  have ep2 : 2 + ((m + 2 : Nat) : Int) * (p : Int) = ((posP m p : Nat) : Int) := by
    rw [← ew]
    exact ep
  have n0 : ((posP m p : Nat) : Int).toNat = posP m p := by omega
  have n1 : (((posP m p : Nat) : Int) + 1).toNat = posP m p + 1 := by omega
  have n2 : (((posP m p : Nat) : Int) + 2).toNat = posP m p + 2 := by omega
  have t0 := T (posP m p) (by omega)
  have t1 := T (posP m p + 1) (by omega)
  have t2 := T (posP m p + 2) (by omega)
  have v0 := t0.1
  have v1 := t1.1
  have v2 := t2.1
  rw [U_X12_isPersonTold]
  by_cases c0 : b (posP m p) < hm
  · by_cases c1 : b (posP m p + 1) ≤ 99
    · by_cases c2 : b (posP m p + 2) ≤ 1
      · have st : (mm_bI (mm_M mm_T0 (d + 2) 217 [.ref 264, .int (h.1 265 (2 + ((2 + (h.1 264 40)) * iI (p : Nat))).toNatClampNeg)] h) (fun v2 h1 => if v2 = 0 then (some (some (.int 0), h1)) else (if ((2 + ((2 + (h.1 264 40)) * iI (p : Nat))) + 1) < 0 ∨ 1600 ≤ ((2 + ((2 + (h.1 264 40)) * iI (p : Nat))) + 1).toNatClampNeg then none else (if 99 < (h1.1 265 ((2 + ((2 + (h.1 264 40)) * iI (p : Nat))) + 1).toNatClampNeg) then (some (some (.int 0), h1)) else (if ((2 + ((2 + (h.1 264 40)) * iI (p : Nat))) + 2) < 0 ∨ 1600 ≤ ((2 + ((2 + (h.1 264 40)) * iI (p : Nat))) + 2).toNatClampNeg then none else (if (h1.1 265 ((2 + ((2 + (h.1 264 40)) * iI (p : Nat))) + 2).toNatClampNeg) ≤ 1 then (mm_D (mm_M mm_T0 (d + 2)) cd_X12_isPersonTold 56 [.ref 264, .null, .int (2 + (h.1 264 40)), .int (2 + ((2 + (h.1 264 40)) * iI (p : Nat))), .int 3] [] h1) else (some (some (.int 0), h1)))))))) = mm_D (mm_M mm_T0 (d + 2)) cd_X12_isPersonTold 56 [.ref 264, .null, .int (iI ((m + 2 : Nat) : Int)), .int (iI (posP m p : Nat)), .int (iI ((3 : Nat) : Int))] [] h := by
          simp (disch := omega) only [iI_lit, jI_lit, iI_neg, jI_neg, iI_add, iI_sub, iI_mul, jI_add, jI_sub, jI_mul, rdI, rdL, iI_lt, iI_le, iI_eq, iI_nat, iI_b2_0, iI_b2_1, mm_bI_some, mm_bV_some, mm_bL_some, mm_bA_some, fd_wL, fd_wR, fl_wI, fl_wR, re_wI, re_wL, re_wC, ite_true, ite_false, not_true_eq_false, not_false_eq_true, lq_ge, lq_le, lq_gt, lq_lt, lq_eq, jI_lt, jI_le, jI_eq, if_pos, if_neg, e40, ew, ep, ep2, n0, v0, R_isHouse, e53, e38, n1, v1, n2, v2]
          rfl
        have gd : ¬ ((2 + ((2 + (h.1 264 40)) * iI (p : Nat))) < 0 ∨ 1600 ≤ (2 + ((2 + (h.1 264 40)) * iI (p : Nat))).toNatClampNeg) := by
          simp (disch := omega) only [iI_lit, rdI, e40, iI_add, iI_mul, ep, iI_lt, iI_nat, n0]
          omega
        rw [if_neg gd, st]
        have i3 : ∀ k, m + 2 = 3 + k ∨ m = 0 → True := fun _ _ => trivial
        by_cases m0 : m = 0
        · omega
        rcases R_told_56 (d := d + 2) (W := m + 2) (f := posP m p) (fun j hj => T j (by omega)) (by omega) (m - 1) 3 (by omega) with z | z
        · rcases R_told_87 (d := d + 2) (p := p) (fun j hj => T j (by omega)) hm8 hp p 0 (by omega) with y | y
          · left
            rw [show ((posP m 0 : Nat) : Int) = 2 by unfold posP; omega] at y
            exact ⟨z.1.trans y.1, ⟨t0.2.1, c0⟩, fun q hq => y.2 q (by omega) hq, c1, c2, fun i i1 i2 => z.2 i i1 i2⟩
          · right
            rw [show ((posP m 0 : Nat) : Int) = 2 by unfold posP; omega] at y
            exact ⟨z.1.trans y.1, fun x => y.2 (fun q _ hq => x.2.1 q hq)⟩
        · right
          exact ⟨z.1, fun x => z.2 (fun i i1 i2 => x.2.2.2.2 i i1 i2)⟩
      · right
        refine ⟨?_, fun x => c2 x.2.2.2.1⟩
        simp (disch := omega) only [iI_lit, jI_lit, iI_neg, jI_neg, iI_add, iI_sub, iI_mul, jI_add, jI_sub, jI_mul, rdI, rdL, iI_lt, iI_le, iI_eq, iI_nat, iI_b2_0, iI_b2_1, mm_bI_some, mm_bV_some, mm_bL_some, mm_bA_some, fd_wL, fd_wR, fl_wI, fl_wR, re_wI, re_wL, re_wC, ite_true, ite_false, not_true_eq_false, not_false_eq_true, lq_ge, lq_le, lq_gt, lq_lt, lq_eq, jI_lt, jI_le, jI_eq, if_pos, if_neg, e40, ew, ep, ep2, n0, v0, R_isHouse, e53, e38, n1, v1, n2, v2]
    · right
      refine ⟨?_, fun x => c1 x.2.2.1⟩
      simp (disch := omega) only [iI_lit, jI_lit, iI_neg, jI_neg, iI_add, iI_sub, iI_mul, jI_add, jI_sub, jI_mul, rdI, rdL, iI_lt, iI_le, iI_eq, iI_nat, iI_b2_0, iI_b2_1, mm_bI_some, mm_bV_some, mm_bL_some, mm_bA_some, fd_wL, fd_wR, fl_wI, fl_wR, re_wI, re_wL, re_wC, ite_true, ite_false, not_true_eq_false, not_false_eq_true, lq_ge, lq_le, lq_gt, lq_lt, lq_eq, jI_lt, jI_le, jI_eq, if_pos, if_neg, e40, ew, ep, ep2, n0, v0, R_isHouse, e53, e38, n1, v1]
  · right
    refine ⟨?_, fun x => c0 x.1.2⟩
    simp (disch := omega) only [iI_lit, jI_lit, iI_neg, jI_neg, iI_add, iI_sub, iI_mul, jI_add, jI_sub, jI_mul, rdI, rdL, iI_lt, iI_le, iI_eq, iI_nat, iI_b2_0, iI_b2_1, mm_bI_some, mm_bV_some, mm_bL_some, mm_bA_some, fd_wL, fd_wR, fl_wI, fl_wR, re_wI, re_wL, re_wC, ite_true, ite_false, not_true_eq_false, not_false_eq_true, lq_ge, lq_le, lq_gt, lq_lt, lq_eq, jI_lt, jI_le, jI_eq, if_pos, if_neg, e40, ew, ep, ep2, n0, v0, R_isHouse, e53, e38]
set_option maxHeartbeats 8000000 in
theorem R_img_72 (T : TpR h b (2 + m * (m + 2))) (hm8 : m ≤ 8) (e40 : fd h 264 40 = (m : Int)) (e53 : fd h 264 53 = 1) (e38 : fd h 264 38 = hm) (h9 : 0 ≤ hm ∧ hm ≤ 9) : ∀ (k p : Nat), p + k = m → mm_D (mm_M mm_T0 (d + 3)) cd_X12_isImage 72 [.ref 264, .null, .int (iI (p : Nat))] [] h = some (some (.int (iI 1)), h) ∧ (∀ q, p ≤ q → q < m → OkP b hm m q) ∨ mm_D (mm_M mm_T0 (d + 3)) cd_X12_isImage 72 [.ref 264, .null, .int (iI (p : Nat))] [] h = some (some (.int (iI 0)), h) ∧ ¬ (∀ q, p ≤ q → q < m → OkP b hm m q)
  | 0, p, pk => by
    left
    refine ⟨?_, fun q h1 h2 => by omega⟩
    rw [U_X12_isImage_72]
    simp (disch := omega) only [iI_lit, jI_lit, iI_neg, jI_neg, iI_add, iI_sub, iI_mul, jI_add, jI_sub, jI_mul, rdI, rdL, iI_lt, iI_le, iI_eq, iI_nat, iI_b2_0, iI_b2_1, mm_bI_some, mm_bV_some, mm_bL_some, mm_bA_some, fd_wL, fd_wR, fl_wI, fl_wR, re_wI, re_wL, re_wC, ite_true, ite_false, not_true_eq_false, not_false_eq_true, lq_ge, lq_le, lq_gt, lq_lt, lq_eq, jI_lt, jI_le, jI_eq, if_pos, if_neg, e40]
  | k + 1, p, pk => by
    have e1 : ((p : Nat) : Int) + 1 = ((p + 1 : Nat) : Int) := by omega
    rcases R_told (d := d) (p := p) T hm8 (by omega) e40 e53 e38 h9 with z | z
    · have z1 := z.1
      have st : mm_D (mm_M mm_T0 (d + 3)) cd_X12_isImage 72 [.ref 264, .null, .int (iI (p : Nat))] [] h = mm_D (mm_M mm_T0 (d + 3)) cd_X12_isImage 72 [.ref 264, .null, .int (iI ((p + 1 : Nat) : Int))] [] h := by
        rw [U_X12_isImage_72]
        simp (disch := omega) only [iI_lit, jI_lit, iI_neg, jI_neg, iI_add, iI_sub, iI_mul, jI_add, jI_sub, jI_mul, rdI, rdL, iI_lt, iI_le, iI_eq, iI_nat, iI_b2_0, iI_b2_1, mm_bI_some, mm_bV_some, mm_bL_some, mm_bA_some, fd_wL, fd_wR, fl_wI, fl_wR, re_wI, re_wL, re_wC, ite_true, ite_false, not_true_eq_false, not_false_eq_true, lq_ge, lq_le, lq_gt, lq_lt, lq_eq, jI_lt, jI_le, jI_eq, if_pos, if_neg, e40, z1, e1]
      rw [st]
      rcases R_img_72 T hm8 e40 e53 e38 h9 k (p + 1) (by omega) with y | y
      · left
        refine ⟨y.1, fun q h1 h2 => ?_⟩
        by_cases c : q = p
        · rw [c]; exact z.2
        · exact y.2 q (by omega) h2
      · right
        exact ⟨y.1, fun x => y.2 (fun q h1 h2 => x q (by omega) h2)⟩
    · have z1 := z.1
      right
      refine ⟨?_, fun x => z.2 (x p (by omega) (by omega))⟩
      rw [U_X12_isImage_72]
      simp (disch := omega) only [iI_lit, jI_lit, iI_neg, jI_neg, iI_add, iI_sub, iI_mul, jI_add, jI_sub, jI_mul, rdI, rdL, iI_lt, iI_le, iI_eq, iI_nat, iI_b2_0, iI_b2_1, mm_bI_some, mm_bV_some, mm_bL_some, mm_bA_some, fd_wL, fd_wR, fl_wI, fl_wR, re_wI, re_wL, re_wC, ite_true, ite_false, not_true_eq_false, not_false_eq_true, lq_ge, lq_le, lq_gt, lq_lt, lq_eq, jI_lt, jI_le, jI_eq, if_pos, if_neg, e40, z1]
set_option maxHeartbeats 8000000 in
theorem R_on_108 {p : Nat} (hp : p < m) (hm8 : m ≤ 8) : ∀ (k q f : Nat) (g : mm_H) (n : Int → Int), q + k = m → f + k ≤ 200 → TpR g b (f + (if q ≤ p then k - 1 else k)) → fd g 264 40 = (m : Int) → RepR g n → ∃ g', mm_D (mm_M mm_T0 d) cd_X12_on 108 [.ref 264, .null, .int (iI (f : Nat)), .int (iI (p : Nat)), .int (iI (q : Nat))] [] g = mm_D (mm_M mm_T0 d) cd_X12_on 57 [.ref 264, .null, .int (iI ((f + (if q ≤ p then k - 1 else k) : Nat) : Int)), .int (iI ((p + 1 : Nat) : Int)), .null] [] g' ∧ RepR g' (onT b (p : Nat) k (q : Nat) f n) ∧ Kf (fun a k => a = 300 ∧ k < 89) nL g g'
  | 0, q, f, g, n, qk, hf, T, e40, hr => by
    have e1 : ((p : Nat) : Int) + 1 = ((p + 1 : Nat) : Int) := by omega
    refine ⟨g, ?_, hr, Kf.refl⟩
    rw [if_neg (by omega), U_X12_on_108, Nat.add_zero]
    simp (disch := omega) only [iI_lit, jI_lit, iI_neg, jI_neg, iI_add, iI_sub, iI_mul, jI_add, jI_sub, jI_mul, rdI, rdL, iI_lt, iI_le, iI_eq, iI_nat, iI_b2_0, iI_b2_1, mm_bI_some, mm_bV_some, mm_bL_some, mm_bA_some, fd_wL, fd_wR, fl_wI, fl_wR, re_wI, re_wL, re_wC, ite_true, ite_false, not_true_eq_false, not_false_eq_true, lq_ge, lq_le, lq_gt, lq_lt, lq_eq, jI_lt, jI_le, jI_eq, if_pos, if_neg, e40, e1]
  | k + 1, q, f, g, n, qk, hf, T, e40, hr => by
    have e1 : ((q : Nat) : Int) + 1 = ((q + 1 : Nat) : Int) := by omega
    by_cases c : q = p
    · have ei : (if q ≤ p then k + 1 - 1 else k + 1) = (if q + 1 ≤ p then k - 1 else k) := by
        rw [if_pos (by omega), if_neg (by omega)]
        omega
      rw [ei] at T ⊢
      obtain ⟨g', m1, m2, m3⟩ := R_on_108 hp hm8 k (q + 1) f g n (by omega) (by omega) T e40 hr
      refine ⟨g', ?_, ?_, m3⟩
      · rw [← m1, U_X12_on_108]
        simp (disch := omega) only [iI_lit, jI_lit, iI_neg, jI_neg, iI_add, iI_sub, iI_mul, jI_add, jI_sub, jI_mul, rdI, rdL, iI_lt, iI_le, iI_eq, iI_nat, iI_b2_0, iI_b2_1, mm_bI_some, mm_bV_some, mm_bL_some, mm_bA_some, fd_wL, fd_wR, fl_wI, fl_wR, re_wI, re_wL, re_wC, ite_true, ite_false, not_true_eq_false, not_false_eq_true, lq_ge, lq_le, lq_gt, lq_lt, lq_eq, jI_lt, jI_le, jI_eq, if_pos, if_neg, e40, e1]
      · rw [onT, if_pos (by omega), e1]
        exact m2
    · have ei : f + (if q ≤ p then k + 1 - 1 else k + 1) = f + 1 + (if q + 1 ≤ p then k - 1 else k) := by
        by_cases c2 : q ≤ p
        · rw [if_pos c2, if_pos (by omega)]
          omega
        · rw [if_neg c2, if_neg (by omega)]
          omega
      rw [ei] at T ⊢
      have t := T f (by omega)
      have t1 := t.1
      have nf : ((f : Nat) : Int).toNat = f := by omega
      have ef : ((f : Nat) : Int) + 1 = ((f + 1 : Nat) : Int) := by omega
      have kw : Kf (fun a k => a = 300 ∧ k < 89) nL g (wI g 300 (25 + 8 * ((p : Nat) : Int) + (q : Nat)).toNat (iI (b f))) := Kf.refl.wI (by omega)
      obtain ⟨g', m1, m2, m3⟩ := R_on_108 hp hm8 k (q + 1) (f + 1) _ _ (by omega) (by omega) (fun j hj => ⟨(kw.1 _ _ (by omega)).trans (T j hj).1, (T j hj).2⟩) ((kw.1 _ _ (by omega)).trans e40) (hr.w (z := 25 + 8 * ((p : Nat) : Int) + (q : Nat)) (v := b f) (by omega) (by omega) (by omega))
      refine ⟨g', ?_, ?_, kw.trans m3⟩
      · rw [← m1, U_X12_on_108]
        simp (disch := omega) only [iI_lit, jI_lit, iI_neg, jI_neg, iI_add, iI_sub, iI_mul, jI_add, jI_sub, jI_mul, rdI, rdL, iI_lt, iI_le, iI_eq, iI_nat, iI_b2_0, iI_b2_1, mm_bI_some, mm_bV_some, mm_bL_some, mm_bA_some, fd_wL, fd_wR, fl_wI, fl_wR, re_wI, re_wL, re_wC, ite_true, ite_false, not_true_eq_false, not_false_eq_true, lq_ge, lq_le, lq_gt, lq_lt, lq_eq, jI_lt, jI_le, jI_eq, if_pos, if_neg, e40, nf, t1, e1, ef]
      · rw [onT, if_neg (by omega), e1]
        exact m2
set_option maxHeartbeats 8000000 in
theorem R_on_68 {p f : Nat} {g : mm_H} (T : TpR g b (f + 3)) (hf : f ≤ 200) (hp : p < 8) (hr : RepR g n) : ∃ g', mm_D (mm_M mm_T0 d) cd_X12_on 68 [.ref 264, .null, .int (iI (f : Nat)), .int (iI (p : Nat)), .int (iI 0)] [] g = mm_D (mm_M mm_T0 d) cd_X12_on 108 [.ref 264, .null, .int (iI ((f + 3 : Nat) : Int)), .int (iI (p : Nat)), .int (iI 0)] [] g' ∧ RepR g' (onP b (p : Nat) f n) ∧ Kf (fun a k => a = 300 ∧ k < 89) nL g g' := by
  have t0 := T f (by omega)
  have t1 := T (f + 1) (by omega)
  have t2 := T (f + 2) (by omega)
  have v0 := t0.1
  have i0 : (((f : Nat) : Int) + 0).toNat = f := by omega
  have i1 : (((f : Nat) : Int) + 1).toNat = f + 1 := by omega
  have i2 : (((f : Nat) : Int) + 2).toNat = f + 2 := by omega
  have a0 : 1 + 3 * ((p : Nat) : Int) + 0 = 1 + 3 * (p : Nat) := by omega
  have a1 : 1 + 3 * ((p : Nat) : Int) + 1 = 2 + 3 * (p : Nat) := by omega
  have a2 : 1 + 3 * ((p : Nat) : Int) + 2 = 3 + 3 * (p : Nat) := by omega
  have o1 : (0 : Int) + 1 = 1 := by omega
  have o2 : (1 : Int) + 1 = 2 := by omega
  have o3 : (2 : Int) + 1 = 3 := by omega
  have ef : ((f : Nat) : Int) + 3 = ((f + 3 : Nat) : Int) := by omega
  have v1 : fd (wI g 300 (1 + 3 * ((p : Nat) : Int)).toNat (iI (b f))) 265 (f + 1) = b (f + 1) := (fd_wI_row (by omega)).trans t1.1
  have v2 : fd (wI (wI g 300 (1 + 3 * ((p : Nat) : Int)).toNat (iI (b f))) 300 (2 + 3 * ((p : Nat) : Int)).toNat (iI (b (f + 1)))) 265 (f + 2) = b (f + 2) := by
    rw [fd_wI_row (by omega), fd_wI_row (by omega)]; exact t2.1
  refine ⟨wI (wI (wI g 300 (1 + 3 * ((p : Nat) : Int)).toNat (iI (b f))) 300 (2 + 3 * ((p : Nat) : Int)).toNat (iI (b (f + 1)))) 300 (3 + 3 * ((p : Nat) : Int)).toNat (iI (b (f + 2))), ?_, ((hr.w (by omega) (by omega) (by omega)).w (by omega) (by omega) (by omega)).w (by omega) (by omega) (by omega), ((Kf.refl.wI (by omega)).wI (by omega)).wI (by omega)⟩
  rw [U_X12_on_68]
  simp (disch := omega) only [iI_lit, jI_lit, iI_neg, jI_neg, iI_add, iI_sub, iI_mul, jI_add, jI_sub, jI_mul, rdI, rdL, iI_lt, iI_le, iI_eq, iI_nat, iI_b2_0, iI_b2_1, mm_bI_some, mm_bV_some, mm_bL_some, mm_bA_some, fd_wL, fd_wR, fl_wI, fl_wR, re_wI, re_wL, re_wC, ite_true, ite_false, not_true_eq_false, not_false_eq_true, lq_ge, lq_le, lq_gt, lq_lt, lq_eq, jI_lt, jI_le, jI_eq, if_pos, if_neg, i0, v0, a0, o1]
  rw [U_X12_on_68]
  simp (disch := omega) only [iI_lit, jI_lit, iI_neg, jI_neg, iI_add, iI_sub, iI_mul, jI_add, jI_sub, jI_mul, rdI, rdL, iI_lt, iI_le, iI_eq, iI_nat, iI_b2_0, iI_b2_1, mm_bI_some, mm_bV_some, mm_bL_some, mm_bA_some, fd_wL, fd_wR, fl_wI, fl_wR, re_wI, re_wL, re_wC, ite_true, ite_false, not_true_eq_false, not_false_eq_true, lq_ge, lq_le, lq_gt, lq_lt, lq_eq, jI_lt, jI_le, jI_eq, if_pos, if_neg, i1, v1, a1, o2]
  rw [U_X12_on_68]
  simp (disch := omega) only [iI_lit, jI_lit, iI_neg, jI_neg, iI_add, iI_sub, iI_mul, jI_add, jI_sub, jI_mul, rdI, rdL, iI_lt, iI_le, iI_eq, iI_nat, iI_b2_0, iI_b2_1, mm_bI_some, mm_bV_some, mm_bL_some, mm_bA_some, fd_wL, fd_wR, fl_wI, fl_wR, re_wI, re_wL, re_wC, ite_true, ite_false, not_true_eq_false, not_false_eq_true, lq_ge, lq_le, lq_gt, lq_lt, lq_eq, jI_lt, jI_le, jI_eq, if_pos, if_neg, i2, v2, a2, o3]
  rw [U_X12_on_68]
  simp (disch := omega) only [iI_lit, jI_lit, iI_neg, jI_neg, iI_add, iI_sub, iI_mul, jI_add, jI_sub, jI_mul, rdI, rdL, iI_lt, iI_le, iI_eq, iI_nat, iI_b2_0, iI_b2_1, mm_bI_some, mm_bV_some, mm_bL_some, mm_bA_some, fd_wL, fd_wR, fl_wI, fl_wR, re_wI, re_wL, re_wC, ite_true, ite_false, not_true_eq_false, not_false_eq_true, lq_ge, lq_le, lq_gt, lq_lt, lq_eq, jI_lt, jI_le, jI_eq, if_pos, if_neg, ef]
set_option maxHeartbeats 8000000 in
theorem R_on_57 (hm8 : m ≤ 8) : ∀ (k p : Nat) (g : mm_H) (n : Int → Int), p + k = m → TpR g b (2 + m * (m + 2)) → fd g 264 40 = (m : Int) → RepR g n → ∃ g', mm_D (mm_M mm_T0 d) cd_X12_on 57 [.ref 264, .null, .int (iI (posP m p : Nat)), .int (iI (p : Nat)), .null] [] g = some (some (.int (iI 1)), wI (wI g' 300 89 (iI 0)) 264 73 (iI 0)) ∧ RepR g' (onA b m k p n) ∧ Kf (fun a k => a = 300 ∧ k < 89) nL g g'
  | 0, p, g, n, pk, T, e40, hr => by
    refine ⟨g, ?_, hr, Kf.refl⟩
    rw [U_X12_on_57]
    simp (disch := omega) only [iI_lit, jI_lit, iI_neg, jI_neg, iI_add, iI_sub, iI_mul, jI_add, jI_sub, jI_mul, rdI, rdL, iI_lt, iI_le, iI_eq, iI_nat, iI_b2_0, iI_b2_1, mm_bI_some, mm_bV_some, mm_bL_some, mm_bA_some, fd_wL, fd_wR, fl_wI, fl_wR, re_wI, re_wL, re_wC, ite_true, ite_false, not_true_eq_false, not_false_eq_true, lq_ge, lq_le, lq_gt, lq_lt, lq_eq, jI_lt, jI_le, jI_eq, if_pos, if_neg, e40]
  | k + 1, p, g, n, pk, T, e40, hr => by
    have pb := posP_b (m := m) (p := p) hm8 (by omega)
    have pe := posP_e (m := m) (p := p) (by omega)
    obtain ⟨g1, a1, a2, a3⟩ := R_on_68 (d := d) (p := p) (f := posP m p) (g := g) (fun j hj => T j (by omega)) (by omega) (by omega) hr
    have T1 : TpR g1 b (2 + m * (m + 2)) := fun j hj => ⟨(a3.1 _ _ (by omega)).trans (T j hj).1, (T j hj).2⟩
    have ex : posP m p + 3 + (if 0 ≤ p then m - 1 else m) = posP m (p + 1) := by
      rw [if_pos (by omega), posP_s]
      omega
    obtain ⟨g2, b1, b2', b3⟩ := R_on_108 (d := d) (p := p) (by omega) hm8 m 0 (posP m p + 3) g1 _ (by omega) (by omega) (by rw [ex, posP_s]; exact fun j hj => T1 j (by omega)) ((a3.1 _ _ (by omega)).trans e40) a2
    rw [ex] at b1
    have T2 : TpR g2 b (2 + m * (m + 2)) := fun j hj => ⟨(b3.1 _ _ (by omega)).trans (T1 j hj).1, (T j hj).2⟩
    obtain ⟨g', m1, m2, m3⟩ := R_on_57 hm8 k (p + 1) g2 _ (by omega) T2 ((b3.1 _ _ (by omega)).trans ((a3.1 _ _ (by omega)).trans e40)) b2'
    refine ⟨g', ?_, m2, a3.trans (b3.trans m3)⟩
    rw [show ((0 : Nat) : Int) = 0 from rfl] at b1
    rw [← m1, ← b1, ← a1, U_X12_on_57]
    simp (disch := omega) only [iI_lit, jI_lit, iI_neg, jI_neg, iI_add, iI_sub, iI_mul, jI_add, jI_sub, jI_mul, rdI, rdL, iI_lt, iI_le, iI_eq, iI_nat, iI_b2_0, iI_b2_1, mm_bI_some, mm_bV_some, mm_bL_some, mm_bA_some, fd_wL, fd_wR, fl_wI, fl_wR, re_wI, re_wL, re_wC, ite_true, ite_false, not_true_eq_false, not_false_eq_true, lq_ge, lq_le, lq_gt, lq_lt, lq_eq, jI_lt, jI_le, jI_eq, if_pos, if_neg, e40]
end ONR
