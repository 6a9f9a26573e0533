/-! on: the class -/
section ONC
variable {d : Nat} {b : Nat → Int} {m : Nat} {hm : Int} {fc kd n : Int → Int}
/-- the class's scratch scene, the first j people told -/
def PSc (g : mm_H) (m : Nat) (hm : Int) (fc kd : Int → Int) (r : Int → Int) (j : Nat) : Prop := (fd g 220 10 = (m : Int) ∧ fd g 220 9 = hm ∧ fd g 220 11 = r 0 ∧ fd g 220 8 = 0) ∧ (∀ p, 0 ≤ p → p < (m : Int) → fd g 221 p.toNat = fc p ∧ fd g 222 p.toNat = kd p ∧ fd g 224 p.toNat = r (2 + 3 * p) ∧ fd g 225 p.toNat = r (3 + 3 * p)) ∧ (∀ p, 0 ≤ p → p < (j : Int) → fd g 223 p.toNat = r (1 + 3 * p)) ∧ (∀ p q, 0 ≤ p → p < (m : Int) → 0 ≤ q → q < (m : Int) → p ≠ q → fd g 226 (p * 8 + q).toNat = r (25 + 8 * p + q)) ∧ (∀ i, 0 ≤ i → i < hm → fd g 227 i.toNat = who r (j : Int) i)
/-- bounds on the way -/
def NIj (m : Nat) (hm : Int) (b : Nat → Int) (r : Int → Int) (j : Nat) : Prop := (∀ p, 0 ≤ p → p < (m : Int) → (0 ≤ r (2 + 3 * p) ∧ r (2 + 3 * p) ≤ 99) ∧ (0 ≤ r (3 + 3 * p) ∧ r (3 + 3 * p) ≤ 1)) ∧ (∀ p q, 0 ≤ p → p < (m : Int) → 0 ≤ q → q < (m : Int) → p ≠ q → 0 ≤ r (25 + 8 * p + q) ∧ r (25 + 8 * p + q) ≤ 9) ∧ (∀ q : Nat, q < j → r (1 + 3 * (q : Nat)) = b (posP m q)) ∧ (∀ q, q < j → OkP b hm m q)
theorem NIj.home {r : Int → Int} {j : Nat} (N : NIj m hm b r j) : ∀ p, 0 ≤ p → p < (j : Int) → 0 ≤ r (1 + 3 * p) ∧ r (1 + 3 * p) < hm := by
  intro p p0 p1
  have e := N.2.2.1 p.toNat (by omega)
  rw [show ((p.toNat : Nat) : Int) = p by omega] at e
  rw [e]
  exact (N.2.2.2 p.toNat (by omega)).1
theorem NIj.dis {r : Int → Int} {j : Nat} (N : NIj m hm b r j) : ∀ p q, 0 ≤ p → p < (j : Int) → 0 ≤ q → q < (j : Int) → r (1 + 3 * p) = r (1 + 3 * q) → p = q := by
  intro p q p0 p1 q0 q1 e
  have ep := N.2.2.1 p.toNat (by omega)
  have eq := N.2.2.1 q.toNat (by omega)
  rw [show ((p.toNat : Nat) : Int) = p by omega] at ep
  rw [show ((q.toNat : Nat) : Int) = q by omega] at eq
  rw [ep, eq] at e
  rcases Int.lt_trichotomy p q with c | c | c
  · exact absurd e ((N.2.2.2 q.toNat (by omega)).2.1 p.toNat (by omega))
  · exact c
  · exact absurd e.symm ((N.2.2.2 p.toNat (by omega)).2.1 q.toNat (by omega))
set_option maxHeartbeats 8000000 in
theorem C_rd_84 (h9 : 0 ≤ hm ∧ hm ≤ 9) : ∀ (k i : Nat) (g : mm_H), ((i + k : Nat) : Int) = hm → fd g 13 9 = hm → fd g 220 9 = hm → (∀ x : Nat, x < i → fd g 227 x = -1) → ∃ g', mm_D (mm_M mm_T0 (d + 2)) cd_X4_read 84 [.ref 218, .ref 1, .ref 13, .null, .null, .int (iI (i : Nat))] [] g = mm_D (mm_M mm_T0 (d + 2)) cd_X4_read 112 [.ref 218, .ref 1, .ref 13, .null, .null, .int (iI 0)] [] g' ∧ (∀ x : Nat, (x : Int) < hm → fd g' 227 x = -1) ∧ Kf (fun a _ => a = 227) nL g g'
  | 0, i, g, ik, e13, e220, hx => by
    refine ⟨g, ?_, fun x h => hx x (by omega), Kf.refl⟩
    rw [U_X4_read_84 isS_13]
    simp (disch := omega) only [iI_lit, jI_lit, iI_neg, jI_neg, iI_add, iI_sub, iI_mul, jI_add, jI_sub, jI_mul, rdI, rdL, iI_lt, iI_le, iI_eq, iI_nat, iI_b2_0, iI_b2_1, mm_bI_some, mm_bV_some, mm_bL_some, mm_bA_some, fd_wL, fd_wR, fl_wI, fl_wR, re_wI, re_wL, re_wC, ite_true, ite_false, not_true_eq_false, not_false_eq_true, lq_ge, lq_le, lq_gt, lq_lt, lq_eq, jI_lt, jI_le, jI_eq, if_pos, if_neg, e13]
  | k + 1, i, g, ik, e13, e220, hx => by
    have pl := S_place_h (d := d) (h := g) (p := -1) (q := (i : Nat)) isS_220 (by omega) (by omega) (by omega) (by omega) (by omega)
    rw [if_neg (by omega), show (((i : Nat) : Int)).toNat = i by omega] at pl
    have e1 : ((i : Nat) : Int) + 1 = ((i + 1 : Nat) : Int) := by omega
    obtain ⟨g', m1, m2, m3⟩ := C_rd_84 h9 k (i + 1) (wI g (220 + 7) i (iI (-1))) (by omega) ((fd_wI_row (by omega)).trans e13) ((fd_wI_row (by omega)).trans e220) (fun x h => by
      by_cases c : x = i
      · rw [c, fd_wI_same (by omega) (by omega)]
      · rw [fd_wI_col c]; exact hx x (by omega))
    refine ⟨g', ?_, m2, Kf.trans (Kf.refl.wI (by omega)) m3⟩
    rw [U_X4_read_84 isS_13, ← m1]
    simp (disch := omega) only [iI_lit, jI_lit, iI_neg, jI_neg, iI_add, iI_sub, iI_mul, jI_add, jI_sub, jI_mul, rdI, rdL, iI_lt, iI_le, iI_eq, iI_nat, iI_b2_0, iI_b2_1, mm_bI_some, mm_bV_some, mm_bL_some, mm_bA_some, fd_wL, fd_wR, fl_wI, fl_wR, re_wI, re_wL, re_wC, ite_true, ite_false, not_true_eq_false, not_false_eq_true, lq_ge, lq_le, lq_gt, lq_lt, lq_eq, jI_lt, jI_le, jI_eq, if_pos, if_neg, e13, pl, e1]
def QSs : Nat → Nat → Prop := fun a _ => 220 ≤ a ∧ a ≤ 228
theorem TpC.kf {g g' : mm_H} {L : Nat} {Q Lq : Nat → Nat → Prop} (T : TpC g b L) (k : Kf Q Lq g g') (q : ¬ Q 1 1) (q2 : ∀ j, ¬ Q 2 j) : TpC g' b L := ⟨(k.1 _ _ q).trans T.1, fun j hj => ⟨(k.1 _ _ (q2 j)).trans (T.2 j hj).1, (T.2 j hj).2⟩⟩
set_option maxHeartbeats 8000000 in
theorem C_byte {g : mm_H} {L f : Nat} (T : TpC g b L) (hf : f < L) (hL : L ≤ 1600) : mm_M mm_T0 (d + 1) 126 [.ref 1, .int (iI (f : Nat))] g = some (some (.int (iI (b f))), g) := by
  rw [C_byteAt T.1 (by omega) (by omega) (by omega) (by omega), if_pos (by omega), show (((f : Nat) : Int)).toNat = f by omega, (T.2 f hf).1]
theorem PSc.th {g : mm_H} {r : Int → Int} {j : Nat} {p q v : Int} (P : PSc g m hm fc kd r j) (h8 : m ≤ 8) (hj : j ≤ m) (p0 : 0 ≤ p) (p1 : p < (m : Int)) (q0 : 0 ≤ q) (q1 : q < (m : Int)) (v0 : 0 ≤ v) (v1 : v ≤ 255) : PSc (wI g 226 (p * 8 + q).toNat (iI v)) m hm fc kd (up r (25 + 8 * p + q) v) j := by
  obtain ⟨⟨a1, a2, a3, a4⟩, a5, a6, a7, a8⟩ := P
  refine ⟨⟨?_, ?_, ?_, ?_⟩, fun x x0 x1 => ?_, fun x x0 x1 => ?_, fun x z x1 x2 z1 z2 xz => ?_, fun i i0 i1 => ?_⟩
  · rw [fd_wI_row (by omega)]; exact a1
  · rw [fd_wI_row (by omega)]; exact a2
  · rw [fd_wI_row (by omega), up_ne (by omega)]; exact a3
  · rw [fd_wI_row (by omega)]; exact a4
  · rw [fd_wI_row (by omega), fd_wI_row (by omega), fd_wI_row (by omega), fd_wI_row (by omega), up_ne (by omega), up_ne (by omega)]
    exact a5 x x0 x1
  · rw [fd_wI_row (by omega), up_ne (by omega)]; exact a6 x x0 x1
  · by_cases c : x = p ∧ z = q
    · rw [c.1, c.2, up_same, fd_wI_same (by omega) (by omega)]
    · rw [up_ne (by omega), fd_wI_col (by omega)]
      exact a7 x z x1 x2 z1 z2 xz
  · rw [fd_wI_row (by omega), a8 i i0 i1]
    exact who_congr (fun y y0 y1 => (up_ne (by omega)).symm)
set_option maxHeartbeats 8000000 in
theorem C_rp_103 {L p : Nat} (hL : L ≤ 1600) (h8 : m ≤ 8) (hp : p < m) : ∀ (k q f : Nat) (g : mm_H) (r : Int → Int), q + k = m → f + (if q ≤ p then k - 1 else k) ≤ L → TpC g b L → PSc g m hm fc kd r (p + 1) → ∃ g', ((mm_D (mm_M mm_T0 (d + 3)) cd_X4_readPerson 103 [.ref 218, .ref 1, .null, .int (iI (p : Nat)), .null, .null, .null, .int (iI (f : Nat)), .int (iI (q : Nat))] [] g = some (some (.int (iI 1)), g') ∧ PSc g' m hm fc kd (onT b (p : Nat) k (q : Nat) f r) (p + 1) ∧ ∀ i, f ≤ i → i < f + (if q ≤ p then k - 1 else k) → b i ≤ 9) ∨ (mm_D (mm_M mm_T0 (d + 3)) cd_X4_readPerson 103 [.ref 218, .ref 1, .null, .int (iI (p : Nat)), .null, .null, .null, .int (iI (f : Nat)), .int (iI (q : Nat))] [] g = some (some (.int (iI 0)), g') ∧ ¬ ∀ i, f ≤ i → i < f + (if q ≤ p then k - 1 else k) → b i ≤ 9)) ∧ Kf QSs nL g g'
  | 0, q, f, g, r, qk, hf, T, P => by
    have e10 := P.1.1
    refine ⟨g, Or.inl ⟨?_, P, fun i i1 i2 => by rw [if_neg (by omega)] at i2; omega⟩, Kf.refl⟩
    rw [U_X4_readPerson_103]
    simp (disch := omega) only [iI_lit, jI_lit, iI_neg, jI_neg, iI_add, iI_sub, iI_mul, jI_add, jI_sub, jI_mul, rdI, rdL, iI_lt, iI_le, iI_eq, iI_nat, iI_b2_0, iI_b2_1, mm_bI_some, mm_bV_some, mm_bL_some, mm_bA_some, fd_wL, fd_wR, fl_wI, fl_wR, re_wI, re_wL, re_wC, ite_true, ite_false, not_true_eq_false, not_false_eq_true, lq_ge, lq_le, lq_gt, lq_lt, lq_eq, jI_lt, jI_le, jI_eq, if_pos, if_neg, e10]
  | k + 1, q, f, g, r, qk, hf, T, P => by
    have e10 := P.1.1
    have e1 : ((q : Nat) : Int) + 1 = ((q + 1 : Nat) : Int) := by omega
    by_cases c : q = p
    · have ei : (if q ≤ p then k + 1 - 1 else k + 1) = (if q + 1 ≤ p then k - 1 else k) := by
        rw [if_pos (by omega), if_neg (by omega)]
        omega
      rw [ei] at hf ⊢
      obtain ⟨g', z, K⟩ := C_rp_103 hL h8 hp k (q + 1) f g r (by omega) hf T P
      have st : mm_D (mm_M mm_T0 (d + 3)) cd_X4_readPerson 103 [.ref 218, .ref 1, .null, .int (iI (p : Nat)), .null, .null, .null, .int (iI (f : Nat)), .int (iI (q : Nat))] [] g = mm_D (mm_M mm_T0 (d + 3)) cd_X4_readPerson 103 [.ref 218, .ref 1, .null, .int (iI (p : Nat)), .null, .null, .null, .int (iI (f : Nat)), .int (iI ((q + 1 : Nat) : Int))] [] g := by
        rw [U_X4_readPerson_103]
        simp (disch := omega) only [iI_lit, jI_lit, iI_neg, jI_neg, iI_add, iI_sub, iI_mul, jI_add, jI_sub, jI_mul, rdI, rdL, iI_lt, iI_le, iI_eq, iI_nat, iI_b2_0, iI_b2_1, mm_bI_some, mm_bV_some, mm_bL_some, mm_bA_some, fd_wL, fd_wR, fl_wI, fl_wR, re_wI, re_wL, re_wC, ite_true, ite_false, not_true_eq_false, not_false_eq_true, lq_ge, lq_le, lq_gt, lq_lt, lq_eq, jI_lt, jI_le, jI_eq, if_pos, if_neg, e10, e1]
      rw [st, onT, if_pos (by omega), e1]
      exact ⟨g', z, K⟩
    · have ei : f + (if q ≤ p then k + 1 - 1 else k + 1) = f + 1 + (if q + 1 ≤ p then k - 1 else k) := by
        by_cases c2 : q ≤ p
        · rw [if_pos c2, if_pos (by omega)]
          omega
        · rw [if_neg c2, if_neg (by omega)]
          omega
      rw [ei] at hf ⊢
      have by' := C_byte (d := d + 2) (f := f) T (by omega) hL
      have tb := (T.2 f (by omega)).2
      have ef : ((f : Nat) : Int) + 1 = ((f + 1 : Nat) : Int) := by omega
      by_cases c9 : b f ≤ 9
      · have th := S_setThought (d := d) (h := g) (p := (p : Nat)) (q := (q : Nat)) (x := b f) isS_220 (by omega) (by omega) (by omega) (by omega)
        rw [if_pos (by omega)] at th
        have kw : Kf QSs nL g (wI g (220 + 6) (((p : Nat) : Int) * 8 + (q : Nat)).toNat (iI (b f))) := Kf.refl.wI (by unfold QSs; omega)
        obtain ⟨g', z, K⟩ := C_rp_103 hL h8 hp k (q + 1) (f + 1) (wI g (220 + 6) (((p : Nat) : Int) * 8 + (q : Nat)).toNat (iI (b f))) (up r (25 + 8 * ((p : Nat) : Int) + (q : Nat)) (b f)) (by omega) hf (T.kf kw (by unfold QSs; omega) (by intro j; unfold QSs; omega)) (P.th h8 (by omega) (by omega) (by omega) (by omega) (by omega) tb.1 tb.2)
        have st : mm_D (mm_M mm_T0 (d + 3)) cd_X4_readPerson 103 [.ref 218, .ref 1, .null, .int (iI (p : Nat)), .null, .null, .null, .int (iI (f : Nat)), .int (iI (q : Nat))] [] g = mm_D (mm_M mm_T0 (d + 3)) cd_X4_readPerson 103 [.ref 218, .ref 1, .null, .int (iI (p : Nat)), .null, .null, .null, .int (iI ((f + 1 : Nat) : Int)), .int (iI ((q + 1 : Nat) : Int))] [] (wI g (220 + 6) (((p : Nat) : Int) * 8 + (q : Nat)).toNat (iI (b f))) := by
          rw [U_X4_readPerson_103]
          simp (disch := omega) only [iI_lit, jI_lit, iI_neg, jI_neg, iI_add, iI_sub, iI_mul, jI_add, jI_sub, jI_mul, rdI, rdL, iI_lt, iI_le, iI_eq, iI_nat, iI_b2_0, iI_b2_1, mm_bI_some, mm_bV_some, mm_bL_some, mm_bA_some, fd_wL, fd_wR, fl_wI, fl_wR, re_wI, re_wL, re_wC, ite_true, ite_false, not_true_eq_false, not_false_eq_true, lq_ge, lq_le, lq_gt, lq_lt, lq_eq, jI_lt, jI_le, jI_eq, if_pos, if_neg, e10, by', th, e1, ef]
        rw [st, onT, if_neg (by omega), e1]
        refine ⟨g', ?_, kw.trans K⟩
        rcases z with z | z
        · left
          refine ⟨z.1, z.2.1, fun i i1 i2 => ?_⟩
          by_cases ci : i = f
          · rw [ci]; exact c9
          · exact z.2.2 i (by omega) i2
        · right
          exact ⟨z.1, fun y => z.2 (fun i i1 i2 => y i (by omega) i2)⟩
      · refine ⟨g, Or.inr ⟨?_, fun y => c9 (y f (by omega) (by omega))⟩, Kf.refl⟩
        rw [U_X4_readPerson_103]
        simp (disch := omega) only [iI_lit, jI_lit, iI_neg, jI_neg, iI_add, iI_sub, iI_mul, jI_add, jI_sub, jI_mul, rdI, rdL, iI_lt, iI_le, iI_eq, iI_nat, iI_b2_0, iI_b2_1, mm_bI_some, mm_bV_some, mm_bL_some, mm_bA_some, fd_wL, fd_wR, fl_wI, fl_wR, re_wI, re_wL, re_wC, ite_true, ite_false, not_true_eq_false, not_false_eq_true, lq_ge, lq_le, lq_gt, lq_lt, lq_eq, jI_lt, jI_le, jI_eq, if_pos, if_neg, e10, by']
theorem PSc.pl {g : mm_H} {r : Int → Int} {p : Nat} {f : Nat} (P : PSc g m hm fc kd r p) (N : NIj m hm b r p) (h8 : m ≤ 8) (hp : p < m) (c0 : 0 ≤ b f ∧ b f < hm) (cw : who r (p : Nat) (b f) = -1) (b1 : 0 ≤ b (f + 1) ∧ b (f + 1) ≤ 255) (b2' : 0 ≤ b (f + 2) ∧ b (f + 2) ≤ 255) (h9 : hm ≤ 9) : PSc (wI (wI (wI (wI g (220 + 7) (b f).toNat (iI (p : Nat))) (220 + 3) p (iI (b f))) (220 + 4) p (iI (b (f + 1)))) (220 + 5) p (iI (b (f + 2)))) m hm fc kd (onP b (p : Nat) f r) (p + 1) := by
  obtain ⟨⟨a1, a2, a3, a4⟩, a5, a6, a7, a8⟩ := P
  have dis := N.dis
  have o1 : onP b (p : Nat) f r (1 + 3 * (p : Nat)) = b f := by
    unfold onP
    rw [up_ne (by omega), up_ne (by omega), up_same]
  have o2 : onP b (p : Nat) f r (2 + 3 * (p : Nat)) = b (f + 1) := by
    unfold onP
    rw [up_ne (by omega), up_same]
  have o3 : onP b (p : Nat) f r (3 + 3 * (p : Nat)) = b (f + 2) := by
    unfold onP
    rw [up_same]
  have on : ∀ z, z ≠ 1 + 3 * ((p : Nat) : Int) → z ≠ 2 + 3 * ((p : Nat) : Int) → z ≠ 3 + 3 * ((p : Nat) : Int) → onP b (p : Nat) f r z = r z := by
    intro z z1 z2 z3
    unfold onP
    rw [up_ne z3, up_ne z2, up_ne z1]
  refine ⟨⟨?_, ?_, ?_, ?_⟩, fun x x0 x1 => ?_, fun x x0 x1 => ?_, fun x z x1 x2 z1 z2 xz => ?_, fun i i0 i1 => ?_⟩
  · simp (disch := omega) only [fd_wI_row]; exact a1
  · simp (disch := omega) only [fd_wI_row]; exact a2
  · simp (disch := omega) only [fd_wI_row]; rw [on _ (by omega) (by omega) (by omega)]; exact a3
  · simp (disch := omega) only [fd_wI_row]; exact a4
  · have := a5 x x0 x1
    by_cases c : x = (p : Int)
    · rw [c, o2, o3, show (((p : Nat) : Int)).toNat = p by omega]
      rw [c, show (((p : Nat) : Int)).toNat = p by omega] at this
      refine ⟨?_, ?_, ?_, ?_⟩
      · simp (disch := omega) only [fd_wI_row]; exact this.1
      · simp (disch := omega) only [fd_wI_row]; exact this.2.1
      · simp (disch := omega) only [fd_wI_row, fd_wI_same]
      · simp (disch := omega) only [fd_wI_row, fd_wI_same]
    · rw [on _ (by omega) (by omega) (by omega), on _ (by omega) (by omega) (by omega)]
      have cc : x.toNat ≠ p := by omega
      refine ⟨?_, ?_, ?_, ?_⟩
      · simp (disch := omega) only [fd_wI_row]; exact this.1
      · simp (disch := omega) only [fd_wI_row]; exact this.2.1
      · simp (disch := omega) only [fd_wI_row, fd_wI_col]; exact this.2.2.1
      · simp (disch := omega) only [fd_wI_row, fd_wI_col]; exact this.2.2.2
  · by_cases c : x = (p : Int)
    · rw [c, o1, show (((p : Nat) : Int)).toNat = p by omega]
      simp (disch := omega) only [fd_wI_row, fd_wI_same]
    · rw [on _ (by omega) (by omega) (by omega)]
      have cc : x.toNat ≠ p := by omega
      simp (disch := omega) only [fd_wI_row, fd_wI_col]
      exact a6 x x0 (by omega)
  · rw [on _ (by omega) (by omega) (by omega)]
    simp (disch := omega) only [fd_wI_row]
    exact a7 x z x1 x2 z1 z2 xz
  · have ew : ∀ x, 0 ≤ x → x < ((p + 1 : Nat) : Int) → onP b (p : Nat) f r (1 + 3 * x) = if x = (p : Int) then b f else r (1 + 3 * x) := by
      intro x x0 x1
      by_cases c : x = (p : Int)
      · rw [if_pos c, c, o1]
      · rw [if_neg c, on _ (by omega) (by omega) (by omega)]
    have wn := who_not (n := r) (pm := (p : Nat)) (by omega) cw
    have hd : ∀ x z, 0 ≤ x → x < ((p + 1 : Nat) : Int) → 0 ≤ z → z < ((p + 1 : Nat) : Int) → onP b (p : Nat) f r (1 + 3 * x) = onP b (p : Nat) f r (1 + 3 * z) → x = z := by
      intro x z x0 x1 z0 z1 e
      rw [ew x x0 x1, ew z z0 z1] at e
      by_cases cx : x = (p : Int)
      · by_cases cz : z = (p : Int)
        · omega
        · rw [if_pos cx, if_neg cz] at e
          exact absurd e.symm (wn z z0 (by omega))
      · by_cases cz : z = (p : Int)
        · rw [if_neg cx, if_pos cz] at e
          exact absurd e (wn x x0 (by omega))
        · rw [if_neg cx, if_neg cz] at e
          exact dis x z x0 (by omega) z0 (by omega) e
    have wv : who (onP b (p : Nat) f r) ((p + 1 : Nat) : Int) i = if i = b f then (p : Int) else who r (p : Nat) i := by
      by_cases c : i = b f
      · rw [if_pos c]
        refine who_of hd (by omega) (by omega) ?_
        rw [o1, c]
      · rw [if_neg c]
        rcases who_b (n := r) (pm := (p : Nat)) (h := i) (by omega) with z | z
        · rw [z]
          refine who_no (by omega) (fun x x0 x1 e => ?_)
          rw [ew x x0 x1] at e
          by_cases cx : x = (p : Int)
          · rw [if_pos cx] at e; exact c e.symm
          · rw [if_neg cx] at e
            exact who_not (n := r) (pm := (p : Nat)) (by omega) z x x0 (by omega) e
        · refine who_of hd z.1 (by omega) ?_
          rw [ew _ z.1 (by omega), if_neg (by omega)]
          exact z.2.2
    rw [wv]
    by_cases c : i = b f
    · rw [if_pos c, c]
      simp (disch := omega) only [fd_wI_row, fd_wI_same]
    · rw [if_neg c]
      have cc : i.toNat ≠ (b f).toNat := by omega
      simp (disch := omega) only [fd_wI_row, fd_wI_col]
      exact a8 i i0 i1
theorem onT_homes {r : Int → Int} {p : Int} {k : Nat} {f : Nat} {x : Int} (p0 : 0 ≤ p) (x1 : x < 25) : onT b p k 0 f r x = r x := onT_ne k 0 f r (by omega)
set_option maxHeartbeats 8000000 in
theorem C_person {g : mm_H} {r : Int → Int} {p : Nat} (T : TpC g b (3 + m * (m + 2))) (hb : ∀ j, j < 3 + m * (m + 2) → 0 ≤ b j ∧ b j ≤ 255) (P : PSc g m hm fc kd r p) (N : NIj m hm b r p) (h8 : m ≤ 8) (h9 : 0 ≤ hm ∧ hm ≤ 9) (hp : p < m) : ∃ g', ((mm_M mm_T0 (d + 4) 69 [.ref 218, .ref 1, .int (iI (posP m p : Nat)), .int (iI (p : Nat))] g = some (some (.int (iI 1)), g') ∧ PSc g' m hm fc kd (onT b (p : Nat) m 0 (posP m p + 3) (onP b (p : Nat) (posP m p) r)) (p + 1) ∧ NIj m hm b (onT b (p : Nat) m 0 (posP m p + 3) (onP b (p : Nat) (posP m p) r)) (p + 1)) ∨ (mm_M mm_T0 (d + 4) 69 [.ref 218, .ref 1, .int (iI (posP m p : Nat)), .int (iI (p : Nat))] g = some (some (.int (iI 0)), g') ∧ ¬ OkP b hm m p)) ∧ Kf QSs nL g g' := by
  have pb := posP_b h8 hp
  have pe := posP_e hp
  have mb : m * (m + 2) ≤ 8 * 10 := Nat.mul_le_mul h8 (show m + 2 ≤ 10 by omega)
  have y0 := C_byte (d := d + 2) (f := posP m p) T (by omega) (by omega)
  have y1 := C_byte (d := d + 2) (f := posP m p + 1) T (by omega) (by omega)
  have y2 := C_byte (d := d + 2) (f := posP m p + 2) T (by omega) (by omega)
  have B0 := hb (posP m p) (by omega)
  have B1 := hb (posP m p + 1) (by omega)
  have B2 := hb (posP m p + 2) (by omega)
  have e1 : ((posP m p : Nat) : Int) + 1 = ((posP m p + 1 : Nat) : Int) := by omega
  have e2 : ((posP m p : Nat) : Int) + 2 = ((posP m p + 2 : Nat) : Int) := by omega
  have e3 : ((posP m p : Nat) : Int) + 3 = ((posP m p + 3 : Nat) : Int) := by omega
  have e9 := P.1.2.1
  have e10 := P.1.1
  rw [U_X4_readPerson]
  by_cases c0 : b (posP m p) < hm
  · have lg := fun d => S_lodgerAt (d := d) (h := g) (p := b (posP m p)) isS_220 (by omega) (by omega)
    have lv : (if 0 ≤ b (posP m p) ∧ b (posP m p) < fd g 220 9 ∧ b (posP m p) < 9 then fd g (220 + 7) (b (posP m p)).toNat else -1) = who r (p : Nat) (b (posP m p)) := by
      rw [if_pos (by omega)]
      exact P.2.2.2.2 _ B0.1 c0
    rw [lv] at lg
    have wb := who_b (n := r) (pm := (p : Nat)) (h := b (posP m p)) (by omega)
    by_cases cw : who r (p : Nat) (b (posP m p)) = -1
    · rw [cw] at lg
      by_cases c1 : b (posP m p + 1) ≤ 99
      · by_cases c2 : b (posP m p + 2) ≤ 1
        · have P1 := P.pl (f := posP m p) N h8 hp ⟨B0.1, c0⟩ cw B1 B2 h9.2
          generalize hg1 : wI (wI (wI (wI g (220 + 7) (b (posP m p)).toNat (iI (p : Nat))) (220 + 3) p (iI (b (posP m p)))) (220 + 4) p (iI (b (posP m p + 1)))) (220 + 5) p (iI (b (posP m p + 2))) = g1 at P1
          have K1 : Kf QSs nL g g1 := by
            rw [← hg1]
            exact (((Kf.refl.wI (by unfold QSs; omega)).wI (by unfold QSs; omega)).wI (by unfold QSs; omega)).wI (by unfold QSs; omega)
          have pl := S_place_h (d := d + 1) (h := g) (p := (p : Nat)) (q := b (posP m p)) isS_220 (by omega) (by omega) B0.1 (by omega) (by omega)
          rw [if_pos (by omega), show (((p : Nat) : Int)).toNat = p by omega] at pl
          have sl := S_setLook (d := d + 1) (h := wI (wI g (220 + 7) (b (posP m p)).toNat (iI (p : Nat))) (220 + 3) p (iI (b (posP m p)))) (p := (p : Nat)) (x := b (posP m p + 1)) isS_220 (by omega) (by omega)
          rw [if_pos (by rw [fd_wI_row (by omega), fd_wI_row (by omega)]; omega), show (((p : Nat) : Int)).toNat = p by omega] at sl
          have ss := S_setSparing (d := d + 1) (h := wI (wI (wI g (220 + 7) (b (posP m p)).toNat (iI (p : Nat))) (220 + 3) p (iI (b (posP m p)))) (220 + 4) p (iI (b (posP m p + 1)))) (p := (p : Nat)) (x := b (posP m p + 2)) isS_220 (by omega) (by omega)
          rw [if_pos (by rw [fd_wI_row (by omega), fd_wI_row (by omega), fd_wI_row (by omega)]; omega), show (((p : Nat) : Int)).toNat = p by omega, hg1] at ss
          have ex : posP m p + 3 + (if 0 ≤ p then m - 1 else m) = posP m p + (m + 2) := by
            rw [if_pos (by omega)]
            omega
          obtain ⟨g', z, K⟩ := C_rp_103 (d := d) (L := 3 + m * (m + 2)) (p := p) (by omega) h8 hp m 0 (posP m p + 3) g1 _ (by omega) (by rw [ex]; omega) (T.kf K1 (by unfold QSs; omega) (by intro j; unfold QSs; omega)) P1
          rw [show ((0 : Nat) : Int) = 0 from rfl, ex] at z
          refine ⟨g', ?_, K1.trans K⟩
          rcases z with z | z
          · have z1 := z.1
            have ok : OkP b hm m p := by
              refine ⟨⟨B0.1, c0⟩, fun q hq e => ?_, c1, c2, fun i i1 i2 => z.2.2 (posP m p + i) (by omega) (by omega)⟩
              have := who_not (n := r) (pm := (p : Nat)) (by omega) cw (q : Nat) (by omega) (by omega)
              rw [N.2.2.1 q hq] at this
              exact this e
            left
            refine ⟨?_, z.2.1, ⟨fun x x0 x1 => ?_, fun x y x0 x1 y0 y1 xy => ?_, fun q hq => ?_, fun q hq => ?_⟩⟩
            · simp (disch := omega) only [iI_lit, jI_lit, iI_neg, jI_neg, iI_add, iI_sub, iI_mul, jI_add, jI_sub, jI_mul, rdI, rdL, iI_lt, iI_le, iI_eq, iI_nat, iI_b2_0, iI_b2_1, mm_bI_some, mm_bV_some, mm_bL_some, mm_bA_some, fd_wL, fd_wR, fl_wI, fl_wR, re_wI, re_wL, re_wC, ite_true, ite_false, not_true_eq_false, not_false_eq_true, lq_ge, lq_le, lq_gt, lq_lt, lq_eq, jI_lt, jI_le, jI_eq, if_pos, if_neg, y0, e1, y1, e2, y2, S_isHouse isS_220, e9, lg, pl, sl, ss, e3, z1]
            · rw [onT_homes (by omega) (by omega), onT_homes (by omega) (by omega)]
              have := N.1 x x0 x1
              unfold onP
              by_cases cx : x = (p : Int)
              · rw [cx, up_ne (by omega), up_same, up_same]
                omega
              · rw [up_ne (by omega), up_ne (by omega), up_ne (by omega), up_ne (by omega), up_ne (by omega), up_ne (by omega)]
                exact this
            · by_cases cx : x = (p : Int)
              · rw [cx]
                exact onT_b m 0 (posP m p + 3) _ (fun i i1 i2 => (hb i (by omega)).1) (fun i i1 i2 => z.2.2 i (by omega) (by omega)) y (by omega) (by omega) (fun e => xy (by omega))
              · rw [onT_ne m 0 _ _ (by omega)]
                unfold onP
                rw [up_ne (by omega), up_ne (by omega), up_ne (by omega)]
                exact N.2.1 x y x0 x1 y0 y1 xy
            · rw [onT_homes (by omega) (by omega)]
              unfold onP
              by_cases cq : q = p
              · rw [cq, up_ne (by omega), up_ne (by omega), up_same]
              · rw [up_ne (by omega), up_ne (by omega), up_ne (by omega)]
                exact N.2.2.1 q (by omega)
            · by_cases cq : q = p
              · rw [cq]; exact ok
              · exact N.2.2.2 q (by omega)
          · have z1 := z.1
            right
            refine ⟨?_, fun x => z.2 (fun i i1 i2 => ?_)⟩
            · simp (disch := omega) only [iI_lit, jI_lit, iI_neg, jI_neg, iI_add, iI_sub, iI_mul, jI_add, jI_sub, jI_mul, rdI, rdL, iI_lt, iI_le, iI_eq, iI_nat, iI_b2_0, iI_b2_1, mm_bI_some, mm_bV_some, mm_bL_some, mm_bA_some, fd_wL, fd_wR, fl_wI, fl_wR, re_wI, re_wL, re_wC, ite_true, ite_false, not_true_eq_false, not_false_eq_true, lq_ge, lq_le, lq_gt, lq_lt, lq_eq, jI_lt, jI_le, jI_eq, if_pos, if_neg, y0, e1, y1, e2, y2, S_isHouse isS_220, e9, lg, pl, sl, ss, e3, z1]
            · have := x.2.2.2.2 (i - posP m p) (by omega) (by omega)
              rw [show posP m p + (i - posP m p) = i by omega] at this
              exact this
        · refine ⟨g, Or.inr ⟨?_, fun x => c2 x.2.2.2.1⟩, Kf.refl⟩
          simp (disch := omega) only [iI_lit, jI_lit, iI_neg, jI_neg, iI_add, iI_sub, iI_mul, jI_add, jI_sub, jI_mul, rdI, rdL, iI_lt, iI_le, iI_eq, iI_nat, iI_b2_0, iI_b2_1, mm_bI_some, mm_bV_some, mm_bL_some, mm_bA_some, fd_wL, fd_wR, fl_wI, fl_wR, re_wI, re_wL, re_wC, ite_true, ite_false, not_true_eq_false, not_false_eq_true, lq_ge, lq_le, lq_gt, lq_lt, lq_eq, jI_lt, jI_le, jI_eq, if_pos, if_neg, y0, e1, y1, e2, y2, S_isHouse isS_220, e9, lg]
      · refine ⟨g, Or.inr ⟨?_, fun x => c1 x.2.2.1⟩, Kf.refl⟩
        simp (disch := omega) only [iI_lit, jI_lit, iI_neg, jI_neg, iI_add, iI_sub, iI_mul, jI_add, jI_sub, jI_mul, rdI, rdL, iI_lt, iI_le, iI_eq, iI_nat, iI_b2_0, iI_b2_1, mm_bI_some, mm_bV_some, mm_bL_some, mm_bA_some, fd_wL, fd_wR, fl_wI, fl_wR, re_wI, re_wL, re_wC, ite_true, ite_false, not_true_eq_false, not_false_eq_true, lq_ge, lq_le, lq_gt, lq_lt, lq_eq, jI_lt, jI_le, jI_eq, if_pos, if_neg, y0, e1, y1, e2, y2, S_isHouse isS_220, e9, lg]
    · have wb : 0 ≤ who r (p : Nat) (b (posP m p)) ∧ who r (p : Nat) (b (posP m p)) < (p : Nat) ∧ r (1 + 3 * who r (p : Nat) (b (posP m p))) = b (posP m p) := by omega
      refine ⟨g, Or.inr ⟨?_, fun x => ?_⟩, Kf.refl⟩
      · simp (disch := omega) only [iI_lit, jI_lit, iI_neg, jI_neg, iI_add, iI_sub, iI_mul, jI_add, jI_sub, jI_mul, rdI, rdL, iI_lt, iI_le, iI_eq, iI_nat, iI_b2_0, iI_b2_1, mm_bI_some, mm_bV_some, mm_bL_some, mm_bA_some, fd_wL, fd_wR, fl_wI, fl_wR, re_wI, re_wL, re_wC, ite_true, ite_false, not_true_eq_false, not_false_eq_true, lq_ge, lq_le, lq_gt, lq_lt, lq_eq, jI_lt, jI_le, jI_eq, if_pos, if_neg, y0, e1, y1, e2, y2, S_isHouse isS_220, e9, lg]
      · have hq := N.2.2.1 (who r (p : Nat) (b (posP m p))).toNat (by omega)
        rw [show (((who r (p : Nat) (b (posP m p))).toNat : Nat) : Int) = who r (p : Nat) (b (posP m p)) by omega, wb.2.2] at hq
        exact x.2.1 _ (by omega) hq.symm
  · refine ⟨g, Or.inr ⟨?_, fun x => c0 x.1.2⟩, Kf.refl⟩
    simp (disch := omega) only [iI_lit, jI_lit, iI_neg, jI_neg, iI_add, iI_sub, iI_mul, jI_add, jI_sub, jI_mul, rdI, rdL, iI_lt, iI_le, iI_eq, iI_nat, iI_b2_0, iI_b2_1, mm_bI_some, mm_bV_some, mm_bL_some, mm_bA_some, fd_wL, fd_wR, fl_wI, fl_wR, re_wI, re_wL, re_wC, ite_true, ite_false, not_true_eq_false, not_false_eq_true, lq_ge, lq_le, lq_gt, lq_lt, lq_eq, jI_lt, jI_le, jI_eq, if_pos, if_neg, y0, e1, y1, e2, y2, S_isHouse isS_220, e9]
set_option maxHeartbeats 8000000 in
theorem C_rd_112 (hb : ∀ j, j < 3 + m * (m + 2) → 0 ≤ b j ∧ b j ≤ 255) (h8 : m ≤ 8) (h9 : 0 ≤ hm ∧ hm ≤ 9) : ∀ (k p : Nat) (g : mm_H) (r : Int → Int), p + k = m → TpC g b (3 + m * (m + 2)) → fd g 13 10 = (m : Int) → PSc g m hm fc kd r p → NIj m hm b r p → ∃ g', ((mm_D (mm_M mm_T0 (d + 4)) cd_X4_read 112 [.ref 218, .ref 1, .ref 13, .null, .null, .int (iI (p : Nat))] [] g = mm_bV (mm_M mm_T0 (d + 4) 100 [.ref 13, .ref 220] g') (fun h1 => some (some (.int (iI 1)), h1)) ∧ PSc g' m hm fc kd (onA b m k p r) m ∧ NIj m hm b (onA b m k p r) m) ∨ (mm_D (mm_M mm_T0 (d + 4)) cd_X4_read 112 [.ref 218, .ref 1, .ref 13, .null, .null, .int (iI (p : Nat))] [] g = some (some (.int (iI 0)), g') ∧ ¬ ∀ q, q < m → OkP b hm m q)) ∧ Kf QSs nL g g'
  | 0, p, g, r, pk, T, e10, P, N => by
    have e : p = m := by omega
    subst e
    refine ⟨g, Or.inl ⟨?_, P, N⟩, Kf.refl⟩
    rw [U_X4_read_112 isS_13]
    simp (disch := omega) only [iI_lit, jI_lit, iI_neg, jI_neg, iI_add, iI_sub, iI_mul, jI_add, jI_sub, jI_mul, rdI, rdL, iI_lt, iI_le, iI_eq, iI_nat, iI_b2_0, iI_b2_1, mm_bI_some, mm_bV_some, mm_bL_some, mm_bA_some, fd_wL, fd_wR, fl_wI, fl_wR, re_wI, re_wL, re_wC, ite_true, ite_false, not_true_eq_false, not_false_eq_true, lq_ge, lq_le, lq_gt, lq_lt, lq_eq, jI_lt, jI_le, jI_eq, if_pos, if_neg, e10]
  | k + 1, p, g, r, pk, T, e10, P, N => by
    have ep : 2 + ((p : Nat) : Int) * ((m : Int) + 2) = ((posP m p : Nat) : Int) := by
      unfold posP
      rw [Int.natCast_add, Int.natCast_mul, Int.natCast_add]
      rfl
    have pb := posP_b (p := p) h8 (by omega)
    have e1 : ((p : Nat) : Int) + 1 = ((p + 1 : Nat) : Int) := by omega
    obtain ⟨g1, z, K1⟩ := C_person (d := d) (p := p) T hb P N h8 h9 (by omega)
    rcases z with z | z
    · have z1 := z.1
      obtain ⟨g', y, K2⟩ := C_rd_112 hb h8 h9 k (p + 1) g1 _ (by omega) (T.kf K1 (by unfold QSs; omega) (by intro j; unfold QSs; omega)) ((K1.1 _ _ (by unfold QSs; omega)).trans e10) z.2.1 z.2.2
      have st : mm_D (mm_M mm_T0 (d + 4)) cd_X4_read 112 [.ref 218, .ref 1, .ref 13, .null, .null, .int (iI (p : Nat))] [] g = mm_D (mm_M mm_T0 (d + 4)) cd_X4_read 112 [.ref 218, .ref 1, .ref 13, .null, .null, .int (iI ((p + 1 : Nat) : Int))] [] g1 := by
        rw [U_X4_read_112 isS_13]
        simp (disch := omega) only [iI_lit, jI_lit, iI_neg, jI_neg, iI_add, iI_sub, iI_mul, jI_add, jI_sub, jI_mul, rdI, rdL, iI_lt, iI_le, iI_eq, iI_nat, iI_b2_0, iI_b2_1, mm_bI_some, mm_bV_some, mm_bL_some, mm_bA_some, fd_wL, fd_wR, fl_wI, fl_wR, re_wI, re_wL, re_wC, ite_true, ite_false, not_true_eq_false, not_false_eq_true, lq_ge, lq_le, lq_gt, lq_lt, lq_eq, jI_lt, jI_le, jI_eq, if_pos, if_neg, e10, ep, z1, e1]
      rw [st]
      exact ⟨g', y, K1.trans K2⟩
    · have z1 := z.1
      refine ⟨g1, Or.inr ⟨?_, fun x => z.2 (x p (by omega))⟩, K1⟩
      rw [U_X4_read_112 isS_13]
      simp (disch := omega) only [iI_lit, jI_lit, iI_neg, jI_neg, iI_add, iI_sub, iI_mul, jI_add, jI_sub, jI_mul, rdI, rdL, iI_lt, iI_le, iI_eq, iI_nat, iI_b2_0, iI_b2_1, mm_bI_some, mm_bV_some, mm_bL_some, mm_bA_some, fd_wL, fd_wR, fl_wI, fl_wR, re_wI, re_wL, re_wC, ite_true, ite_false, not_true_eq_false, not_false_eq_true, lq_ge, lq_le, lq_gt, lq_lt, lq_eq, jI_lt, jI_le, jI_eq, if_pos, if_neg, e10, ep, z1]
set_option maxHeartbeats 8000000 in
theorem C_chk_6 {g : mm_H} {L : Nat} (T : TpC g b L) (hL : 0 < L ∧ L ≤ 1600) : ∀ (k j : Nat) (c : Int), j + k = L - 1 → (0 ≤ c ∧ c ≤ 250) → mm_D (mm_M mm_T0 (d + 1)) cd_X4_isChecked 6 [.ref 1, .int (iI c), .int (iI (j : Nat))] [] g = some (some (.int (iI (b2 (b (L - 1) = ((List.range' j k).map b).foldl (fun c v => (3 * c + v) % 251) c)))), g)
  | 0, j, c, jk, hc => by
    have t1 := T.1
    have y := C_byte (d := d) (f := L - 1) T (by omega) (by omega)
    have tb := (T.2 (L - 1) (by omega)).2
    have e1 : ((L : Nat) : Int) - 1 = ((L - 1 : Nat) : Int) := by omega
    rw [U_X4_isChecked_6, U_X8_size]
    show _ = some (some (Value.int (iI (b2 (b (L - 1) = c)))), g)
    by_cases z : b (L - 1) = c
    · rw [b2_t z]
      simp (disch := omega) only [iI_lit, jI_lit, iI_neg, jI_neg, iI_add, iI_sub, iI_mul, jI_add, jI_sub, jI_mul, rdI, rdL, iI_lt, iI_le, iI_eq, iI_nat, iI_b2_0, iI_b2_1, mm_bI_some, mm_bV_some, mm_bL_some, mm_bA_some, fd_wL, fd_wR, fl_wI, fl_wR, re_wI, re_wL, re_wC, ite_true, ite_false, not_true_eq_false, not_false_eq_true, lq_ge, lq_le, lq_gt, lq_lt, lq_eq, jI_lt, jI_le, jI_eq, if_pos, if_neg, t1, e1, y, U_X8_size]
    · rw [b2_f z]
      simp (disch := omega) only [iI_lit, jI_lit, iI_neg, jI_neg, iI_add, iI_sub, iI_mul, jI_add, jI_sub, jI_mul, rdI, rdL, iI_lt, iI_le, iI_eq, iI_nat, iI_b2_0, iI_b2_1, mm_bI_some, mm_bV_some, mm_bL_some, mm_bA_some, fd_wL, fd_wR, fl_wI, fl_wR, re_wI, re_wL, re_wC, ite_true, ite_false, not_true_eq_false, not_false_eq_true, lq_ge, lq_le, lq_gt, lq_lt, lq_eq, jI_lt, jI_le, jI_eq, if_pos, if_neg, t1, e1, y, U_X8_size]
  | k + 1, j, c, jk, hc => by
    have t1 := T.1
    have y := C_byte (d := d) (f := j) T (by omega) (by omega)
    have tb := (T.2 j (by omega)).2
    have et : 3 * c + b j - (3 * c + b j).tdiv 251 * 251 = (3 * c + b j) % 251 := by
      rw [Int.tdiv_eq_ediv_of_nonneg (by omega)]
      omega
    have e1 : ((j : Nat) : Int) + 1 = ((j + 1 : Nat) : Int) := by omega
    have ih := C_chk_6 T hL k (j + 1) ((3 * c + b j) % 251) (by omega) (by omega)
    rw [List.range'_succ, List.map_cons, List.foldl_cons, ← ih, U_X4_isChecked_6, U_X8_size]
    simp (disch := omega) only [iI_lit, jI_lit, iI_neg, jI_neg, iI_add, iI_sub, iI_mul, jI_add, jI_sub, jI_mul, rdI, rdL, iI_lt, iI_le, iI_eq, iI_nat, iI_b2_0, iI_b2_1, mm_bI_some, mm_bV_some, mm_bL_some, mm_bA_some, fd_wL, fd_wR, fl_wI, fl_wR, re_wI, re_wL, re_wC, ite_true, ite_false, not_true_eq_false, not_false_eq_true, lq_ge, lq_le, lq_gt, lq_lt, lq_eq, jI_lt, jI_le, jI_eq, if_pos, if_neg, t1, y, iI_div, et, e1]
end ONC
