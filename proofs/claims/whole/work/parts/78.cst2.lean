section CNN
variable {d : Nat} {g : mm_H} {b : Nat → Int} {E p : Nat} {gl : Bool} {u : Nat} {hm : Int} {st : Tst}
set_option maxHeartbeats 8000000 in
theorem C_nn_13 {m : Nat} (hu : mm_isT u) (m8 : m < 8) (hn : (nmT b E p gl).1 = 0) : ∀ (k j : Nat) (g : mm_H), j + k = 6 → CS g b E p gl → ∃ g', mm_D (mm_M mm_T0 (d + 2)) cd_X10_nameNext 13 [.ref u, .ref 3, .int (iI ((6 * m : Nat) : Int)), .int (iI (j : Nat))] [] g = some (none, g') ∧ (∀ z, j ≤ z → z < 6 → fd g' (u + 16) (6 * m + z) = (nmT b E p gl).2.2.getD z 0) ∧ Kf (fun a x => a = u + 16 ∧ 6 * m + j ≤ x ∧ x < 6 * m + 6) nL g g'
  | 0, j, g, hj, S => by
    refine ⟨g, ?_, fun z h1 h2 => by omega, Kf.refl⟩
    rw [U_X10_nameNext_13 hu]
    simp (disch := omega) only [iI_lit, jI_lit, iI_neg, jI_neg, iI_add, iI_sub, iI_mul, jI_add, jI_sub, jI_mul, rdI, rdL, iI_lt, iI_le, iI_eq, iI_nat, iI_b2_0, iI_b2_1, mm_bI_some, mm_bV_some, mm_bL_some, mm_bA_some, fd_wL, fd_wR, fl_wI, fl_wR, re_wI, re_wL, re_wC, ite_true, ite_false, not_true_eq_false, not_false_eq_true, lq_ge, lq_le, lq_gt, lq_lt, lq_eq, jI_lt, jI_le, jI_eq, if_pos, if_neg]
  | k + 1, j, g, hj, S => by
    have ut := isT_or hu
    have a2 := C_letterAt (d := d) (k := j) S hn (by omega)
    have n7 := ((nmT_b (b := b) (E := E) (p := p) (gl := gl) S.2.1 S.2.2.1).2.2.2 hn).2.2.2.2.2.2
    have b2' : -2147483648 ≤ (nmT b E p gl).2.2.getD j 0 ∧ (nmT b E p gl).2.2.getD j 0 < 2147483648 := by
      by_cases c : j < (nmT b E p gl).2.2.length
      · rw [List.getD_eq_getElem?_getD, List.getElem?_eq_getElem c]
        have := n7 _ (List.getElem_mem c)
        show -2147483648 ≤ (nmT b E p gl).2.2[j] ∧ (nmT b E p gl).2.2[j] < 2147483648
        omega
      · rw [List.getD_eq_getElem?_getD, List.getElem?_eq_none (by omega)]
        exact ⟨by decide, by decide⟩
    have e1 : ((6 * m : Nat) : Int) + (j : Nat) = ((6 * m + j : Nat) : Int) := by omega
    have e2 : (j : Int) + 1 = ((j + 1 : Nat) : Int) := by omega
    have nn : ((6 * m + j : Nat) : Int).toNat = 6 * m + j := by omega
    have kw : Kf (fun a x => a = u + 16 ∧ 6 * m + j ≤ x ∧ x < 6 * m + 6) nL g (wI g (u + 16) (6 * m + j) (iI ((nmT b E p gl).2.2.getD j 0))) := Kf.refl.wI (by omega)
    obtain ⟨g', m1, m2, m3⟩ := C_nn_13 hu m8 hn k (j + 1) (wI g (u + 16) (6 * m + j) (iI ((nmT b E p gl).2.2.getD j 0))) (by omega) (S.kf kw (by omega) (by intro j; omega) (by intro j; omega))
    refine ⟨g', ?_, fun z h1 h2 => ?_, kw.trans (m3.monoQ (fun a x q => by omega))⟩
    · rw [← m1, U_X10_nameNext_13 hu]
      simp (disch := omega) only [iI_lit, jI_lit, iI_neg, jI_neg, iI_add, iI_sub, iI_mul, jI_add, jI_sub, jI_mul, rdI, rdL, iI_lt, iI_le, iI_eq, iI_nat, iI_b2_0, iI_b2_1, mm_bI_some, mm_bV_some, mm_bL_some, mm_bA_some, fd_wL, fd_wR, fl_wI, fl_wR, re_wI, re_wL, re_wC, ite_true, ite_false, not_true_eq_false, not_false_eq_true, lq_ge, lq_le, lq_gt, lq_lt, lq_eq, jI_lt, jI_le, jI_eq, if_pos, if_neg, e1, a2, nn, e2]
    · by_cases cz : z = j
      · rw [cz, m3.1 _ _ (by omega), fd_wI_same b2'.1 b2'.2]
      · exact m2 z (by omega) h2
set_option maxHeartbeats 8000000 in
theorem C_nn (hu : mm_isT u) (m8 : st.1.length < 8) (hn : (nmT b E p gl).1 = 0) (S : CS g b E p gl) (e10 : fd g (u + 1) 10 = (st.1.length : Nat)) : ∃ g', mm_M mm_T0 (d + 3) 137 [.ref u, .ref 3] g = some (none, g') ∧ (∀ z, z < 6 → fd g' (u + 16) (6 * st.1.length + z) = (nmT b E p gl).2.2.getD z 0) ∧ Kf (fun a x => a = u + 16 ∧ 6 * st.1.length ≤ x ∧ x < 6 * st.1.length + 6) nL g g' := by
  obtain ⟨g', m1, m2, m3⟩ := C_nn_13 (d := d) (m := st.1.length) hu m8 hn 6 0 g (by omega) S
  rw [show ((0 : Nat) : Int) = 0 from rfl] at m1
  have e1 : ((st.1.length : Nat) : Int) * 6 = ((6 * st.1.length : Nat) : Int) := by omega
  refine ⟨g', ?_, fun z hz => m2 z (by omega) hz, m3.monoQ (fun a x q => by omega)⟩
  rw [← m1, U_X10_nameNext hu]
  simp (disch := omega) only [iI_lit, jI_lit, iI_neg, jI_neg, iI_add, iI_sub, iI_mul, jI_add, jI_sub, jI_mul, rdI, rdL, iI_lt, iI_le, iI_eq, iI_nat, iI_b2_0, iI_b2_1, mm_bI_some, mm_bV_some, mm_bL_some, mm_bA_some, fd_wL, fd_wR, fl_wI, fl_wR, re_wI, re_wL, re_wC, ite_true, ite_false, not_true_eq_false, not_false_eq_true, lq_ge, lq_le, lq_gt, lq_lt, lq_eq, jI_lt, jI_le, jI_eq, if_pos, if_neg, e10, e1]
set_option maxHeartbeats 8000000 in
/-- somebody moves in: thoughts of each other -/
theorem C_mv_71 {s m : Nat} (hs : mm_isS s) (m8 : m < 8) : ∀ (k j : Nat) (g : mm_H), j + k = m → fd g s 10 = ((m + 1 : Nat) : Int) → ∃ g', mm_D (mm_M mm_T0 (d + 3)) cd_X7_moveIn 71 [.ref s, .null, .null, .null, .int (iI (m : Nat)), .int (iI (j : Nat))] [] g = some (none, g') ∧ (∀ z, j ≤ z → z < m → fd g' (s + 6) (8 * m + z) = 5 ∧ fd g' (s + 6) (8 * z + m) = 5) ∧ Kf (fun a x => a = s + 6 ∧ ∃ z, j ≤ z ∧ z < m ∧ (x = 8 * m + z ∨ x = 8 * z + m)) nL g g'
  | 0, j, g, hj, e10 => by
    refine ⟨g, ?_, fun z h1 h2 => by omega, Kf.refl⟩
    rw [U_X7_moveIn_71 hs]
    simp (disch := omega) only [iI_lit, jI_lit, iI_neg, jI_neg, iI_add, iI_sub, iI_mul, jI_add, jI_sub, jI_mul, rdI, rdL, iI_lt, iI_le, iI_eq, iI_nat, iI_b2_0, iI_b2_1, mm_bI_some, mm_bV_some, mm_bL_some, mm_bA_some, fd_wL, fd_wR, fl_wI, fl_wR, re_wI, re_wL, re_wC, ite_true, ite_false, not_true_eq_false, not_false_eq_true, lq_ge, lq_le, lq_gt, lq_lt, lq_eq, jI_lt, jI_le, jI_eq, if_pos, if_neg]
  | k + 1, j, g, hj, e10 => by
    have t1 := S_setThought (d := d) (h := g) (p := (m : Nat)) (q := (j : Nat)) (x := 5) hs (by omega) (by omega) (by omega) (by omega)
    rw [if_pos (by omega), show ((m : Int) * 8 + (j : Nat)).toNat = 8 * m + j by omega] at t1
    have f10 : fd (wI g (s + 6) (8 * m + j) (iI 5)) s 10 = ((m + 1 : Nat) : Int) := (fd_wI_row (by omega)).trans e10
    have t2 := S_setThought (d := d) (h := wI g (s + 6) (8 * m + j) (iI 5)) (p := (j : Nat)) (q := (m : Nat)) (x := 5) hs (by omega) (by omega) (by omega) (by omega)
    rw [if_pos (by omega), show ((j : Int) * 8 + (m : Nat)).toNat = 8 * j + m by omega] at t2
    have kw : Kf (fun a x => a = s + 6 ∧ ∃ z, j ≤ z ∧ z < m ∧ (x = 8 * m + z ∨ x = 8 * z + m)) nL g (wI (wI g (s + 6) (8 * m + j) (iI 5)) (s + 6) (8 * j + m) (iI 5)) := (Kf.refl.wI ⟨rfl, j, by omega, by omega, Or.inl rfl⟩).wI ⟨rfl, j, by omega, by omega, Or.inr rfl⟩
    have e2 : (j : Int) + 1 = ((j + 1 : Nat) : Int) := by omega
    obtain ⟨g', m1, m2, m3⟩ := C_mv_71 hs m8 k (j + 1) (wI (wI g (s + 6) (8 * m + j) (iI 5)) (s + 6) (8 * j + m) (iI 5)) (by omega) (by rw [fd_wI_row (by omega)]; exact f10)
    refine ⟨g', ?_, fun z h1 h2 => ?_, kw.trans (m3.monoQ (fun a x q => by obtain ⟨q1, z, q2, q3, q4⟩ := q; exact ⟨q1, z, by omega, q3, q4⟩))⟩
    · rw [← m1, U_X7_moveIn_71 hs]
      simp (disch := omega) only [iI_lit, jI_lit, iI_neg, jI_neg, iI_add, iI_sub, iI_mul, jI_add, jI_sub, jI_mul, rdI, rdL, iI_lt, iI_le, iI_eq, iI_nat, iI_b2_0, iI_b2_1, mm_bI_some, mm_bV_some, mm_bL_some, mm_bA_some, fd_wL, fd_wR, fl_wI, fl_wR, re_wI, re_wL, re_wC, ite_true, ite_false, not_true_eq_false, not_false_eq_true, lq_ge, lq_le, lq_gt, lq_lt, lq_eq, jI_lt, jI_le, jI_eq, if_pos, if_neg, t1, t2, e2]
    · by_cases cz : z = j
      · subst cz
        refine ⟨?_, ?_⟩
        · rw [m3.1 _ _ (by rintro ⟨_, y, y1, y2, y3⟩; omega), fd_wI_col (by omega), fd_wI_same (by omega) (by omega)]
        · rw [m3.1 _ _ (by rintro ⟨_, y, y1, y2, y3⟩; omega), fd_wI_same (by omega) (by omega)]
      · exact m2 z (by omega) h2
def QMv (s m : Nat) (hv : Int) : Nat → Nat → Prop := fun a x => (a = s ∧ x = 10) ∨ ((a = s + 1 ∨ a = s + 2 ∨ a = s + 3 ∨ a = s + 4 ∨ a = s + 5) ∧ x = m) ∨ (a = s + 6 ∧ ∃ z, z < m ∧ (x = 8 * m + z ∨ x = 8 * z + m)) ∨ (a = s + 7 ∧ x = hv.toNat)
set_option maxHeartbeats 8000000 in
theorem C_movesIn {s m : Nat} {hv fv kv : Int} (hs : mm_isS s) (m8 : m < 8) (e10 : fd g s 10 = (m : Nat)) (h0 : 0 ≤ hv) (h1 : hv < fd g s 9) (h9 : hv < 9) (f0 : 0 ≤ fv ∧ fv ≤ 9) (k0 : 0 ≤ kv ∧ kv ≤ 9) : ∃ g', mm_M mm_T0 (d + 4) 118 [.ref s, .int (iI hv), .int (iI fv), .int (iI kv)] g = some (none, g') ∧ (fd g' s 10 = ((m + 1 : Nat) : Int) ∧ fd g' (s + 1) m = fv ∧ fd g' (s + 2) m = kv ∧ fd g' (s + 3) m = hv ∧ fd g' (s + 4) m = 10 * fv ∧ fd g' (s + 5) m = 0 ∧ fd g' (s + 7) hv.toNat = (m : Nat)) ∧ (∀ z, z < m → fd g' (s + 6) (8 * m + z) = 5 ∧ fd g' (s + 6) (8 * z + m) = 5) ∧ Kf (QMv s m hv) nL g g' := by
  have nn : ((m : Nat) : Int).toNat = m := by omega
  have e1 : (m : Int) + 1 = ((m + 1 : Nat) : Int) := by omega
  have e2 : fv * 10 = 10 * fv := by omega
  generalize hg1 : wI (wI (wI (wI (wI g s 10 (iI ((m + 1 : Nat) : Int))) (s + 1) m (iI fv)) (s + 2) m (iI kv)) (s + 4) m (iI (10 * fv))) (s + 5) m (iI 0) = g1
  have K1 : Kf (QMv s m hv) nL g g1 := by
    rw [← hg1]
    exact ((((Kf.refl.wI (by unfold QMv; omega)).wI (by unfold QMv; omega)).wI (by unfold QMv; omega)).wI (by unfold QMv; omega)).wI (by unfold QMv; omega)
  have a10 : fd g1 s 10 = ((m + 1 : Nat) : Int) := by rw [← hg1, fd_wI_row (by omega), fd_wI_row (by omega), fd_wI_row (by omega), fd_wI_row (by omega), fd_wI_same (by omega) (by omega)]
  have a1 : fd g1 (s + 1) m = fv := by rw [← hg1, fd_wI_row (by omega), fd_wI_row (by omega), fd_wI_row (by omega), fd_wI_same (by omega) (by omega)]
  have a2 : fd g1 (s + 2) m = kv := by rw [← hg1, fd_wI_row (by omega), fd_wI_row (by omega), fd_wI_same (by omega) (by omega)]
  have a4 : fd g1 (s + 4) m = 10 * fv := by rw [← hg1, fd_wI_row (by omega), fd_wI_same (by omega) (by omega)]
  have a5 : fd g1 (s + 5) m = 0 := by rw [← hg1, fd_wI_same (by omega) (by omega)]
  have a9 : fd g1 s 9 = fd g s 9 := K1.1 _ _ (by unfold QMv; omega)
  have pl := S_place_h (d := d + 1) (h := g1) (p := (m : Nat)) (q := hv) hs (by omega) (by omega) h0 (by omega) h9
  rw [if_pos (by omega), nn] at pl
  generalize hg2 : wI (wI g1 (s + 7) hv.toNat (iI (m : Nat))) (s + 3) m (iI hv) = g2 at pl
  have K2 : Kf (QMv s m hv) nL g1 g2 := by
    rw [← hg2]
    exact (Kf.refl.wI (by unfold QMv; omega)).wI (by unfold QMv; omega)
  have z2 : ∀ a x, a ≠ s + 7 → a ≠ s + 3 → fd g2 a x = fd g1 a x := fun a x q1 q2 => by rw [← hg2, fd_wI_row q2, fd_wI_row q1]
  have b3 : fd g2 (s + 3) m = hv := by rw [← hg2, fd_wI_same (by omega) (by omega)]
  have b7 : fd g2 (s + 7) hv.toNat = (m : Nat) := by rw [← hg2, fd_wI_row (by omega), fd_wI_same (by omega) (by omega)]
  obtain ⟨g3, m1, m2, m3⟩ := C_mv_71 (d := d) hs m8 m 0 g2 (by omega) ((z2 _ _ (by omega) (by omega)).trans a10)
  rw [show ((0 : Nat) : Int) = 0 from rfl] at m1
  have z3 : ∀ a x, a ≠ s + 6 → fd g3 a x = fd g2 a x := fun a x q => m3.1 a x (fun y => q y.1)
  refine ⟨g3, ?_, ⟨?_, ?_, ?_, ?_, ?_, ?_, ?_⟩, fun z hz => m2 z (by omega) hz, K1.trans (K2.trans (m3.monoQ (fun a x q => by obtain ⟨q1, z, q2, q3, q4⟩ := q; exact Or.inr (Or.inr (Or.inl ⟨q1, z, q3, q4⟩)))))⟩
  · rw [← m1, U_X7_moveIn hs]
    simp (disch := omega) only [iI_lit, jI_lit, iI_neg, jI_neg, iI_add, iI_sub, iI_mul, jI_add, jI_sub, jI_mul, rdI, rdL, iI_lt, iI_le, iI_eq, iI_nat, iI_b2_0, iI_b2_1, mm_bI_some, mm_bV_some, mm_bL_some, mm_bA_some, fd_wL, fd_wR, fl_wI, fl_wR, re_wI, re_wL, re_wC, ite_true, ite_false, not_true_eq_false, not_false_eq_true, lq_ge, lq_le, lq_gt, lq_lt, lq_eq, jI_lt, jI_le, jI_eq, if_pos, if_neg, e10, nn, e1, e2, hg1, pl]
  · rw [z3 _ _ (by omega), z2 _ _ (by omega) (by omega)]; exact a10
  · rw [z3 _ _ (by omega), z2 _ _ (by omega) (by omega)]; exact a1
  · rw [z3 _ _ (by omega), z2 _ _ (by omega) (by omega)]; exact a2
  · rw [z3 _ _ (by omega)]; exact b3
  · rw [z3 _ _ (by omega), z2 _ _ (by omega) (by omega)]; exact a4
  · rw [z3 _ _ (by omega), z2 _ _ (by omega) (by omega)]; exact a5
  · rw [z3 _ _ (by omega)]; exact b7
/-- what the class makes of a statement -/
def CSo (b : Nat → Int) (E u : Nat) (hm : Int) (g : mm_H) (X : mm_X) (r : RT2) : Prop := match r with
  | .inl f => ∃ g', X = some (some (.int (iI 0)), g') ∧ fd g' 3 5 = f.1 ∧ fd g' 3 6 = f.2 ∧ KR (QD u) g g'
  | .inr y => ∃ g', X = some (some (.int (iI 1)), g') ∧ CS g' b E y.1 y.2.1 ∧ CTs g' u hm y.2.2 ∧ KR (QD u) g g'
theorem CTs.tk {g' : mm_H} (hu : mm_isT u) (T : CTs g u hm st) (k : Kf QTc nL g g') : CTs g' u hm st := by
  have ut := isT_or hu
  have z : ∀ a j, a ≠ 3 → fd g' a j = fd g a j := fun a j h => k.1 a j (by unfold QTc; omega)
  obtain ⟨t1, t2, t3, t4, t5, t6, t7⟩ := T
  refine ⟨?_, fun i x hx => ?_, fun i j h1 h2 h3 => ?_, fun v hv => ?_, ?_, t6.kf k (by unfold QTc; omega) (by intro j; unfold QTc; omega), fun w hw => ?_⟩
  · rw [z _ _ (by omega), z _ _ (by omega), z _ _ (by omega), z _ _ (by omega)]
    exact t1
  · have := t2 i x hx
    refine ⟨?_, fun k hk => ?_⟩
    · rw [z _ _ (by omega), z _ _ (by omega), z _ _ (by omega), z _ _ (by omega), z _ _ (by omega)]
      exact this.1
    · rw [z _ _ (by omega)]
      exact this.2 k hk
  · rw [z _ _ (by omega)]
    exact t3 i j h1 h2 h3
  · rw [z _ _ (by omega)]
    exact t4 v hv
  · rw [z _ _ (by omega)]
    exact t5
  · rw [z _ _ (by omega), z _ _ (by omega)]
    exact t7 w hw
theorem bdH_KR {k pl : Int} : KR (QD u) g (bdH g k pl) := KR.of (bdH_k (g := g) (k := k) (pl := pl)) (fun a j q => by unfold QD; omega)
theorem tkKR {g' : mm_H} (k : Kf QTc nL g g') : KR (QD u) g g' := KR.of k (fun a j q => by unfold QTc at q; unfold QD; omega)
end CNN
