/-! a question, answered: the reference -/
def CdQ (h : mm_H) : Int → List Int → Prop
  | _, [] => True
  | k, c :: r => fd h 332 k.toNat = c ∧ CdQ h (k + 1) r
theorem CdQ.congr {h h' : mm_H} (e : ∀ k, fd h' 332 k = fd h 332 k) : ∀ {c : List Int} {k : Int}, CdQ h k c → CdQ h' k c
  | [], _, _ => trivial
  | _ :: _, _, p => ⟨(e _).trans p.1, CdQ.congr e p.2⟩
theorem CdQ_of {h : mm_H} : ∀ (c : List Int) (k : Nat), (∀ j v, c[j]? = some v → fd h 332 (k + j) = v) → CdQ h (k : Int) c
  | [], _, _ => trivial
  | x :: r, k, e => by
    refine ⟨?_, ?_⟩
    · have := e 0 x rfl
      rw [show ((k : Nat) : Int).toNat = k by omega]
      exact this
    · rw [show ((k : Nat) : Int) + 1 = ((k + 1 : Nat) : Int) by omega]
      refine CdQ_of r (k + 1) (fun j v hv => ?_)
      have := e (j + 1) v (by simpa using hv)
      rw [show k + (j + 1) = k + 1 + j by omega] at this
      exact this
theorem clp_id {v : Int} (h1 : -1000000 ≤ v) (h2 : v ≤ 1000000) : clp v = v := by
  unfold clp
  rw [if_neg (by omega), if_neg (by omega)]
section ANR
variable {d : Nat} {h : mm_H} {pm hm : Int} {fc kd n : Int → Int} {c : List Int} {kind : Int}
set_option maxHeartbeats 8000000 in
theorem R_partQ {i j : Int} (e54 : fd h 264 54 = 3) (R : RepR h n) (RF : RepF h pm fc kd) (NN : NI pm hm n) (FF : FK pm fc kd) (y0 : 0 ≤ n 0 ∧ n 0 ≤ 999) (i0 : 0 ≤ i) (i1 : i < pm) (hj : alw 3 j = true) (j10 : j ≤ 10) : mm_M mm_T0 (d + 2) 308 [.ref 264, .int (iI j), .int (iI i)] h = some (some (.long (jI (Gq fc kd n i j))), h) := by
  have h8 := NN.1
  have h9 := NN.2.1
  have na := NN.2.2.1 i i0 i1
  have fa := FF i i0 i1
  have rf := RF i i0 i1
  have rf1 := rf.1
  have rf2 := rf.2
  have r1 := R (1 + 3 * i) (by omega) (by omega)
  have r2 := R (2 + 3 * i) (by omega) (by omega)
  have r3 := R (3 + 3 * i) (by omega) (by omega)
  have r0 : fd h 300 0 = n 0 := R 0 (by omega) (by omega)
  have hj3 := alw3 hj
  have hj2 : j = 0 ∨ j = 1 ∨ j = 3 ∨ j = 4 ∨ j = 8 ∨ j = 9 ∨ j = 10 := by omega
  clear hj hj3 rf R RF
  rw [U_X12_qPartOf]
  rcases hj2 with z | z | z | z | z | z | z <;> subst z
  · show _ = (some (some (Value.long (jI (fc i))), h) : mm_X)
    simp (disch := omega) only [iI_lit, jI_lit, iI_neg, jI_neg, iI_add, iI_sub, iI_mul, jI_add, jI_sub, jI_mul, rdI, rdL, iI_lt, iI_le, iI_eq, iI_nat, iI_b2_0, iI_b2_1, mm_bI_some, mm_bV_some, mm_bL_some, mm_bA_some, fd_wL, fd_wR, fl_wI, fl_wR, re_wI, re_wL, re_wC, ite_true, ite_false, not_true_eq_false, not_false_eq_true, lq_ge, lq_le, lq_gt, lq_lt, lq_eq, jI_lt, jI_le, jI_eq, if_pos, if_neg, e54, R_faceOf, rf1, iI_jI]
  · show _ = (some (some (Value.long (jI (kd i))), h) : mm_X)
    simp (disch := omega) only [iI_lit, jI_lit, iI_neg, jI_neg, iI_add, iI_sub, iI_mul, jI_add, jI_sub, jI_mul, rdI, rdL, iI_lt, iI_le, iI_eq, iI_nat, iI_b2_0, iI_b2_1, mm_bI_some, mm_bV_some, mm_bL_some, mm_bA_some, fd_wL, fd_wR, fl_wI, fl_wR, re_wI, re_wL, re_wC, ite_true, ite_false, not_true_eq_false, not_false_eq_true, lq_ge, lq_le, lq_gt, lq_lt, lq_eq, jI_lt, jI_le, jI_eq, if_pos, if_neg, e54, R_kindOf, rf2, iI_jI]
  · show _ = (some (some (Value.long (jI (n 0))), h) : mm_X)
    simp (disch := omega) only [iI_lit, jI_lit, iI_neg, jI_neg, iI_add, iI_sub, iI_mul, jI_add, jI_sub, jI_mul, rdI, rdL, iI_lt, iI_le, iI_eq, iI_nat, iI_b2_0, iI_b2_1, mm_bI_some, mm_bV_some, mm_bL_some, mm_bA_some, fd_wL, fd_wR, fl_wI, fl_wR, re_wI, re_wL, re_wC, ite_true, ite_false, not_true_eq_false, not_false_eq_true, lq_ge, lq_le, lq_gt, lq_lt, lq_eq, jI_lt, jI_le, jI_eq, if_pos, if_neg, r0, iI_jI]
  · show _ = (some (some (Value.long (jI (n (2 + 3 * i)))), h) : mm_X)
    simp (disch := omega) only [iI_lit, jI_lit, iI_neg, jI_neg, iI_add, iI_sub, iI_mul, jI_add, jI_sub, jI_mul, rdI, rdL, iI_lt, iI_le, iI_eq, iI_nat, iI_b2_0, iI_b2_1, mm_bI_some, mm_bV_some, mm_bL_some, mm_bA_some, fd_wL, fd_wR, fl_wI, fl_wR, re_wI, re_wL, re_wC, ite_true, ite_false, not_true_eq_false, not_false_eq_true, lq_ge, lq_le, lq_gt, lq_lt, lq_eq, jI_lt, jI_le, jI_eq, if_pos, if_neg, e54, R_lookOf, r2, iI_jI]
  · show _ = (some (some (Value.long (jI i)), h) : mm_X)
    simp (disch := omega) only [iI_lit, jI_lit, iI_neg, jI_neg, iI_add, iI_sub, iI_mul, jI_add, jI_sub, jI_mul, rdI, rdL, iI_lt, iI_le, iI_eq, iI_nat, iI_b2_0, iI_b2_1, mm_bI_some, mm_bV_some, mm_bL_some, mm_bA_some, fd_wL, fd_wR, fl_wI, fl_wR, re_wI, re_wL, re_wC, ite_true, ite_false, not_true_eq_false, not_false_eq_true, lq_ge, lq_le, lq_gt, lq_lt, lq_eq, jI_lt, jI_le, jI_eq, if_pos, if_neg, iI_jI]
  · show _ = (some (some (Value.long (jI (n (1 + 3 * i)))), h) : mm_X)
    simp (disch := omega) only [iI_lit, jI_lit, iI_neg, jI_neg, iI_add, iI_sub, iI_mul, jI_add, jI_sub, jI_mul, rdI, rdL, iI_lt, iI_le, iI_eq, iI_nat, iI_b2_0, iI_b2_1, mm_bI_some, mm_bV_some, mm_bL_some, mm_bA_some, fd_wL, fd_wR, fl_wI, fl_wR, re_wI, re_wL, re_wC, ite_true, ite_false, not_true_eq_false, not_false_eq_true, lq_ge, lq_le, lq_gt, lq_lt, lq_eq, jI_lt, jI_le, jI_eq, if_pos, if_neg, R_houseOf, r1, iI_jI]
  · show _ = (some (some (Value.long (jI (n (3 + 3 * i)))), h) : mm_X)
    have z : n (3 + 3 * i) = 0 ∨ n (3 + 3 * i) = 1 := by omega
    rcases z with z | z
    · rw [z]
      simp (disch := omega) only [iI_lit, jI_lit, iI_neg, jI_neg, iI_add, iI_sub, iI_mul, jI_add, jI_sub, jI_mul, rdI, rdL, iI_lt, iI_le, iI_eq, iI_nat, iI_b2_0, iI_b2_1, mm_bI_some, mm_bV_some, mm_bL_some, mm_bA_some, fd_wL, fd_wR, fl_wI, fl_wR, re_wI, re_wL, re_wC, ite_true, ite_false, not_true_eq_false, not_false_eq_true, lq_ge, lq_le, lq_gt, lq_lt, lq_eq, jI_lt, jI_le, jI_eq, if_pos, if_neg, R_doesSpare, r3, z]
    · rw [z]
      simp (disch := omega) only [iI_lit, jI_lit, iI_neg, jI_neg, iI_add, iI_sub, iI_mul, jI_add, jI_sub, jI_mul, rdI, rdL, iI_lt, iI_le, iI_eq, iI_nat, iI_b2_0, iI_b2_1, mm_bI_some, mm_bV_some, mm_bL_some, mm_bA_some, fd_wL, fd_wR, fl_wI, fl_wR, re_wI, re_wL, re_wC, ite_true, ite_false, not_true_eq_false, not_false_eq_true, lq_ge, lq_le, lq_gt, lq_lt, lq_eq, jI_lt, jI_le, jI_eq, if_pos, if_neg, R_doesSpare, r3, z]
set_option maxHeartbeats 8000000 in
theorem R_ofQ {i w x : Int} (e40 : fd h 264 40 = pm) (R : RepR h n) (NN : NI pm hm n) (i0 : 0 ≤ i) (i1 : i < pm) (hw : w = 0 ∨ w = 1) (x1 : -1000000 ≤ x) (x2 : x ≤ 1000000) : mm_M mm_T0 (d + 4) 309 [.ref 264, .int (iI w), .long (jI x), .int (iI i)] h = some (some (.long (jI (Oq n pm i w x))), h) := by
  have h8 := NN.1
  have io := R_isOther (d := d) (h := h) (p := x) (q := i) (by omega) (by omega) (by omega) (by omega) (by omega)
  rw [e40] at io
  rw [U_X12_qOf]
  unfold Oq
  by_cases q : (0 ≤ x ∧ x < pm) ∧ x ≠ i
  · rw [b2_t (show (0 ≤ x ∧ x ≤ pm - 1) ∧ x ≠ i from ⟨⟨q.1.1, by omega⟩, q.2⟩)] at io
    have q1 := q.1
    rw [if_pos q]
    rcases hw with z | z <;> subst z
    · have r := R (25 + 8 * i + x) (by omega) (by omega)
      have nb := NN.2.2.2.1 i x i0 i1 q.1.1 q.1.2 (fun z => q.2 z.symm)
      rw [if_pos rfl]
      simp (disch := omega) only [iI_lit, jI_lit, iI_neg, jI_neg, iI_add, iI_sub, iI_mul, jI_add, jI_sub, jI_mul, rdI, rdL, iI_lt, iI_le, iI_eq, iI_nat, iI_b2_0, iI_b2_1, mm_bI_some, mm_bV_some, mm_bL_some, mm_bA_some, fd_wL, fd_wR, fl_wI, fl_wR, re_wI, re_wL, re_wC, ite_true, ite_false, not_true_eq_false, not_false_eq_true, lq_ge, lq_le, lq_gt, lq_lt, lq_eq, jI_lt, jI_le, jI_eq, if_pos, if_neg, io, jI_iI, R_thoughtOf, r, iI_jI]
    · have r := R (25 + 8 * x + i) (by omega) (by omega)
      have nb := NN.2.2.2.1 x i q.1.1 q.1.2 i0 i1 q.2
      rw [if_neg (by decide)]
      simp (disch := omega) only [iI_lit, jI_lit, iI_neg, jI_neg, iI_add, iI_sub, iI_mul, jI_add, jI_sub, jI_mul, rdI, rdL, iI_lt, iI_le, iI_eq, iI_nat, iI_b2_0, iI_b2_1, mm_bI_some, mm_bV_some, mm_bL_some, mm_bA_some, fd_wL, fd_wR, fl_wI, fl_wR, re_wI, re_wL, re_wC, ite_true, ite_false, not_true_eq_false, not_false_eq_true, lq_ge, lq_le, lq_gt, lq_lt, lq_eq, jI_lt, jI_le, jI_eq, if_pos, if_neg, io, jI_iI, R_thoughtOf, r, iI_jI]
  · rw [b2_f (fun y => q ⟨⟨y.1.1, by have := y.1.2; omega⟩, y.2⟩)] at io
    rw [if_neg q]
    rcases hw with z | z <;> subst z
    · simp (disch := omega) only [iI_lit, jI_lit, iI_neg, jI_neg, iI_add, iI_sub, iI_mul, jI_add, jI_sub, jI_mul, rdI, rdL, iI_lt, iI_le, iI_eq, iI_nat, iI_b2_0, iI_b2_1, mm_bI_some, mm_bV_some, mm_bL_some, mm_bA_some, fd_wL, fd_wR, fl_wI, fl_wR, re_wI, re_wL, re_wC, ite_true, ite_false, not_true_eq_false, not_false_eq_true, lq_ge, lq_le, lq_gt, lq_lt, lq_eq, jI_lt, jI_le, jI_eq, if_pos, if_neg, io]
    · simp (disch := omega) only [iI_lit, jI_lit, iI_neg, jI_neg, iI_add, iI_sub, iI_mul, jI_add, jI_sub, jI_mul, rdI, rdL, iI_lt, iI_le, iI_eq, iI_nat, iI_b2_0, iI_b2_1, mm_bI_some, mm_bV_some, mm_bL_some, mm_bA_some, fd_wL, fd_wR, fl_wI, fl_wR, re_wI, re_wL, re_wC, ite_true, ite_false, not_true_eq_false, not_false_eq_true, lq_ge, lq_le, lq_gt, lq_lt, lq_eq, jI_lt, jI_le, jI_eq, if_pos, if_neg, io]
set_option maxHeartbeats 8000000 in
theorem R_qt_7 {e i : Int} {h0 : mm_H} (he : e ≤ 1600) {al : Int → Bool} {G : Int → Int} {O : Int → Int → Int} (hG : ∀ k, al k = true → -1000000 ≤ G k ∧ G k ≤ 1000000) (hO : ∀ k x, -1000000 ≤ O k x ∧ O k x ≤ 1000000) (hP : ∀ x, Kf QE LE3 h0 x → ∀ j, al j = true → 0 ≤ j → j ≤ 10 → mm_M mm_T0 (d + 4) 308 [.ref 264, .int (iI j), .int (iI i)] x = some (some (.long (jI (G j))), x)) (hQ : ∀ x, Kf QE LE3 h0 x → ∀ w y, (w = 0 ∨ w = 1) → -1000000 ≤ y → y ≤ 1000000 → mm_M mm_T0 (d + 4) 309 [.ref 264, .int (iI w), .long (jI y), .int (iI i)] x = some (some (.long (jI (O w y))), x)) {t : List Bool} : ∀ (c : List Int) (k : Int) (ts : List Bool) (st : List Int) (h : mm_H), Kf QE LE3 h0 h → CdQ h k c → 0 ≤ k → k + c.length = e → fd h 264 102 = e → tyL al c ts = some t → ts.length ≤ 64 → Vt ts st → ER h st → ∃ h', mm_D (mm_M mm_T0 (d + 4)) cd_X12_qTold 7 [.ref 264, .int (iI i), .int (iI k), .null] [] h = some (some (.long (jI (fl h' 334 0))), h') ∧ ER h' (ev G O c st) ∧ Kf QE LE3 h h' := by
  intro c
  induction c with
  | nil =>
    intro k ts st h _ _ k1 k2 h1 hT h64 hV hE
    simp only [List.length_nil] at k2
    refine ⟨h, ?_, hE, Kf.refl⟩
    rw [U_X12_qTold_7]
    simp (disch := omega) only [iI_lit, jI_lit, iI_neg, jI_neg, iI_add, iI_sub, iI_mul, jI_add, jI_sub, jI_mul, rdI, rdL, iI_lt, iI_le, iI_eq, iI_nat, iI_b2_0, iI_b2_1, mm_bI_some, mm_bV_some, mm_bL_some, mm_bA_some, fd_wL, fd_wR, fl_wI, fl_wR, re_wI, re_wL, re_wC, ite_true, ite_false, not_true_eq_false, not_false_eq_true, lq_ge, lq_le, lq_gt, lq_lt, lq_eq, jI_lt, jI_le, jI_eq, if_pos, if_neg, h1]
  | cons c r ih =>
    intro k ts st h h0k hC k1 k2 h1 hT h64 hV hE
    simp only [List.length_cons] at k2
    have hc := hC.1
    unfold tyL at hT
    cases hu : ty1 al c ts with
    | none => rw [hu] at hT; cases hT
    | some u =>
      rw [hu] at hT
      have hT : tyL al r u = some t := hT
      have hlen := hV.len
      have hV2 : Vt u (ev1 G O c st) := ev1_b hG hO hu hV
      have go : ∀ h2', ER h2' (ev1 G O c st) → Kf QE LE3 h h2' → ∃ h', mm_D (mm_M mm_T0 (d + 4)) cd_X12_qTold 7 [.ref 264, .int (iI i), .int (iI (k + 1)), .null] [] h2' = some (some (.long (jI (fl h' 334 0))), h') ∧ ER h' (ev G O (c :: r) st) ∧ Kf QE LE3 h h' := by
        intro g hE2 hK
        obtain ⟨h', m1, m2, m3⟩ := ih (k + 1) u _ g (h0k.trans hK) (hC.2.congr (fun j => hK.1 332 j (by unfold QE; omega))) (by omega) (by omega) ((hK.1 264 102 (by unfold QE; omega)).trans h1) hT (ty1_len hu h64) hV2 hE2
        exact ⟨h', m1, m2, hK.trans m3⟩
      rw [U_X12_qTold_7]
      rcases ty1_cases hu with q | q | q | q | q | q | q
      · obtain ⟨q1, q2, q3, q4⟩ := q
        obtain ⟨g, m1, m2, m3⟩ := R_put (d := d + 3) (x := c - 1000) hE (by omega) (by omega) (by omega)
        simp (disch := omega) only [iI_lit, jI_lit, iI_neg, jI_neg, iI_add, iI_sub, iI_mul, jI_add, jI_sub, jI_mul, rdI, rdL, iI_lt, iI_le, iI_eq, iI_nat, iI_b2_0, iI_b2_1, mm_bI_some, mm_bV_some, mm_bL_some, mm_bA_some, fd_wL, fd_wR, fl_wI, fl_wR, re_wI, re_wL, re_wC, ite_true, ite_false, not_true_eq_false, not_false_eq_true, lq_ge, lq_le, lq_gt, lq_lt, lq_eq, jI_lt, jI_le, jI_eq, if_pos, if_neg, h1, hc, iI_jI, m1]
        exact go g (by unfold ev1; rw [if_pos q1]; exact m2) m3
      · obtain ⟨q1, q2, q3, z, q4, q5⟩ := q
        subst q4
        obtain ⟨x, y, rfl, v1, v2⟩ := hV.c1
        unfold vk at v1
        have e1 : fd h 264 108 = (y.length : Int) + 1 := by
          rw [hE.1]
          simp
        have t1 : ((y.length : Int) + 1 - 1).toNat = y.length := by omega
        have ex : fl h 334 y.length = x := hE.2.1
        simp only [List.length_cons] at hlen h64
        have hw : c - 60 = 0 ∨ c - 60 = 1 := by omega
        have mo := hQ h h0k (c - 60) x hw v1.1 v1.2.1
        have ob := hO (c - 60) x
        have mc := R_qClip (d := d + 3) (h := h) (x := O (c - 60) x) (by omega) (by omega)
        rw [clp_id ob.1 ob.2] at mc
        simp (disch := omega) only [iI_lit, jI_lit, iI_neg, jI_neg, iI_add, iI_sub, iI_mul, jI_add, jI_sub, jI_mul, rdI, rdL, iI_lt, iI_le, iI_eq, iI_nat, iI_b2_0, iI_b2_1, mm_bI_some, mm_bV_some, mm_bL_some, mm_bA_some, fd_wL, fd_wR, fl_wI, fl_wR, re_wI, re_wL, re_wC, ite_true, ite_false, not_true_eq_false, not_false_eq_true, lq_ge, lq_le, lq_gt, lq_lt, lq_eq, jI_lt, jI_le, jI_eq, if_pos, if_neg, h1, hc, e1, t1, ex, mo, mc]
        refine go _ ?_ (Kf.wL Kf.refl rfl)
        unfold ev1
        rw [if_neg (by omega), if_pos q1]
        refine ⟨?_, ?_, ?_⟩
        · rw [fd_wL, hE.1]
          simp
        · show fl (wL h 334 y.length (jI (O (c - 60) x))) 334 y.length = O (c - 60) x
          rw [fl_wL, if_pos ⟨rfl, rfl⟩, jI_to (by omega) (by omega)]
        · show PR _ y
          exact hE.2.2.congr (fun j hj => by rw [fl_wL, if_neg (by omega)])
      · obtain ⟨q1, q2, q3, q4, q5⟩ := q
        have a2 := hG _ q3
        obtain ⟨g, m1, m2, m3⟩ := R_put (d := d + 3) (x := G (c - 40)) hE (by omega) (by omega) (by omega)
        have mp := hP h h0k (c - 40) q3 (by omega) (by omega)
        have mc := R_qClip (d := d + 3) (h := h) (x := G (c - 40)) (by omega) (by omega)
        rw [clp_id a2.1 a2.2] at mc
        simp (disch := omega) only [iI_lit, jI_lit, iI_neg, jI_neg, iI_add, iI_sub, iI_mul, jI_add, jI_sub, jI_mul, rdI, rdL, iI_lt, iI_le, iI_eq, iI_nat, iI_b2_0, iI_b2_1, mm_bI_some, mm_bV_some, mm_bL_some, mm_bA_some, fd_wL, fd_wR, fl_wI, fl_wR, re_wI, re_wL, re_wC, ite_true, ite_false, not_true_eq_false, not_false_eq_true, lq_ge, lq_le, lq_gt, lq_lt, lq_eq, jI_lt, jI_le, jI_eq, if_pos, if_neg, h1, hc, mp, mc, m1]
        exact go g (by unfold ev1; rw [if_neg (by omega), if_neg (by omega), if_pos q1]; exact m2) m3
      · obtain ⟨q1, q2, q3⟩ := q
        obtain ⟨g, m1, m2, m3⟩ := R_put (d := d + 3) (x := 1) hE (by omega) (by omega) (by omega)
        simp (disch := omega) only [iI_lit, jI_lit, iI_neg, jI_neg, iI_add, iI_sub, iI_mul, jI_add, jI_sub, jI_mul, rdI, rdL, iI_lt, iI_le, iI_eq, iI_nat, iI_b2_0, iI_b2_1, mm_bI_some, mm_bV_some, mm_bL_some, mm_bA_some, fd_wL, fd_wR, fl_wI, fl_wR, re_wI, re_wL, re_wC, ite_true, ite_false, not_true_eq_false, not_false_eq_true, lq_ge, lq_le, lq_gt, lq_lt, lq_eq, jI_lt, jI_le, jI_eq, if_pos, if_neg, h1, hc, m1]
        exact go g (by unfold ev1; rw [if_neg (by omega), if_neg (by omega), if_neg (by omega), if_pos q1]; exact m2) m3
      · obtain ⟨q1, z, q2, q3⟩ := q
        subst q2
        obtain ⟨x, y, rfl, v1, v2⟩ := hV.c1
        have e1 : fd h 264 108 = (y.length : Int) + 1 := by
          rw [hE.1]
          simp
        have t1 : ((y.length : Int) + 1 - 1).toNat = y.length := by omega
        have ex : fl h 334 y.length = x := hE.2.1
        unfold vk at v1
        simp only [List.length_cons] at hlen h64
        simp (disch := omega) only [iI_lit, jI_lit, iI_neg, jI_neg, iI_add, iI_sub, iI_mul, jI_add, jI_sub, jI_mul, rdI, rdL, iI_lt, iI_le, iI_eq, iI_nat, iI_b2_0, iI_b2_1, mm_bI_some, mm_bV_some, mm_bL_some, mm_bA_some, fd_wL, fd_wR, fl_wI, fl_wR, re_wI, re_wL, re_wC, ite_true, ite_false, not_true_eq_false, not_false_eq_true, lq_ge, lq_le, lq_gt, lq_lt, lq_eq, jI_lt, jI_le, jI_eq, if_pos, if_neg, h1, hc, e1, t1, ex]
        refine go _ ?_ (Kf.wL Kf.refl rfl)
        unfold ev1
        rw [if_neg (by omega), if_neg (by omega), if_neg (by omega), if_neg (by omega), if_pos q1]
        refine ⟨?_, ?_, ?_⟩
        · rw [fd_wL, hE.1]
          simp
        · show fl (wL h 334 y.length (jI (1 - x))) 334 y.length = 1 - x
          rw [fl_wL, if_pos ⟨rfl, rfl⟩, jI_to (by omega) (by omega)]
        · show PR _ y
          exact hE.2.2.congr (fun j hj => by rw [fl_wL, if_neg (by omega)])
      · obtain ⟨q1, z, q2, q3⟩ := q
        subst q2
        obtain ⟨b, y, rfl, v1, v2⟩ := hV.c1
        obtain ⟨a, y, rfl, v3, v4⟩ := v2.c1
        unfold vk at v1 v3
        simp only [List.length_cons] at hlen h64
        obtain ⟨g, m1, m2, m3⟩ := R_join (d := d + 2) (c := c) hE (by omega) (by omega) (by omega) v3.1 v3.2.1 v1.1 v1.2.1
        simp (disch := omega) only [iI_lit, jI_lit, iI_neg, jI_neg, iI_add, iI_sub, iI_mul, jI_add, jI_sub, jI_mul, rdI, rdL, iI_lt, iI_le, iI_eq, iI_nat, iI_b2_0, iI_b2_1, mm_bI_some, mm_bV_some, mm_bL_some, mm_bA_some, fd_wL, fd_wR, fl_wI, fl_wR, re_wI, re_wL, re_wC, ite_true, ite_false, not_true_eq_false, not_false_eq_true, lq_ge, lq_le, lq_gt, lq_lt, lq_eq, jI_lt, jI_le, jI_eq, if_pos, if_neg, h1, hc, m1]
        exact go g (by unfold ev1; rw [if_neg (by omega), if_neg (by omega), if_neg (by omega), if_neg (by omega), if_neg (by omega)]; exact m2) m3
      · obtain ⟨q0, q1, z, q2, q3⟩ := q
        subst q2
        obtain ⟨b, y, rfl, v1, v2⟩ := hV.c1
        obtain ⟨a, y, rfl, v3, v4⟩ := v2.c1
        unfold vk at v1 v3
        simp only [List.length_cons] at hlen h64
        obtain ⟨g, m1, m2, m3⟩ := R_join (d := d + 2) (c := c) hE (by omega) (by omega) (by omega) v3.1 v3.2.1 v1.1 v1.2.1
        simp (disch := omega) only [iI_lit, jI_lit, iI_neg, jI_neg, iI_add, iI_sub, iI_mul, jI_add, jI_sub, jI_mul, rdI, rdL, iI_lt, iI_le, iI_eq, iI_nat, iI_b2_0, iI_b2_1, mm_bI_some, mm_bV_some, mm_bL_some, mm_bA_some, fd_wL, fd_wR, fl_wI, fl_wR, re_wI, re_wL, re_wC, ite_true, ite_false, not_true_eq_false, not_false_eq_true, lq_ge, lq_le, lq_gt, lq_lt, lq_eq, jI_lt, jI_le, jI_eq, if_pos, if_neg, h1, hc, m1]
        exact go g (by unfold ev1; rw [if_neg (by omega), if_neg (by omega), if_neg (by omega), if_neg (by omega), if_neg (by omega)]; exact m2) m3
set_option maxHeartbeats 8000000 in
theorem R_worth {b : Bool} {i : Int} (e54 : fd h 264 54 = 3) (e40 : fd h 264 40 = pm) (e102 : fd h 264 102 = (c.length : Nat)) (Q : CdQ h 0 c) (hl : c.length ≤ 1600) (hT : tyL (alw 3) c [] = some [b]) (R : RepR h n) (RF : RepF h pm fc kd) (NN : NI pm hm n) (FF : FK pm fc kd) (y0 : 0 ≤ n 0 ∧ n 0 ≤ 999) (i0 : 0 ≤ i) (i1 : i < pm) : ∃ h', mm_M mm_T0 (d + 5) 310 [.ref 264, .int (iI i)] h = some (some (.long (jI (evv (Gq fc kd n i) (Oq n pm i) c))), h') ∧ Kf QE LE3 h h' := by
  have kw : Kf QE LE3 h (wI h 264 108 (iI 0)) := Kf.refl.wI ⟨rfl, rfl⟩
  have hP : ∀ x, Kf QE LE3 h x → ∀ j, alw 3 j = true → 0 ≤ j → j ≤ 10 → mm_M mm_T0 (d + 4) 308 [.ref 264, .int (iI j), .int (iI i)] x = some (some (.long (jI (Gq fc kd n i j))), x) := by
    intro x k j a1 a2 a3
    exact R_partQ (d := d + 2) (pm := pm) ((k.1 _ _ (by unfold QE; omega)).trans e54) (fun z z1 z2 => (k.1 300 _ (by unfold QE; omega)).trans (R z z1 z2)) (fun p p1 p2 => ⟨(k.1 294 _ (by unfold QE; omega)).trans (RF p p1 p2).1, (k.1 295 _ (by unfold QE; omega)).trans (RF p p1 p2).2⟩) NN FF y0 i0 i1 a1 a3
  have hQ : ∀ x, Kf QE LE3 h x → ∀ w y, (w = 0 ∨ w = 1) → -1000000 ≤ y → y ≤ 1000000 → mm_M mm_T0 (d + 4) 309 [.ref 264, .int (iI w), .long (jI y), .int (iI i)] x = some (some (.long (jI (Oq n pm i w y))), x) := by
    intro x k w y hw y1 y2
    exact R_ofQ (d := d) ((k.1 _ _ (by unfold QE; omega)).trans e40) (fun z z1 z2 => (k.1 300 _ (by unfold QE; omega)).trans (R z z1 z2)) NN i0 i1 hw y1 y2
  obtain ⟨h', m1, m2, m3⟩ := R_qt_7 (d := d) (e := (c.length : Nat)) (i := i) (h0 := h) (by omega) (Gq_b NN FF y0 i0 i1) (Oq_b NN i0 i1) hP hQ c 0 [] [] (wI h 264 108 (iI 0)) kw (Q.congr (fun k => fd_wI_row (by omega))) (by omega) (by omega) ((fd_wI_col (by omega)).trans e102) hT (by simp) trivial ⟨fd_wI_same (by omega) (by omega), trivial⟩
  have v := ev_b (Gq_b NN FF y0 i0 i1) (Oq_b NN i0 i1) (st := []) hT trivial
  obtain ⟨x, r, ex, v1, v2⟩ := v.c1
  rw [ex] at m2
  have vr : r = [] := by
    cases r with
    | nil => rfl
    | cons y z => exact v2.elim
  subst vr
  have e0 : fl h' 334 0 = evv (Gq fc kd n i) (Oq n pm i) c := by
    unfold evv
    rw [ex]
    exact m2.2.1
  rw [e0] at m1
  refine ⟨h', ?_, kw.trans m3⟩
  rw [U_X12_qTold, ← m1]
  simp only [iI_lit]
end ANR
