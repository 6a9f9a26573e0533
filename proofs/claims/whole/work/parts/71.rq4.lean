/-! min and max; brackets' ends -/
section RPR
variable {d : Nat} {x : Int32} {g : mm_H} {b : Nat → Int} {E p : Nat} {gl : Bool} {w : Int} {T U C : List Int} {o : Nat}
/-- behind the word min or max: what the reference does with the bracket -/
noncomputable def kPr (d : Nat) (v : Int) (g : mm_H) : mm_X := mm_bI (mm_M mm_T0 (d + 5) 194 [.ref 264] g) (fun v40 h39 => if ¬ v40 = 40 then (mm_bV (mm_M mm_T0 (d + 5) 199 [.ref 264, .int 40] h39) (fun h41 => sPT d h41)) else (if (h39.1 264 2) = ((-1)) then (mm_bV (mm_M mm_T0 (d + 5) 199 [.ref 264, .int 40] h39) (fun h42 => sPT d h42)) else (mm_bV (mm_M mm_T0 (d + 5) 286 [.ref 264, .int (iI v), .int (h39.1 264 2)] h39) (fun h43 => mm_bV (mm_M mm_T0 (d + 5) 199 [.ref 264, .int 40] h43) (fun h44 => sPT d h44)))))
theorem ME_pair0 (w0 : 0 ≤ w) (w3 : w ≤ 3) (S : ST g b E p gl w T U C o) (hw : wno b E p gl = 23 ∨ wno b E p gl = 24) : ∃ g2, sPT d g = kPr d (if wno b E p gl = 23 then 21 else 22) g2 ∧ RS g2 b E (tL b E (tS b E p)) true ∧ Kf QTk nL g g2 := by
  have h5 := S.1.2.2.1
  have l := S.len
  have ww := wno_w (b := b) (E := E) (p := p) (gl := gl) (by omega)
  have il := isLt_iff.mp ww.1
  obtain ⟨g1, l1, R1, l2, l3⟩ := R_look (d := d + 4) S.1
  have S1 := S.tk R1 l3 (Nat.le_refl _)
  have wo := R_wordOf (d := d + 1) (lo := 11) (hi := 13) R1 l2 S1.2.2.1 w0 w3 (by omega) (by omega) (by omega) (by omega)
  have q1 := R_hereA (d := d + 3) (a := 317) (k := 23) (by unfold isW; omega) (by omega) rfl R1 l2
  have q2 := R_hereA (d := d + 3) (a := 318) (k := 24) (by unfold isW; omega) (by omega) rfl R1 l2
  have tk := R_takesA (d := d + 2) (a := 317) (k := 23) (by unfold isW; omega) (by omega) rfl R1
  generalize wOf w (wno b E p gl) 11 13 = wv at *
  have n40 : (iI (tB b E p) = iI 40) = False := by
    clear tk
    exact iI_ne (by omega) (by omega) (by omega) (by omega) (by omega)
  by_cases c : wno b E p gl = 23
  · rw [if_pos c]
    rw [b2_t c] at q1
    obtain ⟨g2, t1, R2, k2⟩ := tk.1 c
    refine ⟨g2, ?_, R2, l3.trans k2⟩
    unfold sPT
    rw [U_X12_qPartTold_2]
    unfold kPr sPT
    (try simp only [iI_lit, iI_neg]) <;> simp (maxSteps := 1000000) (disch := decide) only [iI_lit, iI_neg, iI_add, mm_bI_some, mm_bV_some, mm_bL_some, ↓reduceIte, i10, i00, i11, eq_self, not_true_eq_false, not_false_eq_true, ite_true, ite_false, if_true, if_false, and_true, true_and, and_false, false_and, and_self, or_self, or_false, false_or, or_true, true_or, iI_eq, iI_lt, iI_le, Int.reduceEq, Int.reduceLT, Int.reduceLE, rdE h5, ↓bI_eq l1, n40, ↓bI_eq wo, ↓bI_eq q1, ↓bI_eq t1]
  · have c2 : wno b E p gl = 24 := hw.resolve_left c
    rw [if_neg c]
    rw [b2_f c] at q1
    rw [b2_t c2] at q2
    obtain ⟨g2, t1, R2, t2, k2⟩ := tk.2 c
    obtain ⟨g3, u1, R3, k3⟩ := R_asksA (d := d + 1) (a := 318) (k := 24) (by unfold isW; omega) (by omega) rfl R2 c2
    refine ⟨g3, ?_, R3, l3.trans (k2.trans k3)⟩
    unfold sPT
    rw [U_X12_qPartTold_2]
    unfold kPr sPT
    (try simp only [iI_lit, iI_neg]) <;> simp (maxSteps := 1000000) (disch := decide) only [iI_lit, iI_neg, iI_add, mm_bI_some, mm_bV_some, mm_bL_some, ↓reduceIte, i10, i00, i11, eq_self, not_true_eq_false, not_false_eq_true, ite_true, ite_false, if_true, if_false, and_true, true_and, and_false, false_and, and_self, or_self, or_false, false_or, or_true, true_or, iI_eq, iI_lt, iI_le, Int.reduceEq, Int.reduceLT, Int.reduceLE, rdE h5, ↓bI_eq l1, n40, ↓bI_eq wo, ↓bI_eq q1, ↓bI_eq q2, ↓bI_eq t1, ↓bV_eq u1]
theorem ME_pair (w0 : 0 ≤ w) (w3 : w ≤ 3) (S : ST g b E p gl w T U C o) (ho : o ≤ 6) (hw : wno b E p gl = 23 ∨ wno b E p gl = 24) : (tB b E (tL b E (tS b E p)) = 40 → o < 6 → ∃ g', ME d x g = ME d x g' ∧ ST g' b E (tS b E (tL b E (tS b E p)) + 1) false w ((if wno b E p gl = 23 then 21 else 22) :: T) U C (o + 1) ∧ Kf QQ nL g g') ∧ (tB b E (tL b E (tS b E p)) = 40 → ¬ o < 6 → BadO x g (ME d x g) (4, (tS b E (tL b E (tS b E p)) : Int))) ∧ (tB b E (tL b E (tS b E p)) ≠ 40 → BadO x g (ME d x g) (1, (tS b E (tL b E (tS b E p)) : Int))) := by
  have l := S.len
  have ge := tS_ge (b := b) (E := E) (p := p)
  have ww := wno_w (b := b) (E := E) (p := p) (gl := gl) (by omega)
  have tl := tL_in ww.1
  obtain ⟨g2, m0, R2, k2⟩ := ME_pair0 (d := d) w0 w3 S hw
  have S2 := S.tk R2 k2 (by omega)
  have v20 : (if wno b E p gl = 23 then (21 : Int) else 22) = 21 ∨ (if wno b E p gl = 23 then (21 : Int) else 22) = 22 := by
    split
    · exact Or.inl rfl
    · exact Or.inr rfl
  generalize (if wno b E p gl = 23 then (21 : Int) else 22) = v at *
  generalize tL b E (tS b E p) = r at *
  have ger := tS_ge (b := b) (E := E) (p := r)
  have ler := tS_le (b := b) (E := E) (p := r) tl.2
  obtain ⟨g3, l1, R3, l2, k3⟩ := R_look (d := d + 4) R2
  have S3 := S2.tk R3 k3 (Nat.le_refl _)
  have tb := tB_b (p := r) R3.1
  have as := R_asksSign (d := d + 2) (c := 40) R3 (by omega) (by omega)
  have op := R_opens (d := d + 3) (x := v) (pl := (tS b E r : Int)) R3 S3.2.1 (by have := S3.len; omega) ho (by omega) (by omega) (by omega) (by omega)
  refine ⟨fun c o6 => ?_, fun c o6 => ?_, fun c => ?_⟩
  · obtain ⟨g4, a1, Q4, k4⟩ := op.1 o6
    have R4 := R3.kw k4
    obtain ⟨g5, b1, R5, k5⟩ := (R_asksSign (d := d + 2) (c := 40) R4 (by omega) (by omega)).1 c
    rw [c] at l1
    refine ⟨g5, ?_, ⟨R5, Q4.tk k5, ?_, ?_, ?_⟩, (kTQ k2).trans ((kTQ k3).trans ((kWQ k4).trans (kTQ k5)))⟩
    · unfold ME
      rw [m0]
      congr 1
      unfold kPr
      simp (disch := omega) only [iI_lit, jI_lit, iI_neg, jI_neg, iI_add, iI_sub, iI_mul, jI_add, jI_sub, jI_mul, rdI, rdL, iI_lt, iI_le, iI_eq, iI_nat, iI_b2_0, iI_b2_1, mm_bI_some, mm_bV_some, mm_bL_some, mm_bA_some, fd_wL, fd_wR, fl_wI, fl_wR, re_wI, re_wL, re_wC, ite_true, ite_false, not_true_eq_false, not_false_eq_true, lq_ge, lq_le, lq_gt, lq_lt, lq_eq, jI_lt, jI_le, jI_eq, if_pos, if_neg, l1, l2, a1, b1]
    · rw [k5.1 264 54 (by unfold QTk; omega), k4.1 264 54 (by unfold Qwk; omega)]
      exact S3.2.2.1
    · rw [List.cons_append, List.length_cons]
      omega
    · rw [nOf, if_neg (by omega)]
      have := S.2.2.2.2
      omega
  · obtain ⟨g4, a1, B4, k4⟩ := op.2 o6
    have b5 := B4.ne (by decide)
    have b1 := B_asksSign (d := d + 4) (x := iI 40) b5
    rw [c] at l1
    refine ⟨g4, ?_, ⟨B4, S.2.1.cb (k2.trans (k3.trans k4)) (by unfold QTk; omega) (by omega)⟩, kTQ (k2.trans (k3.trans k4))⟩
    rw [← sPT_bad (d := d) b5]
    unfold ME
    rw [m0]
    congr 1
    unfold kPr
    simp (disch := omega) only [iI_lit, jI_lit, iI_neg, jI_neg, iI_add, iI_sub, iI_mul, jI_add, jI_sub, jI_mul, rdI, rdL, iI_lt, iI_le, iI_eq, iI_nat, iI_b2_0, iI_b2_1, mm_bI_some, mm_bV_some, mm_bL_some, mm_bA_some, fd_wL, fd_wR, fl_wI, fl_wR, re_wI, re_wL, re_wC, ite_true, ite_false, not_true_eq_false, not_false_eq_true, lq_ge, lq_le, lq_gt, lq_lt, lq_eq, jI_lt, jI_le, jI_eq, if_pos, if_neg, l1, l2, a1, b1]
  · obtain ⟨g4, a1, B4, k4⟩ := as.2 c
    have b5 := B4.ne (by decide)
    refine ⟨g4, ?_, ⟨B4, S.2.1.cb (k2.trans (k3.trans k4)) (by unfold QTk; omega) (by omega)⟩, kTQ (k2.trans (k3.trans k4))⟩
    rw [← sPT_bad (d := d) b5]
    unfold ME
    rw [m0]
    congr 1
    unfold kPr
    simp (disch := omega) only [iI_lit, jI_lit, iI_neg, jI_neg, iI_add, iI_sub, iI_mul, jI_add, jI_sub, jI_mul, rdI, rdL, iI_lt, iI_le, iI_eq, iI_nat, iI_b2_0, iI_b2_1, mm_bI_some, mm_bV_some, mm_bL_some, mm_bA_some, fd_wL, fd_wR, fl_wI, fl_wR, re_wI, re_wL, re_wC, ite_true, ite_false, not_true_eq_false, not_false_eq_true, lq_ge, lq_le, lq_gt, lq_lt, lq_eq, jI_lt, jI_le, jI_eq, if_pos, if_neg, l1, l2, a1]
theorem brk_app {P : List Int} {y : Int} (hP : ∀ z ∈ P, 1 ≤ z ∧ z ≤ 4) (hy : 20 ≤ y ∧ y ≤ 24) : brk (P ++ y :: T) = y := by
  induction P with
  | nil => rw [List.nil_append, brk, if_pos hy]
  | cons z r ih =>
    have := hP z List.mem_cons_self
    rw [List.cons_append, brk, if_neg (by omega)]
    exact ih (fun q hq => hP q (List.mem_cons_of_mem _ hq))
theorem brk_none {P : List Int} (hP : ∀ z ∈ P, 1 ≤ z ∧ z ≤ 4) : brk P = -1 := by
  induction P with
  | nil => rfl
  | cons z r ih =>
    have := hP z List.mem_cons_self
    rw [brk, if_neg (by omega)]
    exact ih (fun q hq => hP q (List.mem_cons_of_mem _ hq))
theorem nOf_app {P : List Int} (hP : ∀ z ∈ P, 1 ≤ z ∧ z ≤ 4) : nOf (P ++ T) = nOf T := by
  induction P with
  | nil => rfl
  | cons z r ih =>
    have := hP z List.mem_cons_self
    rw [List.cons_append, nOf, if_neg (by omega)]
    exact ih (fun q hq => hP q (List.mem_cons_of_mem _ hq))
/-- the code that a bracket leaves -/
def brC (y : Int) : List Int := if y = 20 then [] else if y = 23 then [5] else [6]
/-- a bracket is taken off -/
theorem Qst.popO {y : Int} (S : Qst g (y :: T) U C (o + 1)) (hn : (T ++ U).length < 1600) (ho : o ≤ 6) : Qst (wI (wI g 264 104 (iI ((T ++ U).length : Nat))) 264 105 (iI (o : Nat))) T U C o ∧ fd (wI g 264 104 (iI ((T ++ U).length : Nat))) 264 105 = ((o + 1 : Nat) : Int) ∧ fd (wI (wI g 264 104 (iI ((T ++ U).length : Nat))) 264 105 (iI (o : Nat))) 264 104 = ((T ++ U).length : Nat) ∧ fd (wI (wI g 264 104 (iI ((T ++ U).length : Nat))) 264 105 (iI (o : Nat))) 333 (T ++ U).length = y ∧ fd g 264 104 = ((T ++ U).length : Nat) + 1 ∧ Kf Qwk nL g (wI (wI g 264 104 (iI ((T ++ U).length : Nat))) 264 105 (iI (o : Nat))) := by
  obtain ⟨S1, f1, f2, f3⟩ := S.pop (by omega)
  have z : ∀ j, j ≠ 105 → fd (wI (wI g 264 104 (iI ((T ++ U).length : Nat))) 264 105 (iI (o : Nat))) 264 j = fd (wI g 264 104 (iI ((T ++ U).length : Nat))) 264 j := fun j hj => fd_wI_col hj
  have z2 : ∀ a j, a ≠ 264 → fd (wI (wI g 264 104 (iI ((T ++ U).length : Nat))) 264 105 (iI (o : Nat))) a j = fd (wI g 264 104 (iI ((T ++ U).length : Nat))) a j := fun a j ha => fd_wI_row ha
  refine ⟨⟨⟨(z 104 (by omega)).trans S1.1.1, S1.1.2.congr (fun j _ => z2 _ _ (by omega))⟩, ⟨(z 102 (by omega)).trans S1.2.1.1, fun i v h => (z2 _ _ (by omega)).trans (S1.2.1.2 i v h)⟩, fd_wI_same (by omega) (by omega), (z 106 (by omega)).trans S1.2.2.2⟩, S1.2.2.1, (z 104 (by omega)).trans S1.1.1, (z2 _ _ (by omega)).trans f1, f2, (Kf.refl.wI (by unfold Qwk; omega)).wI (by unfold Qwk; omega)⟩
theorem MO_close {P : List Int} {y : Int} (S : ST g b E p gl w (P ++ y :: T) U C (o + 1)) (h : tB b E p = 41) (hP : ∀ z ∈ P, 1 ≤ z ∧ z ≤ 4) (hy : y = 20 ∨ y = 23 ∨ y = 24) (ho : o < 6) (hof : nOf T ≤ o) : ∃ g', MO d x g = MF d x g' ∧ ST g' b E (tS b E p + 1) false w T U (C ++ P ++ brC y) o ∧ Kf QQ nL g g' := by
  have h5 := S.1.2.2.1
  have l := S.len
  have ge := tS_ge (b := b) (E := E) (p := p)
  have lt := tB_in h (by decide)
  have ll : (P ++ y :: T ++ U).length = P.length + ((T ++ U).length + 1) := by rw [List.append_assoc, List.length_append, List.cons_append, List.length_cons]
  obtain ⟨g1, l1, R1, l2, k1⟩ := R_look (d := d + 4) S.1
  have S1 := S.tk R1 k1 (Nat.le_refl _)
  have br := R_bracket (d := d + 3) S1.2.1 (by omega)
  rw [brk_app hP (by omega)] at br
  obtain ⟨R2, k2⟩ := RS_step R1 l2 lt
  have Q2 := S1.2.1.tk k2
  obtain ⟨g3, m3, Q3, k3⟩ := R_dropsTo (d := d + 2) (y := y) (by omega) (fun z hz => by have := hP z hz; omega) Q2 (by omega) (by omega)
  obtain ⟨Q4, f1, f2, f3, f4, k4⟩ := Q3.popO (by omega) (by omega)
  have e1 : ((T ++ U).length : Nat) + (1 : Int) - 1 = ((T ++ U).length : Nat) := by omega
  have e2 : ((o + 1 : Nat) : Int) - 1 = (o : Nat) := by omega
  have nn : (((T ++ U).length : Nat) : Int).toNat = (T ++ U).length := by omega
  rw [h] at l1
  have m3' := m3
  rw [show (iI ((tS b E p : Int) + 1)) = g1.1 264 2 + iI 1 by rw [rdE l2, iI_add]] at m3'
  have cl : (iI (((T ++ U).length : Nat) : Int)).toNatClampNeg = (T ++ U).length := by rw [iI_nat (by omega) (by omega)]; exact nn
  have f0 : (iI (((T ++ U).length : Nat) : Int) < iI 0) = False := iL_f (by omega) (by omega) (by omega) (by omega) (by omega)
  have f17 : (1700 ≤ (T ++ U).length) = False := eq_false (by omega)
  have R4 := (R2.kw k3).kw k4
  have w4 : fd (wI (wI g3 264 104 (iI ((T ++ U).length : Nat))) 264 105 (iI (o : Nat))) 264 54 = w := by
    rw [k4.1 264 54 (by unfold Qwk; omega), k3.1 264 54 (by unfold Qwk; omega), k2.1 264 54 (by unfold QTk; omega)]
    exact S1.2.2.1
  generalize hg4 : wI (wI g3 264 104 (iI ((T ++ U).length : Nat))) 264 105 (iI (o : Nat)) = g4 at *
  have S4 : ST g4 b E (tS b E p + 1) false w T U (C ++ P) o := ⟨R4, Q4, w4, by rw [List.length_append (as := C)]; omega, hof⟩
  have K4 : Kf QQ nL g g4 := (kTQ k1).trans ((kTQ k2).trans ((kWQ k3).trans (kWQ k4)))
  by_cases y0 : y = 20
  · refine ⟨g4, ?_, by rw [show brC y = [] by rw [y0]; rfl, List.append_nil]; exact S4, K4⟩
    rw [← MF_in S4]
    unfold MO
    congr 1
    conv => lhs; unfold sGO
    rw [U_X12_qGoesOn_0]
    unfold sGO
    rw [y0] at br f3
    (try simp only [iI_lit, iI_neg]) <;> simp (maxSteps := 1000000) (disch := decide) only [iI_lit, iI_neg, iI_add, mm_bI_some, mm_bV_some, mm_bL_some, ↓reduceIte, i10, i00, i11, eq_self, not_true_eq_false, not_false_eq_true, ite_true, ite_false, if_true, if_false, and_true, true_and, and_false, false_and, and_self, or_self, or_false, false_or, or_true, true_or, iI_eq, iI_lt, iI_le, Int.reduceEq, Int.reduceLT, Int.reduceLE, rdE h5, ↓bI_eq l1, ↓bI_eq br, ↓bV_eq m3', rdE f4, iI_sub, e1, rdE f1, e2, hg4, rdE f2, cl, f0, f17, rdE f3]
  · have hv : ∃ v : Int, brC y = [v] ∧ (v = 5 ∨ v = 6) ∧ (v = 5 ↔ y = 23) := by
      rcases hy with z | z | z
      · exact absurd z y0
      · exact ⟨5, by rw [z]; rfl, Or.inl rfl, by omega⟩
      · exact ⟨6, by rw [z]; rfl, Or.inr rfl, by omega⟩
    obtain ⟨v, v1, v2, v3⟩ := hv
    obtain ⟨g5, c1, Q5, k5⟩ := R_code (d := d + 4) (x := v) Q4 (by rw [List.length_append]; omega) (by omega) (by omega)
    have S5 := S4.qw Q5 k5 (by rw [List.length_append (as := C ++ P), List.length_append (as := C), List.length_singleton]; omega) hof
    refine ⟨g5, ?_, by rw [v1]; exact S5, K4.trans (kWQ k5)⟩
    rw [← MF_in S5]
    unfold MO
    congr 1
    conv => lhs; unfold sGO
    rw [U_X12_qGoesOn_0]
    unfold sGO
    by_cases y3 : y = 23
    · have v5 : v = 5 := v3.mpr y3
      rw [y3] at br f3
      rw [v5] at c1
      (try simp only [iI_lit, iI_neg]) <;> simp (maxSteps := 1000000) (disch := decide) only [iI_lit, iI_neg, iI_add, mm_bI_some, mm_bV_some, mm_bL_some, ↓reduceIte, i10, i00, i11, eq_self, not_true_eq_false, not_false_eq_true, ite_true, ite_false, if_true, if_false, and_true, true_and, and_false, false_and, and_self, or_self, or_false, false_or, or_true, true_or, iI_eq, iI_lt, iI_le, Int.reduceEq, Int.reduceLT, Int.reduceLE, rdE h5, ↓bI_eq l1, ↓bI_eq br, ↓bV_eq m3', rdE f4, iI_sub, e1, rdE f1, e2, hg4, rdE f2, cl, f0, f17, rdE f3, c1]
    · have y4 : y = 24 := by omega
      have v6 : v = 6 := by omega
      rw [y4] at br f3
      rw [v6] at c1
      (try simp only [iI_lit, iI_neg]) <;> simp (maxSteps := 1000000) (disch := decide) only [iI_lit, iI_neg, iI_add, mm_bI_some, mm_bV_some, mm_bL_some, ↓reduceIte, i10, i00, i11, eq_self, not_true_eq_false, not_false_eq_true, ite_true, ite_false, if_true, if_false, and_true, true_and, and_false, false_and, and_self, or_self, or_false, false_or, or_true, true_or, iI_eq, iI_lt, iI_le, Int.reduceEq, Int.reduceLT, Int.reduceLE, rdE h5, ↓bI_eq l1, ↓bI_eq br, ↓bV_eq m3', rdE f4, iI_sub, e1, rdE f1, e2, hg4, rdE f2, cl, f0, f17, rdE f3, c1]
/-- behind the signs: what is left of qGoesOn -/
noncomputable def kCm (d : Nat) (h9 : mm_H) : mm_X := mm_bV (mm_M mm_T0 (d + 5) 199 [.ref 264, .int 44] h9) (fun h11 => if (h11.1 264 5) = 0 then (mm_bV (mm_M mm_T0 (d + 5) 291 [.ref 264] h11) (fun h12 => if ((h12.1 264 104) - 1) < 0 ∨ 1700 ≤ ((h12.1 264 104) - 1).toNatClampNeg then none else (if ((h12.1 264 104) - 1) < 0 ∨ 1700 ≤ ((h12.1 264 104) - 1).toNatClampNeg then none else (some (some (.int 1), wI h12 333 (((h12.1 264 104) - 1).toNatClampNeg) ((h12.1 333 ((h12.1 264 104) - 1).toNatClampNeg) + 2)))))) else (some (some (.int 0), h11)))
noncomputable def kBr (d : Nat) (g : mm_H) : mm_X := mm_bI (mm_M mm_T0 (d + 5) 290 [.ref 264] g) (fun v10 h9 => if v10 = 21 then kCm d h9 else (mm_bI (mm_M mm_T0 (d + 5) 290 [.ref 264] h9) (fun v14 h13 => if ¬ v14 = 22 then (mm_bI (mm_M mm_T0 (d + 5) 290 [.ref 264] h13) (fun v16 h15 => if v16 = ((-1)) then (some (some (.int 0), h15)) else (if ¬ (h15.1 264 5) = 0 then (some (some (.int 0), h15)) else (mm_bV (mm_M mm_T0 (d + 5) 191 [.ref 264, .int 1, .int (h15.1 264 2)] h15) (fun h17 => some (some (.int 0), h17)))))) else kCm d h13)))
set_option maxHeartbeats 8000000 in
theorem R_go_rest {y : Int} (S : ST g b E p gl w T U C o) (h1 : opP (tB b E p) = 0) (h2 : opS (tB b E p) = 0) (hb : brk T = y) (h3 : tB b E p = 41 → y ≠ 20 ∧ y ≠ 23 ∧ y ≠ 24) (yb : -1 ≤ y ∧ y ≤ 100) : ∃ g', sGO d g = kBr d g' ∧ ST g' b E p gl w T U C o ∧ fd g' 264 2 = (tS b E p : Int) ∧ Kf QTk nL g g' := by
  have h5 := S.1.2.2.1
  have l := S.len
  have n42 : tB b E p ≠ 42 := fun z => by rw [z] at h1; exact absurd h1 (by decide)
  have n47 : tB b E p ≠ 47 := fun z => by rw [z] at h1; exact absurd h1 (by decide)
  have n43 : tB b E p ≠ 43 := fun z => by rw [z] at h2; exact absurd h2 (by decide)
  have n45 : tB b E p ≠ 45 := fun z => by rw [z] at h2; exact absurd h2 (by decide)
  obtain ⟨g1, l1, R1, l2, k1⟩ := R_look (d := d + 4) S.1
  have S1 := S.tk R1 k1 (Nat.le_refl _)
  have tb := tB_b (p := p) R1.1
  have br := R_bracket (d := d + 3) S1.2.1 (by omega)
  rw [hb] at br
  obtain ⟨g2, t1, R2, t2, k2⟩ := (R_takesSign (d := d + 3) (c := 42) R1 (by omega) (by omega)).2 n42
  obtain ⟨g3, u1, R3, u2, k3⟩ := (R_takesSign (d := d + 3) (c := 47) R2 (by omega) (by omega)).2 n47
  obtain ⟨g4, i1, R4, i2, k4⟩ := (R_takesSign (d := d + 3) (c := 43) R3 (by omega) (by omega)).2 n43
  obtain ⟨g5, j1, R5, j2, k5⟩ := (R_takesSign (d := d + 3) (c := 45) R4 (by omega) (by omega)).2 n45
  have K : Kf QTk nL g1 g5 := k2.trans (k3.trans (k4.trans k5))
  refine ⟨g5, ?_, S1.tk R5 K (Nat.le_refl _), j2, k1.trans K⟩
  unfold sGO
  rw [U_X12_qGoesOn_0]
  unfold kBr kCm
  by_cases c : tB b E p = 41
  · have y3 := h3 c
    rw [c] at l1
    have y20 : (iI y = iI 20) = False := iI_ne (by omega) (by omega) (by omega) (by omega) y3.1
    have y23 : (iI y = iI 23) = False := iI_ne (by omega) (by omega) (by omega) (by omega) y3.2.1
    have y24 : (iI y = iI 24) = False := iI_ne (by omega) (by omega) (by omega) (by omega) y3.2.2
    (try simp only [iI_lit, iI_neg]) <;> simp (maxSteps := 1000000) (disch := decide) only [iI_lit, iI_neg, iI_add, mm_bI_some, mm_bV_some, mm_bL_some, ↓reduceIte, i10, i00, i11, eq_self, not_true_eq_false, not_false_eq_true, ite_true, ite_false, if_true, if_false, and_true, true_and, and_false, false_and, and_self, or_self, or_false, false_or, or_true, true_or, iI_eq, iI_lt, iI_le, Int.reduceEq, Int.reduceLT, Int.reduceLE, rdE h5, ↓bI_eq l1, ↓bI_eq br, y20, y23, y24, ↓bI_eq t1, ↓bI_eq u1, ↓bI_eq i1, ↓bI_eq j1]
  · have n41 : (iI (tB b E p) = iI 41) = False := iI_ne (by omega) (by omega) (by omega) (by omega) c
    (try simp only [iI_lit, iI_neg]) <;> simp (maxSteps := 1000000) (disch := decide) only [iI_lit, iI_neg, iI_add, mm_bI_some, mm_bV_some, mm_bL_some, ↓reduceIte, i10, i00, i11, eq_self, not_true_eq_false, not_false_eq_true, ite_true, ite_false, if_true, if_false, and_true, true_and, and_false, false_and, and_self, or_self, or_false, false_or, or_true, true_or, iI_eq, iI_lt, iI_le, Int.reduceEq, Int.reduceLT, Int.reduceLE, rdE h5, ↓bI_eq l1, n41, ↓bI_eq t1, ↓bI_eq u1, ↓bI_eq i1, ↓bI_eq j1]
end RPR
