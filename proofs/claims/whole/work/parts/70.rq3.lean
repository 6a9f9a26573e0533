/-! the reference before a part -/
section RPT
variable {d : Nat} {x : Int32} {g : mm_H} {b : Nat → Int} {E p : Nat} {gl : Bool} {w : Int} {T U C : List Int} {o : Nat}
theorem bV_ret {X : mm_X} {k : mm_H → mm_X} : mm_bV (mm_bV X (fun h => some (none, h))) k = mm_bV X k := by
  cases X with
  | none => rfl
  | some q =>
    obtain ⟨v, h⟩ := q
    cases v with
    | none => rfl
    | some u => rfl
theorem RS_step (R : RS g b E p gl) (e2 : fd g 264 2 = (tS b E p : Int)) (lt : tS b E p < E) : RS (wI g 264 2 (iI ((tS b E p : Int) + 1))) b E (tS b E p + 1) false ∧ Kf QTk nL g (wI g 264 2 (iI ((tS b E p : Int) + 1))) := by
  have hE := R.1.2.1
  have ge := tS_ge (b := b) (E := E) (p := p)
  have ge2 := tS_ge (b := b) (E := E) (p := tS b E p + 1)
  have kw : Kf QTk nL g (wI g 264 2 (iI ((tS b E p : Int) + 1))) := Kf.refl.wI (by unfold QTk; omega)
  have f2 : fd (wI g 264 2 (iI ((tS b E p : Int) + 1))) 264 2 = (tS b E p : Int) + 1 := fd_wI_same (by omega) (by omega)
  have hg := R.2.2.2.2.1
  refine ⟨⟨R.1.tk kw, by omega, ?_, ⟨by omega, by omega⟩, ?_, (fd_wI_col (by omega)).trans R.2.2.2.2.2⟩, kw⟩
  · rw [fd_wI_col (by omega)]; exact R.2.2.1
  · rw [if_neg (by simp), fd_wI_col (by omega)]
    cases gl with
    | true => rw [if_pos rfl] at hg; omega
    | false => rw [if_neg (by simp)] at hg; omega
set_option maxHeartbeats 8000000 in
theorem R_codeX {y : Int32} (h0 : 0 ≤ fd g 264 102) (h1 : fd g 264 102 < 1700) : ∃ g', mm_M mm_T0 (d + 1) 285 [.ref 264, .int y] g = some (none, g') ∧ Kf Qwk nL g g' ∧ fd g' 264 102 = fd g 264 102 + 1 := by
  have f : fd (wI g 332 (fd g 264 102).toNat y) 264 102 = fd g 264 102 := fd_wI_row (by omega)
  refine ⟨wI (wI g 332 (fd g 264 102).toNat y) 264 102 (iI (fd g 264 102 + 1)), ?_, (Kf.refl.wI (by unfold Qwk; omega)).wI (by unfold Qwk; omega), fd_wI_same (by omega) (by omega)⟩
  rw [U_X12_qCode]
  simp (disch := omega) only [iI_lit, jI_lit, iI_neg, jI_neg, iI_add, iI_sub, iI_mul, jI_add, jI_sub, jI_mul, rdI, rdL, iI_lt, iI_le, iI_eq, iI_nat, iI_b2_0, iI_b2_1, mm_bI_some, mm_bV_some, mm_bL_some, mm_bA_some, fd_wL, fd_wR, fl_wI, fl_wR, re_wI, re_wL, re_wC, ite_true, ite_false, not_true_eq_false, not_false_eq_true, lq_ge, lq_le, lq_gt, lq_lt, lq_eq, jI_lt, jI_le, jI_eq, if_pos, if_neg, f]
/-- with a fault the part ends -/
theorem sPT_bad (h : fd g 264 5 ≠ 0) : ME d x g = some (none, wI g 264 106 x) := by
  unfold ME sPT
  rw [U_X12_qPartTold_2, if_neg (by decide), if_pos (bad_1 h), if_neg (bad_1 h)]
  show kS d x g = _
  exact kS_bad h
theorem Bad.ne {k pl : Int} (h : Bad g k pl) (hk : k ≠ 0) : fd g 264 5 ≠ 0 := by
  rw [h.1]
  exact hk
theorem Bad.kf {g' : mm_H} {k pl : Int} {Q L : Nat → Nat → Prop} (h : Bad g k pl) (K : Kf Q L g g') (q5 : ¬ Q 264 5) (q6 : ¬ Q 264 6) : Bad g' k pl := ⟨(K.1 _ _ q5).trans h.1, (K.1 _ _ q6).trans h.2⟩
theorem wOf_hi {v : Int} (w3 : w ≤ 3) : ((valN w v = 11 ∨ valN w v = 12) → wOf w v 11 13 = valN w v) ∧ (¬ (valN w v = 11 ∨ valN w v = 12) → wOf w v 11 13 = -1) := by
  have vb := valN_b w v
  refine ⟨fun h => ?_, fun h => ?_⟩
  · have w4 := valN_of h
    have w5 : w = 3 := by omega
    unfold wOf
    rw [if_pos]
    refine ⟨by omega, by omega, ?_⟩
    rcases h with z | z <;> rw [z, w5] <;> decide
  · unfold wOf
    rw [if_neg (by omega)]
theorem wOf_lo {v : Int} : ((0 ≤ valN w v ∧ valN w v ≤ 10 ∧ okW w (valN w v) = true) → wOf w v 0 11 = valN w v) ∧ (¬ (0 ≤ valN w v ∧ valN w v ≤ 10 ∧ okW w (valN w v) = true) → wOf w v 0 11 = -1) := by
  refine ⟨fun h => ?_, fun h => ?_⟩
  · unfold wOf
    rw [if_pos ⟨h.1, by omega, h.2.2⟩]
  · unfold wOf
    rw [if_neg (fun z => h ⟨z.1, by omega, z.2.2⟩)]
theorem ME_open (w0 : 0 ≤ w) (w3 : w ≤ 3) (S : ST g b E p gl w T U C o) (ho : o ≤ 6) (h : tB b E p = 40) : (o < 6 → ∃ g', ME d x g = ME d x g' ∧ ST g' b E (tS b E p + 1) false w (20 :: T) U C (o + 1) ∧ Kf QQ nL g g') ∧ (¬ o < 6 → BadO x g (ME d x g) (4, (tS b E p : Int))) := by
  have h5 := S.1.2.2.1
  have l := S.len
  have ge := tS_ge (b := b) (E := E) (p := p)
  have lt := tB_in h (by decide)
  obtain ⟨g1, l1, R1, l2, l3⟩ := R_look (d := d + 4) S.1
  have S1 := S.tk R1 l3 (Nat.le_refl _)
  have wo := R_wordOf (d := d + 1) (lo := 11) (hi := 13) R1 l2 S1.2.2.1 w0 w3 (by omega) (by omega) (by omega) (by omega)
  rw [h] at l1
  have op := R_opens (d := d + 3) (x := 20) (pl := (tS b E p : Int)) R1 S1.2.1 (by omega) ho (by omega) (by omega) (by omega) (by omega)
  refine ⟨fun o6 => ?_, fun o6 => ?_⟩
  · obtain ⟨g2, m1, Q2, k2⟩ := op.1 o6
    have f2 : fd g2 264 2 = (tS b E p : Int) := (k2.1 264 2 (by unfold Qwk; omega)).trans l2
    have R2 := R1.kw k2
    obtain ⟨R3, k3⟩ := RS_step R2 f2 lt
    have l4 := S.2.2.2.1
    refine ⟨_, ?_, ⟨R3, Q2.tk k3, ?_, ?_, ?_⟩, (kTQ l3).trans ((kWQ k2).trans (kTQ k3))⟩
    · unfold ME
      have st : sPT d g = sPT d (wI g2 264 2 (iI ((tS b E p : Int) + 1))) := by
        conv => lhs; unfold sPT
        rw [U_X12_qPartTold_2]
        unfold sPT
        rw [← rdE l2] at m1
        (try simp only [iI_lit, iI_neg]) <;> simp (maxSteps := 1000000) (disch := decide) only [iI_lit, iI_neg, iI_add, mm_bI_some, mm_bV_some, mm_bL_some, ↓reduceIte, i10, i00, i11, eq_self, not_true_eq_false, not_false_eq_true, ite_true, ite_false, if_true, if_false, and_true, true_and, and_false, false_and, and_self, or_self, or_false, false_or, or_true, true_or, iI_eq, iI_lt, iI_le, Int.reduceEq, Int.reduceLT, Int.reduceLE, rdE h5, ↓bI_eq l1, ↓bI_eq wo, ↓bV_eq m1, rdE f2]
      rw [st]
    · rw [k3.1 264 54 (by unfold QTk; omega), k2.1 264 54 (by unfold Qwk; omega)]
      exact S1.2.2.1
    · rw [List.cons_append, List.length_cons]
      omega
    · rw [nOf, if_neg (by omega)]
      have := S.2.2.2.2
      omega
  · obtain ⟨g2, m1, B2, k2⟩ := op.2 o6
    have kk : Kf QTk nL g2 (wI g2 264 2 (iI (fd g2 264 2 + 1))) := Kf.refl.wI (by unfold QTk; omega)
    have B3 : Bad (wI g2 264 2 (iI (fd g2 264 2 + 1))) 4 (tS b E p) := B2.kf (Q := fun a k => a = 264 ∧ k = 2) (L := nL) (Kf.refl.wI ⟨rfl, rfl⟩) (by omega) (by omega)
    refine ⟨wI g2 264 2 (iI (fd g2 264 2 + 1)), ?_, ⟨B3, S.2.1.cb (l3.trans (k2.trans kk)) (by unfold QTk; omega) (by omega)⟩, kTQ (l3.trans (k2.trans kk))⟩
    rw [← sPT_bad (d := d) (B3.ne (by decide))]
    unfold ME
    have st : sPT d g = sPT d (wI g2 264 2 (iI (fd g2 264 2 + 1))) := by
      conv => lhs; unfold sPT
      rw [U_X12_qPartTold_2]
      unfold sPT
      rw [← rdE l2] at m1
      have rg2 : g2.1 264 2 = iI (fd g2 264 2) := rdE rfl
      (try simp only [iI_lit, iI_neg]) <;> simp (maxSteps := 1000000) (disch := decide) only [iI_lit, iI_neg, iI_add, mm_bI_some, mm_bV_some, mm_bL_some, ↓reduceIte, i10, i00, i11, eq_self, not_true_eq_false, not_false_eq_true, ite_true, ite_false, if_true, if_false, and_true, true_and, and_false, false_and, and_self, or_self, or_false, false_or, or_true, true_or, iI_eq, iI_lt, iI_le, Int.reduceEq, Int.reduceLT, Int.reduceLE, rdE h5, ↓bI_eq l1, ↓bI_eq wo, ↓bV_eq m1, rg2]
    rw [st]
/-- words that are no bracket's and wait for none -/
theorem ME_pro (w0 : 0 ≤ w) (w3 : w ≤ 3) (S : ST g b E p gl w T U C o) (h : tB b E p ≠ 40) (hw : ¬ (wno b E p gl = 23 ∨ wno b E p gl = 24)) (hv : ¬ (valN w (wno b E p gl) = 11 ∨ valN w (wno b E p gl) = 12)) : ∃ g1, sPT d g = mm_D (mm_M mm_T0 (d + 5)) cd_X12_qPartTold 2 [.ref 264, .int (iI 0), .null, .null, .null, .null] [] g1 ∧ ST g1 b E p gl w T U C o ∧ fd g1 264 2 = (tS b E p : Int) ∧ Kf QTk nL g g1 := by
  have h5 := S.1.2.2.1
  obtain ⟨g1, l1, R1, l2, l3⟩ := R_look (d := d + 4) S.1
  have S1 := S.tk R1 l3 (Nat.le_refl _)
  have wo := R_wordOf (d := d + 1) (lo := 11) (hi := 13) R1 l2 S1.2.2.1 w0 w3 (by omega) (by omega) (by omega) (by omega)
  rw [(wOf_hi w3).2 hv] at wo
  have tb := tB_b (p := p) R1.1
  have q1 := R_hereA (d := d + 3) (a := 317) (k := 23) (by unfold isW; omega) (by omega) rfl R1 l2
  have q2 := R_hereA (d := d + 3) (a := 318) (k := 24) (by unfold isW; omega) (by omega) rfl R1 l2
  rw [b2_f (fun z => hw (Or.inl z))] at q1
  rw [b2_f (fun z => hw (Or.inr z))] at q2
  refine ⟨g1, ?_, S1, l2, l3⟩
  unfold sPT
  rw [U_X12_qPartTold_2]
  have n40 : (iI (tB b E p) = iI 40) = False := iI_ne (by omega) (by omega) (by omega) (by omega) h
  (try simp only [iI_lit, iI_neg]) <;> simp (maxSteps := 1000000) (disch := decide) only [iI_lit, iI_neg, iI_add, mm_bI_some, mm_bV_some, mm_bL_some, ↓reduceIte, i10, i00, i11, eq_self, not_true_eq_false, not_false_eq_true, ite_true, ite_false, if_true, if_false, and_true, true_and, and_false, false_and, and_self, or_self, or_false, false_or, or_true, true_or, iI_eq, iI_lt, iI_le, Int.reduceEq, Int.reduceLT, Int.reduceLE, rdE h5, ↓bI_eq l1, n40, ↓bI_eq wo, ↓bI_eq q1, ↓bI_eq q2]
theorem ME_part (w0 : 0 ≤ w) (w3 : w ≤ 3) (S : ST g b E p gl w T U C o) (hv : 0 ≤ valN w (wno b E p gl) ∧ valN w (wno b E p gl) ≤ 10 ∧ okW w (valN w (wno b E p gl)) = true) : ∃ g', ME d x g = MF d x g' ∧ ST g' b E (tL b E (tS b E p)) true w T U (C ++ [40 + valN w (wno b E p gl)]) o ∧ Kf QQ nL g g' := by
  have l := S.len
  have ge := tS_ge (b := b) (E := E) (p := p)
  have wn := valN_no (w := w) (v := wno b E p gl) (by omega)
  have ww := wno_w (b := b) (E := E) (p := p) (gl := gl) (by omega)
  have tl := tL_in ww.1
  have il := isLt_iff.mp ww.1
  obtain ⟨g1, m1, S1, l2, k1⟩ := ME_pro (d := d) w0 w3 S (by omega) (by omega) (by omega)
  have h5 := S1.1.2.2.1
  have wo := R_wordOf (d := d + 1) (lo := 0) (hi := 11) S1.1 l2 S1.2.2.1 w0 w3 (by omega) (by omega) (by omega) (by omega)
  rw [wOf_lo.1 hv] at wo
  obtain ⟨g2, n1, R2, k2⟩ := R_asksWord (d := d) (w := w) S1.1 rfl hv.1
  have S2 := S1.tk R2 k2 (by omega)
  obtain ⟨g3, c1, Q3, k3⟩ := R_code (d := d + 4) (x := 40 + valN w (wno b E p gl)) S2.2.1 (by omega) (by omega) (by omega)
  have S3 := S2.qw Q3 k3 (by rw [List.length_append (as := C), List.length_singleton]; omega) S2.2.2.2.2
  refine ⟨g3, ?_, S3, (kTQ k1).trans ((kTQ k2).trans (kWQ k3))⟩
  unfold ME MF
  rw [m1, U_X12_qPartTold_2]
  generalize valN w (wno b E p gl) = v at *
  rw [← bV_ret (X := mm_M mm_T0 (d + 5) 295 [.ref 264] g3)]
  congr 1
  rw [← iI_add] at c1
  have nv : (iI v = iI (-1)) = False := iI_ne (by omega) (by omega) (by omega) (by omega) (by omega)
  (try simp only [iI_lit, iI_neg]) <;> simp (maxSteps := 1000000) (disch := decide) only [iI_lit, iI_neg, iI_add, mm_bI_some, mm_bV_some, mm_bL_some, ↓reduceIte, i10, i00, i11, eq_self, not_true_eq_false, not_false_eq_true, ite_true, ite_false, if_true, if_false, and_true, true_and, and_false, false_and, and_self, or_self, or_false, false_or, or_true, true_or, iI_eq, iI_lt, iI_le, Int.reduceEq, Int.reduceLT, Int.reduceLE, rdE h5, ↓bI_eq wo, nv, ↓bV_eq n1, ↓bV_eq c1]
theorem ME_num (w0 : 0 ≤ w) (w3 : w ≤ 3) (S : ST g b E p gl w T U C o) (h : tB b E p ≠ 40) (hw : ¬ (wno b E p gl = 23 ∨ wno b E p gl = 24)) (hv : ¬ (valN w (wno b E p gl) = 11 ∨ valN w (wno b E p gl) = 12)) (hv2 : ¬ (0 ≤ valN w (wno b E p gl) ∧ valN w (wno b E p gl) ≤ 10 ∧ okW w (valN w (wno b E p gl)) = true)) : ((numT b E 0 9999 p gl).1 = 0 → ∃ g', ME d x g = MF d x g' ∧ ST g' b E (tD b E (tS b E p)) true w T U (C ++ [1000 + (numT b E 0 9999 p gl).2.2]) o ∧ Kf QQ nL g g') ∧ ((numT b E 0 9999 p gl).1 ≠ 0 → BadO x g (ME d x g) ((numT b E 0 9999 p gl).1, (numT b E 0 9999 p gl).2.1)) := by
  have l := S.len
  have ge := tS_ge (b := b) (E := E) (p := p)
  obtain ⟨g1, m1, S1, l2, k1⟩ := ME_pro (d := d) w0 w3 S h hw hv
  have h5 := S1.1.2.2.1
  have wo := R_wordOf (d := d + 1) (lo := 0) (hi := 11) S1.1 l2 S1.2.2.1 w0 w3 (by omega) (by omega) (by omega) (by omega)
  rw [wOf_lo.2 hv2] at wo
  obtain ⟨g2, n1, k2, n2, n3⟩ := R_number (d := d + 3) (lo := 0) (hi := 9999) S1.1 (by omega) (by omega)
  rw [show ((0 : Nat) : Int) = 0 from rfl, show ((9999 : Nat) : Int) = 9999 from rfl] at n1
  have nb := numT_b (b := b) (E := E) (p := p) (gl := gl) (lo := 0) (hi := 9999) (by omega) (by omega)
  refine ⟨fun z => ?_, fun z => ?_⟩
  · obtain ⟨R2, n4⟩ := n2 z
    have nv := nb.2.2.2 z
    have td := tD_in nv.2.2.1
    have S2 := S1.tk R2 k2 (by omega)
    generalize (numT b E 0 9999 p gl).2.2 = v at *
    obtain ⟨g3, c1, Q3, k3⟩ := R_code (d := d + 4) (x := 1000 + v) S2.2.1 (by omega) (by omega) (by omega)
    have S3 := S2.qw Q3 k3 (by rw [List.length_append (as := C), List.length_singleton]; omega) S2.2.2.2.2
    refine ⟨g3, ?_, S3, (kTQ k1).trans ((kTQ k2).trans (kWQ k3))⟩
    unfold ME MF
    rw [m1, U_X12_qPartTold_2]
    rw [← bV_ret (X := mm_M mm_T0 (d + 5) 295 [.ref 264] g3)]
    congr 1
    rw [← iI_add] at c1
    (try simp only [iI_lit, iI_neg]) <;> simp (maxSteps := 1000000) (disch := decide) only [iI_lit, iI_neg, iI_add, mm_bI_some, mm_bV_some, mm_bL_some, ↓reduceIte, i10, i00, i11, eq_self, not_true_eq_false, not_false_eq_true, ite_true, ite_false, if_true, if_false, and_true, true_and, and_false, false_and, and_self, or_self, or_false, false_or, or_true, true_or, iI_eq, iI_lt, iI_le, Int.reduceEq, Int.reduceLT, Int.reduceLE, rdE h5, ↓bI_eq wo, ↓bI_eq n1, ↓bV_eq c1]
  · have B2 := n3 z
    have cb := S1.2.1.cb k2 (by unfold QTk; omega) (by omega)
    have ce := (S1.2.1.tk k2).2.1.1
    obtain ⟨g3, c1, k3, c3⟩ := R_codeX (d := d + 4) (g := g2) (y := iI (1000 + (numT b E 0 9999 p gl).2.2)) (by omega) (by omega)
    have B3 : Bad g3 (numT b E 0 9999 p gl).1 (numT b E 0 9999 p gl).2.1 := B2.kf k3 (by unfold Qwk; omega) (by unfold Qwk; omega)
    have b5 := B3.ne z
    refine ⟨g3, ?_, ⟨B3, by omega, by omega⟩, (kTQ k1).trans ((kTQ k2).trans (kWQ k3))⟩
    have ed : mm_M mm_T0 (d + 5) 295 [.ref 264] g3 = some (none, g3) := by
      rw [U_X12_qEndsPart, if_pos (bad_1 b5)]
    rw [← kS_bad (d := d) b5]
    unfold ME
    rw [m1, U_X12_qPartTold_2]
    generalize (numT b E 0 9999 p gl).2.2 = v at *
    rw [← iI_add] at c1
    (try simp only [iI_lit, iI_neg]) <;> simp (maxSteps := 1000000) (disch := decide) only [iI_lit, iI_neg, iI_add, mm_bI_some, mm_bV_some, mm_bL_some, ↓reduceIte, i10, i00, i11, eq_self, not_true_eq_false, not_false_eq_true, ite_true, ite_false, if_true, if_false, and_true, true_and, and_false, false_and, and_self, or_self, or_false, false_or, or_true, true_or, iI_eq, iI_lt, iI_le, Int.reduceEq, Int.reduceLT, Int.reduceLE, rdE h5, ↓bI_eq wo, ↓bI_eq n1, ↓bV_eq c1, ↓bV_eq ed]
set_option maxHeartbeats 8000000 in
theorem R_asksB {k : Int} (h : fd g 264 5 ≠ 0) (hk : k = 11 ∨ k = 12) : mm_M mm_T0 (d + 2) 294 [.ref 264, .int (iI k)] g = some (none, g) := by
  have a1 := B_asks (d := d) (a := 330) (g := g) (by unfold isW; omega) h
  have a2 := B_asks (d := d) (a := 331) (g := g) (by unfold isW; omega) h
  rw [U_X12_qAsksWord]
  rcases hk with z | z <;> rw [z] <;> simp (disch := omega) only [iI_lit, jI_lit, iI_neg, jI_neg, iI_add, iI_sub, iI_mul, jI_add, jI_sub, jI_mul, rdI, rdL, iI_lt, iI_le, iI_eq, iI_nat, iI_b2_0, iI_b2_1, mm_bI_some, mm_bV_some, mm_bL_some, mm_bA_some, fd_wL, fd_wR, fl_wI, fl_wR, re_wI, re_wL, re_wC, ite_true, ite_false, not_true_eq_false, not_false_eq_true, lq_ge, lq_le, lq_gt, lq_lt, lq_eq, jI_lt, jI_le, jI_eq, if_pos, if_neg, a1, a2]
theorem ME_of (w0 : 0 ≤ w) (w3 : w ≤ 3) (S : ST g b E p gl w T U C o) (ho : o ≤ 6) (hv : valN w (wno b E p gl) = 11 ∨ valN w (wno b E p gl) = 12) : (o < 6 → ∃ g', ME d x g = ME d x g' ∧ ST g' b E (tL b E (tS b E p)) true w ((49 + valN w (wno b E p gl)) :: T) U C (o + 1) ∧ Kf QQ nL g g') ∧ (¬ o < 6 → BadO x g (ME d x g) (4, (tS b E p : Int))) := by
  have h5 := S.1.2.2.1
  have l := S.len
  have ge := tS_ge (b := b) (E := E) (p := p)
  have wn := valN_no (w := w) (v := wno b E p gl) (by omega)
  have ww := wno_w (b := b) (E := E) (p := p) (gl := gl) (by omega)
  have tl := tL_in ww.1
  have il := isLt_iff.mp ww.1
  obtain ⟨g1, l1, R1, l2, l3⟩ := R_look (d := d + 4) S.1
  have S1 := S.tk R1 l3 (Nat.le_refl _)
  have wo := R_wordOf (d := d + 1) (lo := 11) (hi := 13) R1 l2 S1.2.2.1 w0 w3 (by omega) (by omega) (by omega) (by omega)
  rw [(wOf_hi w3).1 hv] at wo
  have q1 := R_hereA (d := d + 3) (a := 317) (k := 23) (by unfold isW; omega) (by omega) rfl R1 l2
  have q2 := R_hereA (d := d + 3) (a := 318) (k := 24) (by unfold isW; omega) (by omega) rfl R1 l2
  rw [b2_f (by omega)] at q1 q2
  have op := R_opens (d := d + 3) (x := 60 + valN w (wno b E p gl) - 11) (pl := (tS b E p : Int)) R1 S1.2.1 (by omega) ho (by omega) (by omega) (by omega) (by omega)
  rw [show (49 : Int) + valN w (wno b E p gl) = 60 + valN w (wno b E p gl) - 11 by omega]
  refine ⟨fun o6 => ?_, fun o6 => ?_⟩
  · obtain ⟨g2, m1, Q2, k2⟩ := op.1 o6
    have R2 := R1.kw k2
    obtain ⟨g3, n1, R3, k3⟩ := R_asksWord (d := d) (w := w) R2 rfl (by omega)
    have l4 := S.2.2.2.1
    refine ⟨g3, ?_, ⟨R3, Q2.tk k3, ?_, ?_, ?_⟩, (kTQ l3).trans ((kWQ k2).trans (kTQ k3))⟩
    · unfold ME
      have st : sPT d g = sPT d g3 := by
        conv => lhs; unfold sPT
        rw [U_X12_qPartTold_2]
        unfold sPT
        generalize valN w (wno b E p gl) = v at *
        rw [← rdE l2, ← iI_sub, ← iI_add] at m1
        have n40 : (iI (tB b E p) = iI 40) = False := iI_ne (by omega) (by omega) (by omega) (by omega) (by omega)
        have nv : (iI v = iI (-1)) = False := iI_ne (by omega) (by omega) (by omega) (by omega) (by omega)
        (try simp only [iI_lit, iI_neg]) <;> simp (maxSteps := 1000000) (disch := decide) only [iI_lit, iI_neg, iI_add, mm_bI_some, mm_bV_some, mm_bL_some, ↓reduceIte, i10, i00, i11, eq_self, not_true_eq_false, not_false_eq_true, ite_true, ite_false, if_true, if_false, and_true, true_and, and_false, false_and, and_self, or_self, or_false, false_or, or_true, true_or, iI_eq, iI_lt, iI_le, Int.reduceEq, Int.reduceLT, Int.reduceLE, rdE h5, ↓bI_eq l1, n40, ↓bI_eq wo, nv, ↓bI_eq q1, ↓bI_eq q2, ↓bV_eq m1, ↓bV_eq n1]
      rw [st]
    · rw [k3.1 264 54 (by unfold QTk; omega), k2.1 264 54 (by unfold Qwk; omega)]
      exact S1.2.2.1
    · rw [List.cons_append, List.length_cons]
      omega
    · rw [nOf, if_pos (by omega)]
      have := S.2.2.2.2
      omega
  · obtain ⟨g2, m1, B2, k2⟩ := op.2 o6
    have b5 := B2.ne (by decide)
    have n1 := R_asksB (d := d + 3) (k := valN w (wno b E p gl)) b5 hv
    refine ⟨g2, ?_, ⟨B2, S.2.1.cb (l3.trans k2) (by unfold QTk; omega) (by omega)⟩, kTQ (l3.trans k2)⟩
    rw [← sPT_bad (d := d) b5]
    unfold ME
    have st : sPT d g = sPT d g2 := by
      conv => lhs; unfold sPT
      rw [U_X12_qPartTold_2]
      unfold sPT
      generalize valN w (wno b E p gl) = v at *
      rw [← rdE l2, ← iI_sub, ← iI_add] at m1
      have n40 : (iI (tB b E p) = iI 40) = False := iI_ne (by omega) (by omega) (by omega) (by omega) (by omega)
      have nv : (iI v = iI (-1)) = False := iI_ne (by omega) (by omega) (by omega) (by omega) (by omega)
      (try simp only [iI_lit, iI_neg]) <;> simp (maxSteps := 1000000) (disch := decide) only [iI_lit, iI_neg, iI_add, mm_bI_some, mm_bV_some, mm_bL_some, ↓reduceIte, i10, i00, i11, eq_self, not_true_eq_false, not_false_eq_true, ite_true, ite_false, if_true, if_false, and_true, true_and, and_false, false_and, and_self, or_self, or_false, false_or, or_true, true_or, iI_eq, iI_lt, iI_le, Int.reduceEq, Int.reduceLT, Int.reduceLE, rdE h5, ↓bI_eq l1, n40, ↓bI_eq wo, nv, ↓bI_eq q1, ↓bI_eq q2, ↓bV_eq m1, ↓bV_eq n1]
    rw [st]
end RPT
