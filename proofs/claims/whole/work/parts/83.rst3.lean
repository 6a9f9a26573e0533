section RST3
variable {d : Nat} {g : mm_H} {b : Nat → Int} {E p : Nat} {gl : Bool} {hm : Nat} {st : Tst}
set_option maxHeartbeats 8000000 in
theorem R_thinksT {q0 : Nat} (R : RS g b E p true) (T : RTs g hm st) (O : TstOK hm q0 st) : RSo b E hm g (mm_M mm_T0 (d + 6) 208 [.ref 264] g) (stThinks b E st p) := by
  have hE := R.1.2.1
  have h5 := R.2.2.1
  have m8 := O.1.1
  have on := R_oneOf (d := d) R T O.nm
  have nmb := nmT_b (b := b) (E := E) (p := p) (gl := true) hE R.2.1
  unfold stThinks
  -- with a fault the rest does nothing
  have fin : ∀ (g1 : mm_H) (v : Int), fd g1 264 5 ≠ 0 → RTs g1 hm st → 0 ≤ v → v ≤ 100 → mm_M mm_T0 (d + 5) 205 [.ref 264] g = some (some (.int (iI v)), g1) → mm_M mm_T0 (d + 6) 208 [.ref 264] g = some (none, g1) := by
    intro g1 v b5 T1 v0 v1 h
    have b1 := B_asks (d := d + 4) (a := 273) (g := g1) (by unfold isW; omega) b5
    have b2' := B_oneOf (d := d + 3) b5 T1 O.nm
    have b3 := fun x y => B_number (d := d + 4) (g := g1) (x := x) (y := y) b5
    have := fd_lo g1 264 5; have := fd_hi g1 264 5
    rw [U_X12_thinksTold]
    (try simp only [iI_lit, iI_neg]) <;> simp (maxSteps := 1000000) (disch := decide) only [iI_lit, iI_neg, iI_add, mm_bI_some, mm_bV_some, mm_bL_some, ↓reduceIte, i10, i00, i11, eq_self, not_true_eq_false, not_false_eq_true, ite_true, ite_false, if_true, if_false, and_true, true_and, and_false, false_and, and_self, or_self, or_false, false_or, or_true, true_or, iI_eq, iI_lt, iI_le, Int.reduceEq, Int.reduceLT, Int.reduceLE, ↓bI_eq h, ↓bV_eq b1, ↓bI_eq b2', ↓bI_eq (b3 (iI 0) (iI 9)), nz5 b5]
  by_cases c1 : (nmT b E p true).1 = 0
  · rw [pM_t c1]
    have ib := idxF_b (w := (nmT b E p true).2.2) st.1 0 (by omega)
    by_cases c2 : idxF (nmT b E p true).2.2 st.1 0 = -1
    · rw [if_pos c2]
      obtain ⟨g1, a1, B1, k1⟩ := on.2.1 c1 c2
      exact ⟨g1, fin g1 0 (B1.ne (by decide)) (T.tk k1) (by omega) (by omega) a1, B1, kTR k1⟩
    · rw [if_neg c2]
      obtain ⟨g1, a1, R1, e36, k1⟩ := on.2.2 c1 c2
      have T1 := T.tk k1
      generalize idxF (nmT b E p true).2.2 st.1 0 = ia at *
      generalize tL b E (tS b E p) = p1 at *
      have ak := R_asks (d := d + 1) (a := 273) (by unfold isW; omega) R1
      have aw : hasW b E (wordL 273) p1 true = true ↔ wno b E p1 true = 6 := hasW_no (by omega) rfl
      by_cases c3 : wno b E p1 true = 6
      · rw [pW_t c3]
        obtain ⟨g2, a2, R2, k2⟩ := ak.1 (aw.mpr c3)
        have T2 := T1.tk k2
        generalize tL b E (tS b E p1) = p2 at *
        have le2 := tS_le (b := b) (E := E) R2.2.1
        have on2 := R_oneOf (d := d) R2 T2 O.nm
        have nmb2 := nmT_b (b := b) (E := E) (p := p2) (gl := true) hE R2.2.1
        by_cases c4 : (nmT b E p2 true).1 = 0
        · rw [pM_t c4]
          have ib2 := idxF_b (w := (nmT b E p2 true).2.2) st.1 0 (by omega)
          by_cases c5 : idxF (nmT b E p2 true).2.2 st.1 0 = -1
          · rw [if_pos (Or.inl c5)]
            obtain ⟨g3, a3, B3, k3⟩ := on2.2.1 c4 c5
            have b5 : ¬ fd g3 264 5 = 0 := B3.ne (by decide)
            have b3 := fun x y => B_number (d := d + 4) (g := g3) (x := x) (y := y) b5
            have := fd_lo g3 264 5; have := fd_hi g3 264 5
            refine ⟨g3, ?_, B3, kTR (k1.trans (k2.trans k3))⟩
            rw [U_X12_thinksTold]
            (try simp only [iI_lit, iI_neg]) <;> simp (maxSteps := 1000000) (disch := decide) only [iI_lit, iI_neg, iI_add, mm_bI_some, mm_bV_some, mm_bL_some, ↓reduceIte, i10, i00, i11, eq_self, not_true_eq_false, not_false_eq_true, ite_true, ite_false, if_true, if_false, and_true, true_and, and_false, false_and, and_self, or_self, or_false, false_or, or_true, true_or, iI_eq, iI_lt, iI_le, Int.reduceEq, Int.reduceLT, Int.reduceLE, ↓bI_eq a1, ↓bV_eq a2, ↓bI_eq a3, ↓bI_eq (b3 (iI 0) (iI 9)), nz5 b5]
          · obtain ⟨g3, a3, R3, e363, k3⟩ := on2.2.2 c4 c5
            have T3 := T2.tk k3
            have h53 := R3.2.2.1
            generalize idxF (nmT b E p2 true).2.2 st.1 0 = ib' at *
            clear on on2 ak fin
            generalize tL b E (tS b E p2) = p3 at *
            have K3 : Kf QTk nL g g3 := k1.trans (k2.trans k3)
            by_cases c6 : ib' = ia
            · rw [if_pos (Or.inr c6)]
              obtain ⟨g4, f1, B4, k4⟩ := R_fail (d := d + 4) (g := g3) (k := 3) (pl := (tS b E p2 : Int)) h53 (by omega) (by omega) (by omega) (by omega)
              have b5 : ¬ fd g4 264 5 = 0 := B4.ne (by decide)
              have b3 := fun x y => B_number (d := d + 4) (g := g4) (x := x) (y := y) b5
              have := fd_lo g4 264 5; have := fd_hi g4 264 5
              refine ⟨g4, ?_, B4, kTR (K3.trans k4)⟩
              rw [U_X12_thinksTold]
              have eqv : (iI ia = iI ib') = True := iI_sm c6.symm
              rw [← rdE e363] at f1
              (try simp only [iI_lit, iI_neg]) <;> simp (maxSteps := 1000000) (disch := decide) only [iI_lit, iI_neg, iI_add, mm_bI_some, mm_bV_some, mm_bL_some, ↓reduceIte, i10, i00, i11, eq_self, not_true_eq_false, not_false_eq_true, ite_true, ite_false, if_true, if_false, and_true, true_and, and_false, false_and, and_self, or_self, or_false, false_or, or_true, true_or, iI_eq, iI_lt, iI_le, Int.reduceEq, Int.reduceLT, Int.reduceLE, ↓bI_eq a1, ↓bV_eq a2, ↓bI_eq a3, rdE h53, eqv, ↓bV_eq f1, ↓bI_eq (b3 (iI 0) (iI 9)), nz5 b5]
            · rw [if_neg (by omega)]
              have nev : (iI ia = iI ib') = False := iI_ne (by omega) (by omega) (by omega) (by omega) (fun z => c6 z.symm)
              obtain ⟨g4, n1, k4, n2, n3⟩ := R_number (d := d + 3) (lo := 0) (hi := 9) R3 (by omega) (by omega)
              rw [show ((0 : Nat) : Int) = 0 from rfl, show ((9 : Nat) : Int) = 9 from rfl] at n1
              have nb1 := numT_b (b := b) (E := E) (p := p3) (gl := true) (lo := 0) (hi := 9) hE R3.2.1
              by_cases c7 : (numT b E 0 9 p3 true).1 = 0
              · rw [pN_t c7]
                obtain ⟨R4, _⟩ := n2 c7
                have nv := nb1.2.2.2 c7
                have nv1 := nv.1
                have nv2 := nv.2.1
                have T4 := T3.tk k4
                have h54 := R4.2.2.1
                generalize (numT b E 0 9 p3 true).2.2 = v at *
                obtain ⟨i, ei⟩ : ∃ i : Nat, ia = (i : Int) := ⟨ia.toNat, by omega⟩
                obtain ⟨j, ej⟩ : ∃ j : Nat, ib' = (j : Int) := ⟨ib'.toNat, by omega⟩
                have nn : (8 * ia + ib').toNat = 8 * i + j := by omega
                have kw : Kf (fun a x => a = 296 ∧ x = 8 * i + j) nL g4 (wI g4 296 (8 * i + j) (iI v)) := Kf.refl.wI ⟨rfl, rfl⟩
                have z : ∀ a x, a ≠ 296 → fd (wI g4 296 (8 * i + j) (iI v)) a x = fd g4 a x := fun a x h => fd_wI_row h
                refine ⟨wI g4 296 (8 * i + j) (iI v), ?_, ?_, ?_, (kTR (K3.trans k4)).trans (kw.mono (fun a x q => by unfold QRt; omega) (fun a x q => q.elim))⟩
                · have lt0 : (iI (8 * ia + ib') < iI 0) = False := iL_f (by omega) (by omega) (by omega) (by omega) (by omega)
                  have cl : (iI (8 * ia + ib')).toNatClampNeg = 8 * i + j := by rw [iI_nat (by omega) (by omega)]; exact nn
                  have f64 : (64 ≤ 8 * i + j) = False := eq_false (by omega)
                  rw [U_X12_thinksTold]
                  (try simp only [iI_lit, iI_neg]) <;> simp (maxSteps := 1000000) (disch := decide) only [iI_lit, iI_neg, iI_add, mm_bI_some, mm_bV_some, mm_bL_some, ↓reduceIte, i10, i00, i11, eq_self, not_true_eq_false, not_false_eq_true, ite_true, ite_false, if_true, if_false, and_true, true_and, and_false, false_and, and_self, or_self, or_false, false_or, or_true, true_or, iI_eq, iI_lt, iI_le, Int.reduceEq, Int.reduceLT, Int.reduceLE, ↓bI_eq a1, ↓bV_eq a2, ↓bI_eq a3, rdE h53, nev, ↓bI_eq n1, rdE h54, iI_mul, lt0, cl, f64]
                · obtain ⟨Tx, hp, h5', ha, hg, h6⟩ := R4
                  refine ⟨Tx.kf kw (by intro a j; omega), hp, (z _ _ (by omega)).trans h5', ?_, ?_, (z _ _ (by omega)).trans h6⟩
                  · rw [z _ _ (by omega)]; exact ha
                  · rw [z _ _ (by omega)]; exact hg
                · obtain ⟨t1, t2, t3, t4, t5, t6⟩ := T4
                  refine ⟨⟨?_, ?_⟩, fun i x hx => ?_, fun y hj => ?_, ?_, ⟨?_, fun i v hv => ?_⟩, fun w hw => ?_⟩
                  · rw [z _ _ (by omega)]; exact t1.1
                  · rw [z _ _ (by omega)]; exact t1.2
                  · rw [fl_wI, z _ _ (by omega), z _ _ (by omega), z _ _ (by omega)]; exact t2 i x hx
                  · show fd (wI g4 296 (8 * i + j) (iI v)) 296 y = up st.2.1 (8 * ia + ib') v (y : Nat)
                    by_cases cc : y = 8 * i + j
                    · rw [cc, ei, ej, show ((8 * i + j : Nat) : Int) = 8 * (i : Int) + (j : Int) by omega, up_same]
                      exact fd_wI_same (by omega) (by omega)
                    · rw [up_ne (by omega), fd_wI_col cc]
                      exact t3 y hj
                  · rw [z _ _ (by omega)]; exact t4
                  · rw [z _ _ (by omega)]; exact t5.1
                  · rw [z _ _ (by omega)]; exact t5.2 i v hv
                  · rw [z _ _ (by omega), z _ _ (by omega)]; exact t6 w hw
              · rw [pN_f c7]
                have B4 := n3 c7
                have b5 : ¬ fd g4 264 5 = 0 := B4.ne c7
                have := fd_lo g4 264 5; have := fd_hi g4 264 5
                refine ⟨g4, ?_, B4, kTR (K3.trans k4)⟩
                generalize (numT b E 0 9 p3 true).2.2 = v at *
                rw [U_X12_thinksTold]
                (try simp only [iI_lit, iI_neg]) <;> simp (maxSteps := 1000000) (disch := decide) only [iI_lit, iI_neg, iI_add, mm_bI_some, mm_bV_some, mm_bL_some, ↓reduceIte, i10, i00, i11, eq_self, not_true_eq_false, not_false_eq_true, ite_true, ite_false, if_true, if_false, and_true, true_and, and_false, false_and, and_self, or_self, or_false, false_or, or_true, true_or, iI_eq, iI_lt, iI_le, Int.reduceEq, Int.reduceLT, Int.reduceLE, ↓bI_eq a1, ↓bV_eq a2, ↓bI_eq a3, rdE h53, nev, ↓bI_eq n1, nz5 b5]
        · rw [pM_f c4]
          obtain ⟨g3, a3, B3, k3⟩ := on2.1 c4
          have b5 : ¬ fd g3 264 5 = 0 := B3.ne c4
          have b3 := fun x y => B_number (d := d + 4) (g := g3) (x := x) (y := y) b5
          have := fd_lo g3 264 5; have := fd_hi g3 264 5
          refine ⟨g3, ?_, B3, kTR (k1.trans (k2.trans k3))⟩
          rw [U_X12_thinksTold]
          (try simp only [iI_lit, iI_neg]) <;> simp (maxSteps := 1000000) (disch := decide) only [iI_lit, iI_neg, iI_add, mm_bI_some, mm_bV_some, mm_bL_some, ↓reduceIte, i10, i00, i11, eq_self, not_true_eq_false, not_false_eq_true, ite_true, ite_false, if_true, if_false, and_true, true_and, and_false, false_and, and_self, or_self, or_false, false_or, or_true, true_or, iI_eq, iI_lt, iI_le, Int.reduceEq, Int.reduceLT, Int.reduceLE, ↓bI_eq a1, ↓bV_eq a2, ↓bI_eq a3, ↓bI_eq (b3 (iI 0) (iI 9)), nz5 b5]
      · rw [pW_f c3]
        obtain ⟨g2, a2, B2, k2⟩ := ak.2 (fun z => c3 (aw.mp z))
        have b5 : ¬ fd g2 264 5 = 0 := B2.ne (by decide)
        have b2' := B_oneOf (d := d + 3) b5 (T1.tk k2) O.nm
        have b3 := fun x y => B_number (d := d + 4) (g := g2) (x := x) (y := y) b5
        have := fd_lo g2 264 5; have := fd_hi g2 264 5
        refine ⟨g2, ?_, B2, kTR (k1.trans k2)⟩
        rw [U_X12_thinksTold]
        (try simp only [iI_lit, iI_neg]) <;> simp (maxSteps := 1000000) (disch := decide) only [iI_lit, iI_neg, iI_add, mm_bI_some, mm_bV_some, mm_bL_some, ↓reduceIte, i10, i00, i11, eq_self, not_true_eq_false, not_false_eq_true, ite_true, ite_false, if_true, if_false, and_true, true_and, and_false, false_and, and_self, or_self, or_false, false_or, or_true, true_or, iI_eq, iI_lt, iI_le, Int.reduceEq, Int.reduceLT, Int.reduceLE, ↓bI_eq a1, ↓bV_eq a2, ↓bI_eq b2', ↓bI_eq (b3 (iI 0) (iI 9)), nz5 b5]
  · rw [pM_f c1]
    obtain ⟨g1, a1, B1, k1⟩ := on.1 c1
    exact ⟨g1, fin g1 0 (B1.ne c1) (T.tk k1) (by omega) (by omega) a1, B1, kTR k1⟩
set_option maxHeartbeats 8000000 in
/-- a rule's codes are laid to those told ahead of it -/
theorem R_92 {w L : Nat} {c : List Int} (w2 : w ≤ 2) (hl : L + c.length ≤ 1600) : ∀ (k i : Nat) (g : mm_H), i + k = c.length → fd g 264 102 = (c.length : Nat) → (∀ j v, c[j]? = some v → fd g 332 j = v) → fd g 264 51 = ((L + i : Nat) : Int) → ∃ g', mm_D (mm_M mm_T0 d) cd_X12_codesTold 92 [.ref 264, .int (iI (w : Nat)), .null, .int (iI (i : Nat))] [] g = some (none, g') ∧ fd g' 264 51 = ((L + c.length : Nat) : Int) ∧ fd g' 298 w = ((L + c.length : Nat) : Int) ∧ (∀ j v, i ≤ j → c[j]? = some v → fd g' 299 (L + j) = v) ∧ Kf (fun a x => (a = 264 ∧ x = 51) ∨ (a = 298 ∧ x = w) ∨ (a = 299 ∧ L + i ≤ x ∧ x < L + c.length)) nL g g'
  | 0, i, g, hi, e102, hc, e51 => by
    have ei : i = c.length := by omega
    have nw : ((w : Nat) : Int).toNat = w := by omega
    rw [ei] at e51
    refine ⟨wI g 298 w (iI ((L + c.length : Nat) : Int)), ?_, (fd_wI_row (by omega)).trans e51, fd_wI_same (by omega) (by omega), fun j v hj hv => ?_, Kf.refl.wI (by omega)⟩
    · rw [U_X12_codesTold_92]
      simp (disch := omega) only [iI_lit, jI_lit, iI_neg, jI_neg, iI_add, iI_sub, iI_mul, jI_add, jI_sub, jI_mul, rdI, rdL, iI_lt, iI_le, iI_eq, iI_nat, iI_b2_0, iI_b2_1, mm_bI_some, mm_bV_some, mm_bL_some, mm_bA_some, fd_wL, fd_wR, fl_wI, fl_wR, re_wI, re_wL, re_wC, ite_true, ite_false, not_true_eq_false, not_false_eq_true, lq_ge, lq_le, lq_gt, lq_lt, lq_eq, jI_lt, jI_le, jI_eq, if_pos, if_neg, e102, nw, e51]
    · have := (List.getElem?_eq_some_iff.mp hv).1
      omega
  | k + 1, i, g, hi, e102, hc, e51 => by
    have ilt : i < c.length := by omega
    have vi := hc i _ (List.getElem?_eq_getElem ilt)
    have vb : -2147483648 ≤ c[i] ∧ c[i] < 2147483648 := by rw [← vi]; exact ⟨fd_lo _ _ _, fd_hi _ _ _⟩
    have ni : ((i : Nat) : Int).toNat = i := by omega
    have nL' : ((L + i : Nat) : Int).toNat = L + i := by omega
    have e1 : (i : Int) + 1 = ((i + 1 : Nat) : Int) := by omega
    have e2 : ((L + i : Nat) : Int) + 1 = ((L + (i + 1) : Nat) : Int) := by omega
    generalize hg1 : wI (wI g 299 (L + i) (iI c[i])) 264 51 (iI ((L + (i + 1) : Nat) : Int)) = g1
    have f51 : fd (wI g 299 (L + i) (iI c[i])) 264 51 = ((L + i : Nat) : Int) := (fd_wI_row (by omega)).trans e51
    have k1 : Kf (fun a x => (a = 264 ∧ x = 51) ∨ (a = 299 ∧ x = L + i)) nL g g1 := by
      rw [← hg1]
      exact (Kf.refl.wI (by omega)).wI (by omega)
    have g51 : fd g1 264 51 = ((L + (i + 1) : Nat) : Int) := by rw [← hg1]; exact fd_wI_same (by omega) (by omega)
    have gi : fd g1 299 (L + i) = c[i] := by rw [← hg1, fd_wI_row (by omega), fd_wI_same vb.1 vb.2]
    obtain ⟨g', m1, m2, m3, m4, m5⟩ := R_92 w2 hl k (i + 1) g1 (by omega) ((k1.1 _ _ (by omega)).trans e102) (fun j v hv => (k1.1 _ _ (by omega)).trans (hc j v hv)) g51
    refine ⟨g', ?_, m2, m3, fun j v hj hv => ?_, (k1.monoQ (fun a x q => by omega)).trans (m5.monoQ (fun a x q => by omega))⟩
    · rw [← m1, U_X12_codesTold_92]
      simp (disch := omega) only [iI_lit, jI_lit, iI_neg, jI_neg, iI_add, iI_sub, iI_mul, jI_add, jI_sub, jI_mul, rdI, rdL, iI_lt, iI_le, iI_eq, iI_nat, iI_b2_0, iI_b2_1, mm_bI_some, mm_bV_some, mm_bL_some, mm_bA_some, fd_wL, fd_wR, fl_wI, fl_wR, re_wI, re_wL, re_wC, ite_true, ite_false, not_true_eq_false, not_false_eq_true, lq_ge, lq_le, lq_gt, lq_lt, lq_eq, jI_lt, jI_le, jI_eq, if_pos, if_neg, e102, ni, e51, nL', vi, f51, e1, e2, hg1]
    · by_cases cj : j = i
      · subst cj
        rw [List.getElem?_eq_getElem ilt] at hv
        rw [m5.1 _ _ (by omega), gi]
        exact Option.some.inj hv
      · exact m4 j v (by omega) hv
set_option maxHeartbeats 8000000 in
theorem R_codesT {w : Nat} {pl : Int} {q0 : Nat} (w2 : w ≤ 2) (pb : 0 ≤ pl ∧ pl ≤ 2000) (R : RS g b E p true) (T : RTs g hm st) (hl : (rAll st.2.2.2).length ≤ p) : RSo b E hm g (mm_M mm_T0 (d + 10) 209 [.ref 264, .int (iI (w : Nat)), .int (iI pl)] g) (stRule b E w st pl p) := by
  have hE := R.1.2.1
  have hp := R.2.1
  have h5 := R.2.2.1
  have nw : ((w : Nat) : Int).toNat = w := by omega
  have t6 := T.2.2.2.2.2 w (by omega)
  unfold stRule
  by_cases c0 : (rOf w st.2.2.2 0).isSome = true
  · rw [if_pos c0]
    obtain ⟨y, hy⟩ := Option.isSome_iff_exists.mp c0
    have ty := (t6.2 y hy).1
    have yb : ((y.1 : Nat) : Int) < 2147483648 := by rw [← ty]; exact fd_hi _ _ _
    obtain ⟨g1, f1, B1, k1⟩ := R_fail (d := d + 8) (g := g) (k := 5) (pl := pl) h5 (by omega) (by omega) (by omega) (by omega)
    have b5 : ¬ fd g1 264 5 = 0 := B1.ne (by decide)
    have := fd_lo g1 264 5; have := fd_hi g1 264 5
    refine ⟨g1, ?_, B1, kTR k1⟩
    rw [U_X12_codesTold]
    simp (disch := omega) only [iI_lit, jI_lit, iI_neg, jI_neg, iI_add, iI_sub, iI_mul, jI_add, jI_sub, jI_mul, rdI, rdL, iI_lt, iI_le, iI_eq, iI_nat, iI_b2_0, iI_b2_1, mm_bI_some, mm_bV_some, mm_bL_some, mm_bA_some, fd_wL, fd_wR, fl_wI, fl_wR, re_wI, re_wL, re_wC, ite_true, ite_false, not_true_eq_false, not_false_eq_true, lq_ge, lq_le, lq_gt, lq_lt, lq_eq, jI_lt, jI_le, jI_eq, if_pos, if_neg, h5, nw, ty, f1]
  · rw [if_neg c0]
    have hn : rOf w st.2.2.2 0 = none := by
      cases h : rOf w st.2.2.2 0 with
      | none => rfl
      | some y => rw [h] at c0; exact absurd rfl c0
    have tn := t6.1 hn
    generalize hg1 : wI (wI (wI (wI (wI g 264 54 (iI (w : Nat))) 264 102 (iI 0)) 264 104 (iI 0)) 264 105 (iI 0)) 264 106 (iI 0) = g1
    have k1 : Kf (fun a x => a = 264 ∧ (x = 54 ∨ x = 102 ∨ x = 104 ∨ x = 105 ∨ x = 106)) nL g g1 := by
      rw [← hg1]
      exact ((((Kf.refl.wI (by omega)).wI (by omega)).wI (by omega)).wI (by omega)).wI (by omega)
    have K1 : Kf QRt LRt g g1 := k1.mono (fun a x q => by unfold QRt QQ; omega) (fun a x q => q.elim)
    have T1 := T.kf k1 (by intro a j; omega) (fun j z => z)
    have S1 : ST g1 b E p true (w : Nat) [] [] [] 0 := by
      have z : ∀ a j, ¬ (a = 264 ∧ (j = 54 ∨ j = 102 ∨ j = 104 ∨ j = 105 ∨ j = 106)) → fd g1 a j = fd g a j := fun a j h => k1.1 a j h
      refine ⟨?_, ⟨⟨?_, trivial⟩, ⟨?_, fun i v h => absurd h (by simp)⟩, ?_, ?_⟩, ?_, Nat.zero_le _, Nat.le_refl _⟩
      · obtain ⟨Tx, hp', h5', ha, hg, h6⟩ := R
        refine ⟨Tx.kf k1 (by intro a j; omega), hp', (z _ _ (by omega)).trans h5', ?_, ?_, (z _ _ (by omega)).trans h6⟩
        · rw [z _ _ (by omega)]; exact ha
        · rw [z _ _ (by omega)]; exact hg
      · rw [← hg1, fd_wI_col (by omega), fd_wI_col (by omega), fd_wI_same (by omega) (by omega)]; rfl
      · rw [← hg1, fd_wI_col (by omega), fd_wI_col (by omega), fd_wI_col (by omega), fd_wI_same (by omega) (by omega)]; rfl
      · rw [← hg1, fd_wI_col (by omega), fd_wI_same (by omega) (by omega)]; rfl
      · rw [← hg1, fd_wI_same (by omega) (by omega)]; rfl
      · rw [← hg1, fd_wI_col (by omega), fd_wI_col (by omega), fd_wI_col (by omega), fd_wI_col (by omega), fd_wI_same (by omega) (by omega)]
    have rr : match rd b E (w : Nat) (4 * E + 8) (if (w : Int) = 2 then 3 else 1) 0 p true 0 [] with
        | .inl f => ∃ g', mm_M mm_T0 (d + 9) (if w = 2 then 302 else 298) [.ref 264] g1 = some (none, g') ∧ Bad g' f.1 f.2 ∧ Kf QQ nL g1 g'
        | .inr y => ∃ g', mm_M mm_T0 (d + 9) (if w = 2 then 302 else 298) [.ref 264] g1 = some (none, g') ∧ ST g' b E y.1 y.2.1 (w : Nat) [] [] ([] ++ y.2.2) 0 ∧ Kf QQ nL g1 g' := by
      by_cases c2 : w = 2
      · rw [if_pos c2, if_pos (by omega)]
        exact R_test (d := d) (n := 4 * E + 8) (by omega) (by omega) S1 (by omega) (by omega)
      · rw [if_neg c2, if_neg (by omega)]
        have := R_sums (d := d + 2) (n := 4 * E + 8) (wt := 0) (c := []) (by omega) (by omega) S1 (by omega) (by omega) (by intro y hy; exact absurd hy (by simp))
        revert this
        cases rd b E (w : Nat) (4 * E + 8) 1 0 p true 0 [] with
        | inl f => exact fun ⟨g', a1, a2, a3⟩ => ⟨g', a1, a2.1, a3⟩
        | inr y => exact fun z => z
    have ok : Pg E p 1 0 (rd b E (w : Nat) (4 * E + 8) (if (w : Int) = 2 then 3 else 1) 0 p true 0 []) := by
      have Oka := Ok_all (b := b) (w := (w : Nat)) hE (4 * E + 8)
      by_cases c2 : w = 2
      · rw [if_pos (by omega)]
        exact Oka.2.2.2.1 0 p true 0 [] (by omega) (by omega)
      · rw [if_neg (by omega)]
        exact Oka.2.1 0 p true 0 [] (by omega) (by omega)
    have stp : mm_M mm_T0 (d + 10) 209 [.ref 264, .int (iI (w : Nat)), .int (iI pl)] g = mm_bV (mm_M mm_T0 (d + 9) (if w = 2 then 302 else 298) [.ref 264] g1) (fun h3 => if (h3.1 264 5) = 0 then (mm_D (mm_M mm_T0 (d + 9)) cd_X12_codesTold 92 [.ref 264, .int (iI (w : Nat)), .null, .int (iI 0)] [] (wI h3 297 w (h3.1 264 51))) else (some (none, h3))) := by
      rw [U_X12_codesTold]
      by_cases c2 : w = 2
      · rw [if_pos c2]
        simp (disch := omega) only [iI_lit, jI_lit, iI_neg, jI_neg, iI_add, iI_sub, iI_mul, jI_add, jI_sub, jI_mul, rdI, rdL, iI_lt, iI_le, iI_eq, iI_nat, iI_b2_0, iI_b2_1, mm_bI_some, mm_bV_some, mm_bL_some, mm_bA_some, fd_wL, fd_wR, fl_wI, fl_wR, re_wI, re_wL, re_wC, ite_true, ite_false, not_true_eq_false, not_false_eq_true, lq_ge, lq_le, lq_gt, lq_lt, lq_eq, jI_lt, jI_le, jI_eq, if_pos, if_neg, h5, nw, tn, hg1]
      · rw [if_neg c2]
        simp (disch := omega) only [iI_lit, jI_lit, iI_neg, jI_neg, iI_add, iI_sub, iI_mul, jI_add, jI_sub, jI_mul, rdI, rdL, iI_lt, iI_le, iI_eq, iI_nat, iI_b2_0, iI_b2_1, mm_bI_some, mm_bV_some, mm_bL_some, mm_bA_some, fd_wL, fd_wR, fl_wI, fl_wR, re_wI, re_wL, re_wC, ite_true, ite_false, not_true_eq_false, not_false_eq_true, lq_ge, lq_le, lq_gt, lq_lt, lq_eq, jI_lt, jI_le, jI_eq, if_pos, if_neg, h5, nw, tn, hg1]
    rw [stp]
    revert rr ok
    cases rd b E (w : Nat) (4 * E + 8) (if (w : Int) = 2 then 3 else 1) 0 p true 0 [] with
    | inl f =>
      intro rr ok
      obtain ⟨g2, a1, B2, k2⟩ := rr
      have fk : f.1 = 1 ∨ f.1 = 2 ∨ f.1 = 4 := ok.1
      have b5 := bad_1 (B2.ne (by omega))
      refine ⟨g2, ?_, B2, K1.trans (kQR k2)⟩
      rw [a1, mm_bV_some, if_neg b5]
    | inr y =>
      intro rr ok
      obtain ⟨g2, a1, S2, k2⟩ := rr
      have o1 : p + 1 ≤ y.1 := ok.1
      have o2 : y.1 ≤ E := ok.2.1
      have o3 : y.2.2.length + p ≤ 0 + y.1 := ok.2.2
      rw [List.nil_append] at S2
      have T2 := T1.qq k2
      have h52 := S2.1.2.2.1
      have e51 := T2.2.2.2.2.1.1
      generalize hg3 : wI g2 297 w (iI ((rAll st.2.2.2).length : Nat)) = g3
      have k3 : Kf (fun a x => a = 297 ∧ x = w) nL g2 g3 := by
        rw [← hg3]
        exact Kf.refl.wI ⟨rfl, rfl⟩
      have f97 : fd g3 297 w = ((rAll st.2.2.2).length : Nat) := by rw [← hg3]; exact fd_wI_same (by omega) (by omega)
      obtain ⟨g4, m1, m2, m3, m4, m5⟩ := R_92 (d := d + 9) (w := w) (L := (rAll st.2.2.2).length) (c := y.2.2) w2 (by omega) y.2.2.length 0 g3 (by omega) ((k3.1 _ _ (by omega)).trans S2.2.1.2.1.1) (fun j v hv => (k3.1 _ _ (by omega)).trans (S2.2.1.2.1.2 j v hv)) ((k3.1 _ _ (by omega)).trans (by rw [e51]; omega))
      rw [show ((0 : Nat) : Int) = 0 from rfl] at m1
      have z4 : ∀ a x, ¬ ((a = 264 ∧ x = 51) ∨ ((a = 297 ∨ a = 298) ∧ x = w) ∨ (a = 299 ∧ (rAll st.2.2.2).length ≤ x)) → fd g4 a x = fd g2 a x := fun a x q => by
        rw [m5.1 _ _ (by omega), k3.1 _ _ (by omega)]
      have K4 : Kf QRt LRt g2 g4 := (k3.mono (fun a x q => by unfold QRt; omega) (fun a x q => q.elim)).trans (m5.mono (fun a x q => by unfold QRt; omega) (fun a x q => q.elim))
      refine ⟨g4, ?_, ?_, ?_, K1.trans ((kQR k2).trans K4)⟩
      · rw [a1, mm_bV_some]
        simp (disch := omega) only [iI_lit, jI_lit, iI_neg, jI_neg, iI_add, iI_sub, iI_mul, jI_add, jI_sub, jI_mul, rdI, rdL, iI_lt, iI_le, iI_eq, iI_nat, iI_b2_0, iI_b2_1, mm_bI_some, mm_bV_some, mm_bL_some, mm_bA_some, fd_wL, fd_wR, fl_wI, fl_wR, re_wI, re_wL, re_wC, ite_true, ite_false, not_true_eq_false, not_false_eq_true, lq_ge, lq_le, lq_gt, lq_lt, lq_eq, jI_lt, jI_le, jI_eq, if_pos, if_neg, h52, e51, hg3, m1]
      · obtain ⟨Tx, hp', h5', ha, hg, h6⟩ := S2.1
        refine ⟨Tx.kf K4 (by intro a j; unfold QRt QQ; omega), hp', (z4 _ _ (by omega)).trans h5', ?_, ?_, (z4 _ _ (by omega)).trans h6⟩
        · rw [z4 _ _ (by omega)]; exact ha
        · rw [z4 _ _ (by omega)]; exact hg
      · obtain ⟨t1, t2, t3, t4, t5, t6'⟩ := T2
        refine ⟨⟨?_, ?_⟩, fun i x hx => ?_, fun j hj => ?_, ?_, ⟨?_, fun i v hv => ?_⟩, fun x hx => ?_⟩
        · rw [z4 _ _ (by omega)]; exact t1.1
        · rw [z4 _ _ (by omega)]; exact t1.2
        · have lf : fl g4 292 i = fl g2 292 i := by rw [m5.2.1 _ _ (fun z => z), k3.2.1 _ _ (fun z => z)]
          rw [lf, z4 _ _ (by omega), z4 _ _ (by omega), z4 _ _ (by omega)]; exact t2 i x hx
        · rw [z4 _ _ (by omega)]; exact t3 j hj
        · rw [z4 _ _ (by omega)]; exact t4
        · show fd g4 264 51 = ((rAll (st.2.2.2 ++ [(((w : Nat) : Int), y.2.2)])).length : Nat)
          rw [rAll_app, List.length_append]; exact m2
        · have hv' : (rAll (st.2.2.2 ++ [((w : Int), y.2.2)]))[i]? = some v := hv
          rw [rAll_app] at hv'
          by_cases ci : i < (rAll st.2.2.2).length
          · rw [List.getElem?_append_left ci] at hv'
            rw [z4 _ _ (by omega)]
            exact t5.2 i v hv'
          · rw [List.getElem?_append_right (by omega)] at hv'
            have := m4 (i - (rAll st.2.2.2).length) v (by omega) hv'
            rw [show (rAll st.2.2.2).length + (i - (rAll st.2.2.2).length) = i by omega] at this
            exact this
        · show (rOf x (st.2.2.2 ++ [(((w : Nat) : Int), y.2.2)]) 0 = none → _) ∧ ∀ z, rOf x (st.2.2.2 ++ [(((w : Nat) : Int), y.2.2)]) 0 = some z → _
          by_cases cx : x = w
          · subst cx
            have f97' : fd g4 297 x = ((rAll st.2.2.2).length : Nat) := (m5.1 _ _ (by omega)).trans f97
            rw [rOf_app, hn]
            refine ⟨fun h => ?_, fun z h => ?_⟩
            · have h' : (if ((x : Nat) : Int) = (x : Nat) then some (0 + (rAll st.2.2.2).length, y.2.2) else none) = none := h
              rw [if_pos rfl] at h'
              exact absurd h' (by simp)
            · have h' : (if ((x : Nat) : Int) = (x : Nat) then some (0 + (rAll st.2.2.2).length, y.2.2) else none) = some z := h
              rw [if_pos rfl] at h'
              have e := Option.some.inj h'
              rw [← e, f97', m3]
              refine ⟨?_, ?_⟩
              · show (((rAll st.2.2.2).length : Nat) : Int) = ((0 + (rAll st.2.2.2).length : Nat) : Int)
                omega
              · show ((((rAll st.2.2.2).length + y.2.2.length : Nat)) : Int) = ((0 + (rAll st.2.2.2).length + y.2.2.length : Nat) : Int)
                omega
          · have e0 : rOf (x : Nat) (st.2.2.2 ++ [(((w : Nat) : Int), y.2.2)]) 0 = rOf (x : Nat) st.2.2.2 0 := by
              rw [rOf_app]
              cases h : rOf (x : Nat) st.2.2.2 0 with
              | some y => rfl
              | none =>
                show (if ((w : Nat) : Int) = (x : Nat) then some (0 + (rAll st.2.2.2).length, y.2.2) else none) = none
                rw [if_neg (by omega)]
            rw [e0, z4 _ _ (by omega), z4 _ _ (by omega)]
            exact t6' x hx
end RST3
