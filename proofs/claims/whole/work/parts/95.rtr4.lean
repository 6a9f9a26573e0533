section RTD
variable {d : Nat} {g : mm_H} {b : Nat → Int} {E p : Nat} {gl : Bool}
theorem RS.wj {j : Nat} {v : Int32} (R : RS g b E p gl) (hj : j = 37 ∨ j = 52) : RS (wI g 264 j v) b E p gl := by
  have kw : Kf (fun a k => a = 264 ∧ k = j) nL g (wI g 264 j v) := Kf.refl.wI ⟨rfl, rfl⟩
  obtain ⟨Tx, hp, h5, ha, hg, h6⟩ := R
  refine ⟨Tx.kf kw (by intro a k; omega), hp, (kw.1 _ _ (by omega)).trans h5, ?_, ?_, (kw.1 _ _ (by omega)).trans h6⟩
  · rw [kw.1 264 2 (by omega)]; exact ha
  · rw [kw.1 264 4 (by omega)]; exact hg
theorem RTs.w52 {h0 : Int} {st : Tst} {v : Int32} (T : RTs g h0 st) : RTs (wI g 264 52 v) h0 st := T.kf (Kf.refl.wI (Q := fun a k => a = 264 ∧ k = 52) (L := nL) ⟨rfl, rfl⟩) (by intro a j; omega) (fun j z => z)
theorem kz {g' : mm_H} (k : Kf QRs LRt g g') : Kf QRz LRt g g' := k.monoQ (fun a x q => Or.inl q)
theorem kz37 {v : Int32} : Kf QRz LRt g (wI g 264 37 v) := Kf.refl.wI (Or.inl (Or.inl (Or.inr (Or.inl ⟨rfl, Or.inl rfl⟩))))
theorem n1_z : ¬ QRs 264 1 := by
  unfold QRs QRt QQ
  omega
set_option maxHeartbeats 8000000 in
theorem R_rdT (hE : E ≤ 1600) (e1 : fd g 264 1 = (E : Int)) (Tp : TpR g b E) (K : IvK g) : RTA (d + 38) g (mm_M mm_T0 (d + 39) 211 [.ref 264] g) (trA b E) := by
  obtain ⟨g3, m, R3, T3, f1, k3⟩ := R_begin (d := d + 38) hE e1 Tp K
  have le0 := tS_le (b := b) (E := E) (p := 0) (Nat.zero_le _)
  have ak := R_asks (d := d + 33) (a := 267) (by unfold isW; omega) R3
  have aw : hasW b E (wordL 267) 0 false = true ↔ wno b E 0 false = 0 := hasW_no (by omega) rfl
  rw [m]
  unfold trA
  by_cases c1 : wno b E 0 false = 0
  · rw [if_pos c1]
    obtain ⟨g4, a4, R4, k4⟩ := ak.1 (aw.mpr c1)
    clear ak
    have T4 := T3.tk k4
    generalize tL b E (tS b E 0) = p1 at *
    obtain ⟨g5, n1, k5, n2, n3⟩ := R_number (d := d + 35) (lo := 2) (hi := 9) R4 (by omega) (by omega)
    rw [show ((2 : Nat) : Int) = 2 from rfl, show ((9 : Nat) : Int) = 9 from rfl] at n1
    have nb := numT_b (b := b) (E := E) (p := p1) (gl := true) (lo := 2) (hi := 9) hE R4.2.1
    have f51 : fd g5 264 1 = 0 := by rw [k5.1 _ _ (by unfold QTk; omega), k4.1 _ _ (by unfold QTk; omega)]; exact f1
    by_cases c2 : (numT b E 2 9 p1 true).1 = 0
    · rw [if_pos c2]
      obtain ⟨R5, _⟩ := n2 c2
      have nv := nb.2.2.2 c2
      clear n2 n3 nb
      have nv1 := nv.1
      have nv2 := nv.2.1
      generalize (numT b E 2 9 p1 true).2.2 = hv at *
      generalize tD b E (tS b E p1) = p2 at *
      have T6 := (T4.tk k5).hous (v := hv) ⟨by omega, by omega⟩
      have R6 : RS (wI g5 264 37 (iI hv)) b E p2 true := R5.wj (Or.inl rfl)
      have K6 : Kf QRz LRt g (wI g5 264 37 (iI hv)) := k3.trans ((kz (kTs k4)).trans ((kz (kTs k5)).trans kz37))
      have f61 : fd (wI g5 264 37 (iI hv)) 264 1 = 0 := (fd_wI_col (by omega)).trans f51
      have ts := R_asksSign (d := d + 34) (c := 59) R6 (by omega) (by omega)
      by_cases c3 : tB b E p2 = 59
      · rw [if_pos c3]
        obtain ⟨g7, a7, R7, k7⟩ := ts.1 c3
        clear ts
        have tt : mm_M mm_T0 (d + 38) 206 [.ref 264] g3 = some (none, g7) := by
          rw [U_X12_terraceTold]
          (try simp only [iI_lit, iI_neg]) <;> simp (maxSteps := 1000000) (disch := decide) only [iI_lit, iI_neg, iI_add, mm_bI_some, mm_bV_some, mm_bL_some, ↓reduceIte, i10, i00, i11, eq_self, not_true_eq_false, not_false_eq_true, ite_true, ite_false, if_true, if_false, and_true, true_and, and_false, false_and, and_self, or_self, or_false, false_or, or_true, true_or, iI_eq, iI_lt, iI_le, Int.reduceEq, Int.reduceLT, Int.reduceLE, ↓bV_eq a4, ↓bI_eq n1, ↓bV_eq a7]
        obtain ⟨hm, eh⟩ : ∃ hm : Nat, hv = (hm : Int) := ⟨hv.toNat, by omega⟩
        have et : hv.toNat = hm := by omega
        rw [et]
        have T7 := T6.tk k7
        rw [eh] at T7
        have f52 : fd (wI g7 264 52 (iI 1)) 264 52 = ((1 : Nat) : Int) := fd_wI_same (by omega) (by omega)
        have lp := R_trL (d := d) (b := b) (hm := hm) ⟨by omega, by omega⟩ hE (E + 2) 1 st0 (tS b E p2 + 1) false (wI g7 264 52 (iI 1)) (by omega) (by omega) (R7.wj (Or.inr rfl)) T7.w52 st0_ok f52
        have f81 : fd (wI g7 264 52 (iI 1)) 264 1 = 0 := by rw [fd_wI_col (by omega), k7.1 _ _ (by unfold QTk; omega)]; exact f61
        have K8 : Kf QRz LRt g (wI g7 264 52 (iI 1)) := K6.trans ((kz (kTs k7)).trans (kz w52s))
        rw [tt, mm_bV_some]
        revert lp
        cases trF b E hm (E + 2) 1 st0 (tS b E p2 + 1) false with
        | inl f =>
          intro lp
          obtain ⟨g', b1, b2', b3⟩ := lp
          exact ⟨g', b1, b2', (b3.1 _ _ n1_z).trans f81, K8.trans (kz b3)⟩
        | inr y =>
          intro lp
          obtain ⟨g', b1, b2', b3, b4, b5⟩ := lp
          exact ⟨g', b1, b2', b3, b4, (b5.1 _ _ n1_z).trans f81, K8.trans (kz b5)⟩
      · rw [if_neg c3]
        obtain ⟨g7, a7, B7, k7⟩ := ts.2 c3
        clear ts
        have tt : mm_M mm_T0 (d + 38) 206 [.ref 264] g3 = some (none, g7) := by
          rw [U_X12_terraceTold]
          (try simp only [iI_lit, iI_neg]) <;> simp (maxSteps := 1000000) (disch := decide) only [iI_lit, iI_neg, iI_add, mm_bI_some, mm_bV_some, mm_bL_some, ↓reduceIte, i10, i00, i11, eq_self, not_true_eq_false, not_false_eq_true, ite_true, ite_false, if_true, if_false, and_true, true_and, and_false, false_and, and_self, or_self, or_false, false_or, or_true, true_or, iI_eq, iI_lt, iI_le, Int.reduceEq, Int.reduceLT, Int.reduceLE, ↓bV_eq a4, ↓bI_eq n1, ↓bV_eq a7]
        have B8 : Bad (wI g7 264 52 (iI 1)) 1 (tS b E p2) := B7.kf (w52 (v := iI 1)) (by omega) (by omega)
        refine ⟨wI g7 264 52 (iI 1), ?_, B8, ?_, K6.trans ((kz (kTs k7)).trans (kz w52s))⟩
        · rw [tt, mm_bV_some]
          exact B_98 (B8.ne (by decide))
        · rw [fd_wI_col (by omega), k7.1 _ _ (by unfold QTk; omega)]
          exact f61
    · rw [if_neg c2]
      have B5 := n3 c2
      clear n2 n3 nb
      have b5 := B5.ne c2
      generalize hv9 : (numT b E 2 9 p1 true).2.2 = hv at *
      have B6 : Bad (wI g5 264 37 (iI hv)) (numT b E 2 9 p1 true).1 (numT b E 2 9 p1 true).2.1 := B5.kf (Q := fun a k => a = 264 ∧ k = 37) (L := nL) (Kf.refl.wI ⟨rfl, rfl⟩) (by omega) (by omega)
      have a7 := B_asksSign (d := d + 36) (x := iI 59) (B6.ne c2)
      have tt : mm_M mm_T0 (d + 38) 206 [.ref 264] g3 = some (none, wI g5 264 37 (iI hv)) := by
        rw [U_X12_terraceTold]
        (try simp only [iI_lit, iI_neg]) <;> simp (maxSteps := 1000000) (disch := decide) only [iI_lit, iI_neg, iI_add, mm_bI_some, mm_bV_some, mm_bL_some, ↓reduceIte, i10, i00, i11, eq_self, not_true_eq_false, not_false_eq_true, ite_true, ite_false, if_true, if_false, and_true, true_and, and_false, false_and, and_self, or_self, or_false, false_or, or_true, true_or, iI_eq, iI_lt, iI_le, Int.reduceEq, Int.reduceLT, Int.reduceLE, ↓bV_eq a4, ↓bI_eq n1, ↓bV_eq a7]
      have B8 : Bad (wI (wI g5 264 37 (iI hv)) 264 52 (iI 1)) (numT b E 2 9 p1 true).1 (numT b E 2 9 p1 true).2.1 := B6.kf (w52 (v := iI 1)) (by omega) (by omega)
      refine ⟨wI (wI g5 264 37 (iI hv)) 264 52 (iI 1), ?_, B8, ?_, k3.trans ((kz (kTs k4)).trans ((kz (kTs k5)).trans (kz37.trans (kz w52s))))⟩
      · rw [tt, mm_bV_some]
        exact B_98 (B8.ne c2)
      · rw [fd_wI_col (by omega), fd_wI_col (by omega)]
        exact f51
  · rw [if_neg c1]
    obtain ⟨g4, a4, B4, k4⟩ := ak.2 (fun z => c1 (aw.mp z))
    clear ak
    have b5 := B4.ne (by decide)
    have n1 := B_number (d := d + 36) (x := iI 2) (y := iI 9) b5
    have B6 : Bad (wI g4 264 37 (iI 0)) 1 (tS b E 0) := B4.kf (Q := fun a k => a = 264 ∧ k = 37) (L := nL) (Kf.refl.wI ⟨rfl, rfl⟩) (by omega) (by omega)
    have a7 := B_asksSign (d := d + 36) (x := iI 59) (B6.ne (by decide))
    have tt : mm_M mm_T0 (d + 38) 206 [.ref 264] g3 = some (none, wI g4 264 37 (iI 0)) := by
      rw [U_X12_terraceTold]
      (try simp only [iI_lit, iI_neg]) <;> simp (maxSteps := 1000000) (disch := decide) only [iI_lit, iI_neg, iI_add, mm_bI_some, mm_bV_some, mm_bL_some, ↓reduceIte, i10, i00, i11, eq_self, not_true_eq_false, not_false_eq_true, ite_true, ite_false, if_true, if_false, and_true, true_and, and_false, false_and, and_self, or_self, or_false, false_or, or_true, true_or, iI_eq, iI_lt, iI_le, Int.reduceEq, Int.reduceLT, Int.reduceLE, ↓bV_eq a4, ↓bI_eq n1, ↓bV_eq a7]
    have B8 : Bad (wI (wI g4 264 37 (iI 0)) 264 52 (iI 1)) 1 (tS b E 0) := B6.kf (w52 (v := iI 1)) (by omega) (by omega)
    refine ⟨wI (wI g4 264 37 (iI 0)) 264 52 (iI 1), ?_, B8, ?_, k3.trans ((kz (kTs k4)).trans (kz37.trans (kz w52s)))⟩
    · rw [tt, mm_bV_some]
      exact B_98 (B8.ne (by decide))
    · rw [fd_wI_col (by omega), fd_wI_col (by omega), k4.1 _ _ (by unfold QTk; omega)]
      exact f1
end RTD
