/-! a question, read: both to the end -/
section AKR
variable {d : Nat} {g : mm_H} {b : Nat → Int} {E p : Nat} {gl : Bool}
set_option maxHeartbeats 8000000 in
theorem C_read (hE : E ≤ 1600) (T : TpC g b E) : CAk g (mm_M mm_T0 (d + 39) 70 [.ref 4, .ref 3, .ref 11] g) (asA b E) := by
  obtain ⟨g1, a1, S1, k1⟩ := C_begin (d := d + 32) T hE
  have aw := C_isAnyWord (d := d + 37) S1
  have wb := wno_b (b := b) (E := E) (p := 0) (gl := false)
  have le := tS_le (b := b) (E := E) (p := 0) (Nat.zero_le _)
  have K1 : KR QAk g g1 := KR.of k1 (fun a j q => by unfold QAk; omega)
  have u := C_unexp (d := d + 36) S1
  have Kb : KR QAk g (bdH g1 1 (tS b E 0)) := K1.trans (KR.of (bdH_k (g := g1)) (fun a j q => by unfold QAk; omega))
  unfold asA
  by_cases c1 : wno b E 0 false = -2
  · rw [if_neg (by omega)]
    rw [b2_f (fun z => z c1)] at aw
    refine ⟨_, ?_, bdH_5 (by omega) (by omega), bdH_6 (by omega) (by omega), Kb⟩
    rw [U_X5_read]
    (try simp only [iI_lit, iI_neg]) <;> simp (maxSteps := 1000000) (disch := decide) only [iI_lit, iI_neg, iI_add, mm_bI_some, mm_bV_some, mm_bL_some, ↓reduceIte, i10, i00, i11, eq_self, not_true_eq_false, not_false_eq_true, ite_true, ite_false, if_true, if_false, and_true, true_and, and_false, false_and, and_self, or_self, or_false, false_or, or_true, true_or, iI_eq, iI_lt, iI_le, Int.reduceEq, Int.reduceLT, Int.reduceLE, ↓bV_eq a1, ↓bI_eq aw, ↓bI_eq u, zr_0]
  · rw [b2_t c1] at aw
    have ww := wno_w c1
    have ne : tB b E 0 ≠ -1 := by have := isLt_iff.mp ww.1; omega
    have e4 : fd g1 3 4 = wno b E 0 false := (S1.2.2.2.2.2.2.1 ne).trans (wno_v ww).symm
    have tl := tL_in ww.1
    have Oka := Ok_all (b := b) (w := 3) hE (4 * E + 8)
    have oke : ∀ m, (m = 3 ∨ m = 1) → ∀ y, rd b E 3 (4 * E + 8) m 0 (tL b E (tS b E 0)) true 0 [] = .inr y → y.1 ≤ E := by
      intro m hm y hy
      rcases hm with z | z
      · subst z
        have t := Oka.2.2.2.1 0 (tL b E (tS b E 0)) true 0 [] tl.2 (by omega)
        rw [hy] at t
        exact t.2.1
      · subst z
        have t := Oka.2.1 0 (tL b E (tS b E 0)) true 0 [] tl.2 (by omega)
        rw [hy] at t
        exact t.2.1
    clear Oka
    by_cases c2 : 25 ≤ wno b E 0 false ∧ wno b E 0 false ≤ 30
    · rw [if_pos c2]
      have kw : Kf (fun a j => a = 4 ∧ j = 1) nL g1 (wI g1 4 1 (iI (wno b E 0 false))) := Kf.refl.wI ⟨rfl, rfl⟩
      obtain ⟨g8, b1, b5, b7, k8⟩ := C_clr1 (d := d + 37) (g := wI g1 4 1 (iI (wno b E 0 false))) isC_q
      have S8 := (S1.kf kw (by omega) (by intro j; omega) (by intro j; omega)).kf k8 (by omega) (by intro j; omega) (by intro j; omega)
      have e41 : fd g8 4 1 = wno b E 0 false := (k8.1 _ _ (by omega)).trans (fd_wI_same (by omega) (by omega))
      have K8 : KR QAk g g8 := K1.trans ((KR.of kw (fun a j q => by unfold QAk; omega)).trans (KR.of k8 (fun a j q => by unfold QAk; omega)))
      have R1 := C_ruleQ (d := d + 7) (v := 1) S8 c1 b5 (b7 3 (by omega)) (Or.inr rfl)
      have R0 := C_ruleQ (d := d + 7) (v := 0) S8 c1 b5 (b7 3 (by omega)) (Or.inl rfl)
      rw [if_pos rfl] at R1
      rw [if_neg (by decide)] at R0
      have F1 := C_akE (d := d) K8 e41 R1 hE (oke 3 (Or.inl rfl))
      have F0 := C_akE (d := d) K8 e41 R0 hE (oke 1 (Or.inr rfl))
      clear R1 R0 oke S8 b5 b7 tl ne ww u Kb
      have c6 : wno b E 0 false = 25 ∨ wno b E 0 false = 26 ∨ wno b E 0 false = 27 ∨ wno b E 0 false = 28 ∨ wno b E 0 false = 29 ∨ wno b E 0 false = 30 := by omega
      clear c1 c2 wb
      generalize wno b E 0 false = v at *
      rcases c6 with z | z | z | z | z | z
      · subst z
        rw [if_pos (by decide)]
        refine (Eq.mp ?_ F1)
        congr 1
        rw [U_X5_read]
        (try simp only [iI_lit, iI_neg]) <;> simp (maxSteps := 1000000) (disch := decide) only [iI_lit, iI_neg, iI_add, mm_bI_some, mm_bV_some, mm_bL_some, ↓reduceIte, i10, i00, i11, eq_self, not_true_eq_false, not_false_eq_true, ite_true, ite_false, if_true, if_false, and_true, true_and, and_false, false_and, and_self, or_self, or_false, false_or, or_true, true_or, iI_eq, iI_lt, iI_le, Int.reduceEq, Int.reduceLT, Int.reduceLE, ↓bV_eq a1, ↓bI_eq aw, rdE e4, ↓bV_eq b1, rdE e41]
      · subst z
        rw [if_pos (by decide)]
        refine (Eq.mp ?_ F1)
        congr 1
        rw [U_X5_read]
        (try simp only [iI_lit, iI_neg]) <;> simp (maxSteps := 1000000) (disch := decide) only [iI_lit, iI_neg, iI_add, mm_bI_some, mm_bV_some, mm_bL_some, ↓reduceIte, i10, i00, i11, eq_self, not_true_eq_false, not_false_eq_true, ite_true, ite_false, if_true, if_false, and_true, true_and, and_false, false_and, and_self, or_self, or_false, false_or, or_true, true_or, iI_eq, iI_lt, iI_le, Int.reduceEq, Int.reduceLT, Int.reduceLE, ↓bV_eq a1, ↓bI_eq aw, rdE e4, ↓bV_eq b1, rdE e41]
      · subst z
        rw [if_pos (by decide)]
        refine (Eq.mp ?_ F1)
        congr 1
        rw [U_X5_read]
        (try simp only [iI_lit, iI_neg]) <;> simp (maxSteps := 1000000) (disch := decide) only [iI_lit, iI_neg, iI_add, mm_bI_some, mm_bV_some, mm_bL_some, ↓reduceIte, i10, i00, i11, eq_self, not_true_eq_false, not_false_eq_true, ite_true, ite_false, if_true, if_false, and_true, true_and, and_false, false_and, and_self, or_self, or_false, false_or, or_true, true_or, iI_eq, iI_lt, iI_le, Int.reduceEq, Int.reduceLT, Int.reduceLE, ↓bV_eq a1, ↓bI_eq aw, rdE e4, ↓bV_eq b1, rdE e41]
      · subst z
        rw [if_neg (by decide)]
        refine (Eq.mp ?_ F0)
        congr 1
        rw [U_X5_read]
        (try simp only [iI_lit, iI_neg]) <;> simp (maxSteps := 1000000) (disch := decide) only [iI_lit, iI_neg, iI_add, mm_bI_some, mm_bV_some, mm_bL_some, ↓reduceIte, i10, i00, i11, eq_self, not_true_eq_false, not_false_eq_true, ite_true, ite_false, if_true, if_false, and_true, true_and, and_false, false_and, and_self, or_self, or_false, false_or, or_true, true_or, iI_eq, iI_lt, iI_le, Int.reduceEq, Int.reduceLT, Int.reduceLE, ↓bV_eq a1, ↓bI_eq aw, rdE e4, ↓bV_eq b1, rdE e41]
      · subst z
        rw [if_neg (by decide)]
        refine (Eq.mp ?_ F0)
        congr 1
        rw [U_X5_read]
        (try simp only [iI_lit, iI_neg]) <;> simp (maxSteps := 1000000) (disch := decide) only [iI_lit, iI_neg, iI_add, mm_bI_some, mm_bV_some, mm_bL_some, ↓reduceIte, i10, i00, i11, eq_self, not_true_eq_false, not_false_eq_true, ite_true, ite_false, if_true, if_false, and_true, true_and, and_false, false_and, and_self, or_self, or_false, false_or, or_true, true_or, iI_eq, iI_lt, iI_le, Int.reduceEq, Int.reduceLT, Int.reduceLE, ↓bV_eq a1, ↓bI_eq aw, rdE e4, ↓bV_eq b1, rdE e41]
      · subst z
        rw [if_neg (by decide)]
        refine (Eq.mp ?_ F0)
        congr 1
        rw [U_X5_read]
        (try simp only [iI_lit, iI_neg]) <;> simp (maxSteps := 1000000) (disch := decide) only [iI_lit, iI_neg, iI_add, mm_bI_some, mm_bV_some, mm_bL_some, ↓reduceIte, i10, i00, i11, eq_self, not_true_eq_false, not_false_eq_true, ite_true, ite_false, if_true, if_false, and_true, true_and, and_false, false_and, and_self, or_self, or_false, false_or, or_true, true_or, iI_eq, iI_lt, iI_le, Int.reduceEq, Int.reduceLT, Int.reduceLE, ↓bV_eq a1, ↓bI_eq aw, rdE e4, ↓bV_eq b1, rdE e41]
    · rw [if_neg c2]
      refine ⟨_, ?_, bdH_5 (by omega) (by omega), bdH_6 (by omega) (by omega), Kb⟩
      rw [U_X5_read]
      by_cases c3 : wno b E 0 false < 25
      · have t : (iI (wno b E 0 false) < iI 25) = True := iL_t (by omega) (by omega) (by omega) (by omega) (by omega)
        (try simp only [iI_lit, iI_neg]) <;> simp (maxSteps := 1000000) (disch := decide) only [iI_lit, iI_neg, iI_add, mm_bI_some, mm_bV_some, mm_bL_some, ↓reduceIte, i10, i00, i11, eq_self, not_true_eq_false, not_false_eq_true, ite_true, ite_false, if_true, if_false, and_true, true_and, and_false, false_and, and_self, or_self, or_false, false_or, or_true, true_or, iI_eq, iI_lt, iI_le, Int.reduceEq, Int.reduceLT, Int.reduceLE, ↓bV_eq a1, ↓bI_eq aw, rdE e4, t, ↓bI_eq u, zr_0]
      · have t : (iI (wno b E 0 false) < iI 25) = False := iL_f (by omega) (by omega) (by omega) (by omega) (by omega)
        have t2 : (iI (wno b E 0 false) ≤ iI 30) = False := iG_f (by omega) (by omega) (by omega) (by omega) (by omega)
        (try simp only [iI_lit, iI_neg]) <;> simp (maxSteps := 1000000) (disch := decide) only [iI_lit, iI_neg, iI_add, mm_bI_some, mm_bV_some, mm_bL_some, ↓reduceIte, i10, i00, i11, eq_self, not_true_eq_false, not_false_eq_true, ite_true, ite_false, if_true, if_false, and_true, true_and, and_false, false_and, and_self, or_self, or_false, false_or, or_true, true_or, iI_eq, iI_lt, iI_le, Int.reduceEq, Int.reduceLT, Int.reduceLE, ↓bV_eq a1, ↓bI_eq aw, rdE e4, t, t2, ↓bI_eq u, zr_0]
set_option maxHeartbeats 8000000 in
theorem R_kind (R : RS g b E p gl) : (25 ≤ wno b E p gl ∧ wno b E p gl ≤ 30 → ∃ g', mm_M mm_T0 (d + 5) 311 [.ref 264] g = some (some (.int (iI (wno b E p gl - 25))), g') ∧ RS g' b E (tL b E (tS b E p)) true ∧ Kf QTk nL g g') ∧ (¬ (25 ≤ wno b E p gl ∧ wno b E p gl ≤ 30) → ∃ g', mm_M mm_T0 (d + 5) 311 [.ref 264] g = some (some (.int (iI 5)), g') ∧ Bad g' 1 (tS b E p) ∧ Kf QTk nL g g') := by
  have t0 := R_takesA (d := d + 1) (a := 307) (k := 25) (by unfold isW; omega) (by omega) rfl R
  by_cases c0 : wno b E p gl = 25
  · obtain ⟨g1, m1, R1, k1⟩ := t0.1 c0
    refine ⟨fun _ => ⟨g1, ?_, R1, k1⟩, fun z => absurd z (by omega)⟩
    rw [U_X12_qKind, c0, show (25 : Int) - 25 = 0 from rfl]
    (try simp only [iI_lit, iI_neg]) <;> simp (maxSteps := 1000000) (disch := decide) only [iI_lit, iI_neg, iI_add, mm_bI_some, mm_bV_some, mm_bL_some, ↓reduceIte, i10, i00, i11, eq_self, not_true_eq_false, not_false_eq_true, ite_true, ite_false, if_true, if_false, and_true, true_and, and_false, false_and, and_self, or_self, or_false, false_or, or_true, true_or, iI_eq, iI_lt, iI_le, Int.reduceEq, Int.reduceLT, Int.reduceLE, ↓bI_eq m1]
  obtain ⟨g1, m1, R1, _, k1⟩ := t0.2 c0
  clear t0
  have t1 := R_takesA (d := d + 1) (a := 308) (k := 26) (by unfold isW; omega) (by omega) rfl R1
  by_cases c1 : wno b E p gl = 26
  · obtain ⟨g2, m2, R2, k2⟩ := t1.1 c1
    refine ⟨fun _ => ⟨g2, ?_, R2, k1.trans k2⟩, fun z => absurd z (by omega)⟩
    rw [U_X12_qKind, c1, show (26 : Int) - 25 = 1 from rfl]
    (try simp only [iI_lit, iI_neg]) <;> simp (maxSteps := 1000000) (disch := decide) only [iI_lit, iI_neg, iI_add, mm_bI_some, mm_bV_some, mm_bL_some, ↓reduceIte, i10, i00, i11, eq_self, not_true_eq_false, not_false_eq_true, ite_true, ite_false, if_true, if_false, and_true, true_and, and_false, false_and, and_self, or_self, or_false, false_or, or_true, true_or, iI_eq, iI_lt, iI_le, Int.reduceEq, Int.reduceLT, Int.reduceLE, ↓bI_eq m1, ↓bI_eq m2]
  obtain ⟨g2, m2, R2, _, k2⟩ := t1.2 c1
  have K2 := k1.trans k2
  clear t1
  have t2 := R_takesA (d := d + 1) (a := 309) (k := 27) (by unfold isW; omega) (by omega) rfl R2
  by_cases c2 : wno b E p gl = 27
  · obtain ⟨g3, m3, R3, k3⟩ := t2.1 c2
    refine ⟨fun _ => ⟨g3, ?_, R3, K2.trans k3⟩, fun z => absurd z (by omega)⟩
    rw [U_X12_qKind, c2, show (27 : Int) - 25 = 2 from rfl]
    (try simp only [iI_lit, iI_neg]) <;> simp (maxSteps := 1000000) (disch := decide) only [iI_lit, iI_neg, iI_add, mm_bI_some, mm_bV_some, mm_bL_some, ↓reduceIte, i10, i00, i11, eq_self, not_true_eq_false, not_false_eq_true, ite_true, ite_false, if_true, if_false, and_true, true_and, and_false, false_and, and_self, or_self, or_false, false_or, or_true, true_or, iI_eq, iI_lt, iI_le, Int.reduceEq, Int.reduceLT, Int.reduceLE, ↓bI_eq m1, ↓bI_eq m2, ↓bI_eq m3]
  obtain ⟨g3, m3, R3, _, k3⟩ := t2.2 c2
  have K3 := K2.trans k3
  clear t2
  have t3 := R_takesA (d := d + 1) (a := 310) (k := 28) (by unfold isW; omega) (by omega) rfl R3
  by_cases c3 : wno b E p gl = 28
  · obtain ⟨g4, m4, R4, k4⟩ := t3.1 c3
    refine ⟨fun _ => ⟨g4, ?_, R4, K3.trans k4⟩, fun z => absurd z (by omega)⟩
    rw [U_X12_qKind, c3, show (28 : Int) - 25 = 3 from rfl]
    (try simp only [iI_lit, iI_neg]) <;> simp (maxSteps := 1000000) (disch := decide) only [iI_lit, iI_neg, iI_add, mm_bI_some, mm_bV_some, mm_bL_some, ↓reduceIte, i10, i00, i11, eq_self, not_true_eq_false, not_false_eq_true, ite_true, ite_false, if_true, if_false, and_true, true_and, and_false, false_and, and_self, or_self, or_false, false_or, or_true, true_or, iI_eq, iI_lt, iI_le, Int.reduceEq, Int.reduceLT, Int.reduceLE, ↓bI_eq m1, ↓bI_eq m2, ↓bI_eq m3, ↓bI_eq m4]
  obtain ⟨g4, m4, R4, _, k4⟩ := t3.2 c3
  have K4 := K3.trans k4
  clear t3
  have t4 := R_takesA (d := d + 1) (a := 311) (k := 29) (by unfold isW; omega) (by omega) rfl R4
  by_cases c4 : wno b E p gl = 29
  · obtain ⟨g5, m5, R5, k5⟩ := t4.1 c4
    refine ⟨fun _ => ⟨g5, ?_, R5, K4.trans k5⟩, fun z => absurd z (by omega)⟩
    rw [U_X12_qKind, c4, show (29 : Int) - 25 = 4 from rfl]
    (try simp only [iI_lit, iI_neg]) <;> simp (maxSteps := 1000000) (disch := decide) only [iI_lit, iI_neg, iI_add, mm_bI_some, mm_bV_some, mm_bL_some, ↓reduceIte, i10, i00, i11, eq_self, not_true_eq_false, not_false_eq_true, ite_true, ite_false, if_true, if_false, and_true, true_and, and_false, false_and, and_self, or_self, or_false, false_or, or_true, true_or, iI_eq, iI_lt, iI_le, Int.reduceEq, Int.reduceLT, Int.reduceLE, ↓bI_eq m1, ↓bI_eq m2, ↓bI_eq m3, ↓bI_eq m4, ↓bI_eq m5]
  obtain ⟨g5, m5, R5, _, k5⟩ := t4.2 c4
  have K5 := K4.trans k5
  clear t4
  have t5 := R_asks (d := d) (a := 312) (by unfold isW; omega) R5
  have aw : hasW b E (wordL 312) p gl = true ↔ wno b E p gl = 30 := hasW_no (by omega) rfl
  by_cases c5 : wno b E p gl = 30
  · obtain ⟨g6, m6, R6, k6⟩ := t5.1 (aw.mpr c5)
    refine ⟨fun _ => ⟨g6, ?_, R6, K5.trans k6⟩, fun z => absurd z (by omega)⟩
    rw [U_X12_qKind, c5, show (30 : Int) - 25 = 5 from rfl]
    (try simp only [iI_lit, iI_neg]) <;> simp (maxSteps := 1000000) (disch := decide) only [iI_lit, iI_neg, iI_add, mm_bI_some, mm_bV_some, mm_bL_some, ↓reduceIte, i10, i00, i11, eq_self, not_true_eq_false, not_false_eq_true, ite_true, ite_false, if_true, if_false, and_true, true_and, and_false, false_and, and_self, or_self, or_false, false_or, or_true, true_or, iI_eq, iI_lt, iI_le, Int.reduceEq, Int.reduceLT, Int.reduceLE, ↓bI_eq m1, ↓bI_eq m2, ↓bI_eq m3, ↓bI_eq m4, ↓bI_eq m5, ↓bV_eq m6]
  · obtain ⟨g6, m6, B6, k6⟩ := t5.2 (fun z => c5 (aw.mp z))
    refine ⟨fun z => absurd z (by omega), fun _ => ⟨g6, ?_, B6, K5.trans k6⟩⟩
    rw [U_X12_qKind]
    (try simp only [iI_lit, iI_neg]) <;> simp (maxSteps := 1000000) (disch := decide) only [iI_lit, iI_neg, iI_add, mm_bI_some, mm_bV_some, mm_bL_some, ↓reduceIte, i10, i00, i11, eq_self, not_true_eq_false, not_false_eq_true, ite_true, ite_false, if_true, if_false, and_true, true_and, and_false, false_and, and_self, or_self, or_false, false_or, or_true, true_or, iI_eq, iI_lt, iI_le, Int.reduceEq, Int.reduceLT, Int.reduceLE, ↓bI_eq m1, ↓bI_eq m2, ↓bI_eq m3, ↓bI_eq m4, ↓bI_eq m5, ↓bV_eq m6]
end AKR
