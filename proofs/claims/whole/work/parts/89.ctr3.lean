/-! the class's terrace, read to its end -/
section CUT
variable {d : Nat} {g : mm_H} {b : Nat → Int} {E p : Nat} {gl : Bool} {u : Nat} {hm : Int} {st : Tst}
theorem ad_len {w : Int} : (rAll (ad w st).2.2.2).length ≤ (rAll st.2.2.2).length + (dfl w).length := by
  unfold ad
  split
  · omega
  · show (rAll (st.2.2.2 ++ [(w, dfl w)])).length ≤ _
    rw [rAll_app, List.length_append]
    exact Nat.le_refl _
theorem ad_t {w : Int} (h : (rOf w st.2.2.2 0).isSome = true) : ad w st = st := if_pos h
theorem ad_n {w : Int} (h : ¬ (rOf w st.2.2.2 0).isSome = true) : ad w st = (st.1, st.2.1, st.2.2.1, st.2.2.2 ++ [(w, dfl w)]) := if_neg h
theorem rOf_n {w : Int} (h : ¬ (rOf w st.2.2.2 0).isSome = true) : rOf w st.2.2.2 0 = none := by
  cases e : rOf w st.2.2.2 0 with
  | none => rfl
  | some y => rw [e] at h; exact absurd rfl h
set_option maxHeartbeats 8000000 in
theorem C_d0 (hu : mm_isT u) (T : CTs g u hm st) (hl : (rAll st.2.2.2).length ≤ 1605) (h : ¬ (rOf 0 st.2.2.2 0).isSome = true) : ∃ h0 h1 h2, mm_M mm_T0 (d + 1) 35 [.ref (u + 10), .int (iI 0)] g = some (none, h0) ∧ mm_M mm_T0 (d + 1) 37 [.ref (u + 10), .int (iI 10011)] h0 = some (none, h1) ∧ mm_M mm_T0 (d + 1) 36 [.ref (u + 10), .int (iI 0)] h1 = some (none, h2) ∧ CTs h2 u hm (ad 0 st) ∧ Kf (QU u) nL g h2 := by
  have hc := isT_C hu
  have ut := isT_or hu
  obtain ⟨h0, a0, Q0, f0, k0⟩ := C_opn (d := d) (w := 0) hu (by omega) T (by omega)
  obtain ⟨h1, a1, Q1, k1⟩ := C_addc (d := d) (v := 44) hc Q0 (by (try simp only [List.length_append, List.length_cons, List.length_nil]); omega) (by omega) (by omega)
  rw [show tc 44 = 10011 from rfl] at a1
  have QQ9 : CQ h1 (u + 10) 0 (rAll st.2.2.2 ++ [44]) := by simpa [List.append_assoc] using Q1
  have e5 : fd h1 (u + 10) 5 = (((rAll st.2.2.2).length + 1 : Nat) : Int) := by
    rw [QQ9.1, List.length_append]
    show ((0 + ((rAll st.2.2.2).length + 1) : Nat) : Int) = _
    omega
  obtain ⟨h2, a2, f2, k2⟩ := C_cls (d := d) (w := 0) hu (by omega) e5 (by omega)
  have K : Kf (fun a j => (a = u + 10 ∧ j = 5) ∨ a = u + 11 ∨ ((a = u + 12 ∨ a = u + 13) ∧ j = 0)) nL g h2 := Kf.trans (k0.mono (Q' := fun a j => (a = u + 10 ∧ j = 5) ∨ a = u + 11 ∨ ((a = u + 12 ∨ a = u + 13) ∧ j = 0)) (fun a j q => by omega) (fun a j q => q)) (Kf.trans (k1.mono (fun a j q => by unfold QAd at q; omega) (fun a j q => q)) ((k2.mono (fun a j q => by omega) (fun a j q => q))))
  have F := C_rfin (w := 0) (c := [44]) hu T (rOf_n h) (QQ9.kf k2 (by omega) (by intro j; omega)) (by rw [k2.1 _ _ (by omega), k1.1 _ _ (by unfold QAd; omega)]; exact f0) f2 K
  refine ⟨h0, h1, h2, a0, a1, a2, ?_, K.mono (fun a j q => by unfold QU; omega) (fun a j q => q)⟩
  rw [ad_n h]
  exact F
set_option maxHeartbeats 8000000 in
theorem C_d1 (hu : mm_isT u) (T : CTs g u hm st) (hl : (rAll st.2.2.2).length ≤ 1605) (h : ¬ (rOf 1 st.2.2.2 0).isSome = true) : ∃ h0 h1 h2, mm_M mm_T0 (d + 1) 35 [.ref (u + 10), .int (iI 1)] g = some (none, h0) ∧ mm_M mm_T0 (d + 1) 37 [.ref (u + 10), .int (iI 10005)] h0 = some (none, h1) ∧ mm_M mm_T0 (d + 1) 36 [.ref (u + 10), .int (iI 1)] h1 = some (none, h2) ∧ CTs h2 u hm (ad 1 st) ∧ Kf (QU u) nL g h2 := by
  have hc := isT_C hu
  have ut := isT_or hu
  obtain ⟨h0, a0, Q0, f0, k0⟩ := C_opn (d := d) (w := 1) hu (by omega) T (by omega)
  obtain ⟨h1, a1, Q1, k1⟩ := C_addc (d := d) (v := 42) hc Q0 (by (try simp only [List.length_append, List.length_cons, List.length_nil]); omega) (by omega) (by omega)
  rw [show tc 42 = 10005 from rfl] at a1
  have QQ9 : CQ h1 (u + 10) 0 (rAll st.2.2.2 ++ [42]) := by simpa [List.append_assoc] using Q1
  have e5 : fd h1 (u + 10) 5 = (((rAll st.2.2.2).length + 1 : Nat) : Int) := by
    rw [QQ9.1, List.length_append]
    show ((0 + ((rAll st.2.2.2).length + 1) : Nat) : Int) = _
    omega
  obtain ⟨h2, a2, f2, k2⟩ := C_cls (d := d) (w := 1) hu (by omega) e5 (by omega)
  have K : Kf (fun a j => (a = u + 10 ∧ j = 5) ∨ a = u + 11 ∨ ((a = u + 12 ∨ a = u + 13) ∧ j = 1)) nL g h2 := Kf.trans (k0.mono (Q' := fun a j => (a = u + 10 ∧ j = 5) ∨ a = u + 11 ∨ ((a = u + 12 ∨ a = u + 13) ∧ j = 1)) (fun a j q => by omega) (fun a j q => q)) (Kf.trans (k1.mono (fun a j q => by unfold QAd at q; omega) (fun a j q => q)) ((k2.mono (fun a j q => by omega) (fun a j q => q))))
  have F := C_rfin (w := 1) (c := [42]) hu T (rOf_n h) (QQ9.kf k2 (by omega) (by intro j; omega)) (by rw [k2.1 _ _ (by omega), k1.1 _ _ (by unfold QAd; omega)]; exact f0) f2 K
  refine ⟨h0, h1, h2, a0, a1, a2, ?_, K.mono (fun a j q => by unfold QU; omega) (fun a j q => q)⟩
  rw [ad_n h]
  exact F
set_option maxHeartbeats 8000000 in
theorem C_d2 (hu : mm_isT u) (T : CTs g u hm st) (hl : (rAll st.2.2.2).length ≤ 1605) (h : ¬ (rOf 2 st.2.2.2 0).isSome = true) : ∃ h0 h1 h2 h3 h4 h5 h6, mm_M mm_T0 (d + 1) 35 [.ref (u + 10), .int (iI 2)] g = some (none, h0) ∧ mm_M mm_T0 (d + 1) 37 [.ref (u + 10), .int (iI 10005)] h0 = some (none, h1) ∧ mm_M mm_T0 (d + 1) 37 [.ref (u + 10), .int (iI 10014)] h1 = some (none, h2) ∧ mm_M mm_T0 (d + 1) 37 [.ref (u + 10), .int (iI 11000)] h2 = some (none, h3) ∧ mm_M mm_T0 (d + 1) 37 [.ref (u + 10), .int (iI 6)] h3 = some (none, h4) ∧ mm_M mm_T0 (d + 1) 37 [.ref (u + 10), .int (iI 11004)] h4 = some (none, h5) ∧ mm_M mm_T0 (d + 1) 36 [.ref (u + 10), .int (iI 2)] h5 = some (none, h6) ∧ CTs h6 u hm (ad 2 st) ∧ Kf (QU u) nL g h6 := by
  have hc := isT_C hu
  have ut := isT_or hu
  obtain ⟨h0, a0, Q0, f0, k0⟩ := C_opn (d := d) (w := 2) hu (by omega) T (by omega)
  obtain ⟨h1, a1, Q1, k1⟩ := C_addc (d := d) (v := 42) hc Q0 (by (try simp only [List.length_append, List.length_cons, List.length_nil]); omega) (by omega) (by omega)
  rw [show tc 42 = 10005 from rfl] at a1
  obtain ⟨h2, a2, Q2, k2⟩ := C_addc (d := d) (v := 47) hc Q1 (by (try simp only [List.length_append, List.length_cons, List.length_nil]); omega) (by omega) (by omega)
  rw [show tc 47 = 10014 from rfl] at a2
  obtain ⟨h3, a3, Q3, k3⟩ := C_addc (d := d) (v := 1) hc Q2 (by (try simp only [List.length_append, List.length_cons, List.length_nil]); omega) (by omega) (by omega)
  rw [show tc 1 = 11000 from rfl] at a3
  obtain ⟨h4, a4, Q4, k4⟩ := C_addc (d := d) (v := 1006) hc Q3 (by (try simp only [List.length_append, List.length_cons, List.length_nil]); omega) (by omega) (by omega)
  rw [show tc 1006 = 6 from rfl] at a4
  obtain ⟨h5, a5, Q5, k5⟩ := C_addc (d := d) (v := 7) hc Q4 (by (try simp only [List.length_append, List.length_cons, List.length_nil]); omega) (by omega) (by omega)
  rw [show tc 7 = 11004 from rfl] at a5
  have QQ9 : CQ h5 (u + 10) 0 (rAll st.2.2.2 ++ [42, 47, 1, 1006, 7]) := by simpa [List.append_assoc] using Q5
  have e5 : fd h5 (u + 10) 5 = (((rAll st.2.2.2).length + 5 : Nat) : Int) := by
    rw [QQ9.1, List.length_append]
    show ((0 + ((rAll st.2.2.2).length + 5) : Nat) : Int) = _
    omega
  obtain ⟨h6, a6, f6, k6⟩ := C_cls (d := d) (w := 2) hu (by omega) e5 (by omega)
  have K : Kf (fun a j => (a = u + 10 ∧ j = 5) ∨ a = u + 11 ∨ ((a = u + 12 ∨ a = u + 13) ∧ j = 2)) nL g h6 := Kf.trans (k0.mono (Q' := fun a j => (a = u + 10 ∧ j = 5) ∨ a = u + 11 ∨ ((a = u + 12 ∨ a = u + 13) ∧ j = 2)) (fun a j q => by omega) (fun a j q => q)) (Kf.trans (k1.mono (fun a j q => by unfold QAd at q; omega) (fun a j q => q)) (Kf.trans (k2.mono (fun a j q => by unfold QAd at q; omega) (fun a j q => q)) (Kf.trans (k3.mono (fun a j q => by unfold QAd at q; omega) (fun a j q => q)) (Kf.trans (k4.mono (fun a j q => by unfold QAd at q; omega) (fun a j q => q)) (Kf.trans (k5.mono (fun a j q => by unfold QAd at q; omega) (fun a j q => q)) ((k6.mono (fun a j q => by omega) (fun a j q => q))))))))
  have F := C_rfin (w := 2) (c := [42, 47, 1, 1006, 7]) hu T (rOf_n h) (QQ9.kf k6 (by omega) (by intro j; omega)) (by rw [k6.1 _ _ (by omega), k5.1 _ _ (by unfold QAd; omega), k4.1 _ _ (by unfold QAd; omega), k3.1 _ _ (by unfold QAd; omega), k2.1 _ _ (by unfold QAd; omega), k1.1 _ _ (by unfold QAd; omega)]; exact f0) f6 K
  refine ⟨h0, h1, h2, h3, h4, h5, h6, a0, a1, a2, a3, a4, a5, a6, ?_, K.mono (fun a j q => by unfold QU; omega) (fun a j q => q)⟩
  rw [ad_n h]
  exact F
set_option maxHeartbeats 8000000 in
theorem C_unt (hu : mm_isT u) (T : CTs g u hm st) (hl : (rAll st.2.2.2).length ≤ 1600) : ∃ g', mm_M mm_T0 (d + 2) 140 [.ref u] g = some (none, g') ∧ CTs g' u hm (ad 2 (ad 1 (ad 0 st))) ∧ Kf (QU u) nL g g' := by
  have l0 := ad_len (st := st) (w := 0)
  have l1 := ad_len (st := ad 0 st) (w := 1)
  rw [show (dfl 0).length = 1 from rfl] at l0
  rw [show (dfl 1).length = 1 from rfl] at l1
  have t0 := C_tld (d := d) (w := 0) hu (by omega) T
  rw [show ((0 : Nat) : Int) = 0 from rfl] at t0
  by_cases c0 : (rOf 0 st.2.2.2 0).isSome = true
  · rw [b2_t c0] at t0
    have T0' := T
    rw [← ad_t c0] at T0'
    have t1 := C_tld (d := d) (w := 1) hu (by omega) T0'
    rw [show ((1 : Nat) : Int) = 1 from rfl] at t1
    by_cases c1 : (rOf 1 (ad 0 st).2.2.2 0).isSome = true
    · rw [b2_t c1] at t1
      have T1' := T0'
      rw [← ad_t c1] at T1'
      have t2 := C_tld (d := d) (w := 2) hu (by omega) T1'
      rw [show ((2 : Nat) : Int) = 2 from rfl] at t2
      by_cases c2 : (rOf 2 (ad 1 (ad 0 st)).2.2.2 0).isSome = true
      · rw [b2_t c2] at t2
        have T2' := T1'
        rw [← ad_t c2] at T2'
        refine ⟨g, ?_, T2', Kf.refl⟩
        rw [U_X10_addUntoldRules hu]
        (try simp only [iI_lit, iI_neg]) <;> simp (maxSteps := 1000000) (disch := decide) only [iI_lit, iI_neg, iI_add, mm_bI_some, mm_bV_some, mm_bL_some, ↓reduceIte, i10, i00, i11, eq_self, not_true_eq_false, not_false_eq_true, ite_true, ite_false, if_true, if_false, and_true, true_and, and_false, false_and, and_self, or_self, or_false, false_or, or_true, true_or, iI_eq, iI_lt, iI_le, Int.reduceEq, Int.reduceLT, Int.reduceLE, ↓bI_eq t0, ↓bI_eq t1, ↓bI_eq t2]
      · rw [b2_f c2] at t2
        obtain ⟨x20, x21, x22, x23, x24, x25, x26, y20, y21, y22, y23, y24, y25, y26, T2', K2⟩ := C_d2 (d := d) hu T1' (by omega) c2
        refine ⟨x26, ?_, T2', K2⟩
        rw [U_X10_addUntoldRules hu]
        (try simp only [iI_lit, iI_neg]) <;> simp (maxSteps := 1000000) (disch := decide) only [iI_lit, iI_neg, iI_add, mm_bI_some, mm_bV_some, mm_bL_some, ↓reduceIte, i10, i00, i11, eq_self, not_true_eq_false, not_false_eq_true, ite_true, ite_false, if_true, if_false, and_true, true_and, and_false, false_and, and_self, or_self, or_false, false_or, or_true, true_or, iI_eq, iI_lt, iI_le, Int.reduceEq, Int.reduceLT, Int.reduceLE, ↓bI_eq t0, ↓bI_eq t1, ↓bI_eq t2, ↓bV_eq y20, ↓bV_eq y21, ↓bV_eq y22, ↓bV_eq y23, ↓bV_eq y24, ↓bV_eq y25, ↓bV_eq y26]
    · rw [b2_f c1] at t1
      obtain ⟨x10, x11, x12, y10, y11, y12, T1', K1⟩ := C_d1 (d := d) hu T0' (by omega) c1
      have t2 := C_tld (d := d) (w := 2) hu (by omega) T1'
      rw [show ((2 : Nat) : Int) = 2 from rfl] at t2
      by_cases c2 : (rOf 2 (ad 1 (ad 0 st)).2.2.2 0).isSome = true
      · rw [b2_t c2] at t2
        have T2' := T1'
        rw [← ad_t c2] at T2'
        refine ⟨x12, ?_, T2', K1⟩
        rw [U_X10_addUntoldRules hu]
        (try simp only [iI_lit, iI_neg]) <;> simp (maxSteps := 1000000) (disch := decide) only [iI_lit, iI_neg, iI_add, mm_bI_some, mm_bV_some, mm_bL_some, ↓reduceIte, i10, i00, i11, eq_self, not_true_eq_false, not_false_eq_true, ite_true, ite_false, if_true, if_false, and_true, true_and, and_false, false_and, and_self, or_self, or_false, false_or, or_true, true_or, iI_eq, iI_lt, iI_le, Int.reduceEq, Int.reduceLT, Int.reduceLE, ↓bI_eq t0, ↓bI_eq t1, ↓bV_eq y10, ↓bV_eq y11, ↓bV_eq y12, ↓bI_eq t2]
      · rw [b2_f c2] at t2
        obtain ⟨x20, x21, x22, x23, x24, x25, x26, y20, y21, y22, y23, y24, y25, y26, T2', K2⟩ := C_d2 (d := d) hu T1' (by omega) c2
        refine ⟨x26, ?_, T2', K1.trans (K2)⟩
        rw [U_X10_addUntoldRules hu]
        (try simp only [iI_lit, iI_neg]) <;> simp (maxSteps := 1000000) (disch := decide) only [iI_lit, iI_neg, iI_add, mm_bI_some, mm_bV_some, mm_bL_some, ↓reduceIte, i10, i00, i11, eq_self, not_true_eq_false, not_false_eq_true, ite_true, ite_false, if_true, if_false, and_true, true_and, and_false, false_and, and_self, or_self, or_false, false_or, or_true, true_or, iI_eq, iI_lt, iI_le, Int.reduceEq, Int.reduceLT, Int.reduceLE, ↓bI_eq t0, ↓bI_eq t1, ↓bV_eq y10, ↓bV_eq y11, ↓bV_eq y12, ↓bI_eq t2, ↓bV_eq y20, ↓bV_eq y21, ↓bV_eq y22, ↓bV_eq y23, ↓bV_eq y24, ↓bV_eq y25, ↓bV_eq y26]
  · rw [b2_f c0] at t0
    obtain ⟨x00, x01, x02, y00, y01, y02, T0', K0⟩ := C_d0 (d := d) hu T (by omega) c0
    have t1 := C_tld (d := d) (w := 1) hu (by omega) T0'
    rw [show ((1 : Nat) : Int) = 1 from rfl] at t1
    by_cases c1 : (rOf 1 (ad 0 st).2.2.2 0).isSome = true
    · rw [b2_t c1] at t1
      have T1' := T0'
      rw [← ad_t c1] at T1'
      have t2 := C_tld (d := d) (w := 2) hu (by omega) T1'
      rw [show ((2 : Nat) : Int) = 2 from rfl] at t2
      by_cases c2 : (rOf 2 (ad 1 (ad 0 st)).2.2.2 0).isSome = true
      · rw [b2_t c2] at t2
        have T2' := T1'
        rw [← ad_t c2] at T2'
        refine ⟨x02, ?_, T2', K0⟩
        rw [U_X10_addUntoldRules hu]
        (try simp only [iI_lit, iI_neg]) <;> simp (maxSteps := 1000000) (disch := decide) only [iI_lit, iI_neg, iI_add, mm_bI_some, mm_bV_some, mm_bL_some, ↓reduceIte, i10, i00, i11, eq_self, not_true_eq_false, not_false_eq_true, ite_true, ite_false, if_true, if_false, and_true, true_and, and_false, false_and, and_self, or_self, or_false, false_or, or_true, true_or, iI_eq, iI_lt, iI_le, Int.reduceEq, Int.reduceLT, Int.reduceLE, ↓bI_eq t0, ↓bV_eq y00, ↓bV_eq y01, ↓bV_eq y02, ↓bI_eq t1, ↓bI_eq t2]
      · rw [b2_f c2] at t2
        obtain ⟨x20, x21, x22, x23, x24, x25, x26, y20, y21, y22, y23, y24, y25, y26, T2', K2⟩ := C_d2 (d := d) hu T1' (by omega) c2
        refine ⟨x26, ?_, T2', K0.trans (K2)⟩
        rw [U_X10_addUntoldRules hu]
        (try simp only [iI_lit, iI_neg]) <;> simp (maxSteps := 1000000) (disch := decide) only [iI_lit, iI_neg, iI_add, mm_bI_some, mm_bV_some, mm_bL_some, ↓reduceIte, i10, i00, i11, eq_self, not_true_eq_false, not_false_eq_true, ite_true, ite_false, if_true, if_false, and_true, true_and, and_false, false_and, and_self, or_self, or_false, false_or, or_true, true_or, iI_eq, iI_lt, iI_le, Int.reduceEq, Int.reduceLT, Int.reduceLE, ↓bI_eq t0, ↓bV_eq y00, ↓bV_eq y01, ↓bV_eq y02, ↓bI_eq t1, ↓bI_eq t2, ↓bV_eq y20, ↓bV_eq y21, ↓bV_eq y22, ↓bV_eq y23, ↓bV_eq y24, ↓bV_eq y25, ↓bV_eq y26]
    · rw [b2_f c1] at t1
      obtain ⟨x10, x11, x12, y10, y11, y12, T1', K1⟩ := C_d1 (d := d) hu T0' (by omega) c1
      have t2 := C_tld (d := d) (w := 2) hu (by omega) T1'
      rw [show ((2 : Nat) : Int) = 2 from rfl] at t2
      by_cases c2 : (rOf 2 (ad 1 (ad 0 st)).2.2.2 0).isSome = true
      · rw [b2_t c2] at t2
        have T2' := T1'
        rw [← ad_t c2] at T2'
        refine ⟨x12, ?_, T2', K0.trans (K1)⟩
        rw [U_X10_addUntoldRules hu]
        (try simp only [iI_lit, iI_neg]) <;> simp (maxSteps := 1000000) (disch := decide) only [iI_lit, iI_neg, iI_add, mm_bI_some, mm_bV_some, mm_bL_some, ↓reduceIte, i10, i00, i11, eq_self, not_true_eq_false, not_false_eq_true, ite_true, ite_false, if_true, if_false, and_true, true_and, and_false, false_and, and_self, or_self, or_false, false_or, or_true, true_or, iI_eq, iI_lt, iI_le, Int.reduceEq, Int.reduceLT, Int.reduceLE, ↓bI_eq t0, ↓bV_eq y00, ↓bV_eq y01, ↓bV_eq y02, ↓bI_eq t1, ↓bV_eq y10, ↓bV_eq y11, ↓bV_eq y12, ↓bI_eq t2]
      · rw [b2_f c2] at t2
        obtain ⟨x20, x21, x22, x23, x24, x25, x26, y20, y21, y22, y23, y24, y25, y26, T2', K2⟩ := C_d2 (d := d) hu T1' (by omega) c2
        refine ⟨x26, ?_, T2', K0.trans (K1.trans (K2))⟩
        rw [U_X10_addUntoldRules hu]
        (try simp only [iI_lit, iI_neg]) <;> simp (maxSteps := 1000000) (disch := decide) only [iI_lit, iI_neg, iI_add, mm_bI_some, mm_bV_some, mm_bL_some, ↓reduceIte, i10, i00, i11, eq_self, not_true_eq_false, not_false_eq_true, ite_true, ite_false, if_true, if_false, and_true, true_and, and_false, false_and, and_self, or_self, or_false, false_or, or_true, true_or, iI_eq, iI_lt, iI_le, Int.reduceEq, Int.reduceLT, Int.reduceLE, ↓bI_eq t0, ↓bV_eq y00, ↓bV_eq y01, ↓bV_eq y02, ↓bI_eq t1, ↓bV_eq y10, ↓bV_eq y11, ↓bV_eq y12, ↓bI_eq t2, ↓bV_eq y20, ↓bV_eq y21, ↓bV_eq y22, ↓bV_eq y23, ↓bV_eq y24, ↓bV_eq y25, ↓bV_eq y26]
end CUT
