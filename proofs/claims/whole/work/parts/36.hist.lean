/-! history: remember and keeps, undo -/
section HIST
variable {d : Nat} {h : mm_H}
theorem sh_past {x : Nat} (hx : x < 20) : mm_sh (23 + 1 + 9 * x) = (0, 7) := by
  have : ∀ x, x < 20 → mm_sh (23 + 1 + 9 * x) = (0, 7) := by decide
  exact this x hx
/-- what remembering changes -/
def QHc : Nat → Nat → Prop := fun a k => (24 ≤ a ∧ a ≤ 203) ∨ (a = 22 ∧ (k = 1 ∨ k = 2))
def QHr : Nat → Nat → Prop := fun a k => a = 306 ∨ (a = 264 ∧ (k = 73 ∨ k = 74))
theorem C_remember {x : Nat} {c : Int} (hx : x < 20) (e1 : fd h 22 1 = (x : Int)) (e2 : fd h 22 2 = c) (c0 : 0 ≤ c) (c1 : c ≤ 20) : ∃ h', mm_M mm_T0 (d + 2) 62 [.ref 22, .ref 13] h = some (none, h') ∧ Cpy (24 + 9 * x) 13 h h' ∧ (∀ a k, a ≠ 22 → ¬ (24 + 9 * x ≤ a ∧ a ≤ 24 + 9 * x + 8) → fd h' a k = fd h a k) ∧ fd h' 22 1 = (((x + 1) % 20 : Nat) : Int) ∧ fd h' 22 2 = min (c + 1) 20 ∧ Kf QHc nL h h' := by
  obtain ⟨g, m1, m2, m3⟩ := C_copy (d := d) (h := h) (isS_past hx) isS_13 (by omega)
  have g1 : fd g 22 1 = (x : Int) := (m3.1 22 1 (by unfold QSc; omega)).trans e1
  have g2 : fd g 22 2 = c := (m3.1 22 2 (by unfold QSc; omega)).trans e2
  have t1 : ((x : Int) % 20) = x := by omega
  have t2 : 23 + 1 + 9 * ((x : Int)).toNat = 24 + 9 * x := by omega
  have t3 : ((x : Int) + 1) % 20 = (((x + 1) % 20 : Nat) : Int) := by omega
  have sh : mm_sh (24 + 9 * x) = (0, 7) := sh_past hx
  refine ⟨wI (wI g 22 1 (iI (((x + 1) % 20 : Nat) : Int))) 22 2 (iI (min (c + 1) 20)), ?_, ?_, ?_, ?_, ?_, ?_⟩
  · rw [U_X3_remember isS_13]
    simp (disch := omega) only [iI_lit, jI_lit, iI_neg, jI_neg, iI_add, iI_sub, iI_mul, jI_add, jI_sub, jI_mul, rdI, rdL, iI_lt, iI_le, iI_eq, iI_nat, iI_b2_0, iI_b2_1, mm_bI_some, mm_bV_some, mm_bL_some, mm_bA_some, fd_wL, fd_wR, fl_wI, fl_wR, re_wI, re_wL, re_wC, ite_true, ite_false, not_true_eq_false, not_false_eq_true, lq_ge, lq_le, lq_gt, lq_lt, lq_eq, jI_lt, jI_le, jI_eq, if_pos, if_neg, e1, J_floorMod, t1, t2, sh, m1, g1, t3, fd_wI_col, g2, J_min]
  · refine ⟨fun j j1 j2 k hk => ?_, fun k hk => ?_, fun k hk => ?_, fun k hk => ?_, fun k k1 k2 => ?_⟩
    · rw [fd_wI_row (by omega), fd_wI_row (by omega)]; exact m2.1 j j1 j2 k hk
    · rw [fd_wI_row (by omega), fd_wI_row (by omega)]; exact m2.2.1 k hk
    · rw [fd_wI_row (by omega), fd_wI_row (by omega)]; exact m2.2.2.1 k hk
    · rw [fd_wI_row (by omega), fd_wI_row (by omega)]; exact m2.2.2.2.1 k hk
    · rw [fd_wI_row (by omega), fd_wI_row (by omega)]; exact m2.2.2.2.2 k k1 k2
  · intro a k a1 a2
    rw [fd_wI_row a1, fd_wI_row a1]
    exact m3.1 a k (by unfold QSc; omega)
  · rw [fd_wI_col (by omega), fd_wI_same (by omega) (by omega)]
  · rw [fd_wI_same (by omega) (by omega)]
  · exact Kf.wI (Kf.wI (m3.monoQ (fun a k q => by unfold QSc at q; unfold QHc; omega)) (by unfold QHc; omega)) (by unfold QHc; omega)
theorem R_keeps_15 {x : Nat} (hx : x < 20) : ∀ (k : Nat) (z : Int) (h : mm_H), 0 ≤ z → z + k = 210 → fd h 264 74 = (x : Int) → ∃ g, mm_D (mm_M mm_T0 d) cd_X12_keeps 15 [.ref 264, .int (iI z)] [] h = (if 20 ≤ fd h 264 73 then some (none, g) else some (none, wI g 264 73 (iI (fd h 264 73 + 1)))) ∧ (∀ j : Nat, fd g 306 j = if 210 * x + z ≤ j ∧ j < 210 * x + 210 then fd h 300 (j - 210 * x) else fd h 306 j) ∧ Kf (fun a _ => a = 306) nL h g
  | 0, z, h, h1, h2, e => by
    refine ⟨h, ?_, fun j => by rw [if_neg (by omega)], Kf.refl⟩
    rw [U_X12_keeps_15]
    have := fd_lo h 264 73; have := fd_hi h 264 73
    by_cases c : 20 ≤ fd h 264 73
    · simp (disch := omega) only [iI_lit, jI_lit, iI_neg, jI_neg, iI_add, iI_sub, iI_mul, jI_add, jI_sub, jI_mul, rdI, rdL, iI_lt, iI_le, iI_eq, iI_nat, iI_b2_0, iI_b2_1, mm_bI_some, mm_bV_some, mm_bL_some, mm_bA_some, fd_wL, fd_wR, fl_wI, fl_wR, re_wI, re_wL, re_wC, ite_true, ite_false, not_true_eq_false, not_false_eq_true, lq_ge, lq_le, lq_gt, lq_lt, lq_eq, jI_lt, jI_le, jI_eq, if_pos, if_neg]
    · simp (disch := omega) only [iI_lit, jI_lit, iI_neg, jI_neg, iI_add, iI_sub, iI_mul, jI_add, jI_sub, jI_mul, rdI, rdL, iI_lt, iI_le, iI_eq, iI_nat, iI_b2_0, iI_b2_1, mm_bI_some, mm_bV_some, mm_bL_some, mm_bA_some, fd_wL, fd_wR, fl_wI, fl_wR, re_wI, re_wL, re_wC, ite_true, ite_false, not_true_eq_false, not_false_eq_true, lq_ge, lq_le, lq_gt, lq_lt, lq_eq, jI_lt, jI_le, jI_eq, if_pos, if_neg]
  | k + 1, z, h, h1, h2, e => by
    obtain ⟨g, m1, m2, m3⟩ := R_keeps_15 hx k (z + 1) (wI h 306 (210 * (x : Int) + z).toNat (iI (fd h 300 z.toNat))) (by omega) (by omega) (by rw [fd_wI_row (by omega)]; exact e)
    refine ⟨g, ?_, fun j => ?_, Kf.trans (Kf.wI (Q := fun a _ => a = 306) (L := nL) Kf.refl rfl) m3⟩
    · rw [U_X12_keeps_15]
      have e73 : fd (wI h 306 (210 * (x : Int) + z).toNat (iI (fd h 300 z.toNat))) 264 73 = fd h 264 73 := fd_wI_row (by omega)
      rw [e73] at m1
      rw [← m1]
      simp (disch := omega) only [iI_lit, jI_lit, iI_neg, jI_neg, iI_add, iI_sub, iI_mul, jI_add, jI_sub, jI_mul, rdI, rdL, iI_lt, iI_le, iI_eq, iI_nat, iI_b2_0, iI_b2_1, mm_bI_some, mm_bV_some, mm_bL_some, mm_bA_some, fd_wL, fd_wR, fl_wI, fl_wR, re_wI, re_wL, re_wC, ite_true, ite_false, not_true_eq_false, not_false_eq_true, lq_ge, lq_le, lq_gt, lq_lt, lq_eq, jI_lt, jI_le, jI_eq, if_pos, if_neg, e]
    · have b1 := fd_lo h 300 z.toNat
      have b2' := fd_hi h 300 z.toNat
      rw [m2]
      by_cases c : 210 * x + (z + 1) ≤ (j : Int) ∧ j < 210 * x + 210
      · rw [if_pos c, if_pos (by omega), fd_wI_row (by omega)]
      · rw [if_neg c]
        by_cases c2 : (j : Int) = 210 * x + z
        · rw [if_pos (by omega)]
          have : j = (210 * (x : Int) + z).toNat := by omega
          subst this
          rw [fd_wI_same b1 b2']
          congr 1
          omega
        · rw [if_neg (by omega), fd_wI_col (by omega)]
theorem R_keeps {x : Nat} {c : Int} (hx : x < 20) (e1 : fd h 264 74 = (x : Int)) (e2 : fd h 264 73 = c) (c0 : 0 ≤ c) (c1 : c ≤ 20) : ∃ h', mm_M mm_T0 (d + 1) 275 [.ref 264] h = some (none, h') ∧ fd h' 264 74 = (((x + 1) % 20 : Nat) : Int) ∧ fd h' 264 73 = min (c + 1) 20 ∧ (∀ k, k < 210 → fd h' 306 (210 * ((x + 1) % 20) + k) = fd h 300 k) ∧ (∀ k, ¬ (210 * ((x + 1) % 20) ≤ k ∧ k < 210 * ((x + 1) % 20) + 210) → fd h' 306 k = fd h 306 k) ∧ Kf QHr nL h h' := by
  have hx' : (x + 1) % 20 < 20 := Nat.mod_lt _ (by omega)
  have et : ((x : Int) + 1) - ((x : Int) + 1).tdiv 20 * 20 = (((x + 1) % 20 : Nat) : Int) := by
    rw [Int.tdiv_eq_ediv_of_nonneg (by omega)]
    omega
  have w1 : fd (wI h 264 74 (iI (((x + 1) % 20 : Nat) : Int))) 264 74 = (((x + 1) % 20 : Nat) : Int) := fd_wI_same (by omega) (by omega)
  have w2 : fd (wI h 264 74 (iI (((x + 1) % 20 : Nat) : Int))) 264 73 = c := (fd_wI_col (by omega)).trans e2
  obtain ⟨g, m1, m2, m3⟩ := R_keeps_15 (d := d) hx' 210 0 (wI h 264 74 (iI (((x + 1) % 20 : Nat) : Int))) (by omega) (by omega) w1
  rw [w2] at m1
  have s1 : mm_M mm_T0 (d + 1) 275 [.ref 264] h = mm_D (mm_M mm_T0 d) cd_X12_keeps 15 [.ref 264, .int (iI 0)] [] (wI h 264 74 (iI (((x + 1) % 20 : Nat) : Int))) := by
    rw [U_X12_keeps]
    simp (disch := omega) only [iI_lit, jI_lit, iI_neg, jI_neg, iI_add, iI_sub, iI_mul, jI_add, jI_sub, jI_mul, rdI, rdL, iI_lt, iI_le, iI_eq, iI_nat, iI_b2_0, iI_b2_1, mm_bI_some, mm_bV_some, mm_bL_some, mm_bA_some, fd_wL, fd_wR, fl_wI, fl_wR, re_wI, re_wL, re_wC, ite_true, ite_false, not_true_eq_false, not_false_eq_true, lq_ge, lq_le, lq_gt, lq_lt, lq_eq, jI_lt, jI_le, jI_eq, if_pos, if_neg, e1, iI_div, et]
  have k0 : Kf QHr nL h g := Kf.trans (Kf.refl.wI (by unfold QHr; omega)) (m3.monoQ (fun a k q => Or.inl q))
  have g74 : fd g 264 74 = (((x + 1) % 20 : Nat) : Int) := (m3.1 _ _ (by omega)).trans w1
  have g73 : fd g 264 73 = c := (m3.1 _ _ (by omega)).trans w2
  have r1 : ∀ k, k < 210 → fd g 306 (210 * ((x + 1) % 20) + k) = fd h 300 k := by
    intro k hk
    rw [m2, if_pos (by omega), fd_wI_row (by omega)]
    congr 1
    omega
  have r2 : ∀ k, ¬ (210 * ((x + 1) % 20) ≤ k ∧ k < 210 * ((x + 1) % 20) + 210) → fd g 306 k = fd h 306 k := by
    intro k hk
    rw [m2, if_neg (by omega), fd_wI_row (by omega)]
  by_cases c2 : 20 ≤ c
  · refine ⟨g, ?_, g74, by omega, r1, r2, k0⟩
    rw [s1, m1, if_pos c2]
  · refine ⟨wI g 264 73 (iI (c + 1)), ?_, ?_, ?_, fun k hk => ?_, fun k hk => ?_, k0.wI (by unfold QHr; omega)⟩
    · rw [s1, m1, if_neg c2]
    · rw [fd_wI_col (by omega)]; exact g74
    · rw [fd_wI_same (by omega) (by omega)]; omega
    · rw [fd_wI_row (by omega)]; exact r1 k hk
    · rw [fd_wI_row (by omega)]; exact r2 k hk
variable {i pm hm : Int} {fc kd n : Int → Int} {ev : Evs} {past : Past}
/-- both remember: the class first, then what it does besides (to g), then the reference -/
theorem H_push (I : IvH h i pm hm fc kd past) (S : SR h 13 pm hm fc kd n) (KC : KeptC h 13 ev) (R : RepR h n) (KR : KeptR h ev) (NN : NI pm hm n) (y : 0 ≤ n 0 ∧ n 0 ≤ 999) (EO : EvOK ev) (EL : (ev.length : Int) ≤ 300 * i) : ∃ h1, mm_M mm_T0 (d + 2) 62 [.ref 22, .ref 13] h = some (none, h1) ∧ Kf QHc nL h h1 ∧ ∀ (Q L : Nat → Nat → Prop) (g : mm_H), Kf Q L h1 g → (∀ a j, Q a j → a ≠ 22 ∧ ¬ (24 ≤ a ∧ a ≤ 203) ∧ a ≠ 264 ∧ a ≠ 306 ∧ a ≠ 300) → ∃ h2, mm_M mm_T0 (d + 2) 275 [.ref 264] g = some (none, h2) ∧ Kf QHr nL g h2 ∧ IvH h2 i pm hm fc kd ((n, ev) :: past.take 19) := by
  obtain ⟨a1, a2, a3, x, a4, a5, a6, a7⟩ := I
  obtain ⟨h1, p1, p2, p3, p4, p5, p6⟩ := C_remember (d := d) a4 a5 a2 (by omega) (by omega)
  refine ⟨h1, p1, p6, fun Q L g k q => ?_⟩
  have z : ∀ a j, (a = 22 ∨ (24 ≤ a ∧ a ≤ 203) ∨ a = 264 ∨ a = 306 ∨ a = 300) → fd g a j = fd h1 a j := fun a j x => k.1 a j (fun y => by have := q a j y; omega)
  have z1 : ∀ a j, (a = 264 ∨ a = 306 ∨ a = 300) → fd g a j = fd h a j := fun a j x => (z a j (by omega)).trans (p6.1 a j (by unfold QHc; omega))
  obtain ⟨h2, q1, q2, q3, q4, q5, q6⟩ := R_keeps (d := d + 1) (h := g) a4 ((z1 _ _ (by omega)).trans a6) ((z1 _ _ (by omega)).trans a3) (by omega) (by omega)
  have hl : ((n, ev) :: past.take 19).length = min past.length 19 + 1 := by
    rw [List.length_cons, List.length_take]
    omega
  have b1 := NN.1
  have b2' := NN.2.1
  have y1 : ∀ a j, ¬ QHr a j → fd h2 a j = fd g a j := fun a j x => q6.1 a j x
  refine ⟨h2, q1, q6, by omega, ?_, ?_, (x + 1) % 20, Nat.mod_lt _ (by omega), ?_, q2, fun j hj m e he => ?_⟩
  · rw [y1 _ _ (by unfold QHr; omega), z _ _ (by omega), p5]; omega
  · rw [q3]; omega
  · rw [y1 _ _ (by unfold QHr; omega), z _ _ (by omega), p4]
  · cases j with
    | zero =>
      have he' : (n, ev) = (m, e) := by simpa using he
      obtain ⟨rfl, rfl⟩ : n = m ∧ ev = e := by
        injection he' with u v
        exact ⟨u, v⟩
      have i1 : ((x + 1) % 20 + 19 - 0) % 20 = x := by omega
      have i2 : ((x + 1) % 20 + 20 - 0) % 20 = (x + 1) % 20 := by omega
      rw [i1, i2]
      have sc : ∀ a j, 24 + 9 * x ≤ a → a ≤ 24 + 9 * x + 8 → fd h2 a j = fd h1 a j := fun a j u v => (y1 a j (by unfold QHr; omega)).trans (z a j (by omega))
      refine ⟨(p2.SR b1.2 b2'.2 S).congr (fun a j u v => sc a j u (by omega)), (p2.Kept KC).congr (sc _ _ (by omega) (by omega)) (fun j => sc _ _ (by omega) (by omega)), fun z' hz => ?_, ?_, NN, y, EO, EL⟩
      · rw [q4 _ (by omega), z1 _ _ (by omega)]
        exact R z' (by omega) (by omega)
      · refine KeptF.congr (KeptR_F.mp KR) (fun k k1 k2 => ?_)
        rw [q4 _ (by omega), z1 _ _ (by omega)]
    | succ j =>
      have hj' : j < min past.length 19 := by omega
      have he' : past[j]? = some (m, e) := by
        have : (past.take 19)[j]? = some (m, e) := by simpa using he
        rw [List.getElem?_take_of_lt (by omega)] at this
        exact this
      obtain ⟨c1, c2, c3, c4, c5, c6, c7, c8⟩ := a7 j (by omega) m e he'
      have i1 : ((x + 1) % 20 + 19 - (j + 1)) % 20 = (x + 19 - j) % 20 := by omega
      have i2 : ((x + 1) % 20 + 20 - (j + 1)) % 20 = (x + 20 - j) % 20 := by omega
      have i3 : (x + 19 - j) % 20 ≠ x := by omega
      have i4 : (x + 20 - j) % 20 ≠ (x + 1) % 20 := by omega
      have i5 : (x + 19 - j) % 20 < 20 := Nat.mod_lt _ (by omega)
      have i6 : (x + 20 - j) % 20 < 20 := Nat.mod_lt _ (by omega)
      rw [i1, i2]
      generalize (x + 19 - j) % 20 = w at *
      generalize (x + 20 - j) % 20 = w2 at *
      have sc : ∀ a j, 24 + 9 * w ≤ a → a ≤ 24 + 9 * w + 8 → fd h2 a j = fd h a j := fun a j u v => ((y1 a j (by unfold QHr; omega)).trans (z a j (by omega))).trans (p3 a j (by omega) (by omega))
      refine ⟨c1.congr (fun a j u v => sc a j u (by omega)), c2.congr (sc _ _ (by omega) (by omega)) (fun j => sc _ _ (by omega) (by omega)), fun z' hz => ?_, ?_, c5, c6, c7, c8⟩
      · rw [q5 _ (by omega), z1 _ _ (by omega)]
        exact c3 z' hz
      · refine c4.congr (fun k k1 k2 => ?_)
        rw [q5 _ (by omega), z1 _ _ (by omega)]
theorem J_floorMod_m1 : mm_M mm_T0 (d + 1) 8 [.int (iI (-1)), .int (iI 20)] h = some (some (.int (iI 19)), h) := by
  rw [U_J9_floorMod_7cf53, if_neg (by decide), if_neg (by decide), if_neg (by decide)]
  rfl
theorem C_restore {x : Nat} {c : Int} (hx : x < 20) (e1 : fd h 22 1 = (x : Int)) (e2 : fd h 22 2 = c) (c0 : 0 < c) (c1 : c ≤ 20) : ∃ h', mm_M mm_T0 (d + 2) 63 [.ref 22, .ref 13] h = some (some (.int (iI 1)), h') ∧ Cpy 13 (24 + 9 * ((x + 19) % 20)) h h' ∧ fd h' 22 1 = (((x + 19) % 20 : Nat) : Int) ∧ fd h' 22 2 = c - 1 ∧ Kf (fun a k => (13 ≤ a ∧ a ≤ 21) ∨ (a = 22 ∧ (k = 1 ∨ k = 2))) nL h h' := by
  have hx' : (x + 19) % 20 < 20 := Nat.mod_lt _ (by omega)
  have fm : mm_M mm_T0 (d + 1) 8 [.int (iI ((x : Int) - 1)), .int (iI 20)] h = some (some (.int (iI (((x + 19) % 20 : Nat) : Int))), h) := by
    by_cases z : x = 0
    · subst z
      exact J_floorMod_m1
    · have e : ((x : Int) - 1) % 20 = (((x + 19) % 20 : Nat) : Int) := by omega
      rw [J_floorMod (by omega) (by omega) (by omega) (by omega), e]
  obtain ⟨g, m1, m2, m3⟩ := C_copy (d := d) (h := wI (wI h 22 1 (iI (((x + 19) % 20 : Nat) : Int))) 22 2 (iI (c - 1))) isS_13 (isS_past hx') (by omega)
  have w1 : fd (wI (wI h 22 1 (iI (((x + 19) % 20 : Nat) : Int))) 22 2 (iI (c - 1))) 22 1 = (((x + 19) % 20 : Nat) : Int) := by
    rw [fd_wI_col (by omega), fd_wI_same (by omega) (by omega)]
  have w2 : fd (wI h 22 1 (iI (((x + 19) % 20 : Nat) : Int))) 22 2 = c := by
    rw [fd_wI_col (by omega)]; exact e2
  have t2 : 23 + 1 + 9 * ((((x + 19) % 20 : Nat) : Int)).toNat = 24 + 9 * ((x + 19) % 20) := by omega
  have w3 : ∀ a k, a ≠ 22 → fd (wI (wI h 22 1 (iI (((x + 19) % 20 : Nat) : Int))) 22 2 (iI (c - 1))) a k = fd h a k := fun a k ha => by rw [fd_wI_row ha, fd_wI_row ha]
  refine ⟨g, ?_, ?_, ?_, ?_, ?_⟩
  · rw [U_X3_restore isS_13]
    simp (disch := omega) only [iI_lit, jI_lit, iI_neg, jI_neg, iI_add, iI_sub, iI_mul, jI_add, jI_sub, jI_mul, rdI, rdL, iI_lt, iI_le, iI_eq, iI_nat, iI_b2_0, iI_b2_1, mm_bI_some, mm_bV_some, mm_bL_some, mm_bA_some, fd_wL, fd_wR, fl_wI, fl_wR, re_wI, re_wL, re_wC, ite_true, ite_false, not_true_eq_false, not_false_eq_true, lq_ge, lq_le, lq_gt, lq_lt, lq_eq, jI_lt, jI_le, jI_eq, if_pos, if_neg, e1, e2, fm, w2, w1, t2, m1]
  · refine ⟨fun j j1 j2 k hk => ?_, fun k hk => ?_, fun k hk => ?_, fun k hk => ?_, fun k k1 k2 => ?_⟩
    · rw [m2.1 j j1 j2 k hk, w3 _ _ (by omega)]
    · rw [m2.2.1 k hk, w3 _ _ (by omega)]
    · rw [m2.2.2.1 k hk, w3 _ _ (by omega)]
    · rw [m2.2.2.2.1 k hk, w3 _ _ (by omega)]
    · rw [m2.2.2.2.2 k k1 k2, w3 _ _ (by omega)]
  · rw [m3.1 22 1 (by unfold QSc; omega), w1]
  · rw [m3.1 22 2 (by unfold QSc; omega), fd_wI_same (by omega) (by omega)]
  · exact Kf.trans (Kf.wI (Kf.wI Kf.refl (by omega)) (by omega)) (m3.monoQ (fun a k q => by unfold QSc at q; omega))
theorem R_undo_21 {x : Nat} (hx : x < 20) : ∀ (k : Nat) (z : Int) (h : mm_H), 0 ≤ z → z + k = 210 → fd h 264 74 = (x : Int) → ∃ g, mm_D (mm_M mm_T0 d) cd_X12_undo 21 [.ref 264, .int (iI z)] [] h = some (some (.int (iI 1)), wI (wI g 264 74 (iI (((x + 19) % 20 : Nat) : Int))) 264 73 (iI (fd h 264 73 - 1))) ∧ (∀ j : Nat, fd g 300 j = if z ≤ j ∧ j < 210 then fd h 306 (210 * x + j) else fd h 300 j) ∧ Kf (fun a _ => a = 300) nL h g
  | 0, z, h, h1, h2, e => by
    refine ⟨h, ?_, fun j => by rw [if_neg (by omega)], Kf.refl⟩
    rw [U_X12_undo_21]
    have et : ((x : Int) + 20 - 1) - ((x : Int) + 20 - 1).tdiv 20 * 20 = (((x + 19) % 20 : Nat) : Int) := by
      rw [Int.tdiv_eq_ediv_of_nonneg (by omega)]
      omega
    simp (disch := omega) only [iI_lit, jI_lit, iI_neg, jI_neg, iI_add, iI_sub, iI_mul, jI_add, jI_sub, jI_mul, rdI, rdL, iI_lt, iI_le, iI_eq, iI_nat, iI_b2_0, iI_b2_1, mm_bI_some, mm_bV_some, mm_bL_some, mm_bA_some, fd_wL, fd_wR, fl_wI, fl_wR, re_wI, re_wL, re_wC, ite_true, ite_false, not_true_eq_false, not_false_eq_true, lq_ge, lq_le, lq_gt, lq_lt, lq_eq, jI_lt, jI_le, jI_eq, if_pos, if_neg, e, iI_div, et, fd_wI_col]
  | k + 1, z, h, h1, h2, e => by
    obtain ⟨g, m1, m2, m3⟩ := R_undo_21 hx k (z + 1) (wI h 300 z.toNat (iI (fd h 306 (210 * (x : Int) + z).toNat))) (by omega) (by omega) (by rw [fd_wI_row (by omega)]; exact e)
    refine ⟨g, ?_, fun j => ?_, Kf.trans (Kf.wI (Q := fun a _ => a = 300) (L := nL) Kf.refl rfl) m3⟩
    · rw [U_X12_undo_21]
      have e73 : fd (wI h 300 z.toNat (iI (fd h 306 (210 * (x : Int) + z).toNat))) 264 73 = fd h 264 73 := fd_wI_row (by omega)
      rw [e73] at m1
      rw [← m1]
      simp (disch := omega) only [iI_lit, jI_lit, iI_neg, jI_neg, iI_add, iI_sub, iI_mul, jI_add, jI_sub, jI_mul, rdI, rdL, iI_lt, iI_le, iI_eq, iI_nat, iI_b2_0, iI_b2_1, mm_bI_some, mm_bV_some, mm_bL_some, mm_bA_some, fd_wL, fd_wR, fl_wI, fl_wR, re_wI, re_wL, re_wC, ite_true, ite_false, not_true_eq_false, not_false_eq_true, lq_ge, lq_le, lq_gt, lq_lt, lq_eq, jI_lt, jI_le, jI_eq, if_pos, if_neg, e]
    · have b1 := fd_lo h 306 (210 * (x : Int) + z).toNat
      have b2' := fd_hi h 306 (210 * (x : Int) + z).toNat
      rw [m2]
      by_cases c : (z + 1) ≤ (j : Int) ∧ j < 210
      · rw [if_pos c, if_pos (by omega), fd_wI_row (by omega)]
      · rw [if_neg c]
        by_cases c2 : (j : Int) = z
        · rw [if_pos (by omega)]
          have : j = z.toNat := by omega
          subst this
          rw [fd_wI_same b1 b2']
          congr 1
          omega
        · rw [if_neg (by omega), fd_wI_col (by omega)]
theorem K_undo : CallI 176 276 [] := by
  intro d h i I hi
  have I0 := I
  obtain ⟨t, st, pm, hm, fc, kd, cp, cm, cf, n, ev, past, M, W, H, S, P, N⟩ := I
  have tt := isT_or W.1.1
  obtain ⟨a1, a2, a3, x, a4, a5, a6, a7⟩ := H
  cases past with
  | nil =>
    have a2' : fd h 22 2 = 0 := a2
    have a3' : fd h 264 73 = 0 := a3
    refine ⟨iI 0, wI h 229 4 (iI (fd h 229 4 + 1)), _, ?_, ?_, I0.ref (k := 4) (by omega) hi⟩
    · rw [U_X11_undo, U_X3_restore isS_13]
      simp (disch := omega) only [iI_lit, jI_lit, iI_neg, jI_neg, iI_add, iI_sub, iI_mul, jI_add, jI_sub, jI_mul, rdI, rdL, iI_lt, iI_le, iI_eq, iI_nat, iI_b2_0, iI_b2_1, mm_bI_some, mm_bV_some, mm_bL_some, mm_bA_some, fd_wL, fd_wR, fl_wI, fl_wR, re_wI, re_wL, re_wC, ite_true, ite_false, not_true_eq_false, not_false_eq_true, lq_ge, lq_le, lq_gt, lq_lt, lq_eq, jI_lt, jI_le, jI_eq, if_pos, if_neg, a2', C_ref4]
    · rw [U_X12_undo]
      simp (disch := omega) only [iI_lit, jI_lit, iI_neg, jI_neg, iI_add, iI_sub, iI_mul, jI_add, jI_sub, jI_mul, rdI, rdL, iI_lt, iI_le, iI_eq, iI_nat, iI_b2_0, iI_b2_1, mm_bI_some, mm_bV_some, mm_bL_some, mm_bA_some, fd_wL, fd_wR, fl_wI, fl_wR, re_wI, re_wL, re_wC, ite_true, ite_false, not_true_eq_false, not_false_eq_true, lq_ge, lq_le, lq_gt, lq_lt, lq_eq, jI_lt, jI_le, jI_eq, if_pos, if_neg, a3', fd_wI_row]
  | cons me past =>
    obtain ⟨m, e⟩ := me
    have len : (((m, e) :: past).length : Int) = past.length + 1 := by rw [List.length_cons]; omega
    rw [len] at a2 a3
    have a1' : past.length + 1 ≤ 20 := a1
    obtain ⟨h1, p1, p2, p3, p4, p5⟩ := C_restore (d := d + 37) a4 a5 a2 (by omega) (by omega)
    have z1 : ∀ a j, (a = 264 ∨ a = 306 ∨ a = 300) → fd h1 a j = fd h a j := fun a j y => p5.1 a j (by omega)
    obtain ⟨h2, q1, q2, q3⟩ := R_undo_21 (d := d + 39) a4 210 0 h1 (by omega) (by omega) ((z1 _ _ (by omega)).trans a6)
    rw [z1 264 73 (by omega), a3] at q1
    have i0 := a7 0 (by rw [List.length_cons]; omega) m e rfl
    obtain ⟨c1, c2, c3, c4, c5, c6, c7, c8⟩ := i0
    rw [show (x + 19 - 0) % 20 = (x + 19) % 20 by omega] at c1 c2
    have i2 : (x + 20 - 0) % 20 = x := by omega
    rw [i2] at c3 c4
    obtain ⟨w1, w2, w3, w4, w5, w6, w7, w8, w9, w10, w11, w12, w13⟩ := W
    refine ⟨iI 1, h1, wI (wI h2 264 74 (iI (((x + 19) % 20 : Nat) : Int))) 264 73 (iI ((past.length : Int) + 1 - 1)), ?_, ?_, ?_⟩
    · rw [U_X11_undo, p1]
      simp (disch := omega) only [iI_lit, jI_lit, iI_neg, jI_neg, iI_add, iI_sub, iI_mul, jI_add, jI_sub, jI_mul, rdI, rdL, iI_lt, iI_le, iI_eq, iI_nat, iI_b2_0, iI_b2_1, mm_bI_some, mm_bV_some, mm_bL_some, mm_bA_some, fd_wL, fd_wR, fl_wI, fl_wR, re_wI, re_wL, re_wC, ite_true, ite_false, not_true_eq_false, not_false_eq_true, lq_ge, lq_le, lq_gt, lq_lt, lq_eq, jI_lt, jI_le, jI_eq, if_pos, if_neg]
    · rw [U_X12_undo, rdI, z1 264 73 (by omega), a3, if_pos (by rw [show (0 : Int32) = iI 0 from rfl, iI_eq (by omega) (by omega) (by omega) (by omega)]; omega)]
      exact q1
    · generalize hg : wI (wI h2 264 74 (iI (((x + 19) % 20 : Nat) : Int))) 264 73 (iI ((past.length : Int) + 1 - 1)) = g
      have Kg : Kf (fun a k => a = 300 ∨ (a = 264 ∧ (k = 73 ∨ k = 74))) nL h1 g := by
        rw [← hg]
        exact ((q3.monoQ (fun a k y => Or.inl y)).wI (by omega)).wI (by omega)
      have KK : Kf (fun a k => a = 300 ∨ (a = 264 ∧ (k = 73 ∨ k = 74)) ∨ (13 ≤ a ∧ a ≤ 21) ∨ (a = 22 ∧ (k = 1 ∨ k = 2))) nL h g := Kf.trans (p5.monoQ (fun a k y => by omega)) (Kg.monoQ (fun a k y => by omega))
      have r3 : ∀ j, j < 210 → fd g 300 j = fd h 306 (210 * x + j) := by
        intro j hj
        rw [← hg, fd_wI_row (by omega), fd_wI_row (by omega), q2, if_pos (by omega), z1 _ _ (by omega)]
      have gc : ∀ a j, 13 ≤ a → a ≤ 21 → fd g a j = fd h1 a j := fun a j y1 y2 => Kg.1 a j (by omega)
      have b1 := w5.1
      have b2' := w5.2.1
      have hm' : (x + 19) % 20 < 20 := Nat.mod_lt _ (by omega)
      refine ⟨t, st, pm, hm, fc, kd, cp, cm, cf, m, e, past, M.kf KK (by intro a j; unfold NM; omega) (fun y => y), ?_, ?_, S.kf KK (by intro a j; unfold NS; omega), P.kf KK (by intro a j; unfold NP; omega), N.kf KK (by intro a j; unfold Nnm; omega) (fun j hj y => y)⟩
      · refine ⟨⟨w1.1, ?_, ?_⟩, ⟨w2.1, ?_, ?_, w2.2.2.2.1, fun y => (w2.2.2.2.2 y).kf3 KK (by intro a j; unfold NC; omega)⟩, w3.kf2 KK (by intro a j; unfold NR; omega), ?_, c5, w6, c6, ?_, ?_, ⟨?_, ?_, c7, by omega⟩, ?_, ?_, by omega, by omega⟩
        · rw [KK.2.2]; exact w1.2.1
        · rw [KK.2.2]; exact w1.2.2
        · rw [KK.1 0 12 (by omega)]; exact w2.2.1
        · rw [KK.1 264 53 (by omega)]; exact w2.2.2.1
        · intro y y1 y2
          show fd g 300 y.toNat = _
          rw [r3 _ (by omega), c3 _ (by omega)]
          congr 1
          omega
        · exact (p2.SR b1.2 b2'.2 c1).congr (fun a j y1 y2 => gc a j y1 (by omega))
        · rw [KK.1 264 64 (by omega)]; exact w9
        · exact (p2.Kept c2).congr (gc _ _ (by omega) (by omega)) (fun j => gc _ _ (by omega) (by omega))
        · exact KeptR_F.mpr (c4.congr (fun k k1 k2 => r3 k k2))
        · rw [KK.1 264 65 (by omega)]; omega
        · rw [KK.1 t 3 (by omega), KK.1 264 47 (by omega)]; exact w12
      · refine ⟨by omega, ?_, ?_, (x + 19) % 20, hm', ?_, ?_, fun j hj m' e' he => ?_⟩
        · rw [Kg.1 22 2 (by omega), p4]; omega
        · rw [← hg, fd_wI_same (by omega) (by omega)]; omega
        · rw [Kg.1 22 1 (by omega), p3]
        · rw [← hg, fd_wI_col (by omega), fd_wI_same (by omega) (by omega)]
        · obtain ⟨c1, c2, c3, c4, c5, c6, c7, c8⟩ := a7 (j + 1) (by rw [List.length_cons]; omega) m' e' (by simpa using he)
          have i1 : ((x + 19) % 20 + 19 - j) % 20 = (x + 19 - (j + 1)) % 20 := by omega
          have i2 : ((x + 19) % 20 + 20 - j) % 20 = (x + 20 - (j + 1)) % 20 := by omega
          have i5 : (x + 19 - (j + 1)) % 20 < 20 := Nat.mod_lt _ (by omega)
          rw [i1, i2]
          refine ⟨c1.kf KK ?_, c2.kf KK ?_, fun z hz => ?_, c4.congr (fun z _ _ => ?_), c5, c6, c7, by omega⟩
          · intro a j a1 a2; omega
          · intro a j a1 a2; omega
          · rw [KK.1 306 _ (by omega)]; exact c3 z hz
          · exact KK.1 306 _ (by omega)
end HIST
