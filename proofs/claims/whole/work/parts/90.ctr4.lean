/-! the class's loop over the statements -/
/-- what comes of a text that begins as a terrace: a fault, or houses, statements and what is told -/
def trA (b : Nat → Int) (E : Nat) : Sum (Int × Int) (Nat × Nat × Tst) :=
  if wno b E 0 false = 0 then
    (if (numT b E 2 9 (tL b E (tS b E 0)) true).1 = 0 then
      (if tB b E (tD b E (tS b E (tL b E (tS b E 0)))) = 59 then
        (match trF b E (numT b E 2 9 (tL b E (tS b E 0)) true).2.2.toNat (E + 2) 1 st0 (tS b E (tD b E (tS b E (tL b E (tS b E 0)))) + 1) false with
          | .inl f => .inl f
          | .inr y => .inr ((numT b E 2 9 (tL b E (tS b E 0)) true).2.2.toNat, y))
       else .inl (1, (tS b E (tD b E (tS b E (tL b E (tS b E 0)))) : Int)))
     else .inl ((numT b E 2 9 (tL b E (tS b E 0)) true).1, (numT b E 2 9 (tL b E (tS b E 0)) true).2.1))
  else .inl (1, (tS b E 0 : Int))
def adA (st : Tst) : Tst := ad 2 (ad 1 (ad 0 st))
/-- the class's outcome of the loop -/
def CTr (u : Nat) (hm : Int) (g : mm_H) (X : mm_X) (r : Sum (Int × Int) (Nat × Tst)) : Prop := match r with
  | .inl f => ∃ g', X = some (some (.int (iI 0)), g') ∧ fd g' 3 5 = f.1 ∧ fd g' 3 6 = f.2 ∧ KR (QD u) g g'
  | .inr y => ∃ g', X = some (some (.int (iI 1)), g') ∧ CTs g' u hm (adA y.2) ∧ (fd g' u 4 = (y.1 : Nat) ∧ fd g' 3 5 = 0 ∧ fd g' 3 6 = -1) ∧ KR (QD u) g g'
section CTL
variable {d : Nat} {b : Nat → Int} {E : Nat} {u : Nat} {hm : Nat}
theorem CTr.of {h0 : Int} {g0 g : mm_H} {X : mm_X} {r : Sum (Int × Int) (Nat × Tst)} (h : CTr u h0 g X r) (k : KR (QD u) g0 g) : CTr u h0 g0 X r := by
  cases r with
  | inl f =>
    obtain ⟨g', a1, a2, a3, a4⟩ := h
    exact ⟨g', a1, a2, a3, k.trans a4⟩
  | inr y =>
    obtain ⟨g', a1, a2, a3, a4⟩ := h
    exact ⟨g', a1, a2, a3, k.trans a4⟩
set_option maxHeartbeats 8000000 in
theorem C_trL (hu : mm_isT u) (h2 : 2 ≤ hm ∧ hm ≤ 9) (hE : E ≤ 1600) : ∀ (k n : Nat) (st : Tst) (p : Nat) (gl : Bool) (g : mm_H), n ≤ 80 → E + 1 ≤ k + p → CS g b E p gl → CTs g u hm st → TstOK hm p st → CTr u hm g (mm_D (mm_M mm_T0 (d + 38)) cd_X9_readTerrace 35 [.ref 12, .ref u, .int (iI (n : Nat))] [] g) (trF b E hm k n st p gl)
  | 0, n, st, p, gl, g, hn, hk, S, T, O => by
    have := S.2.2.1
    omega
  | k + 1, n, st, p, gl, g, hn, hk, S, T, O => by
    have ut := isT_or hu
    have hp := S.2.2.1
    have ge := tS_ge (b := b) (E := E) (p := p)
    have le := tS_le (b := b) (E := E) hp
    have ea := C_isAtEnd (d := d + 37) S
    have ol := O.2.2.2.2.2.2
    rw [trF]
    by_cases c1 : tB b E p = -1
    · rw [if_pos c1]
      rw [b2_t c1] at ea
      have kw : Kf (fun a j => a = u ∧ j = 4) nL g (wI g u 4 (iI (n : Nat))) := Kf.refl.wI ⟨rfl, rfl⟩
      have T1 : CTs (wI g u 4 (iI (n : Nat))) u hm st := by
        obtain ⟨t1, t2, t3, t4, t5, t6, t7⟩ := T
        have z : ∀ a j, a ≠ u → fd (wI g u 4 (iI (n : Nat))) a j = fd g a j := fun a j h => fd_wI_row h
        refine ⟨?_, fun i x hx => ?_, fun i j h1 h2 h3 => ?_, fun y hv => ?_, ?_, t6.kf kw (by omega) (by intro j; omega), fun w hw => ?_⟩
        · rw [z _ _ (by omega), z _ _ (by omega), z _ _ (by omega), z _ _ (by omega)]; exact t1
        · have := t2 i x hx
          refine ⟨?_, fun k hk => ?_⟩
          · rw [z _ _ (by omega), z _ _ (by omega), z _ _ (by omega), z _ _ (by omega), z _ _ (by omega)]; exact this.1
          · rw [z _ _ (by omega)]; exact this.2 k hk
        · rw [z _ _ (by omega)]; exact t3 i j h1 h2 h3
        · rw [z _ _ (by omega)]; exact t4 y hv
        · rw [fd_wI_col (by omega)]; exact t5
        · rw [z _ _ (by omega), z _ _ (by omega)]; exact t7 w hw
      obtain ⟨g', a1, a2, a3⟩ := C_unt (d := d + 36) hu T1 (by omega)
      refine ⟨g', ?_, a2, ⟨?_, ?_, ?_⟩, (KR.of kw (fun a j q => by unfold QD; omega)).trans (KR.of a3 (fun a j q => by unfold QU at q; unfold QD; omega))⟩
      · rw [U_X9_readTerrace_35 hu]
        by_cases c2 : 80 ≤ n
        · have l : (iI 80 ≤ iI ((n : Nat) : Int)) = True := iG_t (by omega) (by omega) (by omega) (by omega) (by omega)
          (try simp only [iI_lit, iI_neg]) <;> simp (maxSteps := 1000000) (disch := decide) only [iI_lit, iI_neg, iI_add, mm_bI_some, mm_bV_some, mm_bL_some, ↓reduceIte, i10, i00, i11, eq_self, not_true_eq_false, not_false_eq_true, ite_true, ite_false, if_true, if_false, and_true, true_and, and_false, false_and, and_self, or_self, or_false, false_or, or_true, true_or, iI_eq, iI_lt, iI_le, Int.reduceEq, Int.reduceLT, Int.reduceLE, l, ↓bI_eq ea, ↓bV_eq a1]
        · have l : (iI 80 ≤ iI ((n : Nat) : Int)) = False := iG_f (by omega) (by omega) (by omega) (by omega) (by omega)
          (try simp only [iI_lit, iI_neg]) <;> simp (maxSteps := 1000000) (disch := decide) only [iI_lit, iI_neg, iI_add, mm_bI_some, mm_bV_some, mm_bL_some, ↓reduceIte, i10, i00, i11, eq_self, not_true_eq_false, not_false_eq_true, ite_true, ite_false, if_true, if_false, and_true, true_and, and_false, false_and, and_self, or_self, or_false, false_or, or_true, true_or, iI_eq, iI_lt, iI_le, Int.reduceEq, Int.reduceLT, Int.reduceLE, l, ↓bI_eq ea, ↓bV_eq a1]
      · rw [a3.1 _ _ (by unfold QU; omega)]
        exact fd_wI_same (by omega) (by omega)
      · rw [a3.1 _ _ (by unfold QU; omega), fd_wI_row (by omega)]
        exact S.2.2.2.2.2.2.2.1
      · rw [a3.1 _ _ (by unfold QU; omega), fd_wI_row (by omega)]
        exact S.2.2.2.2.2.2.2.2
    · rw [if_neg c1]
      rw [b2_f c1] at ea
      by_cases c2 : n = 80
      · rw [if_pos c2]
        have f := C_fail (d := d + 36) (k := 5) S
        have l : (iI 80 ≤ iI ((n : Nat) : Int)) = True := iG_t (by omega) (by omega) (by omega) (by omega) (by omega)
        refine ⟨_, ?_, bdH_5 (by omega) (by omega), bdH_6 (by omega) (by omega), bdH_KR⟩
        rw [U_X9_readTerrace_35 hu]
        (try simp only [iI_lit, iI_neg]) <;> simp (maxSteps := 1000000) (disch := decide) only [iI_lit, iI_neg, iI_add, mm_bI_some, mm_bV_some, mm_bL_some, ↓reduceIte, i10, i00, i11, eq_self, not_true_eq_false, not_false_eq_true, ite_true, ite_false, if_true, if_false, and_true, true_and, and_false, false_and, and_self, or_self, or_false, false_or, or_true, true_or, iI_eq, iI_lt, iI_le, Int.reduceEq, Int.reduceLT, Int.reduceLE, l, ↓bI_eq ea, ↓bI_eq f, zr_0]
      · rw [if_neg c2]
        have l : (iI 80 ≤ iI ((n : Nat) : Int)) = False := iG_f (by omega) (by omega) (by omega) (by omega) (by omega)
        have e1 : ((n : Nat) : Int) + 1 = ((n + 1 : Nat) : Int) := by omega
        have sm := C_stm (d := d + 6) hu h2 S T O
        have ok := stF_ok (b := b) (E := E) (gl := gl) hE hp (by omega) O
        revert sm ok
        cases stF b E hm st p gl with
        | inl f =>
          intro sm ok
          obtain ⟨g', a1, a2, a3, a4⟩ := sm
          refine ⟨g', ?_, a2, a3, a4⟩
          rw [U_X9_readTerrace_35 hu]
          (try simp only [iI_lit, iI_neg]) <;> simp (maxSteps := 1000000) (disch := decide) only [iI_lit, iI_neg, iI_add, mm_bI_some, mm_bV_some, mm_bL_some, ↓reduceIte, i10, i00, i11, eq_self, not_true_eq_false, not_false_eq_true, ite_true, ite_false, if_true, if_false, and_true, true_and, and_false, false_and, and_self, or_self, or_false, false_or, or_true, true_or, iI_eq, iI_lt, iI_le, Int.reduceEq, Int.reduceLT, Int.reduceLE, l, ↓bI_eq ea, ↓bI_eq a1]
        | inr y =>
          intro sm ok
          obtain ⟨g1, a1, S1, T1, k1⟩ := sm
          have o1 : p + 1 ≤ y.1 := ok.1
          have o2 : y.1 ≤ E := ok.2.1
          have o3 : TstOK hm y.1 y.2.2 := ok.2.2
          have ge1 := tS_ge (b := b) (E := E) (p := y.1)
          have ts := C_takeSign (d := d + 32) (x := 59) S1 (by omega) (by omega) (by omega)
          show CTr u hm g _ (if tB b E y.1 = 59 then _ else _)
          by_cases c3 : tB b E y.1 = 59
          · rw [if_pos c3]
            obtain ⟨g2, b1, S2, k2⟩ := ts.1 c3
            clear ts
            have T2 := T1.tk hu k2
            have ih := C_trL hu h2 hE k (n + 1) y.2.2 (tS b E y.1 + 1) false g2 (by omega) (by omega) S2 T2 (o3.mono (by omega))
            have st1 : mm_D (mm_M mm_T0 (d + 38)) cd_X9_readTerrace 35 [.ref 12, .ref u, .int (iI (n : Nat))] [] g = mm_D (mm_M mm_T0 (d + 38)) cd_X9_readTerrace 35 [.ref 12, .ref u, .int (iI ((n + 1 : Nat) : Int))] [] g2 := by
              rw [U_X9_readTerrace_35 hu]
              (try simp only [iI_lit, iI_neg]) <;> simp (maxSteps := 1000000) (disch := decide) only [iI_lit, iI_neg, iI_add, mm_bI_some, mm_bV_some, mm_bL_some, ↓reduceIte, i10, i00, i11, eq_self, not_true_eq_false, not_false_eq_true, ite_true, ite_false, if_true, if_false, and_true, true_and, and_false, false_and, and_self, or_self, or_false, false_or, or_true, true_or, iI_eq, iI_lt, iI_le, Int.reduceEq, Int.reduceLT, Int.reduceLE, l, ↓bI_eq ea, ↓bI_eq a1, ↓bI_eq b1, e1]
            rw [st1]
            exact CTr.of ih (k1.trans (tkKR k2))
          · rw [if_neg c3]
            have b1 := ts.2 c3
            clear ts
            have le1 := tS_le (b := b) (E := E) o2
            refine ⟨_, ?_, bdH_5 (by omega) (by omega), bdH_6 (by omega) (by omega), k1.trans bdH_KR⟩
            rw [U_X9_readTerrace_35 hu]
            (try simp only [iI_lit, iI_neg]) <;> simp (maxSteps := 1000000) (disch := decide) only [iI_lit, iI_neg, iI_add, mm_bI_some, mm_bV_some, mm_bL_some, ↓reduceIte, i10, i00, i11, eq_self, not_true_eq_false, not_false_eq_true, ite_true, ite_false, if_true, if_false, and_true, true_and, and_false, false_and, and_self, or_self, or_false, false_or, or_true, true_or, iI_eq, iI_lt, iI_le, Int.reduceEq, Int.reduceLT, Int.reduceLE, l, ↓bI_eq ea, ↓bI_eq a1, ↓bI_eq b1]
end CTL
