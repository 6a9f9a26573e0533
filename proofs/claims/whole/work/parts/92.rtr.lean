/-! the reference's terrace: its loop over the statements, and its beginning -/
/-- the end of the reference's reading -/
noncomputable def kT (d : Nat) (h : mm_H) : mm_X := if ((wI (wI h 264 7 (h.1 264 5)) 264 8 ((wI h 264 7 (h.1 264 5)).1 264 6)).1 264 5) = 0 then (mm_bV (mm_M mm_T0 d 212 [.ref 264] (wI (wI h 264 7 (h.1 264 5)) 264 8 ((wI h 264 7 (h.1 264 5)).1 264 6))) (fun h1 => some (some (.int (h1.1 264 52)), h1))) else (some (some (.int ((-1))), wI (wI (wI h 264 7 (h.1 264 5)) 264 8 ((wI h 264 7 (h.1 264 5)).1 264 6)) 266 1 (((wI (wI h 264 7 (h.1 264 5)) 264 8 ((wI h 264 7 (h.1 264 5)).1 264 6)).1 266 1) + 1)))
def RTr (d : Nat) (hm : Int) (g : mm_H) (X : mm_X) (r : Sum (Int × Int) (Nat × Tst)) : Prop := match r with
  | .inl f => ∃ g', X = kT d g' ∧ Bad g' f.1 f.2 ∧ Kf QRs LRt g g'
  | .inr y => ∃ g', X = kT d g' ∧ (fd g' 264 5 = 0 ∧ fd g' 264 6 = -1) ∧ RTs g' hm y.2 ∧ fd g' 264 52 = (y.1 : Nat) ∧ Kf QRs LRt g g'
section RTL9
variable {d : Nat} {b : Nat → Int} {E : Nat} {hm : Nat}
theorem RTr.of {h0 : Int} {g0 g : mm_H} {X : mm_X} {r : Sum (Int × Int) (Nat × Tst)} (h : RTr d h0 g X r) (k : Kf QRs LRt g0 g) : RTr d h0 g0 X r := by
  cases r with
  | inl f =>
    obtain ⟨g', a1, a2, a3⟩ := h
    exact ⟨g', a1, a2, k.trans a3⟩
  | inr y =>
    obtain ⟨g', a1, a2, a3, a4, a5⟩ := h
    exact ⟨g', a1, a2, a3, a4, k.trans a5⟩
theorem B_98 {g : mm_H} (b5 : fd g 264 5 ≠ 0) : mm_D (mm_M mm_T0 d) cd_X12_terrace 98 [.ref 264, .null] [] g = kT d g := by
  rw [U_X12_terrace_98, if_pos (bad_1 b5)]
  rfl
theorem kTs {g g' : mm_H} (k : Kf QTk nL g g') : Kf QRs LRt g g' := kRs (kTR k)
set_option maxHeartbeats 8000000 in
theorem R_trL (h2 : 2 ≤ hm ∧ hm ≤ 9) (hE : E ≤ 1600) : ∀ (k n : Nat) (st : Tst) (p : Nat) (gl : Bool) (g : mm_H), n ≤ 80 → E + 1 ≤ k + p → RS g b E p gl → RTs g hm st → TstOK hm p st → fd g 264 52 = (n : Nat) → RTr (d + 38) hm g (mm_D (mm_M mm_T0 (d + 38)) cd_X12_terrace 98 [.ref 264, .null] [] g) (trF b E hm k n st p gl)
  | 0, n, st, p, gl, g, hn, hk, R, T, O, e52 => by
    have := R.2.1
    omega
  | k + 1, n, st, p, gl, g, hn, hk, R, T, O, e52 => by
    have hp := R.2.1
    have h5 := R.2.2.1
    have ge := tS_ge (b := b) (E := E) (p := p)
    have le := tS_le (b := b) (E := E) hp
    obtain ⟨g1, l1, R1, l2, k1⟩ := R_look (d := d + 37) R
    have T1 := T.tk k1
    have f52 : fd g1 264 52 = (n : Nat) := (k1.1 _ _ (by unfold QTk; omega)).trans e52
    have tb := tB_b (p := p) R1.1
    rw [trF]
    by_cases c1 : tB b E p = -1
    · rw [if_pos c1]
      rw [c1] at l1
      refine ⟨g1, ?_, ⟨R1.2.2.1, R1.2.2.2.2.2⟩, T1, f52, kTs k1⟩
      rw [U_X12_terrace_98, if_neg (fun z => z (bad_0 h5)), l1, mm_bI_some, if_pos (by decide)]
      rfl
    · rw [if_neg c1]
      have n1 : ¬ iI (tB b E p) = (-1 : Int32) := by
        have e : (iI (tB b E p) = iI (-1)) = False := iI_ne (by omega) (by omega) (by omega) (by omega) c1
        simp only [iI_lit, iI_neg, e, not_false_eq_true]
      have st0' : mm_D (mm_M mm_T0 (d + 38)) cd_X12_terrace 98 [.ref 264, .null] [] g = mm_bV (mm_M mm_T0 (d + 38) 210 [.ref 264] g1) (fun h5 => mm_D (mm_M mm_T0 (d + 38)) cd_X12_terrace 98 [.ref 264, .null] [] h5) := by
        rw [U_X12_terrace_98, if_neg (fun z => z (bad_0 h5)), l1, mm_bI_some, if_neg n1]
      rw [st0']
      by_cases c2 : n = 80
      · rw [if_pos c2]
        obtain ⟨g2, f1, B2, k2⟩ := R_fail (d := d + 36) (g := g1) (k := 5) (pl := (tS b E p : Int)) R1.2.2.1 (by omega) (by omega) (by omega) (by omega)
        rw [c2, show ((80 : Nat) : Int) = 80 from rfl] at f52
        rw [← rdE l2] at f1
        have sm : mm_M mm_T0 (d + 38) 210 [.ref 264] g1 = some (none, g2) := by
          rw [U_X12_statementTold]
          (try simp only [iI_lit, iI_neg]) <;> simp (maxSteps := 1000000) (disch := decide) only [iI_lit, iI_neg, iI_add, mm_bI_some, mm_bV_some, mm_bL_some, ↓reduceIte, i10, i00, i11, eq_self, not_true_eq_false, not_false_eq_true, ite_true, ite_false, if_true, if_false, and_true, true_and, and_false, false_and, and_self, or_self, or_false, false_or, or_true, true_or, iI_eq, iI_lt, iI_le, Int.reduceEq, Int.reduceLT, Int.reduceLE, rdE f52, ↓bV_eq f1]
        refine ⟨g2, ?_, B2, kTs (k1.trans k2)⟩
        rw [sm, mm_bV_some]
        exact B_98 (B2.ne (by decide))
      · rw [if_neg c2]
        have sm := R_stm (d := d + 26) (n := n) h2 (by omega) R1 l2 T1 O f52
        have ok := stF_ok (b := b) (E := E) (gl := gl) hE hp (by omega) O
        revert sm ok
        cases stF b E hm st p gl with
        | inl f =>
          intro sm ok
          obtain ⟨g2, a1, a2, a3⟩ := sm
          have o1 : f.1 = 1 ∨ f.1 = 2 ∨ f.1 = 3 ∨ f.1 = 4 ∨ f.1 = 5 := ok.1
          refine ⟨g2, ?_, a2, (kTs k1).trans a3⟩
          rw [a1, mm_bV_some]
          exact B_98 (a2.ne (by omega))
        | inr y =>
          intro sm ok
          have o1 : p + 1 ≤ y.1 := ok.1
          have o2 : y.1 ≤ E := ok.2.1
          have o3 : TstOK hm y.1 y.2.2 := ok.2.2
          have ge1 := tS_ge (b := b) (E := E) (p := y.1)
          show RTr (d + 38) hm g _ (if tB b E y.1 = 59 then _ else _)
          by_cases c3 : tB b E y.1 = 59
          · rw [if_pos c3]
            obtain ⟨g2, a1, R2, T2, e2, k2⟩ := sm.1 c3
            clear sm
            have ih := R_trL h2 hE k (n + 1) y.2.2 (tS b E y.1 + 1) false g2 (by omega) (by omega) R2 T2 (o3.mono (by omega)) e2
            rw [a1, mm_bV_some]
            exact RTr.of ih ((kTs k1).trans k2)
          · rw [if_neg c3]
            obtain ⟨g2, a1, B2, k2⟩ := sm.2 c3
            clear sm
            refine ⟨g2, ?_, B2, (kTs k1).trans k2⟩
            rw [a1, mm_bV_some]
            exact B_98 (B2.ne (by decide))
end RTL9
