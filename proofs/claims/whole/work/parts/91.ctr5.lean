/-! the class reads a terrace -/
def CTA (u : Nat) (g : mm_H) (X : mm_X) (r : Sum (Int × Int) (Nat × Nat × Tst)) : Prop := match r with
  | .inl f => ∃ g', X = some (some (.int (iI 0)), g') ∧ fd g' 3 5 = f.1 ∧ fd g' 3 6 = f.2 ∧ KR (QD u) g g'
  | .inr y => ∃ g', X = some (some (.int (iI 1)), g') ∧ CTs g' u (y.1 : Nat) (adA y.2.2) ∧ (fd g' u 4 = (y.2.1 : Nat) ∧ fd g' 3 5 = 0 ∧ fd g' 3 6 = -1) ∧ KR (QD u) g g'
section CTX
variable {d : Nat} {g : mm_H} {b : Nat → Int} {E : Nat} {u : Nat} {hm : Int} {st : Tst}
theorem CTs.kf {g' : mm_H} {Q L : Nat → Nat → Prop} (T : CTs g u hm st) (k : Kf Q L g g') (q : ∀ a j, u ≤ a → a ≤ u + 16 → ¬ Q a j) : CTs g' u hm st := by
  obtain ⟨t1, t2, t3, t4, t5, t6, t7⟩ := T
  have z : ∀ a j, u ≤ a → a ≤ u + 16 → fd g' a j = fd g a j := fun a j h1 h2 => k.1 _ _ (q a j h1 h2)
  refine ⟨?_, fun i x hx => ?_, fun i j h1 h2 h3 => ?_, fun y hv => ?_, ?_, t6.kf k (q _ _ (by omega) (by omega)) (fun j => q _ _ (by omega) (by omega)), fun w hw => ?_⟩
  · rw [z _ _ (by omega) (by omega), z _ _ (by omega) (by omega), z _ _ (by omega) (by omega), z _ _ (by omega) (by omega)]; exact t1
  · have := t2 i x hx
    refine ⟨?_, fun k hk => ?_⟩
    · rw [z _ _ (by omega) (by omega), z _ _ (by omega) (by omega), z _ _ (by omega) (by omega), z _ _ (by omega) (by omega), z _ _ (by omega) (by omega)]; exact this.1
    · rw [z _ _ (by omega) (by omega)]; exact this.2 k hk
  · rw [z _ _ (by omega) (by omega)]; exact t3 i j h1 h2 h3
  · rw [z _ _ (by omega) (by omega)]; exact t4 y hv
  · rw [z _ _ (by omega) (by omega)]; exact t5
  · rw [z _ _ (by omega) (by omega), z _ _ (by omega) (by omega)]; exact t7 w hw
theorem CTs.hous {v : Int} (T : CTs g u hm st) (v0 : 0 ≤ v ∧ v ≤ 9) : CTs (wI g (u + 1) 9 (iI v)) u v st := by
  obtain ⟨t1, t2, t3, t4, t5, t6, t7⟩ := T
  have z : ∀ a j, a ≠ u + 1 → fd (wI g (u + 1) 9 (iI v)) a j = fd g a j := fun a j h1 => fd_wI_row h1
  have kw : Kf (fun a j => a = u + 1 ∧ j = 9) nL g (wI g (u + 1) 9 (iI v)) := Kf.refl.wI ⟨rfl, rfl⟩
  refine ⟨⟨fd_wI_same (by omega) (by omega), ?_, ?_, ?_⟩, fun i x hx => ?_, fun i j h1 h2 h3 => ?_, fun y hv => ?_, ?_, t6.kf kw (by omega) (by intro j; omega), fun w hw => ?_⟩
  · rw [fd_wI_col (by omega)]; exact t1.2.1
  · rw [fd_wI_col (by omega)]; exact t1.2.2.1
  · rw [fd_wI_col (by omega)]; exact t1.2.2.2
  · have := t2 i x hx
    refine ⟨?_, fun k hk => ?_⟩
    · rw [z _ _ (by omega), z _ _ (by omega), z _ _ (by omega), z _ _ (by omega), z _ _ (by omega)]; exact this.1
    · rw [z _ _ (by omega)]; exact this.2 k hk
  · rw [z _ _ (by omega)]; exact t3 i j h1 h2 h3
  · rw [z _ _ (by omega)]; exact t4 y hv
  · rw [z _ _ (by omega)]; exact t5
  · rw [z _ _ (by omega), z _ _ (by omega)]; exact t7 w hw
theorem st0_ok {h : Int} {p : Nat} : TstOK h p st0 := by
  refine ⟨⟨by decide, fun x hx => absurd hx (by simp [st0])⟩, fun i j x y hx => absurd hx (by simp [st0]), fun k => ?_, fun i j _ _ _ _ _ => rfl, ?_, fun x hx => absurd hx (by simp [st0]), ?_⟩
  · show (0 : Int) ≤ 5 ∧ (5 : Int) ≤ 9
    omega
  · show (0 : Int) ≤ 0 ∧ (0 : Int) ≤ 100
    omega
  · show (0 : Nat) ≤ p
    omega
set_option maxHeartbeats 8000000 in
theorem C_rdT (hu : mm_isT u) (hE : E ≤ 1600) (Tp : TpC g b E) : CTA u g (mm_M mm_T0 (d + 39) 129 [.ref 12, .ref u] g) (trA b E) := by
  have ut := isT_or hu
  obtain ⟨g1, a1, T1, k1⟩ := C_clear (d := d + 36) (g := g) hu
  obtain ⟨g2, a2, S2, k2⟩ := C_begin (d := d + 32) (Tp.kf k1 (by omega) (by intro j; omega)) hE
  have T2 := T1.kf k2 (by intro a j h1 h2; omega)
  have K2 : KR (QD u) g g2 := (KR.of k1 (fun a j q => by unfold QD; omega)).trans (KR.of k2 (fun a j q => by unfold QD; omega))
  have tw := C_takeWord (d := d + 31) (k := 0) S2 (by omega) (by omega)
  have le0 := tS_le (b := b) (E := E) (p := 0) (Nat.zero_le _)
  unfold trA
  by_cases c1 : wno b E 0 false = 0
  · rw [if_pos c1]
    obtain ⟨g3, a3, S3, k3⟩ := tw.1 c1
    clear tw
    generalize tL b E (tS b E 0) = p1 at *
    have T3 := T2.tk hu k3
    have K3 := K2.trans (tkKR k3)
    have nh := C_numHere (d := d + 34) (lo := 2) (hi := 9) S3 (by omega) (by omega)
    rw [show ((2 : Nat) : Int) = 2 from rfl, show ((9 : Nat) : Int) = 9 from rfl] at nh
    have nb := numT_b (b := b) (E := E) (p := p1) (gl := true) (lo := 2) (hi := 9) hE S3.2.2.1
    by_cases c2 : (numT b E 2 9 p1 true).1 = 0
    · rw [if_pos c2]
      obtain ⟨n4, v4⟩ := nh.1 c2
      have nv := nb.2.2.2 c2
      clear nh nb
      have nv1 := nv.1
      have nv2 := nv.2.1
      generalize (numT b E 2 9 p1 true).2.2 = hv at *
      obtain ⟨g4, a4, S4, k4⟩ := C_takeValue (d := d + 31) S3 ⟨nv.2.2.1, nv.2.2.2.1⟩ v4
      generalize tD b E (tS b E p1) = p2 at *
      have le2 := tS_le (b := b) (E := E) S4.2.2.1
      have T4 := (T3.tk hu k4).hous (v := hv) ⟨by omega, by omega⟩
      have kw : Kf (fun a j => a = u + 1 ∧ j = 9) nL g4 (wI g4 (u + 1) 9 (iI hv)) := Kf.refl.wI ⟨rfl, rfl⟩
      have S5 := S4.kf kw (by omega) (by intro j; omega) (by intro j; omega)
      have K5 : KR (QD u) g (wI g4 (u + 1) 9 (iI hv)) := K3.trans ((tkKR k4).trans (KR.of kw (fun a j q => by unfold QD; omega)))
      have rh : mm_M mm_T0 (d + 38) 130 [.ref 12, .ref u] g2 = some (some (.int (iI 1)), wI g4 (u + 1) 9 (iI hv)) := by
        rw [U_X9_readHouses hu]
        (try simp only [iI_lit, iI_neg]) <;> simp (maxSteps := 1000000) (disch := decide) only [iI_lit, iI_neg, iI_add, mm_bI_some, mm_bV_some, mm_bL_some, ↓reduceIte, i10, i00, i11, eq_self, not_true_eq_false, not_false_eq_true, ite_true, ite_false, if_true, if_false, and_true, true_and, and_false, false_and, and_self, or_self, or_false, false_or, or_true, true_or, iI_eq, iI_lt, iI_le, Int.reduceEq, Int.reduceLT, Int.reduceLE, ↓bI_eq a3, ↓bI_eq n4, ↓bI_eq a4]
      have ts := C_takeSign (d := d + 32) (x := 59) S5 (by omega) (by omega) (by omega)
      by_cases c3 : tB b E p2 = 59
      · rw [if_pos c3]
        obtain ⟨g6, a6, S6, k6⟩ := ts.1 c3
        clear ts
        have T6 := T4.tk hu k6
        obtain ⟨hm, eh⟩ : ∃ hm : Nat, hv = (hm : Int) := ⟨hv.toNat, by omega⟩
        have et : hv.toNat = hm := by omega
        rw [et]
        rw [eh] at T6
        have lp := C_trL (d := d) (b := b) hu (hm := hm) ⟨by omega, by omega⟩ hE (E + 2) 1 st0 (tS b E p2 + 1) false g6 (by omega) (by omega) S6 T6 st0_ok
        rw [show ((1 : Nat) : Int) = 1 from rfl] at lp
        revert lp
        cases trF b E hm (E + 2) 1 st0 (tS b E p2 + 1) false with
        | inl f =>
          intro lp
          obtain ⟨g', b1, b2', b3, b4⟩ := lp
          refine ⟨g', ?_, b2', b3, K5.trans ((tkKR k6).trans b4)⟩
          rw [U_X9_readTerrace hu]
          (try simp only [iI_lit, iI_neg]) <;> simp (maxSteps := 1000000) (disch := decide) only [iI_lit, iI_neg, iI_add, mm_bI_some, mm_bV_some, mm_bL_some, ↓reduceIte, i10, i00, i11, eq_self, not_true_eq_false, not_false_eq_true, ite_true, ite_false, if_true, if_false, and_true, true_and, and_false, false_and, and_self, or_self, or_false, false_or, or_true, true_or, iI_eq, iI_lt, iI_le, Int.reduceEq, Int.reduceLT, Int.reduceLE, ↓bV_eq a1, ↓bV_eq a2, ↓bI_eq rh, ↓bI_eq a6, b1]
        | inr y =>
          intro lp
          obtain ⟨g', b1, b2', b3, b4⟩ := lp
          refine ⟨g', ?_, b2', b3, K5.trans ((tkKR k6).trans b4)⟩
          rw [U_X9_readTerrace hu]
          (try simp only [iI_lit, iI_neg]) <;> simp (maxSteps := 1000000) (disch := decide) only [iI_lit, iI_neg, iI_add, mm_bI_some, mm_bV_some, mm_bL_some, ↓reduceIte, i10, i00, i11, eq_self, not_true_eq_false, not_false_eq_true, ite_true, ite_false, if_true, if_false, and_true, true_and, and_false, false_and, and_self, or_self, or_false, false_or, or_true, true_or, iI_eq, iI_lt, iI_le, Int.reduceEq, Int.reduceLT, Int.reduceLE, ↓bV_eq a1, ↓bV_eq a2, ↓bI_eq rh, ↓bI_eq a6, b1]
      · rw [if_neg c3]
        have a6 := ts.2 c3
        clear ts
        refine ⟨_, ?_, bdH_5 (by omega) (by omega), bdH_6 (by omega) (by omega), K5.trans bdH_KR⟩
        rw [U_X9_readTerrace hu]
        (try simp only [iI_lit, iI_neg]) <;> simp (maxSteps := 1000000) (disch := decide) only [iI_lit, iI_neg, iI_add, mm_bI_some, mm_bV_some, mm_bL_some, ↓reduceIte, i10, i00, i11, eq_self, not_true_eq_false, not_false_eq_true, ite_true, ite_false, if_true, if_false, and_true, true_and, and_false, false_and, and_self, or_self, or_false, false_or, or_true, true_or, iI_eq, iI_lt, iI_le, Int.reduceEq, Int.reduceLT, Int.reduceLE, ↓bV_eq a1, ↓bV_eq a2, ↓bI_eq rh, ↓bI_eq a6]
    · rw [if_neg c2]
      have n4 := nh.2 c2
      have nb0 := nb.1
      have nb1 := nb.2.1
      have nb2 := nb.2.2.1
      clear nh nb
      have rh : mm_M mm_T0 (d + 38) 130 [.ref 12, .ref u] g2 = some (some (.int (iI 0)), bdH g3 (numT b E 2 9 p1 true).1 (numT b E 2 9 p1 true).2.1) := by
        rw [U_X9_readHouses hu]
        (try simp only [iI_lit, iI_neg]) <;> simp (maxSteps := 1000000) (disch := decide) only [iI_lit, iI_neg, iI_add, mm_bI_some, mm_bV_some, mm_bL_some, ↓reduceIte, i10, i00, i11, eq_self, not_true_eq_false, not_false_eq_true, ite_true, ite_false, if_true, if_false, and_true, true_and, and_false, false_and, and_self, or_self, or_false, false_or, or_true, true_or, iI_eq, iI_lt, iI_le, Int.reduceEq, Int.reduceLT, Int.reduceLE, ↓bI_eq a3, ↓bI_eq n4]
      refine ⟨_, ?_, bdH_5 (by omega) (by omega), bdH_6 (by omega) (by omega), K3.trans bdH_KR⟩
      rw [U_X9_readTerrace hu]
      (try simp only [iI_lit, iI_neg]) <;> simp (maxSteps := 1000000) (disch := decide) only [iI_lit, iI_neg, iI_add, mm_bI_some, mm_bV_some, mm_bL_some, ↓reduceIte, i10, i00, i11, eq_self, not_true_eq_false, not_false_eq_true, ite_true, ite_false, if_true, if_false, and_true, true_and, and_false, false_and, and_self, or_self, or_false, false_or, or_true, true_or, iI_eq, iI_lt, iI_le, Int.reduceEq, Int.reduceLT, Int.reduceLE, ↓bV_eq a1, ↓bV_eq a2, ↓bI_eq rh]
  · rw [if_neg c1]
    have a3 := tw.2 c1
    clear tw
    have rh : mm_M mm_T0 (d + 38) 130 [.ref 12, .ref u] g2 = some (some (.int (iI 0)), bdH g2 1 (tS b E 0)) := by
      rw [U_X9_readHouses hu]
      (try simp only [iI_lit, iI_neg]) <;> simp (maxSteps := 1000000) (disch := decide) only [iI_lit, iI_neg, iI_add, mm_bI_some, mm_bV_some, mm_bL_some, ↓reduceIte, i10, i00, i11, eq_self, not_true_eq_false, not_false_eq_true, ite_true, ite_false, if_true, if_false, and_true, true_and, and_false, false_and, and_self, or_self, or_false, false_or, or_true, true_or, iI_eq, iI_lt, iI_le, Int.reduceEq, Int.reduceLT, Int.reduceLE, ↓bI_eq a3]
    refine ⟨_, ?_, bdH_5 (by omega) (by omega), bdH_6 (by omega) (by omega), K2.trans bdH_KR⟩
    rw [U_X9_readTerrace hu]
    (try simp only [iI_lit, iI_neg]) <;> simp (maxSteps := 1000000) (disch := decide) only [iI_lit, iI_neg, iI_add, mm_bI_some, mm_bV_some, mm_bL_some, ↓reduceIte, i10, i00, i11, eq_self, not_true_eq_false, not_false_eq_true, ite_true, ite_false, if_true, if_false, and_true, true_and, and_false, false_and, and_self, or_self, or_false, false_or, or_true, true_or, iI_eq, iI_lt, iI_le, Int.reduceEq, Int.reduceLT, Int.reduceLE, ↓bV_eq a1, ↓bV_eq a2, ↓bI_eq rh]
end CTX
