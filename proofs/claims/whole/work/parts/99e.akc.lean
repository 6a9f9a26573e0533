/-! a question, read: the class -/
/-- behind the rule the text must end -/
def akR (b : Nat → Int) (E : Nat) (w : Int) (r : RR) : Sum (Int × Int) (Int × List Int) := match r with
  | .inl f => .inl f
  | .inr y => if tB b E y.1 = -1 then .inr (w - 25, y.2.2) else .inl (1, (tS b E y.1 : Int))
/-- what comes of a question's text: a fault, or its kind and its codes -/
def asA (b : Nat → Int) (E : Nat) : Sum (Int × Int) (Int × List Int) :=
  if 25 ≤ wno b E 0 false ∧ wno b E 0 false ≤ 30 then
    akR b E (wno b E 0 false) (rd b E 3 (4 * E + 8) (if wno b E 0 false ≤ 27 then 3 else 1) 0 (tL b E (tS b E 0)) true 0 [])
  else .inl (1, (tS b E 0 : Int))
def QAr : Nat → Nat → Prop := fun a k => a = 3 ∨ (a = 11 ∧ k = 2) ∨ (5 ≤ a ∧ a ≤ 10)
def QAk : Nat → Nat → Prop := fun a k => a = 3 ∨ (a = 11 ∧ k = 2) ∨ (a = 4 ∧ k = 1) ∨ (5 ≤ a ∧ a ≤ 10)
def CRq (b : Nat → Int) (E : Nat) (g : mm_H) (X : mm_X) (r : RR) : Prop := match r with
  | .inl f => ∃ g', X = some (some (.int (iI 0)), g') ∧ fd g' 3 5 = f.1 ∧ fd g' 3 6 = f.2 ∧ KR QAr g g'
  | .inr y => ∃ g', X = some (some (.int (iI 1)), g') ∧ CS g' b E y.1 y.2.1 ∧ (fd g' 7 3 = 0 ∧ fd g' 8 3 = (y.2.2.length : Nat) ∧ CQ g' 5 0 y.2.2) ∧ KR QAr g g'
def CAk (g : mm_H) (X : mm_X) (r : Sum (Int × Int) (Int × List Int)) : Prop := match r with
  | .inl f => ∃ g', X = some (some (.int (iI 0)), g') ∧ fd g' 3 5 = f.1 ∧ fd g' 3 6 = f.2 ∧ KR QAk g g'
  | .inr y => ∃ g', X = some (some (.int (iI 1)), g') ∧ (fd g' 3 5 = 0 ∧ fd g' 3 6 = -1) ∧ fd g' 4 1 = y.1 + 25 ∧ (fd g' 7 3 = 0 ∧ fd g' 8 3 = (y.2.length : Nat) ∧ CQ g' 5 0 y.2) ∧ KR QAk g g'
section AKC
variable {d : Nat} {g : mm_H} {b : Nat → Int} {E p : Nat} {gl : Bool}
theorem isC_q : mm_isC 5 := by
  show 5 ∈ [5, 240, 257]
  decide
set_option maxHeartbeats 8000000 in
theorem C_ruleQ {v : Int} (S : CS g b E p gl) (cw : wno b E p gl ≠ -2) (e5 : fd g 5 5 = 0) (e7 : fd g 7 3 = -1) (hv : v = 0 ∨ v = 1) : CRq b E g (mm_M mm_T0 (d + 31) 46 [.ref 11, .ref 5, .int (iI 3), .int (iI v)] g) (rd b E 3 (4 * E + 8) (if v = 1 then 3 else 1) 0 (tL b E (tS b E p)) true 0 []) := by
  have hc : mm_isC 5 := isC_q
  have hE := S.2.1
  have tl := tL_in (wno_w cw).1
  have it := C_isTold (d := d + 29) (c := 5) (h := g) (w := 3) hc (by omega) (by omega)
  rw [show (3 : Int).toNat = 3 from rfl, show 5 + 2 = 7 from rfl, b2_f (fun z => z e7)] at it
  obtain ⟨g1, a1, S1, k1⟩ := C_advW (d := d + 25) S cw
  have e51 : fd g1 5 5 = 0 := (k1.1 _ _ (by unfold QTc; omega)).trans e5
  generalize tL b E (tS b E p) = q at *
  generalize hg2 : wI (wR g1 11 1 5) 11 2 (iI 3) = g2
  have z2 : ∀ a j, ¬ (a = 11 ∧ j = 2) → fd g2 a j = fd g1 a j := fun a j h => by rw [← hg2, fd_wI, if_neg h, fd_wR]
  have r2 : g2.2.2 11 1 = 5 := by
    rw [← hg2, re_wI, re_wR, if_pos ⟨rfl, rfl⟩]
  have f2 : fd g2 11 2 = 3 := by rw [← hg2]; exact fd_wI_same (by omega) (by omega)
  have K2 : KR QAr g1 g2 := by
    refine ⟨fun a j h => z2 a j (fun q => h (by unfold QAr; omega)), fun a j => by rw [← hg2, fl_wI, fl_wR], fun a j h => by rw [← hg2, re_wI, re_wR, if_neg h]⟩
  have sh : mm_sh 5 = (0, 1) := isC_0 hc
  have L2 : fd g2 5 5 = 0 := (z2 _ _ (by omega)).trans e51
  generalize hg3 : wI (wI g2 7 3 (iI 0)) 8 3 (iI 0) = g3
  have k3 : Kf (fun a j => (a = 7 ∨ a = 8) ∧ j = 3) nL g2 g3 := by
    rw [← hg3]
    exact (Kf.refl.wI (by omega)).wI (by omega)
  have L2' : fd (wI g2 7 3 (iI 0)) 5 5 = 0 := (fd_wI_row (by omega)).trans L2
  have op : mm_M mm_T0 (d + 30) 35 [.ref 5, .int (iI 3)] g2 = some (none, g3) := by
    rw [U_X1_openRule hc, show 5 + 2 = 7 from rfl, show 5 + 3 = 8 from rfl]
    simp (disch := omega) only [iI_lit, jI_lit, iI_neg, jI_neg, iI_add, iI_sub, iI_mul, jI_add, jI_sub, jI_mul, rdI, rdL, iI_lt, iI_le, iI_eq, iI_nat, iI_b2_0, iI_b2_1, mm_bI_some, mm_bV_some, mm_bL_some, mm_bA_some, fd_wL, fd_wR, fl_wI, fl_wR, re_wI, re_wL, re_wC, ite_true, ite_false, not_true_eq_false, not_false_eq_true, lq_ge, lq_le, lq_gt, lq_lt, lq_eq, jI_lt, jI_le, jI_eq, if_pos, if_neg, show (3 : Int).toNat = 3 from rfl, L2, L2', hg3]
  have Q3 : CQ g3 5 0 [] := by
    refine ⟨?_, fun i v h => absurd h (by simp)⟩
    rw [k3.1 _ _ (by omega)]
    exact L2
  have S2 : CS g2 b E q true := by
    obtain ⟨s1, s2, s3, s4, s5, s6, s7, s8, s9⟩ := S1
    refine ⟨⟨?_, fun j hj => ?_⟩, s2, s3, ?_, ?_, ?_, fun h => ?_, (z2 _ _ (by omega)).trans s8, (z2 _ _ (by omega)).trans s9⟩
    · rw [z2 _ _ (by omega)]; exact s1.1
    · rw [z2 _ _ (by omega)]; exact s1.2 j hj
    · rw [z2 _ _ (by omega)]; exact s4
    · rw [z2 _ _ (by omega)]; exact s5
    · rw [z2 _ _ (by omega)]; exact s6
    · rw [z2 _ _ (by omega)]; exact s7 h
  have X3 : CX g3 b E q true 5 0 3 [] := ⟨S2.kf k3 (by omega) (by intro j; omega) (by intro j; omega), ⟨(k3.1 _ _ (by omega)).trans f2, by rw [k3.2.2]; exact r2, hc⟩, Q3⟩
  have r3 : g3.2.2 11 1 = 5 := X3.2.1.2.1
  have K1 : KR QAr g g1 := KR.of k1 (fun a j q => by unfold QTc at q; unfold QAr; omega)
  have K3 : KR QAr g g3 := K1.trans (K2.trans (KR.of k3 (fun a j q => by unfold QAr; omega)))
  have cl := Cl_all (b := b) (E := E) (cc := 5) (L := 0) (w := 3) hE (by omega) (by omega) (4 * E + 8)
  have Oka := Ok_all (b := b) (w := 3) hE (4 * E + 8)
  have rd' : CRes b E 5 0 3 g3 (mm_M mm_T0 (d + 30) (if v = 1 then 47 else 52) [.ref 11, .int (iI 0)] g3) [] (rd b E 3 (4 * E + 8) (if v = 1 then 3 else 1) 0 q true 0 []) ∧ Pg E q 1 0 (rd b E 3 (4 * E + 8) (if v = 1 then 3 else 1) 0 q true 0 []) := by
    by_cases c2 : v = 1
    · rw [if_pos c2, if_pos c2]
      have t := cl.2.2.2.1 0 q true (d + 30) g3 [] 0 [] (by omega) (by omega) (by omega) (by omega) X3 (by show 0 + 0 ≤ q; omega)
      rw [show ((0 : Nat) : Int) = 0 from rfl] at t
      exact ⟨t, Oka.2.2.2.1 0 q true 0 [] (by omega) (by omega)⟩
    · rw [if_neg c2, if_neg c2]
      have t := cl.2.1 0 q true (d + 30) g3 [] 0 [] (by omega) (by omega) (by omega) (by omega) X3 (by show 0 + 0 ≤ q; omega)
      rw [show ((0 : Nat) : Int) = 0 from rfl] at t
      exact ⟨t, Oka.2.1 0 q true 0 [] (by omega) (by omega)⟩
  have st1 : mm_M mm_T0 (d + 31) 46 [.ref 11, .ref 5, .int (iI 3), .int (iI v)] g = mm_bI (mm_M mm_T0 (d + 30) (if v = 1 then 47 else 52) [.ref 11, .int (iI 0)] g3) (fun v6 h5 => if mm_sh (h5.2.2 11 1) = (0, 1) then (mm_bV (mm_M mm_T0 (d + 30) 36 [.ref (h5.2.2 11 1), .int (h5.1 11 2)] h5) (fun h7 => mm_zr v6 h7)) else none) := by
    have rw2 : (wR g1 11 1 5).2.2 11 1 = 5 := by rw [re_wR, if_pos ⟨rfl, rfl⟩]
    rw [U_X2_readRule hc]
    rcases hv with c2 | c2
    · rw [if_neg (by omega), c2]
      simp (disch := omega) only [iI_lit, jI_lit, iI_neg, jI_neg, iI_add, iI_sub, iI_mul, jI_add, jI_sub, jI_mul, rdI, rdL, iI_lt, iI_le, iI_eq, iI_nat, iI_b2_0, iI_b2_1, mm_bI_some, mm_bV_some, mm_bL_some, mm_bA_some, fd_wL, fd_wR, fl_wI, fl_wR, re_wI, re_wL, re_wC, ite_true, ite_false, not_true_eq_false, not_false_eq_true, lq_ge, lq_le, lq_gt, lq_lt, lq_eq, jI_lt, jI_le, jI_eq, if_pos, if_neg, it, a1, hg2, rw2, r2, sh, f2, op]
    · rw [if_pos c2, c2]
      simp (disch := omega) only [iI_lit, jI_lit, iI_neg, jI_neg, iI_add, iI_sub, iI_mul, jI_add, jI_sub, jI_mul, rdI, rdL, iI_lt, iI_le, iI_eq, iI_nat, iI_b2_0, iI_b2_1, mm_bI_some, mm_bV_some, mm_bL_some, mm_bA_some, fd_wL, fd_wR, fl_wI, fl_wR, re_wI, re_wL, re_wC, ite_true, ite_false, not_true_eq_false, not_false_eq_true, lq_ge, lq_le, lq_gt, lq_lt, lq_eq, jI_lt, jI_le, jI_eq, if_pos, if_neg, it, a1, hg2, rw2, r2, sh, f2, op]
  rw [st1]
  obtain ⟨rd1, ok⟩ := rd'
  clear cl Oka st1 op
  revert rd1 ok
  cases rd b E 3 (4 * E + 8) (if v = 1 then 3 else 1) 0 q true 0 [] with
  | inl f =>
    intro rd1 ok
    obtain ⟨g4, b1, b2', b3, b4, b5⟩ := rd1
    have r4 : g4.2.2 11 1 = 5 := by rw [b5.2.2]; exact r3
    have f4 : fd g4 11 2 = 3 := (b5.1 _ _ (by unfold QF; omega)).trans X3.2.1.1
    have := fd_lo g4 5 5; have := fd_hi g4 5 5
    have cr : mm_M mm_T0 (d + 30) 36 [.ref 5, .int (iI 3)] g4 = some (none, wI g4 8 3 (iI (fd g4 5 5))) := by
      rw [U_X1_closeRule hc, show 5 + 3 = 8 from rfl]
      simp (disch := omega) only [iI_lit, jI_lit, iI_neg, jI_neg, iI_add, iI_sub, iI_mul, jI_add, jI_sub, jI_mul, rdI, rdL, iI_lt, iI_le, iI_eq, iI_nat, iI_b2_0, iI_b2_1, mm_bI_some, mm_bV_some, mm_bL_some, mm_bA_some, fd_wL, fd_wR, fl_wI, fl_wR, re_wI, re_wL, re_wC, ite_true, ite_false, not_true_eq_false, not_false_eq_true, lq_ge, lq_le, lq_gt, lq_lt, lq_eq, jI_lt, jI_le, jI_eq, if_pos, if_neg, show (3 : Int).toNat = 3 from rfl]
    refine ⟨wI g4 8 3 (iI (fd g4 5 5)), ?_, by rw [fd_wI_row (by omega)]; exact b2', by rw [fd_wI_row (by omega)]; exact b3, (K3.trans (KR.of b5 (fun a j q => by unfold QF at q; unfold QAr; omega))).wI (by unfold QAr; omega)⟩
    rw [b1, mm_bI_some]
    simp (disch := omega) only [iI_lit, jI_lit, iI_neg, jI_neg, iI_add, iI_sub, iI_mul, jI_add, jI_sub, jI_mul, rdI, rdL, iI_lt, iI_le, iI_eq, iI_nat, iI_b2_0, iI_b2_1, mm_bI_some, mm_bV_some, mm_bL_some, mm_bA_some, fd_wL, fd_wR, fl_wI, fl_wR, re_wI, re_wL, re_wC, ite_true, ite_false, not_true_eq_false, not_false_eq_true, lq_ge, lq_le, lq_gt, lq_lt, lq_eq, jI_lt, jI_le, jI_eq, if_pos, if_neg, r4, sh, f4, cr, zr_0]
  | inr y =>
    intro rd1 ok
    obtain ⟨g4, b1, X4, b5⟩ := rd1
    have o2 : y.1 ≤ E := ok.2.1
    have o3 : y.2.2.length + q ≤ 0 + y.1 := ok.2.2
    rw [List.nil_append] at X4
    have r4 := X4.2.1.2.1
    have f4 := X4.2.1.1
    have l4 : fd g4 5 5 = (y.2.2.length : Nat) := by
      rw [X4.2.2.1, Nat.zero_add]
    have cr : mm_M mm_T0 (d + 30) 36 [.ref 5, .int (iI 3)] g4 = some (none, wI g4 8 3 (iI (y.2.2.length : Nat))) := by
      rw [U_X1_closeRule hc, show 5 + 3 = 8 from rfl]
      simp (disch := omega) only [iI_lit, jI_lit, iI_neg, jI_neg, iI_add, iI_sub, iI_mul, jI_add, jI_sub, jI_mul, rdI, rdL, iI_lt, iI_le, iI_eq, iI_nat, iI_b2_0, iI_b2_1, mm_bI_some, mm_bV_some, mm_bL_some, mm_bA_some, fd_wL, fd_wR, fl_wI, fl_wR, re_wI, re_wL, re_wC, ite_true, ite_false, not_true_eq_false, not_false_eq_true, lq_ge, lq_le, lq_gt, lq_lt, lq_eq, jI_lt, jI_le, jI_eq, if_pos, if_neg, show (3 : Int).toNat = 3 from rfl, l4]
    have k5 : Kf (fun a j => a = 8 ∧ j = 3) nL g4 (wI g4 8 3 (iI (y.2.2.length : Nat))) := Kf.refl.wI ⟨rfl, rfl⟩
    refine ⟨wI g4 8 3 (iI (y.2.2.length : Nat)), ?_, X4.1.kf k5 (by omega) (by intro j; omega) (by intro j; omega), ⟨?_, fd_wI_same (by omega) (by omega), X4.2.2.kf k5 (by omega) (by intro j; omega)⟩, (K3.trans (KR.of b5 (fun a j q => by unfold QF at q; unfold QAr; omega))).wI (by unfold QAr; omega)⟩
    · rw [b1, mm_bI_some]
      simp (disch := omega) only [iI_lit, jI_lit, iI_neg, jI_neg, iI_add, iI_sub, iI_mul, jI_add, jI_sub, jI_mul, rdI, rdL, iI_lt, iI_le, iI_eq, iI_nat, iI_b2_0, iI_b2_1, mm_bI_some, mm_bV_some, mm_bL_some, mm_bA_some, fd_wL, fd_wR, fl_wI, fl_wR, re_wI, re_wL, re_wC, ite_true, ite_false, not_true_eq_false, not_false_eq_true, lq_ge, lq_le, lq_gt, lq_lt, lq_eq, jI_lt, jI_le, jI_eq, if_pos, if_neg, r4, sh, f4, cr, zr_1]
    · rw [fd_wI_row (by omega), b5.1 _ _ (by unfold QF; omega), ← hg3, fd_wI_row (by omega)]
      exact fd_wI_same (by omega) (by omega)
theorem KR.ak {g' : mm_H} (k : KR QAr g g') : KR QAk g g' := ⟨fun a j h => k.1 a j (fun q => h (by unfold QAr at q; unfold QAk; omega)), k.2.1, k.2.2⟩
set_option maxHeartbeats 8000000 in
/-- behind the rule: the end is asked for -/
theorem C_akE {g8 : mm_H} {w : Int} {r : RR} {X : mm_X} (K8 : KR QAk g g8) (e41 : fd g8 4 1 = w) (R : CRq b E g8 X r) (hE : E ≤ 1600) (ok : ∀ y, r = .inr y → y.1 ≤ E) : CAk g (mm_bI X (fun v10 h9 => if ¬ v10 = iI 0 then (mm_bI (mm_M mm_T0 (d + 38) 76 [.ref 3] h9) (fun v12 h11 => if ¬ v12 = iI 0 then some (some (.int (iI 1)), h11) else (mm_bI (mm_M mm_T0 (d + 38) 88 [.ref 3] h11) (fun v14 h13 => if v14 = iI 0 then some (some (.int (iI 0)), h13) else some (some (.int (iI 1)), h13))))) else some (some (.int (iI 0)), h9))) (akR b E w r) := by
  cases r with
  | inl f =>
    obtain ⟨g9, a1, a2, a3, a4⟩ := R
    refine ⟨g9, ?_, a2, a3, K8.trans a4.ak⟩
    (try simp only [iI_lit, iI_neg]) <;> simp (maxSteps := 1000000) (disch := decide) only [iI_lit, iI_neg, iI_add, mm_bI_some, mm_bV_some, mm_bL_some, ↓reduceIte, i10, i00, i11, eq_self, not_true_eq_false, not_false_eq_true, ite_true, ite_false, if_true, if_false, and_true, true_and, and_false, false_and, and_self, or_self, or_false, false_or, or_true, true_or, iI_eq, iI_lt, iI_le, Int.reduceEq, Int.reduceLT, Int.reduceLE, ↓bI_eq a1]
  | inr y =>
    obtain ⟨g9, a1, S9, a3, a4⟩ := R
    have oy := ok y rfl
    have le := tS_le (b := b) (E := E) oy
    have ea := C_isAtEnd (d := d + 37) S9
    have e41' : fd g9 4 1 = w := (a4.1 _ _ (by unfold QAr; omega)).trans e41
    show CAk g _ (if tB b E y.1 = -1 then _ else _)
    by_cases c : tB b E y.1 = -1
    · rw [if_pos c]
      rw [b2_t c] at ea
      refine ⟨g9, ?_, ⟨S9.2.2.2.2.2.2.2.1, S9.2.2.2.2.2.2.2.2⟩, ?_, a3, K8.trans a4.ak⟩
      · (try simp only [iI_lit, iI_neg]) <;> simp (maxSteps := 1000000) (disch := decide) only [iI_lit, iI_neg, iI_add, mm_bI_some, mm_bV_some, mm_bL_some, ↓reduceIte, i10, i00, i11, eq_self, not_true_eq_false, not_false_eq_true, ite_true, ite_false, if_true, if_false, and_true, true_and, and_false, false_and, and_self, or_self, or_false, false_or, or_true, true_or, iI_eq, iI_lt, iI_le, Int.reduceEq, Int.reduceLT, Int.reduceLE, ↓bI_eq a1, ↓bI_eq ea]
      · show fd g9 4 1 = w - 25 + 25
        omega
    · rw [if_neg c]
      rw [b2_f c] at ea
      have u := C_unexp (d := d + 36) S9
      refine ⟨_, ?_, bdH_5 (by omega) (by omega), bdH_6 (by omega) (by omega), K8.trans (a4.ak.trans (KR.of (bdH_k (g := g9)) (fun a j q => by unfold QAk; omega)))⟩
      (try simp only [iI_lit, iI_neg]) <;> simp (maxSteps := 1000000) (disch := decide) only [iI_lit, iI_neg, iI_add, mm_bI_some, mm_bV_some, mm_bL_some, ↓reduceIte, i10, i00, i11, eq_self, not_true_eq_false, not_false_eq_true, ite_true, ite_false, if_true, if_false, and_true, true_and, and_false, false_and, and_self, or_self, or_false, false_or, or_true, true_or, iI_eq, iI_lt, iI_le, Int.reduceEq, Int.reduceLT, Int.reduceLE, ↓bI_eq a1, ↓bI_eq ea, ↓bI_eq u]
end AKC
