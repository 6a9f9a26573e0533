/-! the reference's reading of tests -/
noncomputable def sTT (d : Nat) (v : Int) (g : mm_H) : mm_X := mm_D (mm_M mm_T0 (d + 8)) cd_X12_qTest 2 [.ref 264, .int (iI v), .null] [] g
noncomputable def sGT (d : Nat) (g : mm_H) : mm_X := mm_D (mm_M mm_T0 (d + 7)) cd_X12_qGoesOnTest 0 [.ref 264] [] g
noncomputable def kGT (d : Nat) : Int32 → mm_H → mm_X := fun v g => if v = 0 then sTT d 0 g else sTT d 1 g
noncomputable def TO (d : Nat) (g : mm_H) : mm_X := mm_bI (sGT d g) (kGT d)
noncomputable def kTT (d : Nat) : mm_H → mm_X := fun g => if ¬ g.1 264 5 = 0 then sTT d 0 g else TO d g
noncomputable def TF (d : Nat) (g : mm_H) : mm_X := mm_bV (mm_M mm_T0 (d + 8) 301 [.ref 264] g) (kTT d)
noncomputable def TG (d : Nat) (g : mm_H) : mm_X := mm_bI (mm_bV (mm_M mm_T0 (d + 7) 301 [.ref 264] g) (fun h => sGT d h)) (kGT d)
def isTF (d : Nat) (g : mm_H) (X : mm_X) : Prop := X = TF d g ∨ X = TG d g
def BadT (g : mm_H) (X : mm_X) (f : Int × Int) : Prop := ∃ g', X = some (none, g') ∧ Bad g' f.1 f.2 ∧ Kf QQ nL g g'
section RTT
variable {d : Nat} {g : mm_H} {b : Nat → Int} {E p : Nat} {gl : Bool} {w : Int} {T U C : List Int} {o : Nat}
theorem BadT.of {g0 : mm_H} {X : mm_X} {f : Int × Int} (h : BadT g X f) (k : Kf QQ nL g0 g) : BadT g0 X f := by
  obtain ⟨g', a1, a2, a3⟩ := h
  exact ⟨g', a1, a2, k.trans a3⟩
set_option maxHeartbeats 8000000 in
theorem R_gt : mm_M mm_T0 (d + 8) 303 [.ref 264] g = sGT d g := by
  unfold sGT
  rw [U_X12_qGoesOnTest, U_X12_qGoesOnTest_0]
theorem kGT_1 : kGT d (iI 1) g = sTT d 1 g := by
  unfold kGT
  rw [if_neg (by decide)]
theorem kGT_0 : kGT d (iI 0) g = sTT d 0 g := by
  unfold kGT
  rw [if_pos (by decide)]
theorem T_end : sTT d 0 g = mm_D (mm_M mm_T0 (d + 8)) cd_X12_qTest 110 [.ref 264, .null, .null] [] g := by
  unfold sTT
  rw [U_X12_qTest_2, if_pos (by decide)]
theorem T_bad0 (h : fd g 264 5 ≠ 0) : sTT d 0 g = some (none, g) := by
  rw [T_end, U_X12_qTest_110, if_pos (bad_1 h)]
theorem T_bad1 (h : fd g 264 5 ≠ 0) : sTT d 1 g = some (none, g) := by
  unfold sTT
  rw [U_X12_qTest_2, if_neg (by decide), if_pos (bad_1 h), U_X12_qTest_110, if_pos (bad_1 h)]
theorem kTT_bad (h : fd g 264 5 ≠ 0) : kTT d g = some (none, g) := by
  unfold kTT
  rw [if_pos (bad_1 h), T_bad0 h]
theorem kTT_ok (h : fd g 264 5 = 0) : kTT d g = TO d g := by
  unfold kTT
  rw [if_neg (fun z => z (bad_0 h))]
set_option maxHeartbeats 8000000 in
theorem R_nots : mm_M mm_T0 (d + 3) 301 [.ref 264] g = mm_D (mm_M mm_T0 (d + 2)) cd_X12_qDropsNots 0 [.ref 264] [] g := by
  rw [U_X12_qDropsNots, U_X12_qDropsNots_0]
set_option maxHeartbeats 8000000 in
theorem R_nots_on (S : Qst g (12 :: T) U C (o + 1)) (h5 : fd g 264 5 = 0) (hn : (T ++ U).length < 1600) (hc : C.length < 1700) (ho : o ≤ 6) : ∃ g', mm_D (mm_M mm_T0 (d + 2)) cd_X12_qDropsNots 0 [.ref 264] [] g = mm_D (mm_M mm_T0 (d + 2)) cd_X12_qDropsNots 0 [.ref 264] [] g' ∧ Qst g' T U (C ++ [12]) o ∧ Kf Qwk nL g g' := by
  have e5 := S.2.2.1
  have q := R_isOn (d := d + 1) (x := 12) S (by rw [List.cons_append, List.length_cons]; omega) (by omega) (by omega)
  rw [b2_t (show (12 :: T ++ U).head? = some 12 from rfl)] at q
  have o1 : ((o + 1 : Nat) : Int) - 1 = (o : Nat) := by omega
  have S0 : Qst (wI g 264 105 (iI (o : Nat))) (12 :: T) U C o := by
    have z : ∀ j, j ≠ 105 → fd (wI g 264 105 (iI (o : Nat))) 264 j = fd g 264 j := fun j hj => fd_wI_col hj
    have z2 : ∀ a j, a ≠ 264 → fd (wI g 264 105 (iI (o : Nat))) a j = fd g a j := fun a j ha => fd_wI_row ha
    exact ⟨⟨(z 104 (by omega)).trans S.1.1, S.1.2.congr (fun j _ => z2 _ _ (by omega))⟩, ⟨(z 102 (by omega)).trans S.2.1.1, fun i v h => (z2 _ _ (by omega)).trans (S.2.1.2 i v h)⟩, fd_wI_same (by omega) (by omega), (z 106 (by omega)).trans S.2.2.2⟩
  obtain ⟨g', m1, m2, m3⟩ := R_drop (d := d) S0 hn hc
  refine ⟨g', ?_, m2, Kf.trans (Kf.refl.wI (by unfold Qwk; omega)) m3⟩
  rw [U_X12_qDropsNots_0]
  simp (disch := omega) only [iI_lit, jI_lit, iI_neg, jI_neg, iI_add, iI_sub, iI_mul, jI_add, jI_sub, jI_mul, rdI, rdL, iI_lt, iI_le, iI_eq, iI_nat, iI_b2_0, iI_b2_1, mm_bI_some, mm_bV_some, mm_bL_some, mm_bA_some, fd_wL, fd_wR, fl_wI, fl_wR, re_wI, re_wL, re_wC, ite_true, ite_false, not_true_eq_false, not_false_eq_true, lq_ge, lq_le, lq_gt, lq_lt, lq_eq, jI_lt, jI_le, jI_eq, if_pos, if_neg, h5, q, e5, o1, m1]
set_option maxHeartbeats 8000000 in
theorem R_nots_off (S : Qst g T U C o) (h5 : fd g 264 5 = 0) (hx : (T ++ U).head? ≠ some 12) (hn : (T ++ U).length ≤ 1600) : mm_D (mm_M mm_T0 (d + 2)) cd_X12_qDropsNots 0 [.ref 264] [] g = some (none, g) := by
  have q := R_isOn (d := d + 1) (x := 12) S (by omega) (by omega) (by omega)
  rw [b2_f hx] at q
  rw [U_X12_qDropsNots_0]
  simp (disch := omega) only [iI_lit, jI_lit, iI_neg, jI_neg, iI_add, iI_sub, iI_mul, jI_add, jI_sub, jI_mul, rdI, rdL, iI_lt, iI_le, iI_eq, iI_nat, iI_b2_0, iI_b2_1, mm_bI_some, mm_bV_some, mm_bL_some, mm_bA_some, fd_wL, fd_wR, fl_wI, fl_wR, re_wI, re_wL, re_wC, ite_true, ite_false, not_true_eq_false, not_false_eq_true, lq_ge, lq_le, lq_gt, lq_lt, lq_eq, jI_lt, jI_le, jI_eq, if_pos, if_neg, h5, q]
theorem TF_off {X : mm_X} (h : isTF d g X) (S : ST g b E p gl w T [] C o) (hx : T.head? ≠ some 12) : X = TO d g := by
  have l := S.len
  have h5 := S.1.2.2.1
  have hx' : (T ++ []).head? ≠ some 12 := by rw [List.append_nil]; exact hx
  rcases h with e | e
  · rw [e]
    unfold TF
    rw [R_nots (d := d + 5), R_nots_off (d := d + 5) S.2.1 h5 hx' (by omega)]
    exact kTT_ok h5
  · rw [e]
    unfold TG
    rw [R_nots (d := d + 4), R_nots_off (d := d + 4) S.2.1 h5 hx' (by omega)]
    rfl
theorem TF_on {X : mm_X} (h : isTF d g X) (S : ST g b E p gl w (12 :: T) [] C (o + 1)) (ho : o ≤ 6) (hof : nOf T ≤ o) : ∃ g', isTF d g' X ∧ ST g' b E p gl w T [] (C ++ [12]) o ∧ Kf QQ nL g g' := by
  have l := S.len
  rw [List.cons_append, List.length_cons] at l
  have h5 := S.1.2.2.1
  rcases h with e | e
  · obtain ⟨g', m1, m2, m3⟩ := R_nots_on (d := d + 5) S.2.1 h5 (by omega) (by omega) ho
    refine ⟨g', Or.inl ?_, S.qw m2 m3 (by rw [List.length_append (as := C), List.length_singleton]; omega) hof, kWQ m3⟩
    rw [e]
    unfold TF
    rw [R_nots (d := d + 5), R_nots (d := d + 5), m1]
  · obtain ⟨g', m1, m2, m3⟩ := R_nots_on (d := d + 4) S.2.1 h5 (by omega) (by omega) ho
    refine ⟨g', Or.inr ?_, S.qw m2 m3 (by rw [List.length_append (as := C), List.length_singleton]; omega) hof, kWQ m3⟩
    rw [e]
    unfold TG
    rw [R_nots (d := d + 4), R_nots (d := d + 4), m1]
/-! squares among what waits -/
theorem PC_mem : ∀ {S : List Int} {v : Int}, PC g 333 S → v ∈ S → ∃ i, i < S.length ∧ fd g 333 i = v
  | [], v, _, h => absurd h (by simp)
  | x :: r, v, p, h => by
    rcases List.mem_cons.mp h with e | e
    · exact ⟨r.length, by rw [List.length_cons]; omega, by rw [e]; exact p.1⟩
    · obtain ⟨i, i1, i2⟩ := PC_mem p.2 e
      exact ⟨i, by rw [List.length_cons]; omega, i2⟩
theorem PC_of : ∀ {S : List Int} {i : Nat}, PC g 333 S → i < S.length → fd g 333 i ∈ S
  | [], i, _, h => absurd h (by simp)
  | x :: r, i, p, h => by
    rw [List.length_cons] at h
    by_cases e : i = r.length
    · rw [e, p.1]
      exact List.mem_cons_self
    · exact List.mem_cons_of_mem _ (PC_of p.2 (by omega))
set_option maxHeartbeats 8000000 in
theorem R_sq_no {n : Nat} (e : fd g 264 104 = (n : Nat)) (hn : n < 1700) (h : ∀ i, i < n → fd g 333 i ≠ 25) : ∀ (k j : Nat), j + k = n → mm_D (mm_M mm_T0 d) cd_X12_qHasSquare 2 [.ref 264, .int (iI (j : Nat))] [] g = some (some (.int (iI 0)), g)
  | 0, j, hj => by
    rw [U_X12_qHasSquare_2]
    simp (disch := omega) only [iI_lit, jI_lit, iI_neg, jI_neg, iI_add, iI_sub, iI_mul, jI_add, jI_sub, jI_mul, rdI, rdL, iI_lt, iI_le, iI_eq, iI_nat, iI_b2_0, iI_b2_1, mm_bI_some, mm_bV_some, mm_bL_some, mm_bA_some, fd_wL, fd_wR, fl_wI, fl_wR, re_wI, re_wL, re_wC, ite_true, ite_false, not_true_eq_false, not_false_eq_true, lq_ge, lq_le, lq_gt, lq_lt, lq_eq, jI_lt, jI_le, jI_eq, if_pos, if_neg, e]
  | k + 1, j, hj => by
    have hh := h j (by omega)
    have := fd_lo g 333 j; have := fd_hi g 333 j
    have nj : ((j : Nat) : Int).toNat = j := by omega
    have e1 : ((j : Nat) : Int) + 1 = ((j + 1 : Nat) : Int) := by omega
    rw [← R_sq_no e hn h k (j + 1) (by omega), U_X12_qHasSquare_2]
    simp (disch := omega) only [iI_lit, jI_lit, iI_neg, jI_neg, iI_add, iI_sub, iI_mul, jI_add, jI_sub, jI_mul, rdI, rdL, iI_lt, iI_le, iI_eq, iI_nat, iI_b2_0, iI_b2_1, mm_bI_some, mm_bV_some, mm_bL_some, mm_bA_some, fd_wL, fd_wR, fl_wI, fl_wR, re_wI, re_wL, re_wC, ite_true, ite_false, not_true_eq_false, not_false_eq_true, lq_ge, lq_le, lq_gt, lq_lt, lq_eq, jI_lt, jI_le, jI_eq, if_pos, if_neg, e, nj, e1]
set_option maxHeartbeats 8000000 in
theorem R_sq_yes {n : Nat} (e : fd g 264 104 = (n : Nat)) (hn : n < 1700) {i : Nat} (hi : i < n) (h : fd g 333 i = 25) : ∀ (k j : Nat), j + k = i → mm_D (mm_M mm_T0 d) cd_X12_qHasSquare 2 [.ref 264, .int (iI (j : Nat))] [] g = some (some (.int (iI 1)), g)
  | 0, j, hj => by
    have ej : j = i := by omega
    rw [← ej] at h
    have nj : ((j : Nat) : Int).toNat = j := by omega
    rw [U_X12_qHasSquare_2]
    simp (disch := omega) only [iI_lit, jI_lit, iI_neg, jI_neg, iI_add, iI_sub, iI_mul, jI_add, jI_sub, jI_mul, rdI, rdL, iI_lt, iI_le, iI_eq, iI_nat, iI_b2_0, iI_b2_1, mm_bI_some, mm_bV_some, mm_bL_some, mm_bA_some, fd_wL, fd_wR, fl_wI, fl_wR, re_wI, re_wL, re_wC, ite_true, ite_false, not_true_eq_false, not_false_eq_true, lq_ge, lq_le, lq_gt, lq_lt, lq_eq, jI_lt, jI_le, jI_eq, if_pos, if_neg, e, nj, h]
  | k + 1, j, hj => by
    have := fd_lo g 333 j; have := fd_hi g 333 j
    have nj : ((j : Nat) : Int).toNat = j := by omega
    have e1 : ((j : Nat) : Int) + 1 = ((j + 1 : Nat) : Int) := by omega
    by_cases c : fd g 333 j = 25
    · rw [U_X12_qHasSquare_2]
      simp (disch := omega) only [iI_lit, jI_lit, iI_neg, jI_neg, iI_add, iI_sub, iI_mul, jI_add, jI_sub, jI_mul, rdI, rdL, iI_lt, iI_le, iI_eq, iI_nat, iI_b2_0, iI_b2_1, mm_bI_some, mm_bV_some, mm_bL_some, mm_bA_some, fd_wL, fd_wR, fl_wI, fl_wR, re_wI, re_wL, re_wC, ite_true, ite_false, not_true_eq_false, not_false_eq_true, lq_ge, lq_le, lq_gt, lq_lt, lq_eq, jI_lt, jI_le, jI_eq, if_pos, if_neg, e, nj, c]
    · rw [← R_sq_yes e hn hi h k (j + 1) (by omega), U_X12_qHasSquare_2]
      simp (disch := omega) only [iI_lit, jI_lit, iI_neg, jI_neg, iI_add, iI_sub, iI_mul, jI_add, jI_sub, jI_mul, rdI, rdL, iI_lt, iI_le, iI_eq, iI_nat, iI_b2_0, iI_b2_1, mm_bI_some, mm_bV_some, mm_bL_some, mm_bA_some, fd_wL, fd_wR, fl_wI, fl_wR, re_wI, re_wL, re_wC, ite_true, ite_false, not_true_eq_false, not_false_eq_true, lq_ge, lq_le, lq_gt, lq_lt, lq_eq, jI_lt, jI_le, jI_eq, if_pos, if_neg, e, nj, e1]
set_option maxHeartbeats 8000000 in
theorem R_hasSq (S : Qst g T [] C o) (hn : T.length < 1700) : (25 ∈ T → mm_M mm_T0 (d + 1) 300 [.ref 264] g = some (some (.int (iI 1)), g)) ∧ (25 ∉ T → mm_M mm_T0 (d + 1) 300 [.ref 264] g = some (some (.int (iI 0)), g)) := by
  have e := S.1.1
  have p := S.1.2
  rw [List.append_nil] at e p
  refine ⟨fun h => ?_, fun h => ?_⟩
  · obtain ⟨i, i1, i2⟩ := PC_mem p h
    have r := R_sq_yes (d := d) e (by omega) i1 i2 i 0 (by omega)
    rw [show ((0 : Nat) : Int) = 0 from rfl] at r
    rw [U_X12_qHasSquare, ← r]
    rfl
  · have r := R_sq_no (d := d) e (by omega) (fun i hi z => h (by have := PC_of p hi; rw [z] at this; exact this)) T.length 0 (by omega)
    rw [show ((0 : Nat) : Int) = 0 from rfl] at r
    rw [U_X12_qHasSquare, ← r]
    rfl
/-! before a fact -/
theorem TE_sq (S : ST g b E p gl w T [] C o) (ho : o ≤ 6) (h : tB b E p = 91) : (o < 6 → ∃ g', sTT d 1 g = sTT d 1 g' ∧ ST g' b E (tS b E p + 1) false w (25 :: T) [] C (o + 1) ∧ Kf QQ nL g g') ∧ (¬ o < 6 → BadT g (sTT d 1 g) (4, (tS b E p : Int))) := by
  have h5 := S.1.2.2.1
  have l := S.len
  have ge := tS_ge (b := b) (E := E) (p := p)
  have lt := tB_in h (by decide)
  obtain ⟨g1, l1, R1, l2, l3⟩ := R_look (d := d + 7) S.1
  have S1 := S.tk R1 l3 (Nat.le_refl _)
  rw [h] at l1
  have op := R_opens (d := d + 6) (x := 25) (pl := (tS b E p : Int)) R1 S1.2.1 (by omega) ho (by omega) (by omega) (by omega) (by omega)
  refine ⟨fun o6 => ?_, fun o6 => ?_⟩
  · obtain ⟨g2, m1, Q2, k2⟩ := op.1 o6
    have f2 : fd g2 264 2 = (tS b E p : Int) := (k2.1 264 2 (by unfold Qwk; omega)).trans l2
    have R2 := R1.kw k2
    obtain ⟨R3, k3⟩ := RS_step R2 f2 lt
    refine ⟨_, ?_, ⟨R3, Q2.tk k3, ?_, ?_, ?_⟩, (kTQ l3).trans ((kWQ k2).trans (kTQ k3))⟩
    · conv => lhs; unfold sTT
      rw [U_X12_qTest_2]
      unfold sTT
      simp (disch := omega) only [iI_lit, jI_lit, iI_neg, jI_neg, iI_add, iI_sub, iI_mul, jI_add, jI_sub, jI_mul, rdI, rdL, iI_lt, iI_le, iI_eq, iI_nat, iI_b2_0, iI_b2_1, mm_bI_some, mm_bV_some, mm_bL_some, mm_bA_some, fd_wL, fd_wR, fl_wI, fl_wR, re_wI, re_wL, re_wC, ite_true, ite_false, not_true_eq_false, not_false_eq_true, lq_ge, lq_le, lq_gt, lq_lt, lq_eq, jI_lt, jI_le, jI_eq, if_pos, if_neg, h5, l1, l2, m1, f2]
    · rw [k3.1 264 54 (by unfold QTk; omega), k2.1 264 54 (by unfold Qwk; omega)]
      exact S1.2.2.1
    · rw [List.cons_append, List.length_cons]
      omega
    · rw [nOf, if_neg (by omega)]
      have := S.2.2.2.2
      omega
  · obtain ⟨g2, m1, B2, k2⟩ := op.2 o6
    have kk : Kf QTk nL g2 (wI g2 264 2 (iI (fd g2 264 2 + 1))) := Kf.refl.wI (by unfold QTk; omega)
    have B3 : Bad (wI g2 264 2 (iI (fd g2 264 2 + 1))) 4 (tS b E p) := B2.kf (Q := fun a k => a = 264 ∧ k = 2) (L := nL) (Kf.refl.wI ⟨rfl, rfl⟩) (by omega) (by omega)
    refine ⟨wI g2 264 2 (iI (fd g2 264 2 + 1)), ?_, B3, kTQ (l3.trans (k2.trans kk))⟩
    rw [← T_bad1 (d := d) (B3.ne (by decide))]
    conv => lhs; unfold sTT
    rw [U_X12_qTest_2]
    unfold sTT
    simp (disch := omega) only [iI_lit, jI_lit, iI_neg, jI_neg, iI_add, iI_sub, iI_mul, jI_add, jI_sub, jI_mul, rdI, rdL, iI_lt, iI_le, iI_eq, iI_nat, iI_b2_0, iI_b2_1, mm_bI_some, mm_bV_some, mm_bL_some, mm_bA_some, fd_wL, fd_wR, fl_wI, fl_wR, re_wI, re_wL, re_wC, ite_true, ite_false, not_true_eq_false, not_false_eq_true, lq_ge, lq_le, lq_gt, lq_lt, lq_eq, jI_lt, jI_le, jI_eq, if_pos, if_neg, h5, l1, l2, m1]
theorem TE_not (S : ST g b E p gl w T [] C o) (ho : o ≤ 6) (h : wno b E p gl = 21) : (o < 6 → ∃ g', sTT d 1 g = sTT d 1 g' ∧ ST g' b E (tL b E (tS b E p)) true w (12 :: T) [] C (o + 1) ∧ Kf QQ nL g g') ∧ (¬ o < 6 → BadT g (sTT d 1 g) (4, (tS b E p : Int))) := by
  have h5 := S.1.2.2.1
  have l := S.len
  have ge := tS_ge (b := b) (E := E) (p := p)
  have ww := wno_w (b := b) (E := E) (p := p) (gl := gl) (by omega)
  have tl := tL_in ww.1
  have il := isLt_iff.mp ww.1
  obtain ⟨g1, l1, R1, l2, l3⟩ := R_look (d := d + 7) S.1
  have S1 := S.tk R1 l3 (Nat.le_refl _)
  have q1 := R_hereA (d := d + 6) (a := 313) (k := 21) (by unfold isW; omega) (by omega) rfl R1 l2
  rw [b2_t h] at q1
  have op := R_opens (d := d + 6) (x := 12) (pl := (tS b E p : Int)) R1 S1.2.1 (by omega) ho (by omega) (by omega) (by omega) (by omega)
  refine ⟨fun o6 => ?_, fun o6 => ?_⟩
  · obtain ⟨g2, m1, Q2, k2⟩ := op.1 o6
    have R2 := R1.kw k2
    obtain ⟨g3, n1, R3, k3⟩ := R_asksA (d := d + 4) (a := 313) (k := 21) (by unfold isW; omega) (by omega) rfl R2 h
    refine ⟨g3, ?_, ⟨R3, Q2.tk k3, ?_, ?_, ?_⟩, (kTQ l3).trans ((kWQ k2).trans (kTQ k3))⟩
    · conv => lhs; unfold sTT
      rw [U_X12_qTest_2]
      unfold sTT
      simp (disch := omega) only [iI_lit, jI_lit, iI_neg, jI_neg, iI_add, iI_sub, iI_mul, jI_add, jI_sub, jI_mul, rdI, rdL, iI_lt, iI_le, iI_eq, iI_nat, iI_b2_0, iI_b2_1, mm_bI_some, mm_bV_some, mm_bL_some, mm_bA_some, fd_wL, fd_wR, fl_wI, fl_wR, re_wI, re_wL, re_wC, ite_true, ite_false, not_true_eq_false, not_false_eq_true, lq_ge, lq_le, lq_gt, lq_lt, lq_eq, jI_lt, jI_le, jI_eq, if_pos, if_neg, h5, l1, q1, l2, m1, n1]
    · rw [k3.1 264 54 (by unfold QTk; omega), k2.1 264 54 (by unfold Qwk; omega)]
      exact S1.2.2.1
    · rw [List.cons_append, List.length_cons]
      omega
    · rw [nOf, if_neg (by omega)]
      have := S.2.2.2.2
      omega
  · obtain ⟨g2, m1, B2, k2⟩ := op.2 o6
    have b5 := B2.ne (by decide)
    have n1 := B_asks (d := d + 7) (a := 313) (g := g2) (by unfold isW; omega) b5
    refine ⟨g2, ?_, B2, kTQ (l3.trans k2)⟩
    rw [← T_bad1 (d := d) b5]
    conv => lhs; unfold sTT
    rw [U_X12_qTest_2]
    unfold sTT
    simp (disch := omega) only [iI_lit, jI_lit, iI_neg, jI_neg, iI_add, iI_sub, iI_mul, jI_add, jI_sub, jI_mul, rdI, rdL, iI_lt, iI_le, iI_eq, iI_nat, iI_b2_0, iI_b2_1, mm_bI_some, mm_bV_some, mm_bL_some, mm_bA_some, fd_wL, fd_wR, fl_wI, fl_wR, re_wI, re_wL, re_wC, ite_true, ite_false, not_true_eq_false, not_false_eq_true, lq_ge, lq_le, lq_gt, lq_lt, lq_eq, jI_lt, jI_le, jI_eq, if_pos, if_neg, h5, l1, q1, l2, m1, n1]
set_option maxHeartbeats 8000000 in
theorem R_fact {n : Nat} (w0 : 0 ≤ w) (w3 : w ≤ 3) (S : ST g b E p gl w T [] C o) (ho : o ≤ 6) (hn : 4 * (E - p) + 2 ≤ n) (hT : ∀ y, T.head? = some y → 4 < y ∧ y < 60) : match (if wno b E p gl = 22 then (.inr (tL b E (tS b E p), true, [13]) : RR) else fThen (rd b E w n 1 o p gl 0 []) (fun q _ c1 => if opC (tB b E q) ≠ 0 then fThen (rd b E w n 1 o (tS b E q + 1) false 0 []) (fun r g2 c2 => .inr (r, g2, c1 ++ c2 ++ [opC (tB b E q)])) else .inl (1, (tS b E q : Int)))) with
    | .inl f => ∃ g', mm_M mm_T0 (d + 8) 299 [.ref 264] g = some (none, g') ∧ Bad g' f.1 f.2 ∧ Kf QQ nL g g'
    | .inr y => ∃ g', mm_M mm_T0 (d + 8) 299 [.ref 264] g = some (none, g') ∧ ST g' b E y.1 y.2.1 w T [] (C ++ y.2.2) o ∧ Kf QQ nL g g' := by
  have h5 := S.1.2.2.1
  have l := S.len
  have ge := tS_ge (b := b) (E := E) (p := p)
  have tk := R_takesA (d := d + 4) (a := 316) (k := 22) (by unfold isW; omega) (by omega) rfl S.1
  by_cases c : wno b E p gl = 22
  · rw [if_pos c]
    have ww := wno_w (b := b) (E := E) (p := p) (gl := gl) (by omega)
    have tl := tL_in ww.1
    obtain ⟨g1, a1, R1, k1⟩ := tk.1 c
    have S1 := S.tk R1 k1 (by omega)
    obtain ⟨g2, c1, Q2, k2⟩ := R_code (d := d + 6) (x := 13) S1.2.1 (by omega) (by omega) (by omega)
    refine ⟨g2, ?_, S1.qw Q2 k2 (by rw [List.length_append (as := C), List.length_singleton]; omega) S1.2.2.2.2, (kTQ k1).trans (kWQ k2)⟩
    rw [U_X12_qFact]
    simp (disch := omega) only [iI_lit, jI_lit, iI_neg, jI_neg, iI_add, iI_sub, iI_mul, jI_add, jI_sub, jI_mul, rdI, rdL, iI_lt, iI_le, iI_eq, iI_nat, iI_b2_0, iI_b2_1, mm_bI_some, mm_bV_some, mm_bL_some, mm_bA_some, fd_wL, fd_wR, fl_wI, fl_wR, re_wI, re_wL, re_wC, ite_true, ite_false, not_true_eq_false, not_false_eq_true, lq_ge, lq_le, lq_gt, lq_lt, lq_eq, jI_lt, jI_le, jI_eq, if_pos, if_neg, a1, c1]
  · rw [if_neg c]
    obtain ⟨g1, a1, R1, _, k1⟩ := tk.2 c
    clear tk
    have S1 := S.tk R1 k1 (Nat.le_refl _)
    have r := R_sums (d := d) (n := n) (wt := 0) (c := []) w0 w3 S1 ho hn hT
    have ok := (Ok_all (b := b) (w := w) l.2.2 n).2.1 o p gl 0 [] l.2.1 hn
    revert r ok
    cases rd b E w n 1 o p gl 0 [] with
    | inl f =>
      intro r ok
      obtain ⟨g2, b1, b2', k2⟩ := r
      have b5 : ¬ g2.1 264 5 = 0 := bad_1 (by rw [b2'.1.1]; have : f.1 = 1 ∨ f.1 = 2 ∨ f.1 = 4 := ok.1; omega)
      refine ⟨g2, ?_, b2'.1, (kTQ k1).trans k2⟩
      rw [U_X12_qFact, a1, mm_bI_some, if_pos (by decide), b1, mm_bV_some, if_neg b5]
    | inr y =>
      intro r ok
      obtain ⟨g2, b1, S2, k2⟩ := r
      have o1 : p + 1 ≤ y.1 := ok.1
      have o2 : y.1 ≤ E := ok.2.1
      have gey := tS_ge (b := b) (E := E) (p := y.1)
      have ley := tS_le (b := b) (E := E) (p := y.1) o2
      have h52 := S2.1.2.2.1
      obtain ⟨g3, l1, R3, l2, k3⟩ := R_look (d := d + 6) S2.1
      have S3 := S2.tk R3 k3 (Nat.le_refl _)
      have r52 := rdE h52
      have rl2 := rdE l2
      have tb := tB_b (p := y.1) R3.1
      show (match (if opC (tB b E y.1) ≠ 0 then fThen (rd b E w n 1 o (tS b E y.1 + 1) false 0 []) (fun r g2 c2 => (.inr (r, g2, y.2.2 ++ c2 ++ [opC (tB b E y.1)]) : RR)) else .inl (1, (tS b E y.1 : Int))) with
        | .inl f => ∃ g', mm_M mm_T0 (d + 8) 299 [.ref 264] g = some (none, g') ∧ Bad g' f.1 f.2 ∧ Kf QQ nL g g'
        | .inr y => ∃ g', mm_M mm_T0 (d + 8) 299 [.ref 264] g = some (none, g') ∧ ST g' b E y.1 y.2.1 w T [] (C ++ y.2.2) o ∧ Kf QQ nL g g')
      by_cases c4 : opC (tB b E y.1) ≠ 0
      · rw [if_pos c4]
        obtain ⟨lt, tt⟩ := opC_in c4
        obtain ⟨R4, k4⟩ := RS_step R3 l2 lt
        have S4 := S3.tk R4 k4 (by omega)
        have r2 := R_sums (d := d) (n := n) (wt := 0) (c := []) w0 w3 S4 ho (by omega) hT
        have ok2 := (Ok_all (b := b) (w := w) l.2.2 n).2.1 o (tS b E y.1 + 1) false 0 [] (by omega) (by omega)
        have cv : (tB b E y.1 = 60 ∧ opC (tB b E y.1) = 7) ∨ (tB b E y.1 = 62 ∧ opC (tB b E y.1) = 8) ∨ (tB b E y.1 = 61 ∧ opC (tB b E y.1) = 9) := by
          rcases tt with z | z | z
          · exact Or.inl ⟨z, by rw [z]; rfl⟩
          · exact Or.inr (Or.inl ⟨z, by rw [z]; rfl⟩)
          · exact Or.inr (Or.inr ⟨z, by rw [z]; rfl⟩)
        revert r2 ok2
        cases rd b E w n 1 o (tS b E y.1 + 1) false 0 [] with
        | inl f =>
          intro r2 ok2
          obtain ⟨g5, d1, d2, k5⟩ := r2
          have f7 := fun v : Int => R_codeX (d := d + 6) (g := g5) (y := iI v) d2.2.1 (by omega)
          rcases cv with ⟨z, z2⟩ | ⟨z, z2⟩ | ⟨z, z2⟩
          · obtain ⟨g6, e1, k6, _⟩ := f7 7
            refine ⟨g6, ?_, d2.1.kf k6 (by unfold Qwk; omega) (by unfold Qwk; omega), (kTQ k1).trans (k2.trans ((kTQ k3).trans ((kTQ k4).trans (k5.trans (kWQ k6)))))⟩
            rw [z] at l1
            rw [U_X12_qFact]
            simp (disch := decide) only [iI_lit, iI_neg, iI_add, mm_bI_some, mm_bV_some, mm_bL_some, mm_bA_some, i10, i00, i11, eq_self, not_true_eq_false, not_false_eq_true, ite_true, ite_false, if_true, if_false, and_true, true_and, and_false, false_and, and_self, or_self, or_false, false_or, or_true, true_or, iI_eq, iI_lt, iI_le, Int.reduceEq, Int.reduceLT, Int.reduceLE, a1, b1, r52, l1, rl2, d1, e1]
          · obtain ⟨g6, e1, k6, _⟩ := f7 8
            refine ⟨g6, ?_, d2.1.kf k6 (by unfold Qwk; omega) (by unfold Qwk; omega), (kTQ k1).trans (k2.trans ((kTQ k3).trans ((kTQ k4).trans (k5.trans (kWQ k6)))))⟩
            rw [z] at l1
            rw [U_X12_qFact]
            simp (disch := decide) only [iI_lit, iI_neg, iI_add, mm_bI_some, mm_bV_some, mm_bL_some, mm_bA_some, i10, i00, i11, eq_self, not_true_eq_false, not_false_eq_true, ite_true, ite_false, if_true, if_false, and_true, true_and, and_false, false_and, and_self, or_self, or_false, false_or, or_true, true_or, iI_eq, iI_lt, iI_le, Int.reduceEq, Int.reduceLT, Int.reduceLE, a1, b1, r52, l1, rl2, d1, e1]
          · obtain ⟨g6, e1, k6, _⟩ := f7 9
            refine ⟨g6, ?_, d2.1.kf k6 (by unfold Qwk; omega) (by unfold Qwk; omega), (kTQ k1).trans (k2.trans ((kTQ k3).trans ((kTQ k4).trans (k5.trans (kWQ k6)))))⟩
            rw [z] at l1
            rw [U_X12_qFact]
            simp (disch := decide) only [iI_lit, iI_neg, iI_add, mm_bI_some, mm_bV_some, mm_bL_some, mm_bA_some, i10, i00, i11, eq_self, not_true_eq_false, not_false_eq_true, ite_true, ite_false, if_true, if_false, and_true, true_and, and_false, false_and, and_self, or_self, or_false, false_or, or_true, true_or, iI_eq, iI_lt, iI_le, Int.reduceEq, Int.reduceLT, Int.reduceLE, a1, b1, r52, l1, rl2, d1, e1]
        | inr u =>
          intro r2 ok2
          obtain ⟨g5, d1, S5, k5⟩ := r2
          have q1 : tS b E y.1 + 1 + 1 ≤ u.1 := ok2.1
          have q2 : u.1 ≤ E := ok2.2.1
          have q3 : u.2.2.length + (tS b E y.1 + 1) ≤ 0 + u.1 := ok2.2.2
          have l2' := S2.2.2.2.1
          have l5 := S5.len
          obtain ⟨g6, e1, Q6, k6⟩ := R_code (d := d + 6) (x := opC (tB b E y.1)) S5.2.1 (by omega) (by rcases cv with z | z | z <;> omega) (by rcases cv with z | z | z <;> omega)
          have S6 := S5.qw Q6 k6 (by
            rw [List.length_append, List.length_append] at l2'
            rw [List.length_append (as := C ++ y.2.2 ++ u.2.2), List.length_append (as := C ++ y.2.2), List.length_append (as := C), List.length_append, List.length_singleton]
            omega) S5.2.2.2.2
          rw [List.append_assoc, List.append_assoc, ← List.append_assoc y.2.2] at S6
          refine ⟨g6, ?_, S6, (kTQ k1).trans (k2.trans ((kTQ k3).trans ((kTQ k4).trans (k5.trans (kWQ k6)))))⟩
          rcases cv with ⟨z, z2⟩ | ⟨z, z2⟩ | ⟨z, z2⟩
          · rw [z2] at e1
            rw [z] at l1
            rw [U_X12_qFact]
            simp (disch := decide) only [iI_lit, iI_neg, iI_add, mm_bI_some, mm_bV_some, mm_bL_some, mm_bA_some, i10, i00, i11, eq_self, not_true_eq_false, not_false_eq_true, ite_true, ite_false, if_true, if_false, and_true, true_and, and_false, false_and, and_self, or_self, or_false, false_or, or_true, true_or, iI_eq, iI_lt, iI_le, Int.reduceEq, Int.reduceLT, Int.reduceLE, a1, b1, r52, l1, rl2, d1, e1]
          · rw [z2] at e1
            rw [z] at l1
            rw [U_X12_qFact]
            simp (disch := decide) only [iI_lit, iI_neg, iI_add, mm_bI_some, mm_bV_some, mm_bL_some, mm_bA_some, i10, i00, i11, eq_self, not_true_eq_false, not_false_eq_true, ite_true, ite_false, if_true, if_false, and_true, true_and, and_false, false_and, and_self, or_self, or_false, false_or, or_true, true_or, iI_eq, iI_lt, iI_le, Int.reduceEq, Int.reduceLT, Int.reduceLE, a1, b1, r52, l1, rl2, d1, e1]
          · rw [z2] at e1
            rw [z] at l1
            rw [U_X12_qFact]
            simp (disch := decide) only [iI_lit, iI_neg, iI_add, mm_bI_some, mm_bV_some, mm_bL_some, mm_bA_some, i10, i00, i11, eq_self, not_true_eq_false, not_false_eq_true, ite_true, ite_false, if_true, if_false, and_true, true_and, and_false, false_and, and_self, or_self, or_false, false_or, or_true, true_or, iI_eq, iI_lt, iI_le, Int.reduceEq, Int.reduceLT, Int.reduceLE, a1, b1, r52, l1, rl2, d1, e1]
      · rw [if_neg c4]
        have n60 : tB b E y.1 ≠ 60 := fun z => c4 (by rw [z]; decide)
        have n62 : tB b E y.1 ≠ 62 := fun z => c4 (by rw [z]; decide)
        have n61 : tB b E y.1 ≠ 61 := fun z => c4 (by rw [z]; decide)
        obtain ⟨g4, d1, d2, k4⟩ := R_fail (d := d + 6) (g := g3) (k := 1) (pl := (tS b E y.1 : Int)) R3.2.2.1 (by omega) (by omega) (by omega) (by omega)
        refine ⟨g4, ?_, d2, (kTQ k1).trans (k2.trans ((kTQ k3).trans (kTQ k4)))⟩
        have m60 : (iI (tB b E y.1) = iI 60) = False := iI_ne (by omega) (by omega) (by omega) (by omega) n60
        have m62 : (iI (tB b E y.1) = iI 62) = False := iI_ne (by omega) (by omega) (by omega) (by omega) n62
        have m61 : (iI (tB b E y.1) = iI 61) = False := iI_ne (by omega) (by omega) (by omega) (by omega) n61
        rw [U_X12_qFact]
        simp (disch := decide) only [iI_lit, iI_neg, iI_add, mm_bI_some, mm_bV_some, mm_bL_some, mm_bA_some, i10, i00, i11, eq_self, not_true_eq_false, not_false_eq_true, ite_true, ite_false, if_true, if_false, and_true, true_and, and_false, false_and, and_self, or_self, or_false, false_or, or_true, true_or, iI_eq, iI_lt, iI_le, Int.reduceEq, Int.reduceLT, Int.reduceLE, a1, b1, r52, l1, m60, m62, m61, rl2, d1]
end RTT
