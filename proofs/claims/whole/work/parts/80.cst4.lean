section CSM
variable {d : Nat} {g : mm_H} {b : Nat → Int} {E p : Nat} {gl : Bool} {u : Nat} {hm : Nat} {st : Tst}
set_option maxHeartbeats 8000000 in
/-- a person, by a name that stands here -/
theorem C_takeP (hu : mm_isT u) (S : CS g b E p gl) (T : CTs g u hm st) (O : st.1.length ≤ 8 ∧ ∀ x ∈ st.1, x.1.length ≤ 6 ∧ ∀ y ∈ x.1, 1 ≤ y ∧ y ≤ 26) : ((nmT b E p gl).1 ≠ 0 → mm_M mm_T0 (d + 6) 134 [.ref 12, .ref u] g = some (some (.int (iI (-1))), bdH g (nmT b E p gl).1 (nmT b E p gl).2.1)) ∧ ((nmT b E p gl).1 = 0 → idxF (nmT b E p gl).2.2 st.1 0 = -1 → mm_M mm_T0 (d + 6) 134 [.ref 12, .ref u] g = some (some (.int (iI (-1))), bdH g 3 (tS b E p))) ∧ ((nmT b E p gl).1 = 0 → idxF (nmT b E p gl).2.2 st.1 0 ≠ -1 → ∃ g', mm_M mm_T0 (d + 6) 134 [.ref 12, .ref u] g = some (some (.int (iI (idxF (nmT b E p gl).2.2 st.1 0))), g') ∧ CS g' b E (tL b E (tS b E p)) true ∧ Kf QTc nL g g') := by
  have nh := C_nameHere (d := d + 2) S
  have ib := idxF_b (w := (nmT b E p gl).2.2) st.1 0 (by omega)
  have m8 := O.1
  refine ⟨fun c => ?_, fun c c2 => ?_, fun c c2 => ?_⟩
  · have n1 := nh.2 c
    rw [U_X9_takePerson hu]
    simp (disch := omega) only [iI_lit, jI_lit, iI_neg, jI_neg, iI_add, iI_sub, iI_mul, jI_add, jI_sub, jI_mul, rdI, rdL, iI_lt, iI_le, iI_eq, iI_nat, iI_b2_0, iI_b2_1, mm_bI_some, mm_bV_some, mm_bL_some, mm_bA_some, fd_wL, fd_wR, fl_wI, fl_wR, re_wI, re_wL, re_wC, ite_true, ite_false, not_true_eq_false, not_false_eq_true, lq_ge, lq_le, lq_gt, lq_lt, lq_eq, jI_lt, jI_le, jI_eq, if_pos, if_neg, n1]
  · have n1 := nh.1 c
    have pn := C_pn (d := d + 2) hu T O S c
    rw [c2] at pn
    have f := C_fail (d := d + 3) (k := 3) S
    rw [U_X9_takePerson hu]
    simp (disch := omega) only [iI_lit, jI_lit, iI_neg, jI_neg, iI_add, iI_sub, iI_mul, jI_add, jI_sub, jI_mul, rdI, rdL, iI_lt, iI_le, iI_eq, iI_nat, iI_b2_0, iI_b2_1, mm_bI_some, mm_bV_some, mm_bL_some, mm_bA_some, fd_wL, fd_wR, fl_wI, fl_wR, re_wI, re_wL, re_wC, ite_true, ite_false, not_true_eq_false, not_false_eq_true, lq_ge, lq_le, lq_gt, lq_lt, lq_eq, jI_lt, jI_le, jI_eq, if_pos, if_neg, n1, pn, f]
  · have n1 := nh.1 c
    have pn := C_pn (d := d + 2) hu T O S c
    obtain ⟨g', a1, S1, k1⟩ := C_advW (d := d) S ((nmT_b (b := b) (E := E) (p := p) (gl := gl) S.2.1 S.2.2.1).2.2.2 c).1
    refine ⟨g', ?_, S1, k1⟩
    generalize idxF (nmT b E p gl).2.2 st.1 0 = ix at *
    rw [U_X9_takePerson hu]
    simp (disch := omega) only [iI_lit, jI_lit, iI_neg, jI_neg, iI_add, iI_sub, iI_mul, jI_add, jI_sub, jI_mul, rdI, rdL, iI_lt, iI_le, iI_eq, iI_nat, iI_b2_0, iI_b2_1, mm_bI_some, mm_bV_some, mm_bL_some, mm_bA_some, fd_wL, fd_wR, fl_wI, fl_wR, re_wI, re_wL, re_wC, ite_true, ite_false, not_true_eq_false, not_false_eq_true, lq_ge, lq_le, lq_gt, lq_lt, lq_eq, jI_lt, jI_le, jI_eq, if_pos, if_neg, n1, pn, a1]
set_option maxHeartbeats 8000000 in
theorem C_thinksT (hu : mm_isT u) (S : CS g b E p gl) (cw : wno b E p gl ≠ -2) (T : CTs g u hm st) {q0 : Nat} (O : TstOK hm q0 st) : CSo b E u hm g (mm_M mm_T0 (d + 7) 133 [.ref 12, .ref u] g) (stThinks b E st (tL b E (tS b E p))) := by
  have ut := isT_or hu
  have hE := S.2.1
  have m8 := O.1.1
  obtain ⟨g1, a1, S1, k1⟩ := C_advW (d := d + 1) S cw
  have T1 := T.tk hu k1
  unfold stThinks
  generalize tL b E (tS b E p) = p1 at *
  have le1 := tS_le (b := b) (E := E) S1.2.2.1
  have tp := C_takeP (d := d) hu S1 T1 O.nm
  have nmb := nmT_b (b := b) (E := E) (p := p1) (gl := true) hE S1.2.2.1
  by_cases c1 : (nmT b E p1 true).1 = 0
  · rw [pM_t c1]
    have ib := idxF_b (w := (nmT b E p1 true).2.2) st.1 0 (by omega)
    by_cases c2 : idxF (nmT b E p1 true).2.2 st.1 0 = -1
    · rw [if_pos c2]
      have n1 := tp.2.1 c1 c2
      refine ⟨_, ?_, bdH_5 (by omega) (by omega), bdH_6 (by omega) (by omega), (tkKR k1).trans bdH_KR⟩
      rw [U_X9_readThought hu]
      (try simp only [iI_lit, iI_neg]) <;> simp (maxSteps := 1000000) (disch := decide) only [iI_lit, iI_neg, iI_add, mm_bI_some, mm_bV_some, mm_bL_some, ↓reduceIte, i10, i00, i11, eq_self, not_true_eq_false, not_false_eq_true, ite_true, ite_false, if_true, if_false, and_true, true_and, and_false, false_and, and_self, or_self, or_false, false_or, or_true, true_or, iI_eq, iI_lt, iI_le, Int.reduceEq, Int.reduceLT, Int.reduceLE, ↓bV_eq a1, ↓bI_eq n1]
    · rw [if_neg c2]
      obtain ⟨g2, n1, S2, k2⟩ := tp.2.2 c1 c2
      have T2 := T1.tk hu k2
      generalize idxF (nmT b E p1 true).2.2 st.1 0 = ia at *
      have na : (iI ia = iI (-1)) = False := by
        clear tp
        exact iI_ne (by omega) (by omega) (by omega) (by omega) c2
      generalize tL b E (tS b E p1) = p2 at *
      have le2 := tS_le (b := b) (E := E) S2.2.2.1
      have tw := C_takeWord (d := d) (k := 6) S2 (by omega) (by omega)
      have K2 : KR (QD u) g g2 := (tkKR k1).trans (tkKR k2)
      by_cases c3 : wno b E p2 true = 6
      · rw [pW_t c3]
        obtain ⟨g3, d1, S3, k3⟩ := tw.1 c3
        have T3 := T2.tk hu k3
        generalize tL b E (tS b E p2) = p3 at *
        have le3 := tS_le (b := b) (E := E) S3.2.2.1
        have nh := C_nameHere (d := d + 3) S3
        have nmb3 := nmT_b (b := b) (E := E) (p := p3) (gl := true) hE S3.2.2.1
        have K3 : KR (QD u) g g3 := K2.trans (tkKR k3)
        by_cases c4 : (nmT b E p3 true).1 = 0
        · rw [pM_t c4]
          have n3 := nh.1 c4
          have pn := C_pn (d := d + 3) hu T3 O.nm S3 c4
          have ib3 := idxF_b (w := (nmT b E p3 true).2.2) st.1 0 (by omega)
          have tp3 := C_takeP (d := d) hu S3 T3 O.nm
          by_cases c5 : idxF (nmT b E p3 true).2.2 st.1 0 = ia
          · rw [if_pos (Or.inr c5)]
            rw [c5] at pn
            have f := C_fail (d := d + 4) (k := 3) S3
            refine ⟨_, ?_, bdH_5 (by omega) (by omega), bdH_6 (by omega) (by omega), K3.trans bdH_KR⟩
            rw [U_X9_readThought hu]
            (try simp only [iI_lit, iI_neg]) <;> simp (maxSteps := 1000000) (disch := decide) only [iI_lit, iI_neg, iI_add, mm_bI_some, mm_bV_some, mm_bL_some, ↓reduceIte, i10, i00, i11, eq_self, not_true_eq_false, not_false_eq_true, ite_true, ite_false, if_true, if_false, and_true, true_and, and_false, false_and, and_self, or_self, or_false, false_or, or_true, true_or, iI_eq, iI_lt, iI_le, Int.reduceEq, Int.reduceLT, Int.reduceLE, ↓bV_eq a1, ↓bI_eq n1, na, ↓bI_eq d1, ↓bI_eq n3, ↓bI_eq pn, ↓bI_eq f, zr_0]
          · by_cases c6 : idxF (nmT b E p3 true).2.2 st.1 0 = -1
            · rw [if_pos (Or.inl c6)]
              have n4 := tp3.2.1 c4 c6
              rw [c6] at pn
              refine ⟨_, ?_, bdH_5 (by omega) (by omega), bdH_6 (by omega) (by omega), K3.trans bdH_KR⟩
              have nx : (iI (-1) = iI ia) = False := by
                clear tp tw nh tp3
                exact iI_ne (by omega) (by omega) (by omega) (by omega) (by omega)
              rw [U_X9_readThought hu]
              (try simp only [iI_lit, iI_neg]) <;> simp (maxSteps := 1000000) (disch := decide) only [iI_lit, iI_neg, iI_add, mm_bI_some, mm_bV_some, mm_bL_some, ↓reduceIte, i10, i00, i11, eq_self, not_true_eq_false, not_false_eq_true, ite_true, ite_false, if_true, if_false, and_true, true_and, and_false, false_and, and_self, or_self, or_false, false_or, or_true, true_or, iI_eq, iI_lt, iI_le, Int.reduceEq, Int.reduceLT, Int.reduceLE, ↓bV_eq a1, ↓bI_eq n1, na, ↓bI_eq d1, ↓bI_eq n3, ↓bI_eq pn, nx, ↓bI_eq n4]
            · rw [if_neg (by omega)]
              obtain ⟨g4, n4, S4, k4⟩ := tp3.2.2 c4 c6
              have T4 := T3.tk hu k4
              generalize idxF (nmT b E p3 true).2.2 st.1 0 = ib' at *
              clear tp tw nh tp3
              have nb1 : (iI ib' = iI ia) = False := iI_ne (by omega) (by omega) (by omega) (by omega) c5
              have nb2 : (iI ib' = iI (-1)) = False := iI_ne (by omega) (by omega) (by omega) (by omega) c6
              generalize tL b E (tS b E p3) = p4 at *
              have le4 := tS_le (b := b) (E := E) S4.2.2.1
              have nh4 := C_numHere (d := d + 3) (lo := 0) (hi := 9) S4 (by omega) (by omega)
              rw [show ((0 : Nat) : Int) = 0 from rfl, show ((9 : Nat) : Int) = 9 from rfl] at nh4
              have nb4 := numT_b (b := b) (E := E) (p := p4) (gl := true) (lo := 0) (hi := 9) hE S4.2.2.1
              have K4 : KR (QD u) g g4 := K3.trans (tkKR k4)
              by_cases c7 : (numT b E 0 9 p4 true).1 = 0
              · rw [pN_t c7]
                obtain ⟨n5, v5⟩ := nh4.1 c7
                have nv := nb4.2.2.2 c7
                have nv1 := nv.1
                have nv2 := nv.2.1
                generalize (numT b E 0 9 p4 true).2.2 = v at *
                obtain ⟨g5, r1, S5, k5⟩ := C_takeValue (d := d) S4 ⟨nv.2.2.1, nv.2.2.2.1⟩ v5
                have T5 := T4.tk hu k5
                have e10 := T5.1.2.1
                have sT := S_setThought (d := d + 3) (h := g5) (p := ia) (q := ib') (x := v) (isT_S hu) (by omega) (by omega) (by omega) (by omega)
                rw [if_pos (by omega)] at sT
                obtain ⟨i, ei⟩ : ∃ i : Nat, ia = (i : Int) := ⟨ia.toNat, by omega⟩
                obtain ⟨j, ej⟩ : ∃ j : Nat, ib' = (j : Int) := ⟨ib'.toNat, by omega⟩
                have nn : (ia * 8 + ib').toNat = 8 * i + j := by omega
                rw [nn] at sT
                have kw : Kf (fun a x => a = u + 1 + 6 ∧ x = 8 * i + j) nL g5 (wI g5 (u + 1 + 6) (8 * i + j) (iI v)) := Kf.refl.wI ⟨rfl, rfl⟩
                refine ⟨wI g5 (u + 1 + 6) (8 * i + j) (iI v), ?_, S5.kf kw (by omega) (by intro j; omega) (by intro j; omega), ?_, K4.trans ((tkKR k5).trans (KR.of kw (fun a j q => by unfold QD; omega)))⟩
                · rw [U_X9_readThought hu]
                  (try simp only [iI_lit, iI_neg]) <;> simp (maxSteps := 1000000) (disch := decide) only [iI_lit, iI_neg, iI_add, mm_bI_some, mm_bV_some, mm_bL_some, ↓reduceIte, i10, i00, i11, eq_self, not_true_eq_false, not_false_eq_true, ite_true, ite_false, if_true, if_false, and_true, true_and, and_false, false_and, and_self, or_self, or_false, false_or, or_true, true_or, iI_eq, iI_lt, iI_le, Int.reduceEq, Int.reduceLT, Int.reduceLE, ↓bV_eq a1, ↓bI_eq n1, na, ↓bI_eq d1, ↓bI_eq n3, ↓bI_eq pn, nb1, nb2, ↓bI_eq n4, ↓bI_eq n5, ↓bI_eq r1, ↓bV_eq sT]
                · obtain ⟨t1, t2, t3, t4, t5, t6, t7⟩ := T5
                  have z : ∀ a x, a ≠ u + 7 → fd (wI g5 (u + 1 + 6) (8 * i + j) (iI v)) a x = fd g5 a x := fun a x h => fd_wI_row (by omega)
                  refine ⟨?_, fun i' x hx => ?_, fun i' j' h1 h2 h3 => ?_, fun y hv => ?_, ?_, t6.kf kw (by omega) (by intro j; omega), fun w hw => ?_⟩
                  · rw [z _ _ (by omega), z _ _ (by omega), z _ _ (by omega), z _ _ (by omega)]
                    exact t1
                  · have := t2 i' x hx
                    refine ⟨?_, fun k hk => ?_⟩
                    · rw [z _ _ (by omega), z _ _ (by omega), z _ _ (by omega), z _ _ (by omega), z _ _ (by omega)]
                      exact this.1
                    · rw [z _ _ (by omega)]
                      exact this.2 k hk
                  · have h1' : i' < st.1.length := h1
                    have h2' : j' < st.1.length := h2
                    show fd (wI g5 (u + 1 + 6) (8 * i + j) (iI v)) (u + 7) (8 * i' + j') = up st.2.1 (8 * ia + ib') v (8 * (i' : Int) + j')
                    by_cases cc : i' = i ∧ j' = j
                    · rw [cc.1, cc.2, ei, ej, up_same]
                      exact fd_wI_same (by omega) (by omega)
                    · rw [up_ne (by omega), show u + 7 = u + 1 + 6 by omega, fd_wI_col (by omega), show u + 1 + 6 = u + 7 by omega]
                      exact t3 i' j' h1' h2' h3
                  · rw [z _ _ (by omega)]
                    exact t4 y hv
                  · rw [z _ _ (by omega)]
                    exact t5
                  · rw [z _ _ (by omega), z _ _ (by omega)]
                    exact t7 w hw
              · rw [pN_f c7]
                have n5 := nh4.2 c7
                refine ⟨_, ?_, bdH_5 (by omega) (by omega), bdH_6 (by omega) (by omega), K4.trans bdH_KR⟩
                rw [U_X9_readThought hu]
                (try simp only [iI_lit, iI_neg]) <;> simp (maxSteps := 1000000) (disch := decide) only [iI_lit, iI_neg, iI_add, mm_bI_some, mm_bV_some, mm_bL_some, ↓reduceIte, i10, i00, i11, eq_self, not_true_eq_false, not_false_eq_true, ite_true, ite_false, if_true, if_false, and_true, true_and, and_false, false_and, and_self, or_self, or_false, false_or, or_true, true_or, iI_eq, iI_lt, iI_le, Int.reduceEq, Int.reduceLT, Int.reduceLE, ↓bV_eq a1, ↓bI_eq n1, na, ↓bI_eq d1, ↓bI_eq n3, ↓bI_eq pn, nb1, nb2, ↓bI_eq n4, ↓bI_eq n5]
        · rw [pM_f c4]
          have n3 := nh.2 c4
          refine ⟨_, ?_, bdH_5 (by omega) (by omega), bdH_6 (by omega) (by omega), K3.trans bdH_KR⟩
          rw [U_X9_readThought hu]
          (try simp only [iI_lit, iI_neg]) <;> simp (maxSteps := 1000000) (disch := decide) only [iI_lit, iI_neg, iI_add, mm_bI_some, mm_bV_some, mm_bL_some, ↓reduceIte, i10, i00, i11, eq_self, not_true_eq_false, not_false_eq_true, ite_true, ite_false, if_true, if_false, and_true, true_and, and_false, false_and, and_self, or_self, or_false, false_or, or_true, true_or, iI_eq, iI_lt, iI_le, Int.reduceEq, Int.reduceLT, Int.reduceLE, ↓bV_eq a1, ↓bI_eq n1, na, ↓bI_eq d1, ↓bI_eq n3]
      · rw [pW_f c3]
        have d1 := tw.2 c3
        refine ⟨_, ?_, bdH_5 (by omega) (by omega), bdH_6 (by omega) (by omega), K2.trans bdH_KR⟩
        rw [U_X9_readThought hu]
        (try simp only [iI_lit, iI_neg]) <;> simp (maxSteps := 1000000) (disch := decide) only [iI_lit, iI_neg, iI_add, mm_bI_some, mm_bV_some, mm_bL_some, ↓reduceIte, i10, i00, i11, eq_self, not_true_eq_false, not_false_eq_true, ite_true, ite_false, if_true, if_false, and_true, true_and, and_false, false_and, and_self, or_self, or_false, false_or, or_true, true_or, iI_eq, iI_lt, iI_le, Int.reduceEq, Int.reduceLT, Int.reduceLE, ↓bV_eq a1, ↓bI_eq n1, na, ↓bI_eq d1]
  · rw [pM_f c1]
    have n1 := tp.1 c1
    refine ⟨_, ?_, bdH_5 (by omega) (by omega), bdH_6 (by omega) (by omega), (tkKR k1).trans bdH_KR⟩
    rw [U_X9_readThought hu]
    (try simp only [iI_lit, iI_neg]) <;> simp (maxSteps := 1000000) (disch := decide) only [iI_lit, iI_neg, iI_add, mm_bI_some, mm_bV_some, mm_bL_some, ↓reduceIte, i10, i00, i11, eq_self, not_true_eq_false, not_false_eq_true, ite_true, ite_false, if_true, if_false, and_true, true_and, and_false, false_and, and_self, or_self, or_false, false_or, or_true, true_or, iI_eq, iI_lt, iI_le, Int.reduceEq, Int.reduceLT, Int.reduceLE, ↓bV_eq a1, ↓bI_eq n1]
theorem KR.wI {Q : Nat → Nat → Prop} {g1 : mm_H} {a k : Nat} {v : Int32} (x : KR Q g g1) (ha : Q a k) : KR Q g (wI g1 a k v) := ⟨fun c j hc => by
  rw [fd_wI, if_neg (fun q => hc (by rw [q.1, q.2]; exact ha))]
  exact x.1 c j hc, fun c j => x.2.1 c j, fun c j hc => x.2.2 c j hc⟩
set_option maxHeartbeats 8000000 in
/-- a rule's reading, in the class -/
theorem C_ruleT {w : Nat} (hu : mm_isT u) (w2 : w ≤ 2) (S : CS g b E p gl) (cw : wno b E p gl ≠ -2) (T : CTs g u hm st) (hl : (rAll st.2.2.2).length ≤ p) {v : Int} (hv : v = if w = 2 then 1 else 0) : CSo b E u hm g (mm_M mm_T0 (d + 31) 46 [.ref 11, .ref (u + 10), .int (iI (w : Nat)), .int (iI v)] g) (stRule b E w st (tS b E p) (tL b E (tS b E p))) := by
  have ut := isT_or hu
  have hc : mm_isC (u + 10) := isT_C hu
  have hE := S.2.1
  have ge := tS_ge (b := b) (E := E) (p := p)
  have le := tS_le (b := b) (E := E) S.2.2.1
  have tl := tL_in (wno_w cw).1
  have t7 := T.2.2.2.2.2.2 w (by omega)
  have nw : ((w : Nat) : Int).toNat = w := by omega
  have it := C_isTold (d := d + 29) (c := u + 10) (h := g) (w := (w : Nat)) hc (by omega) (by omega)
  rw [nw, show u + 10 + 2 = u + 12 by omega] at it
  unfold stRule
  by_cases c0 : (rOf w st.2.2.2 0).isSome = true
  · rw [if_pos c0]
    obtain ⟨y, hy⟩ := Option.isSome_iff_exists.mp c0
    have ty := (t7.2 y hy).1
    rw [b2_t (by rw [ty]; omega)] at it
    have f := C_fail (d := d + 28) (k := 5) S
    refine ⟨_, ?_, bdH_5 (by omega) (by omega), bdH_6 (by omega) (by omega), bdH_KR⟩
    rw [U_X2_readRule hc]
    simp (disch := omega) only [iI_lit, jI_lit, iI_neg, jI_neg, iI_add, iI_sub, iI_mul, jI_add, jI_sub, jI_mul, rdI, rdL, iI_lt, iI_le, iI_eq, iI_nat, iI_b2_0, iI_b2_1, mm_bI_some, mm_bV_some, mm_bL_some, mm_bA_some, fd_wL, fd_wR, fl_wI, fl_wR, re_wI, re_wL, re_wC, ite_true, ite_false, not_true_eq_false, not_false_eq_true, lq_ge, lq_le, lq_gt, lq_lt, lq_eq, jI_lt, jI_le, jI_eq, if_pos, if_neg, it, f, zr_0]
  · rw [if_neg c0]
    have hn : rOf w st.2.2.2 0 = none := by
      cases h : rOf w st.2.2.2 0 with
      | none => rfl
      | some y => rw [h] at c0; exact absurd rfl c0
    rw [b2_f (by rw [t7.1 hn]; omega)] at it
    obtain ⟨g1, a1, S1, k1⟩ := C_advW (d := d + 25) S cw
    have T1 := T.tk hu k1
    generalize hq : tL b E (tS b E p) = q at *
    generalize hg2 : wI (wR g1 11 1 (u + 10)) 11 2 (iI (w : Nat)) = g2
    have z2 : ∀ a j, ¬ (a = 11 ∧ j = 2) → fd g2 a j = fd g1 a j := fun a j h => by rw [← hg2, fd_wI, if_neg h, fd_wR]
    have r2 : g2.2.2 11 1 = u + 10 := by
      rw [← hg2, re_wI, re_wR, if_pos ⟨rfl, rfl⟩]
    have f2 : fd g2 11 2 = (w : Nat) := by rw [← hg2]; exact fd_wI_same (by omega) (by omega)
    have K2 : KR (QD u) g1 g2 := by
      refine ⟨fun a j h => z2 a j (fun q => h (by unfold QD; omega)), fun a j => by rw [← hg2, fl_wI, fl_wR], fun a j h => by rw [← hg2, re_wI, re_wR, if_neg h]⟩
    have sh := isC_0 hc
    have sh' : mm_sh (u + 10) = (0, 1) := sh
    have L2 : fd g2 (u + 10) 5 = ((rAll st.2.2.2).length : Nat) := by
      rw [z2 _ _ (by omega), T1.2.2.2.2.2.1.1]
      omega
    generalize hg3 : wI (wI g2 (u + 12) w (iI ((rAll st.2.2.2).length : Nat))) (u + 13) w (iI ((rAll st.2.2.2).length : Nat)) = g3
    have k3 : Kf (fun a j => (a = u + 12 ∨ a = u + 13) ∧ j = w) nL g2 g3 := by
      rw [← hg3]
      exact (Kf.refl.wI (by omega)).wI (by omega)
    have L2' : fd (wI g2 (u + 12) w (iI ((rAll st.2.2.2).length : Nat))) (u + 10) 5 = ((rAll st.2.2.2).length : Nat) := (fd_wI_row (by omega)).trans L2
    have op : mm_M mm_T0 (d + 30) 35 [.ref (u + 10), .int (iI (w : Nat))] g2 = some (none, g3) := by
      rw [U_X1_openRule hc, show u + 10 + 2 = u + 12 by omega, show u + 10 + 3 = u + 13 by omega]
      simp (disch := omega) only [iI_lit, jI_lit, iI_neg, jI_neg, iI_add, iI_sub, iI_mul, jI_add, jI_sub, jI_mul, rdI, rdL, iI_lt, iI_le, iI_eq, iI_nat, iI_b2_0, iI_b2_1, mm_bI_some, mm_bV_some, mm_bL_some, mm_bA_some, fd_wL, fd_wR, fl_wI, fl_wR, re_wI, re_wL, re_wC, ite_true, ite_false, not_true_eq_false, not_false_eq_true, lq_ge, lq_le, lq_gt, lq_lt, lq_eq, jI_lt, jI_le, jI_eq, if_pos, if_neg, nw, L2, L2', hg3]
    have Q3 : CQ g3 (u + 10) 0 (rAll st.2.2.2) := by
      have o := T1.2.2.2.2.2.1
      refine ⟨?_, fun i v h => ?_⟩
      · rw [k3.1 _ _ (by omega), z2 _ _ (by omega)]; exact o.1
      · rw [k3.1 _ _ (by omega), z2 _ _ (by omega)]; exact o.2 i v h
    have S2 : CS g2 b E q true := by
      obtain ⟨s1, s2, s3, s4, s5, s6, s7, s8, s9⟩ := S1
      refine ⟨⟨?_, fun j hj => ?_⟩, s2, s3, ?_, ?_, ?_, fun h => ?_, (z2 _ _ (by omega)).trans s8, (z2 _ _ (by omega)).trans s9⟩
      · rw [z2 _ _ (by omega)]; exact s1.1
      · rw [z2 _ _ (by omega)]; exact s1.2 j hj
      · rw [z2 _ _ (by omega)]; exact s4
      · rw [z2 _ _ (by omega)]; exact s5
      · rw [z2 _ _ (by omega)]; exact s6
      · rw [z2 _ _ (by omega)]; exact s7 h
    have X3 : CX g3 b E q true (u + 10) 0 (w : Nat) (rAll st.2.2.2) := ⟨S2.kf k3 (by omega) (by intro j; omega) (by intro j; omega), ⟨(k3.1 _ _ (by omega)).trans f2, by rw [k3.2.2]; exact r2, hc⟩, Q3⟩
    have r3 : g3.2.2 11 1 = u + 10 := X3.2.1.2.1
    have K3 : KR (QD u) g g3 := (tkKR k1).trans (K2.trans (KR.of k3 (fun a j q => by unfold QD; omega)))
    have cl := Cl_all (b := b) (E := E) (cc := u + 10) (L := 0) (w := (w : Nat)) hE (by omega) (by omega) (4 * E + 8)
    -- the reading itself
    have rd' : CRes b E (u + 10) 0 (w : Nat) g3 (mm_M mm_T0 (d + 30) (if w = 2 then 47 else 52) [.ref 11, .int (iI 0)] g3) (rAll st.2.2.2) (rd b E (w : Nat) (4 * E + 8) (if (w : Int) = 2 then 3 else 1) 0 q true 0 []) := by
      by_cases c2 : w = 2
      · rw [if_pos c2, if_pos (by omega)]
        have := cl.2.2.2.1 0 q true (d + 30) g3 (rAll st.2.2.2) 0 [] (by omega) (by omega) (by omega) (by omega) X3 (by omega)
        rw [show ((0 : Nat) : Int) = 0 from rfl] at this
        exact this
      · rw [if_neg c2, if_neg (by omega)]
        have := cl.2.1 0 q true (d + 30) g3 (rAll st.2.2.2) 0 [] (by omega) (by omega) (by omega) (by omega) X3 (by omega)
        rw [show ((0 : Nat) : Int) = 0 from rfl] at this
        exact this
    have st1 : mm_M mm_T0 (d + 31) 46 [.ref 11, .ref (u + 10), .int (iI (w : Nat)), .int (iI v)] g = mm_bI (mm_M mm_T0 (d + 30) (if w = 2 then 47 else 52) [.ref 11, .int (iI 0)] g3) (fun v6 h5 => if mm_sh (h5.2.2 11 1) = (0, 1) then (mm_bV (mm_M mm_T0 (d + 30) 36 [.ref (h5.2.2 11 1), .int (h5.1 11 2)] h5) (fun h7 => mm_zr v6 h7)) else none) := by
      have hg2' : (wI (wR g1 11 1 (u + 10)) 11 2 (iI (w : Nat))) = g2 := hg2
      have rw2 : (wR g1 11 1 (u + 10)).2.2 11 1 = u + 10 := by rw [re_wR, if_pos ⟨rfl, rfl⟩]
      rw [U_X2_readRule hc]
      by_cases c2 : w = 2
      · rw [if_pos c2]
        rw [if_pos c2] at hv
        rw [hv]
        simp (disch := omega) only [iI_lit, jI_lit, iI_neg, jI_neg, iI_add, iI_sub, iI_mul, jI_add, jI_sub, jI_mul, rdI, rdL, iI_lt, iI_le, iI_eq, iI_nat, iI_b2_0, iI_b2_1, mm_bI_some, mm_bV_some, mm_bL_some, mm_bA_some, fd_wL, fd_wR, fl_wI, fl_wR, re_wI, re_wL, re_wC, ite_true, ite_false, not_true_eq_false, not_false_eq_true, lq_ge, lq_le, lq_gt, lq_lt, lq_eq, jI_lt, jI_le, jI_eq, if_pos, if_neg, it, a1, hg2', rw2, r2, sh', f2, op]
      · rw [if_neg c2]
        rw [if_neg c2] at hv
        rw [hv]
        simp (disch := omega) only [iI_lit, jI_lit, iI_neg, jI_neg, iI_add, iI_sub, iI_mul, jI_add, jI_sub, jI_mul, rdI, rdL, iI_lt, iI_le, iI_eq, iI_nat, iI_b2_0, iI_b2_1, mm_bI_some, mm_bV_some, mm_bL_some, mm_bA_some, fd_wL, fd_wR, fl_wI, fl_wR, re_wI, re_wL, re_wC, ite_true, ite_false, not_true_eq_false, not_false_eq_true, lq_ge, lq_le, lq_gt, lq_lt, lq_eq, jI_lt, jI_le, jI_eq, if_pos, if_neg, it, a1, hg2', rw2, r2, sh', f2, op]
    rw [st1]
    have Oka := Ok_all (b := b) (w := (w : Nat)) hE (4 * E + 8)
    have ok : Pg E q 1 0 (rd b E (w : Nat) (4 * E + 8) (if (w : Int) = 2 then 3 else 1) 0 q true 0 []) := by
      by_cases c2 : w = 2
      · rw [if_pos (by omega)]
        exact Oka.2.2.2.1 0 q true 0 [] (by omega) (by omega)
      · rw [if_neg (by omega)]
        exact Oka.2.1 0 q true 0 [] (by omega) (by omega)
    revert rd' ok
    cases rd b E (w : Nat) (4 * E + 8) (if (w : Int) = 2 then 3 else 1) 0 q true 0 [] with
    | inl f =>
      intro rd' ok
      obtain ⟨g4, b1, b2', b3, b4, b5⟩ := rd'
      have ho := isC_or hc
      have r4 : g4.2.2 11 1 = u + 10 := by rw [b5.2.2]; exact r3
      have f4 : fd g4 11 2 = (w : Nat) := (b5.1 _ _ (by unfold QF; omega)).trans X3.2.1.1
      have := fd_lo g4 (u + 10) 5; have := fd_hi g4 (u + 10) 5
      have cr : mm_M mm_T0 (d + 30) 36 [.ref (u + 10), .int (iI (w : Nat))] g4 = some (none, wI g4 (u + 13) w (iI (fd g4 (u + 10) 5))) := by
        rw [U_X1_closeRule hc, show u + 10 + 3 = u + 13 by omega]
        simp (disch := omega) only [iI_lit, jI_lit, iI_neg, jI_neg, iI_add, iI_sub, iI_mul, jI_add, jI_sub, jI_mul, rdI, rdL, iI_lt, iI_le, iI_eq, iI_nat, iI_b2_0, iI_b2_1, mm_bI_some, mm_bV_some, mm_bL_some, mm_bA_some, fd_wL, fd_wR, fl_wI, fl_wR, re_wI, re_wL, re_wC, ite_true, ite_false, not_true_eq_false, not_false_eq_true, lq_ge, lq_le, lq_gt, lq_lt, lq_eq, jI_lt, jI_le, jI_eq, if_pos, if_neg, nw]
      refine ⟨wI g4 (u + 13) w (iI (fd g4 (u + 10) 5)), ?_, by rw [fd_wI_row (by omega)]; exact b2', by rw [fd_wI_row (by omega)]; exact b3, K3.trans ((KR.of b5 (fun a j q => by unfold QF at q; unfold QD; omega)).wI (by unfold QD; omega))⟩
      rw [b1, mm_bI_some]
      simp (disch := omega) only [iI_lit, jI_lit, iI_neg, jI_neg, iI_add, iI_sub, iI_mul, jI_add, jI_sub, jI_mul, rdI, rdL, iI_lt, iI_le, iI_eq, iI_nat, iI_b2_0, iI_b2_1, mm_bI_some, mm_bV_some, mm_bL_some, mm_bA_some, fd_wL, fd_wR, fl_wI, fl_wR, re_wI, re_wL, re_wC, ite_true, ite_false, not_true_eq_false, not_false_eq_true, lq_ge, lq_le, lq_gt, lq_lt, lq_eq, jI_lt, jI_le, jI_eq, if_pos, if_neg, r4, sh', f4, cr, zr_0]
    | inr y =>
      intro rd' ok
      obtain ⟨g4, b1, X4, b5⟩ := rd'
      have o1 : q + 1 ≤ y.1 := ok.1
      have o2 : y.1 ≤ E := ok.2.1
      have o3 : y.2.2.length + q ≤ 0 + y.1 := ok.2.2
      have ho := isC_or hc
      have r4 := X4.2.1.2.1
      have f4 := X4.2.1.1
      have l4 := X4.2.2.1
      rw [Nat.zero_add, List.length_append] at l4
      have cr : mm_M mm_T0 (d + 30) 36 [.ref (u + 10), .int (iI (w : Nat))] g4 = some (none, wI g4 (u + 13) w (iI (((rAll st.2.2.2).length + y.2.2.length : Nat) : Int))) := by
        rw [U_X1_closeRule hc, show u + 10 + 3 = u + 13 by omega]
        simp (disch := omega) only [iI_lit, jI_lit, iI_neg, jI_neg, iI_add, iI_sub, iI_mul, jI_add, jI_sub, jI_mul, rdI, rdL, iI_lt, iI_le, iI_eq, iI_nat, iI_b2_0, iI_b2_1, mm_bI_some, mm_bV_some, mm_bL_some, mm_bA_some, fd_wL, fd_wR, fl_wI, fl_wR, re_wI, re_wL, re_wC, ite_true, ite_false, not_true_eq_false, not_false_eq_true, lq_ge, lq_le, lq_gt, lq_lt, lq_eq, jI_lt, jI_le, jI_eq, if_pos, if_neg, nw, l4]
      have k5 : Kf (fun a j => a = u + 13 ∧ j = w) nL g4 (wI g4 (u + 13) w (iI (((rAll st.2.2.2).length + y.2.2.length : Nat) : Int))) := Kf.refl.wI ⟨rfl, rfl⟩
      generalize hg5 : wI g4 (u + 13) w (iI (((rAll st.2.2.2).length + y.2.2.length : Nat) : Int)) = g5 at *
      have f13 : fd g5 (u + 13) w = (((rAll st.2.2.2).length + y.2.2.length : Nat) : Int) := by rw [← hg5]; exact fd_wI_same (by omega) (by omega)
      refine ⟨g5, ?_, X4.1.kf k5 (by omega) (by intro j; omega) (by intro j; omega), ?_, K3.trans ((KR.of b5 (fun a j q => by unfold QF at q; unfold QD; omega)).trans (KR.of k5 (fun a j q => by unfold QD; omega)))⟩
      · rw [b1, mm_bI_some]
        simp (disch := omega) only [iI_lit, jI_lit, iI_neg, jI_neg, iI_add, iI_sub, iI_mul, jI_add, jI_sub, jI_mul, rdI, rdL, iI_lt, iI_le, iI_eq, iI_nat, iI_b2_0, iI_b2_1, mm_bI_some, mm_bV_some, mm_bL_some, mm_bA_some, fd_wL, fd_wR, fl_wI, fl_wR, re_wI, re_wL, re_wC, ite_true, ite_false, not_true_eq_false, not_false_eq_true, lq_ge, lq_le, lq_gt, lq_lt, lq_eq, jI_lt, jI_le, jI_eq, if_pos, if_neg, r4, sh', f4, cr, zr_1]
      · have z5 : ∀ a j, a ≠ 3 → a ≠ 11 → ¬ (a = u + 10 ∧ j = 5) → a ≠ u + 11 → ¬ ((a = u + 12 ∨ a = u + 13) ∧ j = w) → fd g5 a j = fd g1 a j := fun a j q1 q2 q3 q4 q5 => by
          rw [k5.1 _ _ (by omega), b5.1 _ _ (by unfold QF; omega), k3.1 _ _ q5, z2 _ _ (by omega)]
        have f12 : fd g5 (u + 12) w = ((rAll st.2.2.2).length : Nat) := by
          rw [k5.1 _ _ (by omega), b5.1 _ _ (by unfold QF; omega), ← hg3, fd_wI_row (by omega), fd_wI_same (by omega) (by omega)]
        obtain ⟨t1, t2, t3, t4, t5, t6, t7'⟩ := T1
        refine ⟨?_, fun i x hx => ?_, fun i j h1 h2 h3 => ?_, fun y hv => ?_, ?_, ?_, fun x hx => ?_⟩
        · rw [z5 _ _ (by omega) (by omega) (by omega) (by omega) (by omega), z5 _ _ (by omega) (by omega) (by omega) (by omega) (by omega), z5 _ _ (by omega) (by omega) (by omega) (by omega) (by omega), z5 _ _ (by omega) (by omega) (by omega) (by omega) (by omega)]
          exact t1
        · have := t2 i x hx
          refine ⟨?_, fun k hk => ?_⟩
          · rw [z5 _ _ (by omega) (by omega) (by omega) (by omega) (by omega), z5 _ _ (by omega) (by omega) (by omega) (by omega) (by omega), z5 _ _ (by omega) (by omega) (by omega) (by omega) (by omega), z5 _ _ (by omega) (by omega) (by omega) (by omega) (by omega), z5 _ _ (by omega) (by omega) (by omega) (by omega) (by omega)]
            exact this.1
          · rw [z5 _ _ (by omega) (by omega) (by omega) (by omega) (by omega)]
            exact this.2 k hk
        · rw [z5 _ _ (by omega) (by omega) (by omega) (by omega) (by omega)]
          exact t3 i j h1 h2 h3
        · rw [z5 _ _ (by omega) (by omega) (by omega) (by omega) (by omega)]
          exact t4 y hv
        · rw [z5 _ _ (by omega) (by omega) (by omega) (by omega) (by omega)]
          exact t5
        · show CQ g5 (u + 10) 0 (rAll (st.2.2.2 ++ [(((w : Nat) : Int), y.2.2)]))
          rw [rAll_app]
          exact X4.2.2.kf k5 (by omega) (by intro j; omega)
        · show (rOf x (st.2.2.2 ++ [(((w : Nat) : Int), y.2.2)]) 0 = none → _) ∧ ∀ z, rOf x (st.2.2.2 ++ [(((w : Nat) : Int), y.2.2)]) 0 = some z → _
          have tx := t7' x hx
          by_cases cx : x = w
          · subst cx
            rw [rOf_app, hn]
            refine ⟨fun h => ?_, fun z h => ?_⟩
            · have h' : (if ((x : Nat) : Int) = (x : Nat) then some (0 + (rAll st.2.2.2).length, y.2.2) else none) = none := h
              rw [if_pos rfl] at h'
              exact absurd h' (by simp)
            · have h' : (if ((x : Nat) : Int) = (x : Nat) then some (0 + (rAll st.2.2.2).length, y.2.2) else none) = some z := h
              rw [if_pos rfl] at h'
              have e := Option.some.inj h'
              rw [← e, f12, f13]
              refine ⟨?_, ?_⟩
              · show (((rAll st.2.2.2).length : Nat) : Int) = ((0 + (rAll st.2.2.2).length : Nat) : Int)
                omega
              · show ((((rAll st.2.2.2).length + y.2.2.length : Nat)) : Int) = ((0 + (rAll st.2.2.2).length + y.2.2.length : Nat) : Int)
                omega
          · have e0 : rOf (x : Nat) (st.2.2.2 ++ [(((w : Nat) : Int), y.2.2)]) 0 = rOf (x : Nat) st.2.2.2 0 := by
              rw [rOf_app]
              cases h : rOf (x : Nat) st.2.2.2 0 with
              | some y => rfl
              | none =>
                show (if ((w : Nat) : Int) = (x : Nat) then some (0 + (rAll st.2.2.2).length, y.2.2) else none) = none
                rw [if_neg (by omega)]
            rw [e0, z5 _ _ (by omega) (by omega) (by omega) (by omega) (by omega), z5 _ _ (by omega) (by omega) (by omega) (by omega) (by omega)]
            exact tx
/-- a statement -/
theorem CSo_zr {X : mm_X} {r : RT2} {hm : Int} (h : CSo b E u hm g X r) : mm_bI X (fun v h => mm_zr v h) = X := by
  cases r with
  | inl f =>
    obtain ⟨g', a1, _⟩ := h
    rw [a1]
    rfl
  | inr x =>
    obtain ⟨g', a1, _⟩ := h
    rw [a1]
    rfl
set_option maxHeartbeats 8000000 in
theorem C_stm (hu : mm_isT u) (h2 : 2 ≤ hm ∧ hm ≤ 9) (S : CS g b E p gl) (T : CTs g u hm st) (O : TstOK hm p st) : CSo b E u hm g (mm_M mm_T0 (d + 32) 131 [.ref 12, .ref u] g) (stF b E hm st p gl) := by
  have hE := S.2.1
  have le := tS_le (b := b) (E := E) S.2.2.1
  have wb := wno_b (b := b) (E := E) (p := p) (gl := gl)
  have kW := C_isAnyWord (d := d + 30) S
  have hl := O.2.2.2.2.2.2
  unfold stF
  by_cases cw : wno b E p gl = -2
  · rw [if_neg (by omega), if_neg (by omega), if_neg (by omega), if_neg (by omega), if_neg (by omega), if_neg (by omega)]
    rw [b2_f (fun z => z cw)] at kW
    have un := C_unexp (d := d + 29) S
    refine ⟨_, ?_, bdH_5 (by omega) (by omega), bdH_6 (by omega) (by omega), bdH_KR⟩
    rw [U_X9_readStatement hu]
    (try simp only [iI_lit, iI_neg]) <;> simp (maxSteps := 1000000) (disch := decide) only [iI_lit, iI_neg, iI_add, mm_bI_some, mm_bV_some, mm_bL_some, ↓reduceIte, i10, i00, i11, eq_self, not_true_eq_false, not_false_eq_true, ite_true, ite_false, if_true, if_false, and_true, true_and, and_false, false_and, and_self, or_self, or_false, false_or, or_true, true_or, iI_eq, iI_lt, iI_le, Int.reduceEq, Int.reduceLT, Int.reduceLE, ↓bI_eq kW, ↓bI_eq un, zr_0]
  · rw [b2_t cw] at kW
    have ww := wno_w cw
    have ne : tB b E p ≠ -1 := by have := isLt_iff.mp ww.1; omega
    have e4 : fd g 3 4 = wno b E p gl := (S.2.2.2.2.2.2.1 ne).trans (wno_v ww).symm
    have r4 := rdE e4
    have nq : ∀ k : Int, 0 ≤ k → k < 100 → wno b E p gl ≠ k → (iI (wno b E p gl) = iI k) = False := fun k a1 a2 a3 => iI_ne (by omega) (by omega) (by omega) (by omega) a3
    have sq : ∀ k : Int, wno b E p gl = k → (iI (wno b E p gl) = iI k) = True := fun k a => iI_sm a
    by_cases c1 : wno b E p gl = 1
    · rw [if_pos c1]
      have pr := C_soul (d := d + 24) hu h2 S c1 T O
      have st1 : mm_M mm_T0 (d + 32) 131 [.ref 12, .ref u] g = mm_bI (mm_M mm_T0 (d + 31) 132 [.ref 12, .ref u] g) (fun v h => mm_zr v h) := by
        rw [U_X9_readStatement hu]
        (try simp only [iI_lit, iI_neg]) <;> simp (maxSteps := 1000000) (disch := decide) only [iI_lit, iI_neg, iI_add, mm_bI_some, mm_bV_some, mm_bL_some, ↓reduceIte, i10, i00, i11, eq_self, not_true_eq_false, not_false_eq_true, ite_true, ite_false, if_true, if_false, and_true, true_and, and_false, false_and, and_self, or_self, or_false, false_or, or_true, true_or, iI_eq, iI_lt, iI_le, Int.reduceEq, Int.reduceLT, Int.reduceLE, ↓bI_eq kW, r4, sq 1 c1, nq 2 (by omega) (by omega) (by omega), nq 3 (by omega) (by omega) (by omega), nq 4 (by omega) (by omega) (by omega), nq 5 (by omega) (by omega) (by omega), nq 6 (by omega) (by omega) (by omega), nq 7 (by omega) (by omega) (by omega), nq 8 (by omega) (by omega) (by omega), nq 9 (by omega) (by omega) (by omega), nq 10 (by omega) (by omega) (by omega)]
      rw [st1, CSo_zr pr]
      exact pr
    · rw [if_neg c1]
      by_cases c5 : wno b E p gl = 5
      · rw [if_pos c5]
        have pr := C_thinksT (d := d + 24) hu S cw T O
        have st1 : mm_M mm_T0 (d + 32) 131 [.ref 12, .ref u] g = mm_bI (mm_M mm_T0 (d + 31) 133 [.ref 12, .ref u] g) (fun v h => mm_zr v h) := by
          rw [U_X9_readStatement hu]
          (try simp only [iI_lit, iI_neg]) <;> simp (maxSteps := 1000000) (disch := decide) only [iI_lit, iI_neg, iI_add, mm_bI_some, mm_bV_some, mm_bL_some, ↓reduceIte, i10, i00, i11, eq_self, not_true_eq_false, not_false_eq_true, ite_true, ite_false, if_true, if_false, and_true, true_and, and_false, false_and, and_self, or_self, or_false, false_or, or_true, true_or, iI_eq, iI_lt, iI_le, Int.reduceEq, Int.reduceLT, Int.reduceLE, ↓bI_eq kW, r4, sq 5 c5, nq 1 (by omega) (by omega) (by omega), nq 2 (by omega) (by omega) (by omega), nq 3 (by omega) (by omega) (by omega), nq 4 (by omega) (by omega) (by omega), nq 6 (by omega) (by omega) (by omega), nq 7 (by omega) (by omega) (by omega), nq 8 (by omega) (by omega) (by omega), nq 9 (by omega) (by omega) (by omega), nq 10 (by omega) (by omega) (by omega)]
        rw [st1, CSo_zr pr]
        exact pr
      · rw [if_neg c5]
        by_cases c7 : wno b E p gl = 7
        · rw [if_pos c7]
          have pr := C_ruleT (d := d) (w := 0) (v := 0) hu (by omega) S cw T hl rfl
          have st1 : mm_M mm_T0 (d + 32) 131 [.ref 12, .ref u] g = mm_bI (mm_M mm_T0 (d + 31) 46 [.ref 11, .ref (u + 10), .int (iI ((0 : Nat) : Int)), .int (iI 0)] g) (fun v h => mm_zr v h) := by
            rw [U_X9_readStatement hu, show ((0 : Nat) : Int) = 0 from rfl]
            (try simp only [iI_lit, iI_neg]) <;> simp (maxSteps := 1000000) (disch := decide) only [iI_lit, iI_neg, iI_add, mm_bI_some, mm_bV_some, mm_bL_some, ↓reduceIte, i10, i00, i11, eq_self, not_true_eq_false, not_false_eq_true, ite_true, ite_false, if_true, if_false, and_true, true_and, and_false, false_and, and_self, or_self, or_false, false_or, or_true, true_or, iI_eq, iI_lt, iI_le, Int.reduceEq, Int.reduceLT, Int.reduceLE, ↓bI_eq kW, r4, sq 7 c7, nq 1 (by omega) (by omega) (by omega), nq 2 (by omega) (by omega) (by omega), nq 3 (by omega) (by omega) (by omega), nq 4 (by omega) (by omega) (by omega), nq 5 (by omega) (by omega) (by omega), nq 6 (by omega) (by omega) (by omega), nq 8 (by omega) (by omega) (by omega), nq 9 (by omega) (by omega) (by omega), nq 10 (by omega) (by omega) (by omega)]
          rw [st1, CSo_zr pr]
          exact pr
        · rw [if_neg c7]
          by_cases c8 : wno b E p gl = 8
          · rw [if_pos c8]
            have pr := C_ruleT (d := d) (w := 1) (v := 0) hu (by omega) S cw T hl rfl
            have st1 : mm_M mm_T0 (d + 32) 131 [.ref 12, .ref u] g = mm_bI (mm_M mm_T0 (d + 31) 46 [.ref 11, .ref (u + 10), .int (iI ((1 : Nat) : Int)), .int (iI 0)] g) (fun v h => mm_zr v h) := by
              rw [U_X9_readStatement hu, show ((1 : Nat) : Int) = 1 from rfl]
              (try simp only [iI_lit, iI_neg]) <;> simp (maxSteps := 1000000) (disch := decide) only [iI_lit, iI_neg, iI_add, mm_bI_some, mm_bV_some, mm_bL_some, ↓reduceIte, i10, i00, i11, eq_self, not_true_eq_false, not_false_eq_true, ite_true, ite_false, if_true, if_false, and_true, true_and, and_false, false_and, and_self, or_self, or_false, false_or, or_true, true_or, iI_eq, iI_lt, iI_le, Int.reduceEq, Int.reduceLT, Int.reduceLE, ↓bI_eq kW, r4, sq 8 c8, nq 1 (by omega) (by omega) (by omega), nq 2 (by omega) (by omega) (by omega), nq 3 (by omega) (by omega) (by omega), nq 4 (by omega) (by omega) (by omega), nq 5 (by omega) (by omega) (by omega), nq 6 (by omega) (by omega) (by omega), nq 7 (by omega) (by omega) (by omega), nq 9 (by omega) (by omega) (by omega), nq 10 (by omega) (by omega) (by omega)]
            rw [st1, CSo_zr pr]
            exact pr
          · rw [if_neg c8]
            by_cases c9 : wno b E p gl = 9
            · rw [if_pos c9]
              have pr := C_ruleT (d := d) (w := 2) (v := 1) hu (by omega) S cw T hl rfl
              have st1 : mm_M mm_T0 (d + 32) 131 [.ref 12, .ref u] g = mm_bI (mm_M mm_T0 (d + 31) 46 [.ref 11, .ref (u + 10), .int (iI ((2 : Nat) : Int)), .int (iI 1)] g) (fun v h => mm_zr v h) := by
                rw [U_X9_readStatement hu, show ((2 : Nat) : Int) = 2 from rfl]
                (try simp only [iI_lit, iI_neg]) <;> simp (maxSteps := 1000000) (disch := decide) only [iI_lit, iI_neg, iI_add, mm_bI_some, mm_bV_some, mm_bL_some, ↓reduceIte, i10, i00, i11, eq_self, not_true_eq_false, not_false_eq_true, ite_true, ite_false, if_true, if_false, and_true, true_and, and_false, false_and, and_self, or_self, or_false, false_or, or_true, true_or, iI_eq, iI_lt, iI_le, Int.reduceEq, Int.reduceLT, Int.reduceLE, ↓bI_eq kW, r4, sq 9 c9, nq 1 (by omega) (by omega) (by omega), nq 2 (by omega) (by omega) (by omega), nq 3 (by omega) (by omega) (by omega), nq 4 (by omega) (by omega) (by omega), nq 5 (by omega) (by omega) (by omega), nq 6 (by omega) (by omega) (by omega), nq 7 (by omega) (by omega) (by omega), nq 8 (by omega) (by omega) (by omega), nq 10 (by omega) (by omega) (by omega)]
              rw [st1, CSo_zr pr]
              exact pr
            · rw [if_neg c9]
              by_cases c10 : wno b E p gl = 10
              · rw [if_pos c10]
                have pr := C_slipT (d := d + 24) hu S cw T
                have st1 : mm_M mm_T0 (d + 32) 131 [.ref 12, .ref u] g = mm_bI (mm_M mm_T0 (d + 31) 135 [.ref 12, .ref u] g) (fun v h => mm_zr v h) := by
                  rw [U_X9_readStatement hu]
                  (try simp only [iI_lit, iI_neg]) <;> simp (maxSteps := 1000000) (disch := decide) only [iI_lit, iI_neg, iI_add, mm_bI_some, mm_bV_some, mm_bL_some, ↓reduceIte, i10, i00, i11, eq_self, not_true_eq_false, not_false_eq_true, ite_true, ite_false, if_true, if_false, and_true, true_and, and_false, false_and, and_self, or_self, or_false, false_or, or_true, true_or, iI_eq, iI_lt, iI_le, Int.reduceEq, Int.reduceLT, Int.reduceLE, ↓bI_eq kW, r4, sq 10 c10, nq 1 (by omega) (by omega) (by omega), nq 2 (by omega) (by omega) (by omega), nq 3 (by omega) (by omega) (by omega), nq 4 (by omega) (by omega) (by omega), nq 5 (by omega) (by omega) (by omega), nq 6 (by omega) (by omega) (by omega), nq 7 (by omega) (by omega) (by omega), nq 8 (by omega) (by omega) (by omega), nq 9 (by omega) (by omega) (by omega)]
                rw [st1, CSo_zr pr]
                exact pr
              · rw [if_neg c10]
                have un := C_unexp (d := d + 29) S
                refine ⟨_, ?_, bdH_5 (by omega) (by omega), bdH_6 (by omega) (by omega), bdH_KR⟩
                rw [U_X9_readStatement hu]
                have cc : wno b E p gl = 2 ∨ wno b E p gl = 3 ∨ wno b E p gl = 4 ∨ wno b E p gl = 6 ∨ (wno b E p gl ≠ 2 ∧ wno b E p gl ≠ 3 ∧ wno b E p gl ≠ 4 ∧ wno b E p gl ≠ 6) := by omega
                rcases cc with y | y | y | y | y
                · (try simp only [iI_lit, iI_neg]) <;> simp (maxSteps := 1000000) (disch := decide) only [iI_lit, iI_neg, iI_add, mm_bI_some, mm_bV_some, mm_bL_some, ↓reduceIte, i10, i00, i11, eq_self, not_true_eq_false, not_false_eq_true, ite_true, ite_false, if_true, if_false, and_true, true_and, and_false, false_and, and_self, or_self, or_false, false_or, or_true, true_or, iI_eq, iI_lt, iI_le, Int.reduceEq, Int.reduceLT, Int.reduceLE, ↓bI_eq kW, r4, sq 2 y, nq 1 (by omega) (by omega) (by omega), nq 3 (by omega) (by omega) (by omega), nq 4 (by omega) (by omega) (by omega), nq 5 (by omega) (by omega) (by omega), nq 6 (by omega) (by omega) (by omega), nq 7 (by omega) (by omega) (by omega), nq 8 (by omega) (by omega) (by omega), nq 9 (by omega) (by omega) (by omega), nq 10 (by omega) (by omega) (by omega), ↓bI_eq un, zr_0]
                · (try simp only [iI_lit, iI_neg]) <;> simp (maxSteps := 1000000) (disch := decide) only [iI_lit, iI_neg, iI_add, mm_bI_some, mm_bV_some, mm_bL_some, ↓reduceIte, i10, i00, i11, eq_self, not_true_eq_false, not_false_eq_true, ite_true, ite_false, if_true, if_false, and_true, true_and, and_false, false_and, and_self, or_self, or_false, false_or, or_true, true_or, iI_eq, iI_lt, iI_le, Int.reduceEq, Int.reduceLT, Int.reduceLE, ↓bI_eq kW, r4, sq 3 y, nq 1 (by omega) (by omega) (by omega), nq 2 (by omega) (by omega) (by omega), nq 4 (by omega) (by omega) (by omega), nq 5 (by omega) (by omega) (by omega), nq 6 (by omega) (by omega) (by omega), nq 7 (by omega) (by omega) (by omega), nq 8 (by omega) (by omega) (by omega), nq 9 (by omega) (by omega) (by omega), nq 10 (by omega) (by omega) (by omega), ↓bI_eq un, zr_0]
                · (try simp only [iI_lit, iI_neg]) <;> simp (maxSteps := 1000000) (disch := decide) only [iI_lit, iI_neg, iI_add, mm_bI_some, mm_bV_some, mm_bL_some, ↓reduceIte, i10, i00, i11, eq_self, not_true_eq_false, not_false_eq_true, ite_true, ite_false, if_true, if_false, and_true, true_and, and_false, false_and, and_self, or_self, or_false, false_or, or_true, true_or, iI_eq, iI_lt, iI_le, Int.reduceEq, Int.reduceLT, Int.reduceLE, ↓bI_eq kW, r4, sq 4 y, nq 1 (by omega) (by omega) (by omega), nq 2 (by omega) (by omega) (by omega), nq 3 (by omega) (by omega) (by omega), nq 5 (by omega) (by omega) (by omega), nq 6 (by omega) (by omega) (by omega), nq 7 (by omega) (by omega) (by omega), nq 8 (by omega) (by omega) (by omega), nq 9 (by omega) (by omega) (by omega), nq 10 (by omega) (by omega) (by omega), ↓bI_eq un, zr_0]
                · (try simp only [iI_lit, iI_neg]) <;> simp (maxSteps := 1000000) (disch := decide) only [iI_lit, iI_neg, iI_add, mm_bI_some, mm_bV_some, mm_bL_some, ↓reduceIte, i10, i00, i11, eq_self, not_true_eq_false, not_false_eq_true, ite_true, ite_false, if_true, if_false, and_true, true_and, and_false, false_and, and_self, or_self, or_false, false_or, or_true, true_or, iI_eq, iI_lt, iI_le, Int.reduceEq, Int.reduceLT, Int.reduceLE, ↓bI_eq kW, r4, sq 6 y, nq 1 (by omega) (by omega) (by omega), nq 2 (by omega) (by omega) (by omega), nq 3 (by omega) (by omega) (by omega), nq 4 (by omega) (by omega) (by omega), nq 5 (by omega) (by omega) (by omega), nq 7 (by omega) (by omega) (by omega), nq 8 (by omega) (by omega) (by omega), nq 9 (by omega) (by omega) (by omega), nq 10 (by omega) (by omega) (by omega), ↓bI_eq un, zr_0]
                · (try simp only [iI_lit, iI_neg]) <;> simp (maxSteps := 1000000) (disch := decide) only [iI_lit, iI_neg, iI_add, mm_bI_some, mm_bV_some, mm_bL_some, ↓reduceIte, i10, i00, i11, eq_self, not_true_eq_false, not_false_eq_true, ite_true, ite_false, if_true, if_false, and_true, true_and, and_false, false_and, and_self, or_self, or_false, false_or, or_true, true_or, iI_eq, iI_lt, iI_le, Int.reduceEq, Int.reduceLT, Int.reduceLE, ↓bI_eq kW, r4, nq 1 (by omega) (by omega) (by omega), nq 2 (by omega) (by omega) (by omega), nq 3 (by omega) (by omega) (by omega), nq 4 (by omega) (by omega) (by omega), nq 5 (by omega) (by omega) (by omega), nq 6 (by omega) (by omega) (by omega), nq 7 (by omega) (by omega) (by omega), nq 8 (by omega) (by omega) (by omega), nq 9 (by omega) (by omega) (by omega), nq 10 (by omega) (by omega) (by omega), ↓bI_eq un, zr_0]
end CSM
