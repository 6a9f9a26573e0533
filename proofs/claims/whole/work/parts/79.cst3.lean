section PWN
variable {b : Nat → Int} {E p : Nat} {gl : Bool}
theorem pW_t {k : Int} {K : Nat → RT2} (h : wno b E p gl = k) : pW b E k p gl K = K (tL b E (tS b E p)) := if_pos h
theorem pW_f {k : Int} {K : Nat → RT2} (h : wno b E p gl ≠ k) : pW b E k p gl K = .inl (1, (tS b E p : Int)) := if_neg h
theorem pN_t {lo hi : Nat} {K : Int → Nat → RT2} (h : (numT b E lo hi p gl).1 = 0) : pN b E lo hi p gl K = K (numT b E lo hi p gl).2.2 (tD b E (tS b E p)) := if_pos h
theorem pN_f {lo hi : Nat} {K : Int → Nat → RT2} (h : (numT b E lo hi p gl).1 ≠ 0) : pN b E lo hi p gl K = .inl ((numT b E lo hi p gl).1, (numT b E lo hi p gl).2.1) := if_neg h
theorem pM_t {K : List Int → Nat → RT2} (h : (nmT b E p gl).1 = 0) : pM b E p gl K = K (nmT b E p gl).2.2 (tL b E (tS b E p)) := if_pos h
theorem pM_f {K : List Int → Nat → RT2} (h : (nmT b E p gl).1 ≠ 0) : pM b E p gl K = .inl ((nmT b E p gl).1, (nmT b E p gl).2.1) := if_neg h
end PWN
section CSL
variable {d : Nat} {g : mm_H} {b : Nat → Int} {E p : Nat} {gl : Bool} {u : Nat} {hm : Nat} {st : Tst}
theorem TstOK.nm {q : Nat} {h : Int} (O : TstOK h q st) : st.1.length ≤ 8 ∧ ∀ x ∈ st.1, x.1.length ≤ 6 ∧ ∀ y ∈ x.1, 1 ≤ y ∧ y ≤ 26 := ⟨O.1.1, fun x hx => ⟨(O.1.2 x hx).1.2.1, (O.1.2 x hx).1.2.2⟩⟩
set_option maxHeartbeats 8000000 in
theorem C_slipT (hu : mm_isT u) (S : CS g b E p gl) (cw : wno b E p gl ≠ -2) (T : CTs g u hm st) : CSo b E u hm g (mm_M mm_T0 (d + 7) 135 [.ref 12, .ref u] g) (stSlip b E st (tL b E (tS b E p))) := by
  have ut := isT_or hu
  have hE := S.2.1
  obtain ⟨g1, a1, S1, k1⟩ := C_advW (d := d + 1) S cw
  have T1 := T.tk hu k1
  have nh := C_numHere (d := d + 3) (lo := 0) (hi := 100) S1 (by omega) (by omega)
  rw [show ((0 : Nat) : Int) = 0 from rfl, show ((100 : Nat) : Int) = 100 from rfl] at nh
  have nb := numT_b (b := b) (E := E) (p := tL b E (tS b E p)) (gl := true) (lo := 0) (hi := 100) hE S1.2.2.1
  unfold stSlip
  by_cases c : (numT b E 0 100 (tL b E (tS b E p)) true).1 = 0
  · rw [pN_t c]
    obtain ⟨n1, n2⟩ := nh.1 c
    have nv := nb.2.2.2 c
    obtain ⟨g2, b1, S2, k2⟩ := C_takeValue (d := d) S1 ⟨nv.2.2.1, nv.2.2.2.1⟩ n2
    have T2 := T1.tk hu k2
    generalize (numT b E 0 100 (tL b E (tS b E p)) true).2.2 = v at *
    have kw : Kf (fun a x => a = u ∧ x = 3) nL g2 (wI g2 u 3 (iI v)) := Kf.refl.wI ⟨rfl, rfl⟩
    refine ⟨wI g2 u 3 (iI v), ?_, S2.kf kw (by omega) (by intro j; omega) (by intro j; omega), ?_, (tkKR k1).trans ((tkKR k2).trans (KR.of kw (fun a j q => by unfold QD; omega)))⟩
    · rw [U_X9_readSlip hu]
      simp (disch := omega) only [iI_lit, jI_lit, iI_neg, jI_neg, iI_add, iI_sub, iI_mul, jI_add, jI_sub, jI_mul, rdI, rdL, iI_lt, iI_le, iI_eq, iI_nat, iI_b2_0, iI_b2_1, mm_bI_some, mm_bV_some, mm_bL_some, mm_bA_some, fd_wL, fd_wR, fl_wI, fl_wR, re_wI, re_wL, re_wC, ite_true, ite_false, not_true_eq_false, not_false_eq_true, lq_ge, lq_le, lq_gt, lq_lt, lq_eq, jI_lt, jI_le, jI_eq, if_pos, if_neg, a1, n1, b1]
    · obtain ⟨t1, t2, t3, t4, t5, t6, t7⟩ := T2
      have z : ∀ a j, a ≠ u → fd (wI g2 u 3 (iI v)) a j = fd g2 a j := fun a j h => fd_wI_row h
      refine ⟨?_, fun i x hx => ?_, fun i j h1 h2 h3 => ?_, fun y hv => ?_, fd_wI_same (by omega) (by omega), t6.kf kw (by omega) (by intro j; omega), fun w hw => ?_⟩
      · rw [z _ _ (by omega), z _ _ (by omega), z _ _ (by omega), z _ _ (by omega)]
        exact t1
      · have := t2 i x hx
        refine ⟨?_, fun k hk => ?_⟩
        · rw [z _ _ (by omega), z _ _ (by omega), z _ _ (by omega), z _ _ (by omega), z _ _ (by omega)]
          exact this.1
        · rw [z _ _ (by omega)]
          exact this.2 k hk
      · rw [z _ _ (by omega)]
        exact t3 i j h1 h2 h3
      · rw [z _ _ (by omega)]
        exact t4 y hv
      · rw [z _ _ (by omega), z _ _ (by omega)]
        exact t7 w hw
  · rw [pN_f c]
    have n1 := nh.2 c
    refine ⟨_, ?_, bdH_5 (by omega) (by omega), bdH_6 (by omega) (by omega), (tkKR k1).trans bdH_KR⟩
    rw [U_X9_readSlip hu]
    simp (disch := omega) only [iI_lit, jI_lit, iI_neg, jI_neg, iI_add, iI_sub, iI_mul, jI_add, jI_sub, jI_mul, rdI, rdL, iI_lt, iI_le, iI_eq, iI_nat, iI_b2_0, iI_b2_1, mm_bI_some, mm_bV_some, mm_bL_some, mm_bA_some, fd_wL, fd_wR, fl_wI, fl_wR, re_wI, re_wL, re_wC, ite_true, ite_false, not_true_eq_false, not_false_eq_true, lq_ge, lq_le, lq_gt, lq_lt, lq_eq, jI_lt, jI_le, jI_eq, if_pos, if_neg, a1, n1]
theorem soul_fin {g1 g2 g9 gA : mm_H} {nm : List Int} {hv fv kv : Int} {q0 : Nat} (hu : mm_isT u) (h2 : 2 ≤ hm ∧ hm ≤ 9) (T1 : CTs g1 u hm st) (O : TstOK hm q0 st) (m8 : st.1.length < 8) (b2' : ∀ z, z < 6 → fd g2 (u + 16) (6 * st.1.length + z) = nm.getD z 0) (k2 : Kf (fun a x => a = u + 16 ∧ 6 * st.1.length ≤ x ∧ x < 6 * st.1.length + 6) nL g1 g2) (z9 : ∀ a j, a ≠ 3 → fd g9 a j = fd g2 a j) (hvb : 0 ≤ hv ∧ hv < (hm : Nat)) (c5' : homeF hv st.1 0 = -1) (w2 : fd gA (u + 1) 10 = ((st.1.length + 1 : Nat) : Int) ∧ fd gA (u + 1 + 1) st.1.length = fv ∧ fd gA (u + 1 + 2) st.1.length = kv ∧ fd gA (u + 1 + 3) st.1.length = hv ∧ fd gA (u + 1 + 4) st.1.length = 10 * fv ∧ fd gA (u + 1 + 5) st.1.length = 0 ∧ fd gA (u + 1 + 7) hv.toNat = (st.1.length : Nat)) (w3 : ∀ z, z < st.1.length → fd gA (u + 1 + 6) (8 * st.1.length + z) = 5 ∧ fd gA (u + 1 + 6) (8 * z + st.1.length) = 5) (w4 : Kf (QMv (u + 1) st.1.length hv) nL g9 gA) : CTs gA u hm (st.1 ++ [(nm, hv, fv, kv)], st.2) := by
  have ut := isT_or hu
  have nA : ∀ a j, ¬ QMv (u + 1) st.1.length hv a j → a ≠ 3 → a ≠ u + 16 → fd gA a j = fd g1 a j := fun a j q1 q2 q3 => (w4.1 a j q1).trans ((z9 a j q2).trans (k2.1 a j (by omega)))
  obtain ⟨t1, t2, t3, t4, t5, t6, t7⟩ := T1
  refine ⟨⟨?_, ?_, ?_, ?_⟩, fun i x hx => ?_, fun i j i1' i2 i3 => ?_, fun v hv9 => ?_, ?_, ?_, fun y hy => ?_⟩
  · rw [nA _ _ (by unfold QMv; omega) (by omega) (by omega)]; exact t1.1
  · show fd gA (u + 1) 10 = ((st.1 ++ [(nm, hv, fv, kv)]).length : Nat)
    rw [List.length_append, List.length_singleton]; exact w2.1
  · rw [nA _ _ (by unfold QMv; omega) (by omega) (by omega)]; exact t1.2.2.1
  · rw [nA _ _ (by unfold QMv; omega) (by omega) (by omega)]; exact t1.2.2.2
  · have hx' : (st.1 ++ [(nm, hv, fv, kv)])[i]? = some x := hx
    have gl16 : ∀ k, fd gA (u + 16) k = fd g2 (u + 16) k := fun k => by
      rw [w4.1 _ _ (by unfold QMv; omega), z9 _ _ (by omega)]
    by_cases ci : i < st.1.length
    · rw [List.getElem?_append_left ci] at hx'
      have o := t2 i x hx'
      refine ⟨⟨?_, ?_, ?_, ?_, ?_⟩, fun k hk => ?_⟩
      · rw [nA _ _ (by unfold QMv; omega) (by omega) (by omega)]; exact o.1.1
      · rw [nA _ _ (by unfold QMv; omega) (by omega) (by omega)]; exact o.1.2.1
      · rw [nA _ _ (by unfold QMv; omega) (by omega) (by omega)]; exact o.1.2.2.1
      · rw [nA _ _ (by unfold QMv; omega) (by omega) (by omega)]; exact o.1.2.2.2.1
      · rw [nA _ _ (by unfold QMv; omega) (by omega) (by omega)]; exact o.1.2.2.2.2
      · rw [gl16, k2.1 _ _ (by omega)]; exact o.2 k hk
    · have hl := (List.getElem?_eq_some_iff.mp hx').1
      rw [List.length_append, List.length_singleton] at hl
      have ei : i = st.1.length := by omega
      rw [ei, List.getElem?_append_right (Nat.le_refl _), Nat.sub_self] at hx'
      have ex : x = (nm, hv, fv, kv) := by simpa using hx'.symm
      subst ex
      rw [ei]
      exact ⟨⟨w2.2.1, w2.2.2.1, w2.2.2.2.1, w2.2.2.2.2.1, w2.2.2.2.2.2.1⟩, fun k hk => by rw [gl16]; exact b2' k hk⟩
  · have i1'' : i < (st.1 ++ [(nm, hv, fv, kv)]).length := i1'
    have i2'' : j < (st.1 ++ [(nm, hv, fv, kv)]).length := i2
    rw [List.length_append, List.length_singleton] at i1'' i2''
    have th5 := O.2.2.2.1
    show fd gA (u + 7) (8 * i + j) = st.2.1 (8 * (i : Int) + j)
    by_cases ci : i = st.1.length
    · rw [ci, th5 _ _ (by omega) (by omega) (by omega) (by omega) (Or.inl (by omega))]
      exact (w3 j (by omega)).1
    · by_cases cj : j = st.1.length
      · rw [cj, th5 _ _ (by omega) (by omega) (by omega) (by omega) (Or.inr (by omega))]
        exact (w3 i (by omega)).2
      · rw [nA _ _ (by
          intro q
          unfold QMv at q
          rcases q with q | q | q | q
          · omega
          · omega
          · obtain ⟨_, y, y1, y2⟩ := q
            omega
          · omega) (by omega) (by omega)]
        exact t3 i j (by omega) (by omega) i3
  · show fd gA (u + 8) v = homeF v (st.1 ++ [(nm, hv, fv, kv)]) 0
    rw [homeF_app _ _ (by omega)]
    by_cases cv : hv = (v : Nat)
    · rw [← cv, c5', if_pos rfl, if_pos rfl]
      have := w2.2.2.2.2.2.2
      rw [show hv.toNat = v by omega] at this
      rw [show (0 : Int) + (st.1.length : Nat) = (st.1.length : Nat) by omega]
      exact this
    · rw [nA _ _ (by unfold QMv; omega) (by omega) (by omega), t4 v hv9]
      by_cases cc : homeF v st.1 0 = -1
      · rw [if_pos cc, cc, if_neg cv]
      · rw [if_neg cc]
  · rw [nA _ _ (by unfold QMv; omega) (by omega) (by omega)]; exact t5
  · refine ⟨?_, fun i v hi => ?_⟩
    · rw [nA _ _ (by unfold QMv; omega) (by omega) (by omega)]; exact t6.1
    · rw [nA _ _ (by unfold QMv; omega) (by omega) (by omega)]; exact t6.2 i v hi
  · rw [nA _ _ (by unfold QMv; omega) (by omega) (by omega), nA _ _ (by unfold QMv; omega) (by omega) (by omega)]
    exact t7 y hy
set_option maxHeartbeats 8000000 in
theorem C_soul (hu : mm_isT u) (h2 : 2 ≤ hm ∧ hm ≤ 9) (S : CS g b E p gl) (cw : wno b E p gl = 1) (T : CTs g u hm st) {q0 : Nat} (O : TstOK hm q0 st) : CSo b E u hm g (mm_M mm_T0 (d + 7) 132 [.ref 12, .ref u] g) (stSoul b E hm st (tS b E p) (tL b E (tS b E p))) := by
  have ut := isT_or hu
  have hE := S.2.1
  have le := tS_le (b := b) (E := E) S.2.2.1
  have m8 := O.1.1
  have e10 := T.1.2.1
  unfold stSoul
  by_cases c0 : st.1.length = 8
  · rw [if_pos c0]
    rw [c0] at e10
    have f := C_fail (d := d + 4) (k := 5) S
    refine ⟨_, ?_, bdH_5 (by omega) (by omega), bdH_6 (by omega) (by omega), bdH_KR⟩
    have e10' : fd g (u + 1) 10 = 8 := e10
    have r10 := rdE e10'
    have l8 : (iI 8 < iI 8) = False := iL_f (by omega) (by omega) (by omega) (by omega) (by omega)
    rw [U_X9_readSoul hu]
    (try simp only [iI_lit, iI_neg]) <;> simp (maxSteps := 1000000) (disch := decide) only [iI_lit, iI_neg, iI_add, mm_bI_some, mm_bV_some, mm_bL_some, ↓reduceIte, i10, i00, i11, eq_self, not_true_eq_false, not_false_eq_true, ite_true, ite_false, if_true, if_false, and_true, true_and, and_false, false_and, and_self, or_self, or_false, false_or, or_true, true_or, iI_eq, iI_lt, iI_le, Int.reduceEq, Int.reduceLT, Int.reduceLE, r10, l8, ↓bI_eq f, zr_0]
  · rw [if_neg c0]
    have r10 := rdE e10
    have l8 : (iI (st.1.length : Int) < iI 8) = True := iL_t (by omega) (by omega) (by omega) (by omega) (by omega)
    obtain ⟨g1, a1, S1, k1⟩ := C_advW (d := d + 1) S (by omega)
    have T1 := T.tk hu k1
    generalize tL b E (tS b E p) = p1 at *
    have le1 := tS_le (b := b) (E := E) S1.2.2.1
    have nh := C_nameHere (d := d + 3) S1
    have nmb := nmT_b (b := b) (E := E) (p := p1) (gl := true) hE S1.2.2.1
    by_cases c1 : (nmT b E p1 true).1 = 0
    · rw [pM_t c1]
      have n1 := nh.1 c1
      clear nh
      have pn := C_pn (d := d + 3) hu T1 O.nm S1 c1
      have ib := idxF_b (w := (nmT b E p1 true).2.2) st.1 0 (by omega)
      by_cases c2 : idxF (nmT b E p1 true).2.2 st.1 0 ≠ -1
      · rw [if_pos c2]
        have f := C_fail (d := d + 4) (k := 3) S1
        generalize idxF (nmT b E p1 true).2.2 st.1 0 = ix at *
        have xq : (iI ix = iI (-1)) = False := iI_ne (by omega) (by omega) (by omega) (by omega) c2
        refine ⟨_, ?_, bdH_5 (by omega) (by omega), bdH_6 (by omega) (by omega), (tkKR k1).trans bdH_KR⟩
        rw [U_X9_readSoul hu]
        (try simp only [iI_lit, iI_neg]) <;> simp (maxSteps := 1000000) (disch := decide) only [iI_lit, iI_neg, iI_add, mm_bI_some, mm_bV_some, mm_bL_some, ↓reduceIte, i10, i00, i11, eq_self, not_true_eq_false, not_false_eq_true, ite_true, ite_false, if_true, if_false, and_true, true_and, and_false, false_and, and_self, or_self, or_false, false_or, or_true, true_or, iI_eq, iI_lt, iI_le, Int.reduceEq, Int.reduceLT, Int.reduceLE, r10, l8, ↓bV_eq a1, ↓bI_eq n1, ↓bI_eq pn, xq, ↓bI_eq f, zr_0]
      · rw [if_neg c2]
        have c2' : idxF (nmT b E p1 true).2.2 st.1 0 = -1 := by omega
        rw [c2'] at pn
        obtain ⟨g2, b1, b2', k2⟩ := C_nn (d := d + 3) hu (by omega) c1 S1 T1.1.2.1
        have S2 := S1.kf k2 (by omega) (by intro j; omega) (by intro j; omega)
        have K2 : KR (QD u) g1 g2 := KR.of k2 (fun a j q => by unfold QD; omega)
        obtain ⟨g3, d1, S3, k3⟩ := C_advW (d := d + 1) S2 (nmb.2.2.2 c1).1
        clear nmb
        generalize tL b E (tS b E p1) = p2 at *
        have le2 := tS_le (b := b) (E := E) S3.2.2.1
        have tw := C_takeWord (d := d) (k := 2) S3 (by omega) (by omega)
        have K3 : KR (QD u) g g3 := (tkKR k1).trans (K2.trans (tkKR k3))
        by_cases c3 : wno b E p2 true = 2
        · rw [pW_t c3]
          obtain ⟨g4, e1, S4, k4⟩ := tw.1 c3
          clear tw
          generalize tL b E (tS b E p2) = p3 at *
          have le3 := tS_le (b := b) (E := E) S4.2.2.1
          have z4 : ∀ a j, a ≠ 3 → a ≠ u + 16 → fd g4 a j = fd g1 a j := fun a j q1 q2 => by
            rw [k4.1 _ _ (by unfold QTc; omega), k3.1 _ _ (by unfold QTc; omega), k2.1 _ _ (by omega)]
          have f9 : fd g4 (u + 1) 9 = (hm : Nat) := (z4 _ _ (by omega) (by omega)).trans T1.1.1
          have r9 := rdE f9
          have hm1 : ((hm : Nat) : Int) - 1 = ((hm - 1 : Nat) : Int) := by omega
          have nh4 := C_numHere (d := d + 3) (lo := 0) (hi := hm - 1) S4 (by omega) (by omega)
          rw [show ((0 : Nat) : Int) = 0 from rfl] at nh4
          have nb4 := numT_b (b := b) (E := E) (p := p3) (gl := true) (lo := 0) (hi := hm - 1) hE S4.2.2.1
          have K4 : KR (QD u) g g4 := K3.trans (tkKR k4)
          by_cases c4 : (numT b E 0 (hm - 1) p3 true).1 = 0
          · rw [pN_t c4]
            obtain ⟨n4, v4⟩ := nh4.1 c4
            rw [← hm1, ← iI_sub, ← r9] at n4
            clear nh4
            have nv4 := nb4.2.2.2 c4
            clear nb4
            generalize (numT b E 0 (hm - 1) p3 true).2.2 = hv at *
            have hvb : 0 ≤ hv ∧ hv < (hm : Nat) := ⟨by have := nv4.1; omega, by have := nv4.2.1; omega⟩
            have lo := S_lodgerAt (d := d + 4) (h := g4) (p := hv) (isT_S hu) (by omega) (by omega)
            have lv : fd g4 (u + 1 + 7) hv.toNat = homeF hv st.1 0 := by
              rw [show u + 1 + 7 = u + 8 by omega, z4 _ _ (by omega) (by omega)]
              have := T1.2.2.2.1 hv.toNat (by omega)
              rw [show ((hv.toNat : Nat) : Int) = hv by omega] at this
              exact this
            rw [if_pos (by omega), lv, ← rdE v4] at lo
            have hb := homeF_b (v := hv) st.1 0 (by omega)
            by_cases c5 : homeF hv st.1 0 ≠ -1
            · rw [if_pos c5]
              have f := C_fail (d := d + 4) (k := 2) S4
              generalize homeF hv st.1 0 = hx at *
              have hq : (iI hx = iI (-1)) = False := iI_ne (by omega) (by omega) (by omega) (by omega) c5
              refine ⟨_, ?_, bdH_5 (by omega) (by omega), bdH_6 (by omega) (by omega), K4.trans bdH_KR⟩
              rw [U_X9_readSoul hu]
              (try simp only [iI_lit, iI_neg]) <;> simp (maxSteps := 1000000) (disch := decide) only [iI_lit, iI_neg, iI_add, mm_bI_some, mm_bV_some, mm_bL_some, ↓reduceIte, i10, i00, i11, eq_self, not_true_eq_false, not_false_eq_true, ite_true, ite_false, if_true, if_false, and_true, true_and, and_false, false_and, and_self, or_self, or_false, false_or, or_true, true_or, iI_eq, iI_lt, iI_le, Int.reduceEq, Int.reduceLT, Int.reduceLE, r10, l8, ↓bV_eq a1, ↓bI_eq n1, ↓bI_eq pn, ↓bV_eq b1, ↓bV_eq d1, ↓bI_eq e1, ↓bI_eq n4, ↓bI_eq lo, hq, ↓bI_eq f, zr_0]
            · rw [if_neg c5]
              have c5' : homeF hv st.1 0 = -1 := by omega
              rw [c5'] at lo
              obtain ⟨g5, i1, S5, k5⟩ := C_takeValue (d := d) S4 ⟨nv4.2.2.1, nv4.2.2.2.1⟩ v4
              generalize tD b E (tS b E p3) = p4 at *
              have le4 := tS_le (b := b) (E := E) S5.2.2.1
              have tw5 := C_takeWord (d := d) (k := 3) S5 (by omega) (by omega)
              have K5 : KR (QD u) g g5 := K4.trans (tkKR k5)
              by_cases c6 : wno b E p4 true = 3
              · rw [pW_t c6]
                obtain ⟨g6, j1, S6, k6⟩ := tw5.1 c6
                clear tw5
                generalize tL b E (tS b E p4) = p5 at *
                have le5 := tS_le (b := b) (E := E) S6.2.2.1
                have nh6 := C_numHere (d := d + 3) (lo := 0) (hi := 9) S6 (by omega) (by omega)
                rw [show ((0 : Nat) : Int) = 0 from rfl, show ((9 : Nat) : Int) = 9 from rfl] at nh6
                have nb6 := numT_b (b := b) (E := E) (p := p5) (gl := true) (lo := 0) (hi := 9) hE S6.2.2.1
                have K6 : KR (QD u) g g6 := K5.trans (tkKR k6)
                by_cases c7 : (numT b E 0 9 p5 true).1 = 0
                · rw [pN_t c7]
                  obtain ⟨n6, v6⟩ := nh6.1 c7
                  clear nh6
                  have nv6 := nb6.2.2.2 c7
                  clear nb6
                  generalize (numT b E 0 9 p5 true).2.2 = fv at *
                  obtain ⟨g7, l1, S7, k7⟩ := C_takeValue (d := d) S6 ⟨nv6.2.2.1, nv6.2.2.2.1⟩ v6
                  generalize tD b E (tS b E p5) = p6 at *
                  have le6 := tS_le (b := b) (E := E) S7.2.2.1
                  have tw7 := C_takeWord (d := d) (k := 4) S7 (by omega) (by omega)
                  have K7 : KR (QD u) g g7 := K6.trans (tkKR k7)
                  by_cases c8 : wno b E p6 true = 4
                  · rw [pW_t c8]
                    obtain ⟨g8, o1, S8, k8⟩ := tw7.1 c8
                    clear tw7
                    generalize tL b E (tS b E p6) = p7 at *
                    have le7 := tS_le (b := b) (E := E) S8.2.2.1
                    have nh8 := C_numHere (d := d + 3) (lo := 0) (hi := 9) S8 (by omega) (by omega)
                    rw [show ((0 : Nat) : Int) = 0 from rfl, show ((9 : Nat) : Int) = 9 from rfl] at nh8
                    have nb8 := numT_b (b := b) (E := E) (p := p7) (gl := true) (lo := 0) (hi := 9) hE S8.2.2.1
                    have K8 : KR (QD u) g g8 := K7.trans (tkKR k8)
                    by_cases c9 : (numT b E 0 9 p7 true).1 = 0
                    · rw [pN_t c9]
                      obtain ⟨n8, v8⟩ := nh8.1 c9
                      clear nh8
                      have nv8 := nb8.2.2.2 c9
                      clear nb8
                      generalize (numT b E 0 9 p7 true).2.2 = kv at *
                      obtain ⟨g9, r1, S9, k9⟩ := C_takeValue (d := d) S8 ⟨nv8.2.2.1, nv8.2.2.2.1⟩ v8
                      generalize tD b E (tS b E p7) = p8 at *
                      have z9 : ∀ a j, a ≠ 3 → fd g9 a j = fd g4 a j := fun a j q1 => by
                        rw [k9.1 _ _ (by unfold QTc; omega), k8.1 _ _ (by unfold QTc; omega), k7.1 _ _ (by unfold QTc; omega), k6.1 _ _ (by unfold QTc; omega), k5.1 _ _ (by unfold QTc; omega)]
                      have z91 : ∀ a j, a ≠ 3 → a ≠ u + 16 → fd g9 a j = fd g1 a j := fun a j q1 q2 => (z9 a j q1).trans (z4 a j q1 q2)
                      have f10 : fd g9 (u + 1) 10 = (st.1.length : Nat) := (z91 _ _ (by omega) (by omega)).trans T1.1.2.1
                      have f99 : fd g9 (u + 1) 9 = (hm : Nat) := (z9 _ _ (by omega)).trans f9
                      obtain ⟨gA, w1, w2, w3, w4⟩ := C_movesIn (d := d + 2) (g := g9) (m := st.1.length) (hv := hv) (fv := fv) (kv := kv) (isT_S hu) (by omega) f10 hvb.1 (by omega) (by omega) ⟨by have := nv6.1; omega, by have := nv6.2.1; omega⟩ ⟨by have := nv8.1; omega, by have := nv8.2.1; omega⟩
                      have KA : KR (QD u) g9 gA := KR.of w4 (fun a j q => by unfold QMv at q; unfold QD; omega)
                      refine ⟨gA, ?_, S9.kf w4 (by unfold QMv; omega) (by intro j; unfold QMv; omega) (by intro j; unfold QMv; omega), ?_, K8.trans ((tkKR k9).trans KA)⟩
                      · have nv6' := nv6.1
                        have nv6'' := nv6.2.1
                        have nv8' := nv8.1
                        have nv8'' := nv8.2.1
                        rw [U_X9_readSoul hu]
                        (try simp only [iI_lit, iI_neg]) <;> simp (maxSteps := 1000000) (disch := decide) only [iI_lit, iI_neg, iI_add, mm_bI_some, mm_bV_some, mm_bL_some, ↓reduceIte, i10, i00, i11, eq_self, not_true_eq_false, not_false_eq_true, ite_true, ite_false, if_true, if_false, and_true, true_and, and_false, false_and, and_self, or_self, or_false, false_or, or_true, true_or, iI_eq, iI_lt, iI_le, Int.reduceEq, Int.reduceLT, Int.reduceLE, r10, l8, ↓bV_eq a1, ↓bI_eq n1, ↓bI_eq pn, ↓bV_eq b1, ↓bV_eq d1, ↓bI_eq e1, ↓bI_eq n4, ↓bI_eq lo, ↓bI_eq i1, ↓bI_eq j1, ↓bI_eq n6, ↓bI_eq l1, ↓bI_eq o1, ↓bI_eq n8, ↓bI_eq r1, ↓bV_eq w1]
                      · exact soul_fin hu h2 T1 O (by omega) b2' k2 (fun a j q1 => by rw [z9 a j q1, k4.1 _ _ (by unfold QTc; omega), k3.1 _ _ (by unfold QTc; omega)]) hvb c5' w2 w3 w4
                    · rw [pN_f c9]
                      have n8 := nh8.2 c9
                      refine ⟨_, ?_, bdH_5 (by omega) (by omega), bdH_6 (by omega) (by omega), K8.trans bdH_KR⟩
                      rw [U_X9_readSoul hu]
                      (try simp only [iI_lit, iI_neg]) <;> simp (maxSteps := 1000000) (disch := decide) only [iI_lit, iI_neg, iI_add, mm_bI_some, mm_bV_some, mm_bL_some, ↓reduceIte, i10, i00, i11, eq_self, not_true_eq_false, not_false_eq_true, ite_true, ite_false, if_true, if_false, and_true, true_and, and_false, false_and, and_self, or_self, or_false, false_or, or_true, true_or, iI_eq, iI_lt, iI_le, Int.reduceEq, Int.reduceLT, Int.reduceLE, r10, l8, ↓bV_eq a1, ↓bI_eq n1, ↓bI_eq pn, ↓bV_eq b1, ↓bV_eq d1, ↓bI_eq e1, ↓bI_eq n4, ↓bI_eq lo, ↓bI_eq i1, ↓bI_eq j1, ↓bI_eq n6, ↓bI_eq l1, ↓bI_eq o1, ↓bI_eq n8]
                  · rw [pW_f c8]
                    have o1 := tw7.2 c8
                    refine ⟨_, ?_, bdH_5 (by omega) (by omega), bdH_6 (by omega) (by omega), K7.trans bdH_KR⟩
                    rw [U_X9_readSoul hu]
                    (try simp only [iI_lit, iI_neg]) <;> simp (maxSteps := 1000000) (disch := decide) only [iI_lit, iI_neg, iI_add, mm_bI_some, mm_bV_some, mm_bL_some, ↓reduceIte, i10, i00, i11, eq_self, not_true_eq_false, not_false_eq_true, ite_true, ite_false, if_true, if_false, and_true, true_and, and_false, false_and, and_self, or_self, or_false, false_or, or_true, true_or, iI_eq, iI_lt, iI_le, Int.reduceEq, Int.reduceLT, Int.reduceLE, r10, l8, ↓bV_eq a1, ↓bI_eq n1, ↓bI_eq pn, ↓bV_eq b1, ↓bV_eq d1, ↓bI_eq e1, ↓bI_eq n4, ↓bI_eq lo, ↓bI_eq i1, ↓bI_eq j1, ↓bI_eq n6, ↓bI_eq l1, ↓bI_eq o1]
                · rw [pN_f c7]
                  have n6 := nh6.2 c7
                  refine ⟨_, ?_, bdH_5 (by omega) (by omega), bdH_6 (by omega) (by omega), K6.trans bdH_KR⟩
                  rw [U_X9_readSoul hu]
                  (try simp only [iI_lit, iI_neg]) <;> simp (maxSteps := 1000000) (disch := decide) only [iI_lit, iI_neg, iI_add, mm_bI_some, mm_bV_some, mm_bL_some, ↓reduceIte, i10, i00, i11, eq_self, not_true_eq_false, not_false_eq_true, ite_true, ite_false, if_true, if_false, and_true, true_and, and_false, false_and, and_self, or_self, or_false, false_or, or_true, true_or, iI_eq, iI_lt, iI_le, Int.reduceEq, Int.reduceLT, Int.reduceLE, r10, l8, ↓bV_eq a1, ↓bI_eq n1, ↓bI_eq pn, ↓bV_eq b1, ↓bV_eq d1, ↓bI_eq e1, ↓bI_eq n4, ↓bI_eq lo, ↓bI_eq i1, ↓bI_eq j1, ↓bI_eq n6]
              · rw [pW_f c6]
                have j1 := tw5.2 c6
                refine ⟨_, ?_, bdH_5 (by omega) (by omega), bdH_6 (by omega) (by omega), K5.trans bdH_KR⟩
                rw [U_X9_readSoul hu]
                (try simp only [iI_lit, iI_neg]) <;> simp (maxSteps := 1000000) (disch := decide) only [iI_lit, iI_neg, iI_add, mm_bI_some, mm_bV_some, mm_bL_some, ↓reduceIte, i10, i00, i11, eq_self, not_true_eq_false, not_false_eq_true, ite_true, ite_false, if_true, if_false, and_true, true_and, and_false, false_and, and_self, or_self, or_false, false_or, or_true, true_or, iI_eq, iI_lt, iI_le, Int.reduceEq, Int.reduceLT, Int.reduceLE, r10, l8, ↓bV_eq a1, ↓bI_eq n1, ↓bI_eq pn, ↓bV_eq b1, ↓bV_eq d1, ↓bI_eq e1, ↓bI_eq n4, ↓bI_eq lo, ↓bI_eq i1, ↓bI_eq j1]
          · rw [pN_f c4]
            have n4 := nh4.2 c4
            rw [← hm1, ← iI_sub, ← r9] at n4
            refine ⟨_, ?_, bdH_5 (by omega) (by omega), bdH_6 (by omega) (by omega), K4.trans bdH_KR⟩
            rw [U_X9_readSoul hu]
            (try simp only [iI_lit, iI_neg]) <;> simp (maxSteps := 1000000) (disch := decide) only [iI_lit, iI_neg, iI_add, mm_bI_some, mm_bV_some, mm_bL_some, ↓reduceIte, i10, i00, i11, eq_self, not_true_eq_false, not_false_eq_true, ite_true, ite_false, if_true, if_false, and_true, true_and, and_false, false_and, and_self, or_self, or_false, false_or, or_true, true_or, iI_eq, iI_lt, iI_le, Int.reduceEq, Int.reduceLT, Int.reduceLE, r10, l8, ↓bV_eq a1, ↓bI_eq n1, ↓bI_eq pn, ↓bV_eq b1, ↓bV_eq d1, ↓bI_eq e1, ↓bI_eq n4]
        · rw [pW_f c3]
          have e1 := tw.2 c3
          refine ⟨_, ?_, bdH_5 (by omega) (by omega), bdH_6 (by omega) (by omega), K3.trans bdH_KR⟩
          rw [U_X9_readSoul hu]
          (try simp only [iI_lit, iI_neg]) <;> simp (maxSteps := 1000000) (disch := decide) only [iI_lit, iI_neg, iI_add, mm_bI_some, mm_bV_some, mm_bL_some, ↓reduceIte, i10, i00, i11, eq_self, not_true_eq_false, not_false_eq_true, ite_true, ite_false, if_true, if_false, and_true, true_and, and_false, false_and, and_self, or_self, or_false, false_or, or_true, true_or, iI_eq, iI_lt, iI_le, Int.reduceEq, Int.reduceLT, Int.reduceLE, r10, l8, ↓bV_eq a1, ↓bI_eq n1, ↓bI_eq pn, ↓bV_eq b1, ↓bV_eq d1, ↓bI_eq e1]
    · rw [pM_f c1]
      have n1 := nh.2 c1
      refine ⟨_, ?_, bdH_5 (by omega) (by omega), bdH_6 (by omega) (by omega), (tkKR k1).trans bdH_KR⟩
      rw [U_X9_readSoul hu]
      (try simp only [iI_lit, iI_neg]) <;> simp (maxSteps := 1000000) (disch := decide) only [iI_lit, iI_neg, iI_add, mm_bI_some, mm_bV_some, mm_bL_some, ↓reduceIte, i10, i00, i11, eq_self, not_true_eq_false, not_false_eq_true, ite_true, ite_false, if_true, if_false, and_true, true_and, and_false, false_and, and_self, or_self, or_false, false_or, or_true, true_or, iI_eq, iI_lt, iI_le, Int.reduceEq, Int.reduceLT, Int.reduceLE, r10, l8, ↓bV_eq a1, ↓bI_eq n1]
end CSL
