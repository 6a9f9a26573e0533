/-! the reference reads statements -/
def RSo (b : Nat → Int) (E : Nat) (hm : Int) (g : mm_H) (X : mm_X) (r : RT2) : Prop := match r with
  | .inl f => ∃ g', X = some (none, g') ∧ Bad g' f.1 f.2 ∧ Kf QRt LRt g g'
  | .inr y => ∃ g', X = some (none, g') ∧ RS g' b E y.1 y.2.1 ∧ RTs g' hm y.2.2 ∧ Kf QRt LRt g g'
section RSL
variable {d : Nat} {g : mm_H} {b : Nat → Int} {E p : Nat} {gl : Bool} {hm : Nat} {st : Tst}
theorem RSo.of {g0 : mm_H} {X : mm_X} {r : RT2} {hm : Int} (h : RSo b E hm g X r) (k : Kf QRt LRt g0 g) : RSo b E hm g0 X r := by
  cases r with
  | inl f =>
    obtain ⟨g', a1, a2, a3⟩ := h
    exact ⟨g', a1, a2, k.trans a3⟩
  | inr y =>
    obtain ⟨g', a1, a2, a3, a4⟩ := h
    exact ⟨g', a1, a2, a3, k.trans a4⟩
/-- with a fault, the rest of a soul's statement does nothing -/
theorem B_84 {x2 : Int64} {x4 : Int32} {m : Nat} (h5 : fd g 264 5 ≠ 0) (e39 : fd g 264 39 = (m : Nat)) (m8 : m ≤ 8) : ∀ (k j : Nat), j + k = m → mm_D (mm_M mm_T0 (d + 1)) cd_X12_soulTold 84 [.ref 264, .null, .long x2, .null, .int x4, .int (iI (j : Nat)), .null] [] g = some (none, g)
  | 0, j, hj => by
    have b1 := B_asks (d := d) (a := 270) (g := g) (by unfold isW; omega) h5
    have b2' := B_asks (d := d) (a := 271) (g := g) (by unfold isW; omega) h5
    have b3 := fun x y => B_number (d := d) (g := g) (x := x) (y := y) h5
    have := fd_lo g 264 5; have := fd_hi g 264 5
    rw [U_X12_soulTold_84]
    simp (disch := omega) only [iI_lit, jI_lit, iI_neg, jI_neg, iI_add, iI_sub, iI_mul, jI_add, jI_sub, jI_mul, rdI, rdL, iI_lt, iI_le, iI_eq, iI_nat, iI_b2_0, iI_b2_1, mm_bI_some, mm_bV_some, mm_bL_some, mm_bA_some, fd_wL, fd_wR, fl_wI, fl_wR, re_wI, re_wL, re_wC, ite_true, ite_false, not_true_eq_false, not_false_eq_true, lq_ge, lq_le, lq_gt, lq_lt, lq_eq, jI_lt, jI_le, jI_eq, if_pos, if_neg, e39, b1, b2', b3]
  | k + 1, j, hj => by
    have e1 : (j : Int) + 1 = ((j + 1 : Nat) : Int) := by omega
    have := fd_lo g 264 5; have := fd_hi g 264 5
    rw [← B_84 (x2 := x2) (x4 := x4) h5 e39 m8 k (j + 1) (by omega), U_X12_soulTold_84]
    simp (disch := omega) only [iI_lit, jI_lit, iI_neg, jI_neg, iI_add, iI_sub, iI_mul, jI_add, jI_sub, jI_mul, rdI, rdL, iI_lt, iI_le, iI_eq, iI_nat, iI_b2_0, iI_b2_1, mm_bI_some, mm_bV_some, mm_bL_some, mm_bA_some, fd_wL, fd_wR, fl_wI, fl_wR, re_wI, re_wL, re_wC, ite_true, ite_false, not_true_eq_false, not_false_eq_true, lq_ge, lq_le, lq_gt, lq_lt, lq_eq, jI_lt, jI_le, jI_eq, if_pos, if_neg, e39, e1]
/-- from its house's word on -/
noncomputable def kAt (d : Nat) (v : Int64) (h : mm_H) : mm_X := mm_bV (mm_M mm_T0 (d + 5) 197 [.ref 264, .ref 269] h) (fun h17 => mm_bI (mm_M mm_T0 (d + 5) 200 [.ref 264, .int 0, .int ((h17.1 264 37) - 1)] h17) (fun v19 h18 => mm_D (mm_M mm_T0 (d + 5)) cd_X12_soulTold 84 [.ref 264, .null, .long v, .null, .int v19, .int 0, .null] [] h18))
theorem B_at {v : Int64} {m : Nat} (h5 : fd g 264 5 ≠ 0) (e39 : fd g 264 39 = (m : Nat)) (m8 : m ≤ 8) : kAt d v g = some (none, g) := by
  have b1 := B_asks (d := d + 4) (a := 269) (g := g) (by unfold isW; omega) h5
  have b3 := fun x y => B_number (d := d + 4) (g := g) (x := x) (y := y) h5
  have b4 := B_84 (d := d + 4) (x2 := v) (x4 := iI 0) h5 e39 m8 m 0 (by omega)
  rw [show ((0 : Nat) : Int) = 0 from rfl] at b4
  unfold kAt
  simp (disch := omega) only [iI_lit, jI_lit, iI_neg, jI_neg, iI_add, iI_sub, iI_mul, jI_add, jI_sub, jI_mul, rdI, rdL, iI_lt, iI_le, iI_eq, iI_nat, iI_b2_0, iI_b2_1, mm_bI_some, mm_bV_some, mm_bL_some, mm_bA_some, fd_wL, fd_wR, fl_wI, fl_wR, re_wI, re_wL, re_wC, ite_true, ite_false, not_true_eq_false, not_false_eq_true, lq_ge, lq_le, lq_gt, lq_lt, lq_eq, jI_lt, jI_le, jI_eq, if_pos, if_neg, b1, b3, b4]
set_option maxHeartbeats 8000000 in
theorem R_84 {x2 : Int64} {hv : Int} {pl : Int} {r0 : List Pp} (hb : 0 ≤ hv ∧ hv ≤ 9) (h5 : fd g 264 5 = 0) (T : RTs g hm st) (m8 : st.1.length ≤ 8) (e10 : fd g 264 10 = pl) (pb : 0 ≤ pl ∧ pl ≤ 2000) : ∀ (r : List Pp) (i : Nat), i + r.length = st.1.length → (∀ j, r[j]? = st.1[i + j]?) → (homeF hv r i = -1 → mm_D (mm_M mm_T0 (d + 1)) cd_X12_soulTold 84 [.ref 264, .null, .long x2, .null, .int (iI hv), .int (iI (i : Nat)), .null] [] g = mm_D (mm_M mm_T0 (d + 1)) cd_X12_soulTold 84 [.ref 264, .null, .long x2, .null, .int (iI hv), .int (iI ((st.1.length : Nat) : Int)), .null] [] g) ∧ (homeF hv r i ≠ -1 → ∃ g', mm_D (mm_M mm_T0 (d + 1)) cd_X12_soulTold 84 [.ref 264, .null, .long x2, .null, .int (iI hv), .int (iI (i : Nat)), .null] [] g = some (none, g') ∧ Bad g' 2 pl ∧ Kf QTk nL g g')
  | [], i, hi, hr => by
    rw [List.length_nil] at hi
    have hi' : i = st.1.length := by omega
    rw [homeF, hi']
    exact ⟨fun _ => rfl, fun z => absurd rfl z⟩
  | x :: r, i, hi, hr => by
    have e39 := T.1.2
    rw [List.length_cons] at hi
    have hx : st.1[i]? = some x := by
      have := hr 0
      rw [Nat.add_zero] at this
      rw [← this]
      rfl
    have v := (T.2.1 i x hx).2.1
    have vb : -2147483648 ≤ x.2.1 ∧ x.2.1 < 2147483648 := by rw [← v]; exact ⟨fd_lo _ _ _, fd_hi _ _ _⟩
    have ni : ((i : Nat) : Int).toNat = i := by omega
    have e1 : (i : Int) + 1 = ((i + 1 : Nat) : Int) := by omega
    have nx := R_84 (x2 := x2) (r0 := r0) hb h5 T m8 e10 pb r (i + 1) (by omega) (fun j => by
      have := hr (j + 1)
      rw [show i + 1 + j = i + (j + 1) by omega, ← this]
      rfl)
    rw [show ((i + 1 : Nat) : Int) = (i : Int) + 1 by omega] at nx
    rw [homeF]
    by_cases c : x.2.1 = hv
    · rw [if_pos c]
      rw [c] at v
      refine ⟨fun z => by omega, fun _ => ?_⟩
      obtain ⟨g', f1, B, k⟩ := R_fail (d := d) (g := g) (k := 2) (pl := pl) h5 (by omega) (by omega) (by omega) (by omega)
      have bb := B_84 (d := d) (x2 := x2) (x4 := iI hv) (m := st.1.length) (B.ne (by decide)) ((k.1 _ _ (by unfold QTk; omega)).trans e39) m8 r.length (i + 1) (by omega)
      refine ⟨g', ?_, B, k⟩
      rw [← bb, U_X12_soulTold_84]
      simp (disch := omega) only [iI_lit, jI_lit, iI_neg, jI_neg, iI_add, iI_sub, iI_mul, jI_add, jI_sub, jI_mul, rdI, rdL, iI_lt, iI_le, iI_eq, iI_nat, iI_b2_0, iI_b2_1, mm_bI_some, mm_bV_some, mm_bL_some, mm_bA_some, fd_wL, fd_wR, fl_wI, fl_wR, re_wI, re_wL, re_wC, ite_true, ite_false, not_true_eq_false, not_false_eq_true, lq_ge, lq_le, lq_gt, lq_lt, lq_eq, jI_lt, jI_le, jI_eq, if_pos, if_neg, e39, h5, ni, v, e10, f1, e1]
    · rw [if_neg c]
      have st1 : mm_D (mm_M mm_T0 (d + 1)) cd_X12_soulTold 84 [.ref 264, .null, .long x2, .null, .int (iI hv), .int (iI (i : Nat)), .null] [] g = mm_D (mm_M mm_T0 (d + 1)) cd_X12_soulTold 84 [.ref 264, .null, .long x2, .null, .int (iI hv), .int (iI ((i : Int) + 1)), .null] [] g := by
        rw [U_X12_soulTold_84]
        simp (disch := omega) only [iI_lit, jI_lit, iI_neg, jI_neg, iI_add, iI_sub, iI_mul, jI_add, jI_sub, jI_mul, rdI, rdL, iI_lt, iI_le, iI_eq, iI_nat, iI_b2_0, iI_b2_1, mm_bI_some, mm_bV_some, mm_bL_some, mm_bA_some, fd_wL, fd_wR, fl_wI, fl_wR, re_wI, re_wL, re_wC, ite_true, ite_false, not_true_eq_false, not_false_eq_true, lq_ge, lq_le, lq_gt, lq_lt, lq_eq, jI_lt, jI_le, jI_eq, if_pos, if_neg, e39, h5, ni, v]
      rw [st1]
      exact nx
theorem nz5 {h : mm_H} (b : fd h 264 5 ≠ 0) : (h.1 264 5 = iI 0) = False := by
  rw [rdE (rfl : fd h 264 5 = fd h 264 5)]
  exact iI_ne (fd_lo _ _ _) (fd_hi _ _ _) (by omega) (by omega) b
set_option maxHeartbeats 8000000 in
/-- the end of a soul's statement -/
theorem R_84e {nm : List Int} {hv : Int} {q0 : Nat} (hb : 0 ≤ hv ∧ hv < (hm : Int)) (h9 : hm ≤ 9) (R : RS g b E p true) (T : RTs g hm st) (O : TstOK hm q0 st) (m8 : st.1.length < 8) (nb : (∀ x ∈ nm, 1 ≤ x ∧ x ≤ 26) ∧ nm.length ≤ 6) : RSo b E hm g (mm_D (mm_M mm_T0 (d + 5)) cd_X12_soulTold 84 [.ref 264, .null, .long (jI (rvN nm)), .null, .int (iI hv), .int (iI ((st.1.length : Nat) : Int)), .null] [] g) (pW b E 3 p true (fun q4 => pN b E 0 9 q4 true (fun fv q5 => pW b E 4 q5 true (fun q6 => pN b E 0 9 q6 true (fun kv q7 => .inr (q7, true, st.1 ++ [(nm, hv, fv, kv)], st.2)))))) := by
  have hE := R.1.2.1
  have e39 := T.1.2
  have ak := R_asks (d := d + 1) (a := 270) (by unfold isW; omega) R
  have aw : hasW b E (wordL 270) p true = true ↔ wno b E p true = 3 := hasW_no (by omega) rfl
  have gt : (iI ((st.1.length : Nat) : Int) ≤ iI ((st.1.length : Nat) : Int)) = True := iG_t (by omega) (by omega) (by omega) (by omega) (by omega)
  by_cases c1 : wno b E p true = 3
  · rw [pW_t c1]
    obtain ⟨g1, a1, R1, k1⟩ := ak.1 (aw.mpr c1)
    generalize tL b E (tS b E p) = p1 at *
    obtain ⟨g2, n1, k2, n2, n3⟩ := R_number (d := d + 3) (lo := 0) (hi := 9) R1 (by omega) (by omega)
    rw [show ((0 : Nat) : Int) = 0 from rfl, show ((9 : Nat) : Int) = 9 from rfl] at n1
    have nb1 := numT_b (b := b) (E := E) (p := p1) (gl := true) (lo := 0) (hi := 9) hE R1.2.1
    by_cases c2 : (numT b E 0 9 p1 true).1 = 0
    · rw [pN_t c2]
      obtain ⟨R2, _⟩ := n2 c2
      have nv := nb1.2.2.2 c2
      have nv1 := nv.1
      have nv2 := nv.2.1
      generalize (numT b E 0 9 p1 true).2.2 = fv at *
      generalize tD b E (tS b E p1) = p2 at *
      have ak2 := R_asks (d := d + 1) (a := 271) (by unfold isW; omega) R2
      have aw2 : hasW b E (wordL 271) p2 true = true ↔ wno b E p2 true = 4 := hasW_no (by omega) rfl
      by_cases c3 : wno b E p2 true = 4
      · rw [pW_t c3]
        obtain ⟨g3, a3, R3, k3⟩ := ak2.1 (aw2.mpr c3)
        generalize tL b E (tS b E p2) = p3 at *
        obtain ⟨g4, n4, k4, n5, n6⟩ := R_number (d := d + 3) (lo := 0) (hi := 9) R3 (by omega) (by omega)
        rw [show ((0 : Nat) : Int) = 0 from rfl, show ((9 : Nat) : Int) = 9 from rfl] at n4
        have nb3 := numT_b (b := b) (E := E) (p := p3) (gl := true) (lo := 0) (hi := 9) hE R3.2.1
        have K4 : Kf QTk nL g g4 := k1.trans (k2.trans (k3.trans k4))
        by_cases c4 : (numT b E 0 9 p3 true).1 = 0
        · rw [pN_t c4]
          obtain ⟨R4, _⟩ := n5 c4
          have nv' := nb3.2.2.2 c4
          have nv1' := nv'.1
          have nv2' := nv'.2.1
          generalize (numT b E 0 9 p3 true).2.2 = kv at *
          generalize tD b E (tS b E p3) = p4 at *
          have T4 := T.tk K4
          have h54 := R4.2.2.1
          have f39 : fd g4 264 39 = ((st.1.length : Nat) : Int) := T4.1.2
          have nn : ((st.1.length : Nat) : Int).toNat = st.1.length := by omega
          have vb := rvN_b nb.1 nb.2
          generalize hG : wI (wI (wI (wI (wL g4 292 st.1.length (jI (rvN nm))) 293 st.1.length (iI hv)) 294 st.1.length (iI fv)) 295 st.1.length (iI kv)) 264 39 (iI (((st.1.length : Nat) : Int) + 1)) = gA
          have KA : Kf QRt LRt g4 gA := by
            rw [← hG]
            exact (((((Kf.refl (Q := QRt) (L := LRt)).wL (show LRt 292 st.1.length by unfold LRt; omega)).wI (by unfold QRt QQ; omega)).wI (by unfold QRt QQ; omega)).wI (by unfold QRt QQ; omega)).wI (by unfold QRt QQ; omega)
          have g1' : fd (wI (wL g4 292 st.1.length (jI (rvN nm))) 293 st.1.length (iI hv)) 264 39 = ((st.1.length : Nat) : Int) := by rw [fd_wI_row (by omega), fd_wL]; exact f39
          have g2' : fd (wI (wI (wL g4 292 st.1.length (jI (rvN nm))) 293 st.1.length (iI hv)) 294 st.1.length (iI fv)) 264 39 = ((st.1.length : Nat) : Int) := by rw [fd_wI_row (by omega)]; exact g1'
          have g3' : fd (wI (wI (wI (wL g4 292 st.1.length (jI (rvN nm))) 293 st.1.length (iI hv)) 294 st.1.length (iI fv)) 295 st.1.length (iI kv)) 264 39 = ((st.1.length : Nat) : Int) := by rw [fd_wI_row (by omega)]; exact g2'
          have zA : ∀ a j, ¬ (a = 264 ∧ j = 39) → ¬ ((a = 293 ∨ a = 294 ∨ a = 295) ∧ j = st.1.length) → fd gA a j = fd g4 a j := fun a j q1 q2 => by
            rw [← hG, fd_wI, if_neg q1, fd_wI, if_neg (by omega), fd_wI, if_neg (by omega), fd_wI, if_neg (by omega), fd_wL]
          have lA : ∀ j, j ≠ st.1.length → fl gA 292 j = fl g4 292 j := fun j hj => by
            rw [← hG, fl_wI, fl_wI, fl_wI, fl_wI, fl_wL, if_neg (by omega)]
          refine ⟨gA, ?_, ?_, ?_, (kTR K4).trans KA⟩
          · rw [U_X12_soulTold_84]
            have f0 : (iI ((st.1.length : Nat) : Int) < iI 0) = False := iL_f (by omega) (by omega) (by omega) (by omega) (by omega)
            have cl : (iI ((st.1.length : Nat) : Int)).toNatClampNeg = st.1.length := by rw [iI_nat (by omega) (by omega)]; exact nn
            have f16 : (16 ≤ st.1.length) = False := eq_false (by omega)
            have f8 : (8 ≤ st.1.length) = False := eq_false (by omega)
            have g0' : fd (wL g4 292 st.1.length (jI (rvN nm))) 264 39 = ((st.1.length : Nat) : Int) := by rw [fd_wL]; exact f39
            (try simp only [iI_lit, iI_neg]) <;> simp (maxSteps := 1000000) (disch := decide) only [iI_lit, iI_neg, iI_add, mm_bI_some, mm_bV_some, mm_bL_some, ↓reduceIte, i10, i00, i11, eq_self, not_true_eq_false, not_false_eq_true, ite_true, ite_false, if_true, if_false, and_true, true_and, and_false, false_and, and_self, or_self, or_false, false_or, or_true, true_or, iI_eq, iI_lt, iI_le, Int.reduceEq, Int.reduceLT, Int.reduceLE, rdE e39, gt, ↓bV_eq a1, ↓bI_eq n1, ↓bV_eq a3, ↓bI_eq n4, rdE h54, rdE f39, f0, cl, f16, f8, rdE g0', rdE g1', rdE g2', rdE g3', hG]
          · obtain ⟨Tx, hp, h5, ha, hg, h6⟩ := R4
            have zz : ∀ j, j ≠ 39 → fd gA 264 j = fd g4 264 j := fun j hj => zA _ _ (by omega) (by omega)
            refine ⟨Tx.kf KA (by intro a j; unfold QRt QQ; omega), hp, (zz 5 (by omega)).trans h5, ?_, ?_, (zz 6 (by omega)).trans h6⟩
            · rw [zz 2 (by omega)]; exact ha
            · rw [zz 4 (by omega)]; exact hg
          · obtain ⟨t1, t2, t3, t4, t5, t6⟩ := T4
            refine ⟨⟨?_, ?_⟩, fun i x hx => ?_, fun j hj => ?_, ?_, ⟨?_, fun i v hv => ?_⟩, fun w hw => ?_⟩
            · rw [zA _ _ (by omega) (by omega)]; exact t1.1
            · show fd gA 264 39 = ((st.1 ++ [(nm, hv, fv, kv)]).length : Nat)
              rw [List.length_append, List.length_singleton, ← hG, fd_wI_same (by omega) (by omega)]
              omega
            · have hx' : (st.1 ++ [(nm, hv, fv, kv)])[i]? = some x := hx
              by_cases ci : i < st.1.length
              · rw [List.getElem?_append_left ci] at hx'
                rw [lA _ (by omega), zA _ _ (by omega) (by omega), zA _ _ (by omega) (by omega), zA _ _ (by omega) (by omega)]
                exact t2 i x hx'
              · have hl := (List.getElem?_eq_some_iff.mp hx').1
                rw [List.length_append, List.length_singleton] at hl
                have ei : i = st.1.length := by omega
                rw [ei, List.getElem?_append_right (Nat.le_refl _), Nat.sub_self] at hx'
                have ex : x = (nm, hv, fv, kv) := by simpa using hx'.symm
                subst ex
                rw [ei, ← hG]
                refine ⟨?_, ?_, ?_, ?_⟩
                · rw [fl_wI, fl_wI, fl_wI, fl_wI, fl_wL, if_pos ⟨rfl, rfl⟩, jI_to (by omega) (by omega)]
                · rw [fd_wI_row (by omega), fd_wI_row (by omega), fd_wI_row (by omega), fd_wI_same (by omega) (by omega)]
                · rw [fd_wI_row (by omega), fd_wI_row (by omega), fd_wI_same (by omega) (by omega)]
                · rw [fd_wI_row (by omega), fd_wI_same (by omega) (by omega)]
            · rw [zA _ _ (by omega) (by omega)]; exact t3 j hj
            · rw [zA _ _ (by omega) (by omega)]; exact t4
            · rw [zA _ _ (by omega) (by omega)]; exact t5.1
            · rw [zA _ _ (by omega) (by omega)]; exact t5.2 i v hv
            · rw [zA _ _ (by omega) (by omega), zA _ _ (by omega) (by omega)]; exact t6 w hw
        · rw [pN_f c4]
          have B4 := n6 c4
          have b5 : ¬ fd g4 264 5 = 0 := B4.ne c4
          have := fd_lo g4 264 5; have := fd_hi g4 264 5
          refine ⟨g4, ?_, B4, kTR K4⟩
          generalize (numT b E 0 9 p3 true).2.2 = kv at *
          rw [U_X12_soulTold_84]
          (try simp only [iI_lit, iI_neg]) <;> simp (maxSteps := 1000000) (disch := decide) only [iI_lit, iI_neg, iI_add, mm_bI_some, mm_bV_some, mm_bL_some, ↓reduceIte, i10, i00, i11, eq_self, not_true_eq_false, not_false_eq_true, ite_true, ite_false, if_true, if_false, and_true, true_and, and_false, false_and, and_self, or_self, or_false, false_or, or_true, true_or, iI_eq, iI_lt, iI_le, Int.reduceEq, Int.reduceLT, Int.reduceLE, rdE e39, gt, ↓bV_eq a1, ↓bI_eq n1, ↓bV_eq a3, ↓bI_eq n4, nz5 b5]
      · rw [pW_f c3]
        obtain ⟨g3, a3, B3, k3⟩ := ak2.2 (fun z => c3 (aw2.mp z))
        have b5 : ¬ fd g3 264 5 = 0 := B3.ne (by decide)
        have b3 := fun x y => B_number (d := d + 4) (g := g3) (x := x) (y := y) b5
        have := fd_lo g3 264 5; have := fd_hi g3 264 5
        refine ⟨g3, ?_, B3, kTR (k1.trans (k2.trans k3))⟩
        rw [U_X12_soulTold_84]
        (try simp only [iI_lit, iI_neg]) <;> simp (maxSteps := 1000000) (disch := decide) only [iI_lit, iI_neg, iI_add, mm_bI_some, mm_bV_some, mm_bL_some, ↓reduceIte, i10, i00, i11, eq_self, not_true_eq_false, not_false_eq_true, ite_true, ite_false, if_true, if_false, and_true, true_and, and_false, false_and, and_self, or_self, or_false, false_or, or_true, true_or, iI_eq, iI_lt, iI_le, Int.reduceEq, Int.reduceLT, Int.reduceLE, rdE e39, gt, ↓bV_eq a1, ↓bI_eq n1, ↓bV_eq a3, ↓bI_eq (b3 (iI 0) (iI 9)), nz5 b5]
    · rw [pN_f c2]
      have B2 := n3 c2
      have b5 : ¬ fd g2 264 5 = 0 := B2.ne c2
      have b2' := B_asks (d := d + 4) (a := 271) (g := g2) (by unfold isW; omega) b5
      have b3 := fun x y => B_number (d := d + 4) (g := g2) (x := x) (y := y) b5
      have := fd_lo g2 264 5; have := fd_hi g2 264 5
      refine ⟨g2, ?_, B2, kTR (k1.trans k2)⟩
      generalize (numT b E 0 9 p1 true).2.2 = kv at *
      rw [U_X12_soulTold_84]
      (try simp only [iI_lit, iI_neg]) <;> simp (maxSteps := 1000000) (disch := decide) only [iI_lit, iI_neg, iI_add, mm_bI_some, mm_bV_some, mm_bL_some, ↓reduceIte, i10, i00, i11, eq_self, not_true_eq_false, not_false_eq_true, ite_true, ite_false, if_true, if_false, and_true, true_and, and_false, false_and, and_self, or_self, or_false, false_or, or_true, true_or, iI_eq, iI_lt, iI_le, Int.reduceEq, Int.reduceLT, Int.reduceLE, rdE e39, gt, ↓bV_eq a1, ↓bI_eq n1, ↓bV_eq b2', ↓bI_eq (b3 (iI 0) (iI 9)), nz5 b5]
  · rw [pW_f c1]
    obtain ⟨g1, a1, B1, k1⟩ := ak.2 (fun z => c1 (aw.mp z))
    have b5 : ¬ fd g1 264 5 = 0 := B1.ne (by decide)
    have b2' := B_asks (d := d + 4) (a := 271) (g := g1) (by unfold isW; omega) b5
    have b3 := fun x y => B_number (d := d + 4) (g := g1) (x := x) (y := y) b5
    have := fd_lo g1 264 5; have := fd_hi g1 264 5
    refine ⟨g1, ?_, B1, kTR k1⟩
    rw [U_X12_soulTold_84]
    (try simp only [iI_lit, iI_neg]) <;> simp (maxSteps := 1000000) (disch := decide) only [iI_lit, iI_neg, iI_add, mm_bI_some, mm_bV_some, mm_bL_some, ↓reduceIte, i10, i00, i11, eq_self, not_true_eq_false, not_false_eq_true, ite_true, ite_false, if_true, if_false, and_true, true_and, and_false, false_and, and_self, or_self, or_false, false_or, or_true, true_or, iI_eq, iI_lt, iI_le, Int.reduceEq, Int.reduceLT, Int.reduceLE, rdE e39, gt, ↓bV_eq a1, ↓bV_eq b2', ↓bI_eq (b3 (iI 0) (iI 9)), nz5 b5]
set_option maxHeartbeats 8000000 in
theorem R_soulT {pl : Int} {q0 : Nat} (h2 : 2 ≤ hm ∧ hm ≤ 9) (pb : 0 ≤ pl ∧ pl ≤ 2000) (R : RS g b E p true) (T : RTs g hm st) (O : TstOK hm q0 st) : RSo b E hm g (mm_M mm_T0 (d + 6) 207 [.ref 264, .int (iI pl)] g) (stSoul b E hm st pl p) := by
  have hE := R.1.2.1
  have h5 := R.2.2.1
  have le := tS_le (b := b) (E := E) R.2.1
  have e39 := T.1.2
  have m8 := O.1.1
  unfold stSoul
  by_cases c0 : st.1.length = 8
  · rw [if_pos c0]
    rw [c0] at e39
    have e39' : fd g 264 39 = 8 := e39
    obtain ⟨g1, f1, B1, k1⟩ := R_fail (d := d + 4) (g := g) (k := 5) (pl := pl) h5 (by omega) (by omega) (by omega) (by omega)
    have b5 : ¬ fd g1 264 5 = 0 := B1.ne (by decide)
    have := fd_lo g1 264 5; have := fd_hi g1 264 5
    refine ⟨g1, ?_, B1, kTR k1⟩
    rw [U_X12_soulTold]
    (try simp only [iI_lit, iI_neg]) <;> simp (maxSteps := 1000000) (disch := decide) only [iI_lit, iI_neg, iI_add, mm_bI_some, mm_bV_some, mm_bL_some, ↓reduceIte, i10, i00, i11, eq_self, not_true_eq_false, not_false_eq_true, ite_true, ite_false, if_true, if_false, and_true, true_and, and_false, false_and, and_self, or_self, or_false, false_or, or_true, true_or, iI_eq, iI_lt, iI_le, Int.reduceEq, Int.reduceLT, Int.reduceLE, rdE h5, rdE e39', ↓bV_eq f1, nz5 b5]
  · rw [if_neg c0]
    have n8 : (iI ((st.1.length : Nat) : Int) = iI 8) = False := iI_ne (by omega) (by omega) (by omega) (by omega) (by omega)
    have nt := R_nameT (d := d + 1) R
    have nmb := nmT_b (b := b) (E := E) (p := p) (gl := true) hE R.2.1
    by_cases c1 : (nmT b E p true).1 = 0
    · rw [pM_t c1]
      obtain ⟨g1, a1, R1, e36, k1⟩ := nt.1 c1
      have nv := nmb.2.2.2 c1
      have nb : (∀ x ∈ (nmT b E p true).2.2, 1 ≤ x ∧ x ≤ 26) ∧ (nmT b E p true).2.2.length ≤ 6 := ⟨nv.2.2.2.2.2.2, nv.2.2.2.2.2.1⟩
      have T1 := T.tk k1
      have h51 := R1.2.2.1
      have no := R_nameOf (d := d + 4) (g := g1) nb T1 O.nm
      have ib := idxF_b (w := (nmT b E p true).2.2) st.1 0 (by omega)
      generalize (nmT b E p true).2.2 = nm at *
      by_cases c2 : idxF nm st.1 0 ≠ -1
      · rw [if_pos c2]
        obtain ⟨g2, f1, B2, k2⟩ := R_fail (d := d + 4) (g := g1) (k := 3) (pl := (tS b E p : Int)) h51 (by omega) (by omega) (by omega) (by omega)
        have ba := B_at (d := d) (v := jI (rvN nm)) (m := st.1.length) (B2.ne (by decide)) ((k2.1 _ _ (by unfold QTk; omega)).trans T1.1.2) m8
        refine ⟨g2, ?_, B2, kTR (k1.trans k2)⟩
        generalize idxF nm st.1 0 = ix at *
        have xq : (iI ix = iI (-1)) = False := by
          clear nt
          exact iI_ne (by omega) (by omega) (by omega) (by omega) c2
        rw [← rdE e36] at f1
        rw [← ba, U_X12_soulTold]
        unfold kAt
        (try simp only [iI_lit, iI_neg]) <;> simp (maxSteps := 1000000) (disch := decide) only [iI_lit, iI_neg, iI_add, mm_bI_some, mm_bV_some, mm_bL_some, ↓reduceIte, i10, i00, i11, eq_self, not_true_eq_false, not_false_eq_true, ite_true, ite_false, if_true, if_false, and_true, true_and, and_false, false_and, and_self, or_self, or_false, false_or, or_true, true_or, iI_eq, iI_lt, iI_le, Int.reduceEq, Int.reduceLT, Int.reduceLE, rdE h5, rdE e39, n8, ↓bL_eq a1, rdE h51, ↓bI_eq no, xq, ↓bV_eq f1]
      · rw [if_neg c2]
        have c2' : idxF nm st.1 0 = -1 := by omega
        rw [c2'] at no
        have stp : mm_M mm_T0 (d + 6) 207 [.ref 264, .int (iI pl)] g = kAt d (jI (rvN nm)) g1 := by
          rw [U_X12_soulTold]
          unfold kAt
          (try simp only [iI_lit, iI_neg]) <;> simp (maxSteps := 1000000) (disch := decide) only [iI_lit, iI_neg, iI_add, mm_bI_some, mm_bV_some, mm_bL_some, ↓reduceIte, i10, i00, i11, eq_self, not_true_eq_false, not_false_eq_true, ite_true, ite_false, if_true, if_false, and_true, true_and, and_false, false_and, and_self, or_self, or_false, false_or, or_true, true_or, iI_eq, iI_lt, iI_le, Int.reduceEq, Int.reduceLT, Int.reduceLE, rdE h5, rdE e39, n8, ↓bL_eq a1, rdE h51, ↓bI_eq no]
        rw [stp]
        refine RSo.of ?_ (kTR k1)
        generalize tL b E (tS b E p) = p1 at *
        have ak := R_asks (d := d + 1) (a := 269) (by unfold isW; omega) R1
        have aw : hasW b E (wordL 269) p1 true = true ↔ wno b E p1 true = 2 := hasW_no (by omega) rfl
        by_cases c3 : wno b E p1 true = 2
        · rw [pW_t c3]
          obtain ⟨g2, a2, R2, k2⟩ := ak.1 (aw.mpr c3)
          generalize tL b E (tS b E p1) = p2 at *
          have le2 := tS_le (b := b) (E := E) R2.2.1
          have T2 := T1.tk k2
          have f37 : fd g2 264 37 = ((hm : Nat) : Int) := T2.1.1
          have hm1 : ((hm : Nat) : Int) - 1 = ((hm - 1 : Nat) : Int) := by omega
          obtain ⟨g3, n1, k3, n2, n3⟩ := R_number (d := d + 3) (lo := 0) (hi := hm - 1) R2 (by omega) (by omega)
          rw [show ((0 : Nat) : Int) = 0 from rfl, ← hm1, ← iI_sub, ← rdE f37] at n1
          have nb2 := numT_b (b := b) (E := E) (p := p2) (gl := true) (lo := 0) (hi := hm - 1) hE R2.2.1
          have T3 := T2.tk k3
          by_cases c4 : (numT b E 0 (hm - 1) p2 true).1 = 0
          · rw [pN_t c4]
            obtain ⟨R3, e10⟩ := n2 c4
            have nv4 := nb2.2.2.2 c4
            have nv1 := nv4.1
            have nv2 := nv4.2.1
            generalize (numT b E 0 (hm - 1) p2 true).2.2 = hv at *
            have lp := R_84 (d := d + 4) (x2 := jI (rvN nm)) (hv := hv) (pl := (tS b E p2 : Int)) (r0 := []) (by omega) R3.2.2.1 T3 m8 e10 (by omega) st.1 0 (by omega) (fun j => by rw [Nat.zero_add])
            rw [show ((0 : Nat) : Int) = 0 from rfl] at lp
            have ka : kAt d (jI (rvN nm)) g1 = mm_D (mm_M mm_T0 (d + 5)) cd_X12_soulTold 84 [.ref 264, .null, .long (jI (rvN nm)), .null, .int (iI hv), .int (iI 0), .null] [] g3 := by
              unfold kAt
              (try simp only [iI_lit, iI_neg]) <;> simp (maxSteps := 1000000) (disch := decide) only [iI_lit, iI_neg, iI_add, mm_bI_some, mm_bV_some, mm_bL_some, ↓reduceIte, i10, i00, i11, eq_self, not_true_eq_false, not_false_eq_true, ite_true, ite_false, if_true, if_false, and_true, true_and, and_false, false_and, and_self, or_self, or_false, false_or, or_true, true_or, iI_eq, iI_lt, iI_le, Int.reduceEq, Int.reduceLT, Int.reduceLE, ↓bV_eq a2, ↓bI_eq n1]
            rw [ka]
            by_cases c5 : homeF hv st.1 0 ≠ -1
            · rw [if_pos c5]
              obtain ⟨g4, l1, B4, k4⟩ := lp.2 c5
              exact ⟨g4, l1, B4, kTR (k2.trans (k3.trans k4))⟩
            · rw [if_neg c5]
              have c5' : homeF hv st.1 0 = -1 := by omega
              rw [lp.1 c5']
              clear nt ak lp n2 n3 nb2
              exact RSo.of (R_84e (d := d) (nm := nm) (hv := hv) (by omega) (by omega) R3 T3 O (by omega) nb) (kTR (k2.trans k3))
          · rw [pN_f c4]
            have B3 := n3 c4
            have b4 := B_84 (d := d + 4) (x2 := jI (rvN nm)) (x4 := iI (numT b E 0 (hm - 1) p2 true).2.2) (m := st.1.length) (B3.ne c4) T3.1.2 m8 st.1.length 0 (by omega)
            rw [show ((0 : Nat) : Int) = 0 from rfl] at b4
            refine ⟨g3, ?_, B3, kTR (k2.trans k3)⟩
            generalize (numT b E 0 (hm - 1) p2 true).2.2 = hv at *
            rw [← b4]
            unfold kAt
            (try simp only [iI_lit, iI_neg]) <;> simp (maxSteps := 1000000) (disch := decide) only [iI_lit, iI_neg, iI_add, mm_bI_some, mm_bV_some, mm_bL_some, ↓reduceIte, i10, i00, i11, eq_self, not_true_eq_false, not_false_eq_true, ite_true, ite_false, if_true, if_false, and_true, true_and, and_false, false_and, and_self, or_self, or_false, false_or, or_true, true_or, iI_eq, iI_lt, iI_le, Int.reduceEq, Int.reduceLT, Int.reduceLE, ↓bV_eq a2, ↓bI_eq n1]
        · rw [pW_f c3]
          obtain ⟨g2, a2, B2, k2⟩ := ak.2 (fun z => c3 (aw.mp z))
          have b5 : ¬ fd g2 264 5 = 0 := B2.ne (by decide)
          have b3 := fun x y => B_number (d := d + 4) (g := g2) (x := x) (y := y) b5
          have b4 := B_84 (d := d + 4) (x2 := jI (rvN nm)) (x4 := iI 0) (m := st.1.length) b5 ((k2.1 _ _ (by unfold QTk; omega)).trans T1.1.2) m8 st.1.length 0 (by omega)
          rw [show ((0 : Nat) : Int) = 0 from rfl] at b4
          refine ⟨g2, ?_, B2, kTR k2⟩
          unfold kAt
          (try simp only [iI_lit, iI_neg]) <;> simp (maxSteps := 1000000) (disch := decide) only [iI_lit, iI_neg, iI_add, mm_bI_some, mm_bV_some, mm_bL_some, ↓reduceIte, i10, i00, i11, eq_self, not_true_eq_false, not_false_eq_true, ite_true, ite_false, if_true, if_false, and_true, true_and, and_false, false_and, and_self, or_self, or_false, false_or, or_true, true_or, iI_eq, iI_lt, iI_le, Int.reduceEq, Int.reduceLT, Int.reduceLE, ↓bV_eq a2, ↓bI_eq (b3 (iI 0) (g2.1 264 37 - iI 1)), b4]
    · rw [pM_f c1]
      obtain ⟨g1, a1, B1, k1⟩ := nt.2 c1
      have b5 : ¬ fd g1 264 5 = 0 := B1.ne c1
      have ba := B_at (d := d) (v := jI 0) (m := st.1.length) b5 ((k1.1 _ _ (by unfold QTk; omega)).trans e39) m8
      have := fd_lo g1 264 5; have := fd_hi g1 264 5
      refine ⟨g1, ?_, B1, kTR k1⟩
      rw [← ba, U_X12_soulTold]
      unfold kAt
      (try simp only [iI_lit, iI_neg]) <;> simp (maxSteps := 1000000) (disch := decide) only [iI_lit, iI_neg, iI_add, mm_bI_some, mm_bV_some, mm_bL_some, ↓reduceIte, i10, i00, i11, eq_self, not_true_eq_false, not_false_eq_true, ite_true, ite_false, if_true, if_false, and_true, true_and, and_false, false_and, and_self, or_self, or_false, false_or, or_true, true_or, iI_eq, iI_lt, iI_le, Int.reduceEq, Int.reduceLT, Int.reduceLE, rdE h5, rdE e39, n8, ↓bL_eq a1, nz5 b5]
end RSL
