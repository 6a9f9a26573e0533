/-! the reference's strokes and years -/
abbrev Evs : Type := List (Int × Int × Int)
def KeptR (h : mm_H) (ev : Evs) : Prop := fd h 300 89 = ((min ev.length 40 : Nat) : Int) ∧ ∀ i, i < min ev.length 40 → ∀ e, ev[ev.length - min ev.length 40 + i]? = some e → fd h 300 (90 + 3 * i) = e.1 ∧ fd h 300 (91 + 3 * i) = e.2.1 ∧ fd h 300 (92 + 3 * i) = e.2.2
theorem KeptR.congr {h h' : mm_H} {ev : Evs} (r : KeptR h ev) (e : ∀ k, 89 ≤ k → fd h' 300 k = fd h 300 k) : KeptR h' ev := by
  refine ⟨(e 89 (by omega)).trans r.1, fun i hi x hx => ?_⟩
  rw [e _ (by omega), e _ (by omega), e _ (by omega)]
  exact r.2 i hi x hx
def QK : Nat → Nat → Prop := fun a k => a = 300 ∧ 89 ≤ k
def QS : Nat → Nat → Prop := fun a k => a = 300 ∨ (a = 264 ∧ (k = 108 ∨ k = 54 ∨ (57 ≤ k ∧ k ≤ 63) ∨ k = 65))
section RYEAR
variable {d : Nat}
theorem R_shift {s q : Int} : ∀ (k : Nat) (z : Int) (h : mm_H), 90 ≤ z → z + k = 207 → ∃ g, mm_D (mm_M mm_T0 d) cd_X12_isKept 23 [.ref 264, .int (iI s), .int (iI q), .int (iI z)] [] h = mm_D (mm_M mm_T0 d) cd_X12_isKept 23 [.ref 264, .int (iI s), .int (iI q), .int (iI 207)] [] g ∧ (∀ j : Nat, fd g 300 j = if z ≤ j ∧ j < 207 then fd h 300 (j + 3) else fd h 300 j) ∧ Kf QK nL h g
  | 0, z, h, h1, h2 => ⟨h, by rw [show z = 207 by omega], fun j => by rw [if_neg (by omega)], Kf.refl⟩
  | k + 1, z, h, h1, h2 => by
    obtain ⟨g, m1, m2, m3⟩ := R_shift (s := s) (q := q) k (z + 1) (wI h 300 z.toNat (iI (fd h 300 (z + 3).toNat))) (by omega) (by omega)
    refine ⟨g, ?_, fun j => ?_, (Kf.wI Kf.refl ⟨rfl, by omega⟩).trans m3⟩
    · rw [U_X12_isKept_23]
      simp (disch := omega) only [iI_lit, jI_lit, iI_neg, jI_neg, iI_add, iI_sub, iI_mul, jI_add, jI_sub, jI_mul, rdI, rdL, iI_lt, iI_le, iI_eq, iI_nat, iI_b2_0, iI_b2_1, mm_bI_some, mm_bV_some, mm_bL_some, mm_bA_some, fd_wL, fd_wR, fl_wI, fl_wR, re_wI, re_wL, re_wC, ite_true, ite_false, not_true_eq_false, not_false_eq_true, lq_ge, lq_le, lq_gt, lq_lt, lq_eq, jI_lt, jI_le, jI_eq, if_pos, if_neg, m1]
    · rw [m2]
      have b1 := fd_lo h 300 (z + 3).toNat
      have b2' := fd_hi h 300 (z + 3).toNat
      by_cases c : z + 1 ≤ (j : Int) ∧ j < 207
      · rw [if_pos c, if_pos (by omega), fd_wI_col (by omega)]
      · rw [if_neg c]
        by_cases c2 : (j : Int) = z
        · rw [if_pos (by omega)]
          have : j = z.toNat := by omega
          subst this
          rw [fd_wI_same b1 b2', show (z + 3).toNat = z.toNat + 3 by omega]
        · rw [if_neg (by omega), fd_wI_col (by omega)]
theorem R_isKept {h : mm_H} {ev : Evs} {s q : Int} (ht : fd h 264 64 = 0) (hk : KeptR h ev) (s1 : 0 ≤ s) (s2 : s < 8) (q1 : 0 ≤ q) (q2 : q < 8) : ∃ h', mm_M mm_T0 (d + 1) 231 [.ref 264, .int (iI s), .int (iI q)] h = some (none, h') ∧ KeptR h' (ev ++ [(fd h 300 0, s, q)]) ∧ Kf QK nL h h' := by
  have y1 := fd_lo h 300 0
  have y2 := fd_hi h 300 0
  rw [U_X12_isKept]
  by_cases c : ev.length < 40
  · have hm : fd h 300 89 = (ev.length : Int) := by
      rw [hk.1, Nat.min_eq_left (by omega)]
    have w1 : fd (wI h 300 89 (iI ((ev.length : Int) + 1))) 300 89 = (ev.length : Int) + 1 := fd_wI_same (by omega) (by omega)
    have w2 : fd (wI h 300 89 (iI ((ev.length : Int) + 1))) 300 0 = fd h 300 0 := fd_wI_col (by omega)
    have t1 : (90 + 3 * ((ev.length : Int) + 1) - 3).toNat = 90 + 3 * ev.length := by omega
    have t2 : (90 + 3 * ((ev.length : Int) + 1) - 3 + 1).toNat = 91 + 3 * ev.length := by omega
    have t3 : (90 + 3 * ((ev.length : Int) + 1) - 3 + 2).toNat = 92 + 3 * ev.length := by omega
    refine ⟨wI (wI (wI (wI h 300 89 (iI ((ev.length : Int) + 1))) 300 (90 + 3 * ev.length) (iI (fd h 300 0))) 300 (91 + 3 * ev.length) (iI s)) 300 (92 + 3 * ev.length) (iI q), ?_, ⟨?_, ?_⟩, ?_⟩
    · simp (disch := omega) only [iI_lit, jI_lit, iI_neg, jI_neg, iI_add, iI_sub, iI_mul, jI_add, jI_sub, jI_mul, rdI, rdL, iI_lt, iI_le, iI_eq, iI_nat, iI_b2_0, iI_b2_1, mm_bI_some, mm_bV_some, mm_bL_some, mm_bA_some, fd_wL, fd_wR, fl_wI, fl_wR, re_wI, re_wL, re_wC, ite_true, ite_false, not_true_eq_false, not_false_eq_true, lq_ge, lq_le, lq_gt, lq_lt, lq_eq, jI_lt, jI_le, jI_eq, if_pos, if_neg, ht, hm, w1, w2, t1, t2, t3]
    · rw [fd_wI_col (by omega), fd_wI_col (by omega), fd_wI_col (by omega), w1]
      simp only [List.length_append, List.length_cons, List.length_nil]
      omega
    · intro i hi e he
      simp only [List.length_append, List.length_cons, List.length_nil] at hi he
      rw [show ev.length + (0 + 1) - min (ev.length + (0 + 1)) 40 + i = i by omega] at he
      by_cases ci : i = ev.length
      · subst ci
        rw [List.getElem?_append_right (by omega)] at he
        simp at he
        subst he
        refine ⟨?_, ?_, ?_⟩
        · rw [fd_wI_col (by omega), fd_wI_col (by omega), fd_wI_same y1 y2]
        · rw [fd_wI_col (by omega), fd_wI_same (by omega) (by omega)]
        · rw [fd_wI_same (by omega) (by omega)]
      · rw [List.getElem?_append_left (by omega)] at he
        have := hk.2 i (by omega) e (by rw [show ev.length - min ev.length 40 + i = i by omega]; exact he)
        simp (disch := omega) only [fd_wI_col]
        exact this
    · refine Kf.wI (Kf.wI (Kf.wI (Kf.wI Kf.refl ?_) ?_) ?_) ?_ <;> exact ⟨rfl, by omega⟩
  · have hm : fd h 300 89 = 40 := by
      rw [hk.1, Nat.min_eq_right (by omega)]
      rfl
    obtain ⟨g, m1, m2, m3⟩ := R_shift (d := d) (s := s) (q := q) 117 90 h (by omega) (by omega)
    have g1 : fd g 300 89 = 40 := by rw [m2, if_neg (by omega), hm]
    have g2 : fd g 300 0 = fd h 300 0 := by rw [m2, if_neg (by omega)]
    refine ⟨wI (wI (wI g 300 207 (iI (fd h 300 0))) 300 208 (iI s)) 300 209 (iI q), ?_, ⟨?_, ?_⟩, ?_⟩
    · simp (disch := omega) only [iI_lit, jI_lit, iI_neg, jI_neg, iI_add, iI_sub, iI_mul, jI_add, jI_sub, jI_mul, rdI, rdL, iI_lt, iI_le, iI_eq, iI_nat, iI_b2_0, iI_b2_1, mm_bI_some, mm_bV_some, mm_bL_some, mm_bA_some, fd_wL, fd_wR, fl_wI, fl_wR, re_wI, re_wL, re_wC, ite_true, ite_false, not_true_eq_false, not_false_eq_true, lq_ge, lq_le, lq_gt, lq_lt, lq_eq, jI_lt, jI_le, jI_eq, if_pos, if_neg, ht, hm, m1]
      rw [U_X12_isKept_23]
      simp (disch := omega) only [iI_lit, jI_lit, iI_neg, jI_neg, iI_add, iI_sub, iI_mul, jI_add, jI_sub, jI_mul, rdI, rdL, iI_lt, iI_le, iI_eq, iI_nat, iI_b2_0, iI_b2_1, mm_bI_some, mm_bV_some, mm_bL_some, mm_bA_some, fd_wL, fd_wR, fl_wI, fl_wR, re_wI, re_wL, re_wC, ite_true, ite_false, not_true_eq_false, not_false_eq_true, lq_ge, lq_le, lq_gt, lq_lt, lq_eq, jI_lt, jI_le, jI_eq, if_pos, if_neg, g1, g2]
      rfl
    · rw [fd_wI_col (by omega), fd_wI_col (by omega), fd_wI_col (by omega), g1]
      simp only [List.length_append, List.length_cons, List.length_nil]
      omega
    · intro i hi e he
      simp only [List.length_append, List.length_cons, List.length_nil] at hi he
      rw [show ev.length + (0 + 1) - min (ev.length + (0 + 1)) 40 + i = ev.length - 39 + i by omega] at he
      by_cases ci : i = 39
      · subst ci
        rw [List.getElem?_append_right (by omega)] at he
        rw [show ev.length - 39 + 39 - ev.length = 0 by omega] at he
        simp at he
        subst he
        refine ⟨?_, ?_, ?_⟩
        · rw [fd_wI_col (by omega), fd_wI_col (by omega), fd_wI_same y1 y2]
        · rw [fd_wI_col (by omega), fd_wI_same (by omega) (by omega)]
        · rw [fd_wI_same (by omega) (by omega)]
      · rw [List.getElem?_append_left (by omega)] at he
        have := hk.2 (i + 1) (by omega) e (by rw [show ev.length - min ev.length 40 + (i + 1) = ev.length - 39 + i by omega]; exact he)
        simp (disch := omega) only [fd_wI_col]
        rw [m2, if_pos (by omega), m2, if_pos (by omega), m2, if_pos (by omega)]
        exact this
    · refine Kf.wI (Kf.wI (Kf.wI m3 ?_) ?_) ?_ <;> exact ⟨rfl, by omega⟩
/-- what stands in the reference while years go -/
def RT (h : mm_H) (pm hm : Int) (fc kd : Int → Int) (cp cm cf : List Int) : Prop := fd h 264 40 = pm ∧ fd h 264 38 = hm ∧ RepF h pm fc kd ∧ RuleR h 0 cp ∧ RuleR h 1 cm ∧ RuleR h 2 cf
theorem RT.kf {Q L : Nat → Nat → Prop} {h h' : mm_H} {pm hm : Int} {fc kd : Int → Int} {cp cm cf : List Int} (r : RT h pm hm fc kd cp cm cf) (k : Kf Q L h h') (q : ∀ a j, Q a j → a ≠ 294 ∧ a ≠ 295 ∧ a ≠ 297 ∧ a ≠ 298 ∧ a ≠ 299 ∧ (a = 264 → j ≠ 40 ∧ j ≠ 38)) : RT h' pm hm fc kd cp cm cf := by
  have q2 : ∀ a j, Q a j → a ≠ 297 ∧ a ≠ 298 ∧ a ≠ 299 := fun a j x => ⟨(q a j x).2.2.1, (q a j x).2.2.2.1, (q a j x).2.2.2.2.1⟩
  refine ⟨?_, ?_, ?_, r.2.2.2.1.kf k q2, r.2.2.2.2.1.kf k q2, r.2.2.2.2.2.kf k q2⟩
  · rw [k.1 264 40 (fun x => ((q _ _ x).2.2.2.2.2 rfl).1 rfl)]
    exact r.1
  · rw [k.1 264 38 (fun x => ((q _ _ x).2.2.2.2.2 rfl).2 rfl)]
    exact r.2.1
  · intro p p1 p2
    have := r.2.2.1 p p1 p2
    unfold fcR kdR at *
    rw [k.1 294 _ (fun x => (q _ _ x).1 rfl), k.1 295 _ (fun x => (q _ _ x).2.1 rfl)]
    exact this
theorem QS_RT : ∀ a j, QS a j → a ≠ 294 ∧ a ≠ 295 ∧ a ≠ 297 ∧ a ≠ 298 ∧ a ≠ 299 ∧ (a = 264 → j ≠ 40 ∧ j ≠ 38) := by
  intro a j q
  unfold QS at q
  omega
theorem QP_QS : ∀ a j, QP a j → QS a j := by
  intro a j q
  unfold QP at q
  unfold QS
  omega
theorem nb_b {n : Int → Int} {pm hm s side : Int} (hN : NI pm hm n) : nb n pm s side = -1 ∨ (0 ≤ nb n pm s side ∧ nb n pm s side < pm ∧ nb n pm s side ≠ s) := by
  unfold nb
  rcases who_b (n := n) (pm := pm) (h := n (1 + 3 * s) + (if side = 0 then -1 else 1)) hN.1.1 with e | e
  · exact Or.inl e
  · refine Or.inr ⟨e.1, e.2.1, fun q => ?_⟩
    have e2 := e.2.2
    rw [q] at e2
    split at e2 <;> omega
theorem NI_up_look {n : Int → Int} {pm hm s v : Int} (hN : NI pm hm n) (s1 : 0 ≤ s) (s2 : s < pm) (v1 : 0 ≤ v) (v2 : v ≤ 99) : NI pm hm (up n (2 + 3 * s) v) := by
  refine ⟨hN.1, hN.2.1, fun p p1 p2 => ?_, fun p q p1 p2 q1 q2 pq => ?_, fun p q p1 p2 q1 q2 e => ?_⟩
  · have := hN.2.2.1 p p1 p2
    have h1 := hN.1
    rw [up_ne (by omega), up_ne (show 3 + 3 * p ≠ 2 + 3 * s by omega)]
    refine ⟨this.1, ?_, this.2.2⟩
    by_cases c : 2 + 3 * p = 2 + 3 * s
    · rw [c, up_same]
      exact ⟨v1, v2⟩
    · rw [up_ne c]
      exact this.2.1
  · have h1 := hN.1
    rw [up_ne (by omega)]
    exact hN.2.2.2.1 p q p1 p2 q1 q2 pq
  · rw [up_ne (by omega), up_ne (by omega)] at e
    exact hN.2.2.2.2 p q p1 p2 q1 q2 e
theorem NI_up_thought {n : Int → Int} {pm hm s t v : Int} (hN : NI pm hm n) (s1 : 0 ≤ s) (s2 : s < pm) (t1 : 0 ≤ t) (t2 : t < pm) (v1 : 0 ≤ v) (v2 : v ≤ 9) : NI pm hm (up n (25 + 8 * s + t) v) := by
  have h1 := hN.1
  refine ⟨hN.1, hN.2.1, fun p p1 p2 => ?_, fun p q p1 p2 q1 q2 pq => ?_, fun p q p1 p2 q1 q2 e => ?_⟩
  · have := hN.2.2.1 p p1 p2
    rw [up_ne (by omega), up_ne (show 2 + 3 * p ≠ 25 + 8 * s + t by omega), up_ne (show 3 + 3 * p ≠ 25 + 8 * s + t by omega)]
    exact this
  · by_cases c : 25 + 8 * p + q = 25 + 8 * s + t
    · rw [c, up_same]
      exact ⟨v1, v2⟩
    · rw [up_ne c]
      exact hN.2.2.2.1 p q p1 p2 q1 q2 pq
  · rw [up_ne (by omega), up_ne (by omega)] at e
    exact hN.2.2.2.2 p q p1 p2 q1 q2 e
theorem NI_stroke {n fc kd : Int → Int} {pm hm s side : Int} {cp cm : List Int} (hN : NI pm hm n) (s1 : 0 ≤ s) (s2 : s < pm) : NI pm hm (strokeS cp cm pm fc kd n s side) ∧ strokeS cp cm pm fc kd n s side 0 = n 0 := by
  unfold strokeS
  split
  · exact ⟨hN, rfl⟩
  · rename_i c
    have b := nb_b (s := s) (side := side) hN
    have c1 : nb n pm s side ≠ -1 := fun q => c (Or.inl q)
    have p := cutTo_b (v := evv (Gp fc kd n s (nb n pm s side) side) O0 cp) (m := 99) (by omega)
    refine ⟨NI_up_thought (NI_up_look hN s1 s2 p.1 p.2) s1 s2 (by omega) (by omega) (cutTo_b (by omega)).1 (cutTo_b (by omega)).2, ?_⟩
    rw [up_ne (by omega), up_ne (by omega)]
set_option maxHeartbeats 8000000 in
theorem R_stroke {h : mm_H} {pm hm s side : Int} {fc kd n : Int → Int} {cp cm cf : List Int} (hT : RT h pm hm fc kd cp cm cf) (hr : RepR h n) (hN : NI pm hm n) (hF : FK pm fc kd) (y : 0 ≤ n 0 ∧ n 0 ≤ 2000) (s1 : 0 ≤ s) (s2 : s < pm) (sd : side = 0 ∨ side = 1) (hc : 0 ≤ fd h 264 65 ∧ fd h 264 65 < 100000000) {ev : Evs} (hk : fd h 264 64 = 0 → KeptR h ev) : ∃ h', mm_M mm_T0 (d + 5) 232 [.ref 264, .int (iI s), .int (iI side)] h = some (none, h') ∧ RepR h' (strokeS cp cm pm fc kd n s side) ∧ Kf QS LE3 h h' ∧ (fd h 264 64 ≠ 0 → ∀ k, 89 ≤ k → fd h' 300 k = fd h 300 k) ∧ (fd h 264 64 = 0 → KeptR h' (ev ++ curtS cp pm fc kd n s side)) ∧ fd h' 264 65 = fd h 264 65 + ((curtS cp pm fc kd n s side).length : Int) := by
  have h1 := hN.1
  have hh := hN.2.2.1 s s1 s2
  have hl := hh.2.1
  have rh := hr (1 + 3 * s) (by omega) (by omega)
  have rl := hr (2 + 3 * s) (by omega) (by omega)
  have hm9 := hN.2.1
  have nbe : nb (nw h) pm s side = nb n pm s side := by
    unfold nb
    rw [rh]
    exact who_congr (fun j j1 j2 => hr _ (by omega) (by omega))
  have mn := R_neighbour (d := d + 1) (h := h) (p := s) (x := side) (by rw [hT.1]; omega) (by rw [hT.1]; omega) s1 (by omega) (by omega) (by omega) (by rw [rh]; omega)
  rw [hT.1, nbe] at mn
  have b := nb_b (s := s) (side := side) hN
  rw [U_X12_stroke]
  by_cases c0 : nb n pm s side = -1
  · refine ⟨h, ?_, ?_, Kf.refl, fun _ _ _ => rfl, fun k => ?_, ?_⟩
    · simp (disch := omega) only [iI_lit, jI_lit, iI_neg, jI_neg, iI_add, iI_sub, iI_mul, jI_add, jI_sub, jI_mul, rdI, rdL, iI_lt, iI_le, iI_eq, iI_nat, iI_b2_0, iI_b2_1, mm_bI_some, mm_bV_some, mm_bL_some, mm_bA_some, fd_wL, fd_wR, fl_wI, fl_wR, re_wI, re_wL, re_wC, ite_true, ite_false, not_true_eq_false, not_false_eq_true, lq_ge, lq_le, lq_gt, lq_lt, lq_eq, jI_lt, jI_le, jI_eq, if_pos, if_neg, mn]
    · rw [strokeS, if_pos (Or.inl c0)]
      exact hr
    · rw [curtS, if_pos (Or.inl c0), List.append_nil]
      exact hk k
    · rw [curtS, if_pos (Or.inl c0)]
      simp
  · have b : 0 ≤ nb n pm s side ∧ nb n pm s side < pm ∧ nb n pm s side ≠ s := by omega
    have es : ∀ z, strokeS cp cm pm fc kd n s side z = strokeS cp cm pm fc kd n s side z := fun _ => rfl
    unfold strokeS curtS
    generalize nb n pm s side = q at *
    have rs := hr (3 + 3 * q) (by omega) (by omega)
    have hq := hN.2.2.1 q b.1 b.2.1
    by_cases c1 : n (3 + 3 * q) = 1
    · refine ⟨h, ?_, ?_, Kf.refl, fun _ _ _ => rfl, fun k => ?_, ?_⟩
      · simp (disch := omega) only [iI_lit, jI_lit, iI_neg, jI_neg, iI_add, iI_sub, iI_mul, jI_add, jI_sub, jI_mul, rdI, rdL, iI_lt, iI_le, iI_eq, iI_nat, iI_b2_0, iI_b2_1, mm_bI_some, mm_bV_some, mm_bL_some, mm_bA_some, fd_wL, fd_wR, fl_wI, fl_wR, re_wI, re_wL, re_wC, ite_true, ite_false, not_true_eq_false, not_false_eq_true, lq_ge, lq_le, lq_gt, lq_lt, lq_eq, jI_lt, jI_le, jI_eq, if_pos, if_neg, mn, R_doesSpare, rs]
      · rw [if_pos (Or.inr c1)]
        exact hr
      · rw [if_pos (Or.inr c1), List.append_nil]
        exact hk k
      · rw [if_pos (Or.inr c1)]
        simp
    · rw [if_neg (by omega), if_neg (by omega)]
      have hfs := hF s s1 s2
      have hfq := hF q b.1 b.2.1
      have rfs := hT.2.2.1 s s1 s2
      have rfq := hT.2.2.1 q b.1 b.2.1
      obtain ⟨g, m1, m2⟩ := R_painted (d := d) (side := side) hr hT.2.2.2.1 s1 (by omega) b.1 (by omega) rfs.1 rfq.2 hfs.1 hfq.2 (hN.2.2.2.1 q s b.1 b.2.1 s1 s2 b.2.2) y hl sd
      have pb : 0 ≤ paint cp fc kd n s q side ∧ paint cp fc kd n s q side ≤ 99 := cutTo_b (by omega)
      have hv : ∃ v, paint cp fc kd n s q side = v := ⟨_, rfl⟩
      obtain ⟨v, hv⟩ := hv
      rw [hv] at m1 pb ⊢
      -- the row with the new look
      have rep1 : ∀ g' : mm_H, (∀ k, k < 89 → fd g' 300 k = fd (wI g 300 (2 + 3 * s).toNat (iI v)) 300 k) → RepR g' (up n (2 + 3 * s) v) := by
        intro g' e z z1 z2
        show fd g' 300 z.toNat = _
        rw [e _ (by omega)]
        by_cases cz : z = 2 + 3 * s
        · rw [cz, up_same, fd_wI_same (by omega) (by omega)]
        · rw [up_ne cz, fd_wI_col (by omega), m2.1 300 _ (by unfold QP; omega)]
          exact hr z z1 z2
      have N1 : NI pm hm (up n (2 + 3 * s) v) := NI_up_look hN s1 s2 pb.1 pb.2
      have y1 : 0 ≤ (up n (2 + 3 * s) v) 0 ∧ (up n (2 + 3 * s) v) 0 ≤ 2000 := by
        rw [up_ne (by omega)]
        exact y
      -- the mind behind it, and the last writing
      have fin : ∀ g' : mm_H, Kf QS LE3 h g' → RepR g' (up n (2 + 3 * s) v) → ∃ h', mm_bI (mm_M mm_T0 (d + 4) 229 [.ref 264, .int (iI s), .int (iI q), .int (iI (v - n (2 + 3 * s)))] g') (fun v10 h9 => some (none, wI h9 300 (25 + 8 * s + q).toNat v10)) = some (none, h') ∧ RepR h' (up (up n (2 + 3 * s) v) (25 + 8 * s + q) (mindS cm fc kd (up n (2 + 3 * s) v) s q (v - n (2 + 3 * s)))) ∧ Kf QS LE3 h h' ∧ (∀ k, 89 ≤ k → fd h' 300 k = fd g' 300 k) ∧ fd h' 264 65 = fd g' 264 65 := by
        intro g' kg rg
        have T1 := hT.kf kg QS_RT
        have rfq1 := T1.2.2.1 q b.1 b.2.1
        have rfs1 := T1.2.2.1 s s1 s2
        obtain ⟨g2, n1, n2⟩ := R_minded (d := d) (gain := v - n (2 + 3 * s)) rg T1.2.2.2.2.1 s1 (by omega) b.1 (by omega) rfq1.1 rfs1.2 hfq.1 hfs.2 (N1.2.2.2.1 s q s1 s2 b.1 b.2.1 (fun e => b.2.2 e.symm)) y1 (by omega)
        have mb : 0 ≤ mindS cm fc kd (up n (2 + 3 * s) v) s q (v - n (2 + 3 * s)) ∧ mindS cm fc kd (up n (2 + 3 * s) v) s q (v - n (2 + 3 * s)) ≤ 9 := cutTo_b (by omega)
        refine ⟨wI g2 300 (25 + 8 * s + q).toNat (iI (mindS cm fc kd (up n (2 + 3 * s) v) s q (v - n (2 + 3 * s)))), ?_, ?_, (kg.trans (n2.mono QP_QS (fun _ _ q => q))).wI (Or.inl rfl), ?_, ?_⟩
        · rw [n1]
          rfl
        · intro z z1 z2
          show fd _ 300 z.toNat = _
          by_cases cz : z = 25 + 8 * s + q
          · rw [cz, up_same, fd_wI_same (by omega) (by omega)]
          · rw [up_ne cz, fd_wI_col (by omega), n2.1 300 _ (by unfold QP; omega)]
            exact rg z z1 z2
        · intro k hk
          rw [fd_wI_col (by omega), n2.1 300 _ (by unfold QP; omega)]
        · rw [fd_wI_row (by omega), n2.1 264 65 (by unfold QP; omega)]
      have rlg : nw h (2 + 3 * s) = n (2 + 3 * s) := rl
      have kg1 : Kf QS LE3 h (wI g 300 (2 + 3 * s).toNat (iI v)) := (m2.mono QP_QS (fun _ _ q => q)).wI (Or.inl rfl)
      by_cases cv : v = 0 ∧ 0 < n (2 + 3 * s)
      · have g65 : fd (wI g 300 (2 + 3 * s).toNat (iI v)) 264 65 = fd h 264 65 := by
          rw [fd_wI_row (by omega), m2.1 264 65 (by unfold QP; omega)]
        have k2 : Kf QS LE3 h (wI (wI g 300 (2 + 3 * s).toNat (iI v)) 264 65 (iI (fd h 264 65 + 1))) := kg1.wI (Or.inr ⟨rfl, by omega⟩)
        have e64 : fd (wI (wI g 300 (2 + 3 * s).toNat (iI v)) 264 65 (iI (fd h 264 65 + 1))) 264 64 = fd h 264 64 := k2.1 264 64 (by unfold QS; omega)
        have e65 : fd (wI (wI g 300 (2 + 3 * s).toNat (iI v)) 264 65 (iI (fd h 264 65 + 1))) 264 65 = fd h 264 65 + 1 := fd_wI_same (by omega) (by omega)
        have e300 : ∀ k, 89 ≤ k → fd (wI (wI g 300 (2 + 3 * s).toNat (iI v)) 264 65 (iI (fd h 264 65 + 1))) 300 k = fd h 300 k := fun k hk => by
          rw [fd_wI_row (by omega), fd_wI_col (by omega), m2.1 300 _ (by unfold QP; omega)]
        have e0 : fd (wI (wI g 300 (2 + 3 * s).toNat (iI v)) 264 65 (iI (fd h 264 65 + 1))) 300 0 = n 0 := by
          rw [fd_wI_row (by omega), fd_wI_col (by omega), m2.1 300 _ (by unfold QP; omega)]
          exact hr 0 (by omega) (by omega)
        rw [if_pos cv]
        by_cases ht : fd h 264 64 = 0
        · obtain ⟨h3, p1, p2, p3⟩ := R_isKept (d := d + 3) (h := wI (wI g 300 (2 + 3 * s).toNat (iI v)) 264 65 (iI (fd h 264 65 + 1))) (s := s) (q := q) (e64.trans ht) ((hk ht).congr e300) s1 (by omega) b.1 (by omega)
          rw [e0] at p2
          have k3 : Kf QS LE3 h h3 := k2.trans (p3.mono (fun a k x => Or.inl x.1) (fun _ _ x => x.elim))
          obtain ⟨h', o1, o2, o3, o4, o5⟩ := fin h3 k3 (rep1 h3 (fun k hk => by rw [p3.1 300 _ (by unfold QK; omega), fd_wI_row (by omega)]))
          refine ⟨h', ?_, o2, o3, fun x => absurd ht x, fun _ => p2.congr o4, ?_⟩
          · simp (disch := omega) only [iI_lit, jI_lit, iI_neg, jI_neg, iI_add, iI_sub, iI_mul, jI_add, jI_sub, jI_mul, rdI, rdL, iI_lt, iI_le, iI_eq, iI_nat, iI_b2_0, iI_b2_1, mm_bI_some, mm_bV_some, mm_bL_some, mm_bA_some, fd_wL, fd_wR, fl_wI, fl_wR, re_wI, re_wL, re_wC, ite_true, ite_false, not_true_eq_false, not_false_eq_true, lq_ge, lq_le, lq_gt, lq_lt, lq_eq, jI_lt, jI_le, jI_eq, if_pos, if_neg, mn, R_doesSpare, rs, R_lookOf, rlg, m1, g65, p1]
            exact o1
          · rw [o5, p3.1 264 65 (by unfold QK; omega), e65]
            simp
        · have p1 : mm_M mm_T0 (d + 4) 231 [.ref 264, .int (iI s), .int (iI q)] (wI (wI g 300 (2 + 3 * s).toNat (iI v)) 264 65 (iI (fd h 264 65 + 1))) = some (none, wI (wI g 300 (2 + 3 * s).toNat (iI v)) 264 65 (iI (fd h 264 65 + 1))) := by
            have l1 := fd_lo h 264 64
            have l2 := fd_hi h 264 64
            rw [U_X12_isKept]
            simp (disch := omega) only [iI_lit, jI_lit, iI_neg, jI_neg, iI_add, iI_sub, iI_mul, jI_add, jI_sub, jI_mul, rdI, rdL, iI_lt, iI_le, iI_eq, iI_nat, iI_b2_0, iI_b2_1, mm_bI_some, mm_bV_some, mm_bL_some, mm_bA_some, fd_wL, fd_wR, fl_wI, fl_wR, re_wI, re_wL, re_wC, ite_true, ite_false, not_true_eq_false, not_false_eq_true, lq_ge, lq_le, lq_gt, lq_lt, lq_eq, jI_lt, jI_le, jI_eq, if_pos, if_neg, e64]
          obtain ⟨h', o1, o2, o3, o4, o5⟩ := fin _ k2 (rep1 _ (fun k hk => by rw [fd_wI_row (by omega)]))
          refine ⟨h', ?_, o2, o3, fun _ k hk => by rw [o4 k hk, e300 k hk], fun x => absurd x ht, ?_⟩
          · simp (disch := omega) only [iI_lit, jI_lit, iI_neg, jI_neg, iI_add, iI_sub, iI_mul, jI_add, jI_sub, jI_mul, rdI, rdL, iI_lt, iI_le, iI_eq, iI_nat, iI_b2_0, iI_b2_1, mm_bI_some, mm_bV_some, mm_bL_some, mm_bA_some, fd_wL, fd_wR, fl_wI, fl_wR, re_wI, re_wL, re_wC, ite_true, ite_false, not_true_eq_false, not_false_eq_true, lq_ge, lq_le, lq_gt, lq_lt, lq_eq, jI_lt, jI_le, jI_eq, if_pos, if_neg, mn, R_doesSpare, rs, R_lookOf, rlg, m1, g65, p1]
            exact o1
          · rw [o5, e65]
            simp
      · rw [if_neg cv]
        obtain ⟨h', o1, o2, o3, o4, o5⟩ := fin _ kg1 (rep1 _ (fun _ _ => rfl))
        refine ⟨h', ?_, o2, o3, fun _ k hk => ?_, fun k => ?_, ?_⟩
        · by_cases cv0 : v = 0
          · simp (disch := omega) only [iI_lit, jI_lit, iI_neg, jI_neg, iI_add, iI_sub, iI_mul, jI_add, jI_sub, jI_mul, rdI, rdL, iI_lt, iI_le, iI_eq, iI_nat, iI_b2_0, iI_b2_1, mm_bI_some, mm_bV_some, mm_bL_some, mm_bA_some, fd_wL, fd_wR, fl_wI, fl_wR, re_wI, re_wL, re_wC, ite_true, ite_false, not_true_eq_false, not_false_eq_true, lq_ge, lq_le, lq_gt, lq_lt, lq_eq, jI_lt, jI_le, jI_eq, if_pos, if_neg, mn, R_doesSpare, rs, R_lookOf, rlg, m1]
            exact o1
          · simp (disch := omega) only [iI_lit, jI_lit, iI_neg, jI_neg, iI_add, iI_sub, iI_mul, jI_add, jI_sub, jI_mul, rdI, rdL, iI_lt, iI_le, iI_eq, iI_nat, iI_b2_0, iI_b2_1, mm_bI_some, mm_bV_some, mm_bL_some, mm_bA_some, fd_wL, fd_wR, fl_wI, fl_wR, re_wI, re_wL, re_wC, ite_true, ite_false, not_true_eq_false, not_false_eq_true, lq_ge, lq_le, lq_gt, lq_lt, lq_eq, jI_lt, jI_le, jI_eq, if_pos, if_neg, mn, R_doesSpare, rs, R_lookOf, rlg, m1]
            exact o1
        · rw [o4 k hk, fd_wI_col (by omega), m2.1 300 _ (by unfold QP; omega)]
        · rw [List.append_nil]
          exact (hk k).congr (fun j hj => by rw [o4 j hj, fd_wI_col (by omega), m2.1 300 _ (by unfold QP; omega)])
        · rw [o5, fd_wI_row (by omega), m2.1 264 65 (by unfold QP; omega)]
          simp
/-- what a stretch of strokes leaves -/
def YR (h h' : mm_H) (n' : Int → Int) (ev es : Evs) : Prop := RepR h' n' ∧ Kf QS LE3 h h' ∧ (fd h 264 64 ≠ 0 → ∀ k, 89 ≤ k → fd h' 300 k = fd h 300 k) ∧ (fd h 264 64 = 0 → KeptR h' (ev ++ es)) ∧ fd h' 264 65 = fd h 264 65 + (es.length : Int)
theorem YR.e64 {h h' : mm_H} {n' : Int → Int} {ev es : Evs} (a : YR h h' n' ev es) : fd h' 264 64 = fd h 264 64 := a.2.1.1 264 64 (by unfold QS; omega)
theorem YR.trans {h h1 h2 : mm_H} {n1 n2 : Int → Int} {ev es es2 : Evs} (a : YR h h1 n1 ev es) (b : YR h1 h2 n2 (ev ++ es) es2) : YR h h2 n2 ev (es ++ es2) := by
  have e := a.e64
  refine ⟨b.1, a.2.1.trans b.2.1, fun x k hk => ?_, fun x => ?_, ?_⟩
  · rw [b.2.2.1 (by rw [e]; exact x) k hk, a.2.2.1 x k hk]
  · rw [← List.append_assoc]
    exact b.2.2.2.1 (by rw [e]; exact x)
  · rw [b.2.2.2.2, a.2.2.2.2, List.length_append]
    omega
theorem curtS_len {cp : List Int} {pm : Int} {fc kd n : Int → Int} {s side : Int} : (curtS cp pm fc kd n s side).length ≤ 1 := by
  unfold curtS
  repeat' split
  all_goals simp
theorem houseS_ok {cp cm : List Int} {pm hm : Int} {fc kd : Int → Int} : ∀ (k : Nat) (i : Int) (n : Int → Int), NI pm hm n → NI pm hm (houseS cp cm pm fc kd k i n).1 ∧ (houseS cp cm pm fc kd k i n).1 0 = n 0 ∧ (houseS cp cm pm fc kd k i n).2.length ≤ 2 * k
  | 0, i, n, hN => ⟨hN, rfl, by simp [houseS]⟩
  | k + 1, i, n, hN => by
    unfold houseS
    by_cases c : who n pm i = -1
    · rw [if_pos c]
      have := houseS_ok (cp := cp) (cm := cm) (fc := fc) (kd := kd) k (i + 1) n hN
      exact ⟨this.1, this.2.1, by omega⟩
    · rw [if_neg c]
      have b := who_b (n := n) (pm := pm) (h := i) hN.1.1
      have n1 := NI_stroke (cp := cp) (cm := cm) (fc := fc) (kd := kd) (s := who n pm i) (side := 0) hN (by omega) (by omega)
      have n2 := NI_stroke (cp := cp) (cm := cm) (fc := fc) (kd := kd) (s := who n pm i) (side := 1) n1.1 (by omega) (by omega)
      have := houseS_ok (cp := cp) (cm := cm) (fc := fc) (kd := kd) k (i + 1) _ n2.1
      refine ⟨this.1, by rw [this.2.1, n2.2, n1.2], ?_⟩
      have l1 := curtS_len (cp := cp) (pm := pm) (fc := fc) (kd := kd) (n := n) (s := who n pm i) (side := 0)
      have l2 := curtS_len (cp := cp) (pm := pm) (fc := fc) (kd := kd) (n := strokeS cp cm pm fc kd n (who n pm i) 0) (s := who n pm i) (side := 1)
      simp only [List.length_append]
      omega
theorem NI_up0 {n : Int → Int} {pm hm v : Int} (hN : NI pm hm n) : NI pm hm (up n 0 v) := by
  refine ⟨hN.1, hN.2.1, fun p p1 p2 => ?_, fun p q p1 p2 q1 q2 pq => ?_, fun p q p1 p2 q1 q2 e => ?_⟩
  · rw [up_ne (by omega), up_ne (by omega), up_ne (by omega)]
    exact hN.2.2.1 p p1 p2
  · rw [up_ne (by omega)]
    exact hN.2.2.2.1 p q p1 p2 q1 q2 pq
  · rw [up_ne (by omega), up_ne (by omega)] at e
    exact hN.2.2.2.2 p q p1 p2 q1 q2 e
theorem yearS_ok {cp cm : List Int} {pm hm : Int} {fc kd n : Int → Int} (hN : NI pm hm n) : NI pm hm (yearS cp cm hm pm fc kd n).1 ∧ (yearS cp cm hm pm fc kd n).1 0 = n 0 + 1 ∧ (yearS cp cm hm pm fc kd n).2.length ≤ 18 := by
  have := houseS_ok (cp := cp) (cm := cm) (fc := fc) (kd := kd) hm.toNat 0 n hN
  have h9 := hN.2.1
  refine ⟨NI_up0 this.1, ?_, ?_⟩
  · show up (houseS cp cm pm fc kd hm.toNat 0 n).1 0 ((houseS cp cm pm fc kd hm.toNat 0 n).1 0 + 1) 0 = _
    rw [up_same, this.2.1]
  · show (houseS cp cm pm fc kd hm.toNat 0 n).2.length ≤ 18
    omega
theorem yearsS_ok {cp cm : List Int} {pm hm : Int} {fc kd : Int → Int} : ∀ (k : Nat) (n : Int → Int), NI pm hm n → NI pm hm (yearsS cp cm hm pm fc kd k n).1 ∧ (yearsS cp cm hm pm fc kd k n).1 0 = n 0 + k ∧ (yearsS cp cm hm pm fc kd k n).2.length ≤ 18 * k
  | 0, n, hN => ⟨hN, by simp [yearsS], by simp [yearsS]⟩
  | k + 1, n, hN => by
    have a := yearS_ok (cp := cp) (cm := cm) (fc := fc) (kd := kd) hN
    have b := yearsS_ok (cp := cp) (cm := cm) (fc := fc) (kd := kd) k _ a.1
    unfold yearsS
    refine ⟨b.1, ?_, ?_⟩
    · rw [b.2.1, a.2.1]
      omega
    · simp only [List.length_append]
      omega
theorem R_yearGoes_2 {pm hm : Int} {fc kd : Int → Int} {cp cm cf : List Int} (hF : FK pm fc kd) : ∀ (k : Nat) (i : Int) (h : mm_H) (n : Int → Int) (ev : Evs), 0 ≤ i → i + k = hm → RT h pm hm fc kd cp cm cf → RepR h n → NI pm hm n → (0 ≤ n 0 ∧ n 0 ≤ 2000) → (0 ≤ fd h 264 65 ∧ fd h 264 65 + 2 * k < 100000000) → (fd h 264 64 = 0 → KeptR h ev) → ∃ h', mm_D (mm_M mm_T0 (d + 5)) cd_X12_yearGoes 2 [.ref 264, .int (iI i), .null] [] h = some (none, h') ∧ YR h h' (up (houseS cp cm pm fc kd k i n).1 0 ((houseS cp cm pm fc kd k i n).1 0 + 1)) ev (houseS cp cm pm fc kd k i n).2
  | 0, i, h, n, ev, i1, i2, hT, hr, hN, y, hc, hk => by
    have h9 := hN.2.1
    have e0 : fd h 300 0 = n 0 := hr 0 (by omega) (by omega)
    refine ⟨wI h 300 0 (iI (n 0 + 1)), ?_, ?_, Kf.wI Kf.refl (Or.inl rfl), fun _ k hk => fd_wI_col (by omega), fun x => ?_, ?_⟩
    · rw [U_X12_yearGoes_2]
      simp (disch := omega) only [iI_lit, jI_lit, iI_neg, jI_neg, iI_add, iI_sub, iI_mul, jI_add, jI_sub, jI_mul, rdI, rdL, iI_lt, iI_le, iI_eq, iI_nat, iI_b2_0, iI_b2_1, mm_bI_some, mm_bV_some, mm_bL_some, mm_bA_some, fd_wL, fd_wR, fl_wI, fl_wR, re_wI, re_wL, re_wC, ite_true, ite_false, not_true_eq_false, not_false_eq_true, lq_ge, lq_le, lq_gt, lq_lt, lq_eq, jI_lt, jI_le, jI_eq, if_pos, if_neg, hT.2.1, e0]
    · intro z z1 z2
      show fd _ 300 z.toNat = up n 0 (n 0 + 1) z
      by_cases cz : z = 0
      · subst cz
        rw [up_same]
        exact fd_wI_same (by omega) (by omega)
      · rw [up_ne cz, fd_wI_col (by omega)]
        exact hr z z1 z2
    · show KeptR _ (ev ++ [])
      rw [List.append_nil]
      exact (hk x).congr (fun k hk => fd_wI_col (by omega))
    · rw [fd_wI_row (by omega)]
      simp [houseS]
  | k + 1, i, h, n, ev, i1, i2, hT, hr, hN, y, hc, hk => by
    have h9 := hN.2.1
    have h8 := hN.1
    have mw := R_whoIn (d := d + 3) (h := h) (x := i) (by rw [hT.1]; omega) (by rw [hT.1]; omega) (by omega) (by omega)
    rw [hT.1, who_congr (fun j j1 j2 => hr _ (by omega) (by omega)) (m := n)] at mw
    have b := who_b (n := n) (pm := pm) (h := i) hN.1.1
    rw [U_X12_yearGoes_2]
    unfold houseS
    by_cases c : who n pm i = -1
    · rw [if_pos c]
      obtain ⟨h', m1, m2⟩ := R_yearGoes_2 (cp := cp) (cm := cm) (cf := cf) hF k (i + 1) h n ev (by omega) (by omega) hT hr hN y (by omega) hk
      refine ⟨h', ?_, m2⟩
      simp (disch := omega) only [iI_lit, jI_lit, iI_neg, jI_neg, iI_add, iI_sub, iI_mul, jI_add, jI_sub, jI_mul, rdI, rdL, iI_lt, iI_le, iI_eq, iI_nat, iI_b2_0, iI_b2_1, mm_bI_some, mm_bV_some, mm_bL_some, mm_bA_some, fd_wL, fd_wR, fl_wI, fl_wR, re_wI, re_wL, re_wC, ite_true, ite_false, not_true_eq_false, not_false_eq_true, lq_ge, lq_le, lq_gt, lq_lt, lq_eq, jI_lt, jI_le, jI_eq, if_pos, if_neg, hT.2.1, mw]
      exact m1
    · rw [if_neg c]
      have l1 := curtS_len (cp := cp) (pm := pm) (fc := fc) (kd := kd) (n := n) (s := who n pm i) (side := 0)
      have l2 := curtS_len (cp := cp) (pm := pm) (fc := fc) (kd := kd) (n := strokeS cp cm pm fc kd n (who n pm i) 0) (s := who n pm i) (side := 1)
      obtain ⟨g1, a1, a2⟩ := R_stroke (d := d) (s := who n pm i) (side := 0) hT hr hN hF y (by omega) (by omega) (Or.inl rfl) (by omega) hk
      have a2 : YR h g1 _ ev _ := a2
      have n1 := NI_stroke (cp := cp) (cm := cm) (fc := fc) (kd := kd) (s := who n pm i) (side := 0) hN (by omega) (by omega)
      have f1 := a2.2.2.2.2
      have t1 := hT.kf a2.2.1 QS_RT
      obtain ⟨g2, b1, b2'⟩ := R_stroke (d := d) (s := who n pm i) (side := 1) t1 a2.1 n1.1 hF (by rw [n1.2]; exact y) (by omega) (by omega) (Or.inr rfl) (by omega) (ev := ev ++ curtS cp pm fc kd n (who n pm i) 0) (fun x => a2.2.2.2.1 (by rw [← a2.e64]; exact x))
      have b2' : YR g1 g2 _ _ _ := b2'
      have n2 := NI_stroke (cp := cp) (cm := cm) (fc := fc) (kd := kd) (s := who n pm i) (side := 1) n1.1 (by omega) (by omega)
      have f2 := b2'.2.2.2.2
      have ab := a2.trans b2'
      obtain ⟨h', m1, m2⟩ := R_yearGoes_2 (cp := cp) (cm := cm) (cf := cf) hF k (i + 1) g2 _ (ev ++ (curtS cp pm fc kd n (who n pm i) 0 ++ curtS cp pm fc kd (strokeS cp cm pm fc kd n (who n pm i) 0) (who n pm i) 1)) (by omega) (by omega) (t1.kf b2'.2.1 QS_RT) b2'.1 n2.1 (by rw [n2.2, n1.2]; exact y) (by omega) (fun x => ab.2.2.2.1 (by rw [← ab.e64]; exact x))
      refine ⟨h', ?_, ab.trans m2⟩
      simp (disch := omega) only [iI_lit, jI_lit, iI_neg, jI_neg, iI_add, iI_sub, iI_mul, jI_add, jI_sub, jI_mul, rdI, rdL, iI_lt, iI_le, iI_eq, iI_nat, iI_b2_0, iI_b2_1, mm_bI_some, mm_bV_some, mm_bL_some, mm_bA_some, fd_wL, fd_wR, fl_wI, fl_wR, re_wI, re_wL, re_wC, ite_true, ite_false, not_true_eq_false, not_false_eq_true, lq_ge, lq_le, lq_gt, lq_lt, lq_eq, jI_lt, jI_le, jI_eq, if_pos, if_neg, hT.2.1, mw, a1, b1]
      exact m1
theorem R_yearGoes {h : mm_H} {pm hm : Int} {fc kd n : Int → Int} {cp cm cf : List Int} {ev : Evs} (hF : FK pm fc kd) (hT : RT h pm hm fc kd cp cm cf) (hr : RepR h n) (hN : NI pm hm n) (y : 0 ≤ n 0 ∧ n 0 ≤ 2000) (hc : 0 ≤ fd h 264 65 ∧ fd h 264 65 < 90000000) (hk : fd h 264 64 = 0 → KeptR h ev) : ∃ h', mm_M mm_T0 (d + 6) 233 [.ref 264] h = some (none, h') ∧ YR h h' (yearS cp cm hm pm fc kd n).1 ev (yearS cp cm hm pm fc kd n).2 := by
  have h9 := hN.2.1
  obtain ⟨h', m1, m2⟩ := R_yearGoes_2 (d := d) hF hm.toNat 0 h n ev (by omega) (by omega) hT hr hN y (by omega) hk
  refine ⟨h', ?_, m2⟩
  rw [U_X12_yearGoes, iI_lit]
  exact m1
theorem R_yearsGo_2 {pm hm N : Int} {fc kd : Int → Int} {cp cm cf : List Int} (hF : FK pm fc kd) (N2 : N < 1000) : ∀ (k : Nat) (i : Int) (h : mm_H) (n : Int → Int) (ev : Evs), 0 ≤ i → i + k = N → RT h pm hm fc kd cp cm cf → RepR h n → NI pm hm n → (0 ≤ n 0 ∧ n 0 + k ≤ 2000) → (0 ≤ fd h 264 65 ∧ fd h 264 65 + 18 * k < 90000000) → (fd h 264 64 = 0 → KeptR h ev) → ∃ h', mm_D (mm_M mm_T0 (d + 6)) cd_X12_yearsGo 2 [.ref 264, .int (iI N), .int (iI i)] [] h = some (none, h') ∧ YR h h' (yearsS cp cm hm pm fc kd k n).1 ev (yearsS cp cm hm pm fc kd k n).2
  | 0, i, h, n, ev, i1, i2, hT, hr, hN, y, hc, hk => by
    refine ⟨h, ?_, hr, Kf.refl, fun _ _ _ => rfl, fun x => ?_, by simp [yearsS]⟩
    · rw [U_X12_yearsGo_2]
      simp (disch := omega) only [iI_lit, jI_lit, iI_neg, jI_neg, iI_add, iI_sub, iI_mul, jI_add, jI_sub, jI_mul, rdI, rdL, iI_lt, iI_le, iI_eq, iI_nat, iI_b2_0, iI_b2_1, mm_bI_some, mm_bV_some, mm_bL_some, mm_bA_some, fd_wL, fd_wR, fl_wI, fl_wR, re_wI, re_wL, re_wC, ite_true, ite_false, not_true_eq_false, not_false_eq_true, lq_ge, lq_le, lq_gt, lq_lt, lq_eq, jI_lt, jI_le, jI_eq, if_pos, if_neg]
    · show KeptR _ (ev ++ [])
      rw [List.append_nil]
      exact hk x
  | k + 1, i, h, n, ev, i1, i2, hT, hr, hN, y, hc, hk => by
    obtain ⟨g1, a1, a2⟩ := R_yearGoes (d := d) (cf := cf) (ev := ev) hF hT hr hN (by omega) (by omega) hk
    have a := yearS_ok (cp := cp) (cm := cm) (fc := fc) (kd := kd) hN
    have f1 := a2.2.2.2.2
    obtain ⟨h', m1, m2⟩ := R_yearsGo_2 (cp := cp) (cm := cm) (cf := cf) hF N2 k (i + 1) g1 _ (ev ++ (yearS cp cm hm pm fc kd n).2) (by omega) (by omega) (hT.kf a2.2.1 QS_RT) a2.1 a.1 (by rw [a.2.1]; omega) (by omega) (fun x => a2.2.2.2.1 (by rw [← a2.e64]; exact x))
    refine ⟨h', ?_, a2.trans m2⟩
    rw [U_X12_yearsGo_2]
    simp (disch := omega) only [iI_lit, jI_lit, iI_neg, jI_neg, iI_add, iI_sub, iI_mul, jI_add, jI_sub, jI_mul, rdI, rdL, iI_lt, iI_le, iI_eq, iI_nat, iI_b2_0, iI_b2_1, mm_bI_some, mm_bV_some, mm_bL_some, mm_bA_some, fd_wL, fd_wR, fl_wI, fl_wR, re_wI, re_wL, re_wC, ite_true, ite_false, not_true_eq_false, not_false_eq_true, lq_ge, lq_le, lq_gt, lq_lt, lq_eq, jI_lt, jI_le, jI_eq, if_pos, if_neg, a1]
    exact m1
theorem R_yearsGo {h : mm_H} {pm hm N : Int} {fc kd n : Int → Int} {cp cm cf : List Int} {ev : Evs} (hF : FK pm fc kd) (N1 : 0 ≤ N) (N2 : N < 1000) (hT : RT h pm hm fc kd cp cm cf) (hr : RepR h n) (hN : NI pm hm n) (y : 0 ≤ n 0 ∧ n 0 + N ≤ 2000) (hc : 0 ≤ fd h 264 65 ∧ fd h 264 65 < 80000000) (hk : fd h 264 64 = 0 → KeptR h ev) : ∃ h', mm_M mm_T0 (d + 7) 234 [.ref 264, .int (iI N)] h = some (none, h') ∧ YR h h' (yearsS cp cm hm pm fc kd N.toNat n).1 ev (yearsS cp cm hm pm fc kd N.toNat n).2 := by
  obtain ⟨h', m1, m2⟩ := R_yearsGo_2 (d := d) hF N2 N.toNat 0 h n ev (by omega) (by omega) hT hr hN (by omega) (by omega) hk
  refine ⟨h', ?_, m2⟩
  rw [U_X12_yearsGo, iI_lit]
  exact m1
end RYEAR
