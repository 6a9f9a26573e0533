/-! the class's years -/
section CPASS
variable {d t s : Nat}
theorem who_out {n : Int → Int} {pm hm i : Int} (hN : NI pm hm n) (hi : i < 0 ∨ hm ≤ i) : who n pm i = -1 := by
  rcases who_b (n := n) (pm := pm) (h := i) hN.1.1 with e | e
  · exact e
  · have := (hN.2.2.1 _ e.1 e.2.1).1
    rw [e.2.2] at this
    omega
theorem C_nb {h : mm_H} {pm hm p side : Int} {fc kd n : Int → Int} (hs : mm_isS s) (hS : SR h s pm hm fc kd n) (hN : NI pm hm n) (p1 : 0 ≤ p) (p2 : p < pm) (sd : side = 0 ∨ side = 1) : mm_M mm_T0 (d + 3) 111 [.ref s, .int (iI p), .int (iI side)] h = some (some (.int (iI (nb n pm p side))), h) := by
  have h8 := hN.1
  have h9 := hN.2.1
  have e10 : fd h s 10 = pm := hS.1
  have e9 : fd h s 9 = hm := hS.2.1
  have hh := (hN.2.2.1 p p1 p2).1
  have eh := (hS.2.2.2.1 p p1 p2).2.2.1
  rw [S_neighbourOf hs (by omega) (by omega) (by omega) (by omega) (fun _ _ => by rw [eh]; omega), e10, e9, eh, if_pos (by omega)]
  congr 4
  unfold nb
  generalize n (1 + 3 * p) + (if side = 0 then -1 else 1) = z
  by_cases c : 0 ≤ z ∧ z < hm ∧ z < 9
  · rw [if_pos c]
    rw [hS.2.2.2.2.2 z c.1 c.2.1]
  · rw [if_neg c, who_out hN (by omega)]
set_option maxHeartbeats 8000000 in
theorem C_stroke {h : mm_H} {pm hm p side : Int} {fc kd n : Int → Int} {cp cm cf : List Int} {ev : Evs} (ht : mm_isT t) (hs : mm_isS s) (hC : CT h t cp cm cf) (hS : SR h s pm hm fc kd n) (hN : NI pm hm n) (hF : FK pm fc kd) (y : 0 ≤ n 0 ∧ n 0 ≤ 2000) (hk : KeptC h s ev) (hl : ev.length < 9999999) (p1 : 0 ≤ p) (p2 : p < pm) (sd : side = 0 ∨ side = 1) : ∃ h', mm_M mm_T0 (d + 4) 142 [.ref t, .ref s, .int (iI p), .int (iI side)] h = some (none, h') ∧ SR h' s pm hm fc kd (strokeS cp cm pm fc kd n p side) ∧ KeptC h' s (ev ++ curtS cp pm fc kd n p side) ∧ Kf (QY t s) nL h h' := by
  have h8 := hN.1
  have h9 := hN.2.1
  have dis := ST_dis hs ht
  have e10 : fd h s 10 = pm := hS.1
  have hl1 := (hN.2.2.1 p p1 p2).2.1
  have el := (hS.2.2.2.1 p p1 p2).2.2.2.1
  have mn := C_nb (d := d) hs hS hN p1 p2 sd
  have b := nb_b (s := p) (side := side) hN
  rw [U_X10_stroke ht hs]
  by_cases c0 : nb n pm p side = -1
  · refine ⟨h, ?_, ?_, ?_, Kf.refl⟩
    · simp (disch := omega) only [iI_lit, jI_lit, iI_neg, jI_neg, iI_add, iI_sub, iI_mul, jI_add, jI_sub, jI_mul, rdI, rdL, iI_lt, iI_le, iI_eq, iI_nat, iI_b2_0, iI_b2_1, mm_bI_some, mm_bV_some, mm_bL_some, mm_bA_some, fd_wL, fd_wR, fl_wI, fl_wR, re_wI, re_wL, re_wC, ite_true, ite_false, not_true_eq_false, not_false_eq_true, lq_ge, lq_le, lq_gt, lq_lt, lq_eq, jI_lt, jI_le, jI_eq, if_pos, if_neg, mn]
    · rw [strokeS, if_pos (Or.inl c0)]
      exact hS
    · rw [curtS, if_pos (Or.inl c0), List.append_nil]
      exact hk
  · have b : 0 ≤ nb n pm p side ∧ nb n pm p side < pm ∧ nb n pm p side ≠ p := by omega
    unfold strokeS curtS
    generalize nb n pm p side = q at *
    have hq := (hN.2.2.1 q b.1 b.2.1).2.2
    have es := (hS.2.2.2.1 q b.1 b.2.1).2.2.2.2
    by_cases c1 : n (3 + 3 * q) = 1
    · refine ⟨h, ?_, ?_, ?_, Kf.refl⟩
      · simp (disch := omega) only [iI_lit, jI_lit, iI_neg, jI_neg, iI_add, iI_sub, iI_mul, jI_add, jI_sub, jI_mul, rdI, rdL, iI_lt, iI_le, iI_eq, iI_nat, iI_b2_0, iI_b2_1, mm_bI_some, mm_bV_some, mm_bL_some, mm_bA_some, fd_wL, fd_wR, fl_wI, fl_wR, re_wI, re_wL, re_wC, ite_true, ite_false, not_true_eq_false, not_false_eq_true, lq_ge, lq_le, lq_gt, lq_lt, lq_eq, jI_lt, jI_le, jI_eq, if_pos, if_neg, mn, S_sparingOf hs, e10, es]
      · rw [if_pos (Or.inr c1)]
        exact hS
      · rw [if_pos (Or.inr c1), List.append_nil]
        exact hk
    · rw [if_neg (by omega), if_neg (by omega)]
      obtain ⟨g1, a1, a2, a3⟩ := C_setP (d := d) (side := side) ht hs hS hN hF y p1 p2 b.1 b.2.1 b.2.2 sd
      have hfp := hF p p1 p2
      have hfq := hF q b.1 b.2.1
      have gb := Gp_b (side := side) hfp.1 hfq.2 (hN.2.2.2.1 q p b.1 b.2.1 p1 p2 b.2.2) y hl1 sd
      have C1 := hC.kf hs ht (a3.monoQ (QW_QY (s := s)))
      obtain ⟨g2, b1, b2'⟩ := C_rule (d := d) (w := 0) (s := s) ht hs (by omega) (by omega) C1.1 (by rw [a3.1 s 10 (by unfold QW; omega), e10]; omega) gb a2
      have vb := evv_b (O := O0) gb (fun _ _ => by unfold O0; omega) C1.1.1
      unfold vk at vb
      have k2 : Kf (QW t) nL h g2 := a3.trans b2'
      have pb : 0 ≤ paint cp fc kd n p q side ∧ paint cp fc kd n p q side ≤ 99 := cutTo_b (by omega)
      have mw := C_within (d := d + 1) (h := g2) (v := evv (Gp fc kd n p q side) O0 cp) (m := 99) (by omega) (by omega) (by omega) (by omega)
      have hv : ∃ v, paint cp fc kd n p q side = v := ⟨_, rfl⟩
      obtain ⟨v, hv⟩ := hv
      have hv' : cutTo (evv (Gp fc kd n p q side) O0 cp) 99 = v := hv
      rw [hv'] at mw
      rw [hv] at pb ⊢
      have S2 : SR g2 s pm hm fc kd n := hS.congr (fun a k a1 a2 => k2.1 a k (by unfold QW; omega))
      have S3 : SR (wI g2 (s + 4) p.toNat (iI v)) s pm hm fc kd (up n (2 + 3 * p) v) := SR_look S2 p1 p2 h8.2 pb.1 pb.2
      have ms : mm_M mm_T0 (d + 3) 112 [.ref s, .int (iI p), .int (iI v)] g2 = some (none, wI g2 (s + 4) p.toNat (iI v)) := by
        rw [S_setLook hs (by omega) (by omega), if_pos (by rw [S2.1]; omega)]
      have k3 : Kf (QY t s) nL h (wI g2 (s + 4) p.toNat (iI v)) := (k2.monoQ (QW_QY (s := s))).wI (Or.inl ⟨by omega, by omega⟩)
      have N1 : NI pm hm (up n (2 + 3 * p) v) := NI_up_look hN p1 p2 pb.1 pb.2
      have y1 : 0 ≤ (up n (2 + 3 * p) v) 0 ∧ (up n (2 + 3 * p) v) 0 ≤ 2000 := by
        rw [up_ne (by omega)]
        exact y
      have fin : ∀ g' : mm_H, Kf (QY t s) nL h g' → SR g' s pm hm fc kd (up n (2 + 3 * p) v) → ∃ h', mm_bV (mm_M mm_T0 (d + 3) 145 [.ref t, .ref s, .int (iI p), .int (iI q), .int (iI (v - n (2 + 3 * p)))] g') (fun h13 => mm_bI (mm_M mm_T0 (d + 3) 39 [.ref (t + 10), .int (iI 1), .ref s] h13) (fun v15 h14 => mm_bI (mm_M mm_T0 (d + 3) 187 [.int v15, .int (iI 9)] h14) (fun v17 h16 => mm_bV (mm_M mm_T0 (d + 3) 115 [.ref s, .int (iI p), .int (iI q), .int v17] h16) (fun h18 => some (none, h18))))) = some (none, h') ∧ SR h' s pm hm fc kd (up (up n (2 + 3 * p) v) (25 + 8 * p + q) (mindS cm fc kd (up n (2 + 3 * p) v) p q (v - n (2 + 3 * p)))) ∧ Kf (QY t s) nL h h' ∧ fd h' s 8 = fd g' s 8 ∧ (∀ k, fd h' (s + 8) k = fd g' (s + 8) k) := by
        intro g' kg sg
        have C2 := hC.kf hs ht kg
        obtain ⟨g4, d1, d2, d3⟩ := C_setM (d := d) (gain := v - n (2 + 3 * p)) ht hs sg N1 hF y1 p1 p2 b.1 b.2.1 (fun e => b.2.2 e.symm) (by omega)
        have C3 := C2.kf hs ht (d3.monoQ (QW_QY (s := s)))
        have gm := Gm_b (gain := v - n (2 + 3 * p)) hfq.1 hfp.2 (N1.2.2.2.1 p q p1 p2 b.1 b.2.1 (fun e => b.2.2 e.symm)) y1 (by omega)
        obtain ⟨g5, f1, f2⟩ := C_rule (d := d) (w := 1) (s := s) ht hs (by omega) (by omega) C3.2.1 (by rw [d3.1 s 10 (by unfold QW; omega), sg.1]; omega) gm d2
        have vm := evv_b (O := O0) gm (fun _ _ => by unfold O0; omega) C3.2.1.1
        unfold vk at vm
        have k5 : Kf (QW t) nL g' g5 := d3.trans f2
        have mb : 0 ≤ mindS cm fc kd (up n (2 + 3 * p) v) p q (v - n (2 + 3 * p)) ∧ mindS cm fc kd (up n (2 + 3 * p) v) p q (v - n (2 + 3 * p)) ≤ 9 := cutTo_b (by omega)
        have mw2 := C_within (d := d + 1) (h := g5) (v := evv (Gm fc kd (up n (2 + 3 * p) v) p q (v - n (2 + 3 * p))) O0 cm) (m := 9) (by omega) (by omega) (by omega) (by omega)
        have S5 : SR g5 s pm hm fc kd (up n (2 + 3 * p) v) := sg.congr (fun a k a1 a2 => k5.1 a k (by unfold QW; omega))
        refine ⟨wI g5 (s + 6) (p * 8 + q).toNat (iI (mindS cm fc kd (up n (2 + 3 * p) v) p q (v - n (2 + 3 * p)))), ?_, SR_thought S5 p1 p2 b.1 b.2.1 h8.2 mb.1 mb.2, (kg.trans (k5.monoQ (QW_QY (s := s)))).wI (Or.inl ⟨by omega, by omega⟩), ?_, fun k => ?_⟩
        · rw [d1, mm_bV_some, f1, mm_bI_some, mw2, mm_bI_some, S_setThought hs (by omega) (by omega) (by omega) (by omega), if_pos (by rw [S5.1]; omega)]
          rfl
        · rw [fd_wI_row (by omega), k5.1 s 8 (by unfold QW; omega)]
        · rw [fd_wI_row (by omega), k5.1 (s + 8) k (by unfold QW; omega)]
      have K3 : KeptC (wI g2 (s + 4) p.toNat (iI v)) s ev := hk.congr (by rw [fd_wI_row (by omega), k2.1 s 8 (by unfold QW; omega)]) (fun k => by rw [fd_wI_row (by omega), k2.1 (s + 8) k (by unfold QW; omega)])
      by_cases cv : v = 0 ∧ 0 < n (2 + 3 * p)
      · rw [if_pos cv]
        have e11 : fd (wI g2 (s + 4) p.toNat (iI v)) s 11 = n 0 := by
          rw [S3.2.2.1, up_ne (by omega)]
        obtain ⟨g4, q1, q2, q3⟩ := C_keep (d := d + 1) (h := wI g2 (s + 4) p.toNat (iI v)) (p := p) (q := q) hs K3 (by omega) (by rw [e11]; exact y) p1 (by omega) b.1 (by omega)
        rw [e11] at q2
        have S4 : SR g4 s pm hm fc kd (up n (2 + 3 * p) v) := by
          refine ⟨?_, ?_, ?_, fun x x1 x2 => ?_, fun x z x1 x2 z1 z2 xz => ?_, fun i i1 i2 => ?_⟩
          · rw [q3.1 s 10 (by omega)]; exact S3.1
          · rw [q3.1 s 9 (by omega)]; exact S3.2.1
          · rw [q3.1 s 11 (by omega)]; exact S3.2.2.1
          · rw [q3.1 (s + 1) _ (by omega), q3.1 (s + 2) _ (by omega), q3.1 (s + 3) _ (by omega), q3.1 (s + 4) _ (by omega), q3.1 (s + 5) _ (by omega)]
            exact S3.2.2.2.1 x x1 x2
          · rw [q3.1 (s + 6) _ (by omega)]
            exact S3.2.2.2.2.1 x z x1 x2 z1 z2 xz
          · rw [q3.1 (s + 7) _ (by omega)]
            exact S3.2.2.2.2.2 i i1 i2
        obtain ⟨h', o1, o2, o3, o4, o5⟩ := fin g4 (k3.trans (q3.monoQ (fun a k x => Or.inl (by omega)))) S4
        refine ⟨h', ?_, o2, q2.congr o4 o5, o3⟩
        simp (disch := omega) only [iI_lit, jI_lit, iI_neg, jI_neg, iI_add, iI_sub, iI_mul, jI_add, jI_sub, jI_mul, rdI, rdL, iI_lt, iI_le, iI_eq, iI_nat, iI_b2_0, iI_b2_1, mm_bI_some, mm_bV_some, mm_bL_some, mm_bA_some, fd_wL, fd_wR, fl_wI, fl_wR, re_wI, re_wL, re_wC, ite_true, ite_false, not_true_eq_false, not_false_eq_true, lq_ge, lq_le, lq_gt, lq_lt, lq_eq, jI_lt, jI_le, jI_eq, if_pos, if_neg, mn, S_sparingOf hs, e10, es, S_lookOf hs, el, a1, b1, mw, ms, q1]
        exact o1
      · rw [if_neg cv, List.append_nil]
        obtain ⟨h', o1, o2, o3, o4, o5⟩ := fin _ k3 S3
        refine ⟨h', ?_, o2, K3.congr o4 o5, o3⟩
        by_cases cv0 : v = 0
        · simp (disch := omega) only [iI_lit, jI_lit, iI_neg, jI_neg, iI_add, iI_sub, iI_mul, jI_add, jI_sub, jI_mul, rdI, rdL, iI_lt, iI_le, iI_eq, iI_nat, iI_b2_0, iI_b2_1, mm_bI_some, mm_bV_some, mm_bL_some, mm_bA_some, fd_wL, fd_wR, fl_wI, fl_wR, re_wI, re_wL, re_wC, ite_true, ite_false, not_true_eq_false, not_false_eq_true, lq_ge, lq_le, lq_gt, lq_lt, lq_eq, jI_lt, jI_le, jI_eq, if_pos, if_neg, mn, S_sparingOf hs, e10, es, S_lookOf hs, el, a1, b1, mw, ms]
          exact o1
        · simp (disch := omega) only [iI_lit, jI_lit, iI_neg, jI_neg, iI_add, iI_sub, iI_mul, jI_add, jI_sub, jI_mul, rdI, rdL, iI_lt, iI_le, iI_eq, iI_nat, iI_b2_0, iI_b2_1, mm_bI_some, mm_bV_some, mm_bL_some, mm_bA_some, fd_wL, fd_wR, fl_wI, fl_wR, re_wI, re_wL, re_wC, ite_true, ite_false, not_true_eq_false, not_false_eq_true, lq_ge, lq_le, lq_gt, lq_lt, lq_eq, jI_lt, jI_le, jI_eq, if_pos, if_neg, mn, S_sparingOf hs, e10, es, S_lookOf hs, el, a1, b1, mw, ms]
          exact o1
/-- a sitter that there is not -/
theorem C_stroke0 {h : mm_H} {side : Int} (ht : mm_isT t) (hs : mm_isS s) (sd : side = 0 ∨ side = 1) : mm_M mm_T0 (d + 4) 142 [.ref t, .ref s, .int (iI (-1)), .int (iI side)] h = some (none, h) := by
  have mn : mm_M mm_T0 (d + 3) 111 [.ref s, .int (iI (-1)), .int (iI side)] h = some (some (.int (iI (-1))), h) := by
    rw [S_neighbourOf hs (by omega) (by omega) (by omega) (by omega) (fun q => absurd q (by omega)), if_neg (by omega)]
  rw [U_X10_stroke ht hs]
  simp (disch := omega) only [iI_lit, jI_lit, iI_neg, jI_neg, iI_add, iI_sub, iI_mul, jI_add, jI_sub, jI_mul, rdI, rdL, iI_lt, iI_le, iI_eq, iI_nat, iI_b2_0, iI_b2_1, mm_bI_some, mm_bV_some, mm_bL_some, mm_bA_some, fd_wL, fd_wR, fl_wI, fl_wR, re_wI, re_wL, re_wC, ite_true, ite_false, not_true_eq_false, not_false_eq_true, lq_ge, lq_le, lq_gt, lq_lt, lq_eq, jI_lt, jI_le, jI_eq, if_pos, if_neg, mn]
def YC (t s : Nat) (h h' : mm_H) (pm hm : Int) (fc kd n' : Int → Int) (ev : Evs) : Prop := SR h' s pm hm fc kd n' ∧ KeptC h' s ev ∧ Kf (QY t s) nL h h'
theorem SR_year {h : mm_H} {pm hm v : Int} {fc kd n : Int → Int} (hS : SR h s pm hm fc kd n) (v1 : 0 ≤ v) (v2 : v ≤ 3000) : SR (wI h s 11 (iI v)) s pm hm fc kd (up n 0 v) := by
  have hw : ∀ i, who (up n 0 v) pm i = who n pm i := fun i => who_congr (fun j j1 j2 => up_ne (by omega))
  refine ⟨(fd_wI_col (by omega)).trans hS.1, (fd_wI_col (by omega)).trans hS.2.1, ?_, fun x x1 x2 => ?_, fun x z x1 x2 z1 z2 xz => ?_, fun i i1 i2 => ?_⟩
  · rw [fd_wI_same (by omega) (by omega), up_same]
  · rw [fd_wI_row (by omega), fd_wI_row (by omega), fd_wI_row (by omega), fd_wI_row (by omega), fd_wI_row (by omega), up_ne (by omega), up_ne (by omega), up_ne (by omega)]
    exact hS.2.2.2.1 x x1 x2
  · rw [fd_wI_row (by omega), up_ne (by omega)]
    exact hS.2.2.2.2.1 x z x1 x2 z1 z2 xz
  · rw [fd_wI_row (by omega), hw]
    exact hS.2.2.2.2.2 i i1 i2
/-- the houses of one year: on to the next year's head -/
theorem C_pass_20 {pm hm N j : Int} {fc kd : Int → Int} {cp cm cf : List Int} (ht : mm_isT t) (hs : mm_isS s) (hF : FK pm fc kd) : ∀ (k : Nat) (i : Int) (h : mm_H) (n : Int → Int) (ev : Evs), 0 ≤ i → i + k = hm → CT h t cp cm cf → SR h s pm hm fc kd n → NI pm hm n → (0 ≤ n 0 ∧ n 0 ≤ 2000) → KeptC h s ev → ev.length + 2 * k < 9999999 → ∃ h', mm_D (mm_M mm_T0 (d + 4)) cd_X10_pass 20 [.ref t, .ref s, .int (iI N), .int (iI j), .int (iI i), .null] [] h = mm_D (mm_M mm_T0 (d + 4)) cd_X10_pass 2 [.ref t, .ref s, .int (iI N), .int (iI (j + 1)), .null, .null] [] h' ∧ YC t s h h' pm hm fc kd (up (houseS cp cm pm fc kd k i n).1 0 ((houseS cp cm pm fc kd k i n).1 0 + 1)) (ev ++ (houseS cp cm pm fc kd k i n).2)
  | 0, i, h, n, ev, i1, i2, hC, hS, hN, y, hk, hl => by
    have h9 := hN.2.1
    refine ⟨wI h s 11 (iI (n 0 + 1)), ?_, SR_year hS (by omega) (by omega), ?_, Kf.wI Kf.refl (Or.inl ⟨by omega, by omega⟩)⟩
    · rw [U_X10_pass_20 ht hs]
      simp (disch := omega) only [iI_lit, jI_lit, iI_neg, jI_neg, iI_add, iI_sub, iI_mul, jI_add, jI_sub, jI_mul, rdI, rdL, iI_lt, iI_le, iI_eq, iI_nat, iI_b2_0, iI_b2_1, mm_bI_some, mm_bV_some, mm_bL_some, mm_bA_some, fd_wL, fd_wR, fl_wI, fl_wR, re_wI, re_wL, re_wC, ite_true, ite_false, not_true_eq_false, not_false_eq_true, lq_ge, lq_le, lq_gt, lq_lt, lq_eq, jI_lt, jI_le, jI_eq, if_pos, if_neg, hS.2.1, hS.2.2.1]
    · show KeptC _ s (ev ++ [])
      rw [List.append_nil]
      exact hk.congr (fd_wI_col (by omega)) (fun k => fd_wI_row (by omega))
  | k + 1, i, h, n, ev, i1, i2, hC, hS, hN, y, hk, hl => by
    have h9 := hN.2.1
    have h8 := hN.1
    have mw : mm_M mm_T0 (d + 4) 104 [.ref s, .int (iI i)] h = some (some (.int (iI (who n pm i))), h) := by
      rw [S_lodgerAt hs (by omega) (by omega), hS.2.1, if_pos (by omega), hS.2.2.2.2.2 i i1 (by omega)]
    have b := who_b (n := n) (pm := pm) (h := i) hN.1.1
    rw [U_X10_pass_20 ht hs]
    unfold houseS
    by_cases c : who n pm i = -1
    · rw [if_pos c]
      obtain ⟨h', m1, m2⟩ := C_pass_20 (N := N) (j := j) ht hs hF k (i + 1) h n ev (by omega) (by omega) hC hS hN y hk (by omega)
      refine ⟨h', ?_, m2⟩
      simp (disch := omega) only [iI_lit, jI_lit, iI_neg, jI_neg, iI_add, iI_sub, iI_mul, jI_add, jI_sub, jI_mul, rdI, rdL, iI_lt, iI_le, iI_eq, iI_nat, iI_b2_0, iI_b2_1, mm_bI_some, mm_bV_some, mm_bL_some, mm_bA_some, fd_wL, fd_wR, fl_wI, fl_wR, re_wI, re_wL, re_wC, ite_true, ite_false, not_true_eq_false, not_false_eq_true, lq_ge, lq_le, lq_gt, lq_lt, lq_eq, jI_lt, jI_le, jI_eq, if_pos, if_neg, hS.2.1, mw, c, C_stroke0 ht hs]
      exact m1
    · rw [if_neg c]
      have l1 := curtS_len (cp := cp) (pm := pm) (fc := fc) (kd := kd) (n := n) (s := who n pm i) (side := 0)
      have l2 := curtS_len (cp := cp) (pm := pm) (fc := fc) (kd := kd) (n := strokeS cp cm pm fc kd n (who n pm i) 0) (s := who n pm i) (side := 1)
      obtain ⟨g1, a1, a2, a3, a4⟩ := C_stroke (d := d) (p := who n pm i) (side := 0) ht hs hC hS hN hF y hk (by omega) (by omega) (by omega) (Or.inl rfl)
      have n1 := NI_stroke (cp := cp) (cm := cm) (fc := fc) (kd := kd) (s := who n pm i) (side := 0) hN (by omega) (by omega)
      have C1 := hC.kf hs ht a4
      obtain ⟨g2, b1, b2', b3, b4⟩ := C_stroke (d := d) (p := who n pm i) (side := 1) ht hs C1 a2 n1.1 hF (by rw [n1.2]; exact y) a3 (by rw [List.length_append]; omega) (by omega) (by omega) (Or.inr rfl)
      have n2 := NI_stroke (cp := cp) (cm := cm) (fc := fc) (kd := kd) (s := who n pm i) (side := 1) n1.1 (by omega) (by omega)
      obtain ⟨h', m1, m2⟩ := C_pass_20 (N := N) (j := j) ht hs hF k (i + 1) g2 _ _ (by omega) (by omega) (C1.kf hs ht b4) b2' n2.1 (by rw [n2.2, n1.2]; exact y) b3 (by rw [List.length_append, List.length_append]; omega)
      refine ⟨h', ?_, m2.1, ?_, (a4.trans b4).trans m2.2.2⟩
      · simp (disch := omega) only [iI_lit, jI_lit, iI_neg, jI_neg, iI_add, iI_sub, iI_mul, jI_add, jI_sub, jI_mul, rdI, rdL, iI_lt, iI_le, iI_eq, iI_nat, iI_b2_0, iI_b2_1, mm_bI_some, mm_bV_some, mm_bL_some, mm_bA_some, fd_wL, fd_wR, fl_wI, fl_wR, re_wI, re_wL, re_wC, ite_true, ite_false, not_true_eq_false, not_false_eq_true, lq_ge, lq_le, lq_gt, lq_lt, lq_eq, jI_lt, jI_le, jI_eq, if_pos, if_neg, hS.2.1, mw, a1, b1]
        exact m1
      · have := m2.2.1
        simp only [List.append_assoc] at this ⊢
        exact this
theorem C_pass_2 {pm hm N : Int} {fc kd : Int → Int} {cp cm cf : List Int} (ht : mm_isT t) (hs : mm_isS s) (hF : FK pm fc kd) (N2 : N < 1000) : ∀ (k : Nat) (i : Int) (h : mm_H) (n : Int → Int) (ev : Evs), 0 ≤ i → i + k = N → CT h t cp cm cf → SR h s pm hm fc kd n → NI pm hm n → (0 ≤ n 0 ∧ n 0 + k ≤ 999) → KeptC h s ev → ev.length + 18 * k < 9999000 → ∃ h', mm_D (mm_M mm_T0 (d + 4)) cd_X10_pass 2 [.ref t, .ref s, .int (iI N), .int (iI i), .null, .null] [] h = some (none, h') ∧ YC t s h h' pm hm fc kd (yearsS cp cm hm pm fc kd k n).1 (ev ++ (yearsS cp cm hm pm fc kd k n).2)
  | 0, i, h, n, ev, i1, i2, hC, hS, hN, y, hk, hl => by
    refine ⟨h, ?_, hS, ?_, Kf.refl⟩
    · rw [U_X10_pass_2 ht hs]
      simp (disch := omega) only [iI_lit, jI_lit, iI_neg, jI_neg, iI_add, iI_sub, iI_mul, jI_add, jI_sub, jI_mul, rdI, rdL, iI_lt, iI_le, iI_eq, iI_nat, iI_b2_0, iI_b2_1, mm_bI_some, mm_bV_some, mm_bL_some, mm_bA_some, fd_wL, fd_wR, fl_wI, fl_wR, re_wI, re_wL, re_wC, ite_true, ite_false, not_true_eq_false, not_false_eq_true, lq_ge, lq_le, lq_gt, lq_lt, lq_eq, jI_lt, jI_le, jI_eq, if_pos, if_neg]
    · show KeptC _ s (ev ++ [])
      rw [List.append_nil]
      exact hk
  | k + 1, i, h, n, ev, i1, i2, hC, hS, hN, y, hk, hl => by
    have h9 := hN.2.1
    have a := yearS_ok (cp := cp) (cm := cm) (fc := fc) (kd := kd) hN
    obtain ⟨g1, a1, a2⟩ := C_pass_20 (d := d) (N := N) (j := i) ht hs hF hm.toNat 0 h n ev (by omega) (by omega) hC hS hN (by omega) hk (by omega)
    have a2 : YC t s h g1 pm hm fc kd (yearS cp cm hm pm fc kd n).1 (ev ++ (yearS cp cm hm pm fc kd n).2) := a2
    obtain ⟨h', m1, m2⟩ := C_pass_2 ht hs hF N2 k (i + 1) g1 _ _ (by omega) (by omega) (hC.kf hs ht a2.2.2) a2.1 a.1 (by rw [a.2.1]; omega) a2.2.1 (by rw [List.length_append]; omega)
    refine ⟨h', ?_, m2.1, ?_, a2.2.2.trans m2.2.2⟩
    · rw [U_X10_pass_2 ht hs]
      simp (disch := omega) only [iI_lit, jI_lit, iI_neg, jI_neg, iI_add, iI_sub, iI_mul, jI_add, jI_sub, jI_mul, rdI, rdL, iI_lt, iI_le, iI_eq, iI_nat, iI_b2_0, iI_b2_1, mm_bI_some, mm_bV_some, mm_bL_some, mm_bA_some, fd_wL, fd_wR, fl_wI, fl_wR, re_wI, re_wL, re_wC, ite_true, ite_false, not_true_eq_false, not_false_eq_true, lq_ge, lq_le, lq_gt, lq_lt, lq_eq, jI_lt, jI_le, jI_eq, if_pos, if_neg, hS.2.2.1, a1]
      exact m1
    · have := m2.2.1
      rw [List.append_assoc] at this
      exact this
theorem C_pass {h : mm_H} {pm hm N : Int} {fc kd n : Int → Int} {cp cm cf : List Int} {ev : Evs} (ht : mm_isT t) (hs : mm_isS s) (hF : FK pm fc kd) (N1 : 0 ≤ N) (N2 : N < 1000) (hC : CT h t cp cm cf) (hS : SR h s pm hm fc kd n) (hN : NI pm hm n) (y : 0 ≤ n 0 ∧ n 0 + N ≤ 999) (hk : KeptC h s ev) (hl : ev.length < 9900000) : ∃ h', mm_M mm_T0 (d + 5) 141 [.ref t, .ref s, .int (iI N)] h = some (none, h') ∧ YC t s h h' pm hm fc kd (yearsS cp cm hm pm fc kd N.toNat n).1 (ev ++ (yearsS cp cm hm pm fc kd N.toNat n).2) := by
  obtain ⟨h', m1, m2⟩ := C_pass_2 (d := d) ht hs hF N2 N.toNat 0 h n ev (by omega) (by omega) hC hS hN (by omega) hk (by omega)
  refine ⟨h', ?_, m2⟩
  rw [U_X10_pass ht hs, iI_lit]
  exact m1
/-- in the last year nothing passes -/
theorem C_pass_end {h : mm_H} {N : Int} (ht : mm_isT t) (hs : mm_isS s) (N1 : 0 ≤ N) (N2 : N < 1000) (y : 999 ≤ fd h s 11) : mm_M mm_T0 (d + 1) 141 [.ref t, .ref s, .int (iI N)] h = some (none, h) := by
  have := fd_lo h s 11; have := fd_hi h s 11
  rw [U_X10_pass ht hs, U_X10_pass_2 ht hs]
  by_cases c : N ≤ 0 <;> simp (disch := omega) only [iI_lit, jI_lit, iI_neg, jI_neg, iI_add, iI_sub, iI_mul, jI_add, jI_sub, jI_mul, rdI, rdL, iI_lt, iI_le, iI_eq, iI_nat, iI_b2_0, iI_b2_1, mm_bI_some, mm_bV_some, mm_bL_some, mm_bA_some, fd_wL, fd_wR, fl_wI, fl_wR, re_wI, re_wL, re_wC, ite_true, ite_false, not_true_eq_false, not_false_eq_true, lq_ge, lq_le, lq_gt, lq_lt, lq_eq, jI_lt, jI_le, jI_eq, if_pos, if_neg]
end CPASS
