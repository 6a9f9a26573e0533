/-! trials of both: later, mind, curtain -/
/-- what a trial of the class changes -/
def SC (t : Nat) : Nat → Nat → Prop := fun a k => (a = 204 ∧ k ≠ 2) ∨ (205 ≤ a ∧ a ≤ 213) ∨ (215 ≤ a ∧ a ≤ 217) ∨ a = t + 14 ∨ a = t + 15 ∨ (a = t + 10 ∧ k = 6)
theorem QY_SC {t : Nat} : ∀ a k, QY t 205 a k → SC t a k := by
  intro a k q
  unfold QY at q
  unfold SC
  omega
/-- g is a trial of h in the reference, with at most b curtains more -/
def TR (E : Nat → Nat → Prop) (h g : mm_H) (b : Int) : Prop := TRi E h g ∧ 0 ≤ fd g 264 65 ∧ fd g 264 65 ≤ fd h 264 65 + b
section LATER
variable {d t : Nat} {h g : mm_H} {pm hm : Int} {fc kd n : Int → Int} {cp cm cf : List Int} {ev : Evs} {E : Nat → Nat → Prop} {b : Int}
theorem yearsS_1 : yearsS cp cm hm pm fc kd 1 n = yearS cp cm hm pm fc kd n := by
  simp only [yearsS, List.append_nil]
theorem TR.years {N : Int} (T : TR E h g b) (hb : fd h 264 65 + b < 75000000) (hF : FK pm fc kd) (N1 : 0 ≤ N) (N2 : N < 1000) (hT : RT g pm hm fc kd cp cm cf) (hr : RepR g n) (hN : NI pm hm n) (y : 0 ≤ n 0 ∧ n 0 + N ≤ 2000) : ∃ g', mm_M mm_T0 (d + 7) 234 [.ref 264, .int (iI N)] g = some (none, g') ∧ TR E h g' (b + 18 * N) ∧ RT g' pm hm fc kd cp cm cf ∧ RepR g' (yearsS cp cm hm pm fc kd N.toNat n).1 ∧ Kf QS LE3 g g' := by
  have t64 := T.1.1
  obtain ⟨g', m1, m2⟩ := R_yearsGo (d := d) (ev := []) hF N1 N2 hT hr hN y (by have := T.2; omega) (by intro e; omega)
  have ok := yearsS_ok (cp := cp) (cm := cm) (fc := fc) (kd := kd) N.toNat n hN
  have e := m2.2.2.2.2
  have := T.2
  exact ⟨g', m1, ⟨T.1.yr m2, by omega, by omega⟩, hT.kf2 m2.2.1 (by intro a j; unfold NR QS; omega), m2.1, m2.2.1⟩
theorem TR.year (T : TR E h g b) (hb : fd h 264 65 + b < 75000000) (hF : FK pm fc kd) (hT : RT g pm hm fc kd cp cm cf) (hr : RepR g n) (hN : NI pm hm n) (y : 0 ≤ n 0 ∧ n 0 ≤ 2000) : ∃ g', mm_M mm_T0 (d + 6) 233 [.ref 264] g = some (none, g') ∧ TR E h g' (b + 18) ∧ RT g' pm hm fc kd cp cm cf ∧ RepR g' (yearS cp cm hm pm fc kd n).1 ∧ Kf QS LE3 g g' := by
  have t64 := T.1.1
  obtain ⟨g', m1, m2⟩ := R_yearGoes (d := d) (ev := []) hF hT hr hN y (by have := T.2; omega) (by intro e; omega)
  have ok := yearS_ok (cp := cp) (cm := cm) (fc := fc) (kd := kd) hN
  have e := m2.2.2.2.2
  have := T.2
  exact ⟨g', m1, ⟨T.1.yr m2, by omega, by omega⟩, hT.kf2 m2.2.1 (by intro a j; unfold NR QS; omega), m2.1, m2.2.1⟩
theorem TR.begin (h65 : 0 ≤ fd h 264 65) (hT : RT h pm hm fc kd cp cm cf) (hr : RepR h n) : ∃ g, mm_M mm_T0 (d + 1) 235 [.ref 264] h = some (none, g) ∧ TR E h g 0 ∧ RT g pm hm fc kd cp cm cf ∧ RepR g n ∧ Kf (fun a k => a = 301 ∨ (a = 264 ∧ k = 64)) nL h g := by
  obtain ⟨g, m1, m2, m3, m4⟩ := R_putsAside (d := d) (E := E) (h := h)
  have e : fd g 264 65 = fd h 264 65 := m4.1 _ _ (by omega)
  refine ⟨g, m1, ⟨m2, by omega, by omega⟩, hT.kf2 m4 (by intro a j; unfold NR; omega), fun z z1 z2 => ?_, m4⟩
  show fd g 300 z.toNat = _
  rw [m3]
  exact hr z z1 z2
theorem TR.anew {n0 : Int → Int} (T : TR E h g b) (hT : RT g pm hm fc kd cp cm cf) (h0 : RepR h n0) : ∃ g', mm_M mm_T0 (d + 1) 236 [.ref 264] g = some (none, g') ∧ TR E h g' b ∧ RT g' pm hm fc kd cp cm cf ∧ RepR g' n0 ∧ Kf (fun a _ => a = 300) nL g g' := by
  obtain ⟨g', m1, m2, m3, m4⟩ := R_triesAnew (d := d) T.1
  have e : fd g' 264 65 = fd g 264 65 := m4.1 _ _ (by omega)
  have := T.2
  refine ⟨g', m1, ⟨m2, by omega, by omega⟩, hT.kf2 m4 (by intro a j; unfold NR; omega), fun z z1 z2 => ?_, m4⟩
  show fd g' 300 z.toNat = _
  rw [m3]
  exact h0 z z1 z2
theorem TR.back (T : TR E h g b) : ∃ g', mm_M mm_T0 (d + 2) 237 [.ref 264] g = some (none, g') ∧ Kf (QTb E) LE3 h g' ∧ fd g' 264 64 = 0 ∧ (0 ≤ fd g' 264 65 ∧ fd g' 264 65 ≤ fd h 264 65 + b) ∧ Kf (fun a k => a = 300 ∨ (a = 264 ∧ k = 64)) nL g g' := by
  obtain ⟨g', m1, m2, m3, m4⟩ := R_takesBack (d := d) T.1
  have e : fd g' 264 65 = fd g 264 65 := m4.1 _ _ (by omega)
  have := T.2
  exact ⟨g', m1, m2, m3, by omega, m4⟩
/-- a write to the trial's row -/
theorem TR.w {z v : Int} (T : TR E h g b) (z0 : 0 ≤ z) (z1 : z < 89) : TR E h (wI g 300 z.toNat (iI v)) b := by
  obtain ⟨⟨t1, t2, t3, t4⟩, t5, t6⟩ := T
  refine ⟨⟨?_, fun k hk => ?_, fun k hk => ?_, t4.wI (by unfold QTr; omega)⟩, ?_, ?_⟩
  · rw [fd_wI_row (by omega)]; exact t1
  · rw [fd_wI_row (by omega)]; exact t2 k hk
  · rw [fd_wI_col (by omega)]; exact t3 k hk
  · rw [fd_wI_row (by omega)]; exact t5
  · rw [fd_wI_row (by omega)]; exact t6
/-- a step that writes only the row's first part -/
theorem TR.st {g' : mm_H} (T : TR E h g b) (k : Kf (fun a k => a = 300 ∧ k < 89) nL g g') : TR E h g' b := by
  obtain ⟨⟨t1, t2, t3, t4⟩, t5, t6⟩ := T
  refine ⟨⟨?_, fun j hj => ?_, fun j hj => ?_, t4.trans (k.mono (fun a k q => Or.inl q.1) (fun a k q => q.elim))⟩, ?_, ?_⟩
  · rw [k.1 _ _ (by omega)]; exact t1
  · rw [k.1 _ _ (by omega)]; exact t2 j hj
  · rw [k.1 _ _ (by omega)]; exact t3 j hj
  · rw [k.1 _ _ (by omega)]; exact t5
  · rw [k.1 _ _ (by omega)]; exact t6
/-- a step beside the row -/
theorem TR.ext {g' : mm_H} {Q : Nat → Nat → Prop} (T : TR E h g b) (k : Kf Q nL g g') (q : ∀ a k, Q a k → E a k ∧ a ≠ 300 ∧ a ≠ 301 ∧ (a = 264 → k ≠ 64 ∧ k ≠ 65)) : TR E h g' b := by
  obtain ⟨⟨t1, t2, t3, t4⟩, t5, t6⟩ := T
  have z : ∀ a k', (a = 300 ∨ a = 301 ∨ (a = 264 ∧ (k' = 64 ∨ k' = 65))) → fd g' a k' = fd g a k' := fun a k' x => k.1 a k' (fun y => by have := q a k' y; omega)
  refine ⟨⟨?_, fun j hj => ?_, fun j hj => ?_, t4.trans (k.mono (fun a k' x => by have := q a k' x; unfold QTr; exact Or.inr (Or.inr (Or.inr this.1))) (fun a k q => q.elim))⟩, ?_, ?_⟩
  · rw [z _ _ (by omega)]; exact t1
  · rw [z _ _ (by omega)]; exact t2 j hj
  · rw [z _ _ (by omega)]; exact t3 j hj
  · rw [z _ _ (by omega)]; exact t5
  · rw [z _ _ (by omega)]; exact t6
set_option maxHeartbeats 8000000 in
/-- the class copies the scene for a trial -/
theorem C_try (ht : mm_isT t) (hC : CT h t cp cm cf) (hS : SR h 13 pm hm fc kd n) (hk : KeptC h 13 ev) (hN : NI pm hm n) : ∃ g, mm_M mm_T0 (d + 1) 100 [.ref 205, .ref 13] h = some (none, g) ∧ SR g 205 pm hm fc kd n ∧ KeptC g 205 ev ∧ CT g t cp cm cf ∧ Kf (SC t) nL h g := by
  have tt := isT_or ht
  obtain ⟨g, m1, m2, m3⟩ := C_copy (d := d) (h := h) isS_205 isS_13 (by omega)
  have k : Kf (SC t) nL h g := m3.monoQ (fun a k q => by unfold QSc at q; unfold SC; omega)
  exact ⟨g, m1, m2.SR hN.1.2 hN.2.1.2 hS, m2.Kept hk, hC.kf3 k (by intro a j; unfold NC SC; omega), k⟩
set_option maxHeartbeats 8000000 in
theorem C_tryYears {N : Int} (ht : mm_isT t) (hF : FK pm fc kd) (N1 : 0 ≤ N) (N2 : N < 1000) (hC : CT g t cp cm cf) (hS : SR g 205 pm hm fc kd n) (hk : KeptC g 205 ev) (hl : ev.length < 9900000) (hN : NI pm hm n) (y : 0 ≤ n 0 ∧ n 0 + N ≤ 999) : ∃ g', mm_M mm_T0 (d + 5) 141 [.ref t, .ref 205, .int (iI N)] g = some (none, g') ∧ SR g' 205 pm hm fc kd (yearsS cp cm hm pm fc kd N.toNat n).1 ∧ KeptC g' 205 (ev ++ (yearsS cp cm hm pm fc kd N.toNat n).2) ∧ CT g' t cp cm cf ∧ Kf (QY t 205) nL g g' := by
  have tt := isT_or ht
  obtain ⟨g', m1, m2, m3, m4⟩ := C_pass (d := d) ht isS_205 hF N1 N2 hC hS hN y hk hl
  exact ⟨g', m1, m2, m3, hC.kf3 m4 (by intro a j; unfold NC QY; omega), m4⟩
set_option maxHeartbeats 8000000 in
theorem C_after {N : Int} (ht : mm_isT t) (hF : FK pm fc kd) (N1 : 0 ≤ N) (N2 : N < 1000) (hC : CT h t cp cm cf) (hS : SR h 13 pm hm fc kd n) (hk : KeptC h 13 ev) (hl : ev.length < 9900000) (hN : NI pm hm n) (y : 0 ≤ n 0 ∧ n 0 + N ≤ 999) : ∃ g, mm_M mm_T0 (d + 6) 15 [.ref 204, .ref t, .ref 13, .int (iI N)] h = some (some (.ref 205), g) ∧ SR g 205 pm hm fc kd (yearsS cp cm hm pm fc kd N.toNat n).1 ∧ Kf (SC t) nL h g := by
  obtain ⟨g1, m1, m2, m3, m4, m5⟩ := C_try (d := d + 4) ht hC hS hk hN
  obtain ⟨g2, q1, q2, q3, q4, q5⟩ := C_tryYears (d := d) (N := N) ht hF N1 N2 m4 m2 m3 hl hN y
  refine ⟨g2, ?_, q2, m5.trans (q5.monoQ QY_SC)⟩
  rw [U_X0_sceneAfter ht isS_13, m1, mm_bV_some, q1, mm_bV_some]
set_option maxHeartbeats 8000000 in
/-- after trials of both -/
theorem Inv.tri {h1 h2 : mm_H} {i st : Int} {past : Past} (M : IvM h) (W : IvW h i t st pm hm fc kd cp cm cf n ev) (H : IvH h i pm hm fc kd past) (S : IvS h pm) (P : IvP h) (N : IvN h t pm) (k1 : Kf (SC t) nL h h1) (k2 : Kf (QTb E) LE3 h1 h2) (he : ∀ a k, E a k → (301 ≤ a ∧ a ≤ 302) ∨ a = 304 ∨ a = 305 ∨ (a = 264 ∧ k = 71)) (e64 : fd h2 264 64 = 0) (e65 : 0 ≤ fd h2 264 65 ∧ fd h2 264 65 ≤ fd h1 264 65 + b) (hb : b ≤ 120000) (hi : i + 6 ≤ 3072) : Inv h2 (i + 6) := by
  have f : fd h1 264 65 = fd h 264 65 := k1.1 264 65 (by have := isT_or W.1.1; unfold SC; omega)
  exact Inv.of M W H S P N (Kf.trans (k1.mono (fun a k q => by unfold SC at q; unfold Scr; omega) (fun a k q => q.elim)) (k2.monoQ (fun a k q => by
    unfold QTb at q
    unfold Scr
    rcases q with q | q | q
    · omega
    · omega
    · have := he a k q; omega))) e64 (by omega) hi
theorem sh_205 : mm_sh 205 = (0, 7) := by decide
end LATER
section LATERC
variable {a b c : Int}
set_option maxHeartbeats 8000000 in
theorem K_later (al : -2147483648 ≤ a) (au : a < 2147483648) (bl : -2147483648 ≤ b) (bu : b < 2147483648) : CallI 160 253 [.int (iI a), .int (iI b)] := by
  intro d h i I hi
  have I0 := I
  obtain ⟨t, st, pm, hm, fc, kd, cp, cm, cf, n, ev, past, M, W, H, S, P, N⟩ := I
  have W0 := W
  obtain ⟨w1, w2, w3, w4, w5, w6, w7, w8, w9, w10, w11, w12, w13⟩ := W
  have tt := isT_or w1.1
  have h8 := w5.1
  have e40 : fd h 264 40 = pm := w3.1
  have e10 : fd h 13 10 = pm := w8.1
  have e11 : fd h 13 11 = n 0 := w8.2.2.1
  have e0 : fd h 300 0 = n 0 := w4 0 (by omega) (by omega)
  by_cases c0 : (0 ≤ a ∧ a < pm) ∧ (0 ≤ b ∧ b ≤ 60) ∧ n 0 + b ≤ 999
  · have st1 : st = 1 := by have := w2.1; have := w2.2.2.2.1; omega
    obtain ⟨h1, p1, p2, p3⟩ := C_after (d := d + 33) (N := b) w1.1 w6 (by omega) (by omega) (w2.2.2.2.2 st1) w8 w10.1 (by omega) w5 (by omega)
    have T1 : RT h1 pm hm fc kd cp cm cf := w3.kf2 p3 (by intro a j; unfold NR SC; omega)
    have R1 : RepR h1 n := w4.kf p3 (by intro j hj; unfold SC; omega)
    have f65 : fd h1 264 65 = fd h 264 65 := p3.1 _ _ (by unfold SC; omega)
    obtain ⟨g1, q1, q2, q3, q4, q5⟩ := TR.begin (d := d + 38) (E := nE) (h := h1) (by omega) T1 R1
    obtain ⟨g2, r1, r2, r3, r4, r5⟩ := q2.years (d := d + 32) (N := b) (by omega) w6 (by omega) (by omega) q3 q4 w5 (by omega)
    obtain ⟨g3, s1, s2, s3, s4, s5⟩ := r2.back (d := d + 37)
    have ok := yearsS_ok (cp := cp) (cm := cm) (fc := fc) (kd := kd) b.toNat n w5
    refine ⟨iI ((yearsS cp cm hm pm fc kd b.toNat n).1 (2 + 3 * a)), h1, g3, ?_, ?_, Inv.tri M W0 H S P N p3 s2 (fun a k e => e.elim) s3 s4 (by omega) hi⟩
    · have l := C_look (d := d + 37) isS_205 p2 h8.2 c0.1.1 c0.1.2
      have rt := w1.2.1
      rw [U_X11_later]
      simp (disch := omega) only [iI_lit, jI_lit, iI_neg, jI_neg, iI_add, iI_sub, iI_mul, jI_add, jI_sub, jI_mul, rdI, rdL, iI_lt, iI_le, iI_eq, iI_nat, iI_b2_0, iI_b2_1, mm_bI_some, mm_bV_some, mm_bL_some, mm_bA_some, fd_wL, fd_wR, fl_wI, fl_wR, re_wI, re_wL, re_wC, ite_true, ite_false, not_true_eq_false, not_false_eq_true, lq_ge, lq_le, lq_gt, lq_lt, lq_eq, jI_lt, jI_le, jI_eq, if_pos, if_neg, S_isPerson isS_13, e10, C_canPass, e11, rt, p1, sh_205, l]
    · have f40 : fd h1 264 40 = pm := T1.1
      have f0 : fd h1 300 0 = n 0 := R1 0 (by omega) (by omega)
      have z := r4 (2 + 3 * a) (by omega) (by omega)
      rw [U_X12_later, iI_jI al au]
      simp (disch := omega) only [iI_lit, jI_lit, iI_neg, jI_neg, iI_add, iI_sub, iI_mul, jI_add, jI_sub, jI_mul, rdI, rdL, iI_lt, iI_le, iI_eq, iI_nat, iI_b2_0, iI_b2_1, mm_bI_some, mm_bV_some, mm_bL_some, mm_bA_some, fd_wL, fd_wR, fl_wI, fl_wR, re_wI, re_wL, re_wC, ite_true, ite_false, not_true_eq_false, not_false_eq_true, lq_ge, lq_le, lq_gt, lq_lt, lq_eq, jI_lt, jI_le, jI_eq, if_pos, if_neg, R_isPerson, f40, R_isAhead, f0, q1, r1, R_lookOf, z, s1]
  · refine ⟨iI (-1), h, h, ?_, ?_, I0.next hi⟩
    · rw [U_X11_later]
      by_cases z : 0 ≤ a ∧ a < pm <;> simp (disch := omega) only [iI_lit, jI_lit, iI_neg, jI_neg, iI_add, iI_sub, iI_mul, jI_add, jI_sub, jI_mul, rdI, rdL, iI_lt, iI_le, iI_eq, iI_nat, iI_b2_0, iI_b2_1, mm_bI_some, mm_bV_some, mm_bL_some, mm_bA_some, fd_wL, fd_wR, fl_wI, fl_wR, re_wI, re_wL, re_wC, ite_true, ite_false, not_true_eq_false, not_false_eq_true, lq_ge, lq_le, lq_gt, lq_lt, lq_eq, jI_lt, jI_le, jI_eq, if_pos, if_neg, S_isPerson isS_13, e10, C_canPass, e11]
    · rw [U_X12_later, iI_jI al au]
      by_cases z : 0 ≤ a ∧ a < pm <;> simp (disch := omega) only [iI_lit, jI_lit, iI_neg, jI_neg, iI_add, iI_sub, iI_mul, jI_add, jI_sub, jI_mul, rdI, rdL, iI_lt, iI_le, iI_eq, iI_nat, iI_b2_0, iI_b2_1, mm_bI_some, mm_bV_some, mm_bL_some, mm_bA_some, fd_wL, fd_wR, fl_wI, fl_wR, re_wI, re_wL, re_wC, ite_true, ite_false, not_true_eq_false, not_false_eq_true, lq_ge, lq_le, lq_gt, lq_lt, lq_eq, jI_lt, jI_le, jI_eq, if_pos, if_neg, R_isPerson, e40, R_isAhead, e0]
set_option maxHeartbeats 8000000 in
theorem K_mind (al : -2147483648 ≤ a) (au : a < 2147483648) (bl : -2147483648 ≤ b) (bu : b < 2147483648) (cl : -2147483648 ≤ c) (cu : c < 2147483648) : CallI 161 254 [.int (iI a), .int (iI b), .int (iI c)] := by
  intro d h i I hi
  have I0 := I
  obtain ⟨t, st, pm, hm, fc, kd, cp, cm, cf, n, ev, past, M, W, H, S, P, N⟩ := I
  have W0 := W
  obtain ⟨w1, w2, w3, w4, w5, w6, w7, w8, w9, w10, w11, w12, w13⟩ := W
  have tt := isT_or w1.1
  have h8 := w5.1
  have e40 : fd h 264 40 = pm := w3.1
  have e10 : fd h 13 10 = pm := w8.1
  have e11 : fd h 13 11 = n 0 := w8.2.2.1
  have e0 : fd h 300 0 = n 0 := w4 0 (by omega) (by omega)
  by_cases c0 : ((0 ≤ a ∧ a < pm) ∧ (0 ≤ b ∧ b < pm) ∧ a ≠ b) ∧ (0 ≤ c ∧ c ≤ 60) ∧ n 0 + c ≤ 999
  · have st1 : st = 1 := by have := w2.1; have := w2.2.2.2.1; omega
    obtain ⟨h1, p1, p2, p3⟩ := C_after (d := d + 33) (N := c) w1.1 w6 (by omega) (by omega) (w2.2.2.2.2 st1) w8 w10.1 (by omega) w5 (by omega)
    have T1 : RT h1 pm hm fc kd cp cm cf := w3.kf2 p3 (by intro a j; unfold NR SC; omega)
    have R1 : RepR h1 n := w4.kf p3 (by intro j hj; unfold SC; omega)
    have f65 : fd h1 264 65 = fd h 264 65 := p3.1 _ _ (by unfold SC; omega)
    obtain ⟨g1, q1, q2, q3, q4, q5⟩ := TR.begin (d := d + 38) (E := nE) (h := h1) (by omega) T1 R1
    obtain ⟨g2, r1, r2, r3, r4, r5⟩ := q2.years (d := d + 32) (N := c) (by omega) w6 (by omega) (by omega) q3 q4 w5 (by omega)
    obtain ⟨g3, s1, s2, s3, s4, s5⟩ := r2.back (d := d + 37)
    refine ⟨iI ((yearsS cp cm hm pm fc kd c.toNat n).1 (25 + 8 * a + b)), h1, g3, ?_, ?_, Inv.tri M W0 H S P N p3 s2 (fun a k e => e.elim) s3 s4 (by omega) hi⟩
    · have l := C_think (d := d + 38) isS_205 p2 h8.2 c0.1.1.1 c0.1.1.2 c0.1.2.1.1 c0.1.2.1.2 c0.1.2.2
      have rt := w1.2.1
      rw [U_X11_mind]
      simp (disch := omega) only [iI_lit, jI_lit, iI_neg, jI_neg, iI_add, iI_sub, iI_mul, jI_add, jI_sub, jI_mul, rdI, rdL, iI_lt, iI_le, iI_eq, iI_nat, iI_b2_0, iI_b2_1, mm_bI_some, mm_bV_some, mm_bL_some, mm_bA_some, fd_wL, fd_wR, fl_wI, fl_wR, re_wI, re_wL, re_wC, ite_true, ite_false, not_true_eq_false, not_false_eq_true, lq_ge, lq_le, lq_gt, lq_lt, lq_eq, jI_lt, jI_le, jI_eq, if_pos, if_neg, S_arePair isS_13, e10, C_canPass, e11, rt, p1, sh_205, l]
    · have f40 : fd h1 264 40 = pm := T1.1
      have f0 : fd h1 300 0 = n 0 := R1 0 (by omega) (by omega)
      have z := r4 (25 + 8 * a + b) (by omega) (by omega)
      rw [U_X12_mind]
      simp (disch := omega) only [iI_lit, jI_lit, iI_neg, jI_neg, iI_add, iI_sub, iI_mul, jI_add, jI_sub, jI_mul, rdI, rdL, iI_lt, iI_le, iI_eq, iI_nat, iI_b2_0, iI_b2_1, mm_bI_some, mm_bV_some, mm_bL_some, mm_bA_some, fd_wL, fd_wR, fl_wI, fl_wR, re_wI, re_wL, re_wC, ite_true, ite_false, not_true_eq_false, not_false_eq_true, lq_ge, lq_le, lq_gt, lq_lt, lq_eq, jI_lt, jI_le, jI_eq, if_pos, if_neg, R_areTwo, f40, R_isAhead, f0, q1, r1, R_thoughtOf, z, s1]
  · refine ⟨iI (-1), h, h, ?_, ?_, I0.next hi⟩
    · rw [U_X11_mind]
      by_cases z : (0 ≤ a ∧ a < pm) ∧ (0 ≤ b ∧ b < pm) ∧ a ≠ b <;> simp (disch := omega) only [iI_lit, jI_lit, iI_neg, jI_neg, iI_add, iI_sub, iI_mul, jI_add, jI_sub, jI_mul, rdI, rdL, iI_lt, iI_le, iI_eq, iI_nat, iI_b2_0, iI_b2_1, mm_bI_some, mm_bV_some, mm_bL_some, mm_bA_some, fd_wL, fd_wR, fl_wI, fl_wR, re_wI, re_wL, re_wC, ite_true, ite_false, not_true_eq_false, not_false_eq_true, lq_ge, lq_le, lq_gt, lq_lt, lq_eq, jI_lt, jI_le, jI_eq, if_pos, if_neg, S_arePair isS_13, e10, C_canPass, e11]
    · rw [U_X12_mind]
      by_cases z : (0 ≤ a ∧ a < pm) ∧ (0 ≤ b ∧ b < pm) ∧ a ≠ b <;> simp (disch := omega) only [iI_lit, jI_lit, iI_neg, jI_neg, iI_add, iI_sub, iI_mul, jI_add, jI_sub, jI_mul, rdI, rdL, iI_lt, iI_le, iI_eq, iI_nat, iI_b2_0, iI_b2_1, mm_bI_some, mm_bV_some, mm_bL_some, mm_bA_some, fd_wL, fd_wR, fl_wI, fl_wR, re_wI, re_wL, re_wC, ite_true, ite_false, not_true_eq_false, not_false_eq_true, lq_ge, lq_le, lq_gt, lq_lt, lq_eq, jI_lt, jI_le, jI_eq, if_pos, if_neg, R_areTwo, e40, R_isAhead, e0]
/-- the first year from j on, of k more, with an empty portrait -/
def curF (cp cm : List Int) (hm pm : Int) (fc kd : Int → Int) (p : Int) : Nat → Int → (Int → Int) → Int
  | 0, j, n => if n (2 + 3 * p) = 0 then j else -1
  | k + 1, j, n => if n (2 + 3 * p) = 0 then j else curF cp cm hm pm fc kd p k (j + 1) (yearS cp cm hm pm fc kd n).1
set_option maxHeartbeats 8000000 in
theorem C_curtain_26 {d t : Nat} {pm hm p last : Int} {fc kd : Int → Int} {cp cm cf : List Int} (ht : mm_isT t) (hF : FK pm fc kd) (p1 : 0 ≤ p) (p2 : p < pm) (l1 : 0 ≤ last) (l2 : last ≤ 60) : ∀ (k : Nat) (j : Int) (g : mm_H) (n : Int → Int) (ev : Evs), 0 ≤ j → j + k = last → CT g t cp cm cf → SR g 205 pm hm fc kd n → NI pm hm n → (0 ≤ n 0 ∧ n 0 + k ≤ 999) → KeptC g 205 ev → ev.length + 18 * k < 9800000 → ∃ g', mm_D (mm_M mm_T0 (d + 5)) cd_X0_firstCurtain 26 [.ref 204, .ref t, .null, .int (iI p), .int (iI last), .int (iI j)] [] g = some (some (.int (iI (curF cp cm hm pm fc kd p k j n))), g') ∧ Kf (QY t 205) nL g g'
  | 0, j, g, n, ev, j0, jk, hC, hS, hN, y, hk, hl => by
    have h8 := hN.1
    have hb := (hN.2.2.1 p p1 p2).2.1
    have l := C_look (d := d + 3) isS_205 hS h8.2 p1 p2
    by_cases c : n (2 + 3 * p) = 0
    · refine ⟨g, ?_, Kf.refl⟩
      rw [U_X0_firstCurtain_26 ht isS_13, curF, if_pos c]
      rw [c] at l
      simp (disch := omega) only [iI_lit, jI_lit, iI_neg, jI_neg, iI_add, iI_sub, iI_mul, jI_add, jI_sub, jI_mul, rdI, rdL, iI_lt, iI_le, iI_eq, iI_nat, iI_b2_0, iI_b2_1, mm_bI_some, mm_bV_some, mm_bL_some, mm_bA_some, fd_wL, fd_wR, fl_wI, fl_wR, re_wI, re_wL, re_wC, ite_true, ite_false, not_true_eq_false, not_false_eq_true, lq_ge, lq_le, lq_gt, lq_lt, lq_eq, jI_lt, jI_le, jI_eq, if_pos, if_neg, l]
    · have fin : ∃ g', mm_M mm_T0 (d + 5) 141 [.ref t, .ref 205, .int (iI 1)] g = some (none, g') ∧ Kf (QY t 205) nL g g' := by
        by_cases z : n 0 = 999
        · exact ⟨g, C_pass_end (d := d + 4) ht isS_205 (by omega) (by omega) (by rw [hS.2.2.1]; omega), Kf.refl⟩
        · obtain ⟨g', m1, m2, m3, m4, m5⟩ := C_tryYears (d := d) (N := 1) ht hF (by omega) (by omega) hC hS hk (by omega) hN (by omega)
          exact ⟨g', m1, m5⟩
      obtain ⟨g', m1, m5⟩ := fin
      refine ⟨g', ?_, m5⟩
      rw [U_X0_firstCurtain_26 ht isS_13, curF, if_neg c]
      simp (disch := omega) only [iI_lit, jI_lit, iI_neg, jI_neg, iI_add, iI_sub, iI_mul, jI_add, jI_sub, jI_mul, rdI, rdL, iI_lt, iI_le, iI_eq, iI_nat, iI_b2_0, iI_b2_1, mm_bI_some, mm_bV_some, mm_bL_some, mm_bA_some, fd_wL, fd_wR, fl_wI, fl_wR, re_wI, re_wL, re_wC, ite_true, ite_false, not_true_eq_false, not_false_eq_true, lq_ge, lq_le, lq_gt, lq_lt, lq_eq, jI_lt, jI_le, jI_eq, if_pos, if_neg, l, m1]
      rw [U_X0_firstCurtain_26 ht isS_13]
      simp (disch := omega) only [iI_lit, jI_lit, iI_neg, jI_neg, iI_add, iI_sub, iI_mul, jI_add, jI_sub, jI_mul, rdI, rdL, iI_lt, iI_le, iI_eq, iI_nat, iI_b2_0, iI_b2_1, mm_bI_some, mm_bV_some, mm_bL_some, mm_bA_some, fd_wL, fd_wR, fl_wI, fl_wR, re_wI, re_wL, re_wC, ite_true, ite_false, not_true_eq_false, not_false_eq_true, lq_ge, lq_le, lq_gt, lq_lt, lq_eq, jI_lt, jI_le, jI_eq, if_pos, if_neg]
  | k + 1, j, g, n, ev, j0, jk, hC, hS, hN, y, hk, hl => by
    have h8 := hN.1
    have hb := (hN.2.2.1 p p1 p2).2.1
    have l := C_look (d := d + 3) isS_205 hS h8.2 p1 p2
    by_cases c : n (2 + 3 * p) = 0
    · refine ⟨g, ?_, Kf.refl⟩
      rw [U_X0_firstCurtain_26 ht isS_13, curF, if_pos c]
      rw [c] at l
      simp (disch := omega) only [iI_lit, jI_lit, iI_neg, jI_neg, iI_add, iI_sub, iI_mul, jI_add, jI_sub, jI_mul, rdI, rdL, iI_lt, iI_le, iI_eq, iI_nat, iI_b2_0, iI_b2_1, mm_bI_some, mm_bV_some, mm_bL_some, mm_bA_some, fd_wL, fd_wR, fl_wI, fl_wR, re_wI, re_wL, re_wC, ite_true, ite_false, not_true_eq_false, not_false_eq_true, lq_ge, lq_le, lq_gt, lq_lt, lq_eq, jI_lt, jI_le, jI_eq, if_pos, if_neg, l]
    · obtain ⟨g1, m1, m2, m3, m4, m5⟩ := C_tryYears (d := d) (N := 1) ht hF (by omega) (by omega) hC hS hk (by omega) hN (by omega)
      rw [show (1 : Int).toNat = 1 from rfl, yearsS_1] at m2 m3
      have yo := yearS_ok (cp := cp) (cm := cm) (fc := fc) (kd := kd) hN
      obtain ⟨g', q1, q2⟩ := C_curtain_26 (d := d) ht hF p1 p2 l1 l2 k (j + 1) g1 _ _ (by omega) (by omega) m4 m2 yo.1 (by omega) m3 (by rw [List.length_append]; omega)
      refine ⟨g', ?_, m5.trans q2⟩
      rw [U_X0_firstCurtain_26 ht isS_13, curF, if_neg c, ← q1]
      simp (disch := omega) only [iI_lit, jI_lit, iI_neg, jI_neg, iI_add, iI_sub, iI_mul, jI_add, jI_sub, jI_mul, rdI, rdL, iI_lt, iI_le, iI_eq, iI_nat, iI_b2_0, iI_b2_1, mm_bI_some, mm_bV_some, mm_bL_some, mm_bA_some, fd_wL, fd_wR, fl_wI, fl_wR, re_wI, re_wL, re_wC, ite_true, ite_false, not_true_eq_false, not_false_eq_true, lq_ge, lq_le, lq_gt, lq_lt, lq_eq, jI_lt, jI_le, jI_eq, if_pos, if_neg, l, m1]
set_option maxHeartbeats 8000000 in
theorem R_curtain_17 {d : Nat} {h : mm_H} {pm hm p : Int} {fc kd : Int → Int} {cp cm cf : List Int} (hF : FK pm fc kd) (p1 : 0 ≤ p) (p2 : p < pm) (h65 : fd h 264 65 < 62000000) : ∀ (k : Nat) (j : Int) (g : mm_H) (n : Int → Int), 0 ≤ j → j + k ≤ 60 → (j + k = 60 ∨ n 0 + k = 999) → TR nE h g (18 * j) → RT g pm hm fc kd cp cm cf → RepR g n → NI pm hm n → (0 ≤ n 0 ∧ n 0 + k ≤ 999) → ∃ g', mm_D (mm_M mm_T0 (d + 6)) cd_X12_curtain 17 [.ref 264, .int (iI p), .int (iI j), .null] [] g = some (some (.int (iI (curF cp cm hm pm fc kd p k j n))), g') ∧ Kf (QTb nE) LE3 h g' ∧ fd g' 264 64 = 0 ∧ (0 ≤ fd g' 264 65 ∧ fd g' 264 65 ≤ fd h 264 65 + 1080)
  | 0, j, g, n, j0, jk, je, T, hT, hr, hN, y => by
    have h8 := hN.1
    have hb := (hN.2.2.1 p p1 p2).2.1
    have z := hr (2 + 3 * p) (by omega) (by omega)
    have z0 : fd g 300 0 = n 0 := hr 0 (by omega) (by omega)
    obtain ⟨g', m1, m2, m3, m4, m5⟩ := T.back (d := d + 4)
    refine ⟨g', ?_, m2, m3, by omega⟩
    rw [U_X12_curtain_17, curF]
    by_cases c : n (2 + 3 * p) = 0
    · simp (disch := omega) only [iI_lit, jI_lit, iI_neg, jI_neg, iI_add, iI_sub, iI_mul, jI_add, jI_sub, jI_mul, rdI, rdL, iI_lt, iI_le, iI_eq, iI_nat, iI_b2_0, iI_b2_1, mm_bI_some, mm_bV_some, mm_bL_some, mm_bA_some, fd_wL, fd_wR, fl_wI, fl_wR, re_wI, re_wL, re_wC, ite_true, ite_false, not_true_eq_false, not_false_eq_true, lq_ge, lq_le, lq_gt, lq_lt, lq_eq, jI_lt, jI_le, jI_eq, if_pos, if_neg, R_lookOf, z, m1]
    · by_cases c2 : 60 ≤ j <;> simp (disch := omega) only [iI_lit, jI_lit, iI_neg, jI_neg, iI_add, iI_sub, iI_mul, jI_add, jI_sub, jI_mul, rdI, rdL, iI_lt, iI_le, iI_eq, iI_nat, iI_b2_0, iI_b2_1, mm_bI_some, mm_bV_some, mm_bL_some, mm_bA_some, fd_wL, fd_wR, fl_wI, fl_wR, re_wI, re_wL, re_wC, ite_true, ite_false, not_true_eq_false, not_false_eq_true, lq_ge, lq_le, lq_gt, lq_lt, lq_eq, jI_lt, jI_le, jI_eq, if_pos, if_neg, R_lookOf, z, z0, m1]
  | k + 1, j, g, n, j0, jk, je, T, hT, hr, hN, y => by
    have h8 := hN.1
    have hb := (hN.2.2.1 p p1 p2).2.1
    have z := hr (2 + 3 * p) (by omega) (by omega)
    have z0 : fd g 300 0 = n 0 := hr 0 (by omega) (by omega)
    by_cases c : n (2 + 3 * p) = 0
    · obtain ⟨g', m1, m2, m3, m4, m5⟩ := T.back (d := d + 4)
      refine ⟨g', ?_, m2, m3, by omega⟩
      rw [U_X12_curtain_17, curF]
      simp (disch := omega) only [iI_lit, jI_lit, iI_neg, jI_neg, iI_add, iI_sub, iI_mul, jI_add, jI_sub, jI_mul, rdI, rdL, iI_lt, iI_le, iI_eq, iI_nat, iI_b2_0, iI_b2_1, mm_bI_some, mm_bV_some, mm_bL_some, mm_bA_some, fd_wL, fd_wR, fl_wI, fl_wR, re_wI, re_wL, re_wC, ite_true, ite_false, not_true_eq_false, not_false_eq_true, lq_ge, lq_le, lq_gt, lq_lt, lq_eq, jI_lt, jI_le, jI_eq, if_pos, if_neg, R_lookOf, z, m1]
    · obtain ⟨g1, r1, r2, r3, r4, r5⟩ := T.year (d := d) (by omega) hF hT hr hN (by omega)
      have yo := yearS_ok (cp := cp) (cm := cm) (fc := fc) (kd := kd) hN
      obtain ⟨g', q1, q2⟩ := R_curtain_17 (d := d) hF p1 p2 h65 k (j + 1) g1 _ (by omega) (by omega) (by omega) (by rw [show 18 * (j + 1) = 18 * j + 18 by omega]; exact r2) r3 r4 yo.1 (by omega)
      refine ⟨g', ?_, q2⟩
      rw [U_X12_curtain_17, curF, if_neg c, ← q1]
      simp (disch := omega) only [iI_lit, jI_lit, iI_neg, jI_neg, iI_add, iI_sub, iI_mul, jI_add, jI_sub, jI_mul, rdI, rdL, iI_lt, iI_le, iI_eq, iI_nat, iI_b2_0, iI_b2_1, mm_bI_some, mm_bV_some, mm_bL_some, mm_bA_some, fd_wL, fd_wR, fl_wI, fl_wR, re_wI, re_wL, re_wC, ite_true, ite_false, not_true_eq_false, not_false_eq_true, lq_ge, lq_le, lq_gt, lq_lt, lq_eq, jI_lt, jI_le, jI_eq, if_pos, if_neg, R_lookOf, z, z0, r1]
set_option maxHeartbeats 8000000 in
theorem K_curtain (al : -2147483648 ≤ a) (au : a < 2147483648) : CallI 162 255 [.int (iI a)] := by
  intro d h i I hi
  have I0 := I
  obtain ⟨t, st, pm, hm, fc, kd, cp, cm, cf, n, ev, past, M, W, H, S, P, N⟩ := I
  have W0 := W
  obtain ⟨w1, w2, w3, w4, w5, w6, w7, w8, w9, w10, w11, w12, w13⟩ := W
  have tt := isT_or w1.1
  have h8 := w5.1
  have e40 : fd h 264 40 = pm := w3.1
  have e10 : fd h 13 10 = pm := w8.1
  have e11 : fd h 13 11 = n 0 := w8.2.2.1
  have e0 : fd h 300 0 = n 0 := w4 0 (by omega) (by omega)
  by_cases c0 : 0 ≤ a ∧ a < pm
  · have st1 : st = 1 := by have := w2.1; have := w2.2.2.2.1; omega
    obtain ⟨h0, p1, p2, p3, p4, p5⟩ := C_try (d := d + 37) w1.1 (w2.2.2.2.2 st1) w8 w10.1 w5
    obtain ⟨h1, r1, r2⟩ := C_curtain_26 (d := d + 33) (p := a) (last := min 60 (999 - n 0)) w1.1 w6 c0.1 c0.2 (by omega) (by omega) (min 60 (999 - n 0)).toNat 0 h0 n ev (by omega) (by omega) p4 p2 w5 (by omega) p3 (by omega)
    have k1 : Kf (SC t) nL h h1 := p5.trans (r2.monoQ QY_SC)
    have T1 : RT h1 pm hm fc kd cp cm cf := w3.kf2 k1 (by intro a j; unfold NR SC; omega)
    have R1 : RepR h1 n := w4.kf k1 (by intro j hj; unfold SC; omega)
    have f65 : fd h1 264 65 = fd h 264 65 := k1.1 _ _ (by unfold SC; omega)
    obtain ⟨g1, q1, q2, q3, q4, q5⟩ := TR.begin (d := d + 38) (E := nE) (h := h1) (by omega) T1 R1
    obtain ⟨g3, s1, s2, s3, s4⟩ := R_curtain_17 (d := d + 33) (p := a) w6 c0.1 c0.2 (by omega) (min 60 (999 - n 0)).toNat 0 g1 n (by omega) (by omega) (by omega) q2 q3 q4 w5 (by omega)
    refine ⟨iI (curF cp cm hm pm fc kd a (min 60 (999 - n 0)).toNat 0 n), h1, g3, ?_, ?_, Inv.tri M W0 H S P N k1 s2 (fun a k e => e.elim) s3 s4 (by omega) hi⟩
    · have rt := w1.2.1
      have f11 : fd h0 13 11 = n 0 := (p5.1 _ _ (by unfold SC; omega)).trans e11
      rw [U_X11_curtain]
      simp (disch := omega) only [iI_lit, jI_lit, iI_neg, jI_neg, iI_add, iI_sub, iI_mul, jI_add, jI_sub, jI_mul, rdI, rdL, iI_lt, iI_le, iI_eq, iI_nat, iI_b2_0, iI_b2_1, mm_bI_some, mm_bV_some, mm_bL_some, mm_bA_some, fd_wL, fd_wR, fl_wI, fl_wR, re_wI, re_wL, re_wC, ite_true, ite_false, not_true_eq_false, not_false_eq_true, lq_ge, lq_le, lq_gt, lq_lt, lq_eq, jI_lt, jI_le, jI_eq, if_pos, if_neg, S_isPerson isS_13, e10, rt, U_X0_firstCurtain w1.1 isS_13, p1, f11, J_min, r1]
    · have f40 : fd h1 264 40 = pm := T1.1
      rw [U_X12_curtain, iI_jI al au]
      simp (disch := omega) only [iI_lit, jI_lit, iI_neg, jI_neg, iI_add, iI_sub, iI_mul, jI_add, jI_sub, jI_mul, rdI, rdL, iI_lt, iI_le, iI_eq, iI_nat, iI_b2_0, iI_b2_1, mm_bI_some, mm_bV_some, mm_bL_some, mm_bA_some, fd_wL, fd_wR, fl_wI, fl_wR, re_wI, re_wL, re_wC, ite_true, ite_false, not_true_eq_false, not_false_eq_true, lq_ge, lq_le, lq_gt, lq_lt, lq_eq, jI_lt, jI_le, jI_eq, if_pos, if_neg, R_isPerson, f40, q1, s1]
  · refine ⟨iI (-1), h, h, ?_, ?_, I0.next hi⟩
    · rw [U_X11_curtain]
      simp (disch := omega) only [iI_lit, jI_lit, iI_neg, jI_neg, iI_add, iI_sub, iI_mul, jI_add, jI_sub, jI_mul, rdI, rdL, iI_lt, iI_le, iI_eq, iI_nat, iI_b2_0, iI_b2_1, mm_bI_some, mm_bV_some, mm_bL_some, mm_bA_some, fd_wL, fd_wR, fl_wI, fl_wR, re_wI, re_wL, re_wC, ite_true, ite_false, not_true_eq_false, not_false_eq_true, lq_ge, lq_le, lq_gt, lq_lt, lq_eq, jI_lt, jI_le, jI_eq, if_pos, if_neg, S_isPerson isS_13, e10]
    · rw [U_X12_curtain, iI_jI al au]
      simp (disch := omega) only [iI_lit, jI_lit, iI_neg, jI_neg, iI_add, iI_sub, iI_mul, jI_add, jI_sub, jI_mul, rdI, rdL, iI_lt, iI_le, iI_eq, iI_nat, iI_b2_0, iI_b2_1, mm_bI_some, mm_bV_some, mm_bL_some, mm_bA_some, fd_wL, fd_wR, fl_wI, fl_wR, re_wI, re_wL, re_wC, ite_true, ite_false, not_true_eq_false, not_false_eq_true, lq_ge, lq_le, lq_gt, lq_lt, lq_eq, jI_lt, jI_le, jI_eq, if_pos, if_neg, R_isPerson, e40]
end LATERC
