/-! on: both -/
section ONK
theorem PSc.SR {g : mm_H} {m : Nat} {hm : Int} {fc kd r : Int → Int} (P : PSc g m hm fc kd r m) : SR g 220 (m : Int) hm fc kd r := by
  obtain ⟨⟨a1, a2, a3, a4⟩, a5, a6, a7, a8⟩ := P
  refine ⟨a1, a2, a3, fun p p0 p1 => ?_, a7, a8⟩
  have := a5 p p0 p1
  exact ⟨this.1, this.2.1, a6 p p0 p1, this.2.2.1, this.2.2.2⟩
theorem NIj.NI {m : Nat} {hm : Int} {b : Nat → Int} {r : Int → Int} (N : NIj m hm b r m) (h8 : m ≤ 8) (h9 : 0 ≤ hm ∧ hm ≤ 9) : NI (m : Int) hm r := by
  refine ⟨by omega, h9, fun p p0 p1 => ?_, N.2.1, N.dis⟩
  have := N.1 p p0 p1
  exact ⟨N.home p p0 p1, this.1, this.2⟩
theorem onA_0 {b : Nat → Int} {m : Nat} : ∀ (k p : Nat) (n : Int → Int), onA b m k p n 0 = n 0
  | 0, p, n => rfl
  | k + 1, p, n => by
    rw [onA, onA_0 k (p + 1), onT_homes (by omega) (by omega)]
    unfold onP
    rw [up_ne (by omega), up_ne (by omega), up_ne (by omega)]
theorem rng_at {b : Nat → Int} {k j : Nat} {v : Int} (h : ((List.range' 0 k).map b)[j]? = some v) : j < k ∧ b j = v := by
  rw [List.getElem?_map] at h
  by_cases c : j < k
  · rw [List.getElem?_range' c] at h
    refine ⟨c, ?_⟩
    have : b (0 + 1 * j) = v := by simpa using h
    rw [show 0 + 1 * j = j by omega] at this
    exact this
  · rw [List.getElem?_eq_none (by rw [List.length_range']; omega)] at h
    exact absurd h (by simp)
set_option maxHeartbeats 8000000 in
theorem K_on : CallI 181 320 [] := by
  intro d h i I hi
  obtain ⟨t, st, pm, hm, fc, kd, cp, cm, cf, n, ev, past, M, W, H, S, P, N⟩ := I
  have W0 := W
  obtain ⟨w1, w2, w3, w4, w5, w6, w7, w8, w9, w10, w11, w12, w13⟩ := W
  have tt := isT_or w1.1
  have h8 := w5.1
  have h9 := w5.2.1
  have e53 : fd h 264 53 = st := w2.2.2.1
  have e12 : fd h 0 12 = st := w2.2.1
  have st1 := w2.1
  have m1 := M.1
  have m2 := M.2.1
  have m3 := M.2.2.1
  have bad : ∀ g, Kf QSs nL h g → (st = 0 ∧ g = h ∨ st = 1 ∧ mm_M mm_T0 (d + 39) 67 [.ref 218, .ref 1, .ref 13] h = some (some (.int (iI 0)), g)) → (∀ g', Kf (fun a k => QSs a k ∨ a = 229 ∨ ((a = 1 ∨ a = 264) ∧ k = 1)) nL h g' → mm_M mm_T0 (d + 39) 319 [.ref 264, .int (iI (fd h 264 1))] g' = some (some (.int (iI 0)), g')) → ∃ v h1 h2, mm_M mm_T0 (d + 40) 181 [.ref 0] h = some (some (.int v), h1) ∧ mm_M mm_T0 (d + 40) 320 [.ref 264] h1 = some (some (.int v), h2) ∧ Inv h2 (i + 6) := by
    intro g kg b1 b2'
    have f1 : fd g 1 1 = fd h 264 1 := (kg.1 _ _ (by unfold QSs; omega)).trans m1
    have sh := C_shorten (d := d + 37) f1 m2.1 (n := 0) (by omega) m2.1 m2.2
    have f229 : fd (wI g 1 1 (iI 0)) 229 5 = fd g 229 5 := fd_wI_row (by omega)
    have k1 : Kf (fun a k => QSs a k ∨ a = 229 ∨ ((a = 1 ∨ a = 264) ∧ k = 1)) nL h (wI (wI (wI g 1 1 (iI 0)) 229 5 (iI (fd g 229 5 + 1))) 264 1 (iI 0)) := (((kg.monoQ (fun a k q => Or.inl q)).wI (by omega)).wI (by omega)).wI (by omega)
    have r := b2' _ k1
    have f266 : fd (wI (wI (wI g 1 1 (iI 0)) 229 5 (iI (fd g 229 5 + 1))) 264 1 (iI 0)) 266 5 = fd g 266 5 := by
      rw [fd_wI_row (by omega), fd_wI_row (by omega), fd_wI_row (by omega)]
    have f264 : fd (wI (wI g 1 1 (iI 0)) 229 5 (iI (fd g 229 5 + 1))) 264 1 = fd h 264 1 := by
      rw [fd_wI_row (by omega), fd_wI_row (by omega)]
      exact kg.1 _ _ (by unfold QSs; omega)
    refine ⟨iI 0, wI (wI g 1 1 (iI 0)) 229 5 (iI (fd g 229 5 + 1)), wI (wI (wI (wI g 1 1 (iI 0)) 229 5 (iI (fd g 229 5 + 1))) 264 1 (iI 0)) 266 5 (iI (fd g 266 5 + 1)), ?_, ?_, ?_⟩
    · rw [U_X11_on]
      rcases b1 with ⟨z, rfl⟩ | ⟨z, b1⟩
      · simp (disch := omega) only [iI_lit, jI_lit, iI_neg, jI_neg, iI_add, iI_sub, iI_mul, jI_add, jI_sub, jI_mul, rdI, rdL, iI_lt, iI_le, iI_eq, iI_nat, iI_b2_0, iI_b2_1, mm_bI_some, mm_bV_some, mm_bL_some, mm_bA_some, fd_wL, fd_wR, fl_wI, fl_wR, re_wI, re_wL, re_wC, ite_true, ite_false, not_true_eq_false, not_false_eq_true, lq_ge, lq_le, lq_gt, lq_lt, lq_eq, jI_lt, jI_le, jI_eq, if_pos, if_neg, e12, sh, C_ref5, f229]
      · simp (disch := omega) only [iI_lit, jI_lit, iI_neg, jI_neg, iI_add, iI_sub, iI_mul, jI_add, jI_sub, jI_mul, rdI, rdL, iI_lt, iI_le, iI_eq, iI_nat, iI_b2_0, iI_b2_1, mm_bI_some, mm_bV_some, mm_bL_some, mm_bA_some, fd_wL, fd_wR, fl_wI, fl_wR, re_wI, re_wL, re_wC, ite_true, ite_false, not_true_eq_false, not_false_eq_true, lq_ge, lq_le, lq_gt, lq_lt, lq_eq, jI_lt, jI_le, jI_eq, if_pos, if_neg, e12, b1, sh, C_ref5, f229]
    · rw [U_X12_on]
      simp (disch := omega) only [iI_lit, jI_lit, iI_neg, jI_neg, iI_add, iI_sub, iI_mul, jI_add, jI_sub, jI_mul, rdI, rdL, iI_lt, iI_le, iI_eq, iI_nat, iI_b2_0, iI_b2_1, mm_bI_some, mm_bV_some, mm_bL_some, mm_bA_some, fd_wL, fd_wR, fl_wI, fl_wR, re_wI, re_wL, re_wC, ite_true, ite_false, not_true_eq_false, not_false_eq_true, lq_ge, lq_le, lq_gt, lq_lt, lq_eq, jI_lt, jI_le, jI_eq, if_pos, if_neg, f264, r, f266]
    · have M1 : IvM g := M.kf kg (by intro a j; unfold NM QSs; omega) (fun q => q)
      have k2 : Kf (fun a k => QSs a k ∨ a = 229 ∨ a = 266 ∨ ((a = 1 ∨ a = 264) ∧ k = 1)) nL h (wI (wI (wI (wI g 1 1 (iI 0)) 229 5 (iI (fd g 229 5 + 1))) 264 1 (iI 0)) 266 5 (iI (fd g 266 5 + 1))) := Kf.wI (k1.monoQ (fun a k q => by unfold QSs at q ⊢; omega)) (by omega)
      exact Inv.mac (M1.bad (k := 5) (by omega)) W0 H S P N (k2.mono (fun a k q => by unfold Mac NW NC NR NH NS NP Nnm; unfold QSs at q; omega) (fun a k q => q.elim)) hi
  by_cases cs : st = 0
  · refine bad h Kf.refl (Or.inl ⟨cs, rfl⟩) (fun g' kg => ?_)
    have f53 : fd g' 264 53 = 0 := by rw [kg.1 _ _ (by unfold QSs; omega), e53]; exact cs
    rw [U_X12_isImage]
    simp (disch := omega) only [iI_lit, jI_lit, iI_neg, jI_neg, iI_add, iI_sub, iI_mul, jI_add, jI_sub, jI_mul, rdI, rdL, iI_lt, iI_le, iI_eq, iI_nat, iI_b2_0, iI_b2_1, mm_bI_some, mm_bV_some, mm_bL_some, mm_bA_some, fd_wL, fd_wR, fl_wI, fl_wR, re_wI, re_wL, re_wC, ite_true, ite_false, not_true_eq_false, not_false_eq_true, lq_ge, lq_le, lq_gt, lq_lt, lq_eq, jI_lt, jI_le, jI_eq, if_pos, if_neg, f53]
  have cs1 : st = 1 := by omega
  obtain ⟨m, hm'⟩ : ∃ m : Nat, pm = (m : Int) := ⟨pm.toNat, by omega⟩
  subst hm'
  have em8 : m ≤ 8 := by omega
  have sq := sq_b h8
  rw [show ((m : Nat) : Int).toNat = m by omega] at sq
  have z1 : 3 + (m : Int) * ((m : Int) + 2) = ((3 + m * (m + 2) : Nat) : Int) := by
    rw [Int.natCast_add, Int.natCast_mul, Int.natCast_add]
    rfl
  have z2 : 3 + (m : Int) * (2 + (m : Int)) = ((3 + m * (m + 2) : Nat) : Int) := by
    rw [Int.add_comm 2 (m : Int)]; exact z1
  have e10 : fd h 13 10 = (m : Int) := w8.1
  have e9 : fd h 13 9 = hm := w8.2.1
  have e40 : fd h 264 40 = (m : Int) := w3.1
  have e38 : fd h 264 38 = hm := w3.2.1
  by_cases cL : fd h 264 1 = ((3 + m * (m + 2) : Nat) : Int)
  · have TR0 : TpR h (fun j => fd h 265 j) (3 + m * (m + 2)) := fun j hj => ⟨rfl, (m3 j (by omega)).2⟩
    have TC0 : TpC h (fun j => fd h 265 j) (3 + m * (m + 2)) := ⟨by omega, fun j hj => m3 j (by omega)⟩
    generalize hb : (fun j => fd h 265 j) = b at TR0 TC0
    have bb : ∀ j, j < 3 + m * (m + 2) → 0 ≤ b j ∧ b j ≤ 255 := fun j hj => (TR0 j hj).2
    have y0 := fun d => C_byte (d := d) (f := 0) TC0 (by omega) (by omega)
    have y1 := fun d => C_byte (d := d) (f := 1) TC0 (by omega) (by omega)
    rw [show ((0 : Nat) : Int) = 0 from rfl] at y0
    rw [show ((1 : Nat) : Int) = 1 from rfl] at y1
    have b0 := bb 0 (by omega)
    have b1 := bb 1 (by omega)
    have eL : 3 + m * (m + 2) - 1 = 2 + m * (m + 2) := by omega
    have ck := fun d => C_chk_6 (d := d) TC0 (by omega) (2 + m * (m + 2)) 0 149 (by omega) (by omega)
    rw [eL, show ((0 : Nat) : Int) = 0 from rfl] at ck
    have fb := fold_b ((List.range' 0 (2 + m * (m + 2))).map b) 149 (by omega) (by omega)
    generalize hK : ((List.range' 0 (2 + m * (m + 2))).map b).foldl (fun c v => (3 * c + v) % 251) 149 = CK at ck fb
    have bL := bb (2 + m * (m + 2)) (by omega)
    -- the reference's checks
    have rimg : ∀ g', Kf (fun a k => QSs a k ∨ a = 229 ∨ ((a = 1 ∨ a = 264) ∧ k = 1) ∨ (13 ≤ a ∧ a ≤ 22)) nL h g' → TpR g' b (3 + m * (m + 2)) ∧ fd g' 264 40 = (m : Int) ∧ fd g' 264 53 = 1 ∧ fd g' 264 38 = hm ∧ ∀ d, mm_M mm_T0 (d + 5) 319 [.ref 264, .int (iI (fd h 264 1))] g' = if b (2 + m * (m + 2)) = CK then (if 256 * b 0 + b 1 ≤ 999 then mm_D (mm_M mm_T0 (d + 4)) cd_X12_isImage 72 [.ref 264, .null, .int (iI 0)] [] g' else some (some (.int (iI 0)), g')) else some (some (.int (iI 0)), g') := by
      intro g' kg
      have kk : ∀ a j, (a = 265 ∨ (a = 264 ∧ j ≠ 1)) → fd g' a j = fd h a j := fun a j x => kg.1 a j (by unfold QSs; omega)
      have T' : TpR g' b (3 + m * (m + 2)) := fun j hj => ⟨(kk _ _ (by omega)).trans (TR0 j hj).1, (TR0 j hj).2⟩
      have f40 : fd g' 264 40 = (m : Int) := (kk _ _ (by omega)).trans e40
      have f53 : fd g' 264 53 = 1 := by rw [kk _ _ (by omega), e53]; exact cs1
      refine ⟨T', f40, f53, (kk _ _ (by omega)).trans e38, fun d => ?_⟩
      have rc := R_checked_6 (d := d + 3) (h := g') (N := ((2 + m * (m + 2) : Nat) : Int)) sh_265 (by omega) ((List.range' 0 (2 + m * (m + 2))).map b) 0 149 (by rw [List.length_map, List.length_range']; omega) (by rw [List.length_map, List.length_range']; omega) (fun j v hv => by
        have := rng_at hv
        have t := T' j (by omega)
        rw [Nat.zero_add]
        exact ⟨t.1.trans this.2, by omega⟩) (by omega)
      rw [hK] at rc
      have rc' : mm_M mm_T0 (d + 4) 314 [.ref 265, .int (iI ((2 + m * (m + 2) : Nat) : Int))] g' = some (some (.int (iI CK)), g') := by
        rw [U_X12_checked sh_265, show (149 : Int32) = iI 149 from rfl, show (0 : Int32) = iI ((0 : Nat) : Int) from rfl]
        exact rc
      have em1 : ((3 + m * (m + 2) : Nat) : Int) - 1 = ((2 + m * (m + 2) : Nat) : Int) := by omega
      have nL' : ((2 + m * (m + 2) : Nat) : Int).toNat = 2 + m * (m + 2) := by omega
      have vL := (T' (2 + m * (m + 2)) (by omega)).1
      have v0 := (T' 0 (by omega)).1
      have v1 := (T' 1 (by omega)).1
      rw [U_X12_isImage, cL]
      by_cases c1 : b (2 + m * (m + 2)) = CK
      · by_cases c2 : 256 * b 0 + b 1 ≤ 999
        · rw [if_pos c1, if_pos c2]
          simp (disch := omega) only [iI_lit, jI_lit, iI_neg, jI_neg, iI_add, iI_sub, iI_mul, jI_add, jI_sub, jI_mul, rdI, rdL, iI_lt, iI_le, iI_eq, iI_nat, iI_b2_0, iI_b2_1, mm_bI_some, mm_bV_some, mm_bL_some, mm_bA_some, fd_wL, fd_wR, fl_wI, fl_wR, re_wI, re_wL, re_wC, ite_true, ite_false, not_true_eq_false, not_false_eq_true, lq_ge, lq_le, lq_gt, lq_lt, lq_eq, jI_lt, jI_le, jI_eq, if_pos, if_neg, f53, f40, z2, em1, nL', rc', vL, v0, v1]
        · rw [if_pos c1, if_neg c2]
          simp (disch := omega) only [iI_lit, jI_lit, iI_neg, jI_neg, iI_add, iI_sub, iI_mul, jI_add, jI_sub, jI_mul, rdI, rdL, iI_lt, iI_le, iI_eq, iI_nat, iI_b2_0, iI_b2_1, mm_bI_some, mm_bV_some, mm_bL_some, mm_bA_some, fd_wL, fd_wR, fl_wI, fl_wR, re_wI, re_wL, re_wC, ite_true, ite_false, not_true_eq_false, not_false_eq_true, lq_ge, lq_le, lq_gt, lq_lt, lq_eq, jI_lt, jI_le, jI_eq, if_pos, if_neg, f53, f40, z2, em1, nL', rc', vL, v0, v1]
      · rw [if_neg c1]
        simp (disch := omega) only [iI_lit, jI_lit, iI_neg, jI_neg, iI_add, iI_sub, iI_mul, jI_add, jI_sub, jI_mul, rdI, rdL, iI_lt, iI_le, iI_eq, iI_nat, iI_b2_0, iI_b2_1, mm_bI_some, mm_bV_some, mm_bL_some, mm_bA_some, fd_wL, fd_wR, fl_wI, fl_wR, re_wI, re_wL, re_wC, ite_true, ite_false, not_true_eq_false, not_false_eq_true, lq_ge, lq_le, lq_gt, lq_lt, lq_eq, jI_lt, jI_le, jI_eq, if_pos, if_neg, f53, f40, z2, em1, nL', rc', vL]
    by_cases c1 : b (2 + m * (m + 2)) = CK
    · by_cases c2 : 256 * b 0 + b 1 ≤ 999
      · -- the scratch scene
        obtain ⟨g1, q1, q2, q3⟩ := C_copy (d := d + 37) (h := h) isS_220 isS_13 (by omega)
        have S1 := q2.SR h8.2 h9.2 w8
        generalize hg2 : wI (wI g1 220 11 (iI (256 * b 0 + b 1))) 220 8 (iI 0) = g2
        have K2 : Kf QSs nL h g2 := by
          rw [← hg2]
          exact Kf.wI (Kf.wI (q3.monoQ (fun a k q => by unfold QSc at q; unfold QSs; omega)) (by unfold QSs; omega)) (by unfold QSs; omega)
        have x9 : fd g2 220 9 = hm := by rw [← hg2, fd_wI_col (by omega), fd_wI_col (by omega)]; exact S1.2.1
        obtain ⟨g3, r1, r2, r3⟩ := C_rd_84 (d := d + 36) h9 hm.toNat 0 g2 (by omega) ((K2.1 _ _ (by unfold QSs; omega)).trans e9) x9 (fun x hx => by omega)
        rw [show ((0 : Nat) : Int) = 0 from rfl] at r1
        have K3 : Kf QSs nL h g3 := K2.trans (r3.monoQ (fun a k q => by unfold QSs; omega))
        have P3 : PSc g3 m hm fc kd (up n 0 (256 * b 0 + b 1)) 0 := by
          have s : ∀ a k, a ≠ 227 → fd g3 a k = fd g2 a k := fun a k q => r3.1 a k q
          refine ⟨⟨?_, ?_, ?_, ?_⟩, fun p p0 p1 => ?_, fun p p0 p1 => by omega, fun p q p0 p1 q0 q1 pq => ?_, fun x x0 x1 => ?_⟩
          · rw [s _ _ (by omega), ← hg2, fd_wI_col (by omega), fd_wI_col (by omega)]; exact S1.1
          · rw [s _ _ (by omega)]; exact x9
          · rw [s _ _ (by omega), ← hg2, fd_wI_col (by omega), fd_wI_same (by omega) (by omega), up_same]
          · rw [s _ _ (by omega), ← hg2, fd_wI_same (by omega) (by omega)]
          · have := S1.2.2.2.1 p p0 p1
            rw [s _ _ (by omega), s _ _ (by omega), s _ _ (by omega), s _ _ (by omega), ← hg2, up_ne (by omega), up_ne (by omega)]
            simp (disch := omega) only [fd_wI_row]
            exact ⟨this.1, this.2.1, this.2.2.2.1, this.2.2.2.2⟩
          · rw [s _ _ (by omega), ← hg2, up_ne (by omega)]
            simp (disch := omega) only [fd_wI_row]
            exact S1.2.2.2.2.1 p q p0 p1 q0 q1 pq
          · have := r2 x.toNat (by omega)
            rw [this]
            exact (who_no (by omega) (fun p p0 p1 => by omega)).symm
        have N3 : NIj m hm b (up n 0 (256 * b 0 + b 1)) 0 := by
          refine ⟨fun p p0 p1 => ?_, fun p q p0 p1 q0 q1 pq => ?_, fun q hq => by omega, fun q hq => by omega⟩
          · rw [up_ne (by omega), up_ne (by omega)]
            exact (w5.2.2.1 p p0 p1).2
          · rw [up_ne (by omega)]
            exact w5.2.2.2.1 p q p0 p1 q0 q1 pq
        obtain ⟨g4, u, K4⟩ := C_rd_112 (d := d + 34) (fc := fc) (kd := kd) bb em8 h9 m 0 g3 _ (by omega) (TC0.kf K3 (by unfold QSs; omega) (by intro j; unfold QSs; omega)) ((K3.1 _ _ (by unfold QSs; omega)).trans e10) P3 N3
        have Kg : Kf QSs nL h g4 := K3.trans K4
        have ckk := ck (d + 36)
        rw [b2_t c1] at ckk
        have ck' : mm_M mm_T0 (d + 38) 68 [.ref 1] h = some (some (.int (iI 1)), h) := by
          rw [U_X4_isChecked, show (149 : Int32) = iI 149 from rfl, show (0 : Int32) = iI 0 from rfl]
          exact ckk
        have y0' := y0 (d + 37)
        have y1' := y1 (d + 37)
        have t1 := TC0.1
        have rd : mm_M mm_T0 (d + 39) 67 [.ref 218, .ref 1, .ref 13] h = mm_D (mm_M mm_T0 (d + 38)) cd_X4_read 112 [.ref 218, .ref 1, .ref 13, .null, .null, .int (iI 0)] [] g3 := by
          rw [U_X4_read isS_13, ← r1, ← hg2]
          simp (disch := omega) only [iI_lit, jI_lit, iI_neg, jI_neg, iI_add, iI_sub, iI_mul, jI_add, jI_sub, jI_mul, rdI, rdL, iI_lt, iI_le, iI_eq, iI_nat, iI_b2_0, iI_b2_1, mm_bI_some, mm_bV_some, mm_bL_some, mm_bA_some, fd_wL, fd_wR, fl_wI, fl_wR, re_wI, re_wL, re_wC, ite_true, ite_false, not_true_eq_false, not_false_eq_true, lq_ge, lq_le, lq_gt, lq_lt, lq_eq, jI_lt, jI_le, jI_eq, if_pos, if_neg, U_X8_size, y0', y1', t1, e10, z1, ck', q1]
        rw [show ((0 : Nat) : Int) = 0 from rfl] at u
        rcases u with u | u
        · obtain ⟨u1, u2, u3⟩ := u
          have n4 := u3.NI em8 h9
          obtain ⟨g5, v1, v2, v3⟩ := C_copy (d := d + 37) (h := g4) isS_13 isS_220 (by omega)
          have S5 : SR g5 13 (m : Int) hm fc kd (onA b m m 0 (up n 0 (256 * b 0 + b 1))) := v2.SR h8.2 h9.2 u2.SR
          have k8 : fd g5 13 8 = 0 := (v2.2.2.2.2 8 (by omega) (by omega)).trans u2.1.2.2.2
          have K5 : Kf (fun a k => QSs a k ∨ (13 ≤ a ∧ a ≤ 21)) nL h g5 := Kf.trans (Kg.monoQ (fun a k q => Or.inl q)) (v3.monoQ (fun a k q => by unfold QSc at q; omega))
          have f1 : fd g5 1 1 = fd h 264 1 := (K5.1 _ _ (by unfold QSs; omega)).trans m1
          have sh := C_shorten (d := d + 37) f1 m2.1 (n := 0) (by omega) m2.1 m2.2
          generalize hh1 : wI (wI g5 1 1 (iI 0)) 22 2 (iI 0) = h1
          have Kh1 : Kf (fun a k => QSs a k ∨ (13 ≤ a ∧ a ≤ 21) ∨ (a = 1 ∧ k = 1) ∨ (a = 22 ∧ k = 2)) nL h h1 := by
            rw [← hh1]
            exact Kf.wI (Kf.wI (K5.monoQ (fun a k q => by unfold QSs at q ⊢; omega)) (by omega)) (by omega)
          have KW : Kf (fun a k => QSs a k ∨ a = 229 ∨ ((a = 1 ∨ a = 264) ∧ k = 1) ∨ (13 ≤ a ∧ a ≤ 22)) nL h (wI h1 264 1 (iI 0)) := Kf.wI (Kh1.monoQ (fun a k q => by unfold QSs at q ⊢; omega)) (by omega)
          obtain ⟨TR1, f40, f53, f38, ri⟩ := rimg _ KW
          have ri' := ri (d + 34)
          rw [if_pos c1, if_pos c2] at ri'
          have ok : ∀ q, q < m → OkP b hm m q := u3.2.2.2
          have r72 := (R_img_72 (d := d + 35) (fun j hj => TR1 j (by omega)) em8 f40 f53 f38 h9 m 0 (by omega)).resolve_right (fun z => z.2 (fun q _ hq => ok q hq))
          have r72' := r72.1
          rw [show ((0 : Nat) : Int) = 0 from rfl] at r72'
          have R0 : RepR (wI (wI h1 264 1 (iI 0)) 300 0 (iI (256 * b 0 + b 1))) (up n 0 (256 * b 0 + b 1)) := RepR.w (z := 0) (w4.kf KW (by intro j hj; unfold QSs; omega)) (by omega) (by omega) (by omega)
          have kw0 : Kf (fun a k => a = 300 ∧ k < 89) nL (wI h1 264 1 (iI 0)) (wI (wI h1 264 1 (iI 0)) 300 0 (iI (256 * b 0 + b 1))) := Kf.refl.wI (by omega)
          obtain ⟨g6, s1, s2, s3⟩ := R_on_57 (d := d + 39) em8 m 0 (wI (wI h1 264 1 (iI 0)) 300 0 (iI (256 * b 0 + b 1))) _ (by omega) (fun j hj => ⟨(kw0.1 _ _ (by omega)).trans (TR1 j (by omega)).1, (TR1 j (by omega)).2⟩) ((kw0.1 _ _ (by omega)).trans f40) R0
          have p2 : ((posP m 0 : Nat) : Int) = 2 := by unfold posP; omega
          rw [p2, show ((0 : Nat) : Int) = 0 from rfl] at s1
          have Kf6 : Kf (fun a k => QSs a k ∨ (13 ≤ a ∧ a ≤ 21) ∨ (a = 1 ∧ k = 1) ∨ (a = 22 ∧ k = 2) ∨ a = 300 ∨ (a = 264 ∧ (k = 1 ∨ k = 73))) nL h (wI (wI g6 300 89 (iI 0)) 264 73 (iI 0)) := Kf.wI (Kf.wI (Kf.trans (Kf.wI (Kh1.monoQ (fun a k q => by unfold QSs at q ⊢; omega)) (by omega)) ((kw0.trans s3).monoQ (fun a k q => by omega))) (by omega)) (by omega)
          have gs : ∀ a j, 13 ≤ a → a ≤ 21 → fd (wI (wI g6 300 89 (iI 0)) 264 73 (iI 0)) a j = fd g5 a j := by
            intro a j a1 a2
            rw [fd_wI_row (by omega), fd_wI_row (by omega), s3.1 _ _ (by omega), kw0.1 _ _ (by omega), fd_wI_row (by omega), ← hh1, fd_wI_row (by omega), fd_wI_row (by omega)]
          obtain ⟨a1, a2, a3, x, a4, a5, a6, a7⟩ := H
          refine ⟨iI 1, h1, wI (wI g6 300 89 (iI 0)) 264 73 (iI 0), ?_, ?_, ⟨t, st, (m : Int), hm, fc, kd, cp, cm, cf, onA b m m 0 (up n 0 (256 * b 0 + b 1)), [], [], ?_, ?_, ?_, S.kf Kf6 (by intro a j; unfold NS QSs; omega), P.kf Kf6 (by intro a j; unfold NP QSs; omega), N.kf Kf6 (by intro a j; unfold Nnm QSs; omega) (fun j hj q => q)⟩⟩
          · rw [u1, v1, mm_bV_some] at rd
            rw [U_X11_on, ← hh1]
            simp (disch := omega) only [iI_lit, jI_lit, iI_neg, jI_neg, iI_add, iI_sub, iI_mul, jI_add, jI_sub, jI_mul, rdI, rdL, iI_lt, iI_le, iI_eq, iI_nat, iI_b2_0, iI_b2_1, mm_bI_some, mm_bV_some, mm_bL_some, mm_bA_some, fd_wL, fd_wR, fl_wI, fl_wR, re_wI, re_wL, re_wC, ite_true, ite_false, not_true_eq_false, not_false_eq_true, lq_ge, lq_le, lq_gt, lq_lt, lq_eq, jI_lt, jI_le, jI_eq, if_pos, if_neg, e12, rd, sh, U_X3_forget]
          · have f1' : fd h1 264 1 = fd h 264 1 := Kh1.1 _ _ (by unfold QSs; omega)
            have v0 : fd (wI h1 264 1 (iI 0)) 265 0 = b 0 := (TR1 0 (by omega)).1
            have v1' : fd (wI h1 264 1 (iI 0)) 265 1 = b 1 := (TR1 1 (by omega)).1
            rw [U_X12_on, ← s1]
            simp (disch := omega) only [iI_lit, jI_lit, iI_neg, jI_neg, iI_add, iI_sub, iI_mul, jI_add, jI_sub, jI_mul, rdI, rdL, iI_lt, iI_le, iI_eq, iI_nat, iI_b2_0, iI_b2_1, mm_bI_some, mm_bV_some, mm_bL_some, mm_bA_some, fd_wL, fd_wR, fl_wI, fl_wR, re_wI, re_wL, re_wC, ite_true, ite_false, not_true_eq_false, not_false_eq_true, lq_ge, lq_le, lq_gt, lq_lt, lq_eq, jI_lt, jI_le, jI_eq, if_pos, if_neg, f1', ri', r72', v0, v1']
          · refine M.zero Kf6 (by intro a j; unfold NM QSs; omega) (fun q => q) ?_ ?_
            · rw [fd_wI_row (by omega), fd_wI_row (by omega), s3.1 _ _ (by omega), kw0.1 _ _ (by omega), fd_wI_row (by omega), ← hh1, fd_wI_row (by omega), fd_wI_same (by omega) (by omega)]
            · rw [fd_wI_col (by omega), fd_wI_row (by omega), s3.1 _ _ (by omega), kw0.1 _ _ (by omega), fd_wI_same (by omega) (by omega)]
          · refine ⟨⟨w1.1, ?_, ?_⟩, ⟨w2.1, ?_, ?_, w2.2.2.2.1, fun y => (w2.2.2.2.2 y).kf3 Kf6 (by intro a j; unfold NC QSs; omega)⟩, w3.kf2 Kf6 (by intro a j; unfold NR QSs; omega), ?_, n4, w6, ?_, S5.congr (fun a j a1 a2 => gs a j a1 (by omega)), ?_, ⟨⟨?_, fun y hy => by simp at hy⟩, ⟨?_, fun y hy => by simp at hy⟩, EvOK.nil, by simp; omega⟩, ?_, ?_, by omega, hi⟩
            · rw [Kf6.2.2]; exact w1.2.1
            · rw [Kf6.2.2]; exact w1.2.2
            · rw [Kf6.1 0 12 (by unfold QSs; omega)]; exact w2.2.1
            · rw [Kf6.1 264 53 (by unfold QSs; omega)]; exact w2.2.2.1
            · intro z y1 y2
              show fd _ 300 z.toNat = _
              rw [fd_wI_row (by omega), fd_wI_col (by omega)]
              exact s2 z y1 y2
            · rw [onA_0, up_same]; omega
            · rw [Kf6.1 264 64 (by unfold QSs; omega)]; exact w9
            · rw [gs _ _ (by omega) (by omega)]; exact k8
            · show fd _ 300 89 = _
              rw [fd_wI_row (by omega), fd_wI_same (by omega) (by omega)]
              rfl
            · rw [Kf6.1 264 65 (by unfold QSs; omega)]; omega
            · rw [Kf6.1 t 3 (by unfold QSs; omega), Kf6.1 264 47 (by unfold QSs; omega)]; exact w12
          · refine ⟨by simp, ?_, ?_, x, a4, ?_, ?_, fun j hj => by simp at hj⟩
            · rw [fd_wI_row (by omega), fd_wI_row (by omega), s3.1 _ _ (by omega), kw0.1 _ _ (by omega), fd_wI_row (by omega), ← hh1, fd_wI_same (by omega) (by omega)]
              rfl
            · rw [fd_wI_same (by omega) (by omega)]
              rfl
            · rw [Kf6.1 22 1 (by unfold QSs; omega)]; exact a5
            · rw [Kf6.1 264 74 (by unfold QSs; omega)]; exact a6
        · refine bad g4 Kg (Or.inr ⟨cs1, rd.trans u.1⟩) (fun g' kg => ?_)
          obtain ⟨TR1, f40, f53, f38, ri⟩ := rimg g' (kg.monoQ (fun a k q => by unfold QSs at q ⊢; omega))
          have ri' := ri (d + 34)
          rw [if_pos c1, if_pos c2] at ri'
          have r72 := (R_img_72 (d := d + 35) (fun j hj => TR1 j (by omega)) em8 f40 f53 f38 h9 m 0 (by omega)).resolve_left (fun z => u.2 (fun q hq => z.2 q (by omega) hq))
          rw [show ((0 : Nat) : Int) = 0 from rfl] at r72
          exact ri'.trans r72.1
      · have ckk := ck (d + 36)
        rw [b2_t c1] at ckk
        have ck' : mm_M mm_T0 (d + 38) 68 [.ref 1] h = some (some (.int (iI 1)), h) := by
          rw [U_X4_isChecked, show (149 : Int32) = iI 149 from rfl, show (0 : Int32) = iI 0 from rfl]
          exact ckk
        have y0' := y0 (d + 37)
        have y1' := y1 (d + 37)
        have t1 := TC0.1
        refine bad h Kf.refl (Or.inr ⟨cs1, ?_⟩) (fun g' kg => ?_)
        · rw [U_X4_read isS_13]
          simp (disch := omega) only [iI_lit, jI_lit, iI_neg, jI_neg, iI_add, iI_sub, iI_mul, jI_add, jI_sub, jI_mul, rdI, rdL, iI_lt, iI_le, iI_eq, iI_nat, iI_b2_0, iI_b2_1, mm_bI_some, mm_bV_some, mm_bL_some, mm_bA_some, fd_wL, fd_wR, fl_wI, fl_wR, re_wI, re_wL, re_wC, ite_true, ite_false, not_true_eq_false, not_false_eq_true, lq_ge, lq_le, lq_gt, lq_lt, lq_eq, jI_lt, jI_le, jI_eq, if_pos, if_neg, U_X8_size, y0', y1', t1, e10, z1, ck']
        · obtain ⟨TR1, f40, f53, f38, ri⟩ := rimg g' (kg.monoQ (fun a k q => by unfold QSs at q ⊢; omega))
          have ri' := ri (d + 34)
          rw [if_pos c1, if_neg c2] at ri'
          exact ri'
    · have ckk := ck (d + 36)
      rw [b2_f c1] at ckk
      have ck' : mm_M mm_T0 (d + 38) 68 [.ref 1] h = some (some (.int (iI 0)), h) := by
        rw [U_X4_isChecked, show (149 : Int32) = iI 149 from rfl, show (0 : Int32) = iI 0 from rfl]
        exact ckk
      have y0' := y0 (d + 37)
      have y1' := y1 (d + 37)
      have t1 := TC0.1
      refine bad h Kf.refl (Or.inr ⟨cs1, ?_⟩) (fun g' kg => ?_)
      · rw [U_X4_read isS_13]
        simp (disch := omega) only [iI_lit, jI_lit, iI_neg, jI_neg, iI_add, iI_sub, iI_mul, jI_add, jI_sub, jI_mul, rdI, rdL, iI_lt, iI_le, iI_eq, iI_nat, iI_b2_0, iI_b2_1, mm_bI_some, mm_bV_some, mm_bL_some, mm_bA_some, fd_wL, fd_wR, fl_wI, fl_wR, re_wI, re_wL, re_wC, ite_true, ite_false, not_true_eq_false, not_false_eq_true, lq_ge, lq_le, lq_gt, lq_lt, lq_eq, jI_lt, jI_le, jI_eq, if_pos, if_neg, U_X8_size, y0', y1', t1, e10, z1, ck']
      · obtain ⟨TR1, f40, f53, f38, ri⟩ := rimg g' (kg.monoQ (fun a k q => by unfold QSs at q ⊢; omega))
        have ri' := ri (d + 34)
        rw [if_neg c1] at ri'
        exact ri'
  · have t0 := C_byteAt (d := d + 37) (h := h) (k := 0) m1 m2.1 m2.2 (by omega) (by omega)
    have t1 := C_byteAt (d := d + 37) (h := h) (k := 1) m1 m2.1 m2.2 (by omega) (by omega)
    generalize (if (0 : Int) ≤ 0 ∧ (0 : Int) < fd h 264 1 then fd h 2 (0 : Int).toNat else -1) = v0 at t0
    generalize (if (0 : Int) ≤ 1 ∧ (1 : Int) < fd h 264 1 then fd h 2 (1 : Int).toNat else -1) = v1 at t1
    refine bad h Kf.refl (Or.inr ⟨cs1, ?_⟩) (fun g' kg => ?_)
    · rw [U_X4_read isS_13]
      simp (disch := omega) only [iI_lit, jI_lit, iI_neg, jI_neg, iI_add, iI_sub, iI_mul, jI_add, jI_sub, jI_mul, rdI, rdL, iI_lt, iI_le, iI_eq, iI_nat, iI_b2_0, iI_b2_1, mm_bI_some, mm_bV_some, mm_bL_some, mm_bA_some, fd_wL, fd_wR, fl_wI, fl_wR, re_wI, re_wL, re_wC, ite_true, ite_false, not_true_eq_false, not_false_eq_true, lq_ge, lq_le, lq_gt, lq_lt, lq_eq, jI_lt, jI_le, jI_eq, if_pos, if_neg, U_X8_size, t0, t1, m1, e10, z1]
    · have f40 : fd g' 264 40 = (m : Int) := (kg.1 _ _ (by unfold QSs; omega)).trans e40
      have f53 : fd g' 264 53 = 1 := by rw [kg.1 _ _ (by unfold QSs; omega), e53]; exact cs1
      rw [U_X12_isImage]
      simp (disch := omega) only [iI_lit, jI_lit, iI_neg, jI_neg, iI_add, iI_sub, iI_mul, jI_add, jI_sub, jI_mul, rdI, rdL, iI_lt, iI_le, iI_eq, iI_nat, iI_b2_0, iI_b2_1, mm_bI_some, mm_bV_some, mm_bL_some, mm_bA_some, fd_wL, fd_wR, fl_wI, fl_wR, re_wI, re_wL, re_wC, ite_true, ite_false, not_true_eq_false, not_false_eq_true, lq_ge, lq_le, lq_gt, lq_lt, lq_eq, jI_lt, jI_le, jI_eq, if_pos, if_neg, f53, f40, z2]
end ONK
