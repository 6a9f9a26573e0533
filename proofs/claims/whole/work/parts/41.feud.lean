/-! feuds, sets as numbers, has, paints, feud, letter -/
def fzS (cf : List Int) (fc kd n : Int → Int) (a b : Int) : Int := b2 (evv (Gf fc kd n a b) O0 cf = 1)
def fbS (cf : List Int) (pm : Int) (fc kd n : Int → Int) (k : Int) : Int := if who n pm k = -1 ∨ who n pm (k + 1) = -1 then 0 else fzS cf fc kd n (who n pm k) (who n pm (k + 1))
theorem fzS_b {cf : List Int} {fc kd n : Int → Int} {a b : Int} : 0 ≤ fzS cf fc kd n a b ∧ fzS cf fc kd n a b ≤ 1 := b2_le _
theorem fbS_b {cf : List Int} {pm : Int} {fc kd n : Int → Int} {k : Int} : 0 ≤ fbS cf pm fc kd n k ∧ fbS cf pm fc kd n k ≤ 1 := by
  unfold fbS
  split
  · omega
  · exact fzS_b
section FEUD
variable {d t s : Nat} {h : mm_H} {pm hm : Int} {fc kd n : Int → Int} {cp cm cf : List Int}
set_option maxHeartbeats 8000000 in
theorem C_isFeud {a b : Int} (ht : mm_isT t) (hs : mm_isS s) (hC : CT h t cp cm cf) (hS : SR h s pm hm fc kd n) (hN : NI pm hm n) (hF : FK pm fc kd) (y : 0 ≤ n 0 ∧ n 0 ≤ 2000) (a1 : 0 ≤ a) (a2 : a < pm) (b1 : 0 ≤ b) (b2' : b < pm) (ab : a ≠ b) : ∃ h', mm_M mm_T0 (d + 4) 146 [.ref t, .ref s, .int (iI a), .int (iI b)] h = some (some (.int (iI (fzS cf fc kd n a b))), h') ∧ Kf (QW t) nL h h' := by
  have h8 := hN.1
  have dis := ST_dis hs ht
  have hc := isT_C ht
  have bf := hF b b1 b2'
  have bk := hF a a1 a2
  have t1 := hN.2.2.2.1 a b a1 a2 b1 b2' ab
  have t2 := hN.2.2.2.1 b a b1 b2' a1 a2 (fun e => ab e.symm)
  have S1 : ∀ {g : mm_H} {k : Nat} {v : Int32}, SR g s pm hm fc kd n → SR (wI g (t + 10 + 4) k v) s pm hm fc kd n := fun S => S.congr (fun a k a1 a2 => fd_wI_row (by omega))
  have K0 : Kf (QW t) nL h (wI (wI (wI (wI (wI h (t + 10 + 4) 3 (iI (fc b))) (t + 10 + 4) 4 (iI (kd a))) (t + 10 + 4) 5 (iI (n (25 + 8 * a + b)))) (t + 10 + 4) 15 (iI (n 0))) (t + 10 + 4) 14 (iI (n (25 + 8 * b + a)))) := by
    refine Kf.wI (Kf.wI (Kf.wI (Kf.wI (Kf.wI Kf.refl ?_) ?_) ?_) ?_) ?_ <;> exact Or.inl rfl
  have G0 : ∀ j, alw 2 j = true → 0 ≤ j → j ≤ 10 → fd (wI (wI (wI (wI (wI h (t + 10 + 4) 3 (iI (fc b))) (t + 10 + 4) 4 (iI (kd a))) (t + 10 + 4) 5 (iI (n (25 + 8 * a + b)))) (t + 10 + 4) 15 (iI (n 0))) (t + 10 + 4) 14 (iI (n (25 + 8 * b + a)))) (t + 10 + 4) (wd j).toNat = Gf fc kd n a b j := by
    intro j hj j1 j2
    rcases alw2 hj with z | z | z | z | z
    · subst z
      rw [wdN0, show Gf fc kd n a b 0 = fc b by simp [Gf]]
      simp (disch := omega) only [fd_wI_col, fd_wI_same]
    · subst z
      rw [wdN1, show Gf fc kd n a b 1 = kd a by simp [Gf]]
      simp (disch := omega) only [fd_wI_col, fd_wI_same]
    · subst z
      rw [wdN2, show Gf fc kd n a b 2 = n (25 + 8 * a + b) by simp [Gf]]
      simp (disch := omega) only [fd_wI_col, fd_wI_same]
    · subst z
      rw [wdN3, show Gf fc kd n a b 3 = n 0 by simp [Gf]]
      simp (disch := omega) only [fd_wI_col, fd_wI_same]
    · subst z
      rw [wdN7, show Gf fc kd n a b 7 = n (25 + 8 * b + a) by simp [Gf]]
      simp (disch := omega) only [fd_wI_col, fd_wI_same]
  have hb := Gf_b bf.1 bk.2 t1 y t2
  obtain ⟨h', m1, m2⟩ := C_rule (d := d) (G := Gf fc kd n a b) ht hs (by omega) (by omega) (hC.2.2.kf K0 (by intro a j q; unfold QW at q; omega)) (by rw [(S1 (S1 (S1 (S1 (S1 hS))))).1]; omega) hb G0
  have vb := evv_b (O := O0) hb (fun _ _ => by unfold O0; omega) hC.2.2.1
  unfold vk at vb
  refine ⟨h', ?_, K0.trans m2⟩
  rw [U_X10_isFeud ht hs, C_face hs hS h8.2 b1 b2']
  simp (disch := omega) only [iI_lit, rdI, C_setValue hc, mm_bI_some, mm_bV_some]
  rw [C_kind hs (S1 hS) h8.2 a1 a2]
  simp (disch := omega) only [iI_lit, rdI, C_setValue hc, mm_bI_some, mm_bV_some]
  rw [C_think hs (S1 (S1 hS)) h8.2 a1 a2 b1 b2' ab]
  simp (disch := omega) only [iI_lit, rdI, C_setValue hc, mm_bI_some, mm_bV_some]
  rw [(S1 (S1 (S1 hS))).2.2.1, C_think hs (S1 (S1 (S1 (S1 hS)))) h8.2 b1 b2' a1 a2 (fun e => ab e.symm)]
  simp (disch := omega) only [iI_lit, rdI, C_setValue hc, mm_bI_some, mm_bV_some]
  have m1' := m1
  rw [show ((3 : Int)).toNat = 3 from rfl, show ((4 : Int)).toNat = 4 from rfl, show ((5 : Int)).toNat = 5 from rfl, show ((15 : Int)).toNat = 15 from rfl, show ((14 : Int)).toNat = 14 from rfl, m1', mm_bI_some]
  unfold fzS
  by_cases z : evv (Gf fc kd n a b) O0 cf = 1
  · rw [b2_t z]
    simp (disch := omega) only [iI_lit, jI_lit, iI_neg, jI_neg, iI_add, iI_sub, iI_mul, jI_add, jI_sub, jI_mul, rdI, rdL, iI_lt, iI_le, iI_eq, iI_nat, iI_b2_0, iI_b2_1, mm_bI_some, mm_bV_some, mm_bL_some, mm_bA_some, fd_wL, fd_wR, fl_wI, fl_wR, re_wI, re_wL, re_wC, ite_true, ite_false, not_true_eq_false, not_false_eq_true, lq_ge, lq_le, lq_gt, lq_lt, lq_eq, jI_lt, jI_le, jI_eq, if_pos, if_neg]
  · rw [b2_f z]
    simp (disch := omega) only [iI_lit, jI_lit, iI_neg, jI_neg, iI_add, iI_sub, iI_mul, jI_add, jI_sub, jI_mul, rdI, rdL, iI_lt, iI_le, iI_eq, iI_nat, iI_b2_0, iI_b2_1, mm_bI_some, mm_bV_some, mm_bL_some, mm_bA_some, fd_wL, fd_wR, fl_wI, fl_wR, re_wI, re_wL, re_wC, ite_true, ite_false, not_true_eq_false, not_false_eq_true, lq_ge, lq_le, lq_gt, lq_lt, lq_eq, jI_lt, jI_le, jI_eq, if_pos, if_neg]
set_option maxHeartbeats 8000000 in
theorem R_feud {a b : Int} (hT : RT h pm hm fc kd cp cm cf) (hr : RepR h n) (hN : NI pm hm n) (hF : FK pm fc kd) (y : 0 ≤ n 0 ∧ n 0 ≤ 2000) (a1 : 0 ≤ a) (a2 : a < pm) (b1 : 0 ≤ b) (b2' : b < pm) (ab : a ≠ b) : ∃ h', mm_M mm_T0 (d + 4) 230 [.ref 264, .int (iI a), .int (iI b)] h = some (some (.int (iI (fzS cf fc kd n a b))), h') ∧ Kf QP LE3 h h' := by
  have h8 := hN.1
  have f := hT.2.2.1
  exact @R_isFeud d h cf fc kd n a b hr hT.2.2.2.2.2 a1 (by omega) b1 (by omega) (f b b1 b2').1 (f a a1 a2).2 (hF b b1 b2').1 (hF a a1 a2).2 (hN.2.2.2.1 a b a1 a2 b1 b2' ab) y (hN.2.2.2.1 b a b1 b2' a1 a2 (fun e => ab e.symm)) (inferInstanceAs (Decidable (evv (Gf fc kd n a b) O0 cf = 1)))
theorem who_ne {k : Int} (hN : NI pm hm n) (c1 : who n pm k ≠ -1) (c2 : who n pm (k + 1) ≠ -1) : (0 ≤ who n pm k ∧ who n pm k < pm) ∧ (0 ≤ who n pm (k + 1) ∧ who n pm (k + 1) < pm) ∧ who n pm k ≠ who n pm (k + 1) := by
  have b1 := who_b (n := n) (h := k) hN.1.1
  have b2' := who_b (n := n) (h := k + 1) hN.1.1
  refine ⟨by omega, by omega, fun e => ?_⟩
  rw [e] at b1
  omega
set_option maxHeartbeats 8000000 in
theorem R_feudAt {k : Int} (hT : RT h pm hm fc kd cp cm cf) (hr : RepR h n) (hN : NI pm hm n) (hF : FK pm fc kd) (y : 0 ≤ n 0 ∧ n 0 ≤ 2000) (k0 : 0 ≤ k) (k1 : k < 100) : ∃ h', mm_M mm_T0 (d + 5) 243 [.ref 264, .int (iI k)] h = some (some (.int (iI (if who n pm k = -1 ∨ who n pm (k + 1) = -1 then -1 else fzS cf fc kd n (who n pm k) (who n pm (k + 1))))), h') ∧ Kf QP LE3 h h' := by
  have h8 := hN.1
  have ra := R_who (d := d + 2) hr hT.1 h8 (a := k) (by omega) (by omega)
  have rb := R_who (d := d + 2) hr hT.1 h8 (a := k + 1) (by omega) (by omega)
  rw [U_X12_feudAt]
  by_cases c : who n pm k = -1 ∨ who n pm (k + 1) = -1
  · refine ⟨h, ?_, Kf.refl⟩
    rw [if_pos c]
    have b1 := who_b (n := n) (h := k) h8.1
    have b2' := who_b (n := n) (h := k + 1) h8.1
    by_cases c1 : who n pm k = -1 <;> simp (disch := omega) only [iI_lit, jI_lit, iI_neg, jI_neg, iI_add, iI_sub, iI_mul, jI_add, jI_sub, jI_mul, rdI, rdL, iI_lt, iI_le, iI_eq, iI_nat, iI_b2_0, iI_b2_1, mm_bI_some, mm_bV_some, mm_bL_some, mm_bA_some, fd_wL, fd_wR, fl_wI, fl_wR, re_wI, re_wL, re_wC, ite_true, ite_false, not_true_eq_false, not_false_eq_true, lq_ge, lq_le, lq_gt, lq_lt, lq_eq, jI_lt, jI_le, jI_eq, if_pos, if_neg, ra, rb]
  · have w := who_ne hN (fun e => c (Or.inl e)) (fun e => c (Or.inr e))
    obtain ⟨h', m1, m2⟩ := R_feud (d := d) hT hr hN hF y w.1.1 w.1.2 w.2.1.1 w.2.1.2 w.2.2
    refine ⟨h', ?_, m2⟩
    rw [if_neg c]
    have fb := fzS_b (cf := cf) (fc := fc) (kd := kd) (n := n) (a := who n pm k) (b := who n pm (k + 1))
    by_cases z : fzS cf fc kd n (who n pm k) (who n pm (k + 1)) = 0
    · rw [z] at m1 ⊢
      simp (disch := omega) only [iI_lit, jI_lit, iI_neg, jI_neg, iI_add, iI_sub, iI_mul, jI_add, jI_sub, jI_mul, rdI, rdL, iI_lt, iI_le, iI_eq, iI_nat, iI_b2_0, iI_b2_1, mm_bI_some, mm_bV_some, mm_bL_some, mm_bA_some, fd_wL, fd_wR, fl_wI, fl_wR, re_wI, re_wL, re_wC, ite_true, ite_false, not_true_eq_false, not_false_eq_true, lq_ge, lq_le, lq_gt, lq_lt, lq_eq, jI_lt, jI_le, jI_eq, if_pos, if_neg, ra, rb, m1]
    · have z : fzS cf fc kd n (who n pm k) (who n pm (k + 1)) = 1 := by omega
      rw [z] at m1 ⊢
      simp (disch := omega) only [iI_lit, jI_lit, iI_neg, jI_neg, iI_add, iI_sub, iI_mul, jI_add, jI_sub, jI_mul, rdI, rdL, iI_lt, iI_le, iI_eq, iI_nat, iI_b2_0, iI_b2_1, mm_bI_some, mm_bV_some, mm_bL_some, mm_bA_some, fd_wL, fd_wR, fl_wI, fl_wR, re_wI, re_wL, re_wC, ite_true, ite_false, not_true_eq_false, not_false_eq_true, lq_ge, lq_le, lq_gt, lq_lt, lq_eq, jI_lt, jI_le, jI_eq, if_pos, if_neg, ra, rb, m1]
theorem RepR.qp {h' : mm_H} (r : RepR h n) (k : Kf QP LE3 h h') : RepR h' n := r.kf k (by intro j hj; unfold QP; omega)
theorem RT.qp {h' : mm_H} (r : RT h pm hm fc kd cp cm cf) (k : Kf QP LE3 h h') : RT h' pm hm fc kd cp cm cf := r.kf2 k (by intro a j; unfold NR QP; omega)
set_option maxHeartbeats 8000000 in
theorem R_feudMany_4 (hN : NI pm hm n) (hF : FK pm fc kd) (y : 0 ≤ n 0 ∧ n 0 ≤ 2000) : ∀ (k : Nat) (a p : Int) (h : mm_H), 0 ≤ p → p + k = hm → (0 ≤ a ∧ a ≤ p) → RT h pm hm fc kd cp cm cf → RepR h n → ∃ h', mm_D (mm_M mm_T0 (d + 5)) cd_X12_feudMany 4 [.ref 264, .int (iI a), .int (iI p)] [] h = some (some (.int (iI (a + sumF (fbS cf pm fc kd n) p k))), h') ∧ Kf QP LE3 h h'
  | 0, a, p, h, p0, pk, ha, hT, hr => by
    have h9 := hN.2.1
    have e38 : fd h 264 38 = hm := hT.2.1
    refine ⟨h, ?_, Kf.refl⟩
    rw [U_X12_feudMany_4]
    simp (disch := omega) only [iI_lit, jI_lit, iI_neg, jI_neg, iI_add, iI_sub, iI_mul, jI_add, jI_sub, jI_mul, rdI, rdL, iI_lt, iI_le, iI_eq, iI_nat, iI_b2_0, iI_b2_1, mm_bI_some, mm_bV_some, mm_bL_some, mm_bA_some, fd_wL, fd_wR, fl_wI, fl_wR, re_wI, re_wL, re_wC, ite_true, ite_false, not_true_eq_false, not_false_eq_true, lq_ge, lq_le, lq_gt, lq_lt, lq_eq, jI_lt, jI_le, jI_eq, if_pos, if_neg, e38, sumF, Int.add_zero]
  | k + 1, a, p, h, p0, pk, ha, hT, hr => by
    have h9 := hN.2.1
    have e38 : fd h 264 38 = hm := hT.2.1
    by_cases c0 : hm ≤ p + 1
    · refine ⟨h, ?_, Kf.refl⟩
      have kz : k = 0 := by omega
      subst kz
      have z : fbS cf pm fc kd n p = 0 := by
        unfold fbS
        rw [if_pos (Or.inr (who_out hN (by omega)))]
      rw [U_X12_feudMany_4]
      simp (disch := omega) only [iI_lit, jI_lit, iI_neg, jI_neg, iI_add, iI_sub, iI_mul, jI_add, jI_sub, jI_mul, rdI, rdL, iI_lt, iI_le, iI_eq, iI_nat, iI_b2_0, iI_b2_1, mm_bI_some, mm_bV_some, mm_bL_some, mm_bA_some, fd_wL, fd_wR, fl_wI, fl_wR, re_wI, re_wL, re_wC, ite_true, ite_false, not_true_eq_false, not_false_eq_true, lq_ge, lq_le, lq_gt, lq_lt, lq_eq, jI_lt, jI_le, jI_eq, if_pos, if_neg, e38, sumF, z, Int.add_zero]
    · obtain ⟨h1, m1, m2⟩ := R_feudAt (d := d) hT hr hN hF y p0 (by omega)
      have fb := fbS_b (cf := cf) (pm := pm) (fc := fc) (kd := kd) (n := n) (k := p)
      have ea : (if who n pm p = -1 ∨ who n pm (p + 1) = -1 then (-1 : Int) else fzS cf fc kd n (who n pm p) (who n pm (p + 1))) = 1 ↔ fbS cf pm fc kd n p = 1 := by
        unfold fbS
        split <;> omega
      have bd : -1 ≤ (if who n pm p = -1 ∨ who n pm (p + 1) = -1 then (-1 : Int) else fzS cf fc kd n (who n pm p) (who n pm (p + 1))) ∧ (if who n pm p = -1 ∨ who n pm (p + 1) = -1 then (-1 : Int) else fzS cf fc kd n (who n pm p) (who n pm (p + 1))) ≤ 1 := by
        have := fzS_b (cf := cf) (fc := fc) (kd := kd) (n := n) (a := who n pm p) (b := who n pm (p + 1))
        split <;> omega
      generalize (if who n pm p = -1 ∨ who n pm (p + 1) = -1 then (-1 : Int) else fzS cf fc kd n (who n pm p) (who n pm (p + 1))) = v at *
      by_cases c1 : v = 1
      · have e1 := ea.mp c1
        obtain ⟨h', q1, q2⟩ := R_feudMany_4 hN hF y k (a + 1) (p + 1) h1 (by omega) (by omega) (by omega) (hT.qp m2) (hr.qp m2)
        refine ⟨h', ?_, m2.trans q2⟩
        rw [U_X12_feudMany_4]
        simp (disch := omega) only [iI_lit, jI_lit, iI_neg, jI_neg, iI_add, iI_sub, iI_mul, jI_add, jI_sub, jI_mul, rdI, rdL, iI_lt, iI_le, iI_eq, iI_nat, iI_b2_0, iI_b2_1, mm_bI_some, mm_bV_some, mm_bL_some, mm_bA_some, fd_wL, fd_wR, fl_wI, fl_wR, re_wI, re_wL, re_wC, ite_true, ite_false, not_true_eq_false, not_false_eq_true, lq_ge, lq_le, lq_gt, lq_lt, lq_eq, jI_lt, jI_le, jI_eq, if_pos, if_neg, e38, m1, q1]
        rw [sumF, e1, Int.add_assoc]
      · have e1 : fbS cf pm fc kd n p = 0 := by
          have : fbS cf pm fc kd n p ≠ 1 := fun e => c1 (ea.mpr e)
          omega
        obtain ⟨h', q1, q2⟩ := R_feudMany_4 hN hF y k a (p + 1) h1 (by omega) (by omega) (by omega) (hT.qp m2) (hr.qp m2)
        refine ⟨h', ?_, m2.trans q2⟩
        rw [U_X12_feudMany_4]
        simp (disch := omega) only [iI_lit, jI_lit, iI_neg, jI_neg, iI_add, iI_sub, iI_mul, jI_add, jI_sub, jI_mul, rdI, rdL, iI_lt, iI_le, iI_eq, iI_nat, iI_b2_0, iI_b2_1, mm_bI_some, mm_bV_some, mm_bL_some, mm_bA_some, fd_wL, fd_wR, fl_wI, fl_wR, re_wI, re_wL, re_wC, ite_true, ite_false, not_true_eq_false, not_false_eq_true, lq_ge, lq_le, lq_gt, lq_lt, lq_eq, jI_lt, jI_le, jI_eq, if_pos, if_neg, e38, m1, q1]
        rw [sumF, e1, Int.zero_add]
/-! sets of at most nine as numbers -/
def pc (x : Nat) : Nat := x % 2 + x / 2 % 2 + x / 4 % 2 + x / 8 % 2 + x / 16 % 2 + x / 32 % 2 + x / 64 % 2 + x / 128 % 2 + x / 256 % 2
def bcA (x : Int32) : Int32 := x - (((x.toUInt32 >>> ((1 : Int32).toUInt32 &&& Int32.toUInt32 31)).toInt32) &&& 1431655765)
def bcB (x : Int32) : Int32 := (x &&& 858993459) + (((x.toUInt32 >>> ((2 : Int32).toUInt32 &&& Int32.toUInt32 31)).toInt32) &&& 858993459)
def bcC (x : Int32) : Int32 := (x + ((x.toUInt32 >>> ((4 : Int32).toUInt32 &&& Int32.toUInt32 31)).toInt32)) &&& 252645135
def bcD (x : Int32) : Int32 := x + ((x.toUInt32 >>> ((8 : Int32).toUInt32 &&& Int32.toUInt32 31)).toInt32)
def bcE (x : Int32) : Int32 := (x + ((x.toUInt32 >>> ((16 : Int32).toUInt32 &&& Int32.toUInt32 31)).toInt32)) &&& 63
set_option maxRecDepth 20000 in
theorem bc_tab : ∀ x, x < 512 → bcE (bcD (bcC (bcB (bcA (iI (x : Nat)))))) = iI ((pc x : Nat) : Int) := by decide +kernel
theorem J_bits {x : Nat} (hx : x < 512) : mm_M mm_T0 (d + 1) 6 [.int (iI (x : Nat))] h = some (some (.int (iI ((pc x : Nat) : Int))), h) := by
  rw [U_J6_bitCount_0f7a4, ← bc_tab x hx]
  rfl
theorem pc_add : ∀ m, m < 9 → ∀ b, b < 2 ^ m → pc (2 ^ m + b) = pc b + 1 := by decide +kernel
def or_tab0 (m b : Nat) : Bool := iI (b : Nat) ||| ((1 : Int32) <<< (iI (m : Nat) &&& iI 31)) == iI ((2 ^ m + b : Nat) : Int)
theorem or_tab1 : ∀ m, m < 10 → ∀ b, b < 2 ^ m → or_tab0 m b = true := by decide +kernel
theorem or_tab {m b : Nat} (hm : m < 10) (hb : b < 2 ^ m) : iI (b : Nat) ||| ((1 : Int32) <<< (iI (m : Nat) &&& iI 31)) = iI ((2 ^ m + b : Nat) : Int) := eq_of_beq (or_tab1 m hm b hb)
/-- the set of the j below m with f j = 1 -/
def setN (f : Int → Int) : Nat → Nat
  | 0 => 0
  | m + 1 => if f (m : Nat) = 1 then 2 ^ m + setN f m else setN f m
theorem setN_lt {f : Int → Int} : ∀ m, setN f m < 2 ^ m
  | 0 => by simp [setN]
  | m + 1 => by
    have := setN_lt (f := f) m
    unfold setN
    rw [Nat.pow_succ]
    split <;> omega
theorem setN_s0 {f : Int → Int} {m : Nat} (c : f (m : Nat) ≠ 1) : setN f (m + 1) = setN f m := by
  show (if f (m : Nat) = 1 then _ else _) = _
  rw [if_neg c]
theorem setN_s1 {f : Int → Int} {m : Nat} (c : f (m : Nat) = 1) : setN f (m + 1) = 2 ^ m + setN f m := by
  show (if f (m : Nat) = 1 then _ else _) = _
  rw [if_pos c]
theorem sumF_snoc {f : Int → Int} : ∀ (k : Nat) (p : Int), sumF f p (k + 1) = sumF f p k + f (p + k)
  | 0, p => by simp [sumF]
  | k + 1, p => by
    have e := sumF_snoc (f := f) k (p + 1)
    have z : p + 1 + (k : Int) = p + ((k + 1 : Nat) : Int) := by omega
    rw [sumF, e, sumF, z, Int.add_assoc]
theorem setN_pc {f : Int → Int} (hf : ∀ k, 0 ≤ f k ∧ f k ≤ 1) : ∀ m, m ≤ 9 → ((pc (setN f m) : Nat) : Int) = sumF f 0 m
  | 0, _ => by simp [setN, sumF, pc]
  | m + 1, hm => by
    have i := setN_pc hf m (by omega)
    have l := setN_lt (f := f) m
    have b := hf (m : Nat)
    rw [sumF_snoc, Int.zero_add, ← i]
    by_cases c : f (m : Nat) = 1
    · rw [setN_s1 c, pc_add m (by omega) _ l, c]
      omega
    · rw [setN_s0 c, show f (m : Nat) = 0 by omega, Int.add_zero]
theorem p29 {m : Nat} (h : m ≤ 9) : 2 ^ m ≤ 512 := by
  have : ∀ m, m ≤ 9 → 2 ^ m ≤ 512 := by decide
  exact this m h
set_option maxHeartbeats 8000000 in
theorem C_feudBits_4 (ht : mm_isT t) (hs : mm_isS s) (hN : NI pm hm n) (hF : FK pm fc kd) (y : 0 ≤ n 0 ∧ n 0 ≤ 2000) : ∀ (k p : Nat) (h : mm_H), ((p + k : Nat) : Int) = hm → CT h t cp cm cf → SR h s pm hm fc kd n → ∃ h', mm_D (mm_M mm_T0 (d + 4)) cd_X10_feudBits 4 [.ref t, .ref s, .int (iI ((setN (fbS cf pm fc kd n) p : Nat) : Int)), .int (iI (p : Nat)), .null, .null] [] h = some (some (.int (iI ((setN (fbS cf pm fc kd n) hm.toNat : Nat) : Int))), h') ∧ Kf (QW t) nL h h'
  | 0, p, h, pk, hC, hS => by
    have h9 := hN.2.1
    have e9 : fd h s 9 = hm := hS.2.1
    have ep : hm.toNat = p := by omega
    refine ⟨h, ?_, Kf.refl⟩
    rw [U_X10_feudBits_4 ht hs, ep]
    simp (disch := omega) only [iI_lit, jI_lit, iI_neg, jI_neg, iI_add, iI_sub, iI_mul, jI_add, jI_sub, jI_mul, rdI, rdL, iI_lt, iI_le, iI_eq, iI_nat, iI_b2_0, iI_b2_1, mm_bI_some, mm_bV_some, mm_bL_some, mm_bA_some, fd_wL, fd_wR, fl_wI, fl_wR, re_wI, re_wL, re_wC, ite_true, ite_false, not_true_eq_false, not_false_eq_true, lq_ge, lq_le, lq_gt, lq_lt, lq_eq, jI_lt, jI_le, jI_eq, if_pos, if_neg, e9]
  | k + 1, p, h, pk, hC, hS => by
    have h9 := hN.2.1
    have h8 := hN.1
    have dis := ST_dis hs ht
    have e9 : fd h s 9 = hm := hS.2.1
    have w1 := C_who (d := d + 2) hs hS hN (a := (p : Nat)) (by omega) (by omega)
    have b1 := who_b (n := n) (h := (p : Nat)) h8.1
    have b2' := who_b (n := n) (h := (p : Nat) + 1) h8.1
    have nn : mm_M mm_T0 (d + 4) 111 [.ref s, .int (iI (who n pm (p : Nat))), .int (iI 1)] h = some (some (.int (iI (if who n pm (p : Nat) = -1 then -1 else who n pm ((p : Nat) + 1)))), h) := by
      by_cases c : who n pm (p : Nat) = -1
      · rw [c, if_pos rfl, U_X7_neighbourOf hs]
        simp (disch := omega) only [iI_lit, jI_lit, iI_neg, jI_neg, iI_add, iI_sub, iI_mul, jI_add, jI_sub, jI_mul, rdI, rdL, iI_lt, iI_le, iI_eq, iI_nat, iI_b2_0, iI_b2_1, mm_bI_some, mm_bV_some, mm_bL_some, mm_bA_some, fd_wL, fd_wR, fl_wI, fl_wR, re_wI, re_wL, re_wC, ite_true, ite_false, not_true_eq_false, not_false_eq_true, lq_ge, lq_le, lq_gt, lq_lt, lq_eq, jI_lt, jI_le, jI_eq, if_pos, if_neg, S_isPerson hs]
      · rw [if_neg c, C_nb (d := d + 1) hs hS hN (by omega) (by omega) (Or.inr rfl)]
        have e : nb n pm (who n pm (p : Nat)) 1 = who n pm ((p : Nat) + 1) := by
          unfold nb
          rw [if_neg (by omega)]
          congr 1
          omega
        rw [e]
    have fb := fbS_b (cf := cf) (pm := pm) (fc := fc) (kd := kd) (n := n) (k := (p : Nat))
    have e1 : ((p : Nat) : Int) + 1 = ((p + 1 : Nat) : Int) := by omega
    by_cases c0 : who n pm (p : Nat) = -1 ∨ who n pm ((p : Nat) + 1) = -1
    · have z : fbS cf pm fc kd n (p : Nat) = 0 := by
        unfold fbS
        rw [if_pos c0]
      have sz : setN (fbS cf pm fc kd n) (p + 1) = setN (fbS cf pm fc kd n) p := by
        show (if fbS cf pm fc kd n (p : Nat) = 1 then _ else _) = _
        rw [if_neg (by omega)]
      have v : (if who n pm (p : Nat) = -1 then -1 else who n pm ((p : Nat) + 1)) = -1 := by
        split
        · rfl
        · omega
      rw [v] at nn
      obtain ⟨h', q1, q2⟩ := C_feudBits_4 ht hs hN hF y k (p + 1) h (by omega) hC hS
      refine ⟨h', ?_, q2⟩
      rw [sz] at q1
      rw [U_X10_feudBits_4 ht hs, ← q1]
      simp (disch := omega) only [iI_lit, jI_lit, iI_neg, jI_neg, iI_add, iI_sub, iI_mul, jI_add, jI_sub, jI_mul, rdI, rdL, iI_lt, iI_le, iI_eq, iI_nat, iI_b2_0, iI_b2_1, mm_bI_some, mm_bV_some, mm_bL_some, mm_bA_some, fd_wL, fd_wR, fl_wI, fl_wR, re_wI, re_wL, re_wC, ite_true, ite_false, not_true_eq_false, not_false_eq_true, lq_ge, lq_le, lq_gt, lq_lt, lq_eq, jI_lt, jI_le, jI_eq, if_pos, if_neg, e9, w1, nn, e1]
    · have w := who_ne hN (fun e => c0 (Or.inl e)) (fun e => c0 (Or.inr e))
      have v : (if who n pm (p : Nat) = -1 then -1 else who n pm ((p : Nat) + 1)) = who n pm ((p : Nat) + 1) := by
        rw [if_neg (by omega)]
      rw [v] at nn
      obtain ⟨h1, m1, m2⟩ := C_isFeud (d := d) ht hs hC hS hN hF y w.1.1 w.1.2 w.2.1.1 w.2.1.2 w.2.2
      have ef : fbS cf pm fc kd n (p : Nat) = fzS cf fc kd n (who n pm (p : Nat)) (who n pm ((p : Nat) + 1)) := by
        unfold fbS
        rw [if_neg c0]
      rw [← ef] at m1
      obtain ⟨h', q1, q2⟩ := C_feudBits_4 ht hs hN hF y k (p + 1) h1 (by omega) (hC.kf3 m2 (by intro a j; unfold NC QW; omega)) (hS.kf m2 (by intro a j a1 a2; unfold QW; omega))
      refine ⟨h', ?_, m2.trans q2⟩
      rw [← q1, U_X10_feudBits_4 ht hs]
      have l := setN_lt (f := fbS cf pm fc kd n) p
      have lp := p29 (m := p) (by omega)
      by_cases c1 : fbS cf pm fc kd n (p : Nat) = 1
      · have sz : setN (fbS cf pm fc kd n) (p + 1) = 2 ^ p + setN (fbS cf pm fc kd n) p := by
          show (if fbS cf pm fc kd n (p : Nat) = 1 then _ else _) = _
          rw [if_pos c1]
        rw [c1, e1] at m1
        rw [e1] at nn w
        rw [sz, ← or_tab (by omega) l]
        simp (disch := omega) only [rdI, e9, show (0 : Int32) = iI 0 from rfl, show (1 : Int32) = iI 1 from rfl, show (31 : Int32) = iI 31 from rfl, iI_neg, iI_le, iI_eq, if_pos, if_neg, w1, nn, m1, mm_bI_some, iI_add, e1]
      · have sz : setN (fbS cf pm fc kd n) (p + 1) = setN (fbS cf pm fc kd n) p := by
          show (if fbS cf pm fc kd n (p : Nat) = 1 then _ else _) = _
          rw [if_neg c1]
        have z : fbS cf pm fc kd n (p : Nat) = 0 := by omega
        rw [z, e1] at m1
        rw [e1] at nn w
        rw [sz]
        simp (disch := omega) only [iI_lit, jI_lit, iI_neg, jI_neg, iI_add, iI_sub, iI_mul, jI_add, jI_sub, jI_mul, rdI, rdL, iI_lt, iI_le, iI_eq, iI_nat, iI_b2_0, iI_b2_1, mm_bI_some, mm_bV_some, mm_bL_some, mm_bA_some, fd_wL, fd_wR, fl_wI, fl_wR, re_wI, re_wL, re_wC, ite_true, ite_false, not_true_eq_false, not_false_eq_true, lq_ge, lq_le, lq_gt, lq_lt, lq_eq, jI_lt, jI_le, jI_eq, if_pos, if_neg, e9, w1, nn, m1, e1]
set_option maxHeartbeats 8000000 in
theorem C_feudBits (ht : mm_isT t) (hs : mm_isS s) (hC : hm ≠ 0 → CT h t cp cm cf) (hS : SR h s pm hm fc kd n) (hN : NI pm hm n) (hF : FK pm fc kd) (y : 0 ≤ n 0 ∧ n 0 ≤ 2000) : ∃ h', mm_M mm_T0 (d + 5) 147 [.ref t, .ref s] h = some (some (.int (iI ((setN (fbS cf pm fc kd n) hm.toNat : Nat) : Int))), h') ∧ Kf (QW t) nL h h' := by
  by_cases c : hm = 0
  · have e9 : fd h s 9 = hm := hS.2.1
    refine ⟨h, ?_, Kf.refl⟩
    rw [U_X10_feudBits ht hs, U_X10_feudBits_4 ht hs, c]
    simp (disch := omega) only [iI_lit, jI_lit, iI_neg, jI_neg, iI_add, iI_sub, iI_mul, jI_add, jI_sub, jI_mul, rdI, rdL, iI_lt, iI_le, iI_eq, iI_nat, iI_b2_0, iI_b2_1, mm_bI_some, mm_bV_some, mm_bL_some, mm_bA_some, fd_wL, fd_wR, fl_wI, fl_wR, re_wI, re_wL, re_wC, ite_true, ite_false, not_true_eq_false, not_false_eq_true, lq_ge, lq_le, lq_gt, lq_lt, lq_eq, jI_lt, jI_le, jI_eq, if_pos, if_neg, e9]
    rfl
  · have h9 := hN.2.1
    obtain ⟨h', m1, m2⟩ := C_feudBits_4 (d := d) ht hs hN hF y hm.toNat 0 h (by omega) (hC c) hS
    exact ⟨h', by rw [U_X10_feudBits ht hs]; exact m1, m2⟩
/-! sums in the reference -/
set_option maxHeartbeats 8000000 in
theorem R_lookAll_4 (hr : RepR h n) (e40 : fd h 264 40 = pm) (h8 : 0 ≤ pm ∧ pm ≤ 8) : ∀ (k : Nat) (a p : Int), 0 ≤ p → p + k = pm → mm_D (mm_M mm_T0 (d + 1)) cd_X12_lookAll 4 [.ref 264, .int (iI a), .int (iI p)] [] h = some (some (.int (iI (a + sumF (fun z => n (2 + 3 * z)) p k))), h)
  | 0, a, p, h1, h2 => by
    rw [U_X12_lookAll_4]
    simp (disch := omega) only [iI_lit, jI_lit, iI_neg, jI_neg, iI_add, iI_sub, iI_mul, jI_add, jI_sub, jI_mul, rdI, rdL, iI_lt, iI_le, iI_eq, iI_nat, iI_b2_0, iI_b2_1, mm_bI_some, mm_bV_some, mm_bL_some, mm_bA_some, fd_wL, fd_wR, fl_wI, fl_wR, re_wI, re_wL, re_wC, ite_true, ite_false, not_true_eq_false, not_false_eq_true, lq_ge, lq_le, lq_gt, lq_lt, lq_eq, jI_lt, jI_le, jI_eq, if_pos, if_neg, e40, sumF, Int.add_zero]
  | k + 1, a, p, h1, h2 => by
    have e := hr (2 + 3 * p) (by omega) (by omega)
    rw [U_X12_lookAll_4]
    simp (disch := omega) only [iI_lit, jI_lit, iI_neg, jI_neg, iI_add, iI_sub, iI_mul, jI_add, jI_sub, jI_mul, rdI, rdL, iI_lt, iI_le, iI_eq, iI_nat, iI_b2_0, iI_b2_1, mm_bI_some, mm_bV_some, mm_bL_some, mm_bA_some, fd_wL, fd_wR, fl_wI, fl_wR, re_wI, re_wL, re_wC, ite_true, ite_false, not_true_eq_false, not_false_eq_true, lq_ge, lq_le, lq_gt, lq_lt, lq_eq, jI_lt, jI_le, jI_eq, if_pos, if_neg, e40, R_lookOf, e]
    rw [R_lookAll_4 hr e40 h8 k _ (p + 1) (by omega) (by omega), sumF, Int.add_assoc]
set_option maxHeartbeats 8000000 in
theorem R_lookAll (hr : RepR h n) (e40 : fd h 264 40 = pm) (h8 : 0 ≤ pm ∧ pm ≤ 8) : mm_M mm_T0 (d + 2) 240 [.ref 264] h = some (some (.int (iI (sumF (fun z => n (2 + 3 * z)) 0 pm.toNat))), h) := by
  rw [U_X12_lookAll, iI_lit, R_lookAll_4 hr e40 h8 pm.toNat 0 0 (by omega) (by omega), Int.zero_add]
set_option maxHeartbeats 8000000 in
theorem R_curtains_4 (hr : RepR h n) (e40 : fd h 264 40 = pm) (h8 : 0 ≤ pm ∧ pm ≤ 8) (hb : ∀ p, 0 ≤ p → p < pm → 0 ≤ n (2 + 3 * p) ∧ n (2 + 3 * p) ≤ 99) : ∀ (k : Nat) (a p : Int), 0 ≤ p → p + k = pm → mm_D (mm_M mm_T0 (d + 1)) cd_X12_curtainsNow 4 [.ref 264, .int (iI a), .int (iI p)] [] h = some (some (.int (iI (a + sumF (fun z => b2 (n (2 + 3 * z) = 0)) p k))), h)
  | 0, a, p, h1, h2 => by
    rw [U_X12_curtainsNow_4]
    simp (disch := omega) only [iI_lit, jI_lit, iI_neg, jI_neg, iI_add, iI_sub, iI_mul, jI_add, jI_sub, jI_mul, rdI, rdL, iI_lt, iI_le, iI_eq, iI_nat, iI_b2_0, iI_b2_1, mm_bI_some, mm_bV_some, mm_bL_some, mm_bA_some, fd_wL, fd_wR, fl_wI, fl_wR, re_wI, re_wL, re_wC, ite_true, ite_false, not_true_eq_false, not_false_eq_true, lq_ge, lq_le, lq_gt, lq_lt, lq_eq, jI_lt, jI_le, jI_eq, if_pos, if_neg, e40, sumF, Int.add_zero]
  | k + 1, a, p, h1, h2 => by
    have e := hr (2 + 3 * p) (by omega) (by omega)
    have b := hb p h1 (by omega)
    rw [U_X12_curtainsNow_4]
    by_cases c : n (2 + 3 * p) = 0
    · simp (disch := omega) only [iI_lit, jI_lit, iI_neg, jI_neg, iI_add, iI_sub, iI_mul, jI_add, jI_sub, jI_mul, rdI, rdL, iI_lt, iI_le, iI_eq, iI_nat, iI_b2_0, iI_b2_1, mm_bI_some, mm_bV_some, mm_bL_some, mm_bA_some, fd_wL, fd_wR, fl_wI, fl_wR, re_wI, re_wL, re_wC, ite_true, ite_false, not_true_eq_false, not_false_eq_true, lq_ge, lq_le, lq_gt, lq_lt, lq_eq, jI_lt, jI_le, jI_eq, if_pos, if_neg, e40, R_lookOf, e]
      rw [R_curtains_4 hr e40 h8 hb k _ (p + 1) (by omega) (by omega), sumF, b2_t c, Int.add_assoc]
    · simp (disch := omega) only [iI_lit, jI_lit, iI_neg, jI_neg, iI_add, iI_sub, iI_mul, jI_add, jI_sub, jI_mul, rdI, rdL, iI_lt, iI_le, iI_eq, iI_nat, iI_b2_0, iI_b2_1, mm_bI_some, mm_bV_some, mm_bL_some, mm_bA_some, fd_wL, fd_wR, fl_wI, fl_wR, re_wI, re_wL, re_wC, ite_true, ite_false, not_true_eq_false, not_false_eq_true, lq_ge, lq_le, lq_gt, lq_lt, lq_eq, jI_lt, jI_le, jI_eq, if_pos, if_neg, e40, R_lookOf, e]
      rw [R_curtains_4 hr e40 h8 hb k _ (p + 1) (by omega) (by omega), sumF, b2_f c, Int.zero_add]
set_option maxHeartbeats 8000000 in
theorem R_spareMany_4 (hr : RepR h n) (e40 : fd h 264 40 = pm) (h8 : 0 ≤ pm ∧ pm ≤ 8) (hb : ∀ p, 0 ≤ p → p < pm → 0 ≤ n (3 + 3 * p) ∧ n (3 + 3 * p) ≤ 1) : ∀ (k : Nat) (a p : Int), 0 ≤ p → p + k = pm → mm_D (mm_M mm_T0 (d + 1)) cd_X12_spareMany 4 [.ref 264, .int (iI a), .int (iI p)] [] h = some (some (.int (iI (a + sumF (fun z => n (3 + 3 * z)) p k))), h)
  | 0, a, p, h1, h2 => by
    rw [U_X12_spareMany_4]
    simp (disch := omega) only [iI_lit, jI_lit, iI_neg, jI_neg, iI_add, iI_sub, iI_mul, jI_add, jI_sub, jI_mul, rdI, rdL, iI_lt, iI_le, iI_eq, iI_nat, iI_b2_0, iI_b2_1, mm_bI_some, mm_bV_some, mm_bL_some, mm_bA_some, fd_wL, fd_wR, fl_wI, fl_wR, re_wI, re_wL, re_wC, ite_true, ite_false, not_true_eq_false, not_false_eq_true, lq_ge, lq_le, lq_gt, lq_lt, lq_eq, jI_lt, jI_le, jI_eq, if_pos, if_neg, e40, sumF, Int.add_zero]
  | k + 1, a, p, h1, h2 => by
    have e := hr (3 + 3 * p) (by omega) (by omega)
    have b := hb p h1 (by omega)
    rw [U_X12_spareMany_4]
    by_cases c : n (3 + 3 * p) = 0
    · simp (disch := omega) only [iI_lit, jI_lit, iI_neg, jI_neg, iI_add, iI_sub, iI_mul, jI_add, jI_sub, jI_mul, rdI, rdL, iI_lt, iI_le, iI_eq, iI_nat, iI_b2_0, iI_b2_1, mm_bI_some, mm_bV_some, mm_bL_some, mm_bA_some, fd_wL, fd_wR, fl_wI, fl_wR, re_wI, re_wL, re_wC, ite_true, ite_false, not_true_eq_false, not_false_eq_true, lq_ge, lq_le, lq_gt, lq_lt, lq_eq, jI_lt, jI_le, jI_eq, if_pos, if_neg, e40, R_doesSpare, e]
      rw [R_spareMany_4 hr e40 h8 hb k _ (p + 1) (by omega) (by omega), sumF, c, Int.zero_add]
    · have c : n (3 + 3 * p) = 1 := by omega
      simp (disch := omega) only [iI_lit, jI_lit, iI_neg, jI_neg, iI_add, iI_sub, iI_mul, jI_add, jI_sub, jI_mul, rdI, rdL, iI_lt, iI_le, iI_eq, iI_nat, iI_b2_0, iI_b2_1, mm_bI_some, mm_bV_some, mm_bL_some, mm_bA_some, fd_wL, fd_wR, fl_wI, fl_wR, re_wI, re_wL, re_wC, ite_true, ite_false, not_true_eq_false, not_false_eq_true, lq_ge, lq_le, lq_gt, lq_lt, lq_eq, jI_lt, jI_le, jI_eq, if_pos, if_neg, e40, R_doesSpare, e]
      rw [R_spareMany_4 hr e40 h8 hb k _ (p + 1) (by omega) (by omega), sumF, c, Int.add_assoc]
end FEUD
