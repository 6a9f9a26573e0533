/-! changed -/
section CHANGED
variable {cp cm : List Int} {hm pm : Int} {fc kd : Int → Int}
/-- all portraits together -/
def allS (pm : Int) (n : Int → Int) : Int := sumF (fun z => n (2 + 3 * z)) 0 pm.toNat
theorem allS_b {n : Int → Int} (hN : NI pm hm n) : 0 ≤ allS pm n ∧ allS pm n ≤ 792 := by
  have h8 := hN.1
  have := sumF_le (f := fun z => n (2 + 3 * z)) (m := 99) (k := pm.toNat) (p := 0) (fun j h1 h2 => (hN.2.2.1 j h1 (by omega)).2.1)
  unfold allS
  omega
def chV (cp cm : List Int) (hm pm : Int) (fc kd : Int → Int) (n : Int → Int) (N a b : Int) : Int := allS pm (yearsS cp cm hm pm fc kd N.toNat (chg n pm a b)).1
def chIn (cp cm : List Int) (hm pm : Int) (fc kd n : Int → Int) (N a : Int) : Nat → Int → Int × Int × Int → Int × Int × Int
  | 0, _, s => s
  | k + 1, b, s => chIn cp cm hm pm fc kd n N a k (b + 1) (if s.2.2 < chV cp cm hm pm fc kd n N a b then (a, b, chV cp cm hm pm fc kd n N a b) else s)
def chOut (cp cm : List Int) (hm pm : Int) (fc kd n : Int → Int) (N : Int) : Nat → Int → Int × Int × Int → Int × Int × Int
  | 0, _, s => s
  | k + 1, a, s => chOut cp cm hm pm fc kd n N k (a + 1) (chIn cp cm hm pm fc kd n N a (hm - (a + 1)).toNat (a + 1) s)
/-- a found one is within bounds -/
def BdS (hm : Int) (s : Int × Int × Int) : Prop := (-1 ≤ s.1 ∧ s.1 < hm) ∧ (-1 ≤ s.2.1 ∧ s.2.1 < hm) ∧ (0 ≤ s.2.2 ∧ s.2.2 ≤ 1000)
/-- and stands in the class's cells -/
def BsC (g : mm_H) (s : Int × Int × Int) : Prop := fd g 204 6 = s.1 ∧ (s.1 ≠ -1 → fd g 204 7 = s.2.1) ∧ fd g 204 8 = s.2.2
variable {d t : Nat} {h : mm_H} {cf : List Int} {n : Int → Int} {ev : Evs} {N : Int}
theorem chV_b {a b : Int} (hN : NI pm hm n) (ab : a ≠ b) (a1 : 0 ≤ a) (a2 : a < hm) (b1 : 0 ≤ b) (b2' : b < hm) : 0 ≤ chV cp cm hm pm fc kd n N a b ∧ chV cp cm hm pm fc kd n N a b ≤ 792 := allS_b (yearsS_ok (cp := cp) (cm := cm) (fc := fc) (kd := kd) N.toNat _ (chg_NI hN ab a1 a2 b1 b2')).1
set_option maxHeartbeats 8000000 in
theorem C_all {s : Nat} {g : mm_H} {m : Int → Int} (hs : mm_isS s) (hS : SR g s pm hm fc kd m) (hN : NI pm hm m) : mm_M mm_T0 (d + 3) 124 [.ref s] g = some (some (.int (iI (allS pm m))), g) := by
  have e10 := hS.1
  have h8 := hN.1
  rw [S_allLooks hs (by omega), e10, sumF_congr (g := fun z => m (2 + 3 * z)) (fun j j1 j2 => (hS.2.2.2.1 j j1 (by omega)).2.2.2.1)]
  rfl
set_option maxHeartbeats 8000000 in
theorem C_ch_37 {a : Int} (ht : mm_isT t) (hF : FK pm fc kd) (N1 : 0 ≤ N) (N2 : N ≤ 20) (hC : CT h t cp cm cf) (hS : SR h 13 pm hm fc kd n) (hk : KeptC h 13 ev) (hl : ev.length < 9800000) (hN : NI pm hm n) (y : 0 ≤ n 0 ∧ n 0 + N ≤ 999) (a1 : 0 ≤ a) (a2 : a < hm) : ∀ (k : Nat) (b : Int) (g : mm_H) (s : Int × Int × Int), a < b → b + k = hm → Kf (SC t) nL h g → BdS hm s → BsC g s → ∃ g', mm_D (mm_M mm_T0 (d + 6)) cd_X0_findChange 37 [.ref 204, .ref t, .ref 13, .int (iI N), .int (iI a), .int (iI b)] [] g = mm_D (mm_M mm_T0 (d + 6)) cd_X0_findChange 22 [.ref 204, .ref t, .ref 13, .int (iI N), .int (iI (a + 1)), .null] [] g' ∧ Kf (SC t) nL h g' ∧ BdS hm (chIn cp cm hm pm fc kd n N a k b s) ∧ BsC g' (chIn cp cm hm pm fc kd n N a k b s)
  | 0, b, g, s, ab, bk, K, B, C => by
    have h9 := hN.2.1
    have tt := isT_or ht
    have e9 : fd g 13 9 = hm := (K.1 _ _ (by unfold SC; omega)).trans hS.2.1
    refine ⟨g, ?_, K, B, C⟩
    rw [U_X0_findChange_37 ht isS_13]
    simp (disch := omega) only [iI_lit, jI_lit, iI_neg, jI_neg, iI_add, iI_sub, iI_mul, jI_add, jI_sub, jI_mul, rdI, rdL, iI_lt, iI_le, iI_eq, iI_nat, iI_b2_0, iI_b2_1, mm_bI_some, mm_bV_some, mm_bL_some, mm_bA_some, fd_wL, fd_wR, fl_wI, fl_wR, re_wI, re_wL, re_wC, ite_true, ite_false, not_true_eq_false, not_false_eq_true, lq_ge, lq_le, lq_gt, lq_lt, lq_eq, jI_lt, jI_le, jI_eq, if_pos, if_neg, e9]
  | k + 1, b, g, s, ab, bk, K, B, C => by
    have h9 := hN.2.1
    have tt := isT_or ht
    have e9 : fd g 13 9 = hm := (K.1 _ _ (by unfold SC; omega)).trans hS.2.1
    obtain ⟨g1, m1, m2, m3, m4, m5⟩ := C_try (d := d + 5) ht (hC.kf3 K (by intro a j; unfold NC SC; omega)) (hS.kf K (by intro a j a1 a2; unfold SC; omega)) (hk.kf K (by intro a j a1 a2; unfold SC; omega)) hN
    obtain ⟨g2, q1, q2, q3⟩ := C_swap (d := d + 3) (a := a) (b := b) isS_205 m2 hN (by omega) a1 a2 (by omega) (by omega)
    have nn := chg_NI (a := a) (b := b) hN (by omega) a1 a2 (by omega) (by omega)
    have n0 : chg n pm a b 0 = n 0 := chg_ne hN.1.1 (by intros; omega)
    obtain ⟨g3, r1, r2, r3, r4, r5⟩ := C_tryYears (d := d + 1) (N := N) ht hF N1 (by omega) (m4.kf3 q3 (by intro a j; unfold NC; omega)) q2 (m3.congr (q3.1 _ _ (by omega)) (fun j => q3.1 _ _ (by omega))) (by omega) nn (by omega)
    have ok := yearsS_ok (cp := cp) (cm := cm) (fc := fc) (kd := kd) N.toNat _ nn
    have al := fun d => C_all (d := d) isS_205 r2 ok.1
    have vb := allS_b ok.1
    have k1 : Kf (fun a k => SC t a k ∧ a ≠ 204) nL g g3 := by
      have x1 : Kf (fun a k => SC t a k ∧ a ≠ 204) nL g g1 := by
        obtain ⟨g1', z1, z2, z3⟩ := C_copy (d := d + 5) (h := g) isS_205 isS_13 (by omega)
        rw [m1] at z1
        injection z1 with z1
        injection z1 with z0 z1
        subst z1
        exact z3.monoQ (fun a k q => by unfold QSc at q; unfold SC; omega)
      exact Kf.trans x1 (Kf.trans (q3.monoQ (fun a k q => by unfold SC; omega)) (r5.monoQ (fun a k q => by unfold QY at q; unfold SC; omega)))
    have f8 : fd g3 204 8 = s.2.2 := (k1.1 _ _ (by omega)).trans C.2.2
    have f6 : fd g3 204 6 = s.1 := (k1.1 _ _ (by omega)).trans C.1
    have f7 : s.1 ≠ -1 → fd g3 204 7 = s.2.1 := fun z => (k1.1 _ _ (by omega)).trans (C.2.1 z)
    have K3 : Kf (SC t) nL h g3 := K.trans (k1.monoQ (fun a k q => q.1))
    obtain ⟨B1, B2, B3⟩ := B
    by_cases c : s.2.2 < chV cp cm hm pm fc kd n N a b
    · have c' : s.2.2 < allS pm (yearsS cp cm hm pm fc kd N.toNat (chg n pm a b)).1 := c
      have r2' : SR (wI (wI g3 204 6 (iI a)) 204 7 (iI b)) 205 pm hm fc kd (yearsS cp cm hm pm fc kd N.toNat (chg n pm a b)).1 := r2.congr (fun x j x1 x2 => by rw [fd_wI_row (by omega), fd_wI_row (by omega)])
      have al2 := fun d => C_all (d := d) isS_205 r2' ok.1
      obtain ⟨g', z1, z2, z3, z4⟩ := C_ch_37 ht hF N1 N2 hC hS hk hl hN y a1 a2 k (b + 1) (wI (wI (wI g3 204 6 (iI a)) 204 7 (iI b)) 204 8 (iI (chV cp cm hm pm fc kd n N a b))) (a, b, chV cp cm hm pm fc kd n N a b) (by omega) (by omega) (((K3.wI (by unfold SC; omega)).wI (by unfold SC; omega)).wI (by unfold SC; omega)) ⟨by dsimp only; omega, by dsimp only; omega, by show 0 ≤ allS pm _ ∧ allS pm _ ≤ 1000; omega⟩ ⟨by rw [fd_wI_col (by omega), fd_wI_col (by omega), fd_wI_same (by omega) (by omega)], fun _ => by rw [fd_wI_col (by omega), fd_wI_same (by omega) (by omega)], by rw [fd_wI_same]; show -2147483648 ≤ allS pm _; omega; show allS pm _ < 2147483648; omega⟩
      refine ⟨g', ?_, z2, ?_, ?_⟩
      · rw [← z1, U_X0_findChange_37 ht isS_13]
        unfold chV
        simp (disch := omega) only [iI_lit, jI_lit, iI_neg, jI_neg, iI_add, iI_sub, iI_mul, jI_add, jI_sub, jI_mul, rdI, rdL, iI_lt, iI_le, iI_eq, iI_nat, iI_b2_0, iI_b2_1, mm_bI_some, mm_bV_some, mm_bL_some, mm_bA_some, fd_wL, fd_wR, fl_wI, fl_wR, re_wI, re_wL, re_wC, ite_true, ite_false, not_true_eq_false, not_false_eq_true, lq_ge, lq_le, lq_gt, lq_lt, lq_eq, jI_lt, jI_le, jI_eq, if_pos, if_neg, e9, m1, q1, r1, al, f8, al2]
      · rw [chIn, if_pos c]; exact z3
      · rw [chIn, if_pos c]; exact z4
    · have c' : ¬ s.2.2 < allS pm (yearsS cp cm hm pm fc kd N.toNat (chg n pm a b)).1 := c
      obtain ⟨g', z1, z2, z3, z4⟩ := C_ch_37 ht hF N1 N2 hC hS hk hl hN y a1 a2 k (b + 1) g3 s (by omega) (by omega) K3 ⟨B1, B2, B3⟩ ⟨f6, f7, f8⟩
      refine ⟨g', ?_, z2, ?_, ?_⟩
      · rw [← z1, U_X0_findChange_37 ht isS_13]
        simp (disch := omega) only [iI_lit, jI_lit, iI_neg, jI_neg, iI_add, iI_sub, iI_mul, jI_add, jI_sub, jI_mul, rdI, rdL, iI_lt, iI_le, iI_eq, iI_nat, iI_b2_0, iI_b2_1, mm_bI_some, mm_bV_some, mm_bL_some, mm_bA_some, fd_wL, fd_wR, fl_wI, fl_wR, re_wI, re_wL, re_wC, ite_true, ite_false, not_true_eq_false, not_false_eq_true, lq_ge, lq_le, lq_gt, lq_lt, lq_eq, jI_lt, jI_le, jI_eq, if_pos, if_neg, e9, m1, q1, r1, al, f8]
      · rw [chIn, if_neg c]; exact z3
      · rw [chIn, if_neg c]; exact z4
set_option maxHeartbeats 8000000 in
theorem C_ch_22 (ht : mm_isT t) (hF : FK pm fc kd) (N1 : 0 ≤ N) (N2 : N ≤ 20) (hC : CT h t cp cm cf) (hS : SR h 13 pm hm fc kd n) (hk : KeptC h 13 ev) (hl : ev.length < 9800000) (hN : NI pm hm n) (y : 0 ≤ n 0 ∧ n 0 + N ≤ 999) : ∀ (k : Nat) (a : Int) (g : mm_H) (s : Int × Int × Int), 0 ≤ a → a + k = hm → Kf (SC t) nL h g → BdS hm s → BsC g s → ∃ g', mm_D (mm_M mm_T0 (d + 6)) cd_X0_findChange 22 [.ref 204, .ref t, .ref 13, .int (iI N), .int (iI a), .null] [] g = some (some (.int (iI (b2 ((chOut cp cm hm pm fc kd n N k a s).1 ≠ -1)))), g') ∧ Kf (SC t) nL h g' ∧ BdS hm (chOut cp cm hm pm fc kd n N k a s) ∧ BsC g' (chOut cp cm hm pm fc kd n N k a s)
  | 0, a, g, s, a0, ak, K, B, C => by
    have h9 := hN.2.1
    have tt := isT_or ht
    have e9 : fd g 13 9 = hm := (K.1 _ _ (by unfold SC; omega)).trans hS.2.1
    refine ⟨g, ?_, K, B, C⟩
    have c1 := C.1
    have B1 := B.1
    rw [U_X0_findChange_22 ht isS_13, chOut]
    by_cases z : s.1 = -1
    · rw [b2_f (by omega)]
      simp (disch := omega) only [iI_lit, jI_lit, iI_neg, jI_neg, iI_add, iI_sub, iI_mul, jI_add, jI_sub, jI_mul, rdI, rdL, iI_lt, iI_le, iI_eq, iI_nat, iI_b2_0, iI_b2_1, mm_bI_some, mm_bV_some, mm_bL_some, mm_bA_some, fd_wL, fd_wR, fl_wI, fl_wR, re_wI, re_wL, re_wC, ite_true, ite_false, not_true_eq_false, not_false_eq_true, lq_ge, lq_le, lq_gt, lq_lt, lq_eq, jI_lt, jI_le, jI_eq, if_pos, if_neg, e9, c1]
    · rw [b2_t z]
      simp (disch := omega) only [iI_lit, jI_lit, iI_neg, jI_neg, iI_add, iI_sub, iI_mul, jI_add, jI_sub, jI_mul, rdI, rdL, iI_lt, iI_le, iI_eq, iI_nat, iI_b2_0, iI_b2_1, mm_bI_some, mm_bV_some, mm_bL_some, mm_bA_some, fd_wL, fd_wR, fl_wI, fl_wR, re_wI, re_wL, re_wC, ite_true, ite_false, not_true_eq_false, not_false_eq_true, lq_ge, lq_le, lq_gt, lq_lt, lq_eq, jI_lt, jI_le, jI_eq, if_pos, if_neg, e9, c1]
  | k + 1, a, g, s, a0, ak, K, B, C => by
    have h9 := hN.2.1
    have tt := isT_or ht
    have e9 : fd g 13 9 = hm := (K.1 _ _ (by unfold SC; omega)).trans hS.2.1
    obtain ⟨g1, m1, m2, m3, m4⟩ := C_ch_37 (d := d) (a := a) ht hF N1 N2 hC hS hk hl hN y a0 (by omega) (hm - (a + 1)).toNat (a + 1) g s (by omega) (by omega) K B C
    obtain ⟨g', q1, q2, q3, q4⟩ := C_ch_22 ht hF N1 N2 hC hS hk hl hN y k (a + 1) g1 _ (by omega) (by omega) m2 m3 m4
    refine ⟨g', ?_, q2, q3, q4⟩
    rw [U_X0_findChange_22 ht isS_13, chOut, ← q1, ← m1]
    simp (disch := omega) only [iI_lit, jI_lit, iI_neg, jI_neg, iI_add, iI_sub, iI_mul, jI_add, jI_sub, jI_mul, rdI, rdL, iI_lt, iI_le, iI_eq, iI_nat, iI_b2_0, iI_b2_1, mm_bI_some, mm_bV_some, mm_bL_some, mm_bA_some, fd_wL, fd_wR, fl_wI, fl_wR, re_wI, re_wL, re_wC, ite_true, ite_false, not_true_eq_false, not_false_eq_true, lq_ge, lq_le, lq_gt, lq_lt, lq_eq, jI_lt, jI_le, jI_eq, if_pos, if_neg, e9]
set_option maxHeartbeats 8000000 in
theorem R_ch_74 {a w : Int} {h : mm_H} (hF : FK pm fc kd) (N1 : 0 ≤ N) (N2 : N ≤ 20) (h0 : RepR h n) (h65 : fd h 264 65 < 62000000) (hN : NI pm hm n) (y : 0 ≤ n 0 ∧ n 0 + N ≤ 999) (a1 : 0 ≤ a) (a2 : a < hm) : ∀ (k : Nat) (b B : Int) (g : mm_H) (s : Int × Int × Int), a < b → b + k = hm → TR nE h g B → (0 ≤ B ∧ B + 360 * k < 9000000) → RT g pm hm fc kd cp cm cf → RepR g n → BdS hm s → ∃ g', mm_D (mm_M mm_T0 (d + 7)) cd_X12_changed 74 [.ref 264, .int (iI N), .int (iI w), .int (iI s.2.2), .int (iI s.1), .int (iI s.2.1), .int (iI a), .int (iI b), .null] [] g = mm_D (mm_M mm_T0 (d + 7)) cd_X12_changed 59 [.ref 264, .int (iI N), .int (iI w), .int (iI (chIn cp cm hm pm fc kd n N a k b s).2.2), .int (iI (chIn cp cm hm pm fc kd n N a k b s).1), .int (iI (chIn cp cm hm pm fc kd n N a k b s).2.1), .int (iI (a + 1)), .null, .null] [] g' ∧ TR nE h g' (B + 360 * k) ∧ RT g' pm hm fc kd cp cm cf ∧ RepR g' n
  | 0, b, B, g, s, ab, bk, T, hB, hT, hr, BD => by
    have h9 := hN.2.1
    have e38 : fd g 264 38 = hm := hT.2.1
    refine ⟨g, ?_, by rw [show B + 360 * ((0 : Nat) : Int) = B by omega]; exact T, hT, hr⟩
    rw [U_X12_changed_74, chIn]
    simp (disch := omega) only [iI_lit, jI_lit, iI_neg, jI_neg, iI_add, iI_sub, iI_mul, jI_add, jI_sub, jI_mul, rdI, rdL, iI_lt, iI_le, iI_eq, iI_nat, iI_b2_0, iI_b2_1, mm_bI_some, mm_bV_some, mm_bL_some, mm_bA_some, fd_wL, fd_wR, fl_wI, fl_wR, re_wI, re_wL, re_wC, ite_true, ite_false, not_true_eq_false, not_false_eq_true, lq_ge, lq_le, lq_gt, lq_lt, lq_eq, jI_lt, jI_le, jI_eq, if_pos, if_neg, e38]
  | k + 1, b, B, g, s, ab, bk, T, hB, hT, hr, BD => by
    have h9 := hN.2.1
    have e38 : fd g 264 38 = hm := hT.2.1
    have nn := chg_NI (a := a) (b := b) hN (by omega) a1 a2 (by omega) (by omega)
    have n0 : chg n pm a b 0 = n 0 := chg_ne hN.1.1 (by intros; omega)
    obtain ⟨g1, m1, m2, m3⟩ := R_changes (d := d + 4) (a := a) (b := b) hr hT.1 hN a1 a2 (by omega) (by omega)
    obtain ⟨g2, q1, q2, q3, q4, q5⟩ := (T.st m3).years (d := d) (N := N) (by omega) hF N1 (by omega) (hT.kf2 m3 (by intro a j; unfold NR; omega)) m2 nn (by omega)
    have ok := yearsS_ok (cp := cp) (cm := cm) (fc := fc) (kd := kd) N.toNat _ nn
    have vb := allS_b ok.1
    have al := R_lookAll (d := d + 5) q4 q3.1 hN.1
    obtain ⟨g3, r1, r2, r3, r4, r5⟩ := q2.anew (d := d + 6) q3 h0
    have T3 : TR nE h g3 (B + 360) := ⟨r2.1, r2.2.1, by have := r2.2.2; omega⟩
    obtain ⟨B1, B2, B3⟩ := BD
    have e1 : B + 360 * ((k + 1 : Nat) : Int) = B + 360 + 360 * (k : Nat) := by omega
    rw [e1]
    by_cases c : s.2.2 < chV cp cm hm pm fc kd n N a b
    · have c' : s.2.2 < sumF (fun z => (yearsS cp cm hm pm fc kd N.toNat (chg n pm a b)).1 (2 + 3 * z)) 0 pm.toNat := c
      have vb' : 0 ≤ sumF (fun z => (yearsS cp cm hm pm fc kd N.toNat (chg n pm a b)).1 (2 + 3 * z)) 0 pm.toNat ∧ sumF (fun z => (yearsS cp cm hm pm fc kd N.toNat (chg n pm a b)).1 (2 + 3 * z)) 0 pm.toNat ≤ 792 := vb
      obtain ⟨g', z1, z2⟩ := R_ch_74 (w := w) hF N1 N2 h0 h65 hN y a1 a2 k (b + 1) (B + 360) g3 (a, b, chV cp cm hm pm fc kd n N a b) (by omega) (by omega) T3 (by omega) r3 r4 ⟨by dsimp only; omega, by dsimp only; omega, by show 0 ≤ allS pm _ ∧ allS pm _ ≤ 1000; omega⟩
      refine ⟨g', ?_, z2⟩
      rw [chIn, if_pos c, ← z1, U_X12_changed_74]
      unfold chV allS
      simp (disch := omega) only [iI_lit, jI_lit, iI_neg, jI_neg, iI_add, iI_sub, iI_mul, jI_add, jI_sub, jI_mul, rdI, rdL, iI_lt, iI_le, iI_eq, iI_nat, iI_b2_0, iI_b2_1, mm_bI_some, mm_bV_some, mm_bL_some, mm_bA_some, fd_wL, fd_wR, fl_wI, fl_wR, re_wI, re_wL, re_wC, ite_true, ite_false, not_true_eq_false, not_false_eq_true, lq_ge, lq_le, lq_gt, lq_lt, lq_eq, jI_lt, jI_le, jI_eq, if_pos, if_neg, e38, m1, q1, al, r1]
    · have c' : ¬ s.2.2 < sumF (fun z => (yearsS cp cm hm pm fc kd N.toNat (chg n pm a b)).1 (2 + 3 * z)) 0 pm.toNat := c
      have vb' : 0 ≤ sumF (fun z => (yearsS cp cm hm pm fc kd N.toNat (chg n pm a b)).1 (2 + 3 * z)) 0 pm.toNat ∧ sumF (fun z => (yearsS cp cm hm pm fc kd N.toNat (chg n pm a b)).1 (2 + 3 * z)) 0 pm.toNat ≤ 792 := vb
      obtain ⟨g', z1, z2⟩ := R_ch_74 (w := w) hF N1 N2 h0 h65 hN y a1 a2 k (b + 1) (B + 360) g3 s (by omega) (by omega) T3 (by omega) r3 r4 ⟨B1, B2, B3⟩
      refine ⟨g', ?_, z2⟩
      rw [chIn, if_neg c, ← z1, U_X12_changed_74]
      simp (disch := omega) only [iI_lit, jI_lit, iI_neg, jI_neg, iI_add, iI_sub, iI_mul, jI_add, jI_sub, jI_mul, rdI, rdL, iI_lt, iI_le, iI_eq, iI_nat, iI_b2_0, iI_b2_1, mm_bI_some, mm_bV_some, mm_bL_some, mm_bA_some, fd_wL, fd_wR, fl_wI, fl_wR, re_wI, re_wL, re_wC, ite_true, ite_false, not_true_eq_false, not_false_eq_true, lq_ge, lq_le, lq_gt, lq_lt, lq_eq, jI_lt, jI_le, jI_eq, if_pos, if_neg, e38, m1, q1, al, r1]
set_option maxHeartbeats 8000000 in
theorem R_ch_59 {w : Int} {h : mm_H} (w0 : 0 ≤ w ∧ w ≤ 2) (hF : FK pm fc kd) (N1 : 0 ≤ N) (N2 : N ≤ 20) (h0 : RepR h n) (h65 : fd h 264 65 < 62000000) (hN : NI pm hm n) (y : 0 ≤ n 0 ∧ n 0 + N ≤ 999) : ∀ (k : Nat) (a B : Int) (g : mm_H) (s : Int × Int × Int), 0 ≤ a → a + k = hm → TR nE h g B → (0 ≤ B ∧ B + 3240 * k < 8000000) → RT g pm hm fc kd cp cm cf → RepR g n → BdS hm s → BdS hm (chOut cp cm hm pm fc kd n N k a s) → ∃ g', mm_D (mm_M mm_T0 (d + 7)) cd_X12_changed 59 [.ref 264, .int (iI N), .int (iI w), .int (iI s.2.2), .int (iI s.1), .int (iI s.2.1), .int (iI a), .null, .null] [] g = some (some (.int (iI (if (chOut cp cm hm pm fc kd n N k a s).1 = -1 then -1 else if w = 0 then (chOut cp cm hm pm fc kd n N k a s).1 else if w = 1 then (chOut cp cm hm pm fc kd n N k a s).2.1 else (chOut cp cm hm pm fc kd n N k a s).2.2))), g') ∧ Kf (QTb nE) LE3 h g' ∧ fd g' 264 64 = 0 ∧ (0 ≤ fd g' 264 65 ∧ fd g' 264 65 ≤ fd h 264 65 + (B + 3240 * k))
  | 0, a, B, g, s, a0, ak, T, hB, hT, hr, BD, BE => by
    have h9 := hN.2.1
    have e38 : fd g 264 38 = hm := hT.2.1
    obtain ⟨g', m1, m2, m3, m4, m5⟩ := T.back (d := d + 5)
    obtain ⟨B1, B2, B3⟩ := BD
    refine ⟨g', ?_, m2, m3, by omega⟩
    rw [U_X12_changed_59, chOut]
    by_cases c : s.1 = -1
    · simp (disch := omega) only [iI_lit, jI_lit, iI_neg, jI_neg, iI_add, iI_sub, iI_mul, jI_add, jI_sub, jI_mul, rdI, rdL, iI_lt, iI_le, iI_eq, iI_nat, iI_b2_0, iI_b2_1, mm_bI_some, mm_bV_some, mm_bL_some, mm_bA_some, fd_wL, fd_wR, fl_wI, fl_wR, re_wI, re_wL, re_wC, ite_true, ite_false, not_true_eq_false, not_false_eq_true, lq_ge, lq_le, lq_gt, lq_lt, lq_eq, jI_lt, jI_le, jI_eq, if_pos, if_neg, e38, m1]
    · by_cases c1 : w = 0
      · simp (disch := omega) only [iI_lit, jI_lit, iI_neg, jI_neg, iI_add, iI_sub, iI_mul, jI_add, jI_sub, jI_mul, rdI, rdL, iI_lt, iI_le, iI_eq, iI_nat, iI_b2_0, iI_b2_1, mm_bI_some, mm_bV_some, mm_bL_some, mm_bA_some, fd_wL, fd_wR, fl_wI, fl_wR, re_wI, re_wL, re_wC, ite_true, ite_false, not_true_eq_false, not_false_eq_true, lq_ge, lq_le, lq_gt, lq_lt, lq_eq, jI_lt, jI_le, jI_eq, if_pos, if_neg, e38, m1]
      · by_cases c2 : w = 1 <;> simp (disch := omega) only [iI_lit, jI_lit, iI_neg, jI_neg, iI_add, iI_sub, iI_mul, jI_add, jI_sub, jI_mul, rdI, rdL, iI_lt, iI_le, iI_eq, iI_nat, iI_b2_0, iI_b2_1, mm_bI_some, mm_bV_some, mm_bL_some, mm_bA_some, fd_wL, fd_wR, fl_wI, fl_wR, re_wI, re_wL, re_wC, ite_true, ite_false, not_true_eq_false, not_false_eq_true, lq_ge, lq_le, lq_gt, lq_lt, lq_eq, jI_lt, jI_le, jI_eq, if_pos, if_neg, e38, m1]
  | k + 1, a, B, g, s, a0, ak, T, hB, hT, hr, BD, BE => by
    have h9 := hN.2.1
    have e38 : fd g 264 38 = hm := hT.2.1
    obtain ⟨g1, m1, m2, m3, m4⟩ := R_ch_74 (d := d) (w := w) (a := a) hF N1 N2 h0 h65 hN y a0 (by omega) (hm - (a + 1)).toNat (a + 1) B g s (by omega) (by omega) T (by omega) hT hr BD
    have T2 : TR nE h g1 (B + 3240) := ⟨m2.1, m2.2.1, by have := m2.2.2; omega⟩
    have BI : BdS hm (chIn cp cm hm pm fc kd n N a (hm - (a + 1)).toNat (a + 1) s) := by
      have key : ∀ (k : Nat) (b : Int) (s : Int × Int × Int), a < b → b + k ≤ hm → BdS hm s → BdS hm (chIn cp cm hm pm fc kd n N a k b s) := by
        intro k
        induction k with
        | zero => intro b s _ _ B; exact B
        | succ k ih =>
          intro b s ab bk B
          rw [chIn]
          refine ih _ _ (by omega) (by omega) ?_
          split
          · have vb := chV_b (cp := cp) (cm := cm) (fc := fc) (kd := kd) (N := N) (a := a) (b := b) hN (by omega) a0 (by omega) (by omega) (by omega)
            exact ⟨by dsimp only; omega, by dsimp only; omega, by dsimp only; omega⟩
          · exact B
      exact key _ _ _ (by omega) (by omega) BD
    obtain ⟨g', q1, q2, q3, q4⟩ := R_ch_59 w0 hF N1 N2 h0 h65 hN y k (a + 1) (B + 3240) g1 _ (by omega) (by omega) T2 (by omega) m3 m4 BI BE
    refine ⟨g', ?_, q2, q3, by omega⟩
    rw [U_X12_changed_59, chOut, ← q1, ← m1]
    simp (disch := omega) only [iI_lit, jI_lit, iI_neg, jI_neg, iI_add, iI_sub, iI_mul, jI_add, jI_sub, jI_mul, rdI, rdL, iI_lt, iI_le, iI_eq, iI_nat, iI_b2_0, iI_b2_1, mm_bI_some, mm_bV_some, mm_bL_some, mm_bA_some, fd_wL, fd_wR, fl_wI, fl_wR, re_wI, re_wL, re_wC, ite_true, ite_false, not_true_eq_false, not_false_eq_true, lq_ge, lq_le, lq_gt, lq_lt, lq_eq, jI_lt, jI_le, jI_eq, if_pos, if_neg, e38]
end CHANGED
section CHANGEDC
variable {a b : Int}
set_option maxHeartbeats 8000000 in
theorem K_changed (al : -2147483648 ≤ a) (au : a < 2147483648) (bl : -2147483648 ≤ b) (bu : b < 2147483648) : CallI 163 257 [.int (iI a), .int (iI b)] := by
  intro d h i I hi
  have I0 := I
  obtain ⟨t, st, pm, hm, fc, kd, cp, cm, cf, n, ev, past, M, W, H, S, P, N⟩ := I
  have W0 := W
  obtain ⟨w1, w2, w3, w4, w5, w6, w7, w8, w9, w10, w11, w12, w13⟩ := W
  have tt := isT_or w1.1
  have h8 := w5.1
  have h9 := w5.2.1
  have e53 : fd h 264 53 = st := w2.2.2.1
  have e12 : fd h 0 12 = st := w2.2.1
  have st1 := w2.1
  have e11 : fd h 13 11 = n 0 := w8.2.2.1
  have e0 : fd h 300 0 = n 0 := w4 0 (by omega) (by omega)
  by_cases c0 : st = 1 ∧ ((1 ≤ a ∧ a ≤ 20) ∧ n 0 + a ≤ 999) ∧ (0 ≤ b ∧ b ≤ 2)
  · have k6 : Kf (SC t) nL h (wI h 204 6 (iI (-1))) := Kf.refl.wI (by unfold SC; omega)
    obtain ⟨g1, p1, p2, p3⟩ := C_after (d := d + 32) (N := a) (h := wI h 204 6 (iI (-1))) w1.1 w6 (by omega) (by omega) ((w2.2.2.2.2 c0.1).kf3 k6 (by intro a j; unfold NC SC; omega)) (w8.kf k6 (by intro a j a1 a2; unfold SC; omega)) (w10.1.kf k6 (by intro a j a1 a2; unfold SC; omega)) (by omega) w5 (by omega)
    have ok := yearsS_ok (cp := cp) (cm := cm) (fc := fc) (kd := kd) a.toNat _ w5
    have vb := allS_b ok.1
    have al' := C_all (d := d + 35) isS_205 p2 ok.1
    have f6 : fd g1 204 6 = -1 := by
      obtain ⟨g1', z1, z2, z3, z4, z5⟩ := C_try (d := d + 36) (h := wI h 204 6 (iI (-1))) w1.1 ((w2.2.2.2.2 c0.1).kf3 k6 (by intro a j; unfold NC SC; omega)) (w8.kf k6 (by intro a j a1 a2; unfold SC; omega)) (w10.1.kf k6 (by intro a j a1 a2; unfold SC; omega)) w5
      obtain ⟨g2', y1, y2, y3, y4⟩ := C_copy (d := d + 36) (h := wI h 204 6 (iI (-1))) isS_205 isS_13 (by omega)
      rw [z1] at y1
      injection y1 with y1
      injection y1 with y0 y1
      subst y1
      obtain ⟨g3', x1, x2, x3, x4, x5⟩ := C_tryYears (d := d + 32) (N := a) w1.1 w6 (by omega) (by omega) z4 z2 z3 (by omega) w5 (by omega)
      have e : mm_M mm_T0 (d + 38) 15 [.ref 204, .ref t, .ref 13, .int (iI a)] (wI h 204 6 (iI (-1))) = some (some (.ref 205), g3') := by
        rw [U_X0_sceneAfter w1.1 isS_13, z1, mm_bV_some, x1, mm_bV_some]
      rw [p1] at e
      injection e with e
      injection e with e0 e
      subst e
      rw [x5.1 204 6 (by unfold QY; omega), y3 204 6 (by unfold QSc; omega), fd_wI_same (by omega) (by omega)]
    have K2 : Kf (SC t) nL h (wI g1 204 8 (iI (allS pm (yearsS cp cm hm pm fc kd a.toNat n).1))) := (k6.trans p3).wI (by unfold SC; omega)
    obtain ⟨h1, q1, q2, q3, q4⟩ := C_ch_22 (d := d + 32) (N := a) w1.1 w6 (by omega) (by omega) (w2.2.2.2.2 c0.1) w8 w10.1 (by omega) w5 (by omega) hm.toNat 0 _ (-1, -1, allS pm (yearsS cp cm hm pm fc kd a.toNat n).1) (by omega) (by omega) K2 ⟨by dsimp only; omega, by dsimp only; omega, by dsimp only; omega⟩ ⟨by rw [fd_wI_col (by omega)]; exact f6, fun z => absurd rfl z, fd_wI_same (by omega) (by omega)⟩
    have T1 : RT h1 pm hm fc kd cp cm cf := w3.kf2 q2 (by intro a j; unfold NR SC; omega)
    have R1 : RepR h1 n := w4.kf q2 (by intro j hj; unfold SC; omega)
    have f65 : fd h1 264 65 = fd h 264 65 := q2.1 _ _ (by unfold SC; omega)
    obtain ⟨r1, r2, r3, r4, r5, r6⟩ := TR.begin (d := d + 38) (E := nE) (h := h1) (by omega) T1 R1
    obtain ⟨s1, s2, s3, s4, s5, s6⟩ := r3.years (d := d + 32) (N := a) (by omega) w6 (by omega) (by omega) r4 r5 w5 (by omega)
    have rl := R_lookAll (d := d + 37) s5 s4.1 h8
    obtain ⟨t1, t2, t3, t4, t5, t6⟩ := s3.anew (d := d + 38) s4 R1
    obtain ⟨u1, u2, u3, u4, u5⟩ := R_ch_59 (d := d + 32) (N := a) (w := b) c0.2.2 w6 (by omega) (by omega) R1 (by omega) w5 (by omega) hm.toNat 0 (0 + 18 * a) t1 (-1, -1, allS pm (yearsS cp cm hm pm fc kd a.toNat n).1) (by omega) (by omega) t3 (by omega) t4 t5 ⟨by dsimp only; omega, by dsimp only; omega, by dsimp only; omega⟩ q3
    generalize hz : chOut cp cm hm pm fc kd n a hm.toNat 0 (-1, -1, allS pm (yearsS cp cm hm pm fc kd a.toNat n).1) = z at *
    refine ⟨iI (if z.1 = -1 then -1 else if b = 0 then z.1 else if b = 1 then z.2.1 else z.2.2), h1, u1, ?_, ?_, Inv.tri M W0 H S P N q2 u3 (fun a k e => e.elim) u4 u5 (by omega) hi⟩
    · have rt := w1.2.1
      obtain ⟨B1, B2, B3⟩ := q3
      obtain ⟨z6, z7, z8⟩ := q4
      rw [U_X11_changed]
      by_cases y1 : z.1 = -1
      · rw [b2_f (by omega)] at q1
        simp (disch := omega) only [iI_lit, jI_lit, iI_neg, jI_neg, iI_add, iI_sub, iI_mul, jI_add, jI_sub, jI_mul, rdI, rdL, iI_lt, iI_le, iI_eq, iI_nat, iI_b2_0, iI_b2_1, mm_bI_some, mm_bV_some, mm_bL_some, mm_bA_some, fd_wL, fd_wR, fl_wI, fl_wR, re_wI, re_wL, re_wC, ite_true, ite_false, not_true_eq_false, not_false_eq_true, lq_ge, lq_le, lq_gt, lq_lt, lq_eq, jI_lt, jI_le, jI_eq, if_pos, if_neg, e12, C_canPass, e11, rt, U_X0_findChange w1.1 isS_13, p1, sh_205, al', q1]
      · have z7 := z7 y1
        rw [b2_t y1] at q1
        by_cases y2 : b = 0
        · simp (disch := omega) only [iI_lit, jI_lit, iI_neg, jI_neg, iI_add, iI_sub, iI_mul, jI_add, jI_sub, jI_mul, rdI, rdL, iI_lt, iI_le, iI_eq, iI_nat, iI_b2_0, iI_b2_1, mm_bI_some, mm_bV_some, mm_bL_some, mm_bA_some, fd_wL, fd_wR, fl_wI, fl_wR, re_wI, re_wL, re_wC, ite_true, ite_false, not_true_eq_false, not_false_eq_true, lq_ge, lq_le, lq_gt, lq_lt, lq_eq, jI_lt, jI_le, jI_eq, if_pos, if_neg, e12, C_canPass, e11, rt, U_X0_findChange w1.1 isS_13, p1, sh_205, al', q1, z6]
        · by_cases y3 : b = 1 <;> simp (disch := omega) only [iI_lit, jI_lit, iI_neg, jI_neg, iI_add, iI_sub, iI_mul, jI_add, jI_sub, jI_mul, rdI, rdL, iI_lt, iI_le, iI_eq, iI_nat, iI_b2_0, iI_b2_1, mm_bI_some, mm_bV_some, mm_bL_some, mm_bA_some, fd_wL, fd_wR, fl_wI, fl_wR, re_wI, re_wL, re_wC, ite_true, ite_false, not_true_eq_false, not_false_eq_true, lq_ge, lq_le, lq_gt, lq_lt, lq_eq, jI_lt, jI_le, jI_eq, if_pos, if_neg, e12, C_canPass, e11, rt, U_X0_findChange w1.1 isS_13, p1, sh_205, al', q1, z7, z8]
    · have f53 : fd h1 264 53 = st := (q2.1 _ _ (by unfold SC; omega)).trans e53
      have f0 : fd h1 300 0 = n 0 := R1 0 (by omega) (by omega)
      have u2' := u2
      dsimp only at u2'
      rw [U_X12_changed, iI_jI bl bu, ← u2']
      simp (disch := omega) only [iI_lit, jI_lit, iI_neg, jI_neg, iI_add, iI_sub, iI_mul, jI_add, jI_sub, jI_mul, rdI, rdL, iI_lt, iI_le, iI_eq, iI_nat, iI_b2_0, iI_b2_1, mm_bI_some, mm_bV_some, mm_bL_some, mm_bA_some, fd_wL, fd_wR, fl_wI, fl_wR, re_wI, re_wL, re_wC, ite_true, ite_false, not_true_eq_false, not_false_eq_true, lq_ge, lq_le, lq_gt, lq_lt, lq_eq, jI_lt, jI_le, jI_eq, if_pos, if_neg, f53, R_isAhead, f0, R_isIn, r2, s2, rl, t2]
      rfl
  · refine ⟨iI (-1), h, h, ?_, ?_, I0.next hi⟩
    · rw [U_X11_changed]
      by_cases z : st = 0
      · simp (disch := omega) only [iI_lit, jI_lit, iI_neg, jI_neg, iI_add, iI_sub, iI_mul, jI_add, jI_sub, jI_mul, rdI, rdL, iI_lt, iI_le, iI_eq, iI_nat, iI_b2_0, iI_b2_1, mm_bI_some, mm_bV_some, mm_bL_some, mm_bA_some, fd_wL, fd_wR, fl_wI, fl_wR, re_wI, re_wL, re_wC, ite_true, ite_false, not_true_eq_false, not_false_eq_true, lq_ge, lq_le, lq_gt, lq_lt, lq_eq, jI_lt, jI_le, jI_eq, if_pos, if_neg, e12]
      · by_cases z2 : (1 ≤ a ∧ a ≤ 20) ∧ n 0 + a ≤ 999
        · by_cases z3 : b < 0 <;> simp (disch := omega) only [iI_lit, jI_lit, iI_neg, jI_neg, iI_add, iI_sub, iI_mul, jI_add, jI_sub, jI_mul, rdI, rdL, iI_lt, iI_le, iI_eq, iI_nat, iI_b2_0, iI_b2_1, mm_bI_some, mm_bV_some, mm_bL_some, mm_bA_some, fd_wL, fd_wR, fl_wI, fl_wR, re_wI, re_wL, re_wC, ite_true, ite_false, not_true_eq_false, not_false_eq_true, lq_ge, lq_le, lq_gt, lq_lt, lq_eq, jI_lt, jI_le, jI_eq, if_pos, if_neg, e12, C_canPass, e11]
        · simp (disch := omega) only [iI_lit, jI_lit, iI_neg, jI_neg, iI_add, iI_sub, iI_mul, jI_add, jI_sub, jI_mul, rdI, rdL, iI_lt, iI_le, iI_eq, iI_nat, iI_b2_0, iI_b2_1, mm_bI_some, mm_bV_some, mm_bL_some, mm_bA_some, fd_wL, fd_wR, fl_wI, fl_wR, re_wI, re_wL, re_wC, ite_true, ite_false, not_true_eq_false, not_false_eq_true, lq_ge, lq_le, lq_gt, lq_lt, lq_eq, jI_lt, jI_le, jI_eq, if_pos, if_neg, e12, C_canPass, e11]
    · rw [U_X12_changed, iI_jI bl bu]
      by_cases z : st = 0
      · simp (disch := omega) only [iI_lit, jI_lit, iI_neg, jI_neg, iI_add, iI_sub, iI_mul, jI_add, jI_sub, jI_mul, rdI, rdL, iI_lt, iI_le, iI_eq, iI_nat, iI_b2_0, iI_b2_1, mm_bI_some, mm_bV_some, mm_bL_some, mm_bA_some, fd_wL, fd_wR, fl_wI, fl_wR, re_wI, re_wL, re_wC, ite_true, ite_false, not_true_eq_false, not_false_eq_true, lq_ge, lq_le, lq_gt, lq_lt, lq_eq, jI_lt, jI_le, jI_eq, if_pos, if_neg, e53]
      · by_cases z2 : (1 ≤ a ∧ a ≤ 20) ∧ n 0 + a ≤ 999 <;> simp (disch := omega) only [iI_lit, jI_lit, iI_neg, jI_neg, iI_add, iI_sub, iI_mul, jI_add, jI_sub, jI_mul, rdI, rdL, iI_lt, iI_le, iI_eq, iI_nat, iI_b2_0, iI_b2_1, mm_bI_some, mm_bV_some, mm_bL_some, mm_bA_some, fd_wL, fd_wR, fl_wI, fl_wR, re_wI, re_wL, re_wC, ite_true, ite_false, not_true_eq_false, not_false_eq_true, lq_ge, lq_le, lq_gt, lq_lt, lq_eq, jI_lt, jI_le, jI_eq, if_pos, if_neg, e53, R_isAhead, e0, R_isIn]
end CHANGEDC
