/-! stranger -/
/-- the row once one more, p, lives at h -/
def comS (n : Int → Int) (p h face : Int) : Int → Int := fun z => if z = 1 + 3 * p then h else if z = 2 + 3 * p then 10 * face else if z = 3 + 3 * p then 0 else if (25 ≤ z ∧ z < 89) ∧ ((z - 25) / 8 = p ∨ (z - 25) % 8 = p) then 5 else n z
section STR
variable {n fc kd : Int → Int} {pm hm x face kind : Int}
theorem comS_1 : comS n pm x face (1 + 3 * pm) = x := if_pos rfl
theorem comS_2 : comS n pm x face (2 + 3 * pm) = 10 * face := by
  unfold comS
  rw [if_neg (by omega), if_pos rfl]
theorem comS_3 : comS n pm x face (3 + 3 * pm) = 0 := by
  unfold comS
  rw [if_neg (by omega), if_neg (by omega), if_pos rfl]
theorem comS_o {z : Int} (z0 : 0 ≤ z) (z1 : z < 25) (h1 : z ≠ 1 + 3 * pm) (h2 : z ≠ 2 + 3 * pm) (h3 : z ≠ 3 + 3 * pm) : comS n pm x face z = n z := by
  unfold comS
  rw [if_neg h1, if_neg h2, if_neg h3, if_neg (by omega)]
theorem comS_t {p q : Int} (p0 : 0 ≤ p) (p1 : p < 8) (q0 : 0 ≤ q) (q1 : q < 8) (pm0 : 0 ≤ pm) (pm1 : pm < 8) : comS n pm x face (25 + 8 * p + q) = if p = pm ∨ q = pm then 5 else n (25 + 8 * p + q) := by
  unfold comS
  rw [if_neg (by omega), if_neg (by omega), if_neg (by omega)]
  have e1 : (25 + 8 * p + q - 25) / 8 = p := by omega
  have e2 : (25 + 8 * p + q - 25) % 8 = q := by omega
  rw [e1, e2]
  by_cases c : p = pm ∨ q = pm
  · rw [if_pos c, if_pos ⟨by omega, c⟩]
  · rw [if_neg c, if_neg (fun z => c z.2)]
theorem comS_home (hN : NI pm hm n) (p8 : pm < 8) : ∀ p, 0 ≤ p → p < pm + 1 → comS n pm x face (1 + 3 * p) = if p = pm then x else n (1 + 3 * p) := by
  intro p p0 p1
  by_cases c : p = pm
  · rw [if_pos c, c]; exact comS_1
  · rw [if_neg c]; exact comS_o (by omega) (by omega) (by omega) (by omega) (by omega)
theorem comS_NI (hN : NI pm hm n) (p8 : pm < 8) (e : who n pm x = -1) (x0 : 0 ≤ x) (x1 : x < hm) (f : 0 ≤ face ∧ face ≤ 9) : NI (pm + 1) hm (comS n pm x face) := by
  have h8 := hN.1
  have hh := comS_home (x := x) (face := face) hN p8
  have wn := who_not h8.1 e
  refine ⟨by omega, hN.2.1, fun p p0 p1 => ?_, fun p q p0 p1 q0 q1 pq => ?_, fun p q p0 p1 q0 q1 e => ?_⟩
  · rw [hh p p0 p1]
    by_cases c : p = pm
    · rw [if_pos c, c, comS_2, comS_3]
      omega
    · have := hN.2.2.1 p p0 (by omega)
      rw [if_neg c, comS_o (z := 2 + 3 * p) (by omega) (by omega) (by omega) (by omega) (by omega), comS_o (z := 3 + 3 * p) (by omega) (by omega) (by omega) (by omega) (by omega)]
      exact this
  · rw [comS_t p0 (by omega) q0 (by omega) h8.1 p8]
    split
    · omega
    · exact hN.2.2.2.1 p q p0 (by omega) q0 (by omega) pq
  · rw [hh p p0 p1, hh q q0 q1] at e
    by_cases c1 : p = pm
    · by_cases c2 : q = pm
      · omega
      · rw [if_pos c1, if_neg c2] at e
        exact absurd e.symm (wn q q0 (by omega))
    · by_cases c2 : q = pm
      · rw [if_neg c1, if_pos c2] at e
        exact absurd e (wn p p0 (by omega))
      · rw [if_neg c1, if_neg c2] at e
        exact hN.2.2.2.2 p q p0 (by omega) q0 (by omega) e
theorem comS_who (hN : NI pm hm n) (p8 : pm < 8) (e : who n pm x = -1) (x0 : 0 ≤ x) (x1 : x < hm) (f : 0 ≤ face ∧ face ≤ 9) (i : Int) : who (comS n pm x face) (pm + 1) i = if i = x then pm else who n pm i := by
  have h8 := hN.1
  have hh := comS_home (x := x) (face := face) hN p8
  have hd := (comS_NI hN p8 e x0 x1 f).2.2.2.2
  by_cases c : i = x
  · rw [if_pos c]
    refine who_of hd (by omega) (by omega) ?_
    rw [comS_1, c]
  · rw [if_neg c]
    rcases who_b (n := n) (h := i) h8.1 with z | z
    · rw [z]
      refine who_no (by omega) (fun p p0 p1 q => ?_)
      rw [hh p p0 p1] at q
      by_cases c2 : p = pm
      · rw [if_pos c2] at q; omega
      · rw [if_neg c2] at q
        exact who_not h8.1 z p p0 (by omega) q
    · refine who_of hd z.1 (by omega) ?_
      rw [hh _ z.1 (by omega), if_neg (by omega)]
      exact z.2.2
theorem FK_com (hF : FK pm fc kd) (f : 0 ≤ face ∧ face ≤ 9) (k : 0 ≤ kind ∧ kind ≤ 9) : FK (pm + 1) (up fc pm face) (up kd pm kind) := by
  intro p p0 p1
  by_cases c : p = pm
  · rw [c, up_same, up_same]; exact ⟨f, k⟩
  · rw [up_ne c, up_ne c]; exact hF p p0 (by omega)
end STR
section STR2
variable {d t s : Nat} {h : mm_H} {n fc kd : Int → Int} {pm hm x face kind N : Int} {cp cm cf : List Int} {ev : Evs}
set_option maxHeartbeats 8000000 in
theorem C_moveIn_71 (hs : mm_isS s) (p0 : 0 ≤ pm) (p8 : pm < 8) : ∀ (k : Nat) (j : Int) (g : mm_H), 0 ≤ j → j + k = pm → fd g s 10 = pm + 1 → ∃ g', mm_D (mm_M mm_T0 (d + 3)) cd_X7_moveIn 71 [.ref s, .null, .null, .null, .int (iI pm), .int (iI j)] [] g = some (none, g') ∧ (∀ z : Nat, z < 64 → fd g' (s + 6) z = if (((z : Int) / 8 = pm ∧ j ≤ (z : Int) % 8 ∧ (z : Int) % 8 < pm) ∨ ((z : Int) % 8 = pm ∧ j ≤ (z : Int) / 8 ∧ (z : Int) / 8 < pm)) then 5 else fd g (s + 6) z) ∧ Kf (fun a _ => a = s + 6) nL g g'
  | 0, j, g, j0, jk, e => by
    refine ⟨g, ?_, fun z hz => by rw [if_neg (by omega)], Kf.refl⟩
    rw [U_X7_moveIn_71 hs]
    simp (disch := omega) only [iI_lit, jI_lit, iI_neg, jI_neg, iI_add, iI_sub, iI_mul, jI_add, jI_sub, jI_mul, rdI, rdL, iI_lt, iI_le, iI_eq, iI_nat, iI_b2_0, iI_b2_1, mm_bI_some, mm_bV_some, mm_bL_some, mm_bA_some, fd_wL, fd_wR, fl_wI, fl_wR, re_wI, re_wL, re_wC, ite_true, ite_false, not_true_eq_false, not_false_eq_true, lq_ge, lq_le, lq_gt, lq_lt, lq_eq, jI_lt, jI_le, jI_eq, if_pos, if_neg]
  | k + 1, j, g, j0, jk, e => by
    have s1 := S_setThought (d := d) (h := g) (p := pm) (q := j) (x := 5) hs (by omega) (by omega) (by omega) (by omega)
    rw [if_pos (by omega)] at s1
    have e2 : fd (wI g (s + 6) (pm * 8 + j).toNat (iI 5)) s 10 = pm + 1 := (fd_wI_row (by omega)).trans e
    have s2 := S_setThought (d := d) (h := wI g (s + 6) (pm * 8 + j).toNat (iI 5)) (p := j) (q := pm) (x := 5) hs (by omega) (by omega) (by omega) (by omega)
    rw [if_pos (by omega)] at s2
    obtain ⟨g', m1, m2, m3⟩ := C_moveIn_71 hs p0 p8 k (j + 1) (wI (wI g (s + 6) (pm * 8 + j).toNat (iI 5)) (s + 6) (j * 8 + pm).toNat (iI 5)) (by omega) (by omega) ((fd_wI_row (by omega)).trans e2)
    refine ⟨g', ?_, fun z hz => ?_, Kf.trans (Kf.wI (Q := fun a _ => a = s + 6) (L := nL) (Kf.wI Kf.refl rfl) rfl) m3⟩
    · rw [U_X7_moveIn_71 hs]
      simp (disch := omega) only [iI_lit, jI_lit, iI_neg, jI_neg, iI_add, iI_sub, iI_mul, jI_add, jI_sub, jI_mul, rdI, rdL, iI_lt, iI_le, iI_eq, iI_nat, iI_b2_0, iI_b2_1, mm_bI_some, mm_bV_some, mm_bL_some, mm_bA_some, fd_wL, fd_wR, fl_wI, fl_wR, re_wI, re_wL, re_wC, ite_true, ite_false, not_true_eq_false, not_false_eq_true, lq_ge, lq_le, lq_gt, lq_lt, lq_eq, jI_lt, jI_le, jI_eq, if_pos, if_neg, s1, s2, m1]
    · rw [m2 z hz]
      by_cases c1 : (z : Int) = pm * 8 + j
      · have : z = (pm * 8 + j).toNat := by omega
        rw [if_neg (by omega), if_pos (by omega), this, fd_wI_col (by omega), fd_wI_same (by omega) (by omega)]
      · by_cases c2 : (z : Int) = j * 8 + pm
        · have : z = (j * 8 + pm).toNat := by omega
          rw [if_neg (by omega), if_pos (by omega), this, fd_wI_same (by omega) (by omega)]
        · rw [fd_wI_col (by omega), fd_wI_col (by omega)]
          by_cases c3 : (((z : Int) / 8 = pm ∧ j + 1 ≤ (z : Int) % 8 ∧ (z : Int) % 8 < pm) ∨ ((z : Int) % 8 = pm ∧ j + 1 ≤ (z : Int) / 8 ∧ (z : Int) / 8 < pm))
          · rw [if_pos c3, if_pos (by omega)]
          · rw [if_neg c3, if_neg (by omega)]
set_option maxHeartbeats 8000000 in
theorem C_moveIn (hs : mm_isS s) (hS : SR h s pm hm fc kd n) (hN : NI pm hm n) (p8 : pm < 8) (e : who n pm x = -1) (x0 : 0 ≤ x) (x1 : x < hm) (f : 0 ≤ face ∧ face ≤ 9) (k : 0 ≤ kind ∧ kind ≤ 9) : ∃ g, mm_M mm_T0 (d + 4) 118 [.ref s, .int (iI x), .int (iI face), .int (iI kind)] h = some (none, g) ∧ SR g s (pm + 1) hm (up fc pm face) (up kd pm kind) (comS n pm x face) ∧ Kf (fun a k => s ≤ a ∧ a ≤ s + 7 ∧ (a = s → k = 10)) nL h g := by
  have h8 := hN.1
  have h9 := hN.2.1
  obtain ⟨s1, s2, s3, s4, s5, s6⟩ := hS
  generalize hg : wI (wI (wI (wI (wI (wI (wI h s 10 (iI (pm + 1))) (s + 1) pm.toNat (iI face)) (s + 2) pm.toNat (iI kind)) (s + 4) pm.toNat (iI (face * 10))) (s + 5) pm.toNat (iI 0)) (s + 7) x.toNat (iI pm)) (s + 3) pm.toNat (iI x) = g0
  have g10 : fd g0 s 10 = pm + 1 := by
    rw [← hg, fd_wI_row (by omega), fd_wI_row (by omega), fd_wI_row (by omega), fd_wI_row (by omega), fd_wI_row (by omega), fd_wI_row (by omega), fd_wI_same (by omega) (by omega)]
  obtain ⟨g, m1, m2, m3⟩ := C_moveIn_71 (d := d) hs h8.1 p8 pm.toNat 0 g0 (by omega) (by omega) g10
  have K0 : Kf (fun a k => s ≤ a ∧ a ≤ s + 7 ∧ (a = s → k = 10)) nL h g0 := by
    rw [← hg]
    exact ((((((Kf.refl.wI (by omega)).wI (by omega)).wI (by omega)).wI (by omega)).wI (by omega)).wI (by omega)).wI (by omega)
  refine ⟨g, ?_, ?_, K0.trans (m3.monoQ (fun a k q => by omega))⟩
  · have pl := S_place_h (d := d + 1) (h := wI (wI (wI (wI (wI h s 10 (iI (pm + 1))) (s + 1) pm.toNat (iI face)) (s + 2) pm.toNat (iI kind)) (s + 4) pm.toNat (iI (face * 10))) (s + 5) pm.toNat (iI 0)) (p := pm) (q := x) hs (by omega) (by omega) x0 (by rw [fd_wI_row (by omega), fd_wI_row (by omega), fd_wI_row (by omega), fd_wI_row (by omega), fd_wI_col (by omega)]; omega) (by omega)
    rw [if_pos (by rw [fd_wI_row (by omega), fd_wI_row (by omega), fd_wI_row (by omega), fd_wI_row (by omega), fd_wI_same (by omega) (by omega)]; omega), hg] at pl
    rw [U_X7_moveIn hs]
    simp (disch := omega) only [iI_lit, jI_lit, iI_neg, jI_neg, iI_add, iI_sub, iI_mul, jI_add, jI_sub, jI_mul, rdI, rdL, iI_lt, iI_le, iI_eq, iI_nat, iI_b2_0, iI_b2_1, mm_bI_some, mm_bV_some, mm_bL_some, mm_bA_some, fd_wL, fd_wR, fl_wI, fl_wR, re_wI, re_wL, re_wC, ite_true, ite_false, not_true_eq_false, not_false_eq_true, lq_ge, lq_le, lq_gt, lq_lt, lq_eq, jI_lt, jI_le, jI_eq, if_pos, if_neg, s1, pl, m1]
  · have z : ∀ a j, a ≠ s + 6 → fd g a j = fd g0 a j := fun a j q => m3.1 a j q
    refine ⟨(z _ _ (by omega)).trans g10, ?_, ?_, fun p p0 p1 => ?_, fun p q p0 p1 q0 q1 pq => ?_, fun i i0 i1 => ?_⟩
    · rw [z _ _ (by omega), ← hg, fd_wI_row (by omega), fd_wI_row (by omega), fd_wI_row (by omega), fd_wI_row (by omega), fd_wI_row (by omega), fd_wI_row (by omega), fd_wI_col (by omega)]
      exact s2
    · rw [z _ _ (by omega), ← hg, fd_wI_row (by omega), fd_wI_row (by omega), fd_wI_row (by omega), fd_wI_row (by omega), fd_wI_row (by omega), fd_wI_row (by omega), fd_wI_col (by omega), comS_o (by omega) (by omega) (by omega) (by omega) (by omega)]
      exact s3
    · rw [z _ _ (by omega), z _ _ (by omega), z _ _ (by omega), z _ _ (by omega), z _ _ (by omega), ← hg]
      by_cases c : p = pm
      · rw [c, up_same, up_same, comS_1, comS_2, comS_3]
        refine ⟨?_, ?_, ?_, ?_, ?_⟩
        · simp (disch := omega) only [fd_wI_row, fd_wI_same]
        · simp (disch := omega) only [fd_wI_row, fd_wI_same]
        · simp (disch := omega) only [fd_wI_row, fd_wI_same]
        · simp (disch := omega) only [fd_wI_row, fd_wI_same]
          omega
        · simp (disch := omega) only [fd_wI_row, fd_wI_same]
      · have := s4 p p0 (by omega)
        rw [up_ne c, up_ne c, comS_o (z := 1 + 3 * p) (by omega) (by omega) (by omega) (by omega) (by omega), comS_o (z := 2 + 3 * p) (by omega) (by omega) (by omega) (by omega) (by omega), comS_o (z := 3 + 3 * p) (by omega) (by omega) (by omega) (by omega) (by omega)]
        have cc : p.toNat ≠ pm.toNat := by omega
        refine ⟨?_, ?_, ?_, ?_, ?_⟩
        · simp (disch := omega) only [fd_wI_row, fd_wI_col]; exact this.1
        · simp (disch := omega) only [fd_wI_row, fd_wI_col]; exact this.2.1
        · simp (disch := omega) only [fd_wI_row, fd_wI_col]; exact this.2.2.1
        · simp (disch := omega) only [fd_wI_row, fd_wI_col]; exact this.2.2.2.1
        · simp (disch := omega) only [fd_wI_row, fd_wI_col]; exact this.2.2.2.2
    · rw [m2 _ (by omega), comS_t p0 (by omega) q0 (by omega) h8.1 p8]
      by_cases c : p = pm ∨ q = pm
      · rw [if_pos c, if_pos (by omega)]
      · rw [if_neg c, if_neg (by omega), ← hg]
        simp (disch := omega) only [fd_wI_row]
        exact s5 p q p0 (by omega) q0 (by omega) pq
    · rw [z _ _ (by omega), ← hg, fd_wI_row (by omega), comS_who hN p8 e x0 x1 f]
      by_cases c : i = x
      · rw [if_pos c, c, fd_wI_same (by omega) (by omega)]
      · rw [if_neg c, fd_wI_col (by omega)]
        simp (disch := omega) only [fd_wI_row]
        exact s6 i i0 i1
set_option maxHeartbeats 8000000 in
theorem R_comes_60 (p0 : 0 ≤ pm) (p8 : pm < 8) : ∀ (k : Nat) (j : Int) (g : mm_H), 0 ≤ j → j + k = 8 → ∃ g', mm_D (mm_M mm_T0 d) cd_X12_comes 60 [.ref 264, .int (iI pm), .null, .null, .null, .int (iI j)] [] g = some (none, g') ∧ (∀ z : Nat, fd g' 300 z = if (25 ≤ z ∧ z < 89) ∧ (((((z : Int) - 25) / 8 = pm ∧ j ≤ ((z : Int) - 25) % 8) ∨ (((z : Int) - 25) % 8 = pm ∧ j ≤ ((z : Int) - 25) / 8))) then 5 else fd g 300 z) ∧ Kf (fun a k => a = 300 ∧ k < 89) nL g g'
  | 0, j, g, j0, jk => by
    refine ⟨g, ?_, fun z => by rw [if_neg (by omega)], Kf.refl⟩
    rw [U_X12_comes_60]
    simp (disch := omega) only [iI_lit, jI_lit, iI_neg, jI_neg, iI_add, iI_sub, iI_mul, jI_add, jI_sub, jI_mul, rdI, rdL, iI_lt, iI_le, iI_eq, iI_nat, iI_b2_0, iI_b2_1, mm_bI_some, mm_bV_some, mm_bL_some, mm_bA_some, fd_wL, fd_wR, fl_wI, fl_wR, re_wI, re_wL, re_wC, ite_true, ite_false, not_true_eq_false, not_false_eq_true, lq_ge, lq_le, lq_gt, lq_lt, lq_eq, jI_lt, jI_le, jI_eq, if_pos, if_neg]
  | k + 1, j, g, j0, jk => by
    obtain ⟨g', m1, m2, m3⟩ := R_comes_60 p0 p8 k (j + 1) (wI (wI g 300 (25 + 8 * pm + j).toNat (iI 5)) 300 (25 + 8 * j + pm).toNat (iI 5)) (by omega) (by omega)
    refine ⟨g', ?_, fun z => ?_, Kf.trans ((Kf.refl.wI (by omega)).wI (by omega)) m3⟩
    · rw [U_X12_comes_60]
      simp (disch := omega) only [iI_lit, jI_lit, iI_neg, jI_neg, iI_add, iI_sub, iI_mul, jI_add, jI_sub, jI_mul, rdI, rdL, iI_lt, iI_le, iI_eq, iI_nat, iI_b2_0, iI_b2_1, mm_bI_some, mm_bV_some, mm_bL_some, mm_bA_some, fd_wL, fd_wR, fl_wI, fl_wR, re_wI, re_wL, re_wC, ite_true, ite_false, not_true_eq_false, not_false_eq_true, lq_ge, lq_le, lq_gt, lq_lt, lq_eq, jI_lt, jI_le, jI_eq, if_pos, if_neg, m1]
    · rw [m2 z]
      by_cases c2 : (z : Int) = 25 + 8 * j + pm
      · have : z = (25 + 8 * j + pm).toNat := by omega
        rw [this, fd_wI_same (by omega) (by omega)]
        split
        · rw [if_pos (by omega)]
        · rw [if_pos (by omega)]
      · rw [fd_wI_col (by omega)]
        by_cases c1 : (z : Int) = 25 + 8 * pm + j
        · have : z = (25 + 8 * pm + j).toNat := by omega
          rw [this, fd_wI_same (by omega) (by omega)]
          split
          · rw [if_pos (by omega)]
          · rw [if_pos (by omega)]
        · rw [fd_wI_col (by omega)]
          by_cases c3 : (25 ≤ z ∧ z < 89) ∧ (((((z : Int) - 25) / 8 = pm ∧ j + 1 ≤ ((z : Int) - 25) % 8) ∨ (((z : Int) - 25) % 8 = pm ∧ j + 1 ≤ ((z : Int) - 25) / 8)))
          · rw [if_pos c3, if_pos (by omega)]
          · rw [if_neg c3, if_neg (by omega)]
set_option maxHeartbeats 8000000 in
theorem R_comes (hr : RepR h n) (p0 : 0 ≤ pm) (p8 : pm < 8) (x0 : 0 ≤ x) (x1 : x < 9) (f : 0 ≤ face ∧ face ≤ 9) (kk : 0 ≤ kind ∧ kind ≤ 9) : ∃ g, mm_M mm_T0 (d + 1) 258 [.ref 264, .int (iI pm), .int (iI x), .int (iI face), .int (iI kind)] h = some (none, g) ∧ RepR g (comS n pm x face) ∧ fcR g pm = face ∧ kdR g pm = kind ∧ Kf (fun a k => (a = 300 ∧ k < 89) ∨ ((a = 294 ∨ a = 295) ∧ k = (8 + pm).toNat)) nL h g := by
  generalize hg : wI (wI (wI (wI (wI h 294 (8 + pm).toNat (iI face)) 295 (8 + pm).toNat (iI kind)) 300 (1 + 3 * pm).toNat (iI x)) 300 (2 + 3 * pm).toNat (iI (10 * face))) 300 (3 + 3 * pm).toNat (iI 0) = g0
  obtain ⟨g, m1, m2, m3⟩ := R_comes_60 (d := d) p0 p8 8 0 g0 (by omega) (by omega)
  have K0 : Kf (fun a k => (a = 300 ∧ k < 89) ∨ ((a = 294 ∨ a = 295) ∧ k = (8 + pm).toNat)) nL h g0 := by
    rw [← hg]
    exact ((((Kf.refl.wI (by omega)).wI (by omega)).wI (by omega)).wI (by omega)).wI (by omega)
  refine ⟨g, ?_, fun z z0 z1 => ?_, ?_, ?_, K0.trans (m3.monoQ (fun a k q => Or.inl q))⟩
  · rw [U_X12_comes]
    simp (disch := omega) only [iI_lit, jI_lit, iI_neg, jI_neg, iI_add, iI_sub, iI_mul, jI_add, jI_sub, jI_mul, rdI, rdL, iI_lt, iI_le, iI_eq, iI_nat, iI_b2_0, iI_b2_1, mm_bI_some, mm_bV_some, mm_bL_some, mm_bA_some, fd_wL, fd_wR, fl_wI, fl_wR, re_wI, re_wL, re_wC, ite_true, ite_false, not_true_eq_false, not_false_eq_true, lq_ge, lq_le, lq_gt, lq_lt, lq_eq, jI_lt, jI_le, jI_eq, if_pos, if_neg]
    rw [hg]
    exact m1
  · show fd g 300 z.toNat = _
    rw [m2]
    unfold comS
    by_cases c1 : z = 1 + 3 * pm
    · rw [if_pos c1, if_neg (by omega), c1, ← hg]
      simp (disch := omega) only [fd_wI_col, fd_wI_same]
    · rw [if_neg c1]
      by_cases c2 : z = 2 + 3 * pm
      · rw [if_pos c2, if_neg (by omega), c2, ← hg]
        simp (disch := omega) only [fd_wI_col, fd_wI_same]
      · rw [if_neg c2]
        by_cases c3 : z = 3 + 3 * pm
        · rw [if_pos c3, if_neg (by omega), c3, ← hg]
          simp (disch := omega) only [fd_wI_col, fd_wI_same]
        · rw [if_neg c3]
          by_cases c4 : (25 ≤ z ∧ z < 89) ∧ ((z - 25) / 8 = pm ∨ (z - 25) % 8 = pm)
          · rw [if_pos c4, if_pos (by omega)]
          · rw [if_neg c4, if_neg (by omega), ← hg]
            simp (disch := omega) only [fd_wI_col, fd_wI_row]
            exact hr z z0 z1
  · show fd g 294 (8 + pm).toNat = face
    rw [m3.1 _ _ (by omega), ← hg]
    simp (disch := omega) only [fd_wI_row, fd_wI_same]
  · show fd g 295 (8 + pm).toNat = kind
    rw [m3.1 _ _ (by omega), ← hg]
    simp (disch := omega) only [fd_wI_row, fd_wI_same]
def strV (cp cm : List Int) (hm pm : Int) (fc kd n : Int → Int) (N face kind x : Int) : Int := (yearsS cp cm hm (pm + 1) (up fc pm face) (up kd pm kind) N.toNat (comS n pm x face)).1 (2 + 3 * pm)
/-- the best house from x on, of k: house and portrait; none is (-1, -1) -/
def strF (cp cm : List Int) (hm pm : Int) (fc kd n : Int → Int) (N face kind : Int) : Nat → Int → Int × Int → Int × Int
  | 0, _, s => s
  | k + 1, x, s => strF cp cm hm pm fc kd n N face kind k (x + 1) (if who n pm x = -1 ∧ s.2 < strV cp cm hm pm fc kd n N face kind x then (x, strV cp cm hm pm fc kd n N face kind x) else s)
def BdT (hm : Int) (s : Int × Int) : Prop := (s.1 = -1 ∧ s.2 = -1) ∨ ((0 ≤ s.1 ∧ s.1 < hm) ∧ (0 ≤ s.2 ∧ s.2 ≤ 99))
theorem strV_b (hN : NI pm hm n) (p8 : pm < 8) (e : who n pm x = -1) (x0 : 0 ≤ x) (x1 : x < hm) (f : 0 ≤ face ∧ face ≤ 9) : 0 ≤ strV cp cm hm pm fc kd n N face kind x ∧ strV cp cm hm pm fc kd n N face kind x ≤ 99 := by
  have ok := yearsS_ok (cp := cp) (cm := cm) (fc := up fc pm face) (kd := up kd pm kind) N.toNat _ (comS_NI hN p8 e x0 x1 f)
  exact (ok.1.2.2.1 pm hN.1.1 (by omega)).2.1
set_option maxHeartbeats 8000000 in
theorem C_str_24 (ht : mm_isT t) (hF : FK pm fc kd) (N1 : 0 ≤ N) (N2 : N ≤ 20) (hC : CT h t cp cm cf) (hS : SR h 13 pm hm fc kd n) (hk : KeptC h 13 ev) (hl : ev.length < 9800000) (hN : NI pm hm n) (p8 : pm < 8) (y : 0 ≤ n 0 ∧ n 0 + N ≤ 999) (f : 0 ≤ face ∧ face ≤ 9) (kk : 0 ≤ kind ∧ kind ≤ 9) : ∀ (k : Nat) (x : Int) (g : mm_H) (s : Int × Int), 0 ≤ x → x + k = hm → Kf (SC t) nL h g → BdT hm s → fd g 204 6 = s.1 → fd g 204 8 = s.2 → ∃ g', mm_D (mm_M mm_T0 (d + 6)) cd_X0_findHome 24 [.ref 204, .ref t, .ref 13, .int (iI face), .int (iI kind), .int (iI N), .int (iI x)] [] g = some (some (.int (iI (b2 ((strF cp cm hm pm fc kd n N face kind k x s).1 ≠ -1)))), g') ∧ Kf (SC t) nL h g' ∧ BdT hm (strF cp cm hm pm fc kd n N face kind k x s) ∧ fd g' 204 6 = (strF cp cm hm pm fc kd n N face kind k x s).1 ∧ fd g' 204 8 = (strF cp cm hm pm fc kd n N face kind k x s).2
  | 0, x, g, s, x0, xk, K, B, c6, c8 => by
    have h9 := hN.2.1
    have tt := isT_or ht
    have e9 : fd g 13 9 = hm := (K.1 _ _ (by unfold SC; omega)).trans hS.2.1
    refine ⟨g, ?_, K, B, c6, c8⟩
    unfold BdT at B
    rw [U_X0_findHome_24 ht isS_13, strF]
    by_cases z : s.1 = -1
    · rw [b2_f (by omega)]
      simp (disch := omega) only [iI_lit, jI_lit, iI_neg, jI_neg, iI_add, iI_sub, iI_mul, jI_add, jI_sub, jI_mul, rdI, rdL, iI_lt, iI_le, iI_eq, iI_nat, iI_b2_0, iI_b2_1, mm_bI_some, mm_bV_some, mm_bL_some, mm_bA_some, fd_wL, fd_wR, fl_wI, fl_wR, re_wI, re_wL, re_wC, ite_true, ite_false, not_true_eq_false, not_false_eq_true, lq_ge, lq_le, lq_gt, lq_lt, lq_eq, jI_lt, jI_le, jI_eq, if_pos, if_neg, e9, c6]
    · rw [b2_t z]
      simp (disch := omega) only [iI_lit, jI_lit, iI_neg, jI_neg, iI_add, iI_sub, iI_mul, jI_add, jI_sub, jI_mul, rdI, rdL, iI_lt, iI_le, iI_eq, iI_nat, iI_b2_0, iI_b2_1, mm_bI_some, mm_bV_some, mm_bL_some, mm_bA_some, fd_wL, fd_wR, fl_wI, fl_wR, re_wI, re_wL, re_wC, ite_true, ite_false, not_true_eq_false, not_false_eq_true, lq_ge, lq_le, lq_gt, lq_lt, lq_eq, jI_lt, jI_le, jI_eq, if_pos, if_neg, e9, c6]
  | k + 1, x, g, s, x0, xk, K, B, c6, c8 => by
    have h9 := hN.2.1
    have h8 := hN.1
    have tt := isT_or ht
    have Sg : SR g 13 pm hm fc kd n := hS.kf K (by intro a j a1 a2; unfold SC; omega)
    have e9 : fd g 13 9 = hm := Sg.2.1
    have wx := C_who (d := d + 4) isS_13 Sg hN (a := x) (by omega) (by omega)
    have wb := who_b (n := n) (h := x) h8.1
    have B' := B
    unfold BdT at B'
    by_cases c0 : who n pm x = -1
    · obtain ⟨g1, m1, m2, m3⟩ := C_copy (d := d + 5) (h := g) isS_205 isS_13 (by omega)
      have k1 : Kf (fun a k => SC t a k ∧ a ≠ 204) nL g g1 := m3.monoQ (fun a k q => by unfold QSc at q; unfold SC; omega)
      have S1 : SR g1 205 pm hm fc kd n := m2.SR h8.2 h9.2 Sg
      have K1 : KeptC g1 205 ev := m2.Kept (hk.kf K (by intro a j a1 a2; unfold SC; omega))
      obtain ⟨g2, q1, q2, q3⟩ := C_moveIn (d := d + 2) (face := face) (kind := kind) isS_205 S1 hN p8 c0 x0 (by omega) f kk
      have k2 : Kf (fun a k => SC t a k ∧ a ≠ 204) nL g g2 := k1.trans (q3.monoQ (fun a k q => by unfold SC; omega))
      have nn := comS_NI hN p8 c0 x0 (by omega) f
      have C2 : CT g2 t cp cm cf := hC.kf3 (K.trans (k2.monoQ (fun a k q => q.1))) (by intro a j; unfold NC SC; omega)
      have n0 : comS n pm x face 0 = n 0 := comS_o (by omega) (by omega) (by omega) (by omega) (by omega)
      obtain ⟨g3, r1, r2, r3, r4, r5⟩ := C_tryYears (d := d + 1) (N := N) ht (FK_com hF f kk) N1 (by omega) C2 q2 (K1.congr (q3.1 _ _ (by omega)) (fun j => q3.1 _ _ (by omega))) (by omega) nn (by omega)
      have k3 : Kf (fun a k => SC t a k ∧ a ≠ 204) nL g g3 := k2.trans (r5.monoQ (fun a k q => by unfold QY at q; unfold SC; omega))
      have K3 : Kf (SC t) nL h g3 := K.trans (k3.monoQ (fun a k q => q.1))
      have vb := strV_b (cp := cp) (cm := cm) (fc := fc) (kd := kd) (N := N) (kind := kind) hN p8 c0 x0 (by omega) f
      have l := fun d => C_look (d := d) (p := pm) isS_205 r2 (by omega) h8.1 (by omega)
      have f10 : fd g3 13 10 = pm := (K3.1 _ _ (by unfold SC; omega)).trans hS.1
      have f8 : fd g3 204 8 = s.2 := (k3.1 _ _ (by omega)).trans c8
      have f6 : fd g3 204 6 = s.1 := (k3.1 _ _ (by omega)).trans c6
      by_cases c : s.2 < strV cp cm hm pm fc kd n N face kind x
      · have r2' : SR (wI g3 204 6 (iI x)) 205 (pm + 1) hm (up fc pm face) (up kd pm kind) (yearsS cp cm hm (pm + 1) (up fc pm face) (up kd pm kind) N.toNat (comS n pm x face)).1 := r2.congr (fun a j a1 a2 => fd_wI_row (by omega))
        have l2 := fun d => C_look (d := d) (p := pm) isS_205 r2' (by omega) h8.1 (by omega)
        have f10' : fd (wI g3 204 6 (iI x)) 13 10 = pm := (fd_wI_row (by omega)).trans f10
        obtain ⟨g', z1, z2, z3, z4, z5⟩ := C_str_24 ht hF N1 N2 hC hS hk hl hN p8 y f kk k (x + 1) (wI (wI g3 204 6 (iI x)) 204 8 (iI (strV cp cm hm pm fc kd n N face kind x))) (x, strV cp cm hm pm fc kd n N face kind x) (by omega) (by omega) ((K3.wI (by unfold SC; omega)).wI (by unfold SC; omega)) (by unfold BdT; dsimp only; omega) (by rw [fd_wI_col (by omega), fd_wI_same (by omega) (by omega)]) (fd_wI_same (by omega) (by omega))
        have ee : strF cp cm hm pm fc kd n N face kind (k + 1) x s = strF cp cm hm pm fc kd n N face kind k (x + 1) (x, strV cp cm hm pm fc kd n N face kind x) := by
          rw [strF, if_pos ⟨c0, c⟩]
        rw [ee]
        refine ⟨g', ?_, z2, z3, z4, z5⟩
        rw [← z1, U_X0_findHome_24 ht isS_13]
        rw [c0] at wx
        unfold strV at c vb ⊢
        simp (disch := omega) only [iI_lit, jI_lit, iI_neg, jI_neg, iI_add, iI_sub, iI_mul, jI_add, jI_sub, jI_mul, rdI, rdL, iI_lt, iI_le, iI_eq, iI_nat, iI_b2_0, iI_b2_1, mm_bI_some, mm_bV_some, mm_bL_some, mm_bA_some, fd_wL, fd_wR, fl_wI, fl_wR, re_wI, re_wL, re_wC, ite_true, ite_false, not_true_eq_false, not_false_eq_true, lq_ge, lq_le, lq_gt, lq_lt, lq_eq, jI_lt, jI_le, jI_eq, if_pos, if_neg, e9, wx, m1, q1, r1, f10, l, f8, f10', l2]
      · obtain ⟨g', z1, z2, z3, z4, z5⟩ := C_str_24 ht hF N1 N2 hC hS hk hl hN p8 y f kk k (x + 1) g3 s (by omega) (by omega) K3 B f6 f8
        have ee : strF cp cm hm pm fc kd n N face kind (k + 1) x s = strF cp cm hm pm fc kd n N face kind k (x + 1) s := by
          rw [strF, if_neg (fun z => c z.2)]
        rw [ee]
        refine ⟨g', ?_, z2, z3, z4, z5⟩
        rw [← z1, U_X0_findHome_24 ht isS_13]
        rw [c0] at wx
        unfold strV at c vb
        simp (disch := omega) only [iI_lit, jI_lit, iI_neg, jI_neg, iI_add, iI_sub, iI_mul, jI_add, jI_sub, jI_mul, rdI, rdL, iI_lt, iI_le, iI_eq, iI_nat, iI_b2_0, iI_b2_1, mm_bI_some, mm_bV_some, mm_bL_some, mm_bA_some, fd_wL, fd_wR, fl_wI, fl_wR, re_wI, re_wL, re_wC, ite_true, ite_false, not_true_eq_false, not_false_eq_true, lq_ge, lq_le, lq_gt, lq_lt, lq_eq, jI_lt, jI_le, jI_eq, if_pos, if_neg, e9, wx, m1, q1, r1, f10, l, f8]
    · obtain ⟨g', z1, z2, z3, z4, z5⟩ := C_str_24 ht hF N1 N2 hC hS hk hl hN p8 y f kk k (x + 1) g s (by omega) (by omega) K B c6 c8
      have ee : strF cp cm hm pm fc kd n N face kind (k + 1) x s = strF cp cm hm pm fc kd n N face kind k (x + 1) s := by
        rw [strF, if_neg (fun z => c0 z.1)]
      rw [ee]
      refine ⟨g', ?_, z2, z3, z4, z5⟩
      rw [← z1, U_X0_findHome_24 ht isS_13]
      simp (disch := omega) only [iI_lit, jI_lit, iI_neg, jI_neg, iI_add, iI_sub, iI_mul, jI_add, jI_sub, jI_mul, rdI, rdL, iI_lt, iI_le, iI_eq, iI_nat, iI_b2_0, iI_b2_1, mm_bI_some, mm_bV_some, mm_bL_some, mm_bA_some, fd_wL, fd_wR, fl_wI, fl_wR, re_wI, re_wL, re_wC, ite_true, ite_false, not_true_eq_false, not_false_eq_true, lq_ge, lq_le, lq_gt, lq_lt, lq_eq, jI_lt, jI_le, jI_eq, if_pos, if_neg, e9, wx]
def ES (pm : Int) : Nat → Nat → Prop := fun a k => (a = 264 ∧ k = 40) ∨ ((a = 294 ∨ a = 295) ∧ k = (8 + pm).toNat)
theorem RT.more {g : mm_H} (hT : RT h pm hm fc kd cp cm cf) (k : Kf (fun a k => (a = 300 ∧ k < 89) ∨ ((a = 294 ∨ a = 295) ∧ k = (8 + pm).toNat)) nL h g) (p0 : 0 ≤ pm) (p8 : pm < 8) (e1 : fcR g pm = face) (e2 : kdR g pm = kind) : RT (wI g 264 40 (iI (pm + 1))) (pm + 1) hm (up fc pm face) (up kd pm kind) cp cm cf := by
  have k2 : Kf (fun a k => ((a = 300 ∧ k < 89) ∨ ((a = 294 ∨ a = 295) ∧ k = (8 + pm).toNat)) ∨ (a = 264 ∧ k = 40)) nL h (wI g 264 40 (iI (pm + 1))) := Kf.wI (k.monoQ (fun a k q => Or.inl q)) (Or.inr ⟨rfl, rfl⟩)
  refine ⟨fd_wI_same (by omega) (by omega), (k2.1 _ _ (by omega)).trans hT.2.1, fun p q0 q1 => ?_, hT.2.2.2.1.kf k2 (by intro a j; omega), hT.2.2.2.2.1.kf k2 (by intro a j; omega), hT.2.2.2.2.2.kf k2 (by intro a j; omega)⟩
  by_cases c : p = pm
  · rw [c, up_same, up_same]
    exact ⟨(fd_wI_row (by omega)).trans e1, (fd_wI_row (by omega)).trans e2⟩
  · have := hT.2.2.1 p q0 (by omega)
    rw [up_ne c, up_ne c]
    exact ⟨(k2.1 294 _ (by omega)).trans this.1, (k2.1 295 _ (by omega)).trans this.2⟩
theorem RT.less {g : mm_H} (hT : RT g (pm + 1) hm (up fc pm face) (up kd pm kind) cp cm cf) (p0 : 0 ≤ pm) (p8 : pm < 8) : RT (wI g 264 40 (iI pm)) pm hm fc kd cp cm cf := by
  have k2 : Kf (fun a k => a = 264 ∧ k = 40) nL g (wI g 264 40 (iI pm)) := Kf.refl.wI ⟨rfl, rfl⟩
  refine ⟨fd_wI_same (by omega) (by omega), (k2.1 _ _ (by omega)).trans hT.2.1, fun p q0 q1 => ?_, hT.2.2.2.1.kf k2 (by intro a j; omega), hT.2.2.2.2.1.kf k2 (by intro a j; omega), hT.2.2.2.2.2.kf k2 (by intro a j; omega)⟩
  have := hT.2.2.1 p q0 (by omega)
  rw [up_ne (by omega), up_ne (by omega)] at this
  exact ⟨(k2.1 294 _ (by omega)).trans this.1, (k2.1 295 _ (by omega)).trans this.2⟩
set_option maxHeartbeats 8000000 in
theorem R_str_83 {w : Int} {h : mm_H} (w0 : w = 0 ∨ w = 1) (hF : FK pm fc kd) (N1 : 0 ≤ N) (N2 : N ≤ 20) (h0 : RepR h n) (h65 : fd h 264 65 < 62000000) (hN : NI pm hm n) (p8 : pm < 8) (y : 0 ≤ n 0 ∧ n 0 + N ≤ 999) (f : 0 ≤ face ∧ face ≤ 9) (kk : 0 ≤ kind ∧ kind ≤ 9) : ∀ (k : Nat) (x B m : Int) (g : mm_H) (s : Int × Int), 0 ≤ x → x + k = hm → TR (ES pm) h g B → (0 ≤ B ∧ B + 360 * k < 8000000) → RT g pm hm fc kd cp cm cf → RepR g n → BdT hm s → (s.1 ≠ -1 → m = s.2) → (0 ≤ m ∧ m ≤ 99) → ∃ g', mm_D (mm_M mm_T0 (d + 7)) cd_X12_stranger 83 [.ref 264, .int (iI face), .int (iI kind), .int (iI N), .int (iI w), .int (iI pm), .int (iI s.1), .int (iI m), .int (iI x), .null] [] g = some (some (.int (iI (if (strF cp cm hm pm fc kd n N face kind k x s).1 = -1 then -1 else if w = 0 then (strF cp cm hm pm fc kd n N face kind k x s).1 else (strF cp cm hm pm fc kd n N face kind k x s).2))), g') ∧ Kf (QTb (ES pm)) LE3 h g' ∧ fd g' 264 64 = 0 ∧ (0 ≤ fd g' 264 65 ∧ fd g' 264 65 ≤ fd h 264 65 + (B + 360 * k)) ∧ fd g' 264 40 = pm
  | 0, x, B, m, g, s, x0, xk, T, hB, hT, hr, BD, e, em => by
    have h9 := hN.2.1
    have e38 : fd g 264 38 = hm := hT.2.1
    obtain ⟨g', m1, m2, m3, m4, m5⟩ := T.back (d := d + 5)
    unfold BdT at BD
    refine ⟨g', ?_, m2, m3, by omega, (m5.1 _ _ (by omega)).trans hT.1⟩
    rw [U_X12_stranger_83, strF]
    by_cases c : s.1 = -1
    · simp (disch := omega) only [iI_lit, jI_lit, iI_neg, jI_neg, iI_add, iI_sub, iI_mul, jI_add, jI_sub, jI_mul, rdI, rdL, iI_lt, iI_le, iI_eq, iI_nat, iI_b2_0, iI_b2_1, mm_bI_some, mm_bV_some, mm_bL_some, mm_bA_some, fd_wL, fd_wR, fl_wI, fl_wR, re_wI, re_wL, re_wC, ite_true, ite_false, not_true_eq_false, not_false_eq_true, lq_ge, lq_le, lq_gt, lq_lt, lq_eq, jI_lt, jI_le, jI_eq, if_pos, if_neg, e38, m1]
    · have e := e c
      rcases w0 with c1 | c1
      · simp (disch := omega) only [iI_lit, jI_lit, iI_neg, jI_neg, iI_add, iI_sub, iI_mul, jI_add, jI_sub, jI_mul, rdI, rdL, iI_lt, iI_le, iI_eq, iI_nat, iI_b2_0, iI_b2_1, mm_bI_some, mm_bV_some, mm_bL_some, mm_bA_some, fd_wL, fd_wR, fl_wI, fl_wR, re_wI, re_wL, re_wC, ite_true, ite_false, not_true_eq_false, not_false_eq_true, lq_ge, lq_le, lq_gt, lq_lt, lq_eq, jI_lt, jI_le, jI_eq, if_pos, if_neg, e38, m1]
      · simp (disch := omega) only [iI_lit, jI_lit, iI_neg, jI_neg, iI_add, iI_sub, iI_mul, jI_add, jI_sub, jI_mul, rdI, rdL, iI_lt, iI_le, iI_eq, iI_nat, iI_b2_0, iI_b2_1, mm_bI_some, mm_bV_some, mm_bL_some, mm_bA_some, fd_wL, fd_wR, fl_wI, fl_wR, re_wI, re_wL, re_wC, ite_true, ite_false, not_true_eq_false, not_false_eq_true, lq_ge, lq_le, lq_gt, lq_lt, lq_eq, jI_lt, jI_le, jI_eq, if_pos, if_neg, e38, m1, e]
  | k + 1, x, B, m, g, s, x0, xk, T, hB, hT, hr, BD, e, em => by
    have h9 := hN.2.1
    have h8 := hN.1
    have e38 : fd g 264 38 = hm := hT.2.1
    have e40 : fd g 264 40 = pm := hT.1
    have wx := R_who (d := d + 5) hr e40 h8 (a := x) (by omega) (by omega)
    have wb := who_b (n := n) (h := x) h8.1
    have e1 : B + 360 * ((k + 1 : Nat) : Int) = B + 360 + 360 * (k : Nat) := by omega
    have BD' := BD
    unfold BdT at BD'
    by_cases c0 : who n pm x = -1
    · rw [c0] at wx
      obtain ⟨g1, m1, m2, m3, m4, m5⟩ := R_comes (d := d + 6) (face := face) (kind := kind) hr h8.1 p8 x0 (by omega) f kk
      have T1 : TR (ES pm) h g1 B := by
        have a1 : Kf (fun a k => ((a = 294 ∨ a = 295) ∧ k = (8 + pm).toNat)) nL g (wI (wI g 294 (8 + pm).toNat (iI face)) 295 (8 + pm).toNat (iI kind)) := (Kf.refl.wI (by omega)).wI (by omega)
        have T0 := T.ext a1 (by intro a k q; unfold ES; omega)
        refine T0.st ⟨fun a k q => ?_, fun a k q => ?_, ?_⟩
        · by_cases c : (a = 294 ∨ a = 295) ∧ k = (8 + pm).toNat
          · rcases c.1 with z | z
            · rw [z, c.2, fd_wI_row (by omega), fd_wI_same (by omega) (by omega)]; exact m3
            · rw [z, c.2, fd_wI_same (by omega) (by omega)]; exact m4
          · rw [m5.1 a k (by omega), a1.1 a k c]
        · rw [m5.2.1 a k (fun q => q)]; rfl
        · rw [m5.2.2]; rfl
      have T2 : TR (ES pm) h (wI g1 264 40 (iI (pm + 1))) B := T1.ext (Q := fun a k => a = 264 ∧ k = 40) (Kf.refl.wI ⟨rfl, rfl⟩) (by intro a k q; unfold ES; omega)
      have R2 : RT (wI g1 264 40 (iI (pm + 1))) (pm + 1) hm (up fc pm face) (up kd pm kind) cp cm cf := hT.more m5 h8.1 p8 m3 m4
      have nn := comS_NI hN p8 c0 x0 (by omega) f
      have n0 : comS n pm x face 0 = n 0 := comS_o (by omega) (by omega) (by omega) (by omega) (by omega)
      have r0 : RepR (wI g1 264 40 (iI (pm + 1))) (comS n pm x face) := fun z z0 z1 => (fd_wI_row (by omega)).trans (m2 z z0 z1)
      obtain ⟨g2, q1, q2, q3, q4, q5⟩ := T2.years (d := d) (N := N) (by omega) (FK_com hF f kk) N1 (by omega) R2 r0 nn (by omega)
      have vb := strV_b (cp := cp) (cm := cm) (fc := fc) (kd := kd) (N := N) (kind := kind) hN p8 c0 x0 (by omega) f
      have T3 : TR (ES pm) h (wI g2 264 40 (iI pm)) (B + 18 * N) := q2.ext (Q := fun a k => a = 264 ∧ k = 40) (Kf.refl.wI ⟨rfl, rfl⟩) (by intro a k q; unfold ES; omega)
      have R3 := q3.less h8.1 p8
      obtain ⟨g3, r1, r2, r3, r4, r5⟩ := T3.anew (d := d + 6) R3 h0
      have T4 : TR (ES pm) h g3 (B + 360) := ⟨r2.1, r2.2.1, by have := r2.2.2; omega⟩
      have f40 : fd g1 264 40 = pm := (m5.1 _ _ (by omega)).trans e40
      have f41 : fd g2 264 40 = pm + 1 := q3.1
      have ap : pm + 1 - 1 = pm := by omega
      have lk : nw (wI g2 264 40 (iI pm)) (2 + 3 * pm) = strV cp cm hm pm fc kd n N face kind x := (fd_wI_row (by omega)).trans (q4 (2 + 3 * pm) (by omega) (by omega))
      by_cases c : s.2 < strV cp cm hm pm fc kd n N face kind x
      · obtain ⟨g', z1, z2⟩ := R_str_83 w0 hF N1 N2 h0 h65 hN p8 y f kk k (x + 1) (B + 360) (strV cp cm hm pm fc kd n N face kind x) g3 (x, strV cp cm hm pm fc kd n N face kind x) (by omega) (by omega) T4 (by omega) r3 r4 (by unfold BdT; dsimp only; omega) (fun _ => rfl) vb
        have ee : strF cp cm hm pm fc kd n N face kind (k + 1) x s = strF cp cm hm pm fc kd n N face kind k (x + 1) (x, strV cp cm hm pm fc kd n N face kind x) := by
          rw [strF, if_pos ⟨c0, c⟩]
        rw [e1, ee]
        refine ⟨g', ?_, z2⟩
        rw [← z1, U_X12_stranger_83]
        by_cases c3 : s.1 = -1
        · simp (disch := omega) only [iI_lit, jI_lit, iI_neg, jI_neg, iI_add, iI_sub, iI_mul, jI_add, jI_sub, jI_mul, rdI, rdL, iI_lt, iI_le, iI_eq, iI_nat, iI_b2_0, iI_b2_1, mm_bI_some, mm_bV_some, mm_bL_some, mm_bA_some, fd_wL, fd_wR, fl_wI, fl_wR, re_wI, re_wL, re_wC, ite_true, ite_false, not_true_eq_false, not_false_eq_true, lq_ge, lq_le, lq_gt, lq_lt, lq_eq, jI_lt, jI_le, jI_eq, if_pos, if_neg, e38, wx, m1, f40, q1, f41, ap, R_lookOf, lk, r1]
        · have e := e c3
          simp (disch := omega) only [iI_lit, jI_lit, iI_neg, jI_neg, iI_add, iI_sub, iI_mul, jI_add, jI_sub, jI_mul, rdI, rdL, iI_lt, iI_le, iI_eq, iI_nat, iI_b2_0, iI_b2_1, mm_bI_some, mm_bV_some, mm_bL_some, mm_bA_some, fd_wL, fd_wR, fl_wI, fl_wR, re_wI, re_wL, re_wC, ite_true, ite_false, not_true_eq_false, not_false_eq_true, lq_ge, lq_le, lq_gt, lq_lt, lq_eq, jI_lt, jI_le, jI_eq, if_pos, if_neg, e38, wx, m1, f40, q1, f41, ap, R_lookOf, lk, r1]
      · have c3 : s.1 ≠ -1 := by omega
        have e' := e c3
        obtain ⟨g', z1, z2⟩ := R_str_83 w0 hF N1 N2 h0 h65 hN p8 y f kk k (x + 1) (B + 360) m g3 s (by omega) (by omega) T4 (by omega) r3 r4 BD e em
        have ee : strF cp cm hm pm fc kd n N face kind (k + 1) x s = strF cp cm hm pm fc kd n N face kind k (x + 1) s := by
          rw [strF, if_neg (fun z => c z.2)]
        rw [e1, ee]
        refine ⟨g', ?_, z2⟩
        rw [← z1, U_X12_stranger_83]
        simp (disch := omega) only [iI_lit, jI_lit, iI_neg, jI_neg, iI_add, iI_sub, iI_mul, jI_add, jI_sub, jI_mul, rdI, rdL, iI_lt, iI_le, iI_eq, iI_nat, iI_b2_0, iI_b2_1, mm_bI_some, mm_bV_some, mm_bL_some, mm_bA_some, fd_wL, fd_wR, fl_wI, fl_wR, re_wI, re_wL, re_wC, ite_true, ite_false, not_true_eq_false, not_false_eq_true, lq_ge, lq_le, lq_gt, lq_lt, lq_eq, jI_lt, jI_le, jI_eq, if_pos, if_neg, e38, wx, m1, f40, q1, f41, ap, R_lookOf, lk, r1]
    · obtain ⟨g', z1, z2, z3, z4, z5⟩ := R_str_83 w0 hF N1 N2 h0 h65 hN p8 y f kk k (x + 1) B m g s (by omega) (by omega) T (by omega) hT hr BD e em
      have ee : strF cp cm hm pm fc kd n N face kind (k + 1) x s = strF cp cm hm pm fc kd n N face kind k (x + 1) s := by
        rw [strF, if_neg (fun z => c0 z.1)]
      rw [ee]
      refine ⟨g', ?_, z2, z3, by omega, z5⟩
      rw [← z1, U_X12_stranger_83]
      simp (disch := omega) only [iI_lit, jI_lit, iI_neg, jI_neg, iI_add, iI_sub, iI_mul, jI_add, jI_sub, jI_mul, rdI, rdL, iI_lt, iI_le, iI_eq, iI_nat, iI_b2_0, iI_b2_1, mm_bI_some, mm_bV_some, mm_bL_some, mm_bA_some, fd_wL, fd_wR, fl_wI, fl_wR, re_wI, re_wL, re_wC, ite_true, ite_false, not_true_eq_false, not_false_eq_true, lq_ge, lq_le, lq_gt, lq_lt, lq_eq, jI_lt, jI_le, jI_eq, if_pos, if_neg, e38, wx]
end STR2
