/-! thoughts, faces, tells -/
section THO
variable {d t : Nat} {h : mm_H} {pm hm : Int} {fc kd n : Int → Int} {cp cm cf : List Int} {ev : Evs} {b : Nat → Int} {R : Nat}
theorem or0 (a : Int) : iI a ||| iI 0 = iI a := Int32.or_zero
theorem SeC.kf {g g' : mm_H} {Q L : Nat → Nat → Prop} (s : SeC g b R) (k : Kf Q L g g') (q : ∀ j, ¬ Q 214 j) (q2 : ¬ Q 204 2) : SeC g' b R := ⟨(k.1 _ _ q2).trans s.1, fun z hz => (k.1 _ _ (q z)).trans (s.2 z hz)⟩
theorem SeR.kf {g g' : mm_H} {Q L : Nat → Nat → Prop} (s : SeR g b R) (k : Kf Q L g g') (q : ∀ j, ¬ Q 303 j) (q2 : ¬ Q 264 67) : SeR g' b R := ⟨(k.1 _ _ q2).trans s.1, fun z hz => (k.1 _ _ (q z)).trans (s.2 z hz)⟩
/-- how thought v of p about q would come out: 1 as seen, 0 not -/
def fitT (cp cm : List Int) (hm pm : Int) (fc kd n : Int → Int) (b : Nat → Int) (R : Nat) (p q : Int) : Int → Int := fun v => b2 (fitR cp cm hm pm fc kd b R 31 0 (up n (25 + 8 * p + q) v) = true)
def fitF (cp cm : List Int) (hm pm : Int) (fc kd n : Int → Int) (b : Nat → Int) (R : Nat) (p : Int) : Int → Int := fun v => b2 (fitR cp cm hm pm (up fc p v) kd b R 31 0 n = true)
set_option maxHeartbeats 8000000 in
theorem C_tho_6 {p q : Int} (ht : mm_isT t) (hF : FK pm fc kd) (hC : CT h t cp cm cf) (hS : SR h 13 pm hm fc kd n) (hk : KeptC h 13 ev) (hl : ev.length < 9600000) (hN : NI pm hm n) (y : 0 ≤ n 0 ∧ n 0 ≤ 999) (s : SeC h b R) (B : SeB b R pm) (p0 : 0 ≤ p) (p1 : p < pm) (q0 : 0 ≤ q) (q1 : q < pm) (pq : p ≠ q) : ∀ (k j : Nat) (g : mm_H), j + k = 10 → Kf (SC t) nL h g → ∃ g', mm_D (mm_M mm_T0 (d + 6)) cd_X0_possibleThoughts 6 [.ref 204, .ref t, .ref 13, .int (iI p), .int (iI q), .int (iI ((setN (fitT cp cm hm pm fc kd n b R p q) j : Nat) : Int)), .int (iI (j : Nat))] [] g = some (some (.int (iI ((setN (fitT cp cm hm pm fc kd n b R p q) 10 : Nat) : Int))), g') ∧ Kf (SC t) nL h g'
  | 0, j, g, jk, K => by
    have e : j = 10 := by omega
    subst e
    refine ⟨g, ?_, K⟩
    rw [U_X0_possibleThoughts_6 ht isS_13]
    simp (disch := omega) only [iI_lit, jI_lit, iI_neg, jI_neg, iI_add, iI_sub, iI_mul, jI_add, jI_sub, jI_mul, rdI, rdL, iI_lt, iI_le, iI_eq, iI_nat, iI_b2_0, iI_b2_1, mm_bI_some, mm_bV_some, mm_bL_some, mm_bA_some, fd_wL, fd_wR, fl_wI, fl_wR, re_wI, re_wL, re_wC, ite_true, ite_false, not_true_eq_false, not_false_eq_true, lq_ge, lq_le, lq_gt, lq_lt, lq_eq, jI_lt, jI_le, jI_eq, if_pos, if_neg]
  | k + 1, j, g, jk, K => by
    have h8 := hN.1
    have tt := isT_or ht
    obtain ⟨g1, m1, m2, m3, m4, m5⟩ := C_try (d := d + 5) ht (hC.kf3 K (by intro a j; unfold NC SC; omega)) (hS.kf K (by intro a j a1 a2; unfold SC; omega)) (hk.kf K (by intro a j a1 a2; unfold SC; omega)) hN
    have f10 : fd g1 205 10 = pm := m2.1
    have st := S_setThought (d := d + 3) (h := g1) (p := p) (q := q) (x := (j : Nat)) isS_205 (by omega) (by omega) (by omega) (by omega)
    rw [if_pos (by omega)] at st
    have kw : Kf (SC t) nL g1 (wI g1 (205 + 6) (p * 8 + q).toNat (iI (j : Nat))) := Kf.refl.wI (by unfold SC; omega)
    have S2 := SR_thought (p := p) (q := q) (v := (j : Nat)) m2 p0 p1 q0 q1 h8.2 (by omega) (by omega)
    have n2 := NI_thought (p := p) (q := q) (v := (j : Nat)) hN (by omega) (by omega) p0 p1 q0 q1
    have K2 : Kf (SC t) nL h (wI g1 (205 + 6) (p * 8 + q).toNat (iI (j : Nat))) := K.trans (m5.trans kw)
    obtain ⟨g3, r1, r2⟩ := C_comes (d := d) (s.kf K2 (by intro j; unfold SC; omega) (by unfold SC; omega)) B ht hF (m4.kf3 kw (by intro a j; unfold NC SC; omega)) S2 n2 (by rw [up_ne (by omega)]; exact y) (m3.congr (fd_wI_row (by omega)) (fun j => fd_wI_row (by omega))) (by omega)
    obtain ⟨g', z1, z2⟩ := C_tho_6 ht hF hC hS hk hl hN y s B p0 p1 q0 q1 pq k (j + 1) g3 (by omega) (K2.trans (r2.monoQ QY_SC))
    have fb : 0 ≤ fitT cp cm hm pm fc kd n b R p q (j : Nat) ∧ fitT cp cm hm pm fc kd n b R p q (j : Nat) ≤ 1 := b2_le _
    have r1' : mm_M mm_T0 (d + 6) 27 [.ref 204, .ref t] (wI g1 (205 + 6) (p * 8 + q).toNat (iI (j : Nat))) = some (some (.int (iI (fitT cp cm hm pm fc kd n b R p q (j : Nat)))), g3) := r1
    have e1 : ((j : Nat) : Int) + 1 = ((j + 1 : Nat) : Int) := by omega
    have l := setN_lt (f := fitT cp cm hm pm fc kd n b R p q) j
    refine ⟨g', ?_, z2⟩
    rw [← z1, U_X0_possibleThoughts_6 ht isS_13]
    by_cases c : fitT cp cm hm pm fc kd n b R p q (j : Nat) = 1
    · rw [c] at r1'
      rw [setN_s1 c, ← or_tab (by omega) l]
      simp (disch := omega) only [show (0 : Int32) = iI 0 from rfl, show (1 : Int32) = iI 1 from rfl, show (9 : Int32) = iI 9 from rfl, show (31 : Int32) = iI 31 from rfl, iI_lt, iI_eq, if_neg, m1, mm_bV_some, mm_bI_some, st, r1', iI_add, e1]
    · have c0 : fitT cp cm hm pm fc kd n b R p q (j : Nat) = 0 := by omega
      rw [c0] at r1'
      rw [setN_s0 c]
      simp (disch := omega) only [iI_lit, jI_lit, iI_neg, jI_neg, iI_add, iI_sub, iI_mul, jI_add, jI_sub, jI_mul, rdI, rdL, iI_lt, iI_le, iI_eq, iI_nat, iI_b2_0, iI_b2_1, mm_bI_some, mm_bV_some, mm_bL_some, mm_bA_some, fd_wL, fd_wR, fl_wI, fl_wR, re_wI, re_wL, re_wC, ite_true, ite_false, not_true_eq_false, not_false_eq_true, lq_ge, lq_le, lq_gt, lq_lt, lq_eq, jI_lt, jI_le, jI_eq, if_pos, if_neg, m1, st, r1', e1, or0]
theorem SR_face {s : Nat} {p v : Int} {h : mm_H} (hS : SR h s pm hm fc kd n) (p0 : 0 ≤ p) (p1 : p < pm) (v0 : 0 ≤ v) (v1 : v ≤ 9) : SR (wI h (s + 1) p.toNat (iI v)) s pm hm (up fc p v) kd n := by
  refine ⟨(fd_wI_row (by omega)).trans hS.1, (fd_wI_row (by omega)).trans hS.2.1, (fd_wI_row (by omega)).trans hS.2.2.1, fun x x0 x1 => ?_, fun x z x1 x2 z1 z2 xz => ?_, fun i i0 i1 => ?_⟩
  · have := hS.2.2.2.1 x x0 x1
    rw [fd_wI_row (a := s + 1) (b := s + 2) (by omega), fd_wI_row (a := s + 1) (b := s + 3) (by omega), fd_wI_row (a := s + 1) (b := s + 4) (by omega), fd_wI_row (a := s + 1) (b := s + 5) (by omega)]
    refine ⟨?_, this.2⟩
    by_cases c : x = p
    · rw [c, up_same, fd_wI_same (by omega) (by omega)]
    · rw [up_ne c, fd_wI_col (by omega)]; exact this.1
  · rw [fd_wI_row (by omega)]; exact hS.2.2.2.2.1 x z x1 x2 z1 z2 xz
  · rw [fd_wI_row (by omega)]; exact hS.2.2.2.2.2 i i0 i1
theorem FK_face {p v : Int} (hF : FK pm fc kd) (v0 : 0 ≤ v) (v1 : v ≤ 9) : FK pm (up fc p v) kd := by
  intro x x0 x1
  have := hF x x0 x1
  by_cases c : x = p
  · rw [c, up_same]; rw [c] at this; exact ⟨⟨v0, v1⟩, this.2⟩
  · rw [up_ne c]; exact this
set_option maxHeartbeats 8000000 in
theorem C_fac_6 {p : Int} (ht : mm_isT t) (hF : FK pm fc kd) (hC : CT h t cp cm cf) (hS : SR h 13 pm hm fc kd n) (hk : KeptC h 13 ev) (hl : ev.length < 9600000) (hN : NI pm hm n) (y : 0 ≤ n 0 ∧ n 0 ≤ 999) (s : SeC h b R) (B : SeB b R pm) (p0 : 0 ≤ p) (p1 : p < pm) : ∀ (k j : Nat) (g : mm_H), j + k = 10 → Kf (SC t) nL h g → ∃ g', mm_D (mm_M mm_T0 (d + 6)) cd_X0_possibleFaces 6 [.ref 204, .ref t, .ref 13, .int (iI p), .int (iI ((setN (fitF cp cm hm pm fc kd n b R p) j : Nat) : Int)), .int (iI (j : Nat))] [] g = some (some (.int (iI ((setN (fitF cp cm hm pm fc kd n b R p) 10 : Nat) : Int))), g') ∧ Kf (SC t) nL h g'
  | 0, j, g, jk, K => by
    have e : j = 10 := by omega
    subst e
    refine ⟨g, ?_, K⟩
    rw [U_X0_possibleFaces_6 ht isS_13]
    simp (disch := omega) only [iI_lit, jI_lit, iI_neg, jI_neg, iI_add, iI_sub, iI_mul, jI_add, jI_sub, jI_mul, rdI, rdL, iI_lt, iI_le, iI_eq, iI_nat, iI_b2_0, iI_b2_1, mm_bI_some, mm_bV_some, mm_bL_some, mm_bA_some, fd_wL, fd_wR, fl_wI, fl_wR, re_wI, re_wL, re_wC, ite_true, ite_false, not_true_eq_false, not_false_eq_true, lq_ge, lq_le, lq_gt, lq_lt, lq_eq, jI_lt, jI_le, jI_eq, if_pos, if_neg]
  | k + 1, j, g, jk, K => by
    have h8 := hN.1
    have tt := isT_or ht
    obtain ⟨g1, m1, m2, m3, m4, m5⟩ := C_try (d := d + 5) ht (hC.kf3 K (by intro a j; unfold NC SC; omega)) (hS.kf K (by intro a j a1 a2; unfold SC; omega)) (hk.kf K (by intro a j a1 a2; unfold SC; omega)) hN
    have f10 : fd g1 205 10 = pm := m2.1
    have st := S_setFace (d := d + 4) (h := g1) (p := p) (x := (j : Nat)) isS_205 (by omega) (by omega)
    rw [if_pos (by omega)] at st
    have kw : Kf (SC t) nL g1 (wI g1 (205 + 1) p.toNat (iI (j : Nat))) := Kf.refl.wI (by unfold SC; omega)
    have S2 := SR_face (p := p) (v := (j : Nat)) m2 p0 p1 (by omega) (by omega)
    have K2 : Kf (SC t) nL h (wI g1 (205 + 1) p.toNat (iI (j : Nat))) := K.trans (m5.trans kw)
    obtain ⟨g3, r1, r2⟩ := C_comes (d := d) (s.kf K2 (by intro j; unfold SC; omega) (by unfold SC; omega)) B ht (FK_face (p := p) (v := (j : Nat)) hF (by omega) (by omega)) (m4.kf3 kw (by intro a j; unfold NC SC; omega)) S2 hN y (m3.congr (fd_wI_row (by omega)) (fun j => fd_wI_row (by omega))) (by omega)
    obtain ⟨g', z1, z2⟩ := C_fac_6 ht hF hC hS hk hl hN y s B p0 p1 k (j + 1) g3 (by omega) (K2.trans (r2.monoQ QY_SC))
    have fb : 0 ≤ fitF cp cm hm pm fc kd n b R p (j : Nat) ∧ fitF cp cm hm pm fc kd n b R p (j : Nat) ≤ 1 := b2_le _
    have r1' : mm_M mm_T0 (d + 6) 27 [.ref 204, .ref t] (wI g1 (205 + 1) p.toNat (iI (j : Nat))) = some (some (.int (iI (fitF cp cm hm pm fc kd n b R p (j : Nat)))), g3) := r1
    have e1 : ((j : Nat) : Int) + 1 = ((j + 1 : Nat) : Int) := by omega
    have l := setN_lt (f := fitF cp cm hm pm fc kd n b R p) j
    refine ⟨g', ?_, z2⟩
    rw [← z1, U_X0_possibleFaces_6 ht isS_13]
    by_cases c : fitF cp cm hm pm fc kd n b R p (j : Nat) = 1
    · rw [c] at r1'
      rw [setN_s1 c, ← or_tab (by omega) l]
      simp (disch := omega) only [show (0 : Int32) = iI 0 from rfl, show (1 : Int32) = iI 1 from rfl, show (9 : Int32) = iI 9 from rfl, show (31 : Int32) = iI 31 from rfl, iI_lt, iI_eq, if_neg, m1, mm_bV_some, mm_bI_some, st, r1', iI_add, e1]
    · have c0 : fitF cp cm hm pm fc kd n b R p (j : Nat) = 0 := by omega
      rw [c0] at r1'
      rw [setN_s0 c]
      simp (disch := omega) only [iI_lit, jI_lit, iI_neg, jI_neg, iI_add, iI_sub, iI_mul, jI_add, jI_sub, jI_mul, rdI, rdL, iI_lt, iI_le, iI_eq, iI_nat, iI_b2_0, iI_b2_1, mm_bI_some, mm_bV_some, mm_bL_some, mm_bA_some, fd_wL, fd_wR, fl_wI, fl_wR, re_wI, re_wL, re_wC, ite_true, ite_false, not_true_eq_false, not_false_eq_true, lq_ge, lq_le, lq_gt, lq_lt, lq_eq, jI_lt, jI_le, jI_eq, if_pos, if_neg, m1, st, r1', e1, or0]
/-! the reference's ways -/
/-- ways laid for all v below j -/
def Wys (g : mm_H) (F : Int → Int) (V : Int → Nat → Int) (j : Nat) : Prop := (∀ v, v < j → fd g 305 v = F (v : Nat)) ∧ (∀ v, v < j → ∀ y, y < 31 → fd g 304 (31 * v + y) = V (v : Nat) y) ∧ fd g 264 71 = sumF F 0 j
theorem Wys.kf {g g' : mm_H} {F : Int → Int} {V : Int → Nat → Int} {j : Nat} {Q L : Nat → Nat → Prop} (w : Wys g F V j) (k : Kf Q L g g') (q : ∀ a z, (a = 304 ∨ a = 305 ∨ (a = 264 ∧ z = 71)) → ¬ Q a z) : Wys g' F V j := ⟨fun v hv => (k.1 _ _ (q _ _ (by omega))).trans (w.1 v hv), fun v hv y hy => (k.1 _ _ (q _ _ (by omega))).trans (w.2.1 v hv y hy), (k.1 _ _ (q _ _ (by omega))).trans w.2.2⟩
theorem Wys.st {g g' : mm_H} {F : Int → Int} {V : Int → Nat → Int} {j : Nat} (w : Wys g F V j) (a1 : fd g' 305 j = F (j : Nat)) (a2 : ∀ z, z ≠ j → fd g' 305 z = fd g 305 z) (a3 : ∀ z : Nat, fd g' 304 z = if 31 * (j : Nat) + 0 ≤ (z : Int) ∧ (z : Int) < 31 * (j : Nat) + 31 then V (j : Nat) ((z : Int) - 31 * (j : Nat) - 0).toNat else fd g 304 z) (a4 : fd g' 264 71 = fd g 264 71 + F (j : Nat)) : Wys g' F V (j + 1) := by
  refine ⟨fun v hv => ?_, fun v hv y hy => ?_, ?_⟩
  · by_cases c : v = j
    · rw [c]; exact a1
    · rw [a2 v c]; exact w.1 v (by omega)
  · rw [a3]
    by_cases c : v = j
    · subst c
      rw [if_pos (by omega), show (((31 * v + y : Nat) : Int) - 31 * (v : Nat) - 0).toNat = y by omega]
    · rw [if_neg (by omega)]
      exact w.2.1 v (by omega) y hy
  · rw [a4, sumF_snoc, Int.zero_add, w.2.2]
set_option maxHeartbeats 8000000 in
theorem R_fitSet_4 {F : Int → Int} (hF : ∀ k, 0 ≤ F k ∧ F k ≤ 1) (w : ∀ v, v < 10 → fd h 305 v = F (v : Nat)) : ∀ (k j : Nat), j + k = 10 → mm_D (mm_M mm_T0 d) cd_X12_fitSet 4 [.ref 264, .int (iI ((setN F j : Nat) : Int)), .int (iI (j : Nat))] [] h = some (some (.int (iI ((setN F 10 : Nat) : Int))), h)
  | 0, j, jk => by
    have e : j = 10 := by omega
    subst e
    rw [U_X12_fitSet_4]
    simp (disch := omega) only [iI_lit, jI_lit, iI_neg, jI_neg, iI_add, iI_sub, iI_mul, jI_add, jI_sub, jI_mul, rdI, rdL, iI_lt, iI_le, iI_eq, iI_nat, iI_b2_0, iI_b2_1, mm_bI_some, mm_bV_some, mm_bL_some, mm_bA_some, fd_wL, fd_wR, fl_wI, fl_wR, re_wI, re_wL, re_wC, ite_true, ite_false, not_true_eq_false, not_false_eq_true, lq_ge, lq_le, lq_gt, lq_lt, lq_eq, jI_lt, jI_le, jI_eq, if_pos, if_neg]
  | k + 1, j, jk => by
    have v := w j (by omega)
    have fb := hF (j : Nat)
    have e1 : ((j : Nat) : Int) + 1 = ((j + 1 : Nat) : Int) := by omega
    have en : ((j : Nat) : Int).toNat = j := by omega
    have l := setN_lt (f := F) j
    rw [← R_fitSet_4 hF w k (j + 1) (by omega), U_X12_fitSet_4]
    by_cases c : F (j : Nat) = 1
    · rw [setN_s1 c, ← or_tab (by omega) l]
      simp (disch := omega) only [rdI, show (0 : Int32) = iI 0 from rfl, show (1 : Int32) = iI 1 from rfl, show (10 : Int32) = iI 10 from rfl, show (31 : Int32) = iI 31 from rfl, iI_le, iI_lt, iI_eq, iI_nat, en, v, c, if_neg, iI_add, e1]
    · have c0 : F (j : Nat) = 0 := by omega
      rw [setN_s0 c]
      simp (disch := omega) only [iI_lit, jI_lit, iI_neg, jI_neg, iI_add, iI_sub, iI_mul, jI_add, jI_sub, jI_mul, rdI, rdL, iI_lt, iI_le, iI_eq, iI_nat, iI_b2_0, iI_b2_1, mm_bI_some, mm_bV_some, mm_bL_some, mm_bA_some, fd_wL, fd_wR, fl_wI, fl_wR, re_wI, re_wL, re_wC, ite_true, ite_false, not_true_eq_false, not_false_eq_true, lq_ge, lq_le, lq_gt, lq_lt, lq_eq, jI_lt, jI_le, jI_eq, if_pos, if_neg, en, v, c0, e1]
set_option maxHeartbeats 8000000 in
theorem R_fitSet {F : Int → Int} (hF : ∀ k, 0 ≤ F k ∧ F k ≤ 1) (w : ∀ v, v < 10 → fd h 305 v = F (v : Nat)) : mm_M mm_T0 (d + 1) 270 [.ref 264] h = some (some (.int (iI ((setN F 10 : Nat) : Int))), h) := by
  rw [U_X12_fitSet]
  exact R_fitSet_4 hF w 10 0 (by omega)
def wayT (cp cm : List Int) (hm pm : Int) (fc kd n : Int → Int) (p q : Int) (v : Int) (y : Nat) : Int := (yearsS cp cm hm pm fc kd y (up n (25 + 8 * p + q) v)).1 (2 + 3 * q)
def wayF (cp cm : List Int) (hm pm : Int) (fc kd n : Int → Int) (p : Int) (v : Int) (y : Nat) : Int := (yearsS cp cm hm pm (up fc p v) kd y n).1 (2 + 3 * p)
set_option maxHeartbeats 8000000 in
theorem R_tho_11 {w : Nat} {p q : Int} {h : mm_H} (hF : FK pm fc kd) (B : SeB b R pm) (h0 : RepR h n) (h65 : fd h 264 65 < 62000000) (hN : NI pm hm n) (y : 0 ≤ n 0 ∧ n 0 ≤ 999) (p0 : 0 ≤ p) (p1 : p < pm) (q0 : 0 ≤ q) (q1 : q < pm) : ∀ (k j : Nat) (B' : Int) (g : mm_H), j + k = 10 → (0 ≤ B' ∧ B' + 558 * k ≤ 5580) → SeR g b R → TR (EF w) h g B' → RT g pm hm fc kd cp cm cf → RepR g n → Wys g (fitT cp cm hm pm fc kd n b R p q) (wayT cp cm hm pm fc kd n p q) j → ∃ g', mm_D (mm_M mm_T0 (d + 7)) cd_X12_laysThoughts 11 [.ref 264, .int (iI p), .int (iI q), .int (iI (j : Nat))] [] g = some (none, g') ∧ Kf (QTb (EF w)) LE3 h g' ∧ fd g' 264 64 = 0 ∧ (0 ≤ fd g' 264 65 ∧ fd g' 264 65 ≤ fd h 264 65 + 5580) ∧ Wys g' (fitT cp cm hm pm fc kd n b R p q) (wayT cp cm hm pm fc kd n p q) 10
  | 0, j, B', g, jk, hB, s, T, hT, hr, W => by
    have e : j = 10 := by omega
    subst e
    obtain ⟨g', m1, m2, m3, m4, m5⟩ := T.back (d := d + 5)
    refine ⟨g', ?_, m2, m3, by omega, W.kf m5 (by intro a z; omega)⟩
    rw [U_X12_laysThoughts_11]
    simp (disch := omega) only [iI_lit, jI_lit, iI_neg, jI_neg, iI_add, iI_sub, iI_mul, jI_add, jI_sub, jI_mul, rdI, rdL, iI_lt, iI_le, iI_eq, iI_nat, iI_b2_0, iI_b2_1, mm_bI_some, mm_bV_some, mm_bL_some, mm_bA_some, fd_wL, fd_wR, fl_wI, fl_wR, re_wI, re_wL, re_wC, ite_true, ite_false, not_true_eq_false, not_false_eq_true, lq_ge, lq_le, lq_gt, lq_lt, lq_eq, jI_lt, jI_le, jI_eq, if_pos, if_neg, m1]
  | k + 1, j, B', g, jk, hB, s, T, hT, hr, W => by
    have h8 := hN.1
    have kw : Kf (fun a k => a = 300 ∧ k < 89) nL g (wI g 300 (25 + 8 * p + q).toNat (iI (j : Nat))) := Kf.refl.wI (by omega)
    have n2 := NI_thought (p := p) (q := q) (v := (j : Nat)) hN (by omega) (by omega) p0 p1 q0 q1
    have W1 := W.kf kw (by intro a z; omega)
    have s71 := W1.2.2
    have sb := sumF_le (f := fitT cp cm hm pm fc kd n b R p q) (m := 1) (k := j) (p := 0) (fun j _ _ => b2_le _)
    obtain ⟨g1, r1, r2, r3, r4, r5, r6, r7, r8⟩ := R_way_5 (d := d) (w := w) (v := (j : Nat)) (p := q) B hF h0 h65 (by omega) (by omega) q0 q1 31 0 B' true (wI g 300 (25 + 8 * p + q).toNat (iI (j : Nat))) (up n (25 + 8 * p + q) (j : Nat)) (by omega) (by omega) (by omega) (s.kf kw (by intro j; omega) (by omega)) (T.st kw) (hT.kf2 kw (by intro a j; unfold NR; omega)) (hr.w (by omega) (by omega) (by omega)) n2 (by rw [up_ne (by omega)]; omega) (by omega)
    rw [Bool.true_and] at r5 r6
    rw [show (((j : Nat) : Int)).toNat = j by omega] at r5
    have W2 : Wys g1 (fitT cp cm hm pm fc kd n b R p q) (wayT cp cm hm pm fc kd n p q) (j + 1) := W1.st r5.1 r5.2 r7 r6
    obtain ⟨g', z1, z2⟩ := R_tho_11 hF B h0 h65 hN y p0 p1 q0 q1 k (j + 1) (B' + 18 * 31) g1 (by omega) (by omega) ((s.kf kw (by intro j; omega) (by omega)).kf r8 (by intro j; omega) (by unfold QS; omega)) r2 r3 r4 W2
    have e1 : ((j : Nat) : Int) + 1 = ((j + 1 : Nat) : Int) := by omega
    have r1' : mm_M mm_T0 (d + 7) 268 [.ref 264, .int (iI (j : Nat)), .int (iI q)] (wI g 300 (25 + 8 * p + q).toNat (iI (j : Nat))) = some (none, g1) := by
      rw [U_X12_laysWay, show (1 : Int32) = iI (b2 (true = true)) from rfl, show (0 : Int32) = iI 0 from rfl]
      exact r1
    refine ⟨g', ?_, z2⟩
    rw [← z1, U_X12_laysThoughts_11]
    simp (disch := omega) only [iI_lit, jI_lit, iI_neg, jI_neg, iI_add, iI_sub, iI_mul, jI_add, jI_sub, jI_mul, rdI, rdL, iI_lt, iI_le, iI_eq, iI_nat, iI_b2_0, iI_b2_1, mm_bI_some, mm_bV_some, mm_bL_some, mm_bA_some, fd_wL, fd_wR, fl_wI, fl_wR, re_wI, re_wL, re_wC, ite_true, ite_false, not_true_eq_false, not_false_eq_true, lq_ge, lq_le, lq_gt, lq_lt, lq_eq, jI_lt, jI_le, jI_eq, if_pos, if_neg, r1', e1]
theorem RT.face {p u v : Int} {g : mm_H} (hT : RT g pm hm (up fc p u) kd cp cm cf) (p0 : 0 ≤ p) (v0 : 0 ≤ v) (v1 : v ≤ 9) : RT (wI g 294 (8 + p).toNat (iI v)) pm hm (up fc p v) kd cp cm cf := by
  have k2 : Kf (fun a k => a = 294 ∧ k = (8 + p).toNat) nL g (wI g 294 (8 + p).toNat (iI v)) := Kf.refl.wI ⟨rfl, rfl⟩
  refine ⟨(k2.1 _ _ (by omega)).trans hT.1, (k2.1 _ _ (by omega)).trans hT.2.1, fun x q0 q1 => ?_, hT.2.2.2.1.kf k2 (by intro a j; omega), hT.2.2.2.2.1.kf k2 (by intro a j; omega), hT.2.2.2.2.2.kf k2 (by intro a j; omega)⟩
  have := hT.2.2.1 x q0 q1
  refine ⟨?_, (k2.1 295 _ (by omega)).trans this.2⟩
  by_cases c : x = p
  · rw [c, up_same]
    exact fd_wI_same (by omega) (by omega)
  · rw [up_ne c] at this ⊢
    exact (k2.1 294 _ (by omega)).trans this.1
set_option maxHeartbeats 8000000 in
theorem R_fac_28 {p : Int} {h : mm_H} (hF : FK pm fc kd) (B : SeB b R pm) (h0 : RepR h n) (h65 : fd h 264 65 < 62000000) (hN : NI pm hm n) (y : 0 ≤ n 0 ∧ n 0 ≤ 999) (p0 : 0 ≤ p) (p1 : p < pm) (hf : fcR h p = fc p) : ∀ (k j : Nat) (B' u : Int) (g : mm_H), j + k = 10 → (0 ≤ B' ∧ B' + 558 * k ≤ 5580) → SeR g b R → TR (EF ((8 + p).toNat + 1)) h g B' → RT g pm hm (up fc p u) kd cp cm cf → RepR g n → Wys g (fitF cp cm hm pm fc kd n b R p) (wayF cp cm hm pm fc kd n p) j → ∃ g', mm_D (mm_M mm_T0 (d + 7)) cd_X12_faces 28 [.ref 264, .int (iI p), .int (iI (fc p)), .int (iI (j : Nat))] [] g = some (some (.int (iI ((setN (fitF cp cm hm pm fc kd n b R p) 10 : Nat) : Int))), g') ∧ Kf (QTb (EF ((8 + p).toNat + 1))) LE3 h g' ∧ fd g' 264 64 = 0 ∧ (0 ≤ fd g' 264 65 ∧ fd g' 264 65 ≤ fd h 264 65 + 5580) ∧ fcR g' p = fcR h p
  | 0, j, B', u, g, jk, hB, s, T, hT, hr, W => by
    have e : j = 10 := by omega
    subst e
    have h8 := hN.1
    have bf := (hF p p0 p1).1
    have kw : Kf (fun a k => a = 294 ∧ k = (8 + p).toNat) nL g (wI g 294 (8 + p).toNat (iI (fc p))) := Kf.refl.wI ⟨rfl, rfl⟩
    obtain ⟨g', m1, m2, m3, m4, m5⟩ := (T.ext kw (by intro a k q; unfold EF; omega)).back (d := d + 5)
    have W2 := (W.kf kw (by intro a z; omega)).kf m5 (by intro a z; omega)
    have fs := R_fitSet (d := d + 6) (h := g') (F := fitF cp cm hm pm fc kd n b R p) (fun k => b2_le _) W2.1
    refine ⟨g', ?_, m2, m3, by omega, ?_⟩
    · rw [U_X12_faces_28]
      simp (disch := omega) only [iI_lit, jI_lit, iI_neg, jI_neg, iI_add, iI_sub, iI_mul, jI_add, jI_sub, jI_mul, rdI, rdL, iI_lt, iI_le, iI_eq, iI_nat, iI_b2_0, iI_b2_1, mm_bI_some, mm_bV_some, mm_bL_some, mm_bA_some, fd_wL, fd_wR, fl_wI, fl_wR, re_wI, re_wL, re_wC, ite_true, ite_false, not_true_eq_false, not_false_eq_true, lq_ge, lq_le, lq_gt, lq_lt, lq_eq, jI_lt, jI_le, jI_eq, if_pos, if_neg, m1, fs]
    · rw [hf]
      show fd g' 294 _ = _
      rw [m5.1 _ _ (by omega), fd_wI_same (by omega) (by omega)]
  | k + 1, j, B', u, g, jk, hB, s, T, hT, hr, W => by
    have h8 := hN.1
    have kw : Kf (fun a k => a = 294 ∧ k = (8 + p).toNat) nL g (wI g 294 (8 + p).toNat (iI (j : Nat))) := Kf.refl.wI ⟨rfl, rfl⟩
    have W1 := W.kf kw (by intro a z; omega)
    have s71 := W1.2.2
    have sb := sumF_le (f := fitF cp cm hm pm fc kd n b R p) (m := 1) (k := j) (p := 0) (fun j _ _ => b2_le _)
    obtain ⟨g1, r1, r2, r3, r4, r5, r6, r7, r8⟩ := R_way_5 (d := d) (w := (8 + p).toNat + 1) (v := (j : Nat)) (p := p) B (FK_face (p := p) (v := (j : Nat)) hF (by omega) (by omega)) h0 h65 (by omega) (by omega) p0 p1 31 0 B' true (wI g 294 (8 + p).toNat (iI (j : Nat))) n (by omega) (by omega) (by omega) (s.kf kw (by intro j; omega) (by omega)) (T.ext kw (by intro a k q; unfold EF; omega)) (hT.face p0 (by omega) (by omega)) (hr.kf kw (by intro j hj; omega)) hN (by omega) (by omega)
    rw [Bool.true_and] at r5 r6
    rw [show (((j : Nat) : Int)).toNat = j by omega] at r5
    have W2 : Wys g1 (fitF cp cm hm pm fc kd n b R p) (wayF cp cm hm pm fc kd n p) (j + 1) := W1.st r5.1 r5.2 r7 r6
    obtain ⟨g', z1, z2⟩ := R_fac_28 hF B h0 h65 hN y p0 p1 hf k (j + 1) (B' + 18 * 31) (j : Nat) g1 (by omega) (by omega) ((s.kf kw (by intro j; omega) (by omega)).kf r8 (by intro j; omega) (by unfold QS; omega)) r2 r3 r4 W2
    have e1 : ((j : Nat) : Int) + 1 = ((j + 1 : Nat) : Int) := by omega
    have r1' : mm_M mm_T0 (d + 7) 268 [.ref 264, .int (iI (j : Nat)), .int (iI p)] (wI g 294 (8 + p).toNat (iI (j : Nat))) = some (none, g1) := by
      rw [U_X12_laysWay, show (1 : Int32) = iI (b2 (true = true)) from rfl, show (0 : Int32) = iI 0 from rfl]
      exact r1
    refine ⟨g', ?_, z2⟩
    rw [← z1, U_X12_faces_28]
    simp (disch := omega) only [iI_lit, jI_lit, iI_neg, jI_neg, iI_add, iI_sub, iI_mul, jI_add, jI_sub, jI_mul, rdI, rdL, iI_lt, iI_le, iI_eq, iI_nat, iI_b2_0, iI_b2_1, mm_bI_some, mm_bV_some, mm_bL_some, mm_bA_some, fd_wL, fd_wR, fl_wI, fl_wR, re_wI, re_wL, re_wC, ite_true, ite_false, not_true_eq_false, not_false_eq_true, lq_ge, lq_le, lq_gt, lq_lt, lq_eq, jI_lt, jI_le, jI_eq, if_pos, if_neg, r1', e1]
theorem IvS.toC (S : IvS h pm) : SeC h (fun z => fd h 303 z) (fd h 264 67).toNat := by
  obtain ⟨a1, a2, a3, a4⟩ := S
  exact ⟨by omega, fun z hz => a3 z (by omega)⟩
theorem IvS.toR (S : IvS h pm) : SeR h (fun z => fd h 303 z) (fd h 264 67).toNat := by
  obtain ⟨a1, a2, a3, a4⟩ := S
  exact ⟨by omega, fun z hz => rfl⟩
theorem IvS.toB (S : IvS h pm) : SeB (fun z => fd h 303 z) (fd h 264 67).toNat pm := by
  obtain ⟨a1, a2, a3, a4⟩ := S
  exact ⟨by omega, fun r hr => a4 r (by omega)⟩
end THO
section THOK
variable {a b c : Int}
set_option maxHeartbeats 8000000 in
theorem K_thoughts (al : -2147483648 ≤ a) (au : a < 2147483648) (bl : -2147483648 ≤ b) (bu : b < 2147483648) : CallI 168 271 [.int (iI a), .int (iI b)] := by
  intro d h i I hi
  have I0 := I
  obtain ⟨t, st, pm, hm, fc, kd, cp, cm, cf, n, ev, past, M, W, H, S, P, N⟩ := I
  have W0 := W
  obtain ⟨w1, w2, w3, w4, w5, w6, w7, w8, w9, w10, w11, w12, w13⟩ := W
  have tt := isT_or w1.1
  have h8 := w5.1
  have e40 : fd h 264 40 = pm := w3.1
  have e10 : fd h 13 10 = pm := w8.1
  by_cases c0 : (0 ≤ a ∧ a < pm) ∧ (0 ≤ b ∧ b < pm) ∧ a ≠ b
  · have st1 : st = 1 := by have := w2.1; have := w2.2.2.2.1; omega
    obtain ⟨h1, q1, q2⟩ := C_tho_6 (d := d + 32) (p := a) (q := b) w1.1 w6 (w2.2.2.2.2 st1) w8 w10.1 (by omega) w5 w7 S.toC S.toB c0.1.1 c0.1.2 c0.2.1.1 c0.2.1.2 c0.2.2 10 0 h (by omega) Kf.refl
    have T1 : RT h1 pm hm fc kd cp cm cf := w3.kf2 q2 (by intro a j; unfold NR SC; omega)
    have R1 : RepR h1 n := w4.kf q2 (by intro j hj; unfold SC; omega)
    have f65 : fd h1 264 65 = fd h 264 65 := q2.1 _ _ (by unfold SC; omega)
    obtain ⟨r1, r2, r3, r4, r5, r6⟩ := TR.begin (d := d + 37) (E := EF 0) (h := h1) (by omega) T1 R1
    have kw : Kf (fun a k => a = 264 ∧ k = 71) nL r1 (wI r1 264 71 (iI 0)) := Kf.refl.wI ⟨rfl, rfl⟩
    have sR := ((S.toR.kf q2 (by intro j; unfold SC; omega) (by unfold SC; omega)).kf r6 (by intro j; omega) (by omega)).kf kw (by intro j; omega) (by omega)
    obtain ⟨g, u1, u2, u3, u4, u5⟩ := R_tho_11 (d := d + 31) (w := 0) (p := a) (q := b) w6 S.toB R1 (by omega) w5 w7 c0.1.1 c0.1.2 c0.2.1.1 c0.2.1.2 10 0 0 (wI r1 264 71 (iI 0)) (by omega) (by omega) sR (r3.ext kw (by intro a k q; unfold EF; omega)) (r4.kf2 kw (by intro a j; unfold NR; omega)) (r5.kf kw (by intro j hj; omega)) ⟨fun v hv => by omega, fun v hv => by omega, by rw [fd_wI_same (by omega) (by omega)]; rfl⟩
    have fs := R_fitSet (d := d + 38) (h := g) (F := fitT cp cm hm pm fc kd n (fun z => fd h 303 z) (fd h 264 67).toNat a b) (fun k => b2_le _) u5.1
    refine ⟨iI ((setN (fitT cp cm hm pm fc kd n (fun z => fd h 303 z) (fd h 264 67).toNat a b) 10 : Nat) : Int), h1, g, ?_, ?_, Inv.of M W0 H S P N (Kf.trans (q2.mono (fun a k q => by unfold SC at q; unfold Scr; omega) (fun a k q => q.elim)) ⟨fun a k q => ?_, u2.2.1, u2.2.2⟩) u3 (by omega) hi⟩
    · have rt := w1.2.1
      rw [show ((setN (fitT cp cm hm pm fc kd n (fun z => fd h 303 z) (fd h 264 67).toNat a b) 0 : Nat) : Int) = 0 from rfl, show ((0 : Nat) : Int) = 0 from rfl] at q1
      rw [U_X11_thoughts]
      simp (disch := omega) only [iI_lit, jI_lit, iI_neg, jI_neg, iI_add, iI_sub, iI_mul, jI_add, jI_sub, jI_mul, rdI, rdL, iI_lt, iI_le, iI_eq, iI_nat, iI_b2_0, iI_b2_1, mm_bI_some, mm_bV_some, mm_bL_some, mm_bA_some, fd_wL, fd_wR, fl_wI, fl_wR, re_wI, re_wL, re_wC, ite_true, ite_false, not_true_eq_false, not_false_eq_true, lq_ge, lq_le, lq_gt, lq_lt, lq_eq, jI_lt, jI_le, jI_eq, if_pos, if_neg, S_arePair isS_13, e10, rt, U_X0_possibleThoughts w1.1 isS_13, q1]
    · have f40 : fd h1 264 40 = pm := T1.1
      rw [show ((0 : Nat) : Int) = 0 from rfl] at u1
      rw [U_X12_thoughts]
      simp (disch := omega) only [iI_lit, jI_lit, iI_neg, jI_neg, iI_add, iI_sub, iI_mul, jI_add, jI_sub, jI_mul, rdI, rdL, iI_lt, iI_le, iI_eq, iI_nat, iI_b2_0, iI_b2_1, mm_bI_some, mm_bV_some, mm_bL_some, mm_bA_some, fd_wL, fd_wR, fl_wI, fl_wR, re_wI, re_wL, re_wC, ite_true, ite_false, not_true_eq_false, not_false_eq_true, lq_ge, lq_le, lq_gt, lq_lt, lq_eq, jI_lt, jI_le, jI_eq, if_pos, if_neg, R_areTwo, f40, U_X12_laysThoughts, r2, u1, fs]
    · exact u2.1 a k (by unfold QTb EF; unfold Scr at q; omega)
  · refine ⟨iI (-1), h, h, ?_, ?_, I0.next hi⟩
    · rw [U_X11_thoughts]
      simp (disch := omega) only [iI_lit, jI_lit, iI_neg, jI_neg, iI_add, iI_sub, iI_mul, jI_add, jI_sub, jI_mul, rdI, rdL, iI_lt, iI_le, iI_eq, iI_nat, iI_b2_0, iI_b2_1, mm_bI_some, mm_bV_some, mm_bL_some, mm_bA_some, fd_wL, fd_wR, fl_wI, fl_wR, re_wI, re_wL, re_wC, ite_true, ite_false, not_true_eq_false, not_false_eq_true, lq_ge, lq_le, lq_gt, lq_lt, lq_eq, jI_lt, jI_le, jI_eq, if_pos, if_neg, S_arePair isS_13, e10]
    · rw [U_X12_thoughts]
      simp (disch := omega) only [iI_lit, jI_lit, iI_neg, jI_neg, iI_add, iI_sub, iI_mul, jI_add, jI_sub, jI_mul, rdI, rdL, iI_lt, iI_le, iI_eq, iI_nat, iI_b2_0, iI_b2_1, mm_bI_some, mm_bV_some, mm_bL_some, mm_bA_some, fd_wL, fd_wR, fl_wI, fl_wR, re_wI, re_wL, re_wC, ite_true, ite_false, not_true_eq_false, not_false_eq_true, lq_ge, lq_le, lq_gt, lq_lt, lq_eq, jI_lt, jI_le, jI_eq, if_pos, if_neg, R_areTwo, e40]
set_option maxHeartbeats 8000000 in
theorem K_faces (al : -2147483648 ≤ a) (au : a < 2147483648) : CallI 169 272 [.int (iI a)] := by
  intro d h i I hi
  have I0 := I
  obtain ⟨t, st, pm, hm, fc, kd, cp, cm, cf, n, ev, past, M, W, H, S, P, N⟩ := I
  have W0 := W
  obtain ⟨w1, w2, w3, w4, w5, w6, w7, w8, w9, w10, w11, w12, w13⟩ := W
  have tt := isT_or w1.1
  have h8 := w5.1
  have e40 : fd h 264 40 = pm := w3.1
  have e10 : fd h 13 10 = pm := w8.1
  by_cases c0 : 0 ≤ a ∧ a < pm
  · have st1 : st = 1 := by have := w2.1; have := w2.2.2.2.1; omega
    obtain ⟨h1, q1, q2⟩ := C_fac_6 (d := d + 32) (p := a) w1.1 w6 (w2.2.2.2.2 st1) w8 w10.1 (by omega) w5 w7 S.toC S.toB c0.1 c0.2 10 0 h (by omega) Kf.refl
    have T1 : RT h1 pm hm fc kd cp cm cf := w3.kf2 q2 (by intro a j; unfold NR SC; omega)
    have R1 : RepR h1 n := w4.kf q2 (by intro j hj; unfold SC; omega)
    have f65 : fd h1 264 65 = fd h 264 65 := q2.1 _ _ (by unfold SC; omega)
    have ef : up fc a (fc a) = fc := by
      funext z
      by_cases c : z = a
      · rw [c, up_same]
      · rw [up_ne c]
    obtain ⟨r1, r2, r3, r4, r5, r6⟩ := TR.begin (d := d + 38) (E := EF ((8 + a).toNat + 1)) (h := h1) (by omega) T1 R1
    have kw : Kf (fun a k => a = 264 ∧ k = 71) nL r1 (wI r1 264 71 (iI 0)) := Kf.refl.wI ⟨rfl, rfl⟩
    have sR := ((S.toR.kf q2 (by intro j; unfold SC; omega) (by unfold SC; omega)).kf r6 (by intro j; omega) (by omega)).kf kw (by intro j; omega) (by omega)
    have r4' : RT (wI r1 264 71 (iI 0)) pm hm (up fc a (fc a)) kd cp cm cf := by
      rw [ef]
      exact r4.kf2 kw (by intro a j; unfold NR; omega)
    have hf := (T1.2.2.1 a c0.1 c0.2).1
    obtain ⟨g, u1, u2, u3, u4, u5⟩ := R_fac_28 (d := d + 32) (p := a) w6 S.toB R1 (by omega) w5 w7 c0.1 c0.2 hf 10 0 0 (fc a) (wI r1 264 71 (iI 0)) (by omega) (by omega) sR (r3.ext kw (by intro a k q; unfold EF; omega)) r4' (r5.kf kw (by intro j hj; omega)) ⟨fun v hv => by omega, fun v hv => by omega, by rw [fd_wI_same (by omega) (by omega)]; rfl⟩
    refine ⟨iI ((setN (fitF cp cm hm pm fc kd n (fun z => fd h 303 z) (fd h 264 67).toNat a) 10 : Nat) : Int), h1, g, ?_, ?_, Inv.of M W0 H S P N (Kf.trans (q2.mono (fun a k q => by unfold SC at q; unfold Scr; omega) (fun a k q => q.elim)) ⟨fun x k q => ?_, u2.2.1, u2.2.2⟩) u3 (by omega) hi⟩
    · have rt := w1.2.1
      rw [show ((setN (fitF cp cm hm pm fc kd n (fun z => fd h 303 z) (fd h 264 67).toNat a) 0 : Nat) : Int) = 0 from rfl, show ((0 : Nat) : Int) = 0 from rfl] at q1
      rw [U_X11_faces]
      simp (disch := omega) only [iI_lit, jI_lit, iI_neg, jI_neg, iI_add, iI_sub, iI_mul, jI_add, jI_sub, jI_mul, rdI, rdL, iI_lt, iI_le, iI_eq, iI_nat, iI_b2_0, iI_b2_1, mm_bI_some, mm_bV_some, mm_bL_some, mm_bA_some, fd_wL, fd_wR, fl_wI, fl_wR, re_wI, re_wL, re_wC, ite_true, ite_false, not_true_eq_false, not_false_eq_true, lq_ge, lq_le, lq_gt, lq_lt, lq_eq, jI_lt, jI_le, jI_eq, if_pos, if_neg, S_isPerson isS_13, e10, rt, U_X0_possibleFaces w1.1 isS_13, q1]
    · have f40 : fd h1 264 40 = pm := T1.1
      rw [show ((0 : Nat) : Int) = 0 from rfl] at u1
      rw [U_X12_faces, iI_jI al au]
      simp (disch := omega) only [iI_lit, jI_lit, iI_neg, jI_neg, iI_add, iI_sub, iI_mul, jI_add, jI_sub, jI_mul, rdI, rdL, iI_lt, iI_le, iI_eq, iI_nat, iI_b2_0, iI_b2_1, mm_bI_some, mm_bV_some, mm_bL_some, mm_bA_some, fd_wL, fd_wR, fl_wI, fl_wR, re_wI, re_wL, re_wC, ite_true, ite_false, not_true_eq_false, not_false_eq_true, lq_ge, lq_le, lq_gt, lq_lt, lq_eq, jI_lt, jI_le, jI_eq, if_pos, if_neg, R_isPerson, f40, R_faceOf, hf, r2, u1]
    · by_cases z : x = 294 ∧ k = (8 + a).toNat
      · rw [z.1, z.2]
        exact u5
      · exact u2.1 x k (by unfold QTb EF; unfold Scr at q; omega)
  · refine ⟨iI (-1), h, h, ?_, ?_, I0.next hi⟩
    · rw [U_X11_faces]
      simp (disch := omega) only [iI_lit, jI_lit, iI_neg, jI_neg, iI_add, iI_sub, iI_mul, jI_add, jI_sub, jI_mul, rdI, rdL, iI_lt, iI_le, iI_eq, iI_nat, iI_b2_0, iI_b2_1, mm_bI_some, mm_bV_some, mm_bL_some, mm_bA_some, fd_wL, fd_wR, fl_wI, fl_wR, re_wI, re_wL, re_wC, ite_true, ite_false, not_true_eq_false, not_false_eq_true, lq_ge, lq_le, lq_gt, lq_lt, lq_eq, jI_lt, jI_le, jI_eq, if_pos, if_neg, S_isPerson isS_13, e10]
    · rw [U_X12_faces, iI_jI al au]
      simp (disch := omega) only [iI_lit, jI_lit, iI_neg, jI_neg, iI_add, iI_sub, iI_mul, jI_add, jI_sub, jI_mul, rdI, rdL, iI_lt, iI_le, iI_eq, iI_nat, iI_b2_0, iI_b2_1, mm_bI_some, mm_bV_some, mm_bL_some, mm_bA_some, fd_wL, fd_wR, fl_wI, fl_wR, re_wI, re_wL, re_wC, ite_true, ite_false, not_true_eq_false, not_false_eq_true, lq_ge, lq_le, lq_gt, lq_lt, lq_eq, jI_lt, jI_le, jI_eq, if_pos, if_neg, R_isPerson, e40]
end THOK
