/-! whole codes: the loops of both -/
/-- the codes of a rule in the reference's row, from k on -/
def CdR (h : mm_H) : Int → List Int → Prop
  | _, [] => True
  | k, c :: r => fd h 299 (1600 + k).toNat = c ∧ CdR h (k + 1) r
theorem CdR.congr {h h' : mm_H} (e : ∀ k, fd h' 299 k = fd h 299 k) : ∀ {c : List Int} {k : Int}, CdR h k c → CdR h' k c
  | [], _, _ => trivial
  | _ :: _, _, p => ⟨(e _).trans p.1, CdR.congr e p.2⟩
def GR (h : mm_H) : Int → Int := fun k => if k = 0 then fd h 264 57 else if k = 1 then fd h 264 58 else if k = 2 then fd h 264 59 else if k = 3 then fd h 300 0 else if k = 4 then fd h 264 60 else if k = 5 then fd h 264 61 else if k = 6 then fd h 264 62 else fd h 264 63
theorem GR_kf {h h' : mm_H} (k : Kf QE LE3 h h') : GR h' = GR h := by
  have e : ∀ j, j ≠ 108 → fd h' 264 j = fd h 264 j := fun j hj => k.1 264 j (by unfold QE; omega)
  have e0 : fd h' 300 0 = fd h 300 0 := k.1 300 0 (by unfold QE; omega)
  unfold GR
  rw [e 57 (by omega), e 58 (by omega), e 59 (by omega), e 60 (by omega), e 61 (by omega), e 62 (by omega), e 63 (by omega), e0]
theorem ty1_len {al : Int → Bool} {c : Int} {ts t : List Bool} (h : ty1 al c ts = some t) (h64 : ts.length ≤ 64) : t.length ≤ 64 := by
  rcases ty1_cases h with q | q | q | q | q | q | q
  · rw [q.2.2.2, List.length_cons]; omega
  · obtain ⟨_, _, _, r, e1, e2⟩ := q
    rw [e2]; rw [e1] at h64; exact h64
  · rw [q.2.2.2.2, List.length_cons]; omega
  · rw [q.2.2, List.length_cons]; omega
  · obtain ⟨_, r, e1, e2⟩ := q
    rw [e2]; rw [e1] at h64; exact h64
  · obtain ⟨_, r, e1, e2⟩ := q
    rw [e2]; rw [e1] at h64; simp only [List.length_cons] at *; omega
  · obtain ⟨_, _, r, e1, e2⟩ := q
    rw [e2]; rw [e1] at h64; simp only [List.length_cons] at *; omega
section EVL
variable {d : Nat}
theorem GR_lo (h : mm_H) (k : Int) : -2147483648 ≤ GR h k ∧ GR h k < 2147483648 := by
  unfold GR
  repeat' split
  all_goals exact ⟨fd_lo _ _ _, fd_hi _ _ _⟩
theorem R_part {h : mm_H} {w k : Int} (hw : fd h 264 54 = w) (w1 : 0 ≤ w) (w2 : w ≤ 2) (k1 : 0 ≤ k) (k2 : k ≤ 7) : mm_M mm_T0 (d + 1) 308 [.ref 264, .int (iI k), .int (iI 0)] h = some (some (.long (jI (GR h k))), h) := by
  have jd : k = 0 ∨ k = 1 ∨ k = 2 ∨ k = 3 ∨ k = 4 ∨ k = 5 ∨ k = 6 ∨ k = 7 := by omega
  have := fd_lo h 264 57; have := fd_hi h 264 57; have := fd_lo h 264 58; have := fd_hi h 264 58; have := fd_lo h 264 59; have := fd_hi h 264 59; have := fd_lo h 264 60; have := fd_hi h 264 60; have := fd_lo h 264 61; have := fd_hi h 264 61; have := fd_lo h 264 62; have := fd_hi h 264 62; have := fd_lo h 264 63; have := fd_hi h 264 63; have := fd_lo h 300 0; have := fd_hi h 300 0
  rw [U_X12_qPartOf]
  rcases jd with r | r | r | r | r | r | r | r <;> subst r <;> simp (disch := omega) only [iI_lit, jI_lit, iI_neg, jI_neg, iI_add, iI_sub, iI_mul, jI_add, jI_sub, jI_mul, rdI, rdL, iI_lt, iI_le, iI_eq, iI_nat, iI_b2_0, iI_b2_1, mm_bI_some, mm_bV_some, mm_bL_some, mm_bA_some, fd_wL, fd_wR, fl_wI, fl_wR, re_wI, re_wL, re_wC, ite_true, ite_false, not_true_eq_false, not_false_eq_true, lq_ge, lq_le, lq_gt, lq_lt, lq_eq, jI_lt, jI_le, jI_eq, if_pos, if_neg, hw, iI_jI, GR]
theorem R_tell_19 {w e : Int} (w1 : 0 ≤ w) (w2 : w ≤ 2) (he : e ≤ 1600) {al : Int → Bool} (hal : ∀ k, al k = true → 0 ≤ k ∧ k ≤ 7) {t : List Bool} : ∀ (c : List Int) (k : Int) (ts : List Bool) (st : List Int) (h : mm_H), CdR h k c → 0 ≤ k → k + c.length = e → fd h 298 (3 + w).toNat = e → fd h 264 54 = w → tyL al c ts = some t → ts.length ≤ 64 → Vt ts st → ER h st → (∀ j, al j = true → -1000000 ≤ GR h j ∧ GR h j ≤ 1000000) → ∃ h', mm_D (mm_M mm_T0 (d + 2)) cd_X12_codesTell 19 [.ref 264, .int (iI w), .int (iI k), .null] [] h = some (some (.long (jI (fl h' 334 0))), h') ∧ ER h' (ev (GR h) O0 c st) ∧ Kf QE LE3 h h' := by
  intro c
  induction c with
  | nil =>
    intro k ts st h _ k1 k2 h1 h2 _ _ _ hE _
    simp only [List.length_nil] at k2
    refine ⟨h, ?_, hE, Kf.refl⟩
    rw [U_X12_codesTell_19]
    simp (disch := omega) only [iI_lit, jI_lit, iI_neg, jI_neg, iI_add, iI_sub, iI_mul, jI_add, jI_sub, jI_mul, rdI, rdL, iI_lt, iI_le, iI_eq, iI_nat, iI_b2_0, iI_b2_1, mm_bI_some, mm_bV_some, mm_bL_some, mm_bA_some, fd_wL, fd_wR, fl_wI, fl_wR, re_wI, re_wL, re_wC, ite_true, ite_false, not_true_eq_false, not_false_eq_true, lq_ge, lq_le, lq_gt, lq_lt, lq_eq, jI_lt, jI_le, jI_eq, if_pos, if_neg, h1]
  | cons c r ih =>
    intro k ts st h hC k1 k2 h1 h2 hT h64 hV hE hG
    simp only [List.length_cons] at k2
    have hc := hC.1
    unfold tyL at hT
    cases hu : ty1 al c ts with
    | none => rw [hu] at hT; cases hT
    | some u =>
      rw [hu] at hT
      have hT : tyL al r u = some t := hT
      have hlen := hV.len
      have hOb : ∀ k x, -1000000 ≤ O0 k x ∧ O0 k x ≤ 1000000 := fun _ _ => by unfold O0; omega
      have hV2 : Vt u (ev1 (GR h) O0 c st) := ev1_b hG hOb hu hV
      -- what is left once the pile is as it should be
      have go : ∀ h2', ER h2' (ev1 (GR h) O0 c st) → Kf QE LE3 h h2' → ∃ h', mm_D (mm_M mm_T0 (d + 2)) cd_X12_codesTell 19 [.ref 264, .int (iI w), .int (iI (k + 1)), .null] [] h2' = some (some (.long (jI (fl h' 334 0))), h') ∧ ER h' (ev (GR h) O0 (c :: r) st) ∧ Kf QE LE3 h h' := by
        intro g hE2 hK
        have hGR := GR_kf hK
        obtain ⟨h', m1, m2, m3⟩ := ih (k + 1) u _ g (hC.2.congr (fun j => hK.1 299 j (by unfold QE; omega))) (by omega) (by omega) ((hK.1 298 _ (by unfold QE; omega)).trans h1) ((hK.1 264 54 (by unfold QE; omega)).trans h2) hT (ty1_len hu h64) hV2 hE2 (by rw [hGR]; exact hG)
        rw [hGR] at m2
        exact ⟨h', m1, m2, hK.trans m3⟩
      rw [U_X12_codesTell_19]
      rcases ty1_cases hu with q | q | q | q | q | q | q
      · obtain ⟨q1, q2, q3, q4⟩ := q
        obtain ⟨g, m1, m2, m3⟩ := R_put (d := d + 1) (x := c - 1000) hE (by omega) (by omega) (by omega)
        simp (disch := omega) only [iI_lit, jI_lit, iI_neg, jI_neg, iI_add, iI_sub, iI_mul, jI_add, jI_sub, jI_mul, rdI, rdL, iI_lt, iI_le, iI_eq, iI_nat, iI_b2_0, iI_b2_1, mm_bI_some, mm_bV_some, mm_bL_some, mm_bA_some, fd_wL, fd_wR, fl_wI, fl_wR, re_wI, re_wL, re_wC, ite_true, ite_false, not_true_eq_false, not_false_eq_true, lq_ge, lq_le, lq_gt, lq_lt, lq_eq, jI_lt, jI_le, jI_eq, if_pos, if_neg, h1, hc, iI_jI, m1]
        exact go g (by unfold ev1; rw [if_pos q1]; exact m2) m3
      · have := hal _ q.2.2.1
        omega
      · obtain ⟨q1, q2, q3, q4, q5⟩ := q
        have a1 := hal _ q3
        have a2 := hG _ q3
        obtain ⟨g, m1, m2, m3⟩ := R_put (d := d + 1) (x := GR h (c - 40)) hE (by omega) (by omega) (by omega)
        have mp := R_part (d := d + 1) h2 w1 w2 a1.1 a1.2
        simp (disch := omega) only [iI_lit, jI_lit, iI_neg, jI_neg, iI_add, iI_sub, iI_mul, jI_add, jI_sub, jI_mul, rdI, rdL, iI_lt, iI_le, iI_eq, iI_nat, iI_b2_0, iI_b2_1, mm_bI_some, mm_bV_some, mm_bL_some, mm_bA_some, fd_wL, fd_wR, fl_wI, fl_wR, re_wI, re_wL, re_wC, ite_true, ite_false, not_true_eq_false, not_false_eq_true, lq_ge, lq_le, lq_gt, lq_lt, lq_eq, jI_lt, jI_le, jI_eq, if_pos, if_neg, h1, hc, mp, m1]
        exact go g (by unfold ev1; rw [if_neg (by omega), if_neg (by omega), if_pos q1]; exact m2) m3
      · obtain ⟨q1, q2, q3⟩ := q
        obtain ⟨g, m1, m2, m3⟩ := R_put (d := d + 1) (x := 1) hE (by omega) (by omega) (by omega)
        simp (disch := omega) only [iI_lit, jI_lit, iI_neg, jI_neg, iI_add, iI_sub, iI_mul, jI_add, jI_sub, jI_mul, rdI, rdL, iI_lt, iI_le, iI_eq, iI_nat, iI_b2_0, iI_b2_1, mm_bI_some, mm_bV_some, mm_bL_some, mm_bA_some, fd_wL, fd_wR, fl_wI, fl_wR, re_wI, re_wL, re_wC, ite_true, ite_false, not_true_eq_false, not_false_eq_true, lq_ge, lq_le, lq_gt, lq_lt, lq_eq, jI_lt, jI_le, jI_eq, if_pos, if_neg, h1, hc, m1]
        exact go g (by unfold ev1; rw [if_neg (by omega), if_neg (by omega), if_neg (by omega), if_pos q1]; exact m2) m3
      · obtain ⟨q1, z, q2, q3⟩ := q
        subst q2
        obtain ⟨x, y, rfl, v1, v2⟩ := hV.c1
        have e1 : fd h 264 108 = (y.length : Int) + 1 := by
          rw [hE.1]
          simp
        have t1 : ((y.length : Int) + 1 - 1).toNat = y.length := by omega
        have ex : fl h 334 y.length = x := hE.2.1
        unfold vk at v1
        simp only [List.length_cons] at hlen h64
        simp (disch := omega) only [iI_lit, jI_lit, iI_neg, jI_neg, iI_add, iI_sub, iI_mul, jI_add, jI_sub, jI_mul, rdI, rdL, iI_lt, iI_le, iI_eq, iI_nat, iI_b2_0, iI_b2_1, mm_bI_some, mm_bV_some, mm_bL_some, mm_bA_some, fd_wL, fd_wR, fl_wI, fl_wR, re_wI, re_wL, re_wC, ite_true, ite_false, not_true_eq_false, not_false_eq_true, lq_ge, lq_le, lq_gt, lq_lt, lq_eq, jI_lt, jI_le, jI_eq, if_pos, if_neg, h1, hc, e1, t1, ex]
        refine go _ ?_ (Kf.wL Kf.refl rfl)
        unfold ev1
        rw [if_neg (by omega), if_neg (by omega), if_neg (by omega), if_neg (by omega), if_pos q1]
        refine ⟨?_, ?_, ?_⟩
        · rw [fd_wL, hE.1]
          simp
        · show fl (wL h 334 y.length (jI (1 - x))) 334 y.length = 1 - x
          rw [fl_wL, if_pos ⟨rfl, rfl⟩, jI_to (by omega) (by omega)]
        · show PR _ y
          exact hE.2.2.congr (fun j hj => by rw [fl_wL, if_neg (by omega)])
      · obtain ⟨q1, z, q2, q3⟩ := q
        subst q2
        obtain ⟨b, y, rfl, v1, v2⟩ := hV.c1
        obtain ⟨a, y, rfl, v3, v4⟩ := v2.c1
        unfold vk at v1 v3
        simp only [List.length_cons] at hlen h64
        obtain ⟨g, m1, m2, m3⟩ := R_join (d := d) (c := c) hE (by omega) (by omega) (by omega) v3.1 v3.2.1 v1.1 v1.2.1
        simp (disch := omega) only [iI_lit, jI_lit, iI_neg, jI_neg, iI_add, iI_sub, iI_mul, jI_add, jI_sub, jI_mul, rdI, rdL, iI_lt, iI_le, iI_eq, iI_nat, iI_b2_0, iI_b2_1, mm_bI_some, mm_bV_some, mm_bL_some, mm_bA_some, fd_wL, fd_wR, fl_wI, fl_wR, re_wI, re_wL, re_wC, ite_true, ite_false, not_true_eq_false, not_false_eq_true, lq_ge, lq_le, lq_gt, lq_lt, lq_eq, jI_lt, jI_le, jI_eq, if_pos, if_neg, h1, hc, m1]
        exact go g (by unfold ev1; rw [if_neg (by omega), if_neg (by omega), if_neg (by omega), if_neg (by omega), if_neg (by omega)]; exact m2) m3
      · obtain ⟨q0, q1, z, q2, q3⟩ := q
        subst q2
        obtain ⟨b, y, rfl, v1, v2⟩ := hV.c1
        obtain ⟨a, y, rfl, v3, v4⟩ := v2.c1
        unfold vk at v1 v3
        simp only [List.length_cons] at hlen h64
        obtain ⟨g, m1, m2, m3⟩ := R_join (d := d) (c := c) hE (by omega) (by omega) (by omega) v3.1 v3.2.1 v1.1 v1.2.1
        simp (disch := omega) only [iI_lit, jI_lit, iI_neg, jI_neg, iI_add, iI_sub, iI_mul, jI_add, jI_sub, jI_mul, rdI, rdL, iI_lt, iI_le, iI_eq, iI_nat, iI_b2_0, iI_b2_1, mm_bI_some, mm_bV_some, mm_bL_some, mm_bA_some, fd_wL, fd_wR, fl_wI, fl_wR, re_wI, re_wL, re_wC, ite_true, ite_false, not_true_eq_false, not_false_eq_true, lq_ge, lq_le, lq_gt, lq_lt, lq_eq, jI_lt, jI_le, jI_eq, if_pos, if_neg, h1, hc, m1]
        exact go g (by unfold ev1; rw [if_neg (by omega), if_neg (by omega), if_neg (by omega), if_neg (by omega), if_neg (by omega)]; exact m2) m3
end EVL
