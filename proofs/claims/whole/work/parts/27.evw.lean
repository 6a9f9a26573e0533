def CdC (h : mm_H) (c0 : Nat) : Int → List Int → Prop
  | _, [] => True
  | k, c :: r => fd h (c0 + 1) k.toNat = tc c ∧ CdC h c0 (k + 1) r
theorem CdC.congr {h h' : mm_H} {c0 : Nat} (e : ∀ k, fd h' (c0 + 1) k = fd h (c0 + 1) k) : ∀ {c : List Int} {k : Int}, CdC h c0 k c → CdC h' c0 k c
  | [], _, _ => trivial
  | _ :: _, _, p => ⟨(e _).trans p.1, CdC.congr e p.2⟩
theorem SC_dis {s c : Nat} (hs : mm_isS s) (hc : mm_isC c) : s + 9 ≤ c ∨ c + 6 ≤ s := by
  have : ∀ x ∈ [13, 24, 33, 42, 51, 60, 69, 78, 87, 96, 105, 114, 123, 132, 141, 150, 159, 168, 177, 186, 195, 205, 220, 231, 248], ∀ y ∈ [5, 240, 257], x + 9 ≤ y ∨ y + 6 ≤ x := by decide
  exact this s hs c hc
/-- what the class finds of one and another -/
def OC (h : mm_H) (c s : Nat) : Int → Int → Int := fun w x => if w = 0 then (if (0 ≤ fd h (c + 4) 16 ∧ fd h (c + 4) 16 < fd h s 10) ∧ (0 ≤ x ∧ x < fd h s 10) ∧ fd h (c + 4) 16 ≠ x then fd h (s + 6) (fd h (c + 4) 16 * 8 + x).toNat else 0) else (if (0 ≤ x ∧ x < fd h s 10) ∧ (0 ≤ fd h (c + 4) 16 ∧ fd h (c + 4) 16 < fd h s 10) ∧ x ≠ fd h (c + 4) 16 then fd h (s + 6) (x * 8 + fd h (c + 4) 16).toNat else 0)
theorem OC_kf {h h' : mm_H} {c s : Nat} (hs : mm_isS s) (hc : mm_isC c) (k : Kf (QC c) nL h h') : OC h' c s = OC h c s := by
  have g := SC_dis hs hc
  unfold OC
  rw [k.1 (c + 4) 16 (by unfold QC; omega), k.1 s 10 (by unfold QC; omega)]
  funext w x
  rw [k.1 (s + 6) _ (by unfold QC; omega), k.1 (s + 6) _ (by unfold QC; omega)]
theorem wd_b (k : Int) : 3 ≤ wd k ∧ wd k ≤ 18 := by
  unfold wd
  repeat' split
  all_goals omega
theorem tcj_b (k : Int) : 11000 ≤ tcj k ∧ tcj k ≤ 11010 := by
  unfold tcj
  repeat' split
  all_goals omega
section EVW
variable {d c0 s : Nat}
theorem C_work_41 (hc : mm_isC c0) (hs : mm_isS s) {e : Int} (he : e ≤ 1620) {al : Int → Bool} {G : Int → Int} {O : Int → Int → Int} (hO : ∀ k x, -1000000 ≤ O k x ∧ O k x ≤ 1000000) (hGb : ∀ k, al k = true → -1000000 ≤ G k ∧ G k ≤ 1000000) {b : Bool} {t : List Bool} : ∀ (c : List Int) (k : Int) (ts : List Bool) (st : List Int) (h : mm_H), CdC h c0 k c → 0 ≤ k → k + c.length = e → tyL al c ts = some (b :: t) → ts.length ≤ 64 → Vt ts st → EC h c0 st → fd h s 10 ≤ 8 → (∀ j, al j = true → 0 ≤ j → j ≤ 10 → fd h (c0 + 4) (wd j).toNat = G j) → (∀ w x, (w = 0 ∨ w = 1) → al (11 + w) = true → -1000000 ≤ x → x ≤ 1000000 → OC h c0 s w x = O w x) → ∃ h', mm_D (mm_M mm_T0 (d + 2)) cd_X1_work 41 [.ref c0, .null, .ref s, .int (iI e), .int (iI k), .null, .null] [] h = some (some (.int (iI ((ev G O c st).headD 0))), h') ∧ Kf (QC c0) nL h h' := by
  intro c
  induction c with
  | nil =>
    intro k ts st h _ k1 k2 hT h64 hV hE _ _ _
    simp only [List.length_nil] at k2
    cases hT
    obtain ⟨x, y, rfl, v1, v2⟩ := hV.c1
    have hlen := hV.len
    simp only [List.length_cons] at hlen h64
    obtain ⟨g, m1, m2, m3⟩ := C_pop (d := d + 1) hc hE (by omega)
    refine ⟨g, ?_, m3⟩
    rw [U_X1_work_41 hc hs]
    simp (disch := omega) only [iI_lit, jI_lit, iI_neg, jI_neg, iI_add, iI_sub, iI_mul, jI_add, jI_sub, jI_mul, rdI, rdL, iI_lt, iI_le, iI_eq, iI_nat, iI_b2_0, iI_b2_1, mm_bI_some, mm_bV_some, mm_bL_some, mm_bA_some, fd_wL, fd_wR, fl_wI, fl_wR, re_wI, re_wL, re_wC, ite_true, ite_false, not_true_eq_false, not_false_eq_true, lq_ge, lq_le, lq_gt, lq_lt, lq_eq, jI_lt, jI_le, jI_eq, if_pos, if_neg, m1]
    rfl
  | cons c r ih =>
    intro k ts st h hC k1 k2 hT h64 hV hE h8 hG hOC
    simp only [List.length_cons] at k2
    have hcc := hC.1
    unfold tyL at hT
    cases hu : ty1 al c ts with
    | none => rw [hu] at hT; cases hT
    | some u =>
      rw [hu] at hT
      have hT : tyL al r u = some (b :: t) := hT
      have hlen := hV.len
      have hV2 : Vt u (ev1 G O c st) := ev1_b hGb hO hu hV
      have dis := SC_dis hs hc
      have go : ∀ h2', EC h2' c0 (ev1 G O c st) → Kf (QC c0) nL h h2' → ∃ h', mm_D (mm_M mm_T0 (d + 2)) cd_X1_work 41 [.ref c0, .null, .ref s, .int (iI e), .int (iI (k + 1)), .null, .null] [] h2' = some (some (.int (iI ((ev G O (c :: r) st).headD 0))), h') ∧ Kf (QC c0) nL h h' := by
        intro g hE2 hK
        obtain ⟨h', m1, m3⟩ := ih (k + 1) u _ g (hC.2.congr (fun j => hK.1 (c0 + 1) j (by unfold QC; omega))) (by omega) (by omega) hT (ty1_len hu h64) hV2 hE2 (by rw [hK.1 s 10 (by unfold QC; omega)]; exact h8) (fun j a1 a2 a3 => by rw [hK.1 (c0 + 4) _ (by unfold QC; omega)]; exact hG j a1 a2 a3) (by rw [OC_kf hs hc hK]; exact hOC)
        exact ⟨h', m1, hK.trans m3⟩
      rw [U_X1_work_41 hc hs]
      rcases ty1_cases hu with q | q | q | q | q | q | q
      · obtain ⟨q1, q2, q3, q4⟩ := q
        have hcc : fd h (c0 + 1) k.toNat = c - 1000 := by rw [hcc, tc, if_pos q1]
        obtain ⟨g, m1, m2, m3⟩ := C_push (d := d + 1) (x := c - 1000) hc hE (by omega) (by omega) (by omega)
        simp (disch := omega) only [iI_lit, jI_lit, iI_neg, jI_neg, iI_add, iI_sub, iI_mul, jI_add, jI_sub, jI_mul, rdI, rdL, iI_lt, iI_le, iI_eq, iI_nat, iI_b2_0, iI_b2_1, mm_bI_some, mm_bV_some, mm_bL_some, mm_bA_some, fd_wL, fd_wR, fl_wI, fl_wR, re_wI, re_wL, re_wC, ite_true, ite_false, not_true_eq_false, not_false_eq_true, lq_ge, lq_le, lq_gt, lq_lt, lq_eq, jI_lt, jI_le, jI_eq, if_pos, if_neg, hcc, m1]
        exact go g (by unfold ev1; rw [if_pos q1]; exact m2) m3
      · obtain ⟨q1, q2, q3, z, q4, q5⟩ := q
        subst q4
        obtain ⟨x, y, rfl, v1, v2⟩ := hV.c1
        unfold vk at v1
        simp only [List.length_cons] at hlen h64
        have hcc : fd h (c0 + 1) k.toNat = 11012 + (c - 60) := by rw [hcc, tc, if_neg (by omega), if_pos q1]
        obtain ⟨g, m1, m2, m3⟩ := C_pop (d := d + 1) hc hE (by omega)
        have hw : c - 60 = 0 ∨ c - 60 = 1 := by omega
        have mt := C_turnedO (d := d) (h := g) (w := c - 60) (x := x) hc hs (by rw [m3.1 s 10 (by unfold QC; omega)]; exact h8) hw (by omega) (by omega)
        have eo : OC g c0 s (c - 60) x = O (c - 60) x := by
          rw [OC_kf hs hc m3]
          exact hOC _ _ hw (by rw [show 11 + (c - 60) = c - 49 by omega]; exact q3) v1.1 v1.2.1
        have ob := hO (c - 60) x
        unfold OC at eo
        rw [eo] at mt
        obtain ⟨g2, n1, n2, n3⟩ := C_push (d := d + 1) (x := O (c - 60) x) hc m2 (by omega) (by omega) (by omega)
        simp (disch := omega) only [iI_lit, jI_lit, iI_neg, jI_neg, iI_add, iI_sub, iI_mul, jI_add, jI_sub, jI_mul, rdI, rdL, iI_lt, iI_le, iI_eq, iI_nat, iI_b2_0, iI_b2_1, mm_bI_some, mm_bV_some, mm_bL_some, mm_bA_some, fd_wL, fd_wR, fl_wI, fl_wR, re_wI, re_wL, re_wC, ite_true, ite_false, not_true_eq_false, not_false_eq_true, lq_ge, lq_le, lq_gt, lq_lt, lq_eq, jI_lt, jI_le, jI_eq, if_pos, if_neg, hcc, m1, mt, n1]
        exact go g2 (by unfold ev1; rw [if_neg (by omega), if_pos q1]; exact n2) (m3.trans n3)
      · obtain ⟨q1, q2, q3, q4, q5⟩ := q
        have b1 := wd_b (c - 40)
        have b2' := hGb _ q3
        have hcc : fd h (c0 + 1) k.toNat = 10000 + wd (c - 40) := by rw [hcc, tc, if_neg (by omega), if_neg (by omega), if_pos q1]
        have hg := hG _ q3 (by omega) (by omega)
        have mv := C_valueOf (d := d + 1) (h := h) (w := 10000 + wd (c - 40) - 10000) hc (by omega) (by omega)
        rw [show 10000 + wd (c - 40) - 10000 = wd (c - 40) by omega, hg] at mv
        obtain ⟨g, m1, m2, m3⟩ := C_push (d := d + 1) (x := G (c - 40)) hc hE (by omega) (by omega) (by omega)
        have e5 : (10000 + wd (c - 40)) - 10000 = wd (c - 40) := by omega
        simp (disch := omega) only [iI_lit, jI_lit, iI_neg, jI_neg, iI_add, iI_sub, iI_mul, jI_add, jI_sub, jI_mul, rdI, rdL, iI_lt, iI_le, iI_eq, iI_nat, iI_b2_0, iI_b2_1, mm_bI_some, mm_bV_some, mm_bL_some, mm_bA_some, fd_wL, fd_wR, fl_wI, fl_wR, re_wI, re_wL, re_wC, ite_true, ite_false, not_true_eq_false, not_false_eq_true, lq_ge, lq_le, lq_gt, lq_lt, lq_eq, jI_lt, jI_le, jI_eq, if_pos, if_neg, hcc, e5, mv, m1]
        exact go g (by unfold ev1; rw [if_neg (by omega), if_neg (by omega), if_pos q1]; exact m2) m3
      · obtain ⟨q1, q2, q3⟩ := q
        have hcc : fd h (c0 + 1) k.toNat = 1 := by rw [hcc, tc, if_neg (by omega), if_neg (by omega), if_neg (by omega), if_pos q1]
        obtain ⟨g, m1, m2, m3⟩ := C_push (d := d + 1) (x := 1) hc hE (by omega) (by omega) (by omega)
        simp (disch := omega) only [iI_lit, jI_lit, iI_neg, jI_neg, iI_add, iI_sub, iI_mul, jI_add, jI_sub, jI_mul, rdI, rdL, iI_lt, iI_le, iI_eq, iI_nat, iI_b2_0, iI_b2_1, mm_bI_some, mm_bV_some, mm_bL_some, mm_bA_some, fd_wL, fd_wR, fl_wI, fl_wR, re_wI, re_wL, re_wC, ite_true, ite_false, not_true_eq_false, not_false_eq_true, lq_ge, lq_le, lq_gt, lq_lt, lq_eq, jI_lt, jI_le, jI_eq, if_pos, if_neg, hcc, m1]
        exact go g (by unfold ev1; rw [if_neg (by omega), if_neg (by omega), if_neg (by omega), if_pos q1]; exact m2) m3
      · obtain ⟨q1, z, q2, q3⟩ := q
        subst q2
        obtain ⟨x, y, rfl, v1, v2⟩ := hV.c1
        unfold vk at v1
        simp only [List.length_cons] at hlen h64
        have hcc : fd h (c0 + 1) k.toNat = 11011 := by rw [hcc, tc, if_neg (by omega), if_neg (by omega), if_neg (by omega), if_neg (by omega), if_pos q1]
        obtain ⟨g, m1, m2, m3⟩ := C_pop (d := d + 1) hc hE (by omega)
        obtain ⟨g2, n1, n2, n3⟩ := C_push (d := d + 1) (x := 1 - x) hc m2 (by omega) (by omega) (by omega)
        simp (disch := omega) only [iI_lit, jI_lit, iI_neg, jI_neg, iI_add, iI_sub, iI_mul, jI_add, jI_sub, jI_mul, rdI, rdL, iI_lt, iI_le, iI_eq, iI_nat, iI_b2_0, iI_b2_1, mm_bI_some, mm_bV_some, mm_bL_some, mm_bA_some, fd_wL, fd_wR, fl_wI, fl_wR, re_wI, re_wL, re_wC, ite_true, ite_false, not_true_eq_false, not_false_eq_true, lq_ge, lq_le, lq_gt, lq_lt, lq_eq, jI_lt, jI_le, jI_eq, if_pos, if_neg, hcc, m1, C_turnedN hc hs, n1]
        exact go g2 (by unfold ev1; rw [if_neg (by omega), if_neg (by omega), if_neg (by omega), if_neg (by omega), if_pos q1]; exact n2) (m3.trans n3)
      · obtain ⟨q1, z, q2, q3⟩ := q
        subst q2
        obtain ⟨b', y, rfl, v1, v2⟩ := hV.c1
        obtain ⟨a', y, rfl, v3, v4⟩ := v2.c1
        simp only [List.length_cons] at hlen h64
        have hb := tcj_b c
        have hcc : fd h (c0 + 1) k.toNat = tcj c := by rw [hcc, tc, if_neg (by omega), if_neg (by omega), if_neg (by omega), if_neg (by omega), if_neg (by omega)]
        obtain ⟨g, m1, m2, m3⟩ := C_pop (d := d + 1) hc hE (by simp only [List.length_cons]; omega)
        obtain ⟨g1, l1, l2, l3⟩ := C_pop (d := d + 1) hc m2 (by omega)
        have hj := (jn_t q1 v3 v1).1
        unfold vk at hj
        have mj := C_joinedT (d := d) (h := g1) rfl q1 v3 v1
        obtain ⟨g2, n1, n2, n3⟩ := C_push (d := d + 1) (x := jn c a' b') hc l2 (by omega) (by omega) (by omega)
        simp (disch := omega) only [iI_lit, jI_lit, iI_neg, jI_neg, iI_add, iI_sub, iI_mul, jI_add, jI_sub, jI_mul, rdI, rdL, iI_lt, iI_le, iI_eq, iI_nat, iI_b2_0, iI_b2_1, mm_bI_some, mm_bV_some, mm_bL_some, mm_bA_some, fd_wL, fd_wR, fl_wI, fl_wR, re_wI, re_wL, re_wC, ite_true, ite_false, not_true_eq_false, not_false_eq_true, lq_ge, lq_le, lq_gt, lq_lt, lq_eq, jI_lt, jI_le, jI_eq, if_pos, if_neg, hcc, m1, l1, mj, n1]
        exact go g2 (by unfold ev1; rw [if_neg (by omega), if_neg (by omega), if_neg (by omega), if_neg (by omega), if_neg (by omega)]; exact n2) ((m3.trans l3).trans n3)
      · obtain ⟨q0, q1, z, q2, q3⟩ := q
        subst q2
        obtain ⟨b', y, rfl, v1, v2⟩ := hV.c1
        obtain ⟨a', y, rfl, v3, v4⟩ := v2.c1
        simp only [List.length_cons] at hlen h64
        have hb := tcj_b c
        have hcc : fd h (c0 + 1) k.toNat = tcj c := by rw [hcc, tc, if_neg (by omega), if_neg (by omega), if_neg (by omega), if_neg (by omega), if_neg (by omega)]
        obtain ⟨g, m1, m2, m3⟩ := C_pop (d := d + 1) hc hE (by simp only [List.length_cons]; omega)
        obtain ⟨g1, l1, l2, l3⟩ := C_pop (d := d + 1) hc m2 (by omega)
        have hj := jn_b q0 q1 v3 v1
        unfold vk at hj v1 v3
        have mj := C_joined (d := d) (h := g1) rfl q0 q1 v3.1 v3.2.1 v1.1 v1.2.1
        obtain ⟨g2, n1, n2, n3⟩ := C_push (d := d + 1) (x := jn c a' b') hc l2 (by omega) (by omega) (by omega)
        simp (disch := omega) only [iI_lit, jI_lit, iI_neg, jI_neg, iI_add, iI_sub, iI_mul, jI_add, jI_sub, jI_mul, rdI, rdL, iI_lt, iI_le, iI_eq, iI_nat, iI_b2_0, iI_b2_1, mm_bI_some, mm_bV_some, mm_bL_some, mm_bA_some, fd_wL, fd_wR, fl_wI, fl_wR, re_wI, re_wL, re_wC, ite_true, ite_false, not_true_eq_false, not_false_eq_true, lq_ge, lq_le, lq_gt, lq_lt, lq_eq, jI_lt, jI_le, jI_eq, if_pos, if_neg, hcc, m1, l1, mj, n1]
        exact go g2 (by unfold ev1; rw [if_neg (by omega), if_neg (by omega), if_neg (by omega), if_neg (by omega), if_neg (by omega)]; exact n2) ((m3.trans l3).trans n3)
/-- a rule of the class, worked out -/
theorem C_work (hc : mm_isC c0) (hs : mm_isS s) {w f : Int} (w1 : 0 ≤ w) (w2 : w < 4) {al : Int → Bool} {G : Int → Int} {O : Int → Int → Int} (hO : ∀ k x, -1000000 ≤ O k x ∧ O k x ≤ 1000000) (hGb : ∀ k, al k = true → -1000000 ≤ G k ∧ G k ≤ 1000000) {b : Bool} {c : List Int} {h : mm_H} (hf : fd h (c0 + 2) w.toNat = f) (f0 : 0 ≤ f) (hg : fd h (c0 + 3) w.toNat = f + c.length) (hl : f + c.length ≤ fd h c0 5) (hl2 : fd h c0 5 ≤ 1620) (hC : CdC h c0 f c) (hT : tyL al c [] = some [b]) (h8 : fd h s 10 ≤ 8) (hG : ∀ j, al j = true → 0 ≤ j → j ≤ 10 → fd h (c0 + 4) (wd j).toNat = G j) (hOC : ∀ w x, (w = 0 ∨ w = 1) → al (11 + w) = true → -1000000 ≤ x → x ≤ 1000000 → OC h c0 s w x = O w x) : ∃ h', mm_M mm_T0 (d + 3) 39 [.ref c0, .int (iI w), .ref s] h = some (some (.int (iI (evv G O c))), h') ∧ Kf (QC c0) nL h h' := by
  have k0 : Kf (QC c0) nL h (wI h c0 6 (iI 0)) := Kf.wI Kf.refl (Or.inl ⟨rfl, rfl⟩)
  have dis := SC_dis hs hc
  have z1 : fd (wI h c0 6 (iI 0)) (c0 + 3) w.toNat = f + c.length := (fd_wI_row (by omega)).trans hg
  have z2 : fd (wI h c0 6 (iI 0)) c0 5 = fd h c0 5 := fd_wI_col (by omega)
  have z3 : fd (wI h c0 6 (iI 0)) (c0 + 2) w.toNat = f := (fd_wI_row (by omega)).trans hf
  obtain ⟨h', m1, m2⟩ := C_work_41 (d := d) hc hs (e := f + c.length) (by omega) hO hGb c f [] [] (wI h c0 6 (iI 0)) (hC.congr (fun j => fd_wI_row (by omega))) f0 rfl hT (by simp) trivial ⟨fd_wI_same (by omega) (by omega), trivial⟩ (by rw [fd_wI_row (by omega)]; exact h8) (fun j a1 a2 a3 => by rw [fd_wI_row (by omega)]; exact hG j a1 a2 a3) (by rw [OC_kf hs hc k0]; exact hOC)
  refine ⟨h', ?_, k0.trans m2⟩
  have e1 : min (f + (c.length : Int)) (fd h c0 5) = f + c.length := by omega
  have e2 : max 0 f = f := by omega
  rw [U_X1_work hc hs, C_isTold hc w1 w2]
  simp (disch := omega) only [iI_lit, jI_lit, iI_neg, jI_neg, iI_add, iI_sub, iI_mul, jI_add, jI_sub, jI_mul, rdI, rdL, iI_lt, iI_le, iI_eq, iI_nat, iI_b2_0, iI_b2_1, mm_bI_some, mm_bV_some, mm_bL_some, mm_bA_some, fd_wL, fd_wR, fl_wI, fl_wR, re_wI, re_wL, re_wC, ite_true, ite_false, not_true_eq_false, not_false_eq_true, lq_ge, lq_le, lq_gt, lq_lt, lq_eq, jI_lt, jI_le, jI_eq, if_pos, if_neg, z1, z2, z3, hf, J_min, J_max, e1, e2, m1]
  rfl
end EVW
