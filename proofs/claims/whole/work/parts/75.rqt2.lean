section RTO
variable {d : Nat} {g : mm_H} {b : Nat → Int} {E p : Nat} {gl : Bool} {w : Int} {T U C : List Int} {o : Nat}
set_option maxHeartbeats 8000000 in
theorem R_33 (ho : o ≤ 6) : ∀ (P : List Int) (g : mm_H) (C : List Int), (∀ z ∈ P, z = 10 ∨ z = 11) → Qst g (P ++ 25 :: T) U C (o + 1) → (P ++ 25 :: T ++ U).length < 1600 → C.length + P.length < 1700 → ∃ g', mm_D (mm_M mm_T0 (d + 7)) cd_X12_qGoesOnTest 33 [.ref 264] [] g = mm_bV (mm_M mm_T0 (d + 7) 301 [.ref 264] g') (fun h => sGT d h) ∧ Qst g' T U (C ++ P) o ∧ Kf Qwk nL g g'
  | [], g, C, hP, S, hn, hc => by
    rw [List.nil_append] at S hn
    have q := R_isOn (d := d + 6) (x := 25) S (by omega) (by omega) (by omega)
    rw [b2_t (show (25 :: T ++ U).head? = some 25 from rfl)] at q
    rw [List.cons_append, List.length_cons] at hn
    obtain ⟨Q4, f1, f2, f3, f4, k4⟩ := S.popO (by omega) ho
    have e1 : ((T ++ U).length : Nat) + (1 : Int) - 1 = ((T ++ U).length : Nat) := by omega
    have e2 : ((o + 1 : Nat) : Int) - 1 = (o : Nat) := by omega
    refine ⟨_, ?_, by rw [List.append_nil]; exact Q4, k4⟩
    rw [U_X12_qGoesOnTest_33]
    unfold sGT
    simp (disch := omega) only [iI_lit, jI_lit, iI_neg, jI_neg, iI_add, iI_sub, iI_mul, jI_add, jI_sub, jI_mul, rdI, rdL, iI_lt, iI_le, iI_eq, iI_nat, iI_b2_0, iI_b2_1, mm_bI_some, mm_bV_some, mm_bL_some, mm_bA_some, fd_wL, fd_wR, fl_wI, fl_wR, re_wI, re_wL, re_wC, ite_true, ite_false, not_true_eq_false, not_false_eq_true, lq_ge, lq_le, lq_gt, lq_lt, lq_eq, jI_lt, jI_le, jI_eq, if_pos, if_neg, q, f4, e1, f1, e2]
  | z :: P, g, C, hP, S, hn, hc => by
    have zz := hP z List.mem_cons_self
    have q := R_isOn (d := d + 6) (x := 25) S (by omega) (by omega) (by omega)
    rw [b2_f (by
      intro y
      have q9 : z = 25 := (by simpa using y)
      omega)] at q
    rw [List.cons_append, List.cons_append, List.length_cons] at hn
    rw [List.length_cons] at hc
    obtain ⟨g1, m1, S1, k1⟩ := R_drop (d := d + 5) (x := z) (T := P ++ 25 :: T) S (by omega) (by omega)
    obtain ⟨g2, n1, S2, k2⟩ := R_33 ho P g1 (C ++ [z]) (fun y hy => hP y (List.mem_cons_of_mem _ hy)) S1 (by omega) (by rw [List.length_append, List.length_singleton]; omega)
    refine ⟨g2, ?_, by rw [List.append_assoc] at S2; exact S2, k1.trans k2⟩
    rw [← n1, U_X12_qGoesOnTest_33]
    simp (disch := omega) only [iI_lit, jI_lit, iI_neg, jI_neg, iI_add, iI_sub, iI_mul, jI_add, jI_sub, jI_mul, rdI, rdL, iI_lt, iI_le, iI_eq, iI_nat, iI_b2_0, iI_b2_1, mm_bI_some, mm_bV_some, mm_bL_some, mm_bA_some, fd_wL, fd_wR, fl_wI, fl_wR, re_wI, re_wL, re_wC, ite_true, ite_false, not_true_eq_false, not_false_eq_true, lq_ge, lq_le, lq_gt, lq_lt, lq_eq, jI_lt, jI_le, jI_eq, if_pos, if_neg, q, m1]
set_option maxHeartbeats 8000000 in
theorem R_87 (hT : (T ++ U).head? ≠ some 10) : ∀ (P : List Int) (g : mm_H) (C : List Int), (∀ z ∈ P, z = 10) → Qst g (P ++ T) U C o → (P ++ T ++ U).length < 1600 → C.length + P.length < 1700 → ∃ g', mm_D (mm_M mm_T0 (d + 7)) cd_X12_qGoesOnTest 87 [.ref 264] [] g = some (some (.int (iI 1)), g') ∧ Qst g' (10 :: T) U (C ++ P) o ∧ Kf Qwk nL g g'
  | [], g, C, hP, S, hn, hc => by
    rw [List.nil_append] at S hn
    have q := R_isOn (d := d + 6) (x := 10) S (by omega) (by omega) (by omega)
    rw [b2_f hT] at q
    have e := S.1.1
    have nn : (((T ++ U).length : Nat) : Int).toNat = (T ++ U).length := by omega
    obtain ⟨S1, f1, k1⟩ := R_push (x := 10) S (by omega) (by omega) (by omega)
    refine ⟨_, ?_, by rw [List.append_nil]; exact S1, k1⟩
    rw [U_X12_qGoesOnTest_87]
    simp (disch := omega) only [iI_lit, jI_lit, iI_neg, jI_neg, iI_add, iI_sub, iI_mul, jI_add, jI_sub, jI_mul, rdI, rdL, iI_lt, iI_le, iI_eq, iI_nat, iI_b2_0, iI_b2_1, mm_bI_some, mm_bV_some, mm_bL_some, mm_bA_some, fd_wL, fd_wR, fl_wI, fl_wR, re_wI, re_wL, re_wC, ite_true, ite_false, not_true_eq_false, not_false_eq_true, lq_ge, lq_le, lq_gt, lq_lt, lq_eq, jI_lt, jI_le, jI_eq, if_pos, if_neg, q, e, nn, f1]
  | z :: P, g, C, hP, S, hn, hc => by
    have zz := hP z List.mem_cons_self
    have q := R_isOn (d := d + 6) (x := 10) S (by omega) (by omega) (by omega)
    rw [b2_t (by rw [zz]; rfl)] at q
    rw [List.cons_append, List.cons_append, List.length_cons] at hn
    rw [List.length_cons] at hc
    obtain ⟨g1, m1, S1, k1⟩ := R_drop (d := d + 5) (x := z) (T := P ++ T) S (by omega) (by omega)
    obtain ⟨g2, n1, S2, k2⟩ := R_87 hT P g1 (C ++ [z]) (fun y hy => hP y (List.mem_cons_of_mem _ hy)) S1 (by omega) (by rw [List.length_append, List.length_singleton]; omega)
    refine ⟨g2, ?_, by rw [List.append_assoc] at S2; exact S2, k1.trans k2⟩
    rw [← n1, U_X12_qGoesOnTest_87]
    simp (disch := omega) only [iI_lit, jI_lit, iI_neg, jI_neg, iI_add, iI_sub, iI_mul, jI_add, jI_sub, jI_mul, rdI, rdL, iI_lt, iI_le, iI_eq, iI_nat, iI_b2_0, iI_b2_1, mm_bI_some, mm_bV_some, mm_bL_some, mm_bA_some, fd_wL, fd_wR, fl_wI, fl_wR, re_wI, re_wL, re_wC, ite_true, ite_false, not_true_eq_false, not_false_eq_true, lq_ge, lq_le, lq_gt, lq_lt, lq_eq, jI_lt, jI_le, jI_eq, if_pos, if_neg, q, m1]
set_option maxHeartbeats 8000000 in
theorem R_137 (hT : (T ++ U).head? ≠ some 10) (hT2 : (T ++ U).head? ≠ some 11) : ∀ (P : List Int) (g : mm_H) (C : List Int), (∀ z ∈ P, z = 10 ∨ z = 11) → Qst g (P ++ T) U C o → (P ++ T ++ U).length < 1600 → C.length + P.length < 1700 → ∃ g', mm_D (mm_M mm_T0 (d + 7)) cd_X12_qGoesOnTest 137 [.ref 264] [] g = some (some (.int (iI 1)), g') ∧ Qst g' (11 :: T) U (C ++ P) o ∧ Kf Qwk nL g g'
  | [], g, C, hP, S, hn, hc => by
    rw [List.nil_append] at S hn
    have q := R_isOn (d := d + 6) (x := 10) S (by omega) (by omega) (by omega)
    have q2 := R_isOn (d := d + 6) (x := 11) S (by omega) (by omega) (by omega)
    rw [b2_f hT] at q
    rw [b2_f hT2] at q2
    have e := S.1.1
    have nn : (((T ++ U).length : Nat) : Int).toNat = (T ++ U).length := by omega
    obtain ⟨S1, f1, k1⟩ := R_push (x := 11) S (by omega) (by omega) (by omega)
    refine ⟨_, ?_, by rw [List.append_nil]; exact S1, k1⟩
    rw [U_X12_qGoesOnTest_137]
    simp (disch := omega) only [iI_lit, jI_lit, iI_neg, jI_neg, iI_add, iI_sub, iI_mul, jI_add, jI_sub, jI_mul, rdI, rdL, iI_lt, iI_le, iI_eq, iI_nat, iI_b2_0, iI_b2_1, mm_bI_some, mm_bV_some, mm_bL_some, mm_bA_some, fd_wL, fd_wR, fl_wI, fl_wR, re_wI, re_wL, re_wC, ite_true, ite_false, not_true_eq_false, not_false_eq_true, lq_ge, lq_le, lq_gt, lq_lt, lq_eq, jI_lt, jI_le, jI_eq, if_pos, if_neg, q, q2, e, nn, f1]
  | z :: P, g, C, hP, S, hn, hc => by
    have zz := hP z List.mem_cons_self
    have q := R_isOn (d := d + 6) (x := 10) S (by omega) (by omega) (by omega)
    have q2 := R_isOn (d := d + 6) (x := 11) S (by omega) (by omega) (by omega)
    rw [List.cons_append, List.cons_append, List.length_cons] at hn
    rw [List.length_cons] at hc
    obtain ⟨g1, m1, S1, k1⟩ := R_drop (d := d + 5) (x := z) (T := P ++ T) S (by omega) (by omega)
    obtain ⟨g2, n1, S2, k2⟩ := R_137 hT hT2 P g1 (C ++ [z]) (fun y hy => hP y (List.mem_cons_of_mem _ hy)) S1 (by omega) (by rw [List.length_append, List.length_singleton]; omega)
    refine ⟨g2, ?_, by rw [List.append_assoc] at S2; exact S2, k1.trans k2⟩
    rw [← n1, U_X12_qGoesOnTest_137]
    rcases zz with y | y
    · rw [b2_t (by rw [y]; rfl)] at q
      simp (disch := omega) only [iI_lit, jI_lit, iI_neg, jI_neg, iI_add, iI_sub, iI_mul, jI_add, jI_sub, jI_mul, rdI, rdL, iI_lt, iI_le, iI_eq, iI_nat, iI_b2_0, iI_b2_1, mm_bI_some, mm_bV_some, mm_bL_some, mm_bA_some, fd_wL, fd_wR, fl_wI, fl_wR, re_wI, re_wL, re_wC, ite_true, ite_false, not_true_eq_false, not_false_eq_true, lq_ge, lq_le, lq_gt, lq_lt, lq_eq, jI_lt, jI_le, jI_eq, if_pos, if_neg, q, m1]
    · rw [b2_f (by rw [y]; simp)] at q
      rw [b2_t (by rw [y]; rfl)] at q2
      simp (disch := omega) only [iI_lit, jI_lit, iI_neg, jI_neg, iI_add, iI_sub, iI_mul, jI_add, jI_sub, jI_mul, rdI, rdL, iI_lt, iI_le, iI_eq, iI_nat, iI_b2_0, iI_b2_1, mm_bI_some, mm_bV_some, mm_bL_some, mm_bA_some, fd_wL, fd_wR, fl_wI, fl_wR, re_wI, re_wL, re_wC, ite_true, ite_false, not_true_eq_false, not_false_eq_true, lq_ge, lq_le, lq_gt, lq_lt, lq_eq, jI_lt, jI_le, jI_eq, if_pos, if_neg, q, q2, m1]
set_option maxHeartbeats 8000000 in
theorem R_110 : ∀ (P : List Int) (g : mm_H) (C : List Int), fd g 264 5 = 0 → Qst g P [] C o → P.length ≤ 1600 → C.length + P.length < 1700 → ∃ g', mm_D (mm_M mm_T0 (d + 8)) cd_X12_qTest 110 [.ref 264, .null, .null] [] g = some (none, g') ∧ Qst g' [] [] (C ++ P) o ∧ Kf Qwk nL g g'
  | [], g, C, h5, S, hn, hc => by
    have e : fd g 264 104 = 0 := S.1.1
    refine ⟨g, ?_, by rw [List.append_nil]; exact S, Kf.refl⟩
    rw [U_X12_qTest_110]
    simp (disch := omega) only [iI_lit, jI_lit, iI_neg, jI_neg, iI_add, iI_sub, iI_mul, jI_add, jI_sub, jI_mul, rdI, rdL, iI_lt, iI_le, iI_eq, iI_nat, iI_b2_0, iI_b2_1, mm_bI_some, mm_bV_some, mm_bL_some, mm_bA_some, fd_wL, fd_wR, fl_wI, fl_wR, re_wI, re_wL, re_wC, ite_true, ite_false, not_true_eq_false, not_false_eq_true, lq_ge, lq_le, lq_gt, lq_lt, lq_eq, jI_lt, jI_le, jI_eq, if_pos, if_neg, h5, e]
  | y :: P, g, C, h5, S, hn, hc => by
    have e := S.1.1
    rw [List.append_nil, List.length_cons] at e
    rw [List.length_cons] at hn hc
    obtain ⟨g1, m1, S1, k1⟩ := R_drop (d := d + 6) S (by rw [List.append_nil]; omega) (by omega)
    obtain ⟨g2, n1, S2, k2⟩ := R_110 P g1 (C ++ [y]) ((k1.1 264 5 (by unfold Qwk; omega)).trans h5) S1 (by omega) (by rw [List.length_append, List.length_singleton]; omega)
    refine ⟨g2, ?_, by rw [List.append_assoc] at S2; exact S2, k1.trans k2⟩
    rw [← n1, U_X12_qTest_110]
    simp (disch := omega) only [iI_lit, jI_lit, iI_neg, jI_neg, iI_add, iI_sub, iI_mul, jI_add, jI_sub, jI_mul, rdI, rdL, iI_lt, iI_le, iI_eq, iI_nat, iI_b2_0, iI_b2_1, mm_bI_some, mm_bV_some, mm_bL_some, mm_bA_some, fd_wL, fd_wR, fl_wI, fl_wR, re_wI, re_wL, re_wC, ite_true, ite_false, not_true_eq_false, not_false_eq_true, lq_ge, lq_le, lq_gt, lq_lt, lq_eq, jI_lt, jI_le, jI_eq, if_pos, if_neg, h5, e, m1]
theorem mem_t {P : List Int} (hP : ∀ z ∈ P, z = 10 ∨ z = 11) : 25 ∈ P ++ T ↔ 25 ∈ T := by
  constructor
  · intro h
    rcases List.mem_append.mp h with q | q
    · have := hP 25 q
      omega
    · exact q
  · intro h
    exact List.mem_append.mpr (Or.inr h)
theorem TO_close {P : List Int} (S : ST g b E p gl w (P ++ 25 :: T) [] C (o + 1)) (h : tB b E p = 93) (hP : ∀ z ∈ P, z = 10 ∨ z = 11) (ho : o ≤ 6) (hof : nOf T ≤ o) : ∃ g', TO d g = TG d g' ∧ ST g' b E (tS b E p + 1) false w T [] (C ++ P) o ∧ Kf QQ nL g g' := by
  have h5 := S.1.2.2.1
  have l := S.len
  have ge := tS_ge (b := b) (E := E) (p := p)
  have lt := tB_in h (by decide)
  have ll : (P ++ 25 :: T ++ []).length = P.length + (T.length + 1) := by rw [List.append_nil, List.length_append, List.length_cons]
  obtain ⟨g1, l1, R1, l2, k1⟩ := R_look (d := d + 6) S.1
  have S1 := S.tk R1 k1 (Nat.le_refl _)
  have sq := (R_hasSq (d := d + 6) S1.2.1 (by have l9 := ll; rw [List.append_nil] at l9; omega)).1 ((mem_t hP).mpr List.mem_cons_self)
  rw [h] at l1
  obtain ⟨R2, k2⟩ := RS_step R1 l2 lt
  have Q2 := S1.2.1.tk k2
  obtain ⟨g3, m3, Q3, k3⟩ := R_33 (d := d) ho P _ C hP Q2 (by omega) (by omega)
  refine ⟨g3, ?_, ⟨R2.kw k3, Q3, ?_, ?_, hof⟩, (kTQ k1).trans ((kTQ k2).trans (kWQ k3))⟩
  · unfold TO TG
    rw [← m3]
    congr 1
    unfold sGT
    rw [U_X12_qGoesOnTest_0]
    simp (disch := omega) only [iI_lit, jI_lit, iI_neg, jI_neg, iI_add, iI_sub, iI_mul, jI_add, jI_sub, jI_mul, rdI, rdL, iI_lt, iI_le, iI_eq, iI_nat, iI_b2_0, iI_b2_1, mm_bI_some, mm_bV_some, mm_bL_some, mm_bA_some, fd_wL, fd_wR, fl_wI, fl_wR, re_wI, re_wL, re_wC, ite_true, ite_false, not_true_eq_false, not_false_eq_true, lq_ge, lq_le, lq_gt, lq_lt, lq_eq, jI_lt, jI_le, jI_eq, if_pos, if_neg, h5, l1, sq, l2]
  · rw [k3.1 264 54 (by unfold Qwk; omega), k2.1 264 54 (by unfold QTk; omega)]
    exact S1.2.2.1
  · rw [List.append_nil, List.length_append (as := C)]
    omega
theorem wno_93 (h : wno b E p gl = 19 ∨ wno b E p gl = 20) : tB b E p ≠ 93 := by
  have ww := wno_w (b := b) (E := E) (p := p) (gl := gl) (by omega)
  have := isLt_iff.mp ww.1
  omega
theorem TO_and {P : List Int} (S : ST g b E p gl w (P ++ T) [] C o) (h : wno b E p gl = 20) (hP : ∀ z ∈ P, z = 10) (hT : T.head? ≠ some 10) (hof : nOf T ≤ o) : ∃ g', TO d g = sTT d 1 g' ∧ ST g' b E (tL b E (tS b E p)) true w (10 :: T) [] (C ++ P) o ∧ Kf QQ nL g g' := by
  have h5 := S.1.2.2.1
  have l := S.len
  have ge := tS_ge (b := b) (E := E) (p := p)
  have ww := wno_w (b := b) (E := E) (p := p) (gl := gl) (by omega)
  have tl := tL_in ww.1
  have n93 := wno_93 (b := b) (E := E) (p := p) (gl := gl) (Or.inr h)
  have ll : (P ++ T ++ []).length = P.length + T.length := by rw [List.append_nil, List.length_append]
  obtain ⟨g1, l1, R1, l2, k1⟩ := R_look (d := d + 6) S.1
  have tb := tB_b (p := p) R1.1
  obtain ⟨g2, t1, R2, k2⟩ := (R_takesA (d := d + 4) (a := 314) (k := 20) (by unfold isW; omega) (by omega) rfl R1).1 h
  have S2 := S.tk R2 (k1.trans k2) (by omega)
  obtain ⟨g3, n1, Q3, k3⟩ := R_87 (d := d) (by rw [List.append_nil]; exact hT) P g2 C hP S2.2.1 (by omega) (by omega)
  have S3 := S2.qw Q3 k3 (by rw [List.append_nil, List.length_cons, List.length_append (as := C)]; omega) (by rw [nOf, if_neg (by omega)]; exact hof)
  refine ⟨g3, ?_, S3, (kTQ (k1.trans k2)).trans (kWQ k3)⟩
  have st : sGT d g = some (some (.int (iI 1)), g3) := by
    rw [← n1]
    unfold sGT
    rw [U_X12_qGoesOnTest_0]
    simp (disch := omega) only [iI_lit, jI_lit, iI_neg, jI_neg, iI_add, iI_sub, iI_mul, jI_add, jI_sub, jI_mul, rdI, rdL, iI_lt, iI_le, iI_eq, iI_nat, iI_b2_0, iI_b2_1, mm_bI_some, mm_bV_some, mm_bL_some, mm_bA_some, fd_wL, fd_wR, fl_wI, fl_wR, re_wI, re_wL, re_wC, ite_true, ite_false, not_true_eq_false, not_false_eq_true, lq_ge, lq_le, lq_gt, lq_lt, lq_eq, jI_lt, jI_le, jI_eq, if_pos, if_neg, h5, l1, t1]
  unfold TO
  rw [st, mm_bI_some, kGT_1]
theorem TO_or {P : List Int} (S : ST g b E p gl w (P ++ T) [] C o) (h : wno b E p gl = 19) (hP : ∀ z ∈ P, z = 10 ∨ z = 11) (hT : T.head? ≠ some 10) (hT2 : T.head? ≠ some 11) (hof : nOf T ≤ o) : ∃ g', TO d g = sTT d 1 g' ∧ ST g' b E (tL b E (tS b E p)) true w (11 :: T) [] (C ++ P) o ∧ Kf QQ nL g g' := by
  have h5 := S.1.2.2.1
  have l := S.len
  have ge := tS_ge (b := b) (E := E) (p := p)
  have ww := wno_w (b := b) (E := E) (p := p) (gl := gl) (by omega)
  have tl := tL_in ww.1
  have n93 := wno_93 (b := b) (E := E) (p := p) (gl := gl) (Or.inl h)
  have ll : (P ++ T ++ []).length = P.length + T.length := by rw [List.append_nil, List.length_append]
  obtain ⟨g1, l1, R1, l2, k1⟩ := R_look (d := d + 6) S.1
  have tb := tB_b (p := p) R1.1
  obtain ⟨g2, t1, R2, _, k2⟩ := (R_takesA (d := d + 4) (a := 314) (k := 20) (by unfold isW; omega) (by omega) rfl R1).2 (by omega)
  obtain ⟨g3, u1, R3, k3⟩ := (R_takesA (d := d + 4) (a := 315) (k := 19) (by unfold isW; omega) (by omega) rfl R2).1 h
  have S3 := S.tk R3 (k1.trans (k2.trans k3)) (by omega)
  obtain ⟨g4, n1, Q4, k4⟩ := R_137 (d := d) (by rw [List.append_nil]; exact hT) (by rw [List.append_nil]; exact hT2) P g3 C hP S3.2.1 (by omega) (by omega)
  have S4 := S3.qw Q4 k4 (by rw [List.append_nil, List.length_cons, List.length_append (as := C)]; omega) (by rw [nOf, if_neg (by omega)]; exact hof)
  refine ⟨g4, ?_, S4, (kTQ (k1.trans (k2.trans k3))).trans (kWQ k4)⟩
  have st : sGT d g = some (some (.int (iI 1)), g4) := by
    rw [← n1]
    unfold sGT
    rw [U_X12_qGoesOnTest_0]
    simp (disch := omega) only [iI_lit, jI_lit, iI_neg, jI_neg, iI_add, iI_sub, iI_mul, jI_add, jI_sub, jI_mul, rdI, rdL, iI_lt, iI_le, iI_eq, iI_nat, iI_b2_0, iI_b2_1, mm_bI_some, mm_bV_some, mm_bL_some, mm_bA_some, fd_wL, fd_wR, fl_wI, fl_wR, re_wI, re_wL, re_wC, ite_true, ite_false, not_true_eq_false, not_false_eq_true, lq_ge, lq_le, lq_gt, lq_lt, lq_eq, jI_lt, jI_le, jI_eq, if_pos, if_neg, h5, l1, t1, u1]
  unfold TO
  rw [st, mm_bI_some, kGT_1]
theorem TO_clbad (S : ST g b E p gl w T [] C o) (h1 : wno b E p gl ≠ 20) (h2 : wno b E p gl ≠ 19) (h : tB b E p ≠ 93) (hs : 25 ∈ T) : BadT g (TO d g) (1, (tS b E p : Int)) := by
  have h5 := S.1.2.2.1
  have l := S.len
  rw [List.append_nil] at l
  have le := tS_le (b := b) (E := E) (p := p) l.2.1
  obtain ⟨g1, l1, R1, l2, k1⟩ := R_look (d := d + 6) S.1
  have tb := tB_b (p := p) R1.1
  obtain ⟨g2, t1, R2, _, k2⟩ := (R_takesA (d := d + 4) (a := 314) (k := 20) (by unfold isW; omega) (by omega) rfl R1).2 h1
  obtain ⟨g3, u1, R3, u2, k3⟩ := (R_takesA (d := d + 4) (a := 315) (k := 19) (by unfold isW; omega) (by omega) rfl R2).2 h2
  have S3 := S.tk R3 (k1.trans (k2.trans k3)) (Nat.le_refl _)
  have h53 := R3.2.2.1
  have sq := (R_hasSq (d := d + 6) S3.2.1 (by omega)).1 hs
  obtain ⟨g4, a1, B4, k4⟩ := R_fail (d := d + 6) (g := g3) (k := 1) (pl := (tS b E p : Int)) h53 (by omega) (by omega) (by omega) (by omega)
  refine ⟨g4, ?_, B4, kTQ (k1.trans (k2.trans (k3.trans k4)))⟩
  have st : sGT d g = some (some (.int (iI 0)), g4) := by
    unfold sGT
    rw [U_X12_qGoesOnTest_0]
    simp (disch := omega) only [iI_lit, jI_lit, iI_neg, jI_neg, iI_add, iI_sub, iI_mul, jI_add, jI_sub, jI_mul, rdI, rdL, iI_lt, iI_le, iI_eq, iI_nat, iI_b2_0, iI_b2_1, mm_bI_some, mm_bV_some, mm_bL_some, mm_bA_some, fd_wL, fd_wR, fl_wI, fl_wR, re_wI, re_wL, re_wC, ite_true, ite_false, not_true_eq_false, not_false_eq_true, lq_ge, lq_le, lq_gt, lq_lt, lq_eq, jI_lt, jI_le, jI_eq, if_pos, if_neg, h5, l1, t1, u1, u2, h53, sq, a1]
  unfold TO
  rw [st, mm_bI_some, kGT_0, T_bad0 (B4.ne (by decide))]
theorem TO_end {P : List Int} (S : ST g b E p gl w P [] C o) (h1 : wno b E p gl ≠ 20) (h2 : wno b E p gl ≠ 19) (hs : 25 ∉ P) : ∃ g', TO d g = some (none, g') ∧ ST g' b E p gl w [] [] (C ++ P) o ∧ Kf QQ nL g g' := by
  have h5 := S.1.2.2.1
  have l := S.len
  rw [List.append_nil] at l
  obtain ⟨g1, l1, R1, l2, k1⟩ := R_look (d := d + 6) S.1
  have S1 := S.tk R1 k1 (Nat.le_refl _)
  have tb := tB_b (p := p) R1.1
  have sq1 := (R_hasSq (d := d + 6) S1.2.1 (by omega)).2 hs
  obtain ⟨g2, t1, R2, _, k2⟩ := (R_takesA (d := d + 4) (a := 314) (k := 20) (by unfold isW; omega) (by omega) rfl R1).2 h1
  obtain ⟨g3, u1, R3, u2, k3⟩ := (R_takesA (d := d + 4) (a := 315) (k := 19) (by unfold isW; omega) (by omega) rfl R2).2 h2
  have S3 := S.tk R3 (k1.trans (k2.trans k3)) (Nat.le_refl _)
  have h53 := R3.2.2.1
  have sq := (R_hasSq (d := d + 6) S3.2.1 (by omega)).2 hs
  obtain ⟨g4, a1, Q4, k4⟩ := R_110 (d := d) P g3 C h53 S3.2.1 (by omega) (by omega)
  refine ⟨g4, ?_, S3.qw Q4 k4 (by rw [List.append_nil, List.length_append (as := C)]; simp only [List.length_nil]; omega) (Nat.zero_le _), (kTQ (k1.trans (k2.trans k3))).trans (kWQ k4)⟩
  have st : sGT d g = some (some (.int (iI 0)), g3) := by
    unfold sGT
    rw [U_X12_qGoesOnTest_0]
    by_cases c : tB b E p = 93
    · simp (disch := omega) only [iI_lit, jI_lit, iI_neg, jI_neg, iI_add, iI_sub, iI_mul, jI_add, jI_sub, jI_mul, rdI, rdL, iI_lt, iI_le, iI_eq, iI_nat, iI_b2_0, iI_b2_1, mm_bI_some, mm_bV_some, mm_bL_some, mm_bA_some, fd_wL, fd_wR, fl_wI, fl_wR, re_wI, re_wL, re_wC, ite_true, ite_false, not_true_eq_false, not_false_eq_true, lq_ge, lq_le, lq_gt, lq_lt, lq_eq, jI_lt, jI_le, jI_eq, if_pos, if_neg, h5, l1, c, sq1, t1, u1, h53, sq]
    · simp (disch := omega) only [iI_lit, jI_lit, iI_neg, jI_neg, iI_add, iI_sub, iI_mul, jI_add, jI_sub, jI_mul, rdI, rdL, iI_lt, iI_le, iI_eq, iI_nat, iI_b2_0, iI_b2_1, mm_bI_some, mm_bV_some, mm_bL_some, mm_bA_some, fd_wL, fd_wR, fl_wI, fl_wR, re_wI, re_wL, re_wC, ite_true, ite_false, not_true_eq_false, not_false_eq_true, lq_ge, lq_le, lq_gt, lq_lt, lq_eq, jI_lt, jI_le, jI_eq, if_pos, if_neg, h5, l1, t1, u1, h53, sq]
  unfold TO
  rw [st, mm_bI_some, kGT_0, T_end, a1]
/-! the reference makes of a test what reading downward makes of it -/
def RTs0 (b : Nat → Int) (E : Nat) (w : Int) (d : Nat) (g : mm_H) (T C : List Int) (o : Nat) (r : RR) : Prop := match r with
  | .inl f => BadT g (sTT d 1 g) f
  | .inr y => ∃ g', isTF d g' (sTT d 1 g) ∧ ST g' b E y.1 y.2.1 w T [] (C ++ y.2.2) o ∧ Kf QQ nL g g'
def RTs1 (b : Nat → Int) (E : Nat) (w : Int) (d : Nat) (g : mm_H) (X : mm_X) (T C : List Int) (o : Nat) (r : RR) : Prop := match r with
  | .inl f => BadT g X f
  | .inr y => ∃ g' P C', X = TO d g' ∧ ST g' b E y.1 y.2.1 w (P ++ T) [] C' o ∧ (∀ z ∈ P, z = 10 ∨ z = 11) ∧ C' ++ P = C ++ y.2.2 ∧ wno b E y.1 y.2.1 ≠ 20 ∧ wno b E y.1 y.2.1 ≠ 19 ∧ Kf QQ nL g g'
theorem RTs1_kf {g0 : mm_H} {X X' : mm_X} {r : RR} (e : X' = X) (k : Kf QQ nL g0 g) (h : RTs1 b E w d g X T C o r) : RTs1 b E w d g0 X' T C o r := by
  subst e
  cases r with
  | inl f => exact BadT.of h k
  | inr y =>
    obtain ⟨g', P, C', a1, a2, a3, a4, a5, a6, a7⟩ := h
    exact ⟨g', P, C', a1, a2, a3, a4, a5, a6, k.trans a7⟩
theorem RTs0_kf {g0 : mm_H} {r : RR} (e : sTT d 1 g0 = sTT d 1 g) (k : Kf QQ nL g0 g) (h : RTs0 b E w d g T C o r) : RTs0 b E w d g0 T C o r := by
  cases r with
  | inl f =>
    show BadT g0 (sTT d 1 g0) f
    rw [e]
    exact BadT.of h k
  | inr y =>
    obtain ⟨g', a1, a2, a3⟩ := h
    exact ⟨g', by rw [e]; exact a1, a2, k.trans a3⟩
def tTk (T : List Int) : Prop := ∀ y, T.head? = some y → y = 10 ∨ y = 11 ∨ y = 12 ∨ y = 25
def tTl (T : List Int) : Prop := ∀ y, T.head? = some y → y = 25
def Rt4 (b : Nat → Int) (E : Nat) (w : Int) (n : Nat) : Prop := ∀ (o p : Nat) (gl : Bool) (d : Nat) (g : mm_H) (T C : List Int) (wt : Int) (c : List Int), o ≤ 6 → 4 * (E - p) + 3 ≤ n → tTk T → ST g b E p gl w T [] C o → RTs0 b E w d g T C o (rd b E w n 4 o p gl wt c)
def Rt3 (b : Nat → Int) (E : Nat) (w : Int) (n : Nat) : Prop := ∀ (o p : Nat) (gl : Bool) (d : Nat) (g : mm_H) (T C : List Int) (wt : Int) (c : List Int), o ≤ 6 → 4 * (E - p) + 4 ≤ n → tTl T → ST g b E p gl w T [] C o → RTs1 b E w d g (sTT d 1 g) T C o (rd b E w n 3 o p gl wt c)
def Rt5 (b : Nat → Int) (E : Nat) (w : Int) (n : Nat) : Prop := ∀ (o p : Nat) (gl : Bool) (d : Nat) (g : mm_H) (T C C0 : List Int) (wt : Int) (c pr : List Int), o ≤ 6 → 4 * (E - p) + 1 ≤ n → tTl T → (wt = 0 ∨ wt = 11) → (∀ z ∈ pr, z = 10) → ST g b E p gl w (pr ++ (wtL wt ++ T)) [] C o → C ++ pr = C0 ++ c → nOf T ≤ o → RTs1 b E w d g (TO d g) T C0 o (rd b E w n 5 o p gl wt c)
theorem hd_ne {v : Int} (h : tTl T) (hv : v ≠ 25) : T.head? ≠ some v := fun z => hv (h v z)
set_option maxHeartbeats 8000000 in
theorem R_t3 {n : Nat} (hE : E ≤ 1600) (h4 : Rt4 b E w n) (h5 : Rt5 b E w n) : Rt3 b E w (n + 1) := by
  intro o p gl d g T C wt c ho hn hT S
  have l := S.len
  have ih := h4 o p gl d g T C 0 [] ho (by omega) (fun y hy => by have := hT y hy; omega) S
  have ok := (Ok_all (b := b) (w := w) hE n).2.2.2.2.1 o p gl 0 [] l.2.1 (by omega)
  rw [rd_3]
  unfold fTest
  revert ih ok
  cases rd b E w n 4 o p gl 0 [] with
  | inl f =>
    intro ih ok
    exact ih
  | inr y =>
    intro ih ok
    obtain ⟨g1, a1, S1, k1⟩ := ih
    have o1 : p + 1 ≤ y.1 := ok.1
    have o2 : y.1 ≤ E := ok.2.1
    have r := h5 o y.1 y.2.1 d g1 T (C ++ y.2.2) C 0 y.2.2 [] ho (by omega) hT (Or.inl rfl) (by simp) S1 (by rw [List.append_nil]) S.2.2.2.2
    exact RTs1_kf (TF_off a1 S1 (hd_ne hT (by omega))) k1 r
theorem wt_n {wt : Int} (hw : wt = 0 ∨ wt = 11) : (∀ z ∈ wtL wt, z = 10 ∨ z = 11) ∧ nOf (wtL wt ++ T) = nOf T ∧ (tTl T → (wtL wt ++ T).head? ≠ some 10) := by
  by_cases c : wt = 0
  · rw [c, show wtL 0 = [] from rfl]
    exact ⟨by simp, rfl, fun h => hd_ne h (by omega)⟩
  · have e : wt = 11 := by omega
    rw [e, show wtL 11 = [11] from rfl]
    exact ⟨by simp, rfl, fun h => by simp⟩
set_option maxHeartbeats 8000000 in
theorem R_t5 {n : Nat} (hE : E ≤ 1600) (h4 : Rt4 b E w n) (h5 : Rt5 b E w n) : Rt5 b E w (n + 1) := by
  intro o p gl d g T C C0 wt c pr ho hn hT hw hpr S hC hof
  have l := S.len
  have ge := tS_ge (b := b) (E := E) (p := p)
  obtain ⟨wn, wo, wh⟩ := wt_n (T := T) hw
  rw [rd_5]
  unfold fTRest
  by_cases c1 : wno b E p gl = 20
  · rw [if_pos c1]
    have ww := wno_w (b := b) (E := E) (p := p) (gl := gl) (by omega)
    have tl := tL_in ww.1
    obtain ⟨g1, a1, S1, k1⟩ := TO_and (d := d) S c1 hpr (wh hT) (by rw [wo]; exact hof)
    have ih := h4 o (tL b E (tS b E p)) true d g1 (10 :: (wtL wt ++ T)) (C ++ pr) 0 [] ho (by omega) (fun (y : Int) (hy : some (10 : Int) = some y) => by have q9 := Option.some.inj hy; omega) S1
    have ok := (Ok_all (b := b) (w := w) hE n).2.2.2.2.1 o (tL b E (tS b E p)) true 0 [] (by omega) (by omega)
    revert ih ok
    cases rd b E w n 4 o (tL b E (tS b E p)) true 0 [] with
    | inl f =>
      intro ih ok
      rw [a1]
      exact BadT.of ih k1
    | inr y =>
      intro ih ok
      obtain ⟨g2, a2, S2, k2⟩ := ih
      have o1 : tL b E (tS b E p) + 1 ≤ y.1 := ok.1
      have o2 : y.1 ≤ E := ok.2.1
      have e2 := TF_off a2 S2 (by simp)
      have r := h5 o y.1 y.2.1 d g2 T (C ++ pr ++ y.2.2) C0 wt (c ++ y.2.2 ++ [10]) [10] ho (by omega) hT hw (by simp) S2 (by rw [hC, List.append_assoc, List.append_assoc, List.append_assoc]) hof
      exact RTs1_kf (a1.trans e2) (k1.trans k2) r
  · rw [if_neg c1]
    by_cases c2 : wno b E p gl = 19
    · rw [if_pos c2]
      have ww := wno_w (b := b) (E := E) (p := p) (gl := gl) (by omega)
      have tl := tL_in ww.1
      rw [← List.append_assoc] at S
      obtain ⟨g1, a1, S1, k1⟩ := TO_or (d := d) S c2 (by
        intro z hz
        rcases List.mem_append.mp hz with q | q
        · exact Or.inl (hpr z q)
        · exact wn z q) (hd_ne hT (by omega)) (hd_ne hT (by omega)) hof
      have ih := h4 o (tL b E (tS b E p)) true d g1 (11 :: T) (C ++ (pr ++ wtL wt)) 0 [] ho (by omega) (fun (y : Int) (hy : some (11 : Int) = some y) => by have q9 := Option.some.inj hy; omega) S1
      have ok := (Ok_all (b := b) (w := w) hE n).2.2.2.2.1 o (tL b E (tS b E p)) true 0 [] (by omega) (by omega)
      revert ih ok
      cases rd b E w n 4 o (tL b E (tS b E p)) true 0 [] with
      | inl f =>
        intro ih ok
        rw [a1]
        exact BadT.of ih k1
      | inr y =>
        intro ih ok
        obtain ⟨g2, a2, S2, k2⟩ := ih
        have o1 : tL b E (tS b E p) + 1 ≤ y.1 := ok.1
        have o2 : y.1 ≤ E := ok.2.1
        have e2 := TF_off a2 S2 (by simp)
        have r := h5 o y.1 y.2.1 d g2 T (C ++ (pr ++ wtL wt) ++ y.2.2) C0 11 (c ++ wtL wt ++ y.2.2) [] ho (by omega) hT (Or.inr rfl) (by simp) S2 (by rw [List.append_nil, ← List.append_assoc, hC, List.append_assoc, List.append_assoc, List.append_assoc]) hof
        exact RTs1_kf (a1.trans e2) (k1.trans k2) r
    · rw [if_neg c2]
      rw [← List.append_assoc] at S
      refine ⟨g, pr ++ wtL wt, C, rfl, S, ?_, ?_, c1, c2, Kf.refl⟩
      · intro z hz
        rcases List.mem_append.mp hz with q | q
        · exact Or.inl (hpr z q)
        · exact wn z q
      · show C ++ (pr ++ wtL wt) = C0 ++ (c ++ wtL wt)
        rw [← List.append_assoc, hC, List.append_assoc]
set_option maxHeartbeats 8000000 in
theorem R_t4 {n : Nat} (hE : E ≤ 1600) (w0 : 0 ≤ w) (w3 : w ≤ 3) (h3 : Rt3 b E w n) (h4 : Rt4 b E w n) : Rt4 b E w (n + 1) := by
  intro o p gl d g T C wt c ho hn hT S
  have l := S.len
  have ge := tS_ge (b := b) (E := E) (p := p)
  have hof := S.2.2.2.2
  have h5 := S.1.2.2.1
  rw [rd_4]
  unfold fFact
  by_cases c1 : wno b E p gl = 21
  · rw [if_pos c1]
    have ww := wno_w (b := b) (E := E) (p := p) (gl := gl) (by omega)
    have tl := tL_in ww.1
    have nt := TE_not (d := d) S ho c1
    by_cases o6 : o < 6
    · rw [if_pos o6]
      obtain ⟨g1, a1, S1, k1⟩ := nt.1 o6
      refine RTs0_kf a1 k1 ?_
      have ih := h4 (o + 1) (tL b E (tS b E p)) true d g1 (12 :: T) C 0 [] (by omega) (by omega) (fun (y : Int) (hy : some (12 : Int) = some y) => by have q9 := Option.some.inj hy; omega) S1
      revert ih
      cases rd b E w n 4 (o + 1) (tL b E (tS b E p)) true 0 [] with
      | inl f =>
        intro ih
        exact ih
      | inr y =>
        intro ih
        obtain ⟨g2, b1, S2, k2⟩ := ih
        obtain ⟨g3, d1, S3, k3⟩ := TF_on b1 S2 (by omega) hof
        rw [List.append_assoc] at S3
        exact ⟨g3, d1, S3, k2.trans k3⟩
    · rw [if_neg o6]
      exact nt.2 o6
  · rw [if_neg c1]
    by_cases c2 : tB b E p = 91
    · rw [if_pos c2]
      have lt := tB_in c2 (by decide)
      have sq := TE_sq (d := d) S ho c2
      by_cases o6 : o < 6
      · rw [if_pos o6]
        obtain ⟨g1, a1, S1, k1⟩ := sq.1 o6
        refine RTs0_kf a1 k1 ?_
        have ih := h3 (o + 1) (tS b E p + 1) false d g1 (25 :: T) C 0 [] (by omega) (by omega) (fun (y : Int) (hy : some (25 : Int) = some y) => by have q9 := Option.some.inj hy; omega) S1
        revert ih
        cases rd b E w n 3 (o + 1) (tS b E p + 1) false 0 [] with
        | inl f =>
          intro ih
          exact ih
        | inr y =>
          intro ih
          obtain ⟨g2, P, C', b1, S2, b3, b4, b5, b6, k2⟩ := ih
          show RTs0 b E w d g1 T C o (if tB b E y.1 = 93 then _ else _)
          by_cases c3 : tB b E y.1 = 93
          · rw [if_pos c3]
            obtain ⟨g3, d1, S3, k3⟩ := TO_close (d := d) S2 c3 b3 ho hof
            rw [b4] at S3
            exact ⟨g3, Or.inr (b1.trans d1), S3, k2.trans k3⟩
          · rw [if_neg c3]
            have bd := TO_clbad (d := d) S2 b5 b6 c3 ((mem_t b3).mpr List.mem_cons_self)
            show BadT g1 (sTT d 1 g1) _
            rw [b1]
            exact BadT.of bd k2
      · rw [if_neg o6]
        exact sq.2 o6
    · rw [if_neg c2]
      obtain ⟨g1, l1, R1, l2, k1⟩ := R_look (d := d + 7) S.1
      have S1 := S.tk R1 k1 (Nat.le_refl _)
      have tb := tB_b (p := p) R1.1
      have q1 := R_hereA (d := d + 6) (a := 313) (k := 21) (by unfold isW; omega) (by omega) rfl R1 l2
      rw [b2_f c1] at q1
      have fc := R_fact (d := d) (n := n) w0 w3 S1 ho (by omega) (fun y hy => by have := hT y hy; omega)
      have ok : ∀ f, (if wno b E p gl = 22 then (.inr (tL b E (tS b E p), true, [13]) : RR) else fThen (rd b E w n 1 o p gl 0 []) (fun q _ c1 => if opC (tB b E q) ≠ 0 then fThen (rd b E w n 1 o (tS b E q + 1) false 0 []) (fun r g2 c2 => .inr (r, g2, c1 ++ c2 ++ [opC (tB b E q)])) else .inl (1, (tS b E q : Int)))) = .inl f → f.1 ≠ 0 := by
        intro f hf
        have o4 := (Ok_all (b := b) (w := w) hE (n + 1)).2.2.2.2.1 o p gl 0 [] l.2.1 (by omega)
        rw [rd_4] at o4
        unfold fFact at o4
        rw [if_neg c1, if_neg c2, hf] at o4
        have : f.1 = 1 ∨ f.1 = 2 ∨ f.1 = 4 := o4.1
        omega
      have st : sTT d 1 g = mm_bV (mm_M mm_T0 (d + 8) 299 [.ref 264] g1) (fun h => TF d h) := by
        unfold sTT
        rw [U_X12_qTest_2]
        unfold TF kTT TO kGT
        simp only [← R_gt]
        unfold sTT
        simp (disch := omega) only [iI_lit, jI_lit, iI_neg, jI_neg, iI_add, iI_sub, iI_mul, jI_add, jI_sub, jI_mul, rdI, rdL, iI_lt, iI_le, iI_eq, iI_nat, iI_b2_0, iI_b2_1, mm_bI_some, mm_bV_some, mm_bL_some, mm_bA_some, fd_wL, fd_wR, fl_wI, fl_wR, re_wI, re_wL, re_wC, ite_true, ite_false, not_true_eq_false, not_false_eq_true, lq_ge, lq_le, lq_gt, lq_lt, lq_eq, jI_lt, jI_le, jI_eq, if_pos, if_neg, h5, l1, q1]
      revert fc ok
      generalize (if wno b E p gl = 22 then (.inr (tL b E (tS b E p), true, [13]) : RR) else fThen (rd b E w n 1 o p gl 0 []) (fun q _ c1 => if opC (tB b E q) ≠ 0 then fThen (rd b E w n 1 o (tS b E q + 1) false 0 []) (fun r g2 c2 => .inr (r, g2, c1 ++ c2 ++ [opC (tB b E q)])) else .inl (1, (tS b E q : Int)))) = r
      cases r with
      | inl f =>
        intro fc ok
        obtain ⟨g2, b1, b2', k2⟩ := fc
        have b5 := b2'.ne (ok f rfl)
        refine ⟨g2, ?_, b2', (kTQ k1).trans k2⟩
        rw [st, b1, mm_bV_some]
        unfold TF
        rw [U_X12_qDropsNots, if_pos (bad_1 b5), mm_bV_some, kTT_bad b5]
      | inr y =>
        intro fc ok
        obtain ⟨g2, b1, S2, k2⟩ := fc
        refine ⟨g2, Or.inl ?_, S2, (kTQ k1).trans k2⟩
        rw [st, b1, mm_bV_some]
theorem Rt_all (hE : E ≤ 1600) (w0 : 0 ≤ w) (w3 : w ≤ 3) : ∀ n, Rt3 b E w n ∧ Rt4 b E w n ∧ Rt5 b E w n
  | 0 => ⟨fun _ _ _ _ _ _ _ _ _ _ h => by omega, fun _ _ _ _ _ _ _ _ _ _ h => by omega, fun _ _ _ _ _ _ _ _ _ _ _ _ h => by omega⟩
  | n + 1 => by
    obtain ⟨h3, h4, h5⟩ := Rt_all hE w0 w3 n
    exact ⟨R_t3 hE h4 h5, R_t4 hE w0 w3 h3 h4, R_t5 hE h4 h5⟩
set_option maxHeartbeats 8000000 in
/-- a whole test -/
theorem R_test {n : Nat} (w0 : 0 ≤ w) (w3 : w ≤ 3) (S : ST g b E p gl w [] [] C o) (ho : o ≤ 6) (hn : 4 * (E - p) + 4 ≤ n) {wt : Int} {c : List Int} : match rd b E w n 3 o p gl wt c with
    | .inl f => ∃ g', mm_M mm_T0 (d + 9) 302 [.ref 264] g = some (none, g') ∧ Bad g' f.1 f.2 ∧ Kf QQ nL g g'
    | .inr y => ∃ g', mm_M mm_T0 (d + 9) 302 [.ref 264] g = some (none, g') ∧ ST g' b E y.1 y.2.1 w [] [] (C ++ y.2.2) o ∧ Kf QQ nL g g' := by
  have l := S.len
  have st : mm_M mm_T0 (d + 9) 302 [.ref 264] g = sTT d 1 g := by
    rw [U_X12_qTest]
    rfl
  have r := (Rt_all (b := b) (E := E) (w := w) l.2.2 w0 w3 n).1 o p gl d g [] C wt c ho hn (by intro y hy; exact absurd hy (by simp)) S
  rw [st]
  revert r
  cases rd b E w n 3 o p gl wt c with
  | inl f =>
    intro r
    exact r
  | inr y =>
    intro r
    obtain ⟨g2, P, C', a1, S2, a3, a4, a5, a6, k2⟩ := r
    rw [List.append_nil] at S2
    obtain ⟨g3, b1, S3, k3⟩ := TO_end (d := d) S2 a5 a6 (fun z => by have := a3 25 z; omega)
    rw [a4] at S3
    exact ⟨g3, a1.trans b1, S3, k2.trans k3⟩
end RTO
