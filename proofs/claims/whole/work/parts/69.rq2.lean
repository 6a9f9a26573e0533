/-! the places in the reference's reading of sums: E before a part, F behind one, O before what goes on -/
noncomputable def sPT (d : Nat) (g : mm_H) : mm_X := mm_D (mm_M mm_T0 (d + 5)) cd_X12_qPartTold 2 [.ref 264, .int (iI 1), .null, .null, .null, .null] [] g
noncomputable def sGO (d : Nat) (g : mm_H) : mm_X := mm_D (mm_M mm_T0 (d + 5)) cd_X12_qGoesOn 0 [.ref 264, .null] [] g
noncomputable def sQS (d : Nat) (x : Int32) (v : Int) (g : mm_H) : mm_X := mm_D (mm_M mm_T0 (d + 6)) cd_X12_qSums 15 [.ref 264, .int x, .int (iI v)] [] g
noncomputable def kG (d : Nat) (x : Int32) : Int32 → mm_H → mm_X := fun v g => if v = 0 then sQS d x 0 g else sQS d x 1 g
noncomputable def MO (d : Nat) (x : Int32) (g : mm_H) : mm_X := mm_bI (sGO d g) (kG d x)
noncomputable def kS (d : Nat) (x : Int32) : mm_H → mm_X := fun g => if ¬ g.1 264 5 = 0 then sQS d x 0 g else MO d x g
noncomputable def ME (d : Nat) (x : Int32) (g : mm_H) : mm_X := mm_bV (sPT d g) (kS d x)
noncomputable def MF (d : Nat) (x : Int32) (g : mm_H) : mm_X := mm_bV (mm_M mm_T0 (d + 5) 295 [.ref 264] g) (kS d x)
/-- the whole of a state -/
def ST (g : mm_H) (b : Nat → Int) (E p : Nat) (gl : Bool) (w : Int) (T U C : List Int) (o : Nat) : Prop := RS g b E p gl ∧ Qst g T U C o ∧ fd g 264 54 = w ∧ (T ++ U).length + C.length ≤ p ∧ nOf T ≤ o
section RM
variable {d : Nat} {x : Int32} {g : mm_H} {b : Nat → Int} {E p : Nat} {gl : Bool} {w : Int} {T U C : List Int} {o : Nat}
theorem i0 : (0 : Int32) = iI 0 := rfl
theorem bad_1 {g : mm_H} (h : fd g 264 5 ≠ 0) : ¬ g.1 264 5 = 0 := by
  rw [rdI, i0]
  have := fd_lo g 264 5
  have := fd_hi g 264 5
  rw [iI_eq (by omega) (by omega) (by omega) (by omega)]
  exact h
theorem bad_0 {g : mm_H} (h : fd g 264 5 = 0) : g.1 264 5 = 0 := by
  rw [rdI, h]
  rfl
set_option maxHeartbeats 8000000 in
theorem R_go : mm_M mm_T0 (d + 6) 297 [.ref 264] g = sGO d g := by
  unfold sGO
  rw [U_X12_qGoesOn, U_X12_qGoesOn_0]
set_option maxHeartbeats 8000000 in
theorem R_loop1 (h : fd g 264 5 = 0) : sQS d x 1 g = ME d x g := by
  unfold ME kS MO kG sPT
  have e : mm_M mm_T0 (d + 6) 296 [.ref 264] g = mm_D (mm_M mm_T0 (d + 5)) cd_X12_qPartTold 2 [.ref 264, .int (iI 1), .null, .null, .null, .null] [] g := by
    rw [U_X12_qPartTold]
    rfl
  conv => lhs; unfold sQS
  rw [U_X12_qSums_15, if_neg (by decide), if_neg (fun z => z (bad_0 h)), e]
  refine mm_congV (fun h1 => ?_)
  rw [R_go]
  rfl
set_option maxHeartbeats 8000000 in
theorem R_loop0 : sQS d x 0 g = mm_D (mm_M mm_T0 (d + 6)) cd_X12_qSums 53 [.ref 264, .int x, .null] [] g := by
  unfold sQS
  rw [U_X12_qSums_15, if_pos (by decide)]
set_option maxHeartbeats 8000000 in
theorem R_bad0 (h : fd g 264 5 ≠ 0) : sQS d x 0 g = some (none, wI g 264 106 x) := by
  rw [R_loop0, U_X12_qSums_53, if_pos (bad_1 h)]
theorem kS_bad (h : fd g 264 5 ≠ 0) : kS d x g = some (none, wI g 264 106 x) := by
  unfold kS
  rw [if_pos (bad_1 h), R_bad0 h]
theorem kS_ok (h : fd g 264 5 = 0) : kS d x g = MO d x g := by
  unfold kS
  rw [if_neg (fun z => z (bad_0 h))]
set_option maxHeartbeats 8000000 in
/-- the loop's end: all that waits above the base is coded -/
theorem R_end53 : ∀ (P : List Int) (g : mm_H) (C : List Int), fd g 264 5 = 0 → Qst g P U C o → (P ++ U).length ≤ 1600 → C.length + P.length < 1700 → ∃ g', mm_D (mm_M mm_T0 (d + 6)) cd_X12_qSums 53 [.ref 264, .int x, .null] [] g = some (none, wI g' 264 106 x) ∧ Qst g' [] U (C ++ P) o ∧ Kf Qwk nL g g'
  | [], g, C, h5, S, hn, hc => by
    have e := S.1.1
    have e6 := S.2.2.2
    rw [List.nil_append] at e hn
    refine ⟨g, ?_, by rw [List.append_nil]; exact S, Kf.refl⟩
    rw [U_X12_qSums_53]
    simp (disch := omega) only [iI_lit, jI_lit, iI_neg, jI_neg, iI_add, iI_sub, iI_mul, jI_add, jI_sub, jI_mul, rdI, rdL, iI_lt, iI_le, iI_eq, iI_nat, iI_b2_0, iI_b2_1, mm_bI_some, mm_bV_some, mm_bL_some, mm_bA_some, fd_wL, fd_wR, fl_wI, fl_wR, re_wI, re_wL, re_wC, ite_true, ite_false, not_true_eq_false, not_false_eq_true, lq_ge, lq_le, lq_gt, lq_lt, lq_eq, jI_lt, jI_le, jI_eq, if_pos, if_neg, h5, e, e6]
  | y :: P, g, C, h5, S, hn, hc => by
    have e := S.1.1
    have e6 := S.2.2.2
    rw [List.cons_append, List.length_cons] at e hn
    rw [List.length_cons] at hc
    have ul : U.length ≤ (P ++ U).length := by rw [List.length_append]; omega
    obtain ⟨g1, m1, S1, k1⟩ := R_drop (d := d + 4) S (by omega) (by omega)
    obtain ⟨g2, n1, S2, k2⟩ := R_end53 P g1 (C ++ [y]) ((k1.1 264 5 (by unfold Qwk; omega)).trans h5) S1 (by omega) (by rw [List.length_append, List.length_singleton]; omega)
    refine ⟨g2, ?_, by rw [List.append_assoc] at S2; exact S2, k1.trans k2⟩
    rw [← n1, U_X12_qSums_53]
    simp (disch := omega) only [iI_lit, jI_lit, iI_neg, jI_neg, iI_add, iI_sub, iI_mul, jI_add, jI_sub, jI_mul, rdI, rdL, iI_lt, iI_le, iI_eq, iI_nat, iI_b2_0, iI_b2_1, mm_bI_some, mm_bV_some, mm_bL_some, mm_bA_some, fd_wL, fd_wR, fl_wI, fl_wR, re_wI, re_wL, re_wC, ite_true, ite_false, not_true_eq_false, not_false_eq_true, lq_ge, lq_le, lq_gt, lq_lt, lq_eq, jI_lt, jI_le, jI_eq, if_pos, if_neg, h5, e, e6, m1]
theorem ST.len (S : ST g b E p gl w T U C o) : (T ++ U).length + C.length ≤ p ∧ p ≤ E ∧ E ≤ 1600 := ⟨S.2.2.2.1, S.1.2.1, S.1.1.2.1⟩
theorem ST.tk {g' : mm_H} {q : Nat} {g2 : Bool} (S : ST g b E p gl w T U C o) (R : RS g' b E q g2) (k : Kf QTk nL g g') (hq : p ≤ q) : ST g' b E q g2 w T U C o := ⟨R, S.2.1.tk k, (k.1 264 54 (by unfold QTk; omega)).trans S.2.2.1, by have := S.2.2.2.1; omega, S.2.2.2.2⟩
theorem ST.qw {g' : mm_H} {T' U' C' : List Int} {o' : Nat} (S : ST g b E p gl w T U C o) (Q : Qst g' T' U' C' o') (k : Kf Qwk nL g g') (hl : (T' ++ U').length + C'.length ≤ p) (ho : nOf T' ≤ o') : ST g' b E p gl w T' U' C' o' := ⟨S.1.kw k, Q, (k.1 264 54 (by unfold Qwk; omega)).trans S.2.2.1, hl, ho⟩
/-- behind a part with nothing that waits for one: on -/
theorem MF_off (S : ST g b E p gl w T U C o) (hx : ∀ y r, T = y :: r → y < 60) : MF d x g = MO d x g := by
  have l := S.len
  unfold MF
  rw [R_ends (d := d + 2), R_ends_off (d := d + 2) S.2.1 hx (by omega)]
  show kS d x g = _
  exact kS_ok S.1.2.2.1
theorem MF_on {y : Int} (S : ST g b E p gl w (y :: T) U C (o + 1)) (hy : 60 ≤ y) (ho : nOf T ≤ o) : ∃ g', MF d x g = MF d x g' ∧ ST g' b E p gl w T U (C ++ [y]) o ∧ Kf QQ nL g g' := by
  have l := S.len
  rw [List.cons_append, List.length_cons] at l
  obtain ⟨g', m1, m2, m3⟩ := R_ends_on (d := d + 2) S.2.1 S.1.2.2.1 hy (by omega) (by omega)
  refine ⟨g', ?_, S.qw m2 m3 (by rw [List.length_append (as := C), List.length_singleton]; omega) ho, kWQ m3⟩
  unfold MF
  rw [R_ends (d := d + 2), R_ends (d := d + 2), m1]
/-- the same place, reached from within -/
theorem MF_in (S : ST g b E p gl w T U C o) : mm_bI (mm_bV (mm_M mm_T0 (d + 5) 295 [.ref 264] g) (fun h => sGO d h)) (kG d x) = MF d x g := by
  have l := S.len
  have ll := List.length_append (as := T) (bs := U)
  obtain ⟨g', m1, m2⟩ := R_ends_all (d := d + 2) T g C o S.2.1 S.1.2.2.1 S.2.2.2.2 (by omega) (by omega)
  unfold MF
  rw [R_ends (d := d + 2), m1]
  show MO d x g' = kS d x g'
  rw [kS_ok m2]
/-- the outcome of a fault -/
def BadO (x : Int32) (g : mm_H) (X : mm_X) (f : Int × Int) : Prop := ∃ g', X = some (none, wI g' 264 106 x) ∧ (Bad g' f.1 f.2 ∧ 0 ≤ fd g' 264 102 ∧ fd g' 264 102 ≤ 1650) ∧ Kf QQ nL g g'
theorem Qst.cb {g' : mm_H} {Q L : Nat → Nat → Prop} (S : Qst g T U C o) (k : Kf Q L g g') (q : ¬ Q 264 102) (hc : C.length ≤ 1600) : 0 ≤ fd g' 264 102 ∧ fd g' 264 102 ≤ 1650 := by
  rw [k.1 _ _ q, S.2.1.1]
  omega
theorem BadO.of {g0 : mm_H} {X : mm_X} {f : Int × Int} (h : BadO x g X f) (k : Kf QQ nL g0 g) : BadO x g0 X f := by
  obtain ⟨g', a1, a2, a3⟩ := h
  exact ⟨g', a1, a2, k.trans a3⟩
end RM
/-! on behind a part: products and sums -/
section RGO
variable {d : Nat} {x : Int32} {g : mm_H} {b : Nat → Int} {E p : Nat} {gl : Bool} {w : Int} {T U C : List Int} {o : Nat}
set_option maxHeartbeats 8000000 in
theorem R_162 {op : Int} (hop : 0 ≤ op ∧ op ≤ 100) (hT : ∀ y, (T ++ U).head? = some y → y ≠ 3 ∧ y ≠ 4) : ∀ (P : List Int) (g : mm_H) (C : List Int), (∀ y ∈ P, y = 3 ∨ y = 4) → Qst g (P ++ T) U C o → (P ++ T ++ U).length < 1600 → C.length + P.length < 1700 → ∃ g', mm_D (mm_M mm_T0 (d + 5)) cd_X12_qGoesOn 162 [.ref 264, .int (iI op)] [] g = some (some (.int (iI 1)), g') ∧ Qst g' (op :: T) U (C ++ P) o ∧ Kf Qwk nL g g'
  | [], g, C, hP, S, hn, hc => by
    rw [List.nil_append] at S hn
    have q3 := R_isOn (d := d + 4) (x := 3) S (by omega) (by omega) (by omega)
    have q4 := R_isOn (d := d + 4) (x := 4) S (by omega) (by omega) (by omega)
    rw [b2_f (fun z => (hT _ z).1 rfl)] at q3
    rw [b2_f (fun z => (hT _ z).2 rfl)] at q4
    have e := S.1.1
    have nn : (((T ++ U).length : Nat) : Int).toNat = (T ++ U).length := by omega
    obtain ⟨S1, f1, k1⟩ := R_push (x := op) S (by omega) (by omega) (by omega)
    refine ⟨_, ?_, by rw [List.append_nil]; exact S1, k1⟩
    rw [U_X12_qGoesOn_162]
    simp (disch := omega) only [iI_lit, jI_lit, iI_neg, jI_neg, iI_add, iI_sub, iI_mul, jI_add, jI_sub, jI_mul, rdI, rdL, iI_lt, iI_le, iI_eq, iI_nat, iI_b2_0, iI_b2_1, mm_bI_some, mm_bV_some, mm_bL_some, mm_bA_some, fd_wL, fd_wR, fl_wI, fl_wR, re_wI, re_wL, re_wC, ite_true, ite_false, not_true_eq_false, not_false_eq_true, lq_ge, lq_le, lq_gt, lq_lt, lq_eq, jI_lt, jI_le, jI_eq, if_pos, if_neg, q3, q4, e, nn, f1]
  | y :: P, g, C, hP, S, hn, hc => by
    have yy := hP y List.mem_cons_self
    have q3 := R_isOn (d := d + 4) (x := 3) S (by omega) (by omega) (by omega)
    have q4 := R_isOn (d := d + 4) (x := 4) S (by omega) (by omega) (by omega)
    rw [List.cons_append, List.cons_append, List.length_cons] at hn
    rw [List.length_cons] at hc
    obtain ⟨g1, m1, S1, k1⟩ := R_drop (d := d + 3) (x := y) (T := P ++ T) S (by omega) (by omega)
    obtain ⟨g2, n1, S2, k2⟩ := R_162 hop hT P g1 (C ++ [y]) (fun z hz => hP z (List.mem_cons_of_mem _ hz)) S1 (by omega) (by rw [List.length_append, List.length_singleton]; omega)
    refine ⟨g2, ?_, by rw [List.append_assoc] at S2; exact S2, k1.trans k2⟩
    rw [← n1, U_X12_qGoesOn_162]
    rcases yy with z | z
    · rw [b2_t (by rw [z]; rfl)] at q3
      simp (disch := omega) only [iI_lit, jI_lit, iI_neg, jI_neg, iI_add, iI_sub, iI_mul, jI_add, jI_sub, jI_mul, rdI, rdL, iI_lt, iI_le, iI_eq, iI_nat, iI_b2_0, iI_b2_1, mm_bI_some, mm_bV_some, mm_bL_some, mm_bA_some, fd_wL, fd_wR, fl_wI, fl_wR, re_wI, re_wL, re_wC, ite_true, ite_false, not_true_eq_false, not_false_eq_true, lq_ge, lq_le, lq_gt, lq_lt, lq_eq, jI_lt, jI_le, jI_eq, if_pos, if_neg, q3, m1]
    · rw [b2_f (by rw [z]; simp)] at q3
      rw [b2_t (by rw [z]; rfl)] at q4
      simp (disch := omega) only [iI_lit, jI_lit, iI_neg, jI_neg, iI_add, iI_sub, iI_mul, jI_add, jI_sub, jI_mul, rdI, rdL, iI_lt, iI_le, iI_eq, iI_nat, iI_b2_0, iI_b2_1, mm_bI_some, mm_bV_some, mm_bL_some, mm_bA_some, fd_wL, fd_wR, fl_wI, fl_wR, re_wI, re_wL, re_wC, ite_true, ite_false, not_true_eq_false, not_false_eq_true, lq_ge, lq_le, lq_gt, lq_lt, lq_eq, jI_lt, jI_le, jI_eq, if_pos, if_neg, q3, q4, m1]
set_option maxHeartbeats 8000000 in
theorem R_247 {op : Int} (hop : 0 ≤ op ∧ op ≤ 100) (hT : ∀ y, (T ++ U).head? = some y → y ≠ 1 ∧ y ≠ 2 ∧ y ≠ 3 ∧ y ≠ 4) : ∀ (P : List Int) (g : mm_H) (C : List Int), (∀ y ∈ P, y = 1 ∨ y = 2 ∨ y = 3 ∨ y = 4) → Qst g (P ++ T) U C o → (P ++ T ++ U).length < 1600 → C.length + P.length < 1700 → ∃ g', mm_D (mm_M mm_T0 (d + 5)) cd_X12_qGoesOn 247 [.ref 264, .int (iI op)] [] g = some (some (.int (iI 1)), g') ∧ Qst g' (op :: T) U (C ++ P) o ∧ Kf Qwk nL g g'
  | [], g, C, hP, S, hn, hc => by
    rw [List.nil_append] at S hn
    have q1 := R_isOn (d := d + 4) (x := 1) S (by omega) (by omega) (by omega)
    have q2 := R_isOn (d := d + 4) (x := 2) S (by omega) (by omega) (by omega)
    have q3 := R_isOn (d := d + 4) (x := 3) S (by omega) (by omega) (by omega)
    have q4 := R_isOn (d := d + 4) (x := 4) S (by omega) (by omega) (by omega)
    rw [b2_f (fun z => (hT _ z).1 rfl)] at q1
    rw [b2_f (fun z => (hT _ z).2.1 rfl)] at q2
    rw [b2_f (fun z => (hT _ z).2.2.1 rfl)] at q3
    rw [b2_f (fun z => (hT _ z).2.2.2 rfl)] at q4
    have e := S.1.1
    have nn : (((T ++ U).length : Nat) : Int).toNat = (T ++ U).length := by omega
    obtain ⟨S1, f1, k1⟩ := R_push (x := op) S (by omega) (by omega) (by omega)
    refine ⟨_, ?_, by rw [List.append_nil]; exact S1, k1⟩
    rw [U_X12_qGoesOn_247]
    simp (disch := omega) only [iI_lit, jI_lit, iI_neg, jI_neg, iI_add, iI_sub, iI_mul, jI_add, jI_sub, jI_mul, rdI, rdL, iI_lt, iI_le, iI_eq, iI_nat, iI_b2_0, iI_b2_1, mm_bI_some, mm_bV_some, mm_bL_some, mm_bA_some, fd_wL, fd_wR, fl_wI, fl_wR, re_wI, re_wL, re_wC, ite_true, ite_false, not_true_eq_false, not_false_eq_true, lq_ge, lq_le, lq_gt, lq_lt, lq_eq, jI_lt, jI_le, jI_eq, if_pos, if_neg, q1, q2, q3, q4, e, nn, f1]
  | y :: P, g, C, hP, S, hn, hc => by
    have yy := hP y List.mem_cons_self
    have q1 := R_isOn (d := d + 4) (x := 1) S (by omega) (by omega) (by omega)
    have q2 := R_isOn (d := d + 4) (x := 2) S (by omega) (by omega) (by omega)
    have q3 := R_isOn (d := d + 4) (x := 3) S (by omega) (by omega) (by omega)
    have q4 := R_isOn (d := d + 4) (x := 4) S (by omega) (by omega) (by omega)
    rw [List.cons_append, List.cons_append, List.length_cons] at hn
    rw [List.length_cons] at hc
    obtain ⟨g1, m1, S1, k1⟩ := R_drop (d := d + 3) (x := y) (T := P ++ T) S (by omega) (by omega)
    obtain ⟨g2, n1, S2, k2⟩ := R_247 hop hT P g1 (C ++ [y]) (fun z hz => hP z (List.mem_cons_of_mem _ hz)) S1 (by omega) (by rw [List.length_append, List.length_singleton]; omega)
    refine ⟨g2, ?_, by rw [List.append_assoc] at S2; exact S2, k1.trans k2⟩
    rw [← n1, U_X12_qGoesOn_247]
    rcases yy with z | z | z | z
    · rw [b2_f (by rw [z]; simp)] at q3 q4
      rw [b2_t (by rw [z]; rfl)] at q1
      simp (disch := omega) only [iI_lit, jI_lit, iI_neg, jI_neg, iI_add, iI_sub, iI_mul, jI_add, jI_sub, jI_mul, rdI, rdL, iI_lt, iI_le, iI_eq, iI_nat, iI_b2_0, iI_b2_1, mm_bI_some, mm_bV_some, mm_bL_some, mm_bA_some, fd_wL, fd_wR, fl_wI, fl_wR, re_wI, re_wL, re_wC, ite_true, ite_false, not_true_eq_false, not_false_eq_true, lq_ge, lq_le, lq_gt, lq_lt, lq_eq, jI_lt, jI_le, jI_eq, if_pos, if_neg, q3, q4, q1, m1]
    · rw [b2_f (by rw [z]; simp)] at q3 q4 q1
      rw [b2_t (by rw [z]; rfl)] at q2
      simp (disch := omega) only [iI_lit, jI_lit, iI_neg, jI_neg, iI_add, iI_sub, iI_mul, jI_add, jI_sub, jI_mul, rdI, rdL, iI_lt, iI_le, iI_eq, iI_nat, iI_b2_0, iI_b2_1, mm_bI_some, mm_bV_some, mm_bL_some, mm_bA_some, fd_wL, fd_wR, fl_wI, fl_wR, re_wI, re_wL, re_wC, ite_true, ite_false, not_true_eq_false, not_false_eq_true, lq_ge, lq_le, lq_gt, lq_lt, lq_eq, jI_lt, jI_le, jI_eq, if_pos, if_neg, q3, q4, q1, q2, m1]
    · rw [b2_t (by rw [z]; rfl)] at q3
      simp (disch := omega) only [iI_lit, jI_lit, iI_neg, jI_neg, iI_add, iI_sub, iI_mul, jI_add, jI_sub, jI_mul, rdI, rdL, iI_lt, iI_le, iI_eq, iI_nat, iI_b2_0, iI_b2_1, mm_bI_some, mm_bV_some, mm_bL_some, mm_bA_some, fd_wL, fd_wR, fl_wI, fl_wR, re_wI, re_wL, re_wC, ite_true, ite_false, not_true_eq_false, not_false_eq_true, lq_ge, lq_le, lq_gt, lq_lt, lq_eq, jI_lt, jI_le, jI_eq, if_pos, if_neg, q3, m1]
    · rw [b2_f (by rw [z]; simp)] at q3
      rw [b2_t (by rw [z]; rfl)] at q4
      simp (disch := omega) only [iI_lit, jI_lit, iI_neg, jI_neg, iI_add, iI_sub, iI_mul, jI_add, jI_sub, jI_mul, rdI, rdL, iI_lt, iI_le, iI_eq, iI_nat, iI_b2_0, iI_b2_1, mm_bI_some, mm_bV_some, mm_bL_some, mm_bA_some, fd_wL, fd_wR, fl_wI, fl_wR, re_wI, re_wL, re_wC, ite_true, ite_false, not_true_eq_false, not_false_eq_true, lq_ge, lq_le, lq_gt, lq_lt, lq_eq, jI_lt, jI_le, jI_eq, if_pos, if_neg, q3, q4, m1]
set_option maxHeartbeats 8000000 in
/-- a product's or a sum's sign is taken -/
theorem R_go_op (R : RS g b E p gl) (h : tB b E p = 42 ∨ tB b E p = 47) : ∃ g', sGO d g = mm_D (mm_M mm_T0 (d + 5)) cd_X12_qGoesOn 162 [.ref 264, .int (iI (opP (tB b E p)))] [] g' ∧ RS g' b E (tS b E p + 1) false ∧ Kf QTk nL g g' := by
  have h5 := R.2.2.1
  have hE := R.1.2.1
  have lt : tS b E p < E := by
    rcases h with z | z
    · exact tB_in z (by decide)
    · exact tB_in z (by decide)
  have tbv : tB b E p = b (tS b E p) := by
    unfold tB
    rw [if_pos lt]
  obtain ⟨g1, l1, R1, l2, l3⟩ := R_look (d := d + 4) R
  have s1 := R_takesSign (d := d + 3) (c := 42) R1 (by omega) (by omega)
  rcases h with z | z
  · obtain ⟨g2, t1, R2, t2, t3⟩ := s1.1 z
    refine ⟨g2, ?_, R2, l3.trans t3⟩
    have e1 : (tS b E p : Int) + 1 - 1 = (tS b E p : Nat) := by omega
    have nn : ((tS b E p : Nat) : Int).toNat = tS b E p := by omega
    have v := R2.1.2.2.1 _ lt
    have v1 := v.1
    rw [← tbv, z] at v1
    rw [z] at l1 ⊢
    rw [show opP 42 = 3 from rfl]
    have cl : (iI ((tS b E p : Nat) : Int)).toNatClampNeg = tS b E p := by rw [iI_nat (by omega) (by omega)]; exact nn
    have f0 : (iI ((tS b E p : Nat) : Int) < iI 0) = False := iL_f (by omega) (by omega) (by omega) (by omega) (by omega)
    have f1 : (1600 ≤ tS b E p) = False := eq_false (by omega)
    have r5 := rdE h5
    have rv := rdE v1
    have rx := rdE t2
    unfold sGO
    rw [U_X12_qGoesOn_0]
    (try simp only [iI_lit, iI_neg]) <;> simp (maxSteps := 1000000) (disch := decide) only [iI_lit, iI_neg, iI_add, ↓reduceIte, i10, i00, i11, eq_self, not_true_eq_false, not_false_eq_true, ite_true, ite_false, if_true, if_false, and_true, true_and, and_false, false_and, and_self, or_self, or_false, false_or, or_true, true_or, iI_eq, iI_lt, iI_le, Int.reduceEq, Int.reduceLT, Int.reduceLE, r5, ↓bI_eq l1, ↓bI_eq t1, rx, iI_sub, e1, f0, cl, f1, rv]
  · obtain ⟨g2, t1, R2, t2, t3⟩ := s1.2 (by omega)
    obtain ⟨g3, u1, R3, u2, u3⟩ := (R_takesSign (d := d + 3) (c := 47) R2 (by omega) (by omega)).1 z
    refine ⟨g3, ?_, R3, l3.trans (t3.trans u3)⟩
    have e1 : (tS b E p : Int) + 1 - 1 = (tS b E p : Nat) := by omega
    have nn : ((tS b E p : Nat) : Int).toNat = tS b E p := by omega
    have v := R3.1.2.2.1 _ lt
    have v1 := v.1
    rw [← tbv, z] at v1
    rw [z] at l1 ⊢
    rw [show opP 47 = 4 from rfl]
    have cl : (iI ((tS b E p : Nat) : Int)).toNatClampNeg = tS b E p := by rw [iI_nat (by omega) (by omega)]; exact nn
    have f0 : (iI ((tS b E p : Nat) : Int) < iI 0) = False := iL_f (by omega) (by omega) (by omega) (by omega) (by omega)
    have f1 : (1600 ≤ tS b E p) = False := eq_false (by omega)
    have r5 := rdE h5
    have rv := rdE v1
    have rx := rdE u2
    unfold sGO
    rw [U_X12_qGoesOn_0]
    (try simp only [iI_lit, iI_neg]) <;> simp (maxSteps := 1000000) (disch := decide) only [iI_lit, iI_neg, iI_add, ↓reduceIte, i10, i00, i11, eq_self, not_true_eq_false, not_false_eq_true, ite_true, ite_false, if_true, if_false, and_true, true_and, and_false, false_and, and_self, or_self, or_false, false_or, or_true, true_or, iI_eq, iI_lt, iI_le, Int.reduceEq, Int.reduceLT, Int.reduceLE, r5, ↓bI_eq l1, ↓bI_eq t1, ↓bI_eq u1, rx, iI_sub, e1, f0, cl, f1, rv]
set_option maxHeartbeats 8000000 in
theorem R_go_sum (R : RS g b E p gl) (h : tB b E p = 43 ∨ tB b E p = 45) : ∃ g', sGO d g = mm_D (mm_M mm_T0 (d + 5)) cd_X12_qGoesOn 247 [.ref 264, .int (iI (opS (tB b E p)))] [] g' ∧ RS g' b E (tS b E p + 1) false ∧ Kf QTk nL g g' := by
  have h5 := R.2.2.1
  have hE := R.1.2.1
  have lt : tS b E p < E := by
    rcases h with z | z
    · exact tB_in z (by decide)
    · exact tB_in z (by decide)
  have tbv : tB b E p = b (tS b E p) := by
    unfold tB
    rw [if_pos lt]
  obtain ⟨g1, l1, R1, l2, l3⟩ := R_look (d := d + 4) R
  obtain ⟨g2, t1, R2, t2, t3⟩ := (R_takesSign (d := d + 3) (c := 42) R1 (by omega) (by omega)).2 (by omega)
  obtain ⟨g3, u1, R3, u2, u3⟩ := (R_takesSign (d := d + 3) (c := 47) R2 (by omega) (by omega)).2 (by omega)
  have s1 := R_takesSign (d := d + 3) (c := 43) R3 (by omega) (by omega)
  have e1 : (tS b E p : Int) + 1 - 1 = (tS b E p : Nat) := by omega
  have nn : ((tS b E p : Nat) : Int).toNat = tS b E p := by omega
  rcases h with z | z
  · obtain ⟨g4, i1, R4, i2, i3⟩ := s1.1 z
    refine ⟨g4, ?_, R4, l3.trans (t3.trans (u3.trans i3))⟩
    have v := R4.1.2.2.1 _ lt
    have v1 := v.1
    rw [← tbv, z] at v1
    rw [z] at l1 ⊢
    rw [show opS 43 = 1 from rfl]
    have cl : (iI ((tS b E p : Nat) : Int)).toNatClampNeg = tS b E p := by rw [iI_nat (by omega) (by omega)]; exact nn
    have f0 : (iI ((tS b E p : Nat) : Int) < iI 0) = False := iL_f (by omega) (by omega) (by omega) (by omega) (by omega)
    have f1 : (1600 ≤ tS b E p) = False := eq_false (by omega)
    have r5 := rdE h5
    have rv := rdE v1
    have rx := rdE i2
    unfold sGO
    rw [U_X12_qGoesOn_0]
    (try simp only [iI_lit, iI_neg]) <;> simp (maxSteps := 1000000) (disch := decide) only [iI_lit, iI_neg, iI_add, ↓reduceIte, i10, i00, i11, eq_self, not_true_eq_false, not_false_eq_true, ite_true, ite_false, if_true, if_false, and_true, true_and, and_false, false_and, and_self, or_self, or_false, false_or, or_true, true_or, iI_eq, iI_lt, iI_le, Int.reduceEq, Int.reduceLT, Int.reduceLE, r5, ↓bI_eq l1, ↓bI_eq t1, ↓bI_eq u1, ↓bI_eq i1, rx, iI_sub, e1, f0, cl, f1, rv]
  · obtain ⟨g4, i1, R4, i2, i3⟩ := s1.2 (by omega)
    obtain ⟨g5, j1, R5, j2, j3⟩ := (R_takesSign (d := d + 3) (c := 45) R4 (by omega) (by omega)).1 z
    refine ⟨g5, ?_, R5, l3.trans (t3.trans (u3.trans (i3.trans j3)))⟩
    have v := R5.1.2.2.1 _ lt
    have v1 := v.1
    rw [← tbv, z] at v1
    rw [z] at l1 ⊢
    rw [show opS 45 = 2 from rfl]
    have cl : (iI ((tS b E p : Nat) : Int)).toNatClampNeg = tS b E p := by rw [iI_nat (by omega) (by omega)]; exact nn
    have f0 : (iI ((tS b E p : Nat) : Int) < iI 0) = False := iL_f (by omega) (by omega) (by omega) (by omega) (by omega)
    have f1 : (1600 ≤ tS b E p) = False := eq_false (by omega)
    have r5 := rdE h5
    have rv := rdE v1
    have rx := rdE j2
    unfold sGO
    rw [U_X12_qGoesOn_0]
    (try simp only [iI_lit, iI_neg]) <;> simp (maxSteps := 1000000) (disch := decide) only [iI_lit, iI_neg, iI_add, ↓reduceIte, i10, i00, i11, eq_self, not_true_eq_false, not_false_eq_true, ite_true, ite_false, if_true, if_false, and_true, true_and, and_false, false_and, and_self, or_self, or_false, false_or, or_true, true_or, iI_eq, iI_lt, iI_le, Int.reduceEq, Int.reduceLT, Int.reduceLE, r5, ↓bI_eq l1, ↓bI_eq t1, ↓bI_eq u1, ↓bI_eq i1, ↓bI_eq j1, rx, iI_sub, e1, f0, cl, f1, rv]
theorem MO_op {P : List Int} (S : ST g b E p gl w (P ++ T) U C o) (h : tB b E p = 42 ∨ tB b E p = 47) (hP : ∀ y ∈ P, y = 3 ∨ y = 4) (hT : ∀ y, (T ++ U).head? = some y → y ≠ 3 ∧ y ≠ 4) (ho : nOf T ≤ o) : ∃ g', MO d x g = ME d x g' ∧ ST g' b E (tS b E p + 1) false w (opP (tB b E p) :: T) U (C ++ P) o ∧ Kf QQ nL g g' := by
  have l := S.len
  have ge := tS_ge (b := b) (E := E) (p := p)
  have lt : tS b E p < E := by rcases h with z | z <;> exact tB_in z (by decide)
  obtain ⟨g1, m1, R1, k1⟩ := R_go_op (d := d) S.1 h
  have S1 := S.tk R1 k1 (by omega)
  have op : opP (tB b E p) = 3 ∨ opP (tB b E p) = 4 := by
    unfold opP
    rcases h with z | z <;> simp [z]
  have ll : (P ++ T ++ U).length = P.length + (T ++ U).length := by rw [List.append_assoc, List.length_append]
  obtain ⟨g2, n1, Q2, k2⟩ := R_162 (d := d) (op := opP (tB b E p)) (by omega) hT P g1 C hP S1.2.1 (by omega) (by omega)
  have S2 := S1.qw Q2 k2 (by rw [List.cons_append, List.length_cons, List.length_append (as := C)]; omega) (by rw [nOf, if_neg (by omega)]; exact ho)
  refine ⟨g2, ?_, S2, (kTQ k1).trans (kWQ k2)⟩
  unfold MO
  rw [m1, n1, mm_bI_some]
  show (if iI 1 = 0 then sQS d x 0 g2 else sQS d x 1 g2) = _
  rw [if_neg (by decide), R_loop1 S2.1.2.2.1]
theorem MO_sum {P : List Int} (S : ST g b E p gl w (P ++ T) U C o) (h : tB b E p = 43 ∨ tB b E p = 45) (hP : ∀ y ∈ P, y = 1 ∨ y = 2 ∨ y = 3 ∨ y = 4) (hT : ∀ y, (T ++ U).head? = some y → y ≠ 1 ∧ y ≠ 2 ∧ y ≠ 3 ∧ y ≠ 4) (ho : nOf T ≤ o) : ∃ g', MO d x g = ME d x g' ∧ ST g' b E (tS b E p + 1) false w (opS (tB b E p) :: T) U (C ++ P) o ∧ Kf QQ nL g g' := by
  have l := S.len
  have ge := tS_ge (b := b) (E := E) (p := p)
  have lt : tS b E p < E := by rcases h with z | z <;> exact tB_in z (by decide)
  obtain ⟨g1, m1, R1, k1⟩ := R_go_sum (d := d) S.1 h
  have S1 := S.tk R1 k1 (by omega)
  have op : opS (tB b E p) = 1 ∨ opS (tB b E p) = 2 := by
    unfold opS
    rcases h with z | z <;> simp [z]
  have ll : (P ++ T ++ U).length = P.length + (T ++ U).length := by rw [List.append_assoc, List.length_append]
  obtain ⟨g2, n1, Q2, k2⟩ := R_247 (d := d) (op := opS (tB b E p)) (by omega) hT P g1 C hP S1.2.1 (by omega) (by omega)
  have S2 := S1.qw Q2 k2 (by rw [List.cons_append, List.length_cons, List.length_append (as := C)]; omega) (by rw [nOf, if_neg (by omega)]; exact ho)
  refine ⟨g2, ?_, S2, (kTQ k1).trans (kWQ k2)⟩
  unfold MO
  rw [m1, n1, mm_bI_some]
  show (if iI 1 = 0 then sQS d x 0 g2 else sQS d x 1 g2) = _
  rw [if_neg (by decide), R_loop1 S2.1.2.2.1]
end RGO
